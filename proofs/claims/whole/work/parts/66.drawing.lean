/-! a drawing in a row -/
def rdl (v : Nat → Int32) (n : Nat) : Nat → List Nat → Option (List Nat)
  | 0, p => some p
  | m + 1, p => if 0 ≤ (v p.length).toInt ∧ (v p.length).toInt < n ∧ (v p.length).toInt.toNat ∉ p then rdl v n m (p ++ [(v p.length).toInt.toNat]) else none
theorem rdl_Pm {v : Nat → Int32} {n : Nat} (hn : n ≤ 6) : ∀ (m : Nat) (p d : List Nat), p.length + m = n → (∀ y ∈ p, y < n) → p.Nodup → (∀ x, x < p.length → v x = nI (dg p x)) → rdl v n m p = some d → Pm n d ∧ ∀ x, x < n → v x = nI (dg d x) := by
  intro m
  induction m with
  | zero =>
    intro p d hl h1 h2 h3 e
    obtain rfl := Option.some.inj e
    exact ⟨⟨by omega, h1, h2⟩, fun x hx => h3 x (by omega)⟩
  | succ m ih =>
    intro p d hl h1 h2 h3 e
    rw [rdl] at e
    by_cases c : 0 ≤ (v p.length).toInt ∧ (v p.length).toInt < n ∧ (v p.length).toInt.toNat ∉ p
    · rw [if_pos c] at e
      obtain ⟨c1, c2, c3⟩ := c
      obtain ⟨y, hy⟩ : ∃ y, y = (v p.length).toInt.toNat := ⟨_, rfl⟩
      rw [← hy] at e c3
      have hy' : y < n := by omega
      have hv : v p.length = nI y := by
        rw [← Int32.toInt_inj, nI_toInt (by omega)]; omega
      refine ih (p ++ [y]) d (by rw [List.length_append, List.length_singleton]; omega) (mem_snoc h1 hy') ?_ (fun x hx => ?_) e
      · rw [List.nodup_append]
        refine ⟨h2, by simp, fun a ha b hb e => ?_⟩
        rw [List.mem_singleton.mp hb] at e
        rw [e] at ha
        exact c3 ha
      · rw [List.length_append, List.length_singleton] at hx
        by_cases q : x = p.length
        · rw [q, dg_app_r]; exact hv
        · rw [dg_app_l (by omega)]; exact h3 x (by omega)
    · rw [if_neg c] at e; cases e
def DR (o : Of) (w : Wd) (r : Nat) (d : List Nat) : Prop := Pm (oN o) d ∧ gA w 12 0 r = nI (oN o) ∧ gA w 31 0 r = nI (oN o) ∧ (∀ x, x < oN o → gA w 11 r x = nI (dg d x)) ∧ ∀ x, x < oN o → gA w 32 0 (40 * r + x) = nI (dg d x)
def FR (o : Of) (w : Wd) (r f : Nat) : Prop := (f = 1 ∧ gA w 12 0 r = ng 1 ∧ gA w 31 0 r = ng 9) ∨ (∃ s, f = 5 ∧ s ≤ 40 ∧ s ≠ oN o ∧ gA w 12 0 r = nI s ∧ gA w 31 0 r = nI s) ∨ (f = 3 ∧ gA w 12 0 r = nI (oN o) ∧ gA w 31 0 r = nI (oN o) ∧ rdl (gA w 11 r) (oN o) (oN o) [] = none ∧ ∀ x, x < 40 → gA w 11 r x = gA w 32 0 (40 * r + x))
theorem FR_in {o : Of} {w : Wd} {r f : Nat} (h : FR o w r f) : 1 ≤ f ∧ f < 6 := by
  rcases h with ⟨rfl, _⟩ | ⟨_, rfl, _⟩ | ⟨rfl, _⟩ <;> omega
theorem draw_cases {o : Of} {H : List Nat} {w : Wd} {r : Nat} (hW : IW o H w) (hr : r < 6) : (∃ d, DR o w r d) ∨ ∃ f, FR o w r f := by
  obtain ⟨h1, h2, h3, h4, h5, h6, h7, h8, h9⟩ := hW
  have hn := h1.1
  obtain ⟨hs, hc⟩ := h5 r hr
  rcases hs with ⟨s1, s2⟩ | ⟨s, hs, s1, s2⟩
  · exact Or.inr ⟨1, Or.inl ⟨rfl, s1, s2⟩⟩
  · by_cases c : s = oN o
    · subst c
      cases e : rdl (gA w 11 r) (oN o) (oN o) [] with
      | none => exact Or.inr ⟨3, Or.inr (Or.inr ⟨rfl, s1, s2, e, hc⟩)⟩
      | some d =>
        obtain ⟨p1, p2⟩ := rdl_Pm hn (oN o) [] d (by simp) (by simp) (by simp) (fun x hx => by simp at hx) e
        exact Or.inl ⟨d, p1, s1, s2, p2, fun x hx => by rw [← hc x (by omega)]; exact p2 x hx⟩
    · exact Or.inr ⟨5, Or.inr (Or.inl ⟨s, rfl, hs, c, s1, s2⟩)⟩
theorem DR_ag {S : List Nat} {o : Of} {w w' : Wd} {r : Nat} {d : List Nat} (h : DR o w r d) (hr : r < 6) (g : ag S w w') (hs : ∀ k ∈ [12, 31, 32, 11, 1011, 2011, 3011, 4011, 5011], k ∉ S := by decide) : DR o w' r d := by
  have hk : 11 + 1000 * r ∈ [12, 31, 32, 11, 1011, 2011, 3011, 4011, 5011] := by
    rcases (show r = 0 ∨ r = 1 ∨ r = 2 ∨ r = 3 ∨ r = 4 ∨ r = 5 by omega) with rfl | rfl | rfl | rfl | rfl | rfl <;> decide
  unfold DR
  rw [g.2.2 12 0 (hs 12 (by decide)) (by decide), g.2.2 31 0 (hs 31 (by decide)) (by decide), g.2.2 11 r (hs _ hk) (by decide), g.2.2 32 0 (hs 32 (by decide)) (by decide)]
  exact h
theorem FR_ag {S : List Nat} {o : Of} {w w' : Wd} {r f : Nat} (h : FR o w r f) (hr : r < 6) (g : ag S w w') (hs : ∀ k ∈ [12, 31, 32, 11, 1011, 2011, 3011, 4011, 5011], k ∉ S := by decide) : FR o w' r f := by
  have hk : 11 + 1000 * r ∈ [12, 31, 32, 11, 1011, 2011, 3011, 4011, 5011] := by
    rcases (show r = 0 ∨ r = 1 ∨ r = 2 ∨ r = 3 ∨ r = 4 ∨ r = 5 by omega) with rfl | rfl | rfl | rfl | rfl | rfl <;> decide
  unfold FR
  rw [g.2.2 12 0 (hs 12 (by decide)) (by decide), g.2.2 31 0 (hs 31 (by decide)) (by decide), g.2.2 11 r (hs _ hk) (by decide), g.2.2 32 0 (hs 32 (by decide)) (by decide)]
  exact h
theorem e_drawingIn_L {N n r : Nat} {w : Wd} (hn : n ≤ 6) (hr : r < 6) (hm : gI w 4 0 = nI n) : ∀ (m : Nat) (p : List Nat) (F : Nat), p.length + m = n → m < F → (∀ y ∈ p, y < n) → X4_drawingIn_L1 N (nI r) F (nI (cd p)) (nI (mk p)) (nI p.length) w = some (match rdl (gA w 11 r) n m p with | some d => .inr (nI (cd d), w) | none => .inl (ng 3, w)) := by
  intro m
  induction m with
  | zero =>
    intro p F hk hF hp
    obtain ⟨F, rfl, _⟩ := fuel_s hF
    rw [X4_drawingIn_L1, hm, iT (nI_le (by omega) (by omega)), rdl]
  | succ m ih =>
    intro p F hk hF hp
    obtain ⟨F, rfl, hF'⟩ := fuel_s hF
    have hp6 : ∀ y ∈ p, y < 6 := fun y hy => by have := hp y hy; omega
    have hp8 : ∀ y ∈ p, y < 8 := fun y hy => by have := hp y hy; omega
    have hmk := mk_lt hp6
    rw [X4_drawingIn_L1, hm, iF (nI_ge (by omega) (by omega)), gd_in hr (by omega), gd_in (by omega) (by omega), nI_clamp (by omega), nI_clamp (by omega), rdl]
    obtain ⟨a, ha⟩ : ∃ a, a = gA w 11 r p.length := ⟨_, rfl⟩
    rw [← ha]
    rcases cix a (n := n) (by omega) with h | ⟨y, hy, rfl⟩
    · rw [e_isMate_f hn hm h]
      simp only [bs, l0, l1, l2, l3, l4, l5, l6, l7, l8, l9, l10, l12, l15, l30, l31, l32, l40, l42, l48, l57, l60, l64, l98, l99, l100, l109, l110, l112, l115, l265, l1000, l518400, ngd, if_true, if_false, bn0, reduceCtorEq, n10, z1, z3, z0]
      rw [if_neg (by omega)]
    · rw [e_isMate_t hn hm hy]
      simp only [bs, l0, l1, l2, l3, l4, l5, l6, l7, l8, l9, l10, l12, l15, l30, l31, l32, l40, l42, l48, l57, l60, l64, l98, l99, l100, l109, l110, l112, l115, l265, l1000, l518400, ngd, if_true, if_false, bn0, reduceCtorEq, n10, z1, z3, z0]
      rw [nI_toInt (by omega)]
      by_cases c : y ∈ p
      · rw [iF (by rw [bit0c (by omega) (by omega), mk_bit]; simp [c]), if_neg (by simp [c])]
      · have hsh : nI y <<< (nI (3 * p.length) &&& nI 31) = nI (y <<< (3 * p.length)) := nx_shl (by omega) (by
          have h1 : (2 : Nat) ^ (3 * p.length) ≤ 2 ^ 15 := Nat.pow_le_pow_right (by omega) (by omega)
          have h2 : y * 2 ^ (3 * p.length) ≤ 6 * 2 ^ 15 := Nat.mul_le_mul (by omega) h1
          omega)
        have hlen : (p ++ [y]).length = p.length + 1 := by rw [List.length_append, List.length_singleton]
        rw [iT (by rw [bit0c (by omega) (by omega), mk_bit]; simp [c]), pk_mul, hsh, nx_or, cd_or p y hp8, shl1c (by omega), nx_or, ← mk_snoc, nI_add, ← hlen, if_pos ⟨by omega, by omega, by simpa using c⟩]
        exact ih (p ++ [y]) F (by rw [hlen]; omega) (by omega) (mem_snoc hp hy)
theorem e_drawingIn_t {N r : Nat} {o : Of} {w : Wd} {d : List Nat} (hN : 1000 ≤ N) (hf : Wf o) (hr : r < 6) (hm : gI w 4 0 = nI (oN o)) (h : DR o w r d) : f_X4_drawingIn N (nI r) w = some (nI (cd d), w) := by
  have hn := hf.1
  obtain ⟨hd, s1, s2, hc, _⟩ := h
  have hne : ¬ gA w 12 0 r = ng 1 := by rw [s1, nI_ng (by omega) (by omega) (by omega)]; simp
  have e := e_drawingIn_L (N := N) (w := w) hn hr hm (oN o) [] N (by simp) (by omega) (by simp)
  have key : ∀ (m : Nat) (p q : List Nat), p ++ q = d → q.length = m → rdl (gA w 11 r) (oN o) m p = some d := by
    intro m
    induction m with
    | zero => intro p q h1 h2; rw [List.length_eq_zero_iff.mp h2, List.append_nil] at h1; rw [rdl, h1]
    | succ m ih =>
      intro p q h1 h2
      cases q with
      | nil => simp at h2
      | cons y t =>
        have hl : p.length < oN o := by rw [← hd.1, ← h1]; simp
        have hy : dg d p.length = y := by rw [← h1]; unfold dg; simp [List.getD_eq_getElem?_getD]
        have hy' : y < oN o := hd.2.1 y (by rw [← h1]; simp)
        have hv : gA w 11 r p.length = nI y := by rw [hc _ hl, hy]
        have hnd := hd.2.2
        rw [← h1, List.nodup_append] at hnd
        rw [rdl, hv, nI_toInt (by omega), if_pos ⟨by omega, by omega, by
          intro hm; exact hnd.2.2 y (by simpa using hm) y List.mem_cons_self rfl⟩]
        exact ih (p ++ [y]) t (by rw [← h1]; simp) (by simpa using h2)
  have e0 := key (oN o) [] d (by simp) hd.1
  rw [e0] at e
  unfold f_X4_drawingIn
  rw [e_isMissing hr]
  simp only [bs, l0, l1, l2, l3, l4, l5, l6, l7, l8, l9, l10, l12, l15, l30, l31, l32, l40, l42, l48, l57, l60, l64, l98, l99, l100, l109, l110, l112, l115, l265, l1000, l518400, ngd, if_true, if_false, bn0, reduceCtorEq, n10, z1, z3, z0]
  rw [iT (by simp [hne]), gd_in hr (by omega), nI_clamp (by omega), s1, hm, iT rfl]
  rw [show nI 0 = nI (cd []) from rfl] at *
  have e' : X4_drawingIn_L1 N (nI r) N (nI (cd [])) (nI (cd [])) (nI (cd [])) w = some (.inr (nI (cd d), w)) := e
  rw [e']
  rfl
theorem e_drawingIn_f {N r f : Nat} {o : Of} {w : Wd} (hN : 1000 ≤ N) (hf : Wf o) (hr : r < 6) (hm : gI w 4 0 = nI (oN o)) (h : FR o w r f) : f_X4_drawingIn N (nI r) w = some (ng f, w) := by
  have hn := hf.1
  unfold f_X4_drawingIn
  rw [e_isMissing hr]
  simp only [bs, l0, l1, l2, l3, l4, l5, l6, l7, l8, l9, l10, l12, l15, l30, l31, l32, l40, l42, l48, l57, l60, l64, l98, l99, l100, l109, l110, l112, l115, l265, l1000, l518400, ngd, if_true, if_false, bn0, reduceCtorEq, n10, z1, z3, z0]
  rcases h with ⟨rfl, s1, s2⟩ | ⟨s, rfl, hs, hne, s1, s2⟩ | ⟨rfl, s1, s2, hv, hc⟩
  · rw [iF (by simp [s1])]
  · have hne1 : ¬ gA w 12 0 r = ng 1 := by rw [s1, nI_ng (by omega) (by omega) (by omega)]; simp
    rw [iT (by simp [hne1]), gd_in hr (by omega), nI_clamp (by omega), s1, hm, iF (fun q => hne ((nI_eq (by omega) (by omega)).mp q))]
  · have hne1 : ¬ gA w 12 0 r = ng 1 := by rw [s1, nI_ng (by omega) (by omega) (by omega)]; simp
    have e := e_drawingIn_L (N := N) (w := w) hn hr hm (oN o) [] N (by simp) (by omega) (by simp)
    rw [hv] at e
    have e' : X4_drawingIn_L1 N (nI r) N (nI 0) (nI 0) (nI 0) w = some (.inl (ng 3, w)) := e
    rw [iT (by simp [hne1]), gd_in hr (by omega), nI_clamp (by omega), s1, hm, iT rfl, e']
    rfl
theorem e_asked_L {N n r : Nat} (hn : n ≤ 6) (hr : r < 6) : ∀ (m : Nat) (p : List Nat) (F : Nat) (w : Wd) (v : Nat → Int32), gI w 510 0 = nI n → (∀ x, x < 40 → v x = gA w 32 0 (40 * r + x)) → p.length + m = n → m < F → (∀ y ∈ p, y < n) → (∀ x, x < p.length → gA w 40 0 x = nI (dg p x)) → ∃ w', ag [40] w w' ∧ (rdl v n m p = none → X5_askedDrawing_L1 N (nI r) F (nI (mk p)) (nI p.length) w = some (.inl (ng 3, mref 3 w'))) ∧ ∀ d, rdl v n m p = some d → X5_askedDrawing_L1 N (nI r) F (nI (mk p)) (nI p.length) w = some (.inr w') ∧ One n d w' := by
  intro m
  induction m with
  | zero =>
    intro p F w v hm hv hk hF hp hO
    obtain ⟨F, rfl, _⟩ := fuel_s hF
    refine ⟨w, ag.rf _ _, (fun e => by cases e), fun d e => ?_⟩
    obtain rfl := Option.some.inj e
    rw [X5_askedDrawing_L1, hm, iT (nI_le (by omega) (by omega))]
    exact ⟨rfl, fun x hx => hO x (by omega)⟩
  | succ m ih =>
    intro p F w v hm hv hk hF hp hO
    obtain ⟨F, rfl, hF'⟩ := fuel_s hF
    have hp6 : ∀ y ∈ p, y < 6 := fun y hy => by have := hp y hy; omega
    have hmk := mk_lt hp6
    rw [X5_askedDrawing_L1, hm, iF (nI_ge (by omega) (by omega)), e_rowAt hr (by omega), rdl, ← hv _ (by omega)]
    obtain ⟨a, ha⟩ : ∃ a, a = v p.length := ⟨_, rfl⟩
    rw [← ha]
    simp only [bs, l0, l1, l2, l3, l4, l5, l6, l7, l8, l9, l10, l12, l15, l30, l31, l32, l40, l42, l48, l57, l60, l64, l98, l99, l100, l109, l110, l112, l115, l265, l1000, l518400, ngd]
    rcases cix a (n := n) (by omega) with h | ⟨y, hy, rfl⟩
    · rw [if_neg (by omega), e_misMate_f hn hm h]
      simp only [bs, l0, l1, l2, l3, l4, l5, l6, l7, l8, l9, l10, l12, l15, l30, l31, l32, l40, l42, l48, l57, l60, l64, l98, l99, l100, l109, l110, l112, l115, l265, l1000, l518400, ngd, if_true, if_false, bn0, reduceCtorEq, n10, z1, z3, z0]
      rw [e_meet (by omega)]
      simp only [bs, l0, l1, l2, l3, l4, l5, l6, l7, l8, l9, l10, l12, l15, l30, l31, l32, l40, l42, l48, l57, l60, l64, l98, l99, l100, l109, l110, l112, l115, l265, l1000, l518400, ngd, if_true, if_false, bn0, reduceCtorEq, n10, z1, z3, z0]
      exact ⟨w, ag.rf _ _, by simp, fun d e => by cases e⟩
    · rw [e_misMate_t hn hm hy, nI_toInt (by omega)]
      simp only [bs, l0, l1, l2, l3, l4, l5, l6, l7, l8, l9, l10, l12, l15, l30, l31, l32, l40, l42, l48, l57, l60, l64, l98, l99, l100, l109, l110, l112, l115, l265, l1000, l518400, ngd, if_true, if_false, bn0, reduceCtorEq, n10, z1, z3, z0]
      rw [e_has (by omega) (by omega), mk_bit]
      simp only [bs, l0, l1, l2, l3, l4, l5, l6, l7, l8, l9, l10, l12, l15, l30, l31, l32, l40, l42, l48, l57, l60, l64, l98, l99, l100, l109, l110, l112, l115, l265, l1000, l518400, ngd, if_true, if_false, bn0, reduceCtorEq, n10, z1, z3, z0]
      by_cases c : y ∈ p
      · rw [if_neg (by simp [c]), iF (by simp [c]), e_meet (by omega)]
        simp only [bs, l0, l1, l2, l3, l4, l5, l6, l7, l8, l9, l10, l12, l15, l30, l31, l32, l40, l42, l48, l57, l60, l64, l98, l99, l100, l109, l110, l112, l115, l265, l1000, l518400, ngd, if_true, if_false, bn0, reduceCtorEq, n10, z1, z3, z0]
        exact ⟨w, ag.rf _ _, by simp, fun d e => by cases e⟩
      · have hlen : (p ++ [y]).length = p.length + 1 := by rw [List.length_append, List.length_singleton]
        rw [if_pos ⟨by omega, by omega, by simpa using c⟩, iT (by simp [c]), gd_in (by omega) (by omega), nI_clamp (by omega), shl1c (by omega), nx_or, ← mk_snoc, nI_add, ← hlen]
        obtain ⟨w', a1, a2, a3⟩ := ih (p ++ [y]) F (sA w 40 0 (upd (gA w 40 0) p.length (nI y))) v hm (fun x hx => by rw [hv x hx]; rfl) (by rw [hlen]; omega) (by omega) (mem_snoc hp hy) (fun x hx => by
          rw [hlen] at hx
          rw [gA_sA, if_pos ⟨rfl, rfl⟩]
          by_cases q : x = p.length
          · rw [q, pk_us, dg_app_r]
          · rw [pk_un q, dg_app_l (by omega)]; exact hO x (by omega))
        exact ⟨w', ((ag.rf _ w).sA (by simp)).tr a1, a2, a3⟩
theorem e_asked_t {N r : Nat} {o : Of} {w : Wd} {d : List Nat} (hN : 1000 ≤ N) (hf : Wf o) (hr : r < 6) (hm : gI w 510 0 = nI (oN o)) (h : DR o w r d) (hv : ∀ x, x < 40 → gA w 11 r x = gA w 32 0 (40 * r + x)) : ∃ w', f_X5_askedDrawing N (nI r) w = some (nI 0, w') ∧ ag [40] w w' ∧ One (oN o) d w' := by
  have hn := hf.1
  obtain ⟨hd, s1, s2, hc, hc2⟩ := h
  obtain ⟨w', a1, a2, a3⟩ := e_asked_L (N := N) (r := r) hn hr (oN o) [] N w (gA w 11 r) hm hv (by simp) (by omega) (by simp) (fun x hx => by simp at hx)
  have key : ∀ (m : Nat) (p q : List Nat), p ++ q = d → q.length = m → rdl (gA w 11 r) (oN o) m p = some d := by
    intro m
    induction m with
    | zero => intro p q h1 h2; rw [List.length_eq_zero_iff.mp h2, List.append_nil] at h1; rw [rdl, h1]
    | succ m ih =>
      intro p q h1 h2
      cases q with
      | nil => simp at h2
      | cons y t =>
        have hl : p.length < oN o := by rw [← hd.1, ← h1]; simp
        have hy : dg d p.length = y := by rw [← h1]; unfold dg; simp [List.getD_eq_getElem?_getD]
        have hy' : y < oN o := hd.2.1 y (by rw [← h1]; simp)
        have hv : gA w 11 r p.length = nI y := by rw [hc _ hl, hy]
        have hnd := hd.2.2
        rw [← h1, List.nodup_append] at hnd
        rw [rdl, hv, nI_toInt (by omega), if_pos ⟨by omega, by omega, by
          intro hm; exact hnd.2.2 y (by simpa using hm) y List.mem_cons_self rfl⟩]
        exact ih (p ++ [y]) t (by rw [← h1]; simp) (by simpa using h2)
  obtain ⟨b1, b2⟩ := a3 d (key (oN o) [] d (by simp) hd.1)
  have b1' : X5_askedDrawing_L1 N (nI r) N (nI 0) (nI 0) w = some (.inr w') := b1
  refine ⟨w', ?_, a1, b2⟩
  unfold f_X5_askedDrawing
  rw [e_askedRow_t hr (n := oN o) (by omega) s2]
  simp only [bs, l0, l1, l2, l3, l4, l5, l6, l7, l8, l9, l10, l12, l15, l30, l31, l32, l40, l42, l48, l57, l60, l64, l98, l99, l100, l109, l110, l112, l115, l265, l1000, l518400, ngd, if_true, if_false, bn0, reduceCtorEq, n10, z1, z3, z0]
  rw [gd_in hr (by omega), nI_clamp (by omega), s2, hm, iT rfl, b1']
  rfl
theorem e_asked_f {N r f : Nat} {o : Of} {w : Wd} (hN : 1000 ≤ N) (hf : Wf o) (hr : r < 6) (hm : gI w 510 0 = nI (oN o)) (h : FR o w r f) : ∃ w', f_X5_askedDrawing N (nI r) w = some (ng 3, mref f w') ∧ ag [40] w w' := by
  have hn := hf.1
  unfold f_X5_askedDrawing
  rcases h with ⟨rfl, s1, s2⟩ | ⟨s, rfl, hs, hne, s1, s2⟩ | ⟨rfl, s1, s2, hv, hc⟩
  · rw [e_askedRow_m hr s2]
    simp only [bs, l0, l1, l2, l3, l4, l5, l6, l7, l8, l9, l10, l12, l15, l30, l31, l32, l40, l42, l48, l57, l60, l64, l98, l99, l100, l109, l110, l112, l115, l265, l1000, l518400, ngd, if_true, if_false, bn0, reduceCtorEq, n10, z1, z3, z0]
    exact ⟨w, rfl, ag.rf _ _⟩
  · rw [e_askedRow_t hr (n := s) (by omega) s2]
    simp only [bs, l0, l1, l2, l3, l4, l5, l6, l7, l8, l9, l10, l12, l15, l30, l31, l32, l40, l42, l48, l57, l60, l64, l98, l99, l100, l109, l110, l112, l115, l265, l1000, l518400, ngd, if_true, if_false, bn0, reduceCtorEq, n10, z1, z3, z0]
    rw [gd_in hr (by omega), nI_clamp (by omega), s2, hm, iF (fun q => hne ((nI_eq (by omega) (by omega)).mp q)), e_meet (by omega)]
    simp only [bs, l0, l1, l2, l3, l4, l5, l6, l7, l8, l9, l10, l12, l15, l30, l31, l32, l40, l42, l48, l57, l60, l64, l98, l99, l100, l109, l110, l112, l115, l265, l1000, l518400, ngd, if_true, if_false, bn0, reduceCtorEq, n10, z1, z3, z0]
    exact ⟨w, rfl, ag.rf _ _⟩
  · obtain ⟨w', a1, a2, a3⟩ := e_asked_L (N := N) (r := r) hn hr (oN o) [] N w (gA w 11 r) hm hc (by simp) (by omega) (by simp) (fun x hx => by simp at hx)
    have b1' : X5_askedDrawing_L1 N (nI r) N (nI 0) (nI 0) w = some (.inl (ng 3, mref 3 w')) := a2 hv
    rw [e_askedRow_t hr (n := oN o) (by omega) s2]
    simp only [bs, l0, l1, l2, l3, l4, l5, l6, l7, l8, l9, l10, l12, l15, l30, l31, l32, l40, l42, l48, l57, l60, l64, l98, l99, l100, l109, l110, l112, l115, l265, l1000, l518400, ngd, if_true, if_false, bn0, reduceCtorEq, n10, z1, z3, z0]
    rw [gd_in hr (by omega), nI_clamp (by omega), s2, hm, iT rfl, b1']
    exact ⟨w', rfl, a1⟩
/-! judge -/
theorem e_against {N i x : Nat} {o : Of} {d : List Nat} {w : Wd} (h : RO i o w) (hf : Wf o) (hd : Pm (oN o) d) (hx : x < oN o) : f_X0_against N i (nI x) (nI (cd d)) w = some (nI (agn o d x), w) := by
  have hn := hf.1
  have hcd := Pm_cd hd hn
  have hy := Pm_dg hd hx
  have hz := Pm_dg hd hy
  have hb := bar_le o x (dg d x)
  unfold f_X0_against agn
  rw [e_paper (by omega) (by omega), Pm_pp hd hn]
  simp only [bs, l0, l1, l2, l3, l4, l5, l6, l7, l8, l9, l10, l12, l15, l30, l31, l32, l40, l42, l48, l57, l60, l64, l98, l99, l100, l109, l110, l112, l115, l265, l1000, l518400, ngd]
  rw [e_barrier h hf hx hy]
  simp only [bs, l0, l1, l2, l3, l4, l5, l6, l7, l8, l9, l10, l12, l15, l30, l31, l32, l40, l42, l48, l57, l60, l64, l98, l99, l100, l109, l110, l112, l115, l265, l1000, l518400, ngd]
  by_cases c1 : bar o x (dg d x) = 0
  · rw [iT (by rw [c1]), e_paper (by omega) (by omega), Pm_pp hd hn, if_pos c1]
    simp only [bs, l0, l1, l2, l3, l4, l5, l6, l7, l8, l9, l10, l12, l15, l30, l31, l32, l40, l42, l48, l57, l60, l64, l98, l99, l100, l109, l110, l112, l115, l265, l1000, l518400, ngd]
    by_cases c2 : dg d (dg d x) = x
    · rw [iT (by rw [c2]), e_minds h hf hx hy]
      simp only [bs, l0, l1, l2, l3, l4, l5, l6, l7, l8, l9, l10, l12, l15, l30, l31, l32, l40, l42, l48, l57, l60, l64, l98, l99, l100, l109, l110, l112, l115, l265, l1000, l518400, ngd]
      cases c3 : mnd o x (dg d x) with
      | false => rw [iT bnFc, c1]; simp
      | true => rw [iF bnTc]; simp [c2]
    · rw [iF (fun q => c2 ((nI_eq (by omega) (by omega)).mp q)), c1]; simp [c2]
  · rw [iF (fun q => c1 ((nI_eq (by omega) (by omega)).mp q)), if_neg c1]
theorem e_judge_L {N : Nat} {o : Of} {d : List Nat} {w : Wd} (h : RO 0 o w) (hf : Wf o) (hd : Pm (oN o) d) : ∀ (m k F : Nat), k + m = oN o → m < F → X4_judge_L1 N (nI (cd d)) F (nI k) w = some (match fb o d m k with | some j => .inl (nI j, sI w 412 0 (nI (agn o d j))) | none => .inr w) := by
  have hn := hf.1
  intro m
  induction m with
  | zero =>
    intro k F hk hF
    obtain ⟨F, rfl, _⟩ := fuel_s hF
    rw [X4_judge_L1, h.1, iT (nI_le (by omega) (by omega)), fb]
  | succ m ih =>
    intro k F hk hF
    obtain ⟨F, rfl, hF'⟩ := fuel_s hF
    have ha := agn_lt o d k
    rw [X4_judge_L1, h.1, iF (nI_ge (by omega) (by omega)), e_against h hf hd (by omega), fb]
    simp only [bs, l0, l1, l2, l3, l4, l5, l6, l7, l8, l9, l10, l12, l15, l30, l31, l32, l40, l42, l48, l57, l60, l64, l98, l99, l100, l109, l110, l112, l115, l265, l1000, l518400, ngd]
    by_cases c : agn o d k = 0
    · rw [iT (by rw [c]), nI_add, ih (k + 1) F (by omega) (by omega), if_pos c]
    · rw [iF (fun q => c ((nI_eq (by omega) (by omega)).mp q)), if_neg c]
theorem bb_lt (o : Of) (d : List Nat) : bb o d < 100 := by
  unfold bb
  cases fb o d (oN o) 0 with
  | some j => have := agn_lt o d j; dsimp only; omega
  | none => dsimp only; split <;> omega
theorem ok_judge {N : Nat} (hN : 1000 ≤ N) : Ok_judge N Inv := fun a1 w hI => by
  obtain ⟨o, H, hW, hT⟩ := hI
  obtain ⟨h1, h2, h3, h4, h5, h6, h7, h8, h9⟩ := id hW
  have hn := h1.1
  rcases cix a1 (n := 6) (by omega) with h | ⟨r, hr, rfl⟩
  · refine ⟨ng 1, w, w, ?_, ?_, o, H, hW, hT⟩
    · unfold f_X4_judge; rw [e_isRow_f h]; simp only [bs, l0, l1, l2, l3, l4, l5, l6, l7, l8, l9, l10, l12, l15, l30, l31, l32, l40, l42, l48, l57, l60, l64, l98, l99, l100, l109, l110, l112, l115, l265, l1000, l518400, ngd, if_true, if_false, bn0, reduceCtorEq, n10, z1, z3, z0]
    · unfold f_X5_judge f_X5_askedDrawing; rw [e_askedRow_f h]; simp only [bs, l0, l1, l2, l3, l4, l5, l6, l7, l8, l9, l10, l12, l15, l30, l31, l32, l40, l42, l48, l57, l60, l64, l98, l99, l100, l109, l110, l112, l115, l265, l1000, l518400, ngd, if_true, if_false, bn0, reduceCtorEq, n10, z1, z3, z0]
  rcases draw_cases hW hr with ⟨d, hd⟩ | ⟨f, hf⟩
  · obtain ⟨v, hv⟩ : ∃ v, v = nI (bb o d) := ⟨_, rfl⟩
    obtain ⟨a, ha⟩ : ∃ a, a = (if bb o d = 0 then nI (oN o) else nI (bm o d)) := ⟨_, rfl⟩
    have g1 : ag [412] w (sI w 412 0 v) := (ag.rf _ w).sI (by simp)
    have hc1 := hd.1
    obtain ⟨w2, e2, b1, b2⟩ := e_asked_t (N := N) hN h1 hr (RM_ag h4 g1).1 (DR_ag hd hr g1) (h5 r hr).2
    obtain ⟨w3, e3, c1, c2⟩ := e_badBy (N := N) hN h1 hc1 (RM_ag (RM_ag h4 g1) b1) b2
    refine ⟨a, sI w 412 0 v, sI w3 502 0 v, ?_, ?_, Inv_ask hW hT ((b1.mono (by decide)).tr (c1.mono (by decide)) : ag [40, 520] _ w3)⟩
    · have hcd := Pm_cd hc1 hn
      unfold f_X4_judge; rw [e_isRow_t hr]; simp only [bs, l0, l1, l2, l3, l4, l5, l6, l7, l8, l9, l10, l12, l15, l30, l31, l32, l40, l42, l48, l57, l60, l64, l98, l99, l100, l109, l110, l112, l115, l265, l1000, l518400, ngd, if_true, if_false, bn0, reduceCtorEq, n10, z1, z3, z0]; rw [e_drawingIn_t hN h1 hr h3.1 hd]; simp only [bs, l0, l1, l2, l3, l4, l5, l6, l7, l8, l9, l10, l12, l15, l30, l31, l32, l40, l42, l48, l57, l60, l64, l98, l99, l100, l109, l110, l112, l115, l265, l1000, l518400, ngd, if_true, if_false, bn0, reduceCtorEq, n10, z1, z3, z0]; rw [iT (nI_le (by omega) (by omega)), e_judge_L h3 h1 hc1 (oN o) 0 N (by omega) (by omega), ha, hv]
      unfold bb bm
      cases e : fb o d (oN o) 0 with
      | some j =>
        have hj := (fb_some _ _ _ e).2.2
        simp only [bs, l0, l1, l2, l3, l4, l5, l6, l7, l8, l9, l10, l12, l15, l30, l31, l32, l40, l42, l48, l57, l60, l64, l98, l99, l100, l109, l110, l112, l115, l265, l1000, l518400, ngd]
        simp [hj]
      | none =>
        simp only [bs, Sum.elim_inr]
        rw [e_breaksRing hN h3 h1 hc1]
        simp only [bs, l0, l1, l2, l3, l4, l5, l6, l7, l8, l9, l10, l12, l15, l30, l31, l32, l40, l42, l48, l57, l60, l64, l98, l99, l100, l109, l110, l112, l115, l265, l1000, l518400, ngd]
        cases e2 : rgb o d with
        | false =>
          rw [iT bnFc, show gI (sI w 412 0 (nI 0)) 4 0 = nI (oN o) from h3.1]; simp
        | true => rw [iF bnTc]; simp
    · have hb := bb_lt o d
      unfold f_X5_judge; rw [e2]; simp only [bs, l0, l1, l2, l3, l4, l5, l6, l7, l8, l9, l10, l12, l15, l30, l31, l32, l40, l42, l48, l57, l60, l64, l98, l99, l100, l109, l110, l112, l115, l265, l1000, l518400, ngd, if_true, if_false, bn0, reduceCtorEq, n10, z1, z3, z0]; rw [e3]; simp only [bs, l0, l1, l2, l3, l4, l5, l6, l7, l8, l9, l10, l12, l15, l30, l31, l32, l40, l42, l48, l57, l60, l64, l98, l99, l100, l109, l110, l112, l115, l265, l1000, l518400, ngd]; rw [e_ask, e_ask, ha, hv]
      by_cases q : bb o d = 0
      · rw [iT (by rw [q]), if_pos q]
        simp only [bs, l0, l1, l2, l3, l4, l5, l6, l7, l8, l9, l10, l12, l15, l30, l31, l32, l40, l42, l48, l57, l60, l64, l98, l99, l100, l109, l110, l112, l115, l265, l1000, l518400, ngd]
        rw [agI c1 510 0, agI b1 510 0, show gI (sI w 412 0 v) 510 0 = nI (oN o) from h4.1]
      · rw [iF (fun z => q ((nI_eq (by omega) (by omega)).mp z)), if_neg q]
        simp only [bs, l0, l1, l2, l3, l4, l5, l6, l7, l8, l9, l10, l12, l15, l30, l31, l32, l40, l42, l48, l57, l60, l64, l98, l99, l100, l109, l110, l112, l115, l265, l1000, l518400, ngd]
        rw [c2]
  · obtain ⟨f1, f2⟩ := FR_in hf
    obtain ⟨w2, e2, b1⟩ := e_asked_f (N := N) hN h1 hr (RM_ag h4 (cref_ag f w)).1 (FR_ag hf hr (cref_ag f w))
    refine ⟨ng 3, cref f w, mref f w2, ?_, ?_, Inv_ref hW hT b1⟩
    · unfold f_X4_judge; rw [e_isRow_t hr]; simp only [bs, l0, l1, l2, l3, l4, l5, l6, l7, l8, l9, l10, l12, l15, l30, l31, l32, l40, l42, l48, l57, l60, l64, l98, l99, l100, l109, l110, l112, l115, l265, l1000, l518400, ngd, if_true, if_false, bn0, reduceCtorEq, n10, z1, z3, z0]; rw [e_drawingIn_f hN h1 hr h3.1 hf]; simp only [bs, l0, l1, l2, l3, l4, l5, l6, l7, l8, l9, l10, l12, l15, l30, l31, l32, l40, l42, l48, l57, l60, l64, l98, l99, l100, l109, l110, l112, l115, l265, l1000, l518400, ngd, if_true, if_false, bn0, reduceCtorEq, n10, z1, z3, z0]; rw [iF (by rw [ng_nn (by omega) (by omega) (by omega)]; simp), ng_neg, e_refuse f2]; simp only [bs, l0, l1, l2, l3, l4, l5, l6, l7, l8, l9, l10, l12, l15, l30, l31, l32, l40, l42, l48, l57, l60, l64, l98, l99, l100, l109, l110, l112, l115, l265, l1000, l518400, ngd, if_true, if_false, bn0, reduceCtorEq, n10, z1, z3, z0]
    · unfold f_X5_judge; rw [e2]; simp only [bs, l0, l1, l2, l3, l4, l5, l6, l7, l8, l9, l10, l12, l15, l30, l31, l32, l40, l42, l48, l57, l60, l64, l98, l99, l100, l109, l110, l112, l115, l265, l1000, l518400, ngd, if_true, if_false, bn0, reduceCtorEq, n10, z1, z3, z0]
