/-! sets built bit by bit -/
def opl (f : Nat → Bool) : Nat → Nat → Nat → Nat
  | 0, _, s => s
  | m + 1, k, s => opl f m (k + 1) (if f k = true then s ||| 1 <<< k else s)
theorem opl_bit (f : Nat → Bool) (j : Nat) : ∀ (m k s : Nat), (opl f m k s).testBit j = (s.testBit j || decide (k ≤ j ∧ j < k + m ∧ f j = true)) := by
  intro m
  induction m with
  | zero => intro k s; have : ¬ (k ≤ j ∧ j < k + 0 ∧ f j = true) := by omega
            rw [opl, decide_eq_false this, Bool.or_false]
  | succ m ih =>
    intro k s
    rw [opl, ih]
    by_cases e : j = k
    · subst e
      have h1 : ¬ (j + 1 ≤ j ∧ j < j + 1 + m ∧ f j = true) := by omega
      by_cases c : f j = true
      · have h2 : (j ≤ j ∧ j < j + (m + 1) ∧ f j = true) := ⟨by omega, by omega, c⟩
        rw [if_pos c, Nat.testBit_or, shl_bit, decide_eq_true h2, decide_eq_true (rfl : j = j)]; simp
      · have h2 : ¬ (j ≤ j ∧ j < j + (m + 1) ∧ f j = true) := fun q => c q.2.2
        rw [if_neg c, decide_eq_false h1, decide_eq_false h2]
    · have h3 : (k + 1 ≤ j ∧ j < k + 1 + m ∧ f j = true) ↔ (k ≤ j ∧ j < k + (m + 1) ∧ f j = true) := by
        constructor
        · rintro ⟨a, b, c⟩; exact ⟨by omega, by omega, c⟩
        · rintro ⟨a, b, c⟩; exact ⟨by omega, by omega, c⟩
      have h4 : (if f k = true then s ||| 1 <<< k else s).testBit j = s.testBit j := by
        split
        · rw [Nat.testBit_or, shl_bit, decide_eq_false (fun q => e q.symm)]; simp
        · rfl
      rw [h4, decide_eq_decide.mpr h3]
theorem opl_lt (f : Nat → Bool) : ∀ (m k s : Nat), k + m ≤ 6 → s < 64 → opl f m k s < 64 := by
  intro m
  induction m with
  | zero => intro k s _ h; exact h
  | succ m ih =>
    intro k s hk h
    rw [opl]
    refine ih _ _ (by omega) ?_
    split
    · exact or_lt64 h (shl_lt64 (by omega))
    · exact h
def opn (o : Of) (x : Nat) : Nat := opl (fun y => decide (bar o x y = 0)) (oN o) 0 0
theorem opn_lt {o : Of} (hf : Wf o) (x : Nat) : opn o x < 64 := opl_lt _ _ _ _ (by have := hf.1; omega) (by omega)
theorem opn_bit {o : Of} (x y : Nat) : (opn o x).testBit y = decide (y < oN o ∧ bar o x y = 0) := by
  unfold opn; rw [opl_bit]; simp
theorem e_open_L {N i x : Nat} {o : Of} {w : Wd} (h : RO i o w) (hf : Wf o) (hx : x < oN o) : ∀ (m k s F : Nat), k + m = oN o → m < F → X0_open_L1 N i (nI x) F (nI s) (nI k) w = some (nI (opl (fun y => decide (bar o x y = 0)) m k s), w) := by
  have hn := hf.1
  intro m
  induction m with
  | zero =>
    intro k s F hk hF
    obtain ⟨F, rfl, _⟩ := fuel_s hF
    rw [X0_open_L1, h.1, iT (nI_le (by omega) (by omega)), opl]
  | succ m ih =>
    intro k s F hk hF
    obtain ⟨F, rfl, hF'⟩ := fuel_s hF
    have hb := bar_le o x k
    rw [X0_open_L1, h.1, iF (nI_ge (by omega) (by omega)), e_barrier h hf hx (by omega), opl]
    simp only [bs, l0, l1, l2, l3, l4, l5, l6, l7, l8, l9, l10, l12, l15, l30, l31, l32, l40, l42, l48, l57, l60, l64, l98, l99, l100, l109, l110, l112, l115, l265, l1000, l518400, ngd]
    by_cases c : bar o x k = 0
    · rw [iT (by rw [c]), shl1c (by omega), nx_or, nI_add, ih (k + 1) _ F (by omega) (by omega)]
      simp [c]
    · rw [iF (fun q => c ((nI_eq (by omega) (by omega)).mp q)), nI_add, ih (k + 1) _ F (by omega) (by omega)]
      simp [c]
theorem e_open {N i x : Nat} {o : Of} {w : Wd} (hN : 1000 ≤ N) (h : RO i o w) (hf : Wf o) (hx : x < oN o) : f_X0_open N i (nI x) w = some (nI (opn o x), w) := by
  have hn := hf.1
  unfold f_X0_open
  simp only [bs, l0, l1, l2, l3, l4, l5, l6, l7, l8, l9, l10, l12, l15, l30, l31, l32, l40, l42, l48, l57, l60, l64, l98, l99, l100, l109, l110, l112, l115, l265, l1000, l518400, ngd]
  rw [e_open_L h hf hx (oN o) 0 0 N (by omega) (by omega)]
  rfl
theorem e_mayOf_L {N x : Nat} {o : Of} {w : Wd} (h : RM o w) (hf : Wf o) (hx : x < oN o) : ∀ (m k s F : Nat), k + m = oN o → m < F → X5_mayOf_L1 N (nI x) F (nI s) (nI k) w = some (nI (opl (fun y => decide (bar o x y = 0)) m k s), w) := by
  have hn := hf.1
  intro m
  induction m with
  | zero =>
    intro k s F hk hF
    obtain ⟨F, rfl, _⟩ := fuel_s hF
    rw [X5_mayOf_L1, h.1, iT (nI_le (by omega) (by omega)), opl]
  | succ m ih =>
    intro k s F hk hF
    obtain ⟨F, rfl, hF'⟩ := fuel_s hF
    have hb := bar_le o x k
    rw [X5_mayOf_L1, h.1, iF (nI_ge (by omega) (by omega)), e_barOf h hf hx (by omega), opl]
    simp only [bs, l0, l1, l2, l3, l4, l5, l6, l7, l8, l9, l10, l12, l15, l30, l31, l32, l40, l42, l48, l57, l60, l64, l98, l99, l100, l109, l110, l112, l115, l265, l1000, l518400, ngd]
    by_cases c : bar o x k = 0
    · rw [iT (by rw [c]), shl1c (by omega), nx_or, nI_add, ih (k + 1) _ F (by omega) (by omega)]
      simp [c]
    · rw [iF (fun q => c ((nI_eq (by omega) (by omega)).mp q)), nx_or, Nat.or_zero, nI_add, ih (k + 1) _ F (by omega) (by omega)]
      simp [c]
theorem e_mayOf {N x : Nat} {o : Of} {w : Wd} (hN : 1000 ≤ N) (h : RM o w) (hf : Wf o) (hx : x < oN o) : f_X5_mayOf N (nI x) w = some (nI (opn o x), w) := by
  have hn := hf.1
  unfold f_X5_mayOf
  simp only [bs, l0, l1, l2, l3, l4, l5, l6, l7, l8, l9, l10, l12, l15, l30, l31, l32, l40, l42, l48, l57, l60, l64, l98, l99, l100, l109, l110, l112, l115, l265, l1000, l518400, ngd]
  rw [e_mayOf_L h hf hx (oN o) 0 0 N (by omega) (by omega)]
  rfl
/-! what the class asks of a drawing -/
theorem drop_dr {L : List (List Nat)} {k : Nat} (h : k < L.length) : L.drop k = dr L k :: L.drop (k + 1) := by
  rw [List.drop_eq_getElem_cons h]
  unfold dr
  rw [List.getD_eq_getElem?_getD, List.getElem?_eq_getElem h]; rfl
theorem e_hadYear_L {N i : Nat} {o : Of} {d : List Nat} {w : Wd} (h : RO i o w) (hf : Wf o) (hd : Pm (oN o) d) : ∀ (m k F : Nat), k + m = oC o → m < F → X0_hadYear_L1 N i (nI (cd d)) F (nI k) w = some (if d ∈ (oY o).drop k then .inl (nI 1, w) else .inr w) := by
  have hn := hf.1
  have hc := hf.2.2.2.1
  have hcd := Pm_cd hd hn
  intro m
  induction m with
  | zero =>
    intro k F hk hF
    obtain ⟨F, rfl, _⟩ := fuel_s hF
    rw [X0_hadYear_L1, h.2.1, iT (nI_le (by omega) (by omega))]
    rw [if_neg]
    rw [List.drop_of_length_le (by unfold oC at hk; omega)]; simp
  | succ m ih =>
    intro k F hk hF
    obtain ⟨F, rfl, hF'⟩ := fuel_s hF
    have hk' : k < oC o := by omega
    have hy := Wf_yr hf hk'
    have hyd := Pm_cd hy hn
    rw [X0_hadYear_L1, h.2.1, iF (nI_ge (by omega) (by omega)), gd_in (by omega) (by omega), nI_clamp (by omega), h.2.2.2.2 k hk']
    simp only [bs, l0, l1, l2, l3, l4, l5, l6, l7, l8, l9, l10, l12, l15, l30, l31, l32, l40, l42, l48, l57, l60, l64, l98, l99, l100, l109, l110, l112, l115, l265, l1000, l518400, ngd]
    rw [drop_dr (show k < (oY o).length from hk')]
    by_cases c : cd (dr (oY o) k) = cd d
    · have e : dr (oY o) k = d := cd_inj _ _ (hy.1.trans hd.1.symm) (Pm8 hy hn) (Pm8 hd hn) c
      rw [iT (by rw [c]), if_pos (by rw [e]; exact List.mem_cons_self)]
    · have e : ¬ d = dr (oY o) k := fun q => c (by rw [q])
      rw [iF (fun q => c ((nI_eq (by omega) (by omega)).mp q)), nI_add, ih (k + 1) F (by omega) (by omega)]
      simp [e]
theorem e_hadYear {N i : Nat} {o : Of} {d : List Nat} {w : Wd} (hN : 1000 ≤ N) (h : RO i o w) (hf : Wf o) (hd : Pm (oN o) d) : f_X0_hadYear N i (nI (cd d)) w = some (nI (bn (decide (d ∈ oY o))), w) := by
  have hc := hf.2.2.2.1
  unfold f_X0_hadYear
  simp only [bs, l0, l1, l2, l3, l4, l5, l6, l7, l8, l9, l10, l12, l15, l30, l31, l32, l40, l42, l48, l57, l60, l64, l98, l99, l100, l109, l110, l112, l115, l265, l1000, l518400, ngd]
  rw [e_hadYear_L h hf hd (oC o) 0 N (by omega) (by omega), List.drop_zero]
  by_cases c : d ∈ oY o <;> simp [c, bn, bs]
theorem bsn {α β : Type} (a : α) (f : α → Option β) : (some a).bind f = f a := (rfl)
theorem e_breaksRing {N i : Nat} {o : Of} {d : List Nat} {w : Wd} (hN : 1000 ≤ N) (h : RO i o w) (hf : Wf o) (hd : Pm (oN o) d) : f_X0_breaksRing N i (nI (cd d)) w = some (nI (bn (rgb o d)), w) := by
  have hn := hf.1
  have hF := rg_F hn hd
  unfold f_X0_breaksRing rgb
  simp only [bsn, l0, l1, l2, l3, l4, l5, l6, l7, l8, l9, l10, l12, l15, l30, l31, l32, l40, l42, l48, l57, l60, l64, l98, l99, l100, l109, l110, l112, l115, l265, l1000, l518400, ngd]
  rw [e_isFor8 h hf]
  simp only [bsn, l0, l1, l2, l3, l4, l5, l6, l7, l8, l9, l10, l12, l15, l30, l31, l32, l40, l42, l48, l57, l60, l64, l98, l99, l100, l109, l110, l112, l115, l265, l1000, l518400, ngd]
  cases c1 : rb o 3 with
  | false => rw [iT bnFc]; simp [bn]
  | true =>
    rw [iF bnTc, h.1]
    by_cases c0 : oN o ≤ 0
    · have c3 : ¬ 1 < rc d := fun q => by have := hF.mp q; omega
      rw [iT (nI_le c0 (by omega))]; simp [c3, bn]
    · rw [iF (nI_ge (by omega) (by omega)), e_ringOf hN hn hd (by omega)]
      simp only [bsn, l0, l1, l2, l3, l4, l5, l6, l7, l8, l9, l10, l12, l15, l30, l31, l32, l40, l42, l48, l57, l60, l64, l98, l99, l100, l109, l110, l112, l115, l265, l1000, l518400, ngd]
      have hp : rl d ≤ 6 := by unfold rl pc; omega
      rw [e_bitCount (rgO_lt hn hd 6 0 0 (by omega) (by omega)), show pc (rgO d 6 0 0) = rl d from rfl]
      simp only [bsn, l0, l1, l2, l3, l4, l5, l6, l7, l8, l9, l10, l12, l15, l30, l31, l32, l40, l42, l48, l57, l60, l64, l98, l99, l100, l109, l110, l112, l115, l265, l1000, l518400, ngd]
      rw [h.1]
      by_cases c2 : oN o ≤ rl d
      · have c3 : ¬ 1 < rc d := fun q => by have := hF.mp q; omega
        rw [iT (nI_le c2 (by omega))]; simp [c3, bn]
      · have c3 : 1 < rc d := hF.mpr ⟨by omega, by omega⟩
        rw [iF (nI_ge (by omega) (by omega))]; simp [c3, bn]
def bck (o : Of) (p : List Nat) (y : Nat) : Bool := decide (y < p.length ∧ dg p y = p.length ∧ mnd o p.length y = true)
theorem e_drawsBack {N i y : Nat} {o : Of} {p : List Nat} {w : Wd} (h : RO i o w) (hf : Wf o) (hp : ∀ z ∈ p, z < oN o) (hx : p.length < oN o) (hy : y < oN o) : f_X0_drawsBack N i (nI p.length) (nI y) (nI (cd p)) w = some (nI (bn (bck o p y)), w) := by
  have hn := hf.1
  have hp8 : ∀ z ∈ p, z < 8 := fun z hz => by have := hp z hz; omega
  have hcd := cd_small hp8 (by omega)
  have hdl : pp (cd p) y < 8 := pp_lt _ _
  unfold f_X0_drawsBack bck
  simp only [bs, l0, l1, l2, l3, l4, l5, l6, l7, l8, l9, l10, l12, l15, l30, l31, l32, l40, l42, l48, l57, l60, l64, l98, l99, l100, l109, l110, l112, l115, l265, l1000, l518400, ngd]
  by_cases c1 : p.length ≤ y
  · have c2 : ¬ y < p.length := by omega
    rw [iT (nI_le c1 (by omega))]; simp [c2, bn]
  · have c2 : y < p.length := by omega
    rw [iF (nI_ge (by omega) (by omega)), e_paper (by omega) (by omega)]
    simp only [bs, l0, l1, l2, l3, l4, l5, l6, l7, l8, l9, l10, l12, l15, l30, l31, l32, l40, l42, l48, l57, l60, l64, l98, l99, l100, l109, l110, l112, l115, l265, l1000, l518400, ngd]
    rw [pp_cd p y hp8] at hdl ⊢
    by_cases c3 : dg p y = p.length
    · rw [iT (by rw [c3]), e_minds h hf hx hy]
      simp only [bs, l0, l1, l2, l3, l4, l5, l6, l7, l8, l9, l10, l12, l15, l30, l31, l32, l40, l42, l48, l57, l60, l64, l98, l99, l100, l109, l110, l112, l115, l265, l1000, l518400, ngd]
      cases c4 : mnd o p.length y with
      | false => rw [iT bnFc]; simp [bn]
      | true => rw [iF bnTc]; simp [c2, c3, bn]
    · rw [iF (fun q => c3 ((nI_eq (by omega) (by omega)).mp q))]; simp [c3, bn]
/-! drawings as far as they go -/
theorem mnd_sym (o : Of) (x y : Nat) : mnd o x y = mnd o y x := by
  unfold mnd
  exact decide_eq_decide.mpr ⟨fun ⟨a, b, c⟩ => ⟨a, c, b⟩, fun ⟨a, b, c⟩ => ⟨a, c, b⟩⟩
def okp (o : Of) (p : List Nat) : Prop := (∀ x, x < p.length → bar o x (dg p x) = 0) ∧ ∀ x y, x < p.length → y < p.length → dg p x = y → dg p y = x → mnd o x y = false
theorem okp_nil (o : Of) : okp o [] := ⟨fun x hx => by simp at hx, fun x y hx => by simp at hx⟩
theorem okp_snoc {o : Of} {p : List Nat} {y : Nat} (h : okp o p) (hb : bar o p.length y = 0) (hk : bck o p y = false) : okp o (p ++ [y]) := by
  have hk : ¬ (y < p.length ∧ dg p y = p.length ∧ mnd o p.length y = true) := of_decide_eq_false hk
  have hne : y ≠ p.length := fun e => by rw [e, bar_self] at hb; cases hb
  have back : y < p.length → dg p y = p.length → mnd o p.length y = false := fun a b => by
    cases c : mnd o p.length y with
    | false => rfl
    | true => exact absurd ⟨a, b, c⟩ hk
  refine ⟨fun x hx => ?_, fun x z hx hz e1 e2 => ?_⟩
  · rw [List.length_append, List.length_singleton] at hx
    by_cases q : x = p.length
    · rw [q, dg_app_r]; exact hb
    · rw [dg_app_l (by omega)]; exact h.1 x (by omega)
  · rw [List.length_append, List.length_singleton] at hx hz
    by_cases q : x = p.length
    · subst q
      rw [dg_app_r] at e1
      subst e1
      rw [dg_app_l (by omega)] at e2
      exact back (by omega) e2
    · by_cases r : z = p.length
      · subst r
        rw [dg_app_r] at e2
        subst e2
        rw [dg_app_l (by omega)] at e1
        rw [mnd_sym]; exact back (by omega) e1
      · rw [dg_app_l (by omega)] at e1 e2
        exact h.2 x z (by omega) (by omega) e1 e2
theorem rt_okp {o : Of} {p : List Nat} (h : okp o p) (hd : Pm (oN o) p) : rt o p = !rgb o p := by
  have e : fb o p (oN o) 0 = none := (fb_none _ _).mpr fun x _ hx => by
    have hx' : x < p.length := by rw [hd.1]; omega
    have hy := Pm_dg hd (x := x) (by omega)
    unfold agn
    rw [if_pos (h.1 x hx')]
    by_cases c : dg p (dg p x) = x
    · rw [if_neg]
      rw [h.2 x _ hx' (by rw [hd.1]; exact hy) rfl c]; simp
    · rw [if_neg (fun q => c q.1)]
  unfold rt; rw [e]
  cases rgb o p <;> simp
theorem gl_nil {F : Nat → List (List Nat)} (h : ∀ y, F y = []) : ∀ (m k : Nat), gl F m k = [] := by
  intro m
  induction m with
  | zero => intro k; rfl
  | succ m ih => intro k; rw [gl, h, ih]; rfl
theorem gen_back {o : Of} : ∀ (m : Nat) (p : List Nat) (x y : Nat), p.length + m = oN o → x < p.length → y < p.length → dg p x = y → dg p y = x → mnd o x y = true → gen o m p = [] := by
  intro m
  induction m with
  | zero =>
    intro p x y hl hx hy e1 e2 hm
    unfold gen
    rw [if_neg]
    intro hr
    unfold rt at hr
    have h1 := (fb_none (o := o) (d := p) _ _).mp (of_decide_eq_true hr).1 x (by omega) (by omega)
    unfold agn at h1
    rw [e1, e2, hm] at h1
    by_cases c : bar o x y = 0
    · simp [c] at h1
    · rw [if_neg c] at h1; exact c h1
  | succ m ih =>
    intro p x y hl hx hy e1 e2 hm
    unfold gen
    refine gl_nil (fun z => ?_) _ _
    split
    · rfl
    · exact ih (p ++ [z]) x y (by rw [List.length_append, List.length_singleton]; omega) (by rw [List.length_append]; omega) (by rw [List.length_append]; omega) (by rw [dg_app_l hx]; exact e1) (by rw [dg_app_l hy]; exact e2) hm
theorem gen_bck {o : Of} {m : Nat} {p : List Nat} {y : Nat} (hl : (p ++ [y]).length + m = oN o) (h : bck o p y = true) : gen o m (p ++ [y]) = [] := by
  obtain ⟨a, b, c⟩ := of_decide_eq_true h
  refine gen_back m (p ++ [y]) p.length y hl (by rw [List.length_append, List.length_singleton]; omega) (by rw [List.length_append]; omega) dg_app_r (by rw [dg_app_l a]; exact b) c
