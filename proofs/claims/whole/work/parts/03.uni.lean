/-! words: all good words of the tables, one list for every method -/
def ww : List Cond := lw_tbl.filter goodWord
theorem ww_of {w : Cond} (h : w ∈ lw_tbl) (g : goodWord w = true) : w ∈ ww := List.mem_filter.mpr ⟨h, g⟩
theorem ww_p {w : Cond} (q : MethodName × Nat) (hq : q ∈ lw_privs) (e : Cond.selects q.1.cls q.1 q.1 = w) : w ∈ ww := by
  subst e
  exact ww_of (List.mem_append_left _ (List.mem_map.mpr ⟨q, hq, rfl⟩)) rfl
theorem ww_1 {w : Cond} (i : Nat) (h : tables_1_1[i]? = some w) (g : goodWord w = true) : w ∈ ww := ww_of (List.mem_append_right _ (List.mem_append_left _ (List.mem_of_getElem? h))) g
theorem ww_2 {w : Cond} (i : Nat) (h : tables_1_2[i]? = some w) (g : goodWord w = true) : w ∈ ww := ww_of (List.mem_append_right _ (List.mem_append_right _ (List.mem_append_left _ (List.mem_of_getElem? h)))) g
theorem ww_3 {w : Cond} (i : Nat) (h : tables_1_3[i]? = some w) (g : goodWord w = true) : w ∈ ww := ww_of (List.mem_append_right _ (List.mem_append_right _ (List.mem_append_right _ (List.mem_append_left _ (List.mem_of_getElem? h))))) g
theorem ww_4 {w : Cond} (i : Nat) (h : tables_1_4[i]? = some w) (g : goodWord w = true) : w ∈ ww := ww_of (List.mem_append_right _ (List.mem_append_right _ (List.mem_append_right _ (List.mem_append_right _ (List.mem_append_left _ (List.mem_of_getElem? h)))))) g
theorem ww_5 {w : Cond} (i : Nat) (h : tables_1_5[i]? = some w) (g : goodWord w = true) : w ∈ ww := ww_of (List.mem_append_right _ (List.mem_append_right _ (List.mem_append_right _ (List.mem_append_right _ (List.mem_append_right _ (List.mem_of_getElem? h)))))) g
theorem ww_good : ∀ w ∈ ww, w ∈ ww ∧ ((w.onTables && w.keeps) = true ∨ ∃ ty, w = .arrayClass ty) := fun w h => ⟨h, good_of_word (List.mem_filter.mp h).2⟩
theorem gww {y : MethodName} {b : ByteArray} {n : Nat} {r : Option FieldType} (h : Cond.code y b n r ∈ ww) : GoodIn ww (Cond.code y b n r :: ww) := fun w hw => by
  rcases List.mem_cons.mp hw with e | e
  · rw [e]; exact ww_good _ h
  · exact ww_good _ e
/-! the universe: values, worlds -/
abbrev AV : Type := Int32 ⊕ (Int64 ⊕ (Nat × Nat))
abbrev vi (x : Int32) : AV := .inl x
abbrev vl (x : Int64) : AV := .inr (.inl x)
abbrev vr (g i : Nat) : AV := .inr (.inr (g, i))
abbrev Wd : Type := (Nat → Nat → Int32) × (Nat → Nat → Int64) × (Nat → Nat → Nat → Int32)
def gI (w : Wd) (f i : Nat) : Int32 := w.1 f i
def gL (w : Wd) (f i : Nat) : Int64 := w.2.1 f i
def gA (w : Wd) (g i : Nat) : Nat → Int32 := w.2.2 g i
def sI (w : Wd) (f i : Nat) (v : Int32) : Wd := (fun f' i' => if f' = f ∧ i' = i then v else w.1 f' i', w.2.1, w.2.2)
def sL (w : Wd) (f i : Nat) (v : Int64) : Wd := (w.1, fun f' i' => if f' = f ∧ i' = i then v else w.2.1 f' i', w.2.2)
def sA (w : Wd) (g i : Nat) (v : Nat → Int32) : Wd := (w.1, w.2.1, fun g' i' => if g' = g ∧ i' = i then v else w.2.2 g' i')
theorem gI_sI (w : Wd) (f i f' i' : Nat) (v : Int32) : gI (sI w f i v) f' i' = if f' = f ∧ i' = i then v else gI w f' i' := rfl
theorem gI_sL (w : Wd) (f i f' i' : Nat) (v : Int64) : gI (sL w f i v) f' i' = gI w f' i' := rfl
theorem gI_sA (w : Wd) (f i f' i' : Nat) (v : Nat → Int32) : gI (sA w f i v) f' i' = gI w f' i' := rfl
theorem gL_sI (w : Wd) (f i f' i' : Nat) (v : Int32) : gL (sI w f i v) f' i' = gL w f' i' := rfl
theorem gL_sL (w : Wd) (f i f' i' : Nat) (v : Int64) : gL (sL w f i v) f' i' = if f' = f ∧ i' = i then v else gL w f' i' := rfl
theorem gL_sA (w : Wd) (f i f' i' : Nat) (v : Nat → Int32) : gL (sA w f i v) f' i' = gL w f' i' := rfl
theorem gA_sI (w : Wd) (f i f' i' : Nat) (v : Int32) : gA (sI w f i v) f' i' = gA w f' i' := rfl
theorem gA_sL (w : Wd) (f i f' i' : Nat) (v : Int64) : gA (sL w f i v) f' i' = gA w f' i' := rfl
theorem gA_sA (w : Wd) (f i f' i' : Nat) (v : Nat → Int32) : gA (sA w f i v) f' i' = if f' = f ∧ i' = i then v else gA w f' i' := rfl
/-- D, the class ids of the kinds of arrays, the addresses -/
abbrev GT : Type := va_G × (Nat → ClassId) × (Nat → Nat → Nat)
def cv (G : GT) : AV → Value
  | .inl x => .int x
  | .inr (.inl x) => .long x
  | .inr (.inr q) => .ref (G.2.2 q.1 q.2)
def cat : AV → Nat
  | .inr (.inl _) => 2
  | _ => 1
theorem cv_cat (G : GT) (v : AV) : (cv G v).category = cat v := by
  rcases v with x | x | x <;> rfl
abbrev FD : Type := Nat ⊕ (Nat ⊕ (Nat × Nat))
def fv (w : Wd) (i : Nat) : FD → AV
  | .inl f => .inl (gI w f i)
  | .inr (.inl f) => .inr (.inl (gL w f i))
  | .inr (.inr q) => .inr (.inr (q.1, i + q.2))
abbrev fi (n : Nat) : FD := .inl n
abbrev fl (n : Nat) : FD := .inr (.inl n)
abbrev fr (g i : Nat) : FD := .inr (.inr (g, i))
abbrev cls : List vw_C := [(RX0, TX0, 7), (RX1, TX1, 2), (RX2, TX2, 5), (RX3, TX3, 2), (RX4, TX4, 17), (RX5, TX5, 32)]
/-- the objects: class, fields -/
def lay : Nat → Nat × List FD
  | 0 => (4, [fr 1 0, fr 2 0, fr 3 0, fr 3 1, fr 4 0, fr 4 1, fi 406, fi 407, fr 22 0, fr 23 0, fr 24 0, fi 411, fi 412, fl 413, fl 414, fi 415, fr 25 0])
  | 1 => (1, [fr 10 0, fr 12 0])
  | 2 => (3, [fr 13 0, fr 15 0])
  | 3 => (0, [fr 16 0, fr 17 0, fr 18 0, fr 19 0, fi 4, fi 5, fi 6])
  | 4 => (2, [fr 20 0, fi 201, fr 21 0, fi 204, fi 205])
  | _ => (5, [fi 500, fr 30 0, fi 502, fl 503, fl 504, fr 31 0, fr 32 0, fr 33 0, fr 34 0, fr 35 0, fi 510, fi 511, fr 36 0, fr 37 0, fr 38 0, fi 515, fi 516, fr 39 0, fi 518, fr 40 0, fi 520, fr 41 0, fi 522, fi 523, fi 524, fr 42 0, fi 526, fl 527, fr 43 0, fr 44 0, fi 530, fl 531])
/-- the arrays: kind (0 int, 1 byte, 2 of int arrays, 3 of byte arrays), length -/
def arr : Nat → Nat × Nat
  | 10 => (2, 6)
  | 11 => (0, 40)
  | 12 => (0, 6)
  | 13 => (3, 4)
  | 14 => (1, 60)
  | 15 => (0, 4)
  | 16 => (0, 6)
  | 17 => (0, 6)
  | 18 => (0, 6)
  | 19 => (0, 42)
  | 20 => (0, 265)
  | 21 => (0, 6)
  | 22 => (0, 3)
  | 23 => (0, 3)
  | 24 => (0, 3)
  | 25 => (0, 6)
  | 30 => (0, 6)
  | 31 => (0, 6)
  | 32 => (0, 240)
  | 33 => (0, 40)
  | 34 => (0, 4)
  | 35 => (0, 240)
  | 36 => (0, 12)
  | 37 => (0, 12)
  | 38 => (0, 12)
  | 39 => (0, 252)
  | 40 => (0, 6)
  | 41 => (0, 4320)
  | 42 => (0, 6)
  | 43 => (0, 6)
  | 44 => (0, 24)
  | _ => (0, 0)
def gis : List (Nat × Nat) := [(0, 0), (1, 0), (2, 0), (3, 0), (3, 1), (4, 0), (4, 1), (5, 0), (10, 0), (11, 0), (11, 1), (11, 2), (11, 3), (11, 4), (11, 5), (12, 0), (13, 0), (14, 0), (14, 1), (14, 2), (14, 3), (15, 0), (16, 0), (16, 1), (17, 0), (17, 1), (18, 0), (18, 1), (19, 0), (19, 1), (20, 0), (20, 1), (21, 0), (21, 1), (22, 0), (23, 0), (24, 0), (25, 0), (30, 0), (31, 0), (32, 0), (33, 0), (34, 0), (35, 0), (36, 0), (37, 0), (38, 0), (39, 0), (40, 0), (41, 0), (42, 0), (43, 0), (44, 0)]
theorem gis_nd : gis.Nodup := by decide +kernel
def cel (G : GT) (w : Wd) (q : Nat × Nat) : va_E :=
  if q.1 < 10 then .inr ((lay q.1).1, (lay q.1).2.map (fun d => cv G (fv w q.2 d)))
  else if (arr q.1).1 < 2 then .inl (G.2.1 (arr q.1).1, (arr q.1).2, .inl (gA w q.1 q.2))
  else .inl (G.2.1 (arr q.1).1, (arr q.1).2, .inr (.inr (.inr (.inr (fun k => if k < (arr q.1).2 then some (G.2.2 (q.1 + 1) k) else none)))))
def wl (G : GT) (w : Wd) : va_W := gis.map (fun q => (G.2.2 q.1 q.2, cel G w q))
def aG (G : GT) : Nat → Prop := fun a => ∃ q ∈ gis, a = G.2.2 q.1 q.2
def Inj (G : GT) : Prop := ∀ p ∈ gis, ∀ q ∈ gis, G.2.2 p.1 p.2 = G.2.2 q.1 q.2 → p = q
def tyG (G : GT) : List (ClassId × FieldType) := [(G.2.1 0, .int), (G.2.1 1, .byte), (G.2.1 2, .array .int), (G.2.1 3, .array .byte)]
theorem wl_at (G : GT) (w : Wd) {k : Nat} {q : Nat × Nat} (h : gis[k]? = some q) : (wl G w)[k]? = some (G.2.2 q.1 q.2, cel G w q) := by
  unfold wl; rw [List.getElem?_map, h]; rfl
theorem wl_get {G : GT} {w : Wd} {k : Nat} {x : Nat × va_E} (h : (wl G w)[k]? = some x) : ∃ q, gis[k]? = some q ∧ x = (G.2.2 q.1 q.2, cel G w q) := by
  unfold wl at h
  rw [List.getElem?_map] at h
  cases hq : gis[k]? with
  | none => rw [hq] at h; cases h
  | some q => rw [hq] at h; exact ⟨q, rfl, (Option.some.inj h).symm⟩
theorem wl_D {G : GT} (hi : Inj G) (w : Wd) : va_D (aG G) (wl G w) := by
  refine ⟨fun i j p q h1 h2 e => ?_, fun k q h => ?_⟩
  · obtain ⟨a, a1, rfl⟩ := wl_get h1
    obtain ⟨b, b1, rfl⟩ := wl_get h2
    have hab : a = b := hi a (List.mem_of_getElem? a1) b (List.mem_of_getElem? b1) e
    subst hab
    obtain ⟨l1, e1⟩ := List.getElem?_eq_some_iff.mp a1
    obtain ⟨l2, e2⟩ := List.getElem?_eq_some_iff.mp b1
    exact (List.getElem_inj (h₀ := l1) (h₁ := l2) gis_nd).mp (e1.trans e2.symm)
  · obtain ⟨a, a1, rfl⟩ := wl_get h
    exact ⟨a, List.mem_of_getElem? a1, rfl⟩
theorem wl_set {G : GT} {w w' : Wd} {k : Nat} {q : Nat × Nat} {e : va_E} (hk : gis[k]? = some q) (he : cel G w' q = e) (ho : ∀ p ∈ gis, p ≠ q → cel G w' p = cel G w p) : (wl G w).set k (G.2.2 q.1 q.2, e) = wl G w' := by
  apply List.ext_getElem?
  intro j
  by_cases hj : j = k
  · subst hj
    have hl : j < (wl G w).length := (List.getElem?_eq_some_iff.mp (wl_at G w hk)).1
    rw [List.getElem?_set_self hl, wl_at G w' hk, he]
  · rw [List.getElem?_set_ne (Ne.symm hj)]
    unfold wl
    rw [List.getElem?_map, List.getElem?_map]
    cases hp : gis[j]? with
    | none => rfl
    | some p =>
      have hpq : p ≠ q := by
        intro e0
        subst e0
        obtain ⟨l1, e1⟩ := List.getElem?_eq_some_iff.mp hp
        obtain ⟨l2, e2⟩ := List.getElem?_eq_some_iff.mp hk
        exact hj ((List.getElem_inj (h₀ := l1) (h₁ := l2) gis_nd).mp (e1.trans e2.symm))
      show some (G.2.2 p.1 p.2, cel G w p) = some (G.2.2 p.1 p.2, cel G w' p)
      rw [ho p (List.mem_of_getElem? hp) hpq]
/-- field k of the objects g is the int f, and nothing else is -/
def okI (g k f : Nat) : Bool := decide ((lay g).2[k]? = some (.inl f)) && gis.all (fun p => decide (p.1 < 10) == false || (List.range (lay p.1).2.length).all (fun j => (p.1 == g && j == k) || !(decide ((lay p.1).2[j]? = some (.inl f)))))
def okL (g k f : Nat) : Bool := decide ((lay g).2[k]? = some (.inr (.inl f))) && gis.all (fun p => decide (p.1 < 10) == false || (List.range (lay p.1).2.length).all (fun j => (p.1 == g && j == k) || !(decide ((lay p.1).2[j]? = some (.inr (.inl f))))))
theorem cel_arr {G : GT} {w : Wd} {g i : Nat} (h : ¬ g < 10) (hk : (arr g).1 < 2) : cel G w (g, i) = .inl (G.2.1 (arr g).1, (arr g).2, .inl (gA w g i)) := by
  unfold cel; rw [if_neg h, if_pos hk]
theorem cel_out {G : GT} {w : Wd} {g i : Nat} (h : ¬ g < 10) (hk : ¬ (arr g).1 < 2) : cel G w (g, i) = .inl (G.2.1 (arr g).1, (arr g).2, .inr (.inr (.inr (.inr (fun k => if k < (arr g).2 then some (G.2.2 (g + 1) k) else none))))) := by
  unfold cel; rw [if_neg h, if_neg hk]
theorem cel_obj {G : GT} {w : Wd} {g i : Nat} (h : g < 10) : cel G w (g, i) = .inr ((lay g).1, (lay g).2.map (fun d => cv G (fv w i d))) := by
  unfold cel; rw [if_pos h]
theorem set_sA {G : GT} {w : Wd} {k g i : Nat} {v : Nat → Int32} (hk : gis[k]? = some (g, i)) (h : ¬ g < 10) (h2 : (arr g).1 < 2) : (wl G w).set k (G.2.2 g i, .inl (G.2.1 (arr g).1, (arr g).2, .inl v)) = wl G (sA w g i v) := by
  refine wl_set hk ?_ ?_
  · rw [cel_arr h h2, gA_sA, if_pos ⟨rfl, rfl⟩]
  · intro p _ hp
    obtain ⟨g', i'⟩ := p
    unfold cel
    by_cases h3 : g' < 10
    · rw [if_pos h3, if_pos h3]
      rfl
    · rw [if_neg h3, if_neg h3, gA_sA]
      have hno : ¬ (g' = g ∧ i' = i) := by
        rintro ⟨rfl, rfl⟩
        exact hp rfl
      rw [if_neg (c := (g', i').1 = g ∧ (g', i').2 = i) hno]
theorem okI_spec {g k f : Nat} (h : okI g k f = true) : (lay g).2[k]? = some (.inl f) ∧ ∀ p ∈ gis, p.1 < 10 → ∀ j, (lay p.1).2[j]? = some (.inl f) → p.1 = g ∧ j = k := by
  unfold okI at h
  rw [Bool.and_eq_true, decide_eq_true_eq] at h
  refine ⟨h.1, fun p hp h10 j hj => ?_⟩
  have h1 := List.all_eq_true.mp h.2 p hp
  rw [Bool.or_eq_true] at h1
  rcases h1 with h1 | h1
  · simp [h10] at h1
  · have hl : j < (lay p.1).2.length := (List.getElem?_eq_some_iff.mp hj).1
    have h2 := List.all_eq_true.mp h1 j (List.mem_range.mpr hl)
    simp only [hj, decide_true, Bool.not_true, Bool.or_false, Bool.and_eq_true, beq_iff_eq] at h2
    exact h2
theorem okL_spec {g k f : Nat} (h : okL g k f = true) : (lay g).2[k]? = some (.inr (.inl f)) ∧ ∀ p ∈ gis, p.1 < 10 → ∀ j, (lay p.1).2[j]? = some (.inr (.inl f)) → p.1 = g ∧ j = k := by
  unfold okL at h
  rw [Bool.and_eq_true, decide_eq_true_eq] at h
  refine ⟨h.1, fun p hp h10 j hj => ?_⟩
  have h1 := List.all_eq_true.mp h.2 p hp
  rw [Bool.or_eq_true] at h1
  rcases h1 with h1 | h1
  · simp [h10] at h1
  · have hl : j < (lay p.1).2.length := (List.getElem?_eq_some_iff.mp hj).1
    have h2 := List.all_eq_true.mp h1 j (List.mem_range.mpr hl)
    simp only [hj, decide_true, Bool.not_true, Bool.or_false, Bool.and_eq_true, beq_iff_eq] at h2
    exact h2
theorem set_sI {G : GT} {w : Wd} {q0 g i k f : Nat} {v : Int32} (hq : gis[q0]? = some (g, i)) (h : g < 10) (ok : okI g k f = true) : (wl G w).set q0 (G.2.2 g i, .inr ((lay g).1, ((lay g).2.map (fun d => cv G (fv w i d))).set k (.int v))) = wl G (sI w f i v) := by
  obtain ⟨h1, h2⟩ := okI_spec ok
  have hmem := List.mem_of_getElem? hq
  refine wl_set hq ?_ ?_
  · rw [cel_obj h]
    congr 2
    apply List.ext_getElem?
    intro j
    by_cases hj : j = k
    · subst hj
      have hl : j < ((lay g).2.map (fun d => cv G (fv w i d))).length := by
        rw [List.length_map]; exact (List.getElem?_eq_some_iff.mp h1).1
      rw [List.getElem?_set_self hl, List.getElem?_map, h1]
      simp [fv, cv, gI_sI]
    · rw [List.getElem?_set_ne (Ne.symm hj), List.getElem?_map, List.getElem?_map]
      cases hd : (lay g).2[j]? with
      | none => rfl
      | some d =>
        rcases d with f' | f' | r
        · have hne : f' ≠ f := by
            intro e0; subst e0
            exact hj (h2 (g, i) hmem h j hd).2
          simp [fv, cv, gI_sI, hne]
        · rfl
        · rfl
  · intro p hp hne
    obtain ⟨g', i'⟩ := p
    unfold cel
    by_cases h3 : g' < 10
    · rw [if_pos h3, if_pos h3]
      congr 2
      apply List.map_congr_left
      intro d hd
      rcases d with f' | f' | r
      · show Value.int _ = Value.int _
        rw [gI_sI]
        by_cases hc : f' = f ∧ i' = i
        · obtain ⟨rfl, rfl⟩ := hc
          obtain ⟨j, hj⟩ := List.getElem?_of_mem hd
          have := (h2 (g', i') hp h3 j hj).1
          exact absurd (by rw [show g' = g from this]) hne
        · rw [if_neg hc]
      · rfl
      · rfl
    · rw [if_neg h3, if_neg h3]
      rfl
theorem set_sL {G : GT} {w : Wd} {q0 g i k f : Nat} {v : Int64} (hq : gis[q0]? = some (g, i)) (h : g < 10) (ok : okL g k f = true) : (wl G w).set q0 (G.2.2 g i, .inr ((lay g).1, ((lay g).2.map (fun d => cv G (fv w i d))).set k (.long v))) = wl G (sL w f i v) := by
  obtain ⟨h1, h2⟩ := okL_spec ok
  have hmem := List.mem_of_getElem? hq
  refine wl_set hq ?_ ?_
  · rw [cel_obj h]
    congr 2
    apply List.ext_getElem?
    intro j
    by_cases hj : j = k
    · subst hj
      have hl : j < ((lay g).2.map (fun d => cv G (fv w i d))).length := by
        rw [List.length_map]; exact (List.getElem?_eq_some_iff.mp h1).1
      rw [List.getElem?_set_self hl, List.getElem?_map, h1]
      simp [fv, cv, gL_sL]
    · rw [List.getElem?_set_ne (Ne.symm hj), List.getElem?_map, List.getElem?_map]
      cases hd : (lay g).2[j]? with
      | none => rfl
      | some d =>
        rcases d with f' | f' | r
        · rfl
        · have hne : f' ≠ f := by
            intro e0; subst e0
            exact hj (h2 (g, i) hmem h j hd).2
          simp [fv, cv, gL_sL, hne]
        · rfl
  · intro p hp hne
    obtain ⟨g', i'⟩ := p
    unfold cel
    by_cases h3 : g' < 10
    · rw [if_pos h3, if_pos h3]
      congr 2
      apply List.map_congr_left
      intro d hd
      rcases d with f' | f' | r
      · rfl
      · show Value.long _ = Value.long _
        rw [gL_sL]
        by_cases hc : f' = f ∧ i' = i
        · obtain ⟨rfl, rfl⟩ := hc
          obtain ⟨j, hj⟩ := List.getElem?_of_mem hd
          have := (h2 (g', i') hp h3 j hj).1
          exact absurd (by rw [show g' = g from this]) hne
        · rw [if_neg hc]
      · rfl
    · rw [if_neg h3, if_neg h3]
      rfl
