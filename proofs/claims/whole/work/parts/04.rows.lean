abbrev CX : Type := (Program × Launch × Env × Room) × (State × MethodId × Array Value × List Frame) × (Method × Code) × (Nat × Nat × (State → Prop)) × GT
abbrev xp (x : CX) : Program := x.1.1
abbrev xl (x : CX) : Launch := x.1.2.1
abbrev xe (x : CX) : Env := x.1.2.2.1
abbrev xR (x : CX) : Room := x.1.2.2.2
abbrev xs (x : CX) : State := x.2.1.1
abbrev xm (x : CX) : MethodId := x.2.1.2.1
abbrev xa (x : CX) : Array Value := x.2.1.2.2.1
abbrev xb (x : CX) : List Frame := x.2.1.2.2.2
abbrev xM (x : CX) : Method := x.2.2.1.1
abbrev xc (x : CX) : Code := x.2.2.1.2
abbrev xn (x : CX) : Nat := x.2.2.2.1.1
abbrev xo (x : CX) : Nat := x.2.2.2.1.2.1
abbrev xQ (x : CX) : State → Prop := x.2.2.2.1.2.2
abbrev xG (x : CX) : GT := x.2.2.2.2
abbrev LV : Type := List (Option AV)
def lvr (G : GT) (la : Array Slot) (ls : LV) : Prop := la.size = ls.length ∧ lv_wf la ∧ ∀ (i : Nat) (v : AV), ls[i]? = some (some v) → la[i]? = some (.val (cv G v))
def prs (G : GT) (ls : LV) : List (Nat × Value) := (List.range ls.length).filterMap (fun i => match ls[i]? with | some (some v) => some (i, cv G v) | _ => none)
theorem prs_mem {G : GT} {ls : LV} {q : Nat × Value} : q ∈ prs G ls ↔ ∃ (i : Nat) (v : AV), ls[i]? = some (some v) ∧ q = (i, cv G v) := by
  unfold prs
  rw [List.mem_filterMap]
  constructor
  · rintro ⟨i, -, h⟩
    cases h1 : ls[i]? with
    | none => rw [h1] at h; cases h
    | some o =>
      rw [h1] at h
      cases o with
      | none => cases h
      | some v => exact ⟨i, v, h1, (Option.some.inj h).symm⟩
  · rintro ⟨i, v, h, rfl⟩
    refine ⟨i, List.mem_range.mpr (List.getElem?_eq_some_iff.mp h).1, ?_⟩
    rw [h]
theorem lvr_has {G : GT} {la : Array Slot} {ls : LV} (h : lvr G la ls) : lv_has la ls.length (prs G ls) := by
  refine ⟨h.1, h.2.1, fun q hq => ?_⟩
  obtain ⟨i, v, h1, rfl⟩ := prs_mem.mp hq
  exact h.2.2 i v h1
/-- a long that stands ahead of place i goes -/
def klj (ls : LV) (j : Nat) : LV := match ls[j]? with
  | some (some (.inr (.inl _))) => ls.set j none
  | _ => ls
def kl (ls : LV) : Nat → LV
  | 0 => ls
  | j + 1 => klj ls j
def sto1 (ls : LV) (i : Nat) (v : AV) : LV := (kl ls i).set i (some v)
def sto2 (ls : LV) (i : Nat) (v : AV) : LV := ((kl ls i).set i (some v)).set (i + 1) none
theorem kl_len (ls : LV) (i : Nat) : (kl ls i).length = ls.length := by
  cases i with
  | zero => rfl
  | succ j =>
    show (klj ls j).length = ls.length
    unfold klj
    split
    · rw [List.length_set]
    · rfl
theorem kl_get {ls : LV} {i j : Nat} {v : AV} (h : (kl ls i)[j]? = some (some v)) : ls[j]? = some (some v) ∧ ¬ (j + 1 = i ∧ cat v = 2) := by
  cases i with
  | zero => exact ⟨h, fun q => by omega⟩
  | succ k =>
    have h9 : (klj ls k)[j]? = some (some v) := h
    clear h
    unfold klj at h9
    split at h9
    · rename_i x hx
      by_cases hj : j = k
      · subst hj
        rw [List.getElem?_set_self (List.getElem?_eq_some_iff.mp hx).1] at h9
        cases h9
      · rw [List.getElem?_set_ne (Ne.symm hj)] at h9
        exact ⟨h9, fun q => by omega⟩
    · rename_i hx
      refine ⟨h9, ?_⟩
      rintro ⟨q1, q2⟩
      have hjk : j = k := by omega
      subst hjk
      rcases v with x | x | x
      · cases q2
      · exact hx x h9
      · cases q2
theorem lvr_sto1 {G : GT} {la' : Array Slot} {ls : LV} {i : Nat} {v : AV} (hi : i < ls.length) (h' : lv_has la' ls.length ((i, cv G v) :: (prs G ls).filter (fun q => !(q.1 == i) && !(q.1 + 1 == i && q.2.category == 2)))) : lvr G la' (sto1 ls i v) := by
  refine ⟨by unfold sto1; rw [List.length_set, kl_len]; exact h'.1, h'.2.1, fun j u hj => ?_⟩
  unfold sto1 at hj
  by_cases e : j = i
  · subst e
    rw [List.getElem?_set_self (by rw [kl_len]; exact hi)] at hj
    cases hj
    exact h'.2.2 (j, cv G v) List.mem_cons_self
  · rw [List.getElem?_set_ne (Ne.symm e)] at hj
    obtain ⟨h1, h2⟩ := kl_get hj
    refine h'.2.2 (j, cv G u) (List.mem_cons_of_mem _ (List.mem_filter.mpr ⟨prs_mem.mpr ⟨j, u, h1, rfl⟩, ?_⟩))
    simp only [cv_cat, Bool.and_eq_true, Bool.not_eq_true', beq_eq_false_iff_ne, ne_eq, Bool.and_eq_false_iff]
    refine ⟨e, ?_⟩
    by_cases q : j + 1 = i
    · exact Or.inr (fun z => h2 ⟨q, z⟩)
    · exact Or.inl q
theorem lvr_sto2 {G : GT} {la' : Array Slot} {ls : LV} {i : Nat} {v : AV} (hi : i + 1 < ls.length) (h' : lv_has la' ls.length ((i, cv G v) :: (prs G ls).filter (fun q => !(q.1 == i) && (!(q.1 == i + 1) && !(q.1 + 1 == i && q.2.category == 2))))) : lvr G la' (sto2 ls i v) := by
  refine ⟨by unfold sto2; rw [List.length_set, List.length_set, kl_len]; exact h'.1, h'.2.1, fun j u hj => ?_⟩
  unfold sto2 at hj
  by_cases e2 : j = i + 1
  · subst e2
    rw [List.getElem?_set_self (by rw [List.length_set, kl_len]; exact hi)] at hj
    cases hj
  · rw [List.getElem?_set_ne (Ne.symm e2)] at hj
    by_cases e : j = i
    · subst e
      rw [List.getElem?_set_self (by rw [kl_len]; omega)] at hj
      cases hj
      exact h'.2.2 (j, cv G v) List.mem_cons_self
    · rw [List.getElem?_set_ne (Ne.symm e)] at hj
      obtain ⟨h1, h2⟩ := kl_get hj
      refine h'.2.2 (j, cv G u) (List.mem_cons_of_mem _ (List.mem_filter.mpr ⟨prs_mem.mpr ⟨j, u, h1, rfl⟩, ?_⟩))
      simp only [cv_cat, Bool.and_eq_true, Bool.not_eq_true', beq_eq_false_iff_ne, ne_eq, Bool.and_eq_false_iff]
      refine ⟨e, e2, ?_⟩
      by_cases q : j + 1 = i
      · exact Or.inr (fun z => h2 ⟨q, z⟩)
      · exact Or.inl q
def letN (k : Nat) : Int32 := ([109, 98, 110, 115, 99, 112] : List Int32).getD k 0
def Sta (G : GT) (U : State) (H : Heap) : Prop := va_Z "HatDraw" "LETTERS" "[I" (.ref (G.2.2 50 0)) (aG G) U H ∧ va_T .int (G.2.2 50 0) 6 (fun k => .int (letN k)) (aG G) U H
def NW (U : State) : Prop := va_Nw (.methodLinkNest RX3 29 yX4_kindOf RX4) U ∧ va_Nw (.methodLinkNest RX0 34 yX4_kindOf RX4) U ∧ va_Nw (.methodLinkNest RX0 44 yX4_paper RX4) U ∧ va_Nw (.methodLinkNest RX0 51 yX4_isOf RX4) U ∧ va_Nw (.methodLinkNest RX0 65 yX4_ringOf RX4) U ∧ va_Nw (.methodLinkNest RX2 61 yX4_firstOnes RX4) U ∧ va_Nw (.methodLinkNest RX2 79 yX4_paper RX4) U
theorem NW.warm {s U : State} (hW : s.WarmedH U.vm) (h : NW s) : NW U := ⟨h.1.warmM hW, h.2.1.warmM hW, h.2.2.1.warmM hW, h.2.2.2.1.warmM hW, h.2.2.2.2.1.warmM hW, h.2.2.2.2.2.1.warmM hW, h.2.2.2.2.2.2.warmM hW⟩
theorem NW.same {u U : State} (e : u.vm = U.vm) (h : NW u) : NW U := ⟨h.1.same rfl e, h.2.1.same rfl e, h.2.2.1.same rfl e, h.2.2.2.1.same rfl e, h.2.2.2.2.1.same rfl e, h.2.2.2.2.2.1.same rfl e, h.2.2.2.2.2.2.same rfl e⟩
theorem Sta.moved {G : GT} {u U : State} {H : Heap} (hvm : u.vm.Alike U.vm) (h : Sta G u H) : Sta G U H := ⟨h.1.moved hvm, h.2.moved hvm⟩
theorem Sta.kept {G : GT} {U : State} {H H1 : Heap} (h : Sta G U H) (hq : ∀ a : Nat, a < H.size → ¬ aG G a → H1[a]? = H[a]?) : Sta G U H1 := ⟨h.1.kept hq, h.2.kept hq⟩
/-- what holds of a state when a method begins -/
def Wp (G : GT) (w : Wd) (U : State) : Prop := va_P G.1 cls (wl G w) U.heap ∧ va_K G.1 cls (tyG G) U ∧ Inj G ∧ Sta G U U.heap ∧ NW U
def rmD (d : Nat) : Room := { frames := d, cells := 0, slots := 0, locals := 64 * d }
def Qs (G : GT) (r : Option AV) (w : Wd) : Array Value → State → Outcome → State → Prop := fun _ st o t => o = .returned (r.map (cv G)) ∧ va_P G.1 cls (wl G w) t.heap ∧ va_F (aG G) st t
/-- a contract: from the world w the method answers r, and the world is w' -/
def Sp (G : GT) (l : Launch) (y : MethodName) (ws : List Cond) (d : Nat) (as : List AV) (w : Wd) (r : Option AV) (w' : Wd) : Prop := Met l y ws (rmD d) (va_Pc (as.map (cv G)) (Wp G w)) (Qs G r w') 0 0 (aG G)
/-- what holds while a method runs -/
def Cx (x : CX) (own : String) (cc : ByteArray) (n d : Nat) : Prop := (xp x).tables.exec = Jvm.exec ∧ (xc x).code = cc ∧ (xs x).vm.findClass own = some (xm x).cls ∧ (∀ w ∈ ww, w.before (xa x) (xs x) = true) ∧ va_K (xG x).1 cls (tyG (xG x)) (xs x) ∧ Inj (xG x) ∧ Sta (xG x) (xs x) (xs x).heap ∧ NW (xs x) ∧ (xM x).locks = false ∧ (xc x).maxLocals = n ∧ d ≤ (xR x).frames ∧ 64 * d ≤ (xR x).locals ∧ xn x ≤ (xR x).cells ∧ xo x ≤ (xR x).slots
def Z (x : CX) (pc : Nat) (ls : LV) (st : List AV) (w : Wd) : Prop := ∀ (H : Heap) (locs : List Loc) (la : Array Slot), lvr (xG x) la ls → va_P (xG x).1 cls (wl (xG x) w) H → va_S (aG (xG x)) (xs x).heap H locs → W (xp x) (xl x) (xe x) (xR x) (xs x) (xm x) (xa x) (xb x) (xM x) (xc x) H locs (xn x) (xo x) (xQ x) (F0 (xm x) pc la (st.map (cv (xG x))))
def Rt (x : CX) (r : Option AV) (w : Wd) : Prop := xQ x = MQ (xb x) (Qs (xG x) r w) (xa x) (xs x) (xn x) (xo x) (aG (xG x))
theorem dk {t : List (Nat × Instr × Nat)} {c : ByteArray} (h : ∀ q ∈ t, decode c q.1 = .ok q.2) (k : Nat) {pc : Nat} {ins : Instr × Nat} (e : t[k]? = some (pc, ins)) : decode c pc = .ok ins := h (pc, ins) (List.mem_of_getElem? e)
/-- the locals at a method's begin -/
def ent : List AV → LV
  | [] => []
  | .inr (.inl x) :: as => some (.inr (.inl x)) :: none :: ent as
  | v :: as => some v :: ent as
theorem ent_args (G : GT) : ∀ (as : List AV) (off i : Nat) (v : AV), (ent as)[i]? = some (some v) → (off + i, cv G v) ∈ lv_args off (as.map (cv G)) := by
  intro as
  induction as with
  | nil => intro off i v h; simp [ent] at h
  | cons a as ih =>
    intro off i v h
    rcases a with x | x | x
    · cases i with
      | zero =>
        simp only [ent, List.getElem?_cons_zero] at h
        cases h
        exact List.mem_cons_self
      | succ i =>
        simp only [ent, List.getElem?_cons_succ] at h
        have := ih (off + 1) i v h
        rw [show off + (i + 1) = off + 1 + i by omega]
        exact List.mem_cons_of_mem _ this
    · cases i with
      | zero =>
        simp only [ent, List.getElem?_cons_zero] at h
        cases h
        exact List.mem_cons_self
      | succ i =>
        cases i with
        | zero => simp [ent] at h
        | succ i =>
          simp only [ent, List.getElem?_cons_succ] at h
          have := ih (off + 2) i v h
          rw [show off + (i + 1 + 1) = off + 2 + i by omega]
          exact List.mem_cons_of_mem _ this
    · cases i with
      | zero =>
        simp only [ent, List.getElem?_cons_zero] at h
        cases h
        exact List.mem_cons_self
      | succ i =>
        simp only [ent, List.getElem?_cons_succ] at h
        have := ih (off + 1) i v h
        rw [show off + (i + 1) = off + 1 + i by omega]
        exact List.mem_cons_of_mem _ this
theorem ent_len (G : GT) : ∀ (as : List AV), (lg_sl (as.map (cv G))).length = (ent as).length := by
  intro as
  induction as with
  | nil => rfl
  | cons a as ih =>
    unfold lg_sl at ih ⊢
    rw [List.map_cons, List.flatMap_cons, List.length_append, ih]
    rcases a with x | x | x
    · simp [ent, cv, Value.category]; omega
    · simp [ent, cv, Value.category]; omega
    · simp [ent, cv, Value.category]; omega
theorem Sp_of {G : GT} {l : Launch} {y : MethodName} {own : String} {cc : ByteArray} {maxL d : Nat} {ret : Option FieldType} {as : List AV} {w w' : Wd} {r : Option AV} (ls : LV) (hy : plainName own = true) (ho : y.cls = own) (hls : ent as ++ List.replicate (maxL - (ent as).length) none = ls) (hln : (ent as).length ≤ maxL)
    (body : ∀ x : CX, xG x = G → xl x = l → Cx x own cc maxL d → (xM x).sig.returnType = ret → Rt x r w' → xn x = 0 → xo x = 0 → Z x 0 ls [] w) : Sp G l y (.code y cc maxL ret :: ww) d as w r w' := by
  subst ho
  refine Met.ofW (cc := cc) (maxL := maxL) (ret := ret) hy rfl ?_
  intro p e s m args below meth c s₁ B hml hv
  obtain ⟨rfl, hP, hK, hI, hT, hN⟩ := hv
  have hts := atoms_spec (ws := .code y cc maxL ret :: ww) B.pre
  have hl := lv_entry (as.map (cv G)) (n := maxL) (by rw [ent_len]; exact hln)
  rw [lg_entry_eq]
  generalize (lg_sl (as.map (cv G)) ++ List.replicate (maxL - (lg_sl (as.map (cv G))).length) Slot.unset).toArray = la at hl ⊢
  have hlv : lvr G la ls := by
    subst hls
    refine ⟨by rw [hl.1, List.length_append, List.length_replicate]; omega, hl.2.1, fun i v h => ?_⟩
    by_cases hi : i < (ent as).length
    · rw [List.getElem?_append_left hi] at h
      have := ent_args G as 0 i v h
      rw [Nat.zero_add] at this
      exact hl.2.2 _ this
    · rw [List.getElem?_append_right (by omega), List.getElem?_replicate] at h
      split at h <;> cases h
  exact body ((p, l, e, (headSpec (.code y cc maxL ret :: ww) (rmD d)).room), (s, m, (as.map (cv G)).toArray, below), (meth, c), (0, 0, MQ below (Qs G r w') (as.map (cv G)).toArray s 0 0 (aG G)), G) rfl rfl
    ⟨B.exec, B.bytes, findClass_of_methodNamed B.named, fun w hw => hts w (List.mem_cons_of_mem _ hw), hK, hI, hT, hN, B.notSynchronized, hml, Nat.le_refl _, Nat.le_refl _, Nat.zero_le _, Nat.zero_le _⟩ B.returns rfl rfl rfl s.heap [] la hlv hP va_S.rf
theorem Z_iconst {x : CX} {own : String} {cc : ByteArray} {n d pc : Nat} {ls : LV} {st : List AV} {w : Wd} {m : Int} {v : Int32} (hC : Cx x own cc n d) (hd : decode cc pc = .ok (.iconst m, 1)) (pc' : Nat) (hp : pc + 1 = pc') (hv : Int32.ofInt m = v) (k : Z x pc' ls (vi v :: st) w) : Z x pc ls (st) w := fun H locs la hl hP hS => lv_iconst hC.1 hC.2.1 hd hv (by subst hp; exact k H locs la hl hP hS)
theorem Z_bipush {x : CX} {own : String} {cc : ByteArray} {n d pc : Nat} {ls : LV} {st : List AV} {w : Wd} {m : Int} {v : Int32} (hC : Cx x own cc n d) (hd : decode cc pc = .ok (.bipush m, 2)) (pc' : Nat) (hp : pc + 2 = pc') (hv : (Int8.ofInt m).toInt32 = v) (k : Z x pc' ls (vi v :: st) w) : Z x pc ls (st) w := fun H locs la hl hP hS => lv_bipush hC.1 hC.2.1 hd hv (by subst hp; exact k H locs la hl hP hS)
theorem Z_sipush {x : CX} {own : String} {cc : ByteArray} {n d pc : Nat} {ls : LV} {st : List AV} {w : Wd} {m : Int} {v : Int32} (hC : Cx x own cc n d) (hd : decode cc pc = .ok (.sipush m, 3)) (pc' : Nat) (hp : pc + 3 = pc') (hv : (Int16.ofInt m).toInt32 = v) (k : Z x pc' ls (vi v :: st) w) : Z x pc ls (st) w := fun H locs la hl hP hS => lv_sipush hC.1 hC.2.1 hd hv (by subst hp; exact k H locs la hl hP hS)
theorem Z_lconst {x : CX} {own : String} {cc : ByteArray} {n d pc : Nat} {ls : LV} {st : List AV} {w : Wd} {m : Fin 2} {v : Int64} (hC : Cx x own cc n d) (hd : decode cc pc = .ok (.lconst m, 1)) (pc' : Nat) (hp : pc + 1 = pc') (hv : Int64.ofNat m = v) (k : Z x pc' ls (vl v :: st) w) : Z x pc ls (st) w := fun H locs la hl hP hS => lv_lconst hC.1 hC.2.1 hd hv (by subst hp; exact k H locs la hl hP hS)
theorem Z_iadd {x : CX} {own : String} {cc : ByteArray} {n d pc : Nat} {ls : LV} {st : List AV} {w : Wd} {x1 x2 : Int32} (hC : Cx x own cc n d) (hd : decode cc pc = .ok (.iadd, 1)) (pc' : Nat) (hp : pc + 1 = pc') (k : Z x pc' ls (vi (x1 + x2) :: st) w) : Z x pc ls (vi x2 :: vi x1 :: st) w := fun H locs la hl hP hS => lv_iadd hC.1 hC.2.1 hd (by subst hp; exact k H locs la hl hP hS)
theorem Z_isub {x : CX} {own : String} {cc : ByteArray} {n d pc : Nat} {ls : LV} {st : List AV} {w : Wd} {x1 x2 : Int32} (hC : Cx x own cc n d) (hd : decode cc pc = .ok (.isub, 1)) (pc' : Nat) (hp : pc + 1 = pc') (k : Z x pc' ls (vi (x1 - x2) :: st) w) : Z x pc ls (vi x2 :: vi x1 :: st) w := fun H locs la hl hP hS => lv_isub hC.1 hC.2.1 hd (by subst hp; exact k H locs la hl hP hS)
theorem Z_imul {x : CX} {own : String} {cc : ByteArray} {n d pc : Nat} {ls : LV} {st : List AV} {w : Wd} {x1 x2 : Int32} (hC : Cx x own cc n d) (hd : decode cc pc = .ok (.imul, 1)) (pc' : Nat) (hp : pc + 1 = pc') (k : Z x pc' ls (vi (x1 * x2) :: st) w) : Z x pc ls (vi x2 :: vi x1 :: st) w := fun H locs la hl hP hS => lv_imul hC.1 hC.2.1 hd (by subst hp; exact k H locs la hl hP hS)
theorem Z_iand {x : CX} {own : String} {cc : ByteArray} {n d pc : Nat} {ls : LV} {st : List AV} {w : Wd} {x1 x2 : Int32} (hC : Cx x own cc n d) (hd : decode cc pc = .ok (.iand, 1)) (pc' : Nat) (hp : pc + 1 = pc') (k : Z x pc' ls (vi (x1 &&& x2) :: st) w) : Z x pc ls (vi x2 :: vi x1 :: st) w := fun H locs la hl hP hS => lv_iand hC.1 hC.2.1 hd (by subst hp; exact k H locs la hl hP hS)
theorem Z_ior {x : CX} {own : String} {cc : ByteArray} {n d pc : Nat} {ls : LV} {st : List AV} {w : Wd} {x1 x2 : Int32} (hC : Cx x own cc n d) (hd : decode cc pc = .ok (.ior, 1)) (pc' : Nat) (hp : pc + 1 = pc') (k : Z x pc' ls (vi (x1 ||| x2) :: st) w) : Z x pc ls (vi x2 :: vi x1 :: st) w := fun H locs la hl hP hS => lv_ior hC.1 hC.2.1 hd (by subst hp; exact k H locs la hl hP hS)
theorem Z_ixor {x : CX} {own : String} {cc : ByteArray} {n d pc : Nat} {ls : LV} {st : List AV} {w : Wd} {x1 x2 : Int32} (hC : Cx x own cc n d) (hd : decode cc pc = .ok (.ixor, 1)) (pc' : Nat) (hp : pc + 1 = pc') (k : Z x pc' ls (vi (x1 ^^^ x2) :: st) w) : Z x pc ls (vi x2 :: vi x1 :: st) w := fun H locs la hl hP hS => lv_ixor hC.1 hC.2.1 hd (by subst hp; exact k H locs la hl hP hS)
theorem Z_ishl {x : CX} {own : String} {cc : ByteArray} {n d pc : Nat} {ls : LV} {st : List AV} {w : Wd} {x1 x2 : Int32} (hC : Cx x own cc n d) (hd : decode cc pc = .ok (.ishl, 1)) (pc' : Nat) (hp : pc + 1 = pc') (k : Z x pc' ls (vi (x1 <<< (x2 &&& 31)) :: st) w) : Z x pc ls (vi x2 :: vi x1 :: st) w := fun H locs la hl hP hS => lv_ishl hC.1 hC.2.1 hd (by subst hp; exact k H locs la hl hP hS)
theorem Z_ishr {x : CX} {own : String} {cc : ByteArray} {n d pc : Nat} {ls : LV} {st : List AV} {w : Wd} {x1 x2 : Int32} (hC : Cx x own cc n d) (hd : decode cc pc = .ok (.ishr, 1)) (pc' : Nat) (hp : pc + 1 = pc') (k : Z x pc' ls (vi (x1 >>> (x2 &&& 31)) :: st) w) : Z x pc ls (vi x2 :: vi x1 :: st) w := fun H locs la hl hP hS => lv_ishr hC.1 hC.2.1 hd (by subst hp; exact k H locs la hl hP hS)
theorem Z_idiv {x : CX} {own : String} {cc : ByteArray} {n d pc : Nat} {ls : LV} {st : List AV} {w : Wd} {x1 x2 : Int32} (hC : Cx x own cc n d) (hd : decode cc pc = .ok (.idiv, 1)) (pc' : Nat) (hp : pc + 1 = pc') (hne : ¬ x2 = 0) (k : Z x pc' ls (vi (x1 / x2) :: st) w) : Z x pc ls (vi x2 :: vi x1 :: st) w := fun H locs la hl hP hS => lv_idiv hC.1 hC.2.1 hd hne (by subst hp; exact k H locs la hl hP hS)
theorem Z_irem {x : CX} {own : String} {cc : ByteArray} {n d pc : Nat} {ls : LV} {st : List AV} {w : Wd} {x1 x2 : Int32} (hC : Cx x own cc n d) (hd : decode cc pc = .ok (.irem, 1)) (pc' : Nat) (hp : pc + 1 = pc') (hne : ¬ x2 = 0) (k : Z x pc' ls (vi (x1 - x1 / x2 * x2) :: st) w) : Z x pc ls (vi x2 :: vi x1 :: st) w := fun H locs la hl hP hS => lv_irem hC.1 hC.2.1 hd hne (by subst hp; exact k H locs la hl hP hS)
theorem Z_ineg {x : CX} {own : String} {cc : ByteArray} {n d pc : Nat} {ls : LV} {st : List AV} {w : Wd} {x1 : Int32} (hC : Cx x own cc n d) (hd : decode cc pc = .ok (.ineg, 1)) (pc' : Nat) (hp : pc + 1 = pc') (k : Z x pc' ls (vi (-x1) :: st) w) : Z x pc ls (vi x1 :: st) w := fun H locs la hl hP hS => lv_ineg hC.1 hC.2.1 hd (by subst hp; exact k H locs la hl hP hS)
theorem Z_iushr {x : CX} {own : String} {cc : ByteArray} {n d pc : Nat} {ls : LV} {st : List AV} {w : Wd} {x1 x2 : Int32} (hC : Cx x own cc n d) (hd : decode cc pc = .ok (.iushr, 1)) (pc' : Nat) (hp : pc + 1 = pc') (k : Z x pc' ls (vi ((x1.toUInt32 >>> (x2.toUInt32 &&& Int32.toUInt32 31)).toInt32) :: st) w) : Z x pc ls (vi x2 :: vi x1 :: st) w := fun H locs la hl hP hS => lv_iushr hC.1 hC.2.1 hd rfl (by subst hp; exact k H locs la hl hP hS)
theorem Z_ladd {x : CX} {own : String} {cc : ByteArray} {n d pc : Nat} {ls : LV} {st : List AV} {w : Wd} {x1 x2 : Int64} (hC : Cx x own cc n d) (hd : decode cc pc = .ok (.ladd, 1)) (pc' : Nat) (hp : pc + 1 = pc') (k : Z x pc' ls (vl (x1 + x2) :: st) w) : Z x pc ls (vl x2 :: vl x1 :: st) w := fun H locs la hl hP hS => lv_ladd hC.1 hC.2.1 hd (by subst hp; exact k H locs la hl hP hS)
theorem Z_lmul {x : CX} {own : String} {cc : ByteArray} {n d pc : Nat} {ls : LV} {st : List AV} {w : Wd} {x1 x2 : Int64} (hC : Cx x own cc n d) (hd : decode cc pc = .ok (.lmul, 1)) (pc' : Nat) (hp : pc + 1 = pc') (k : Z x pc' ls (vl (x1 * x2) :: st) w) : Z x pc ls (vl x2 :: vl x1 :: st) w := fun H locs la hl hP hS => lv_lmul hC.1 hC.2.1 hd (by subst hp; exact k H locs la hl hP hS)
theorem Z_ldiv {x : CX} {own : String} {cc : ByteArray} {n d pc : Nat} {ls : LV} {st : List AV} {w : Wd} {x1 x2 : Int64} (hC : Cx x own cc n d) (hd : decode cc pc = .ok (.ldiv, 1)) (pc' : Nat) (hp : pc + 1 = pc') (hne : ¬ x2 = 0) (k : Z x pc' ls (vl (x1 / x2) :: st) w) : Z x pc ls (vl x2 :: vl x1 :: st) w := fun H locs la hl hP hS => lv_ldiv hC.1 hC.2.1 hd hne (by subst hp; exact k H locs la hl hP hS)
theorem Z_lrem {x : CX} {own : String} {cc : ByteArray} {n d pc : Nat} {ls : LV} {st : List AV} {w : Wd} {x1 x2 : Int64} (hC : Cx x own cc n d) (hd : decode cc pc = .ok (.lrem, 1)) (pc' : Nat) (hp : pc + 1 = pc') (hne : ¬ x2 = 0) (k : Z x pc' ls (vl (x1 - x1 / x2 * x2) :: st) w) : Z x pc ls (vl x2 :: vl x1 :: st) w := fun H locs la hl hP hS => lv_lrem hC.1 hC.2.1 hd hne (by subst hp; exact k H locs la hl hP hS)
theorem Z_lcmp {x : CX} {own : String} {cc : ByteArray} {n d pc : Nat} {ls : LV} {st : List AV} {w : Wd} {x1 x2 : Int64} (hC : Cx x own cc n d) (hd : decode cc pc = .ok (.lcmp, 1)) (pc' : Nat) (hp : pc + 1 = pc') (k : Z x pc' ls (vi (lg_cmp x1 x2) :: st) w) : Z x pc ls (vl x2 :: vl x1 :: st) w := fun H locs la hl hP hS => W.lcmp hC.1 hC.2.1 hd (by subst hp; exact k H locs la hl hP hS)
theorem Z_i2l {x : CX} {own : String} {cc : ByteArray} {n d pc : Nat} {ls : LV} {st : List AV} {w : Wd} {x1 : Int32} (hC : Cx x own cc n d) (hd : decode cc pc = .ok (.i2l, 1)) (pc' : Nat) (hp : pc + 1 = pc') (k : Z x pc' ls (vl x1.toInt64 :: st) w) : Z x pc ls (vi x1 :: st) w := fun H locs la hl hP hS => lv_i2l hC.1 hC.2.1 hd rfl (by subst hp; exact k H locs la hl hP hS)
theorem Z_l2i {x : CX} {own : String} {cc : ByteArray} {n d pc : Nat} {ls : LV} {st : List AV} {w : Wd} {x1 : Int64} (hC : Cx x own cc n d) (hd : decode cc pc = .ok (.l2i, 1)) (pc' : Nat) (hp : pc + 1 = pc') (k : Z x pc' ls (vi x1.toInt32 :: st) w) : Z x pc ls (vl x1 :: st) w := fun H locs la hl hP hS => lv_l2i hC.1 hC.2.1 hd rfl (by subst hp; exact k H locs la hl hP hS)
theorem Z_i2b {x : CX} {own : String} {cc : ByteArray} {n d pc : Nat} {ls : LV} {st : List AV} {w : Wd} {x1 : Int32} (hC : Cx x own cc n d) (hd : decode cc pc = .ok (.i2b, 1)) (pc' : Nat) (hp : pc + 1 = pc') (k : Z x pc' ls (vi x1.toInt8.toInt32 :: st) w) : Z x pc ls (vi x1 :: st) w := fun H locs la hl hP hS => lv_i2b hC.1 hC.2.1 hd rfl (by subst hp; exact k H locs la hl hP hS)
theorem Z_dup {x : CX} {own : String} {cc : ByteArray} {n d pc : Nat} {ls : LV} {st : List AV} {w : Wd} {a : AV} (hC : Cx x own cc n d) (hd : decode cc pc = .ok (.dup, 1)) (pc' : Nat) (hp : pc + 1 = pc') (hc : cat a = 1) (k : Z x pc' ls (a :: a :: st) w) : Z x pc ls (a :: st) w := fun H locs la hl hP hS => lv_dup hC.1 hC.2.1 hd (by rw [cv_cat]; exact hc) (by subst hp; exact k H locs la hl hP hS)
theorem Z_pop {x : CX} {own : String} {cc : ByteArray} {n d pc : Nat} {ls : LV} {st : List AV} {w : Wd} {a : AV} (hC : Cx x own cc n d) (hd : decode cc pc = .ok (.pop, 1)) (pc' : Nat) (hp : pc + 1 = pc') (hc : cat a = 1) (k : Z x pc' ls (st) w) : Z x pc ls (a :: st) w := fun H locs la hl hP hS => lv_pop hC.1 hC.2.1 hd (by rw [cv_cat]; exact hc) (by subst hp; exact k H locs la hl hP hS)
theorem Z_dup2 {x : CX} {own : String} {cc : ByteArray} {n d pc : Nat} {ls : LV} {st : List AV} {w : Wd} {a b : AV} (hC : Cx x own cc n d) (hd : decode cc pc = .ok (.dup2, 1)) (pc' : Nat) (hp : pc + 1 = pc') (hc : cat a = 1) (hc2 : cat b = 1) (k : Z x pc' ls (a :: b :: a :: b :: st) w) : Z x pc ls (a :: b :: st) w := fun H locs la hl hP hS => lv_dup2_11 hC.1 hC.2.1 hd (by rw [cv_cat]; exact hc) (by rw [cv_cat]; exact hc2) (by subst hp; exact k H locs la hl hP hS)
theorem Z_iload_n {x : CX} {own : String} {cc : ByteArray} {n d pc : Nat} {ls : LV} {st : List AV} {w : Wd} {f : Fin 4} {i : Nat} {v : Int32} (hC : Cx x own cc n d) (hd : decode cc pc = .ok (.iload_n f, 1)) (pc' : Nat) (hp : pc + 1 = pc') (hi : (f : Nat) = i) (hv : ls[i]? = some (some (vi v))) (k : Z x pc' ls (vi v :: st) w) : Z x pc ls (st) w := fun H locs la hl hP hS => lv_iload_n hC.1 hC.2.1 hd hi (hl.2.2 i _ hv) (by subst hp; exact k H locs la hl hP hS)
theorem Z_iload {x : CX} {own : String} {cc : ByteArray} {n d pc : Nat} {ls : LV} {st : List AV} {w : Wd} {i : Nat} {v : Int32} (hC : Cx x own cc n d) (hd : decode cc pc = .ok (.iload i, 2)) (pc' : Nat) (hp : pc + 2 = pc') (hv : ls[i]? = some (some (vi v))) (k : Z x pc' ls (vi v :: st) w) : Z x pc ls (st) w := fun H locs la hl hP hS => lv_iload hC.1 hC.2.1 hd (hl.2.2 i _ hv) (by subst hp; exact k H locs la hl hP hS)
theorem Z_lload_n {x : CX} {own : String} {cc : ByteArray} {n d pc : Nat} {ls : LV} {st : List AV} {w : Wd} {f : Fin 4} {i : Nat} {v : Int64} (hC : Cx x own cc n d) (hd : decode cc pc = .ok (.lload_n f, 1)) (pc' : Nat) (hp : pc + 1 = pc') (hi : (f : Nat) = i) (hv : ls[i]? = some (some (vl v))) (k : Z x pc' ls (vl v :: st) w) : Z x pc ls (st) w := fun H locs la hl hP hS => lv_lload_n hC.1 hC.2.1 hd hi (hl.2.2 i _ hv) (by subst hp; exact k H locs la hl hP hS)
theorem Z_lload {x : CX} {own : String} {cc : ByteArray} {n d pc : Nat} {ls : LV} {st : List AV} {w : Wd} {i : Nat} {v : Int64} (hC : Cx x own cc n d) (hd : decode cc pc = .ok (.lload i, 2)) (pc' : Nat) (hp : pc + 2 = pc') (hv : ls[i]? = some (some (vl v))) (k : Z x pc' ls (vl v :: st) w) : Z x pc ls (st) w := fun H locs la hl hP hS => lv_lload hC.1 hC.2.1 hd (hl.2.2 i _ hv) (by subst hp; exact k H locs la hl hP hS)
theorem Z_aload_n {x : CX} {own : String} {cc : ByteArray} {n d pc : Nat} {ls : LV} {st : List AV} {w : Wd} {f : Fin 4} {i g j : Nat} (hC : Cx x own cc n d) (hd : decode cc pc = .ok (.aload_n f, 1)) (pc' : Nat) (hp : pc + 1 = pc') (hi : (f : Nat) = i) (hv : ls[i]? = some (some (vr g j))) (k : Z x pc' ls (vr g j :: st) w) : Z x pc ls (st) w := fun H locs la hl hP hS => lv_aload_n hC.1 hC.2.1 hd hi (hl.2.2 i _ hv) (by subst hp; exact k H locs la hl hP hS)
theorem Z_aload {x : CX} {own : String} {cc : ByteArray} {n d pc : Nat} {ls : LV} {st : List AV} {w : Wd} {i g j : Nat} (hC : Cx x own cc n d) (hd : decode cc pc = .ok (.aload i, 2)) (pc' : Nat) (hp : pc + 2 = pc') (hv : ls[i]? = some (some (vr g j))) (k : Z x pc' ls (vr g j :: st) w) : Z x pc ls (st) w := fun H locs la hl hP hS => lv_aload hC.1 hC.2.1 hd (hl.2.2 i _ hv) (by subst hp; exact k H locs la hl hP hS)
theorem Z_istore_n {x : CX} {own : String} {cc : ByteArray} {n d pc i : Nat} {ls : LV} {st : List AV} {w : Wd} {f : Fin 4} {v : Int32} (hC : Cx x own cc n d) (hd : decode cc pc = .ok (.istore_n f, 1)) (pc' : Nat) (hp : pc + 1 = pc') (he : (f : Nat) = i) (hi : i < ls.length) (ls' : LV) (hls : sto1 ls i (vi v) = ls') (k : Z x pc' ls' st w) : Z x pc ls (vi v :: st) w := fun H locs la hl hP hS => lv_istore_n hC.1 hC.2.1 hd he (lvr_has hl) hi rfl (fun la' h' => by subst hp; subst hls; exact k H locs la' (lvr_sto1 (v := vi v) hi h') hP hS)
theorem Z_istore {x : CX} {own : String} {cc : ByteArray} {n d pc i : Nat} {ls : LV} {st : List AV} {w : Wd} {v : Int32} (hC : Cx x own cc n d) (hd : decode cc pc = .ok (.istore i, 2)) (pc' : Nat) (hp : pc + 2 = pc') (hi : i < ls.length) (ls' : LV) (hls : sto1 ls i (vi v) = ls') (k : Z x pc' ls' st w) : Z x pc ls (vi v :: st) w := fun H locs la hl hP hS => lv_istore hC.1 hC.2.1 hd (lvr_has hl) hi rfl (fun la' h' => by subst hp; subst hls; exact k H locs la' (lvr_sto1 (v := vi v) hi h') hP hS)
theorem Z_lstore_n {x : CX} {own : String} {cc : ByteArray} {n d pc i : Nat} {ls : LV} {st : List AV} {w : Wd} {f : Fin 4} {v : Int64} (hC : Cx x own cc n d) (hd : decode cc pc = .ok (.lstore_n f, 1)) (pc' : Nat) (hp : pc + 1 = pc') (he : (f : Nat) = i) (hi : i + 1 < ls.length) (ls' : LV) (hls : sto2 ls i (vl v) = ls') (k : Z x pc' ls' st w) : Z x pc ls (vl v :: st) w := fun H locs la hl hP hS => lv_lstore_n hC.1 hC.2.1 hd he (lvr_has hl) hi rfl (fun la' h' => by subst hp; subst hls; exact k H locs la' (lvr_sto2 (v := vl v) hi h') hP hS)
theorem Z_lstore {x : CX} {own : String} {cc : ByteArray} {n d pc i : Nat} {ls : LV} {st : List AV} {w : Wd} {v : Int64} (hC : Cx x own cc n d) (hd : decode cc pc = .ok (.lstore i, 2)) (pc' : Nat) (hp : pc + 2 = pc') (hi : i + 1 < ls.length) (ls' : LV) (hls : sto2 ls i (vl v) = ls') (k : Z x pc' ls' st w) : Z x pc ls (vl v :: st) w := fun H locs la hl hP hS => lv_lstore hC.1 hC.2.1 hd (lvr_has hl) hi rfl (fun la' h' => by subst hp; subst hls; exact k H locs la' (lvr_sto2 (v := vl v) hi h') hP hS)
theorem Z_iinc {x : CX} {own : String} {cc : ByteArray} {n d pc i : Nat} {ls : LV} {st : List AV} {w : Wd} {m : Int} {v v' : Int32} (hC : Cx x own cc n d) (hd : decode cc pc = .ok (.iinc i m, 3)) (pc' : Nat) (hp : pc + 3 = pc') (hv : ls[i]? = some (some (vi v))) (hv' : v + Int32.ofInt m = v') (ls' : LV) (hls : sto1 ls i (vi v') = ls') (k : Z x pc' ls' st w) : Z x pc ls st w := fun H locs la hl hP hS => by
  have hi : i < ls.length := (List.getElem?_eq_some_iff.mp hv).1
  obtain ⟨j, hj⟩ := List.getElem?_of_mem (prs_mem (G := xG x).mpr ⟨i, vi v, hv, rfl⟩)
  exact lv_iinc hC.1 hC.2.1 hd (lvr_has hl) hj hv' hi rfl (fun la' h' => by subst hp; subst hls; exact k H locs la' (lvr_sto1 (v := vi v') hi h') hP hS)
theorem Z_goto {x : CX} {own : String} {cc : ByteArray} {n d pc : Nat} {ls : LV} {st : List AV} {w : Wd} {off : Int} (hC : Cx x own cc n d) (hd : decode cc pc = .ok (.goto off, 3)) (tgt : Nat) (ht : (pc : Int) + off = (tgt : Int)) (k : Z x tgt ls st w) : Z x pc ls st w := fun H locs la hl hP hS => lv_goto hC.1 hC.2.1 hd ht (k H locs la hl hP hS)
theorem Z_if_eq {x : CX} {own : String} {cc : ByteArray} {n d pc : Nat} {ls : LV} {st : List AV} {w : Wd} {x1 : Int32} {off : Int} (hC : Cx x own cc n d) (hd : decode cc pc = .ok (.ifCond .eq off, 3)) (pc' tgt : Nat) (hp : pc + 3 = pc') (ht : (pc : Int) + off = (tgt : Int)) (kt : x1 = 0 → Z x tgt ls st w) (kf : ¬ x1 = 0 → Z x pc' ls st w) : Z x pc ls (vi x1 :: st) w := fun H locs la hl hP hS => lv_if_eq hC.1 hC.2.1 hd ht (fun c => kt c H locs la hl hP hS) (fun c => by subst hp; exact kf c H locs la hl hP hS)
theorem Z_icmp_eq {x : CX} {own : String} {cc : ByteArray} {n d pc : Nat} {ls : LV} {st : List AV} {w : Wd} {x1 x2 : Int32} {off : Int} (hC : Cx x own cc n d) (hd : decode cc pc = .ok (.if_icmp .eq off, 3)) (pc' tgt : Nat) (hp : pc + 3 = pc') (ht : (pc : Int) + off = (tgt : Int)) (kt : x1 = x2 → Z x tgt ls st w) (kf : ¬ x1 = x2 → Z x pc' ls st w) : Z x pc ls (vi x2 :: vi x1 :: st) w := fun H locs la hl hP hS => lv_icmp_eq hC.1 hC.2.1 hd ht (fun c => kt c H locs la hl hP hS) (fun c => by subst hp; exact kf c H locs la hl hP hS)
theorem Z_if_ne {x : CX} {own : String} {cc : ByteArray} {n d pc : Nat} {ls : LV} {st : List AV} {w : Wd} {x1 : Int32} {off : Int} (hC : Cx x own cc n d) (hd : decode cc pc = .ok (.ifCond .ne off, 3)) (pc' tgt : Nat) (hp : pc + 3 = pc') (ht : (pc : Int) + off = (tgt : Int)) (kt : ¬ x1 = 0 → Z x tgt ls st w) (kf : x1 = 0 → Z x pc' ls st w) : Z x pc ls (vi x1 :: st) w := fun H locs la hl hP hS => lv_if_ne hC.1 hC.2.1 hd ht (fun c => kt c H locs la hl hP hS) (fun c => by subst hp; exact kf c H locs la hl hP hS)
theorem Z_icmp_ne {x : CX} {own : String} {cc : ByteArray} {n d pc : Nat} {ls : LV} {st : List AV} {w : Wd} {x1 x2 : Int32} {off : Int} (hC : Cx x own cc n d) (hd : decode cc pc = .ok (.if_icmp .ne off, 3)) (pc' tgt : Nat) (hp : pc + 3 = pc') (ht : (pc : Int) + off = (tgt : Int)) (kt : ¬ x1 = x2 → Z x tgt ls st w) (kf : x1 = x2 → Z x pc' ls st w) : Z x pc ls (vi x2 :: vi x1 :: st) w := fun H locs la hl hP hS => lv_icmp_ne hC.1 hC.2.1 hd ht (fun c => kt c H locs la hl hP hS) (fun c => by subst hp; exact kf c H locs la hl hP hS)
theorem Z_if_lt {x : CX} {own : String} {cc : ByteArray} {n d pc : Nat} {ls : LV} {st : List AV} {w : Wd} {x1 : Int32} {off : Int} (hC : Cx x own cc n d) (hd : decode cc pc = .ok (.ifCond .lt off, 3)) (pc' tgt : Nat) (hp : pc + 3 = pc') (ht : (pc : Int) + off = (tgt : Int)) (kt : x1 < 0 → Z x tgt ls st w) (kf : ¬ x1 < 0 → Z x pc' ls st w) : Z x pc ls (vi x1 :: st) w := fun H locs la hl hP hS => lv_if_lt hC.1 hC.2.1 hd ht (fun c => kt c H locs la hl hP hS) (fun c => by subst hp; exact kf c H locs la hl hP hS)
theorem Z_icmp_lt {x : CX} {own : String} {cc : ByteArray} {n d pc : Nat} {ls : LV} {st : List AV} {w : Wd} {x1 x2 : Int32} {off : Int} (hC : Cx x own cc n d) (hd : decode cc pc = .ok (.if_icmp .lt off, 3)) (pc' tgt : Nat) (hp : pc + 3 = pc') (ht : (pc : Int) + off = (tgt : Int)) (kt : x1 < x2 → Z x tgt ls st w) (kf : ¬ x1 < x2 → Z x pc' ls st w) : Z x pc ls (vi x2 :: vi x1 :: st) w := fun H locs la hl hP hS => lv_icmp_lt hC.1 hC.2.1 hd ht (fun c => kt c H locs la hl hP hS) (fun c => by subst hp; exact kf c H locs la hl hP hS)
theorem Z_if_ge {x : CX} {own : String} {cc : ByteArray} {n d pc : Nat} {ls : LV} {st : List AV} {w : Wd} {x1 : Int32} {off : Int} (hC : Cx x own cc n d) (hd : decode cc pc = .ok (.ifCond .ge off, 3)) (pc' tgt : Nat) (hp : pc + 3 = pc') (ht : (pc : Int) + off = (tgt : Int)) (kt : 0 ≤ x1 → Z x tgt ls st w) (kf : ¬ 0 ≤ x1 → Z x pc' ls st w) : Z x pc ls (vi x1 :: st) w := fun H locs la hl hP hS => lv_if_ge hC.1 hC.2.1 hd ht (fun c => kt c H locs la hl hP hS) (fun c => by subst hp; exact kf c H locs la hl hP hS)
theorem Z_icmp_ge {x : CX} {own : String} {cc : ByteArray} {n d pc : Nat} {ls : LV} {st : List AV} {w : Wd} {x1 x2 : Int32} {off : Int} (hC : Cx x own cc n d) (hd : decode cc pc = .ok (.if_icmp .ge off, 3)) (pc' tgt : Nat) (hp : pc + 3 = pc') (ht : (pc : Int) + off = (tgt : Int)) (kt : x2 ≤ x1 → Z x tgt ls st w) (kf : ¬ x2 ≤ x1 → Z x pc' ls st w) : Z x pc ls (vi x2 :: vi x1 :: st) w := fun H locs la hl hP hS => lv_icmp_ge hC.1 hC.2.1 hd ht (fun c => kt c H locs la hl hP hS) (fun c => by subst hp; exact kf c H locs la hl hP hS)
theorem Z_if_gt {x : CX} {own : String} {cc : ByteArray} {n d pc : Nat} {ls : LV} {st : List AV} {w : Wd} {x1 : Int32} {off : Int} (hC : Cx x own cc n d) (hd : decode cc pc = .ok (.ifCond .gt off, 3)) (pc' tgt : Nat) (hp : pc + 3 = pc') (ht : (pc : Int) + off = (tgt : Int)) (kt : 0 < x1 → Z x tgt ls st w) (kf : ¬ 0 < x1 → Z x pc' ls st w) : Z x pc ls (vi x1 :: st) w := fun H locs la hl hP hS => lv_if_gt hC.1 hC.2.1 hd ht (fun c => kt c H locs la hl hP hS) (fun c => by subst hp; exact kf c H locs la hl hP hS)
theorem Z_icmp_gt {x : CX} {own : String} {cc : ByteArray} {n d pc : Nat} {ls : LV} {st : List AV} {w : Wd} {x1 x2 : Int32} {off : Int} (hC : Cx x own cc n d) (hd : decode cc pc = .ok (.if_icmp .gt off, 3)) (pc' tgt : Nat) (hp : pc + 3 = pc') (ht : (pc : Int) + off = (tgt : Int)) (kt : x2 < x1 → Z x tgt ls st w) (kf : ¬ x2 < x1 → Z x pc' ls st w) : Z x pc ls (vi x2 :: vi x1 :: st) w := fun H locs la hl hP hS => lv_icmp_gt hC.1 hC.2.1 hd ht (fun c => kt c H locs la hl hP hS) (fun c => by subst hp; exact kf c H locs la hl hP hS)
theorem Z_if_le {x : CX} {own : String} {cc : ByteArray} {n d pc : Nat} {ls : LV} {st : List AV} {w : Wd} {x1 : Int32} {off : Int} (hC : Cx x own cc n d) (hd : decode cc pc = .ok (.ifCond .le off, 3)) (pc' tgt : Nat) (hp : pc + 3 = pc') (ht : (pc : Int) + off = (tgt : Int)) (kt : x1 ≤ 0 → Z x tgt ls st w) (kf : ¬ x1 ≤ 0 → Z x pc' ls st w) : Z x pc ls (vi x1 :: st) w := fun H locs la hl hP hS => lv_if_le hC.1 hC.2.1 hd ht (fun c => kt c H locs la hl hP hS) (fun c => by subst hp; exact kf c H locs la hl hP hS)
theorem Z_icmp_le {x : CX} {own : String} {cc : ByteArray} {n d pc : Nat} {ls : LV} {st : List AV} {w : Wd} {x1 x2 : Int32} {off : Int} (hC : Cx x own cc n d) (hd : decode cc pc = .ok (.if_icmp .le off, 3)) (pc' tgt : Nat) (hp : pc + 3 = pc') (ht : (pc : Int) + off = (tgt : Int)) (kt : x1 ≤ x2 → Z x tgt ls st w) (kf : ¬ x1 ≤ x2 → Z x pc' ls st w) : Z x pc ls (vi x2 :: vi x1 :: st) w := fun H locs la hl hP hS => lv_icmp_le hC.1 hC.2.1 hd ht (fun c => kt c H locs la hl hP hS) (fun c => by subst hp; exact kf c H locs la hl hP hS)
theorem Z_get {x : CX} {own : String} {cc : ByteArray} {n d pc : Nat} {ls : LV} {st : List AV} {w : Wd} {g i idx : Nat} {C : String} {T : u_T} {N : Nat} {fd : FD} (hC : Cx x own cc n d) (hm : (g, i) ∈ gis) (h10 : g < 10) (hc : cls[(lay g).1]? = some (C, T, N)) (hin : ∀ w ∈ u_ws C T N, w ∈ ww) (k : Nat) (hk : k < N) (hlk : Cond.fieldLink own idx C (T k).2.1 (T k).2.2.1 ∈ ww) (hs : (T k).1 = C) (hf : (lay g).2[k]? = some fd) (hd : decode cc pc = .ok (.getfield idx, 3)) (pc' : Nat) (hp : pc + 3 = pc') (kk : Z x pc' ls (fv w i fd :: st) w) : Z x pc ls (vr g i :: st) w := fun H locs la hl hP hS => by
  obtain ⟨q0, hq⟩ := List.getElem?_of_mem hm
  have he := wl_at (xG x) w hq
  rw [cel_obj h10] at he
  refine va_get (D := (xG x).1) (v := cv (xG x) (fv w i fd)) (fs := (lay g).2.map (fun d => cv (xG x) (fv w i d))) hC.1 hC.2.1 hC.2.2.2.1 hin hC.2.2.1 hC.2.2.2.2.1 hP q0 he hc k hk (hC.2.2.2.1 _ hlk) (fun z hz => by rw [hs] at hz; exact hz) ?_ hd ?_
  · rw [List.getElem?_map, hf]; rfl
  · subst hp; exact kk H locs la hl hP hS
theorem Z_putI {x : CX} {own : String} {cc : ByteArray} {n d pc : Nat} {ls : LV} {st : List AV} {w : Wd} {g i idx f : Nat} {C : String} {T : u_T} {N : Nat} {v : Int32} (ty0 : Nat → FieldType) (ty : FieldType) (hC : Cx x own cc n d) (hm : (g, i) ∈ gis) (h10 : g < 10) (hc : cls[(lay g).1]? = some (C, T, N)) (hin : ∀ w ∈ u_ws C T N, w ∈ ww) (hty : ∀ k, k < N → parseFieldDescriptor (T k).2.2.1 = some (ty0 k)) (hnm : ∀ a, a < N → ∀ b, b < N → a ≠ b → (T a).2.1 ≠ (T b).2.1) (k : Nat) (hk : k < N) (hlk : Cond.fieldLink own idx C (T k).2.1 (T k).2.2.1 ∈ ww) (hs : (T k).1 = C) (hfin : (T k).2.2.2 = false) (hpd : parseFieldDescriptor (T k).2.2.1 = some ty) (hn : narrow ty (.int v) = .int v) (hft : fits ty (.int v) = true) (ok : okI g k f = true) (hd : decode cc pc = .ok (.putfield idx, 3)) (pc' : Nat) (hp : pc + 3 = pc') (kk : Z x pc' ls st (sI w f i v)) : Z x pc ls (vi v :: vr g i :: st) w := fun H locs la hl hP hS => by
  obtain ⟨q0, hq⟩ := List.getElem?_of_mem hm
  have he := wl_at (xG x) w hq
  rw [cel_obj h10] at he
  have hlen : k < ((lay g).2.map (fun d => cv (xG x) (fv w i d))).length := by
    rw [List.length_map]; exact (List.getElem?_eq_some_iff.mp (okI_spec ok).1).1
  refine va_put (D := (xG x).1) (v := .int v) (ty := ty) (fs := (lay g).2.map (fun d => cv (xG x) (fv w i d))) hC.1 hC.2.1 hC.2.2.2.1 hin ty0 hty hnm hC.2.2.1 hC.2.2.2.2.1 hP (wl_D hC.2.2.2.2.2.1 w) hS q0 he hc k hk (hC.2.2.2.1 _ hlk) (fun z hz => by rw [hs] at hz; exact hz) hfin hpd hn hft hlen hd (fun H1 locs1 hP1 _ hS1 => ?_)
  rw [set_sI (f := f) (v := v) hq h10 ok] at hP1
  subst hp; exact kk H1 locs1 la hl hP1 hS1
theorem Z_putL {x : CX} {own : String} {cc : ByteArray} {n d pc : Nat} {ls : LV} {st : List AV} {w : Wd} {g i idx f : Nat} {C : String} {T : u_T} {N : Nat} {v : Int64} (ty0 : Nat → FieldType) (ty : FieldType) (hC : Cx x own cc n d) (hm : (g, i) ∈ gis) (h10 : g < 10) (hc : cls[(lay g).1]? = some (C, T, N)) (hin : ∀ w ∈ u_ws C T N, w ∈ ww) (hty : ∀ k, k < N → parseFieldDescriptor (T k).2.2.1 = some (ty0 k)) (hnm : ∀ a, a < N → ∀ b, b < N → a ≠ b → (T a).2.1 ≠ (T b).2.1) (k : Nat) (hk : k < N) (hlk : Cond.fieldLink own idx C (T k).2.1 (T k).2.2.1 ∈ ww) (hs : (T k).1 = C) (hfin : (T k).2.2.2 = false) (hpd : parseFieldDescriptor (T k).2.2.1 = some ty) (hn : narrow ty (.long v) = .long v) (hft : fits ty (.long v) = true) (ok : okL g k f = true) (hd : decode cc pc = .ok (.putfield idx, 3)) (pc' : Nat) (hp : pc + 3 = pc') (kk : Z x pc' ls st (sL w f i v)) : Z x pc ls (vl v :: vr g i :: st) w := fun H locs la hl hP hS => by
  obtain ⟨q0, hq⟩ := List.getElem?_of_mem hm
  have he := wl_at (xG x) w hq
  rw [cel_obj h10] at he
  have hlen : k < ((lay g).2.map (fun d => cv (xG x) (fv w i d))).length := by
    rw [List.length_map]; exact (List.getElem?_eq_some_iff.mp (okL_spec ok).1).1
  refine va_put (D := (xG x).1) (v := .long v) (ty := ty) (fs := (lay g).2.map (fun d => cv (xG x) (fv w i d))) hC.1 hC.2.1 hC.2.2.2.1 hin ty0 hty hnm hC.2.2.1 hC.2.2.2.2.1 hP (wl_D hC.2.2.2.2.2.1 w) hS q0 he hc k hk (hC.2.2.2.1 _ hlk) (fun z hz => by rw [hs] at hz; exact hz) hfin hpd hn hft hlen hd (fun H1 locs1 hP1 _ hS1 => ?_)
  rw [set_sL (f := f) (v := v) hq h10 ok] at hP1
  subst hp; exact kk H1 locs1 la hl hP1 hS1
theorem Z_iaload {x : CX} {own : String} {cc : ByteArray} {n d pc : Nat} {ls : LV} {st : List AV} {w : Wd} {g i : Nat} {j : Int32} (hC : Cx x own cc n d) (hm : (g, i) ∈ gis) (h10 : ¬ g < 10) (hk : (arr g).1 = 0) (hin : vp_in j (arr g).2) (hd : decode cc pc = .ok (.iaload, 1)) (pc' : Nat) (hp : pc + 1 = pc') (kk : Z x pc' ls (vi (gA w g i j.toNatClampNeg) :: st) w) : Z x pc ls (vi j :: vr g i :: st) w := fun H locs la hl hP hS => by
  obtain ⟨q0, hq⟩ := List.getElem?_of_mem hm
  have he := wl_at (xG x) w hq
  rw [cel_arr h10 (by rw [hk]; decide), hk] at he
  refine va_iald (D := (xG x).1) hC.1 hC.2.1 hC.2.2.2.2.1 hP q0 0 he rfl hin hd ?_
  subst hp; exact kk H locs la hl hP hS
theorem Z_baload {x : CX} {own : String} {cc : ByteArray} {n d pc : Nat} {ls : LV} {st : List AV} {w : Wd} {g i : Nat} {j : Int32} (hC : Cx x own cc n d) (hm : (g, i) ∈ gis) (h10 : ¬ g < 10) (hk : (arr g).1 = 1) (hin : vp_in j (arr g).2) (hd : decode cc pc = .ok (.baload, 1)) (pc' : Nat) (hp : pc + 1 = pc') (kk : Z x pc' ls (vi (gA w g i j.toNatClampNeg) :: st) w) : Z x pc ls (vi j :: vr g i :: st) w := fun H locs la hl hP hS => by
  obtain ⟨q0, hq⟩ := List.getElem?_of_mem hm
  have he := wl_at (xG x) w hq
  rw [cel_arr h10 (by rw [hk]; decide), hk] at he
  refine va_bald (D := (xG x).1) hC.1 hC.2.1 hC.2.2.2.2.1 hP q0 1 he rfl hin hd ?_
  subst hp; exact kk H locs la hl hP hS
theorem Z_iastore {x : CX} {own : String} {cc : ByteArray} {n d pc : Nat} {ls : LV} {st : List AV} {w : Wd} {g i : Nat} {j v : Int32} (hC : Cx x own cc n d) (hm : (g, i) ∈ gis) (h10 : ¬ g < 10) (hk : (arr g).1 = 0) (hin : vp_in j (arr g).2) (hd : decode cc pc = .ok (.iastore, 1)) (pc' : Nat) (hp : pc + 1 = pc') (kk : Z x pc' ls st (sA w g i (upd (gA w g i) j.toNatClampNeg v))) : Z x pc ls (vi v :: vi j :: vr g i :: st) w := fun H locs la hl hP hS => by
  obtain ⟨q0, hq⟩ := List.getElem?_of_mem hm
  have he := wl_at (xG x) w hq
  rw [cel_arr h10 (by rw [hk]; decide), hk] at he
  refine va_iast (D := (xG x).1) hC.1 hC.2.1 hC.2.2.2.2.1 hP (wl_D hC.2.2.2.2.2.1 w) hS q0 0 he rfl hin hd (fun H1 locs1 hP1 _ hS1 => ?_)
  have hset := set_sA (G := xG x) (w := w) (v := upd (gA w g i) j.toNatClampNeg v) hq h10 (by rw [hk]; decide)
  rw [hk] at hset
  rw [hset] at hP1
  subst hp; exact kk H1 locs1 la hl hP1 hS1
theorem Z_bastore {x : CX} {own : String} {cc : ByteArray} {n d pc : Nat} {ls : LV} {st : List AV} {w : Wd} {g i : Nat} {j v : Int32} (hC : Cx x own cc n d) (hm : (g, i) ∈ gis) (h10 : ¬ g < 10) (hk : (arr g).1 = 1) (hin : vp_in j (arr g).2) (hd : decode cc pc = .ok (.bastore, 1)) (pc' : Nat) (hp : pc + 1 = pc') (kk : Z x pc' ls st (sA w g i (upd (gA w g i) j.toNatClampNeg (vp_nar .byte v)))) : Z x pc ls (vi v :: vi j :: vr g i :: st) w := fun H locs la hl hP hS => by
  obtain ⟨q0, hq⟩ := List.getElem?_of_mem hm
  have he := wl_at (xG x) w hq
  rw [cel_arr h10 (by rw [hk]; decide), hk] at he
  refine va_bast (D := (xG x).1) hC.1 hC.2.1 hC.2.2.2.2.1 hP (wl_D hC.2.2.2.2.2.1 w) hS q0 1 he rfl hin hd (fun H1 locs1 hP1 _ hS1 => ?_)
  have hset := set_sA (G := xG x) (w := w) (v := upd (gA w g i) j.toNatClampNeg (vp_nar .byte v)) hq h10 (by rw [hk]; decide)
  rw [hk] at hset
  rw [hset] at hP1
  subst hp; exact kk H1 locs1 la hl hP1 hS1
theorem Z_alen {x : CX} {own : String} {cc : ByteArray} {n d pc : Nat} {ls : LV} {st : List AV} {w : Wd} {g i : Nat} {v : Int32} (hC : Cx x own cc n d) (hm : (g, i) ∈ gis) (h10 : ¬ g < 10) (hk : (arr g).1 < 2) (hv : Int32.ofNat (arr g).2 = v) (hd : decode cc pc = .ok (.arraylength, 1)) (pc' : Nat) (hp : pc + 1 = pc') (kk : Z x pc' ls (vi v :: st) w) : Z x pc ls (vr g i :: st) w := fun H locs la hl hP hS => by
  obtain ⟨q0, hq⟩ := List.getElem?_of_mem hm
  have he := wl_at (xG x) w hq
  rw [cel_arr h10 hk] at he
  have ht : ∃ ty, (tyG (xG x))[(arr g).1]? = some ((xG x).2.1 (arr g).1, ty) := by
    rcases (show (arr g).1 = 0 ∨ (arr g).1 = 1 by omega) with e | e <;> rw [e] <;> exact ⟨_, rfl⟩
  obtain ⟨ty, ht⟩ := ht
  refine va_alen (D := (xG x).1) hC.1 hC.2.1 hC.2.2.2.2.1 hP q0 (arr g).1 he ht hv hd ?_
  subst hp; exact kk H locs la hl hP hS
theorem Z_aaload {x : CX} {own : String} {cc : ByteArray} {n d pc : Nat} {ls : LV} {st : List AV} {w : Wd} {g i : Nat} {j : Int32} (hC : Cx x own cc n d) (hm : (g, i) ∈ gis) (h10 : ¬ g < 10) (hk : (arr g).1 = 2 ∨ (arr g).1 = 3) (hin : vp_in j (arr g).2) (hd : decode cc pc = .ok (.aaload, 1)) (pc' : Nat) (hp : pc + 1 = pc') (kk : Z x pc' ls (vr (g + 1) j.toNatClampNeg :: st) w) : Z x pc ls (vi j :: vr g i :: st) w := fun H locs la hl hP hS => by
  obtain ⟨q0, hq⟩ := List.getElem?_of_mem hm
  have he := wl_at (xG x) w hq
  rw [cel_out h10 (by omega)] at he
  have hlt : j.toNatClampNeg < (arr g).2 := Nat.not_le.mp fun q => hin (Or.inr q)
  have ht : ∃ ty, (tyG (xG x))[(arr g).1]? = some ((xG x).2.1 (arr g).1, .array ty) := by
    rcases hk with e | e <;> rw [e] <;> exact ⟨_, rfl⟩
  obtain ⟨ty, ht⟩ := ht
  refine W.aald (v := .ref ((xG x).2.2 (g + 1) j.toNatClampNeg)) (ty := .array ty) hC.1 hC.2.1 (hP q0 _ he) ((hC.2.2.2.2.1.2 _ _ ht).1 (arr g).2 (fun k => va_rf (if k < (arr g).2 then some ((xG x).2.2 (g + 1) k) else none))) rfl (fun q => by cases q) (by show ¬ (j < 0 ∨ (arrV _ _ _).slots.size ≤ _); rw [arrV_size]; exact hin) (by show (arrV _ _ _).slots[_]? = _; rw [arrV_read _ _ hlt]; show some (va_rf (if j.toNatClampNeg < (arr g).2 then _ else none)) = _; rw [if_pos hlt]; rfl) rfl rfl hd ?_
  subst hp; exact kk H locs la hl hP hS
theorem Z_getLet {x : CX} {own : String} {cc : ByteArray} {n d pc : Nat} {ls : LV} {st : List AV} {w : Wd} {idx : Nat} (hC : Cx x own cc n d) (hlk : Cond.fieldLink own idx "HatDraw" "LETTERS" "[I" ∈ ww) (hd : decode cc pc = .ok (.getstatic idx, 3)) (pc' : Nat) (hp : pc + 3 = pc') (kk : Z x pc' ls (vr 50 0 :: st) w) : Z x pc ls st w := fun H locs la hl hP hS => by
  refine va_gets hC.1 hC.2.1 hC.2.2.2.2.2.2.1.1 hS hC.2.2.1 (hC.2.2.2.1 _ hlk) (fun _ h => h) hd ?_
  subst hp; exact kk H locs la hl hP hS
theorem Z_ldLet {x : CX} {own : String} {cc : ByteArray} {n d pc : Nat} {ls : LV} {st : List AV} {w : Wd} {j : Int32} (hC : Cx x own cc n d) (hin : vp_in j 6) (hd : decode cc pc = .ok (.iaload, 1)) (pc' : Nat) (hp : pc + 1 = pc') (kk : Z x pc' ls (vi (letN j.toNatClampNeg) :: st) w) : Z x pc ls (vi j :: vr 50 0 :: st) w := fun H locs la hl hP hS => by
  refine va_ti hC.1 hC.2.1 hC.2.2.2.2.2.2.1.2 hS hin rfl hd ?_
  subst hp; exact kk H locs la hl hP hS
theorem Z_lenLet {x : CX} {own : String} {cc : ByteArray} {n d pc : Nat} {ls : LV} {st : List AV} {w : Wd} (hC : Cx x own cc n d) (hd : decode cc pc = .ok (.arraylength, 1)) (pc' : Nat) (hp : pc + 1 = pc') (kk : Z x pc' ls (vi 6 :: st) w) : Z x pc ls (vr 50 0 :: st) w := fun H locs la hl hP hS => by
  refine va_tlen hC.1 hC.2.1 hC.2.2.2.2.2.2.1.2 hS (v := 6) rfl hd ?_
  subst hp; exact kk H locs la hl hP hS
theorem Z_ldc {x : CX} {own : String} {cc : ByteArray} {n d pc : Nat} {ls : LV} {st : List AV} {w : Wd} {idx : Nat} {v : Int32} (hC : Cx x own cc n d) (hlk : Cond.constant own idx v ∈ ww) (hd : decode cc pc = .ok (.ldc idx, 2)) (pc' : Nat) (hp : pc + 2 = pc') (kk : Z x pc' ls (vi v :: st) w) : Z x pc ls st w := fun H locs la hl hP hS => by
  refine lv_ldc hC.1 hC.2.1 hC.2.2.1 (hC.2.2.2.1 _ hlk) hd ?_
  subst hp; exact kk H locs la hl hP hS
theorem Z_ldcw {x : CX} {own : String} {cc : ByteArray} {n d pc : Nat} {ls : LV} {st : List AV} {w : Wd} {idx : Nat} {v : Int32} (hC : Cx x own cc n d) (hlk : Cond.constant own idx v ∈ ww) (hd : decode cc pc = .ok (.ldc_w idx, 3)) (pc' : Nat) (hp : pc + 3 = pc') (kk : Z x pc' ls (vi v :: st) w) : Z x pc ls st w := fun H locs la hl hP hS => by
  refine lv_ldcw hC.1 hC.2.1 hC.2.2.1 (hC.2.2.2.1 _ hlk) hd ?_
  subst hp; exact kk H locs la hl hP hS
theorem Z_ldc2 {x : CX} {own : String} {cc : ByteArray} {n d pc : Nat} {ls : LV} {st : List AV} {w : Wd} {idx : Nat} {v : Int64} (hC : Cx x own cc n d) (hlk : Cond.constantLong own idx v ∈ ww) (hd : decode cc pc = .ok (.ldc2_w idx, 3)) (pc' : Nat) (hp : pc + 3 = pc') (kk : Z x pc' ls (vl v :: st) w) : Z x pc ls st w := fun H locs la hl hP hS => by
  refine lv_ldc2 hC.1 hC.2.1 hC.2.2.1 (hC.2.2.2.1 _ hlk) hd ?_
  subst hp; exact kk H locs la hl hP hS
theorem Z_switch {x : CX} {own : String} {cc : ByteArray} {n d pc : Nat} {ls : LV} {st : List AV} {w : Wd} {dflt lo hi : Int} {offs : Array Int} {len : Nat} {v : Int32} (hC : Cx x own cc n d) (hd : decode cc pc = .ok (.tableswitch dflt lo hi offs, len)) (tgt : Nat) (ht : (pc : Int) + dflt = (tgt : Int)) (ko : (v.toInt < lo ∨ hi < v.toInt) → Z x tgt ls st w) (ki : ¬ v.toInt < lo → ¬ hi < v.toInt → ∃ (off : Int) (t : Nat), offs[(v.toInt - lo).toNat]? = some off ∧ (pc : Int) + off = (t : Int) ∧ Z x t ls st w) : Z x pc ls (vi v :: st) w := fun H locs la hl hP hS => by
  by_cases h : v.toInt < lo ∨ hi < v.toInt
  · exact lv_tableOut hC.1 hC.2.1 hd h ht (ko h H locs la hl hP hS)
  · rw [not_or] at h
    obtain ⟨off, t, h1, h2, k⟩ := ki h.1 h.2
    exact lv_tableIn hC.1 hC.2.1 hd h.1 h.2 h1 h2 (k H locs la hl hP hS)
theorem Z_ireturn {x : CX} {own : String} {cc : ByteArray} {n d pc : Nat} {ls : LV} {st : List AV} {w : Wd} {v : Int32} (hC : Cx x own cc n d) (hr : (xM x).sig.returnType = some .int) (hQ : Rt x (some (vi v)) w) (hd : decode cc pc = .ok (.ireturn, 1)) : Z x pc ls [vi v] w := fun H locs la hl hP hS => by
  have hlocks := hC.2.2.2.2.2.2.2.2.1
  unfold Rt at hQ
  rw [hQ]
  exact W.iret (v := v) hC.1 hC.2.1 hr (fun t ht hW => ⟨rfl, by rw [ht]; exact hP, hS.F ht⟩) hS.2.2 hd hlocks
theorem Z_zreturn {x : CX} {own : String} {cc : ByteArray} {n d pc : Nat} {ls : LV} {st : List AV} {w : Wd} {v : Int32} (hC : Cx x own cc n d) (hr : (xM x).sig.returnType = some .boolean) (hn : narrow .boolean (.int v) = .int v) (hQ : Rt x (some (vi v)) w) (hd : decode cc pc = .ok (.ireturn, 1)) : Z x pc ls [vi v] w := fun H locs la hl hP hS => by
  have hlocks := hC.2.2.2.2.2.2.2.2.1
  unfold Rt at hQ
  rw [hQ]
  exact W.zret (v := v) (ty := .boolean) hC.1 hC.2.1 hr hn (fun t ht hW => ⟨rfl, by rw [ht]; exact hP, hS.F ht⟩) hS.2.2 hd hlocks
theorem Z_lreturn {x : CX} {own : String} {cc : ByteArray} {n d pc : Nat} {ls : LV} {st : List AV} {w : Wd} {v : Int64} (hC : Cx x own cc n d) (hr : (xM x).sig.returnType = some .long) (hQ : Rt x (some (vl v)) w) (hd : decode cc pc = .ok (.lreturn, 1)) : Z x pc ls [vl v] w := fun H locs la hl hP hS => by
  have hlocks := hC.2.2.2.2.2.2.2.2.1
  unfold Rt at hQ
  rw [hQ]
  exact W.lret (v := v) hC.1 hC.2.1 hr (fun t ht hW => ⟨rfl, by rw [ht]; exact hP, hS.F ht⟩) hS.2.2 hd hlocks
theorem Z_return {x : CX} {own : String} {cc : ByteArray} {n d pc : Nat} {ls : LV} {st : List AV} {w : Wd} (hC : Cx x own cc n d) (hr : (xM x).sig.returnType = none) (hQ : Rt x none w) (hd : decode cc pc = .ok (.return_, 1)) : Z x pc ls [] w := fun H locs la hl hP hS => by
  have hlocks := hC.2.2.2.2.2.2.2.2.1
  unfold Rt at hQ
  rw [hQ]
  exact W.vret hC.1 hC.2.1 hr (fun t ht hW => ⟨rfl, by rw [ht]; exact hP, hS.F ht⟩) hS.2.2 hd hlocks
theorem Wp.blind {G : GT} {w : Wd} {as : List Value} : FrameBlind (va_Pc as (Wp G w)) := fun a U g mk q => by
  obtain ⟨q0, qP, qK, qI, qT, qN⟩ := q
  exact ⟨q0, qP, va_K.moved (u := U) (U := U.calling g mk a) (Vm.Alike.refl U.vm) qK, qI, Sta.moved (u := U) (U := U.calling g mk a) (Vm.Alike.refl U.vm) qT, NW.same (u := U) (U := U.calling g mk a) rfl qN⟩
theorem Cx.pre {x : CX} {own : String} {cc : ByteArray} {n d : Nat} {w : Wd} {H : Heap} {locs : List Loc} (hC : Cx x own cc n d) (hP : va_P (xG x).1 cls (wl (xG x) w) H) (hS : va_S (aG (xG x)) (xs x).heap H locs) (U : State) (hU : U.heap = H) (hW : (xs x).WarmedH U.vm) : Wp (xG x) w U := by
  refine ⟨by rw [hU]; exact hP, va_K.moved hW.alike hC.2.2.2.2.1, hC.2.2.2.2.2.1, ?_, NW.warm hW hC.2.2.2.2.2.2.2.1⟩
  rw [hU]
  exact (hC.2.2.2.2.2.2.1.moved hW.alike).kept hS.2.1
theorem Z_run {x : CX} {pc : Nat} {ls : LV} {st st0 : List AV} {w w' : Wd} {r : Option AV} {a : Array Value} (pc' : Nat) (hp : pc + 3 = pc') (hr : ∀ (H : Heap) (locs : List Loc) (la : Array Slot), lvr (xG x) la ls → va_P (xG x).1 cls (wl (xG x) w) H → va_S (aG (xG x)) (xs x).heap H locs → va_Run (xp x) (xl x) (xe x) (xR x) (xs x) (xm x) (xa x) (xb x) (xM x) (xc x) H locs (xn x) (xo x) 0 0 (F0 (xm x) pc la (st0.map (cv (xG x)))) (st.map (cv (xG x))) (Qs (xG x) r w' a) (aG (xG x))) (k : Z x pc' ls (r.toList ++ st) w') : Z x pc ls st0 w := fun H locs la hl hP hS T hT X => by
  obtain ⟨v, st₀, t, T', L, h0, X', hL, e1, e2, ⟨hv, hp1, hz, hk⟩, stp⟩ := hr H locs la hl hP hS T hT X
  have hv : v = r.map (cv (xG x)) := by injection hv
  rw [h0] at hz hk
  have hS' : va_S (aG (xG x)) (xs x).heap T'.heap (locs ++ L) := ⟨Nat.le_trans hS.1 (by rw [e1]; exact hz), fun q h1 h2 => by rw [e1, hk q (Nat.lt_of_lt_of_le h1 hS.1) h2]; exact hS.2.1 q h1 h2, fun q hq => by
    rcases List.mem_append.mp hq with h | h
    · exact hS.2.2 q h
    · exact hL q h⟩
  obtain ⟨t2, a1, b1⟩ := k T'.heap (locs ++ L) la hl (by rw [e1]; exact hp1) hS' T' rfl X'
  refine ⟨t2, stp t2 ?_, b1⟩
  subst hp
  have he : v.toList ++ st.map (cv (xG x)) = (r.toList ++ st).map (cv (xG x)) := by
    rw [hv, List.map_append]; cases r <;> rfl
  rw [he]
  exact a1
theorem cats (G : GT) (st : List AV) : ((st.map (cv G)).map fun v => v.category).sum = (st.map cat).sum := by
  rw [List.map_map]
  congr 1
  apply List.map_congr_left
  intro v _
  exact cv_cat G v
theorem Z_callV {x : CX} {own : String} {cc : ByteArray} {n d pc : Nat} {ls : LV} {st : List AV} {w : Wd} {g i idx dc maxL m : Nat} {C : String} {T : u_T} {N : Nat} {y : MethodName} {bytes : ByteArray} {ret : Option FieldType} {st0 : List AV} {r : Option AV} {w' : Wd} (as : List AV) (hC : Cx x own cc n d) (hm : (g, i) ∈ gis) (h10 : g < 10) (hc : cls[(lay g).1]? = some (C, T, N)) (hy : y.cls = C ∧ y.cls ≠ "java/lang/invoke/MethodHandle" ∧ y.cls ≠ "java/lang/invoke/VarHandle" ∧ (parseMethodDescriptor y.desc).map (fun d => d.parameters.length) = some m) (w1 : Cond.methodLink own idx y ∈ ww) (w2 : Cond.instanceMethod y ∈ ww) (w3 : Cond.selects C y y ∈ ww) (w4 : Cond.initialized C ∈ ww) (w5 : Cond.code y bytes maxL ret ∈ ww) (hM : Sp (xG x) (xl x) y (Cond.code y bytes maxL ret :: ww) dc (vr g i :: as) w r w') (hdc : dc + 1 ≤ d) (hmx : maxL ≤ 45) (hln : ls.length = n) (hn : as.length = m) (hst : st0 = as.reverse ++ vr g i :: st) (hcat : (st.map cat).sum ≤ 8) (hd : decode cc pc = .ok (.invokevirtual idx, 3)) (pc' : Nat) (hp : pc + 3 = pc') (k : Z x pc' ls (r.toList ++ st) w') : Z x pc ls st0 w := by
  subst hst
  refine Z_run (a := (Value.ref ((xG x).2.2 g i) :: as.map (cv (xG x))).toArray) pc' hp (fun H locs la hl hP hS => ?_) k
  obtain ⟨q0, hq⟩ := List.getElem?_of_mem hm
  have he := wl_at (xG x) w hq
  rw [cel_obj h10] at he
  have hts := hC.2.2.2.1
  have hf := hC.2.2.2.2.2.2.2.2.2.2
  exact va_runV (As := as.map (cv (xG x))) ⟨hC.1, hC.2.1, hC.2.2.2.2.2.2.2.2.2.1, hC.2.2.1, hts⟩ hM (cwV m hts (fun w hw => by
      rcases List.mem_append.mp hw with h | h
      · rcases List.mem_cons.mp h with e | h
        · rw [e]; exact ww_good _ w1
        · rcases List.mem_cons.mp h with e | h
          · rw [e]; exact ww_good _ w2
          · rcases List.mem_cons.mp h with e | h
            · rw [e]; exact ww_good _ w3
            · rcases List.mem_cons.mp h with e | h
              · rw [e]; exact ww_good _ w4
              · cases h
      · exact gww w5 w h) rfl rfl rfl hy ⟨Nat.le_trans hdc hf.1, by show 8 + (maxL + 11) + 64 * dc ≤ _; have := hf.2.1; omega⟩)
    ⟨Wp.blind, va_recv hC.2.2.2.2.1 hP hc he, fun U hU hW => ⟨rfl, hC.pre hP hS U hU hW⟩⟩ rfl (by rw [List.length_map]; exact hn) (by show la.size = n; rw [hl.1]; exact hln) (by show List.map _ _ = _; rw [List.map_append, List.map_reverse]; rfl) (lv_room (by rw [cats]; exact hcat)) hd ⟨hf.2.2.1, hf.2.2.2⟩
theorem Z_callS {x : CX} {own : String} {cc : ByteArray} {n d pc : Nat} {ls : LV} {st : List AV} {w : Wd} {idx dc maxL m : Nat} {y : MethodName} {bytes : ByteArray} {ret : Option FieldType} {st0 : List AV} {r : Option AV} {w' : Wd} (as : List AV) (hC : Cx x own cc n d) (hy : y.cls ≠ "java/lang/invoke/MethodHandle" ∧ y.cls ≠ "java/lang/invoke/VarHandle" ∧ (parseMethodDescriptor y.desc).map (fun d => d.parameters.length) = some m) (w1 : Cond.methodLink own idx y ∈ ww) (w2 : Cond.static y ∈ ww) (w4 : Cond.initialized y.cls ∈ ww) (w5 : Cond.code y bytes maxL ret ∈ ww) (hM : Sp (xG x) (xl x) y (Cond.code y bytes maxL ret :: ww) dc as w r w') (hdc : dc + 1 ≤ d) (hmx : maxL ≤ 45) (hln : ls.length = n) (hn : as.length = m) (hst : st0 = as.reverse ++ st) (hcat : (st.map cat).sum ≤ 8) (hd : decode cc pc = .ok (.invokestatic idx, 3)) (pc' : Nat) (hp : pc + 3 = pc') (k : Z x pc' ls (r.toList ++ st) w') : Z x pc ls st0 w := by
  subst hst
  refine Z_run (a := (as.map (cv (xG x))).toArray) pc' hp (fun H locs la hl hP hS => ?_) k
  have hts := hC.2.2.2.1
  have hf := hC.2.2.2.2.2.2.2.2.2.2
  exact va_runS (As := as.map (cv (xG x))) ⟨hC.1, hC.2.1, hC.2.2.2.2.2.2.2.2.2.1, hC.2.2.1, hts⟩ hM (va_cwS m hts (fun w hw => by
      rcases List.mem_append.mp hw with h | h
      · rcases List.mem_cons.mp h with e | h
        · rw [e]; exact ww_good _ w1
        · rcases List.mem_cons.mp h with e | h
          · rw [e]; exact ww_good _ w2
          · rcases List.mem_cons.mp h with e | h
            · rw [e]; exact ww_good _ w4
            · cases h
      · exact gww w5 w h) rfl rfl rfl hy ⟨Nat.le_trans hdc hf.1, by show 8 + (maxL + 11) + 64 * dc ≤ _; have := hf.2.1; omega⟩)
    ⟨Wp.blind, fun U hU hW => ⟨rfl, hC.pre hP hS U hU hW⟩⟩ rfl (by rw [List.length_map]; exact hn) (by show la.size = n; rw [hl.1]; exact hln) (by show List.map _ _ = _; rw [List.map_append, List.map_reverse]) (lv_room (by rw [cats]; exact hcat)) hd ⟨hf.2.2.1, hf.2.2.2⟩
theorem Z_callSN {x : CX} {own : String} {cc : ByteArray} {n d pc : Nat} {ls : LV} {st : List AV} {w : Wd} {idx dc maxL m : Nat} {host : String} {y : MethodName} {bytes : ByteArray} {ret : Option FieldType} {st0 : List AV} {r : Option AV} {w' : Wd} (as : List AV) (hC : Cx x own cc n d) (hy : y.cls ≠ "java/lang/invoke/MethodHandle" ∧ y.cls ≠ "java/lang/invoke/VarHandle" ∧ (parseMethodDescriptor y.desc).map (fun d => d.parameters.length) = some m) (w1 : va_Nw (.methodLinkNest own idx y host) (xs x)) (w2 : Cond.static y ∈ ww) (w4 : Cond.initialized y.cls ∈ ww) (w5 : Cond.code y bytes maxL ret ∈ ww) (hM : Sp (xG x) (xl x) y (Cond.code y bytes maxL ret :: ww) dc as w r w') (hdc : dc + 1 ≤ d) (hmx : maxL ≤ 45) (hln : ls.length = n) (hn : as.length = m) (hst : st0 = as.reverse ++ st) (hcat : (st.map cat).sum ≤ 8) (hd : decode cc pc = .ok (.invokestatic idx, 3)) (pc' : Nat) (hp : pc + 3 = pc') (k : Z x pc' ls (r.toList ++ st) w') : Z x pc ls st0 w := by
  subst hst
  refine Z_run (a := (as.map (cv (xG x))).toArray) pc' hp (fun H locs la hl hP hS => ?_) k
  have hts := hC.2.2.2.1
  have hf := hC.2.2.2.2.2.2.2.2.2.2
  exact va_runSN (As := as.map (cv (xG x))) ⟨hC.1, hC.2.1, hC.2.2.2.2.2.2.2.2.2.1, hC.2.2.1, hts⟩ hM ⟨va_cnB m hts (gww w5) rfl rfl rfl w1 (hts _ w4) hy ⟨Nat.le_trans hdc hf.1, by show 8 + (maxL + 11) + 64 * dc ≤ _; have := hf.2.1; omega⟩, hts _ w2, trivial⟩
    ⟨Wp.blind, fun U hU hW => ⟨rfl, hC.pre hP hS U hU hW⟩⟩ rfl (by rw [List.length_map]; exact hn) (by show la.size = n; rw [hl.1]; exact hln) (by show List.map _ _ = _; rw [List.map_append, List.map_reverse]) (lv_room (by rw [cats]; exact hcat)) hd ⟨hf.2.2.1, hf.2.2.2⟩
theorem Z_copy {x : CX} {own : String} {cc : ByteArray} {n d pc : Nat} {ls : LV} {st : List AV} {w : Wd} {g i g' i' idx : Nat} {sp dp m : Int32} (hC : Cx x own cc n d) (hm : (g, i) ∈ gis) (hm' : (g', i') ∈ gis) (h10 : ¬ g < 10) (h10' : ¬ g' < 10) (hk : (arr g).1 = 0) (hk' : (arr g').1 = 0) (w1 : Cond.methodLink own idx arraycopyName ∈ ww) (w2 : Cond.native arraycopyName ∈ ww) (w3 : Cond.static arraycopyName ∈ ww) (w4 : Cond.initialized "java/lang/System" ∈ ww) (h1 : ¬ sp < 0) (h2 : ¬ dp < 0) (h3 : ¬ m < 0) (h4 : sp.toNatClampNeg + m.toNatClampNeg ≤ (arr g).2) (h5 : dp.toNatClampNeg + m.toNatClampNeg ≤ (arr g').2) (hdc : 1 ≤ d) (hln : ls.length = n) (hcat : (st.map cat).sum ≤ 8) (hd : decode cc pc = .ok (.invokestatic idx, 3)) (pc' : Nat) (hp : pc + 3 = pc') (k : Z x pc' ls st (sA w g' i' (va_cpy (gA w g i) (gA w g' i') sp.toNatClampNeg dp.toNatClampNeg m.toNatClampNeg))) : Z x pc ls (vi m :: vi dp :: vr g' i' :: vi sp :: vr g i :: st) w := fun H locs la hl hP hS => by
  obtain ⟨q0, hq⟩ := List.getElem?_of_mem hm
  obtain ⟨q1, hq'⟩ := List.getElem?_of_mem hm'
  have he := wl_at (xG x) w hq
  have he' := wl_at (xG x) w hq'
  rw [cel_arr h10 (by rw [hk]; decide), hk] at he
  rw [cel_arr h10' (by rw [hk']; decide), hk'] at he'
  have hts := hC.2.2.2.1
  have hf := hC.2.2.2.2.2.2.2.2.2.2
  refine va_copyi (D := (xG x).1) (ty := .int) hC.1 hC.2.1 (by rw [hl.1, hln]; exact hC.2.2.2.2.2.2.2.2.2.1) hC.2.2.1 (hts _ w1) (hts _ w2) (hts _ w3) (hts _ w4) hC.2.2.2.2.1 hP (wl_D hC.2.2.2.2.2.1 w) hS q0 q1 0 0 he he' rfl rfl rfl h1 h2 h3 h4 h5 (fun _ _ => rfl) (Nat.le_trans hdc hf.1) ?_ hd (fun H1 locs1 hP1 _ hS1 => ?_)
  · rw [cats]
    have e : nativeFrameWords "java/lang/System" "arraycopy" 5 + 11 ≤ 56 := by decide +kernel
    have := hf.2.1
    omega
  · have hset := set_sA (G := xG x) (w := w) (v := va_cpy (gA w g i) (gA w g' i') sp.toNatClampNeg dp.toNatClampNeg m.toNatClampNeg) hq' h10' (by rw [hk']; decide)
    rw [hk'] at hset
    rw [hset] at hP1
    subst hp; exact k H1 locs1 la hl hP1 hS1
/-- a guard -/
noncomputable def gd {α : Type} (P : Prop) (x : Option α) : Option α := @ite _ P (Classical.propDecidable P) x none
theorem gd_pos {α : Type} {P : Prop} {x : Option α} (h : P) : gd P x = x := by unfold gd; rw [if_pos h]
theorem gd_some {α : Type} {P : Prop} {x : Option α} {y : α} (h : gd P x = some y) : P ∧ x = some y := by
  unfold gd at h
  by_cases hp : P
  · rw [if_pos hp] at h; exact ⟨hp, h⟩
  · rw [if_neg hp] at h; cases h
theorem bd_some {α β : Type} {o : Option α} {f : α → Option β} {y : β} (h : o.bind f = some y) : ∃ a, o = some a ∧ f a = some y := by
  cases o with
  | none => cases h
  | some a => exact ⟨a, rfl, h⟩
