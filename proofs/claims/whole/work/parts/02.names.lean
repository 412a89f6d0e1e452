/-! ===== BEGIN words of one list among another's, by their places ===== -/
theorem goodIn_r {big : List Cond} (ws : List Cond) (ps : List Nat) (hp : ws = ps.filterMap (fun i => big[i]?)) (h : ws.all goodWord = true) : GoodIn big ws := by
  intro w hw
  have h1 := List.all_eq_true.mp h w hw
  rw [hp] at hw
  obtain ⟨i, -, hi⟩ := List.mem_filterMap.mp hw
  have hm : w ∈ big := by first | exact List.mem_of_getElem? hi | exact List.getElem?_mem hi
  exact ⟨hm, good_of_word h1⟩
theorem goodIn_app {big a b : List Cond} (ha : GoodIn big a) (hb : GoodIn big b) : GoodIn big (a ++ b) := fun w h => (List.mem_append.mp h).elim (ha w) (hb w)
theorem goodIn_ca {big a b : List Cond} {c : Cond} (ha : GoodIn big (c :: a)) (hb : GoodIn big b) : GoodIn big (c :: (a ++ b)) := fun w h => (List.mem_cons.mp h).elim (fun e => ha w (List.mem_cons.mpr (Or.inl e))) (fun h => (List.mem_append.mp h).elim (fun h => ha w (List.mem_cons.mpr (Or.inr h))) (hb w))
theorem goodIn_sub {big ws : List Cond} (hm : ∀ w ∈ ws, w ∈ big) (h : ws.all goodWord = true) : GoodIn big ws := fun w hw => ⟨hm w hw, good_of_word (List.all_eq_true.mp h w hw)⟩
/-! ===== END ===== -/

/-! ===== BEGIN new T[n][m]: the outer array a place, the inner ones among the pooled ===== -/
/-- f, but v at every address of l -/
def vr_up {α : Type} (f : Nat → α) (l : List Nat) (v : α) : Nat → α := fun a => if a ∈ l then v else f a
theorem vr_up_in {α : Type} {f : Nat → α} {l : List Nat} {v : α} {a : Nat} (h : a ∈ l) : vr_up f l v a = v := if_pos h
theorem vr_up_ne {α : Type} {f : Nat → α} {l : List Nat} {v : α} {a : Nat} (h : a ∉ l) : vr_up f l v a = f a := if_neg h
theorem vr_rows {L l : List Nat} {f : Nat → va_E} {e : va_E} (h : ∀ a, a ∈ l → a ∉ L) : va_pl L f ++ l.map (fun a => (a, e)) = va_pl (L ++ l) (vr_up f l e) := by
  unfold va_pl
  rw [List.map_append]
  congr 1
  · apply List.map_congr_left
    intro a ha
    rw [vr_up_ne (fun q => h a q ha)]
  · apply List.map_congr_left
    intro a ha
    rw [vr_up_in ha]
theorem vr_lay {X rows : va_W} {x : Nat × va_E} {pl : va_W} {D : va_G} {cl : List vw_C} {H : Heap} (hP : va_P D cl (((X ++ pl) ++ [x]) ++ rows) H) : va_P D cl ((X ++ [x]) ++ (pl ++ rows)) H := by
  rw [List.append_assoc (X ++ pl)] at hP
  have h := va_P.swap hP
  rw [← List.append_assoc X] at h
  have h2 := va_P.swap h
  rw [List.append_assoc (X ++ [x])] at h2
  exact h2
theorem vr_layD {X rows : va_W} {x : Nat × va_E} {pl : va_W} {A : Nat → Prop} (hD : va_D A (((X ++ pl) ++ [x]) ++ rows)) : va_D A ((X ++ [x]) ++ (pl ++ rows)) := by
  rw [List.append_assoc (X ++ pl)] at hD
  have h := va_D.swap hD
  rw [← List.append_assoc X] at h
  have h2 := va_D.swap h
  rw [List.append_assoc (X ++ [x])] at h2
  exact h2
theorem vr_outer (c : ClassId) (N h0 : Nat) : ∀ i : Nat, Jvm.Free.Multi.outerC c N h0 i = arrV c N (fun j => va_rf (if j < i then some (h0 + 1 + j) else none))
  | 0 => by
    show ({ cls := c, slots := Array.replicate N .null, vm := .none } : Cell) = _
    rw [arrV_new]
    refine congrArg (arrV c N) (funext fun j => ?_)
    simp [va_rf]
  | i + 1 => by
    show (Jvm.Free.Multi.outerC c N h0 i).setSlot i (.ref (h0 + 1 + i)) = _
    rw [vr_outer c N h0 i, arrV_store]
    refine congrArg (arrV c N) (funext fun j => ?_)
    by_cases e : j = i
    · subst e
      simp [updV, va_rf]
    · by_cases h : j < i
      · simp [updV, e, h, Nat.lt_succ_of_lt h]
      · simp [updV, e, h, show ¬ j < i + 1 by omega]
def va_AOA (ty : FieldType) (U : State) : Prop := (Cond.arrayOver (.array ty)).before #[] U = true
theorem va_AOA.of {ty : FieldType} {A : Array Value} {U : State} (h : (Cond.arrayOver (.array ty)).before A U = true) : va_AOA ty U := h
theorem va_AOA.use {ty : FieldType} {A : Array Value} {U : State} (h : va_AOA ty U) : (Cond.arrayOver (.array ty)).before A U = true := h
section VGM
variable {p : Program} {l : Launch} {e : Env} {R : Room} {s : State} {m : MethodId} {args : Array Value} {below : List Frame} {meth : Method} {c : Code} {H : Heap} {locs : List Loc} {cells slots : Nat} {Q : State → Prop}
variable {cc : ByteArray} {pc : Nat} {ls : Array Slot} {rest : List Value} {D : va_G} {cl : List vw_C} {A : Nat → Prop} {a : Nat} {tys : List (ClassId × FieldType)} {ws : va_W} {H0 : Heap}
theorem va_mna {X : va_W} {L : List Nat} {f : Nat → va_E} {cc : ByteArray} (hexec : p.tables.exec = Jvm.exec) (hb : c.code = cc) {own : String} {index : Nat} {ty : FieldType} {cy : ClassId} (hown : s.vm.findClass own = some m.cls) (hclink : (Cond.classLink own index ("[" ++ (FieldType.array ty).toString)).before args s = true) (hover : va_AOA ty s) (harr : (Cond.arrayClass ty).before args s = true) (hcy : s.vm.findClass (FieldType.array ty).toString = some cy)
    (hK : va_K D cl tys s) (hP : va_P D cl (X ++ va_pl L f) H) (hD : va_D A (X ++ va_pl L f)) (hS : va_S A H0 H locs) (hA : ∀ q, H0.size ≤ q → A q) {n k : Int32} {N' K' : Nat} {z : vp_A} (hn : ¬ n < 0) (hk : ¬ k < 0) (hN : n.toNatClampNeg = N') (hM : k.toNatClampNeg = K')
    (hb1 : N' * 4 ≤ 536870912) (hb2 : K' * componentBytes ty ≤ 536870912) (hb3 : K' ≤ 536870912) (hdf : fits ty (defaultValue ty) = true) (hdd : (defaultValue ty).isDefault = true) (hcells : cells + (1 + N') ≤ R.cells) (hslots : slots + (N' + N' * K') ≤ R.slots) (hz : ∀ c : ClassId, Jvm.Free.Multi.innerC c K' (defaultValue ty) = vp_cell c z) (hdg : decode cc pc = .ok (.multianewarray index 2, 4))
    (kk : ∀ (q : Nat) (r : Nat → Nat) (cA : ClassId) (H1 : Heap), (∀ i j : Nat, i < N' → j < N' → r i = r j → i = j) → (∀ i : Nat, i < N' → r i ∉ L) → va_K D cl (tys ++ [(cA, .array ty)]) s →
      va_P D cl ((X ++ [(q, .inl (cA, N', .inr (.inr (.inr (.inr (fun i => if i < N' then some (r i) else none))))))]) ++ va_pl (L ++ (List.range N').map r) (vr_up f ((List.range N').map r) (.inl (cy, z)))) H1 → va_D A ((X ++ [(q, .inl (cA, N', .inr (.inr (.inr (.inr (fun i => if i < N' then some (r i) else none))))))]) ++ va_pl (L ++ (List.range N').map r) (vr_up f ((List.range N').map r) (.inl (cy, z)))) → va_S A H0 H1 locs →
      W p l e R s m args below meth c H1 locs (cells + 1 + N') (slots + N' + N' * K') Q (F0 m (pc + 4) ls (.ref q :: rest))) : W p l e R s m args below meth c H locs cells slots Q (F0 m pc ls (.int k :: .int n :: rest)) := by
  subst hN
  subst hM
  intro T hT Xs
  obtain ⟨vm₁, cA, comp, -, fA, fC, hO, -, X', step⟩ := Xs.multianewarray2F hexec hown hclink (va_AOA.use hover) harr (g := F0 m pc ls (.int k :: .int n :: rest)) rfl (by rw [hb]; exact hdg) rfl hn hk hb1 hb2 hb3 hdf hdd hcells hslots
  have ec : some cy = some comp := hcy.symm.trans fC
  cases ec
  generalize hF : Jvm.Free.Multi.fill (T.setVm vm₁) cA cy n.toNatClampNeg k.toNatClampNeg (defaultValue ty) n.toNatClampNeg = F at X' step
  have hTh : (T.setVm vm₁).heap = H := hT
  obtain ⟨f1, f2, -, -⟩ := Jvm.Free.Multi.fill_facts (T.setVm vm₁) cA cy n.toNatClampNeg k.toNatClampNeg (defaultValue ty) n.toNatClampNeg
  rw [hF, hTh] at f1 f2
  have hold : ∀ x : Nat, x < H.size → F.heap[x]? = H[x]? := fun x hx => by
    have := Jvm.Free.Multi.fill_old (T.setVm vm₁) cA cy n.toNatClampNeg k.toNatClampNeg (defaultValue ty) (a := x) (by rw [hTh]; exact hx) n.toNatClampNeg
    rw [hF, hTh] at this
    exact this
  have hrow : ∀ j : Nat, j < n.toNatClampNeg → F.heap[H.size + 1 + j]? = some (vp_cell cy z) := fun j hj => by
    have := Jvm.Free.Multi.fill_inner (T.setVm vm₁) cA cy n.toNatClampNeg k.toNatClampNeg (defaultValue ty) n.toNatClampNeg j hj
    rw [hF, hTh, hz] at this
    exact this
  have hout : Jvm.Free.Multi.outerC cA n.toNatClampNeg H.size n.toNatClampNeg = vp_cell cA (n.toNatClampNeg, .inr (.inr (.inr (.inr (fun i => if i < n.toNatClampNeg then some (H.size + 1 + i) else none))))) := by
    rw [vp_cell_q]
    exact vr_outer cA n.toNatClampNeg H.size n.toNatClampNeg
  rw [hout] at f2
  have hlt : ∀ a, a ∈ L → a < H.size := fun a ha => by
    obtain ⟨k9, hk9⟩ := va_pl_get (X := X) (f := f) ha
    exact (hP k9 _ hk9).lt
  have hnl : ∀ i : Nat, i < n.toNatClampNeg → H.size + 1 + i ∉ L := fun i _ h => by
    have := hlt _ h
    omega
  have hnm : ∀ a, a ∈ (List.range n.toNatClampNeg).map (fun i => H.size + 1 + i) → a ∉ L := fun a ha h => by
    obtain ⟨i, -, rfl⟩ := List.mem_map.mp ha
    have := hlt _ h
    omega
  have hP0 : va_P D cl (X ++ va_pl L f) F.heap := hP.kept (fun k9 x hx => hold x.1 ((hP k9 x hx).lt))
  have hP1 : va_P D cl ((X ++ va_pl L f) ++ [(H.size, .inl (cA, n.toNatClampNeg, .inr (.inr (.inr (.inr (fun i => if i < n.toNatClampNeg then some (H.size + 1 + i) else none))))))]) F.heap := hP0.app (fun k9 x hx => by
    have h0 : k9 < 1 := (List.getElem?_eq_some_iff.mp hx).1
    rw [show k9 = 0 by omega] at hx
    cases hx
    exact f2)
  have hP2 : va_P D cl (((X ++ va_pl L f) ++ [(H.size, .inl (cA, n.toNatClampNeg, .inr (.inr (.inr (.inr (fun i => if i < n.toNatClampNeg then some (H.size + 1 + i) else none))))))]) ++ ((List.range n.toNatClampNeg).map (fun i => H.size + 1 + i)).map (fun a => (a, .inl (cy, z)))) F.heap := hP1.app (fun k9 x hx => by
    obtain ⟨a, ha, rfl⟩ := List.mem_map.mp (List.mem_of_getElem? hx)
    obtain ⟨i, hi, rfl⟩ := List.mem_map.mp ha
    exact hrow i (List.mem_range.mp hi))
  have hD2 : va_D A (((X ++ va_pl L f) ++ [(H.size, .inl (cA, n.toNatClampNeg, .inr (.inr (.inr (.inr (fun i => if i < n.toNatClampNeg then some (H.size + 1 + i) else none))))))]) ++ ((List.range n.toNatClampNeg).map (fun i => H.size + 1 + i)).map (fun a => (a, .inl (cy, z)))) := by
    have hD1 := hD.push (e := .inl (cA, n.toNatClampNeg, .inr (.inr (.inr (.inr (fun i => if i < n.toNatClampNeg then some (H.size + 1 + i) else none)))))) hP rfl (hA _ hS.1)
    generalize hW1 : (X ++ va_pl L f) ++ [(H.size, .inl (cA, n.toNatClampNeg, .inr (.inr (.inr (.inr (fun i => if i < n.toNatClampNeg then some (H.size + 1 + i) else none))))))] = W1 at hD1 hP1 ⊢
    have hle : ∀ (k9 : Nat) (x : Nat × va_E), W1[k9]? = some x → x.1 ≤ H.size := fun k9 x hx => by
      rw [← hW1] at hx
      by_cases hl : k9 < (X ++ va_pl L f).length
      · rw [List.getElem?_append_left hl] at hx
        exact Nat.le_of_lt ((hP k9 x hx).lt)
      · rw [List.getElem?_append_right (by omega)] at hx
        have h0 : k9 - (X ++ va_pl L f).length < 1 := (List.getElem?_eq_some_iff.mp hx).1
        rw [show k9 - (X ++ va_pl L f).length = 0 by omega] at hx
        cases hx
        exact Nat.le_refl _
    have hr : ∀ (k9 : Nat) (x : Nat × va_E), (((List.range n.toNatClampNeg).map (fun i => H.size + 1 + i)).map (fun a => ((a, .inl (cy, z)) : Nat × va_E)))[k9]? = some x → x.1 = H.size + 1 + k9 := fun k9 x hx => by
      rw [List.getElem?_map, List.getElem?_map] at hx
      by_cases h9 : k9 < n.toNatClampNeg
      · rw [List.getElem?_range h9] at hx
        cases hx
        rfl
      · have hn0 : (List.range n.toNatClampNeg)[k9]? = none := List.getElem?_eq_none (by rw [List.length_range]; omega)
        rw [hn0] at hx
        cases hx
    refine ⟨fun i j x y hi hj hxy => ?_, fun k9 x hx => ?_⟩
    · by_cases h1 : i < W1.length <;> by_cases h2 : j < W1.length
      · rw [List.getElem?_append_left h1] at hi
        rw [List.getElem?_append_left h2] at hj
        exact hD1.1 i j x y hi hj hxy
      · rw [List.getElem?_append_left h1] at hi
        rw [List.getElem?_append_right (by omega)] at hj
        have := hle _ _ hi
        have := hr _ _ hj
        omega
      · rw [List.getElem?_append_right (by omega)] at hi
        rw [List.getElem?_append_left h2] at hj
        have := hle _ _ hj
        have := hr _ _ hi
        omega
      · rw [List.getElem?_append_right (by omega)] at hi hj
        have := hr _ _ hi
        have := hr _ _ hj
        omega
    · by_cases h1 : k9 < W1.length
      · rw [List.getElem?_append_left h1] at hx
        exact hD1.2 k9 x hx
      · rw [List.getElem?_append_right (by omega)] at hx
        have := hr _ _ hx
        exact hA _ (by have := hS.1; omega)
  have hAr : ArrOfT s cA (.array ty) := fun N9 z9 => by
    obtain ⟨-, k9, hk9, cm9, hkk9⟩ := (hO 0 0 0).1
    exact ⟨(fun q hq => by cases hq), k9, hk9, cm9, hkk9⟩
  have hK2 : va_K D cl (tys ++ [(cA, .array ty)]) s := ⟨hK.1, fun k9 x hx => by
    by_cases hl : k9 < tys.length
    · rw [List.getElem?_append_left hl] at hx
      exact hK.2 k9 x hx
    · rw [List.getElem?_append_right (by omega)] at hx
      have h0 : k9 - tys.length < 1 := (List.getElem?_eq_some_iff.mp hx).1
      rw [show k9 - tys.length = 0 by omega] at hx
      cases hx
      exact ⟨hAr, fA⟩⟩
  obtain ⟨t, a1, b1⟩ := kk H.size (fun i => H.size + 1 + i) cA F.heap (fun i j _ _ h => by have h9 : H.size + 1 + i = H.size + 1 + j := h; omega) hnl hK2 (by rw [← vr_rows hnm]; exact vr_lay hP2) (by rw [← vr_rows hnm]; exact vr_layD hD2) ⟨by rw [f1]; have := hS.1; omega, fun x h1 h2 => (hold x (Nat.lt_of_lt_of_le h1 hS.1)).trans (hS.2.1 x h1 h2), hS.2.2⟩ F rfl X'
  refine ⟨t, step t ?_, b1⟩
  have e : T.heap.size = H.size := by rw [hT]
  rw [e]
  exact a1
end VGM
/-! ===== END ===== -/
/-! ===== BEGIN printed: names, fields, word lists, decode rows ===== -/
def RX0 : String := "HatDraw$Office"
def TX0 : u_T := fun k => match k with
  | 0 => ("HatDraw$Office", "kinds", "[I", true)
  | 1 => ("HatDraw$Office", "tables", "[I", true)
  | 2 => ("HatDraw$Office", "worths", "[I", true)
  | 3 => ("HatDraw$Office", "years", "[I", true)
  | 4 => ("HatDraw$Office", "size", "I", false)
  | 5 => ("HatDraw$Office", "yearCount", "I", false)
  | _ => ("HatDraw$Office", "rules", "I", false)
def tyX0 : Nat → FieldType := fun k => match k with
  | 0 => .array .int
  | 1 => .array .int
  | 2 => .array .int
  | 3 => .array .int
  | 4 => .int
  | 5 => .int
  | _ => .int
abbrev wsX00 : List Cond := u_ws RX0 TX0 7
theorem nmX0 : ∀ a, a < 7 → ∀ b, b < 7 → a ≠ b → (TX0 a).2.1 ≠ (TX0 b).2.1 := by decide +kernel
theorem tyX0_ok : ∀ k, k < 7 → parseFieldDescriptor (TX0 k).2.2.1 = some (tyX0 k) := by decide +kernel
abbrev cX0_init : ByteArray := prog_2_method_1_code
def yX0_init : MethodName := ⟨RX0, "<init>", "()V"⟩
abbrev cX0_settle : ByteArray := prog_2_method_2_code
def yX0_settle : MethodName := ⟨RX0, "settle", "([BI)V"⟩
abbrev cX0_become : ByteArray := prog_2_method_3_code
def yX0_become : MethodName := ⟨RX0, "become", "(LHatDraw$Office;)V"⟩
abbrev cX0_addYear : ByteArray := prog_2_method_4_code
def yX0_addYear : MethodName := ⟨RX0, "addYear", "(I)V"⟩
abbrev cX0_hadYear : ByteArray := prog_2_method_5_code
def yX0_hadYear : MethodName := ⟨RX0, "hadYear", "(I)Z"⟩
abbrev cX0_latest : ByteArray := prog_2_method_6_code
def yX0_latest : MethodName := ⟨RX0, "latest", "(I)I"⟩
abbrev cX0_fact : ByteArray := prog_2_method_7_code
def yX0_fact : MethodName := ⟨RX0, "fact", "(II)I"⟩
abbrev cX0_isFor : ByteArray := prog_2_method_8_code
def yX0_isFor : MethodName := ⟨RX0, "isFor", "(I)Z"⟩
abbrev cX0_barrier : ByteArray := prog_2_method_9_code
def yX0_barrier : MethodName := ⟨RX0, "barrier", "(II)I"⟩
abbrev cX0_open : ByteArray := prog_2_method_10_code
def yX0_open : MethodName := ⟨RX0, "open", "(I)I"⟩
abbrev cX0_minds : ByteArray := prog_2_method_11_code
def yX0_minds : MethodName := ⟨RX0, "minds", "(II)Z"⟩
abbrev cX0_drawsBack : ByteArray := prog_2_method_12_code
def yX0_drawsBack : MethodName := ⟨RX0, "drawsBack", "(III)Z"⟩
abbrev cX0_against : ByteArray := prog_2_method_13_code
def yX0_against : MethodName := ⟨RX0, "against", "(II)I"⟩
abbrev cX0_breaksRing : ByteArray := prog_2_method_14_code
def yX0_breaksRing : MethodName := ⟨RX0, "breaksRing", "(I)Z"⟩
abbrev cX0_othersAtTable : ByteArray := prog_2_method_15_code
def yX0_othersAtTable : MethodName := ⟨RX0, "othersAtTable", "(I)I"⟩
abbrev cX0_yearsPaired : ByteArray := prog_2_method_16_code
def yX0_yearsPaired : MethodName := ⟨RX0, "yearsPaired", "(I)I"⟩
abbrev cX0_worthier : ByteArray := prog_2_method_17_code
def yX0_worthier : MethodName := ⟨RX0, "worthier", "(I)I"⟩
abbrev cX0_othersBarredFrom : ByteArray := prog_2_method_18_code
def yX0_othersBarredFrom : MethodName := ⟨RX0, "othersBarredFrom", "(I)I"⟩
abbrev cX0_howManyOf : ByteArray := prog_2_method_19_code
def yX0_howManyOf : MethodName := ⟨RX0, "howManyOf", "(I)I"⟩
abbrev cX0_greatestDifference : ByteArray := prog_2_method_20_code
def yX0_greatestDifference : MethodName := ⟨RX0, "greatestDifference", "(I)I"⟩
def RX1 : String := "HatDraw$Rows"
def TX1 : u_T := fun k => match k with
  | 0 => ("HatDraw$Rows", "cells", "[[I", true)
  | _ => ("HatDraw$Rows", "sizes", "[I", true)
def tyX1 : Nat → FieldType := fun k => match k with
  | 0 => .array (.array .int)
  | _ => .array .int
abbrev wsX10 : List Cond := u_ws RX1 TX1 2
theorem nmX1 : ∀ a, a < 2 → ∀ b, b < 2 → a ≠ b → (TX1 a).2.1 ≠ (TX1 b).2.1 := by decide +kernel
theorem tyX1_ok : ∀ k, k < 2 → parseFieldDescriptor (TX1 k).2.2.1 = some (tyX1 k) := by decide +kernel
abbrev cX1_init : ByteArray := prog_3_method_1_code
def yX1_init : MethodName := ⟨RX1, "<init>", "()V"⟩
abbrev cX1_isMissing : ByteArray := prog_3_method_2_code
def yX1_isMissing : MethodName := ⟨RX1, "isMissing", "(I)Z"⟩
abbrev cX1_renew : ByteArray := prog_3_method_3_code
def yX1_renew : MethodName := ⟨RX1, "renew", "(II)V"⟩
abbrev cX1_missesPlace : ByteArray := prog_3_method_4_code
def yX1_missesPlace : MethodName := ⟨RX1, "missesPlace", "(II)I"⟩
abbrev cX1_hasPlaces : ByteArray := prog_3_method_5_code
def yX1_hasPlaces : MethodName := ⟨RX1, "hasPlaces", "(III)Z"⟩
abbrev cX1_mixAll : ByteArray := prog_3_method_6_code
def yX1_mixAll : MethodName := ⟨RX1, "mixAll", "(J)J"⟩
def RX2 : String := "HatDraw$Search"
def TX2 : u_T := fun k => match k with
  | 0 => ("HatDraw$Search", "codes", "[I", true)
  | 1 => ("HatDraw$Search", "found", "I", false)
  | 2 => ("HatDraw$Search", "open", "[I", true)
  | 3 => ("HatDraw$Search", "wanted", "I", false)
  | _ => ("HatDraw$Search", "newOnly", "Z", false)
def tyX2 : Nat → FieldType := fun k => match k with
  | 0 => .array .int
  | 1 => .int
  | 2 => .array .int
  | 3 => .int
  | _ => .boolean
abbrev wsX20 : List Cond := u_ws RX2 TX2 5
theorem nmX2 : ∀ a, a < 5 → ∀ b, b < 5 → a ≠ b → (TX2 a).2.1 ≠ (TX2 b).2.1 := by decide +kernel
theorem tyX2_ok : ∀ k, k < 5 → parseFieldDescriptor (TX2 k).2.2.1 = some (tyX2 k) := by decide +kernel
abbrev cX2_init : ByteArray := prog_4_method_1_code
def yX2_init : MethodName := ⟨RX2, "<init>", "()V"⟩
abbrev cX2_list : ByteArray := prog_4_method_2_code
def yX2_list : MethodName := ⟨RX2, "list", "(LHatDraw$Office;IZ)I"⟩
abbrev cX2_extend : ByteArray := prog_4_method_3_code
def yX2_extend : MethodName := ⟨RX2, "extend", "(LHatDraw$Search;LHatDraw$Office;III)V"⟩
abbrev cX2_fitsAt : ByteArray := prog_4_method_4_code
def yX2_fitsAt : MethodName := ⟨RX2, "fitsAt", "(III)Z"⟩
abbrev cX2_fitting : ByteArray := prog_4_method_5_code
def yX2_fitting : MethodName := ⟨RX2, "fitting", "(II)I"⟩
abbrev cX2_placeOf : ByteArray := prog_4_method_6_code
def yX2_placeOf : MethodName := ⟨RX2, "placeOf", "(II)I"⟩
abbrev cX2_differing : ByteArray := prog_4_method_7_code
def yX2_differing : MethodName := ⟨RX2, "differing", "(II)I"⟩
abbrev cX2_shareByTurns : ByteArray := prog_4_method_8_code
def yX2_shareByTurns : MethodName := ⟨RX2, "shareByTurns", "(IIII)I"⟩
abbrev cX2_shareOf : ByteArray := prog_4_method_9_code
def yX2_shareOf : MethodName := ⟨RX2, "shareOf", "([IIIIIII)I"⟩
abbrev cX2_partsAt : ByteArray := prog_4_method_10_code
def yX2_partsAt : MethodName := ⟨RX2, "partsAt", "([IIII)I"⟩
def RX3 : String := "HatDraw$Texts"
def TX3 : u_T := fun k => match k with
  | 0 => ("HatDraw$Texts", "cells", "[[B", true)
  | _ => ("HatDraw$Texts", "sizes", "[I", true)
def tyX3 : Nat → FieldType := fun k => match k with
  | 0 => .array (.array .byte)
  | _ => .array .int
abbrev wsX30 : List Cond := u_ws RX3 TX3 2
theorem nmX3 : ∀ a, a < 2 → ∀ b, b < 2 → a ≠ b → (TX3 a).2.1 ≠ (TX3 b).2.1 := by decide +kernel
theorem tyX3_ok : ∀ k, k < 2 → parseFieldDescriptor (TX3 k).2.2.1 = some (tyX3 k) := by decide +kernel
abbrev cX3_init : ByteArray := prog_5_method_1_code
def yX3_init : MethodName := ⟨RX3, "<init>", "()V"⟩
abbrev cX3_isMissing : ByteArray := prog_5_method_2_code
def yX3_isMissing : MethodName := ⟨RX3, "isMissing", "(I)Z"⟩
abbrev cX3_renew : ByteArray := prog_5_method_3_code
def yX3_renew : MethodName := ⟨RX3, "renew", "(II)V"⟩
abbrev cX3_firstFault : ByteArray := prog_5_method_4_code
def yX3_firstFault : MethodName := ⟨RX3, "firstFault", "(I)I"⟩
abbrev cX3_isFigure : ByteArray := prog_5_method_5_code
def yX3_isFigure : MethodName := ⟨RX3, "isFigure", "(II)Z"⟩
abbrev cX3_mixAll : ByteArray := prog_5_method_6_code
def yX3_mixAll : MethodName := ⟨RX3, "mixAll", "(J)J"⟩
def RX4 : String := "HatDraw"
def TX4 : u_T := fun k => match k with
  | 0 => ("HatDraw", "rows", "LHatDraw$Rows;", true)
  | 1 => ("HatDraw", "texts", "LHatDraw$Texts;", true)
  | 2 => ("HatDraw", "here", "LHatDraw$Office;", true)
  | 3 => ("HatDraw", "trial", "LHatDraw$Office;", true)
  | 4 => ("HatDraw", "right", "LHatDraw$Search;", true)
  | 5 => ("HatDraw", "tried", "LHatDraw$Search;", true)
  | 6 => ("HatDraw", "hat", "I", false)
  | 7 => ("HatDraw", "drawn", "I", false)
  | 8 => ("HatDraw", "keptHats", "[I", true)
  | 9 => ("HatDraw", "keptDrawn", "[I", true)
  | 10 => ("HatDraw", "keptRules", "[I", true)
  | 11 => ("HatDraw", "stale", "Z", false)
  | 12 => ("HatDraw", "told", "I", false)
  | 13 => ("HatDraw", "upperTold", "J", false)
  | 14 => ("HatDraw", "lowerTold", "J", false)
  | 15 => ("HatDraw", "lastFinding", "I", false)
  | _ => ("HatDraw", "findingCounts", "[I", true)
def tyX4 : Nat → FieldType := fun k => match k with
  | 0 => .object "HatDraw$Rows"
  | 1 => .object "HatDraw$Texts"
  | 2 => .object "HatDraw$Office"
  | 3 => .object "HatDraw$Office"
  | 4 => .object "HatDraw$Search"
  | 5 => .object "HatDraw$Search"
  | 6 => .int
  | 7 => .int
  | 8 => .array .int
  | 9 => .array .int
  | 10 => .array .int
  | 11 => .boolean
  | 12 => .int
  | 13 => .long
  | 14 => .long
  | 15 => .int
  | _ => .array .int
abbrev wsX40 : List Cond := u_ws RX4 TX4 17
theorem nmX4 : ∀ a, a < 17 → ∀ b, b < 17 → a ≠ b → (TX4 a).2.1 ≠ (TX4 b).2.1 := by decide +kernel
theorem tyX4_ok : ∀ k, k < 17 → parseFieldDescriptor (TX4 k).2.2.1 = some (tyX4 k) := by decide +kernel
abbrev cX4_init : ByteArray := prog_1_method_1_code
def yX4_init : MethodName := ⟨RX4, "<init>", "()V"⟩
abbrev cX4_row : ByteArray := prog_1_method_2_code
def yX4_row : MethodName := ⟨RX4, "row", "(II)I"⟩
abbrev cX4_lay : ByteArray := prog_1_method_3_code
def yX4_lay : MethodName := ⟨RX4, "lay", "(III)I"⟩
abbrev cX4_at : ByteArray := prog_1_method_4_code
def yX4_at : MethodName := ⟨RX4, "at", "(II)I"⟩
abbrev cX4_tear : ByteArray := prog_1_method_5_code
def yX4_tear : MethodName := ⟨RX4, "tear", "(I)I"⟩
abbrev cX4_copy : ByteArray := prog_1_method_6_code
def yX4_copy : MethodName := ⟨RX4, "copy", "(IIIII)I"⟩
abbrev cX4_mean : ByteArray := prog_1_method_7_code
def yX4_mean : MethodName := ⟨RX4, "mean", "(I)I"⟩
abbrev cX4_text : ByteArray := prog_1_method_8_code
def yX4_text : MethodName := ⟨RX4, "text", "(II)I"⟩
abbrev cX4_put : ByteArray := prog_1_method_9_code
def yX4_put : MethodName := ⟨RX4, "put", "(III)I"⟩
abbrev cX4_fault : ByteArray := prog_1_method_10_code
def yX4_fault : MethodName := ⟨RX4, "fault", "(I)I"⟩
abbrev cX4_office : ByteArray := prog_1_method_11_code
def yX4_office : MethodName := ⟨RX4, "office", "(I)I"⟩
abbrev cX4_mate : ByteArray := prog_1_method_12_code
def yX4_mate : MethodName := ⟨RX4, "mate", "(II)I"⟩
abbrev cX4_mark : ByteArray := prog_1_method_13_code
def yX4_mark : MethodName := ⟨RX4, "mark", "(II)I"⟩
abbrev cX4_rules : ByteArray := prog_1_method_14_code
def yX4_rules : MethodName := ⟨RX4, "rules", "(I)I"⟩
abbrev cX4_move : ByteArray := prog_1_method_15_code
def yX4_move : MethodName := ⟨RX4, "move", "(II)I"⟩
abbrev cX4_may : ByteArray := prog_1_method_16_code
def yX4_may : MethodName := ⟨RX4, "may", "(I)I"⟩
abbrev cX4_judge : ByteArray := prog_1_method_17_code
def yX4_judge : MethodName := ⟨RX4, "judge", "(I)I"⟩
abbrev cX4_ways : ByteArray := prog_1_method_18_code
def yX4_ways : MethodName := ⟨RX4, "ways", "()I"⟩
abbrev cX4_nth : ByteArray := prog_1_method_19_code
def yX4_nth : MethodName := ⟨RX4, "nth", "(II)I"⟩
abbrev cX4_number : ByteArray := prog_1_method_20_code
def yX4_number : MethodName := ⟨RX4, "number", "(I)I"⟩
abbrev cX4_lot : ByteArray := prog_1_method_21_code
def yX4_lot : MethodName := ⟨RX4, "lot", "(II)I"⟩
abbrev cX4_draw : ByteArray := prog_1_method_22_code
def yX4_draw : MethodName := ⟨RX4, "draw", "(I)I"⟩
abbrev cX4_undo : ByteArray := prog_1_method_23_code
def yX4_undo : MethodName := ⟨RX4, "undo", "(I)I"⟩
abbrev cX4_drew : ByteArray := prog_1_method_24_code
def yX4_drew : MethodName := ⟨RX4, "drew", "(I)I"⟩
abbrev cX4_can : ByteArray := prog_1_method_25_code
def yX4_can : MethodName := ⟨RX4, "can", "()I"⟩
abbrev cX4_turns : ByteArray := prog_1_method_26_code
def yX4_turns : MethodName := ⟨RX4, "turns", "(II)I"⟩
abbrev cX4_alike : ByteArray := prog_1_method_27_code
def yX4_alike : MethodName := ⟨RX4, "alike", "(II)I"⟩
abbrev cX4_play : ByteArray := prog_1_method_28_code
def yX4_play : MethodName := ⟨RX4, "play", "(I)I"⟩
abbrev cX4_keep : ByteArray := prog_1_method_29_code
def yX4_keep : MethodName := ⟨RX4, "keep", "(I)I"⟩
abbrev cX4_on : ByteArray := prog_1_method_30_code
def yX4_on : MethodName := ⟨RX4, "on", "(I)I"⟩
abbrev cX4_year : ByteArray := prog_1_method_31_code
def yX4_year : MethodName := ⟨RX4, "year", "(I)I"⟩
abbrev cX4_forget : ByteArray := prog_1_method_32_code
def yX4_forget : MethodName := ⟨RX4, "forget", "(I)I"⟩
abbrev cX4_run : ByteArray := prog_1_method_33_code
def yX4_run : MethodName := ⟨RX4, "run", "()I"⟩
abbrev cX4_times : ByteArray := prog_1_method_34_code
def yX4_times : MethodName := ⟨RX4, "times", "(II)I"⟩
abbrev cX4_fits : ByteArray := prog_1_method_35_code
def yX4_fits : MethodName := ⟨RX4, "fits", "(II)I"⟩
abbrev cX4_known : ByteArray := prog_1_method_36_code
def yX4_known : MethodName := ⟨RX4, "known", "(II)I"⟩
abbrev cX4_still : ByteArray := prog_1_method_37_code
def yX4_still : MethodName := ⟨RX4, "still", "(II)I"⟩
abbrev cX4_fewest : ByteArray := prog_1_method_38_code
def yX4_fewest : MethodName := ⟨RX4, "fewest", "(I)I"⟩
abbrev cX4_drop : ByteArray := prog_1_method_39_code
def yX4_drop : MethodName := ⟨RX4, "drop", "()I"⟩
abbrev cX4_table : ByteArray := prog_1_method_40_code
def yX4_table : MethodName := ⟨RX4, "table", "(I)I"⟩
abbrev cX4_rings : ByteArray := prog_1_method_41_code
def yX4_rings : MethodName := ⟨RX4, "rings", "(I)I"⟩
abbrev cX4_ringed : ByteArray := prog_1_method_42_code
def yX4_ringed : MethodName := ⟨RX4, "ringed", "(I)I"⟩
abbrev cX4_even : ByteArray := prog_1_method_43_code
def yX4_even : MethodName := ⟨RX4, "even", "(I)I"⟩
abbrev cX4_gain : ByteArray := prog_1_method_44_code
def yX4_gain : MethodName := ⟨RX4, "gain", "(II)I"⟩
abbrev cX4_asked : ByteArray := prog_1_method_45_code
def yX4_asked : MethodName := ⟨RX4, "asked", "()I"⟩
abbrev cX4_upper : ByteArray := prog_1_method_46_code
def yX4_upper : MethodName := ⟨RX4, "upper", "()J"⟩
abbrev cX4_lower : ByteArray := prog_1_method_47_code
def yX4_lower : MethodName := ⟨RX4, "lower", "()J"⟩
abbrev cX4_count : ByteArray := prog_1_method_48_code
def yX4_count : MethodName := ⟨RX4, "count", "(I)I"⟩
abbrev cX4_finding : ByteArray := prog_1_method_49_code
def yX4_finding : MethodName := ⟨RX4, "finding", "()I"⟩
abbrev cX4_findings : ByteArray := prog_1_method_50_code
def yX4_findings : MethodName := ⟨RX4, "findings", "(I)I"⟩
abbrev cX4_digest : ByteArray := prog_1_method_51_code
def yX4_digest : MethodName := ⟨RX4, "digest", "()J"⟩
abbrev cX4_isRow : ByteArray := prog_1_method_52_code
def yX4_isRow : MethodName := ⟨RX4, "isRow", "(I)Z"⟩
abbrev cX4_isText : ByteArray := prog_1_method_53_code
def yX4_isText : MethodName := ⟨RX4, "isText", "(I)Z"⟩
abbrev cX4_isKeptPlace : ByteArray := prog_1_method_54_code
def yX4_isKeptPlace : MethodName := ⟨RX4, "isKeptPlace", "(I)Z"⟩
abbrev cX4_isSeed : ByteArray := prog_1_method_55_code
def yX4_isSeed : MethodName := ⟨RX4, "isSeed", "(I)Z"⟩
abbrev cX4_isMate : ByteArray := prog_1_method_56_code
def yX4_isMate : MethodName := ⟨RX4, "isMate", "(I)Z"⟩
abbrev cX4_isSet : ByteArray := prog_1_method_57_code
def yX4_isSet : MethodName := ⟨RX4, "isSet", "(I)Z"⟩
abbrev cX4_refuse : ByteArray := prog_1_method_58_code
def yX4_refuse : MethodName := ⟨RX4, "refuse", "(I)I"⟩
abbrev cX4_tellFraction : ByteArray := prog_1_method_59_code
def yX4_tellFraction : MethodName := ⟨RX4, "tellFraction", "(II)V"⟩
abbrev cX4_listRight : ByteArray := prog_1_method_60_code
def yX4_listRight : MethodName := ⟨RX4, "listRight", "()V"⟩
abbrev cX4_drawingIn : ByteArray := prog_1_method_61_code
def yX4_drawingIn : MethodName := ⟨RX4, "drawingIn", "(I)I"⟩
abbrev cX4_rightDrawingIn : ByteArray := prog_1_method_62_code
def yX4_rightDrawingIn : MethodName := ⟨RX4, "rightDrawingIn", "(I)I"⟩
abbrev cX4_layDrawing : ByteArray := prog_1_method_63_code
def yX4_layDrawing : MethodName := ⟨RX4, "layDrawing", "(II)V"⟩
abbrev cX4_isTaken : ByteArray := prog_1_method_64_code
def yX4_isTaken : MethodName := ⟨RX4, "isTaken", "(I)Z"⟩
abbrev cX4_takePaper : ByteArray := prog_1_method_65_code
def yX4_takePaper : MethodName := ⟨RX4, "takePaper", "(I)V"⟩
abbrev cX4_nextOpen : ByteArray := prog_1_method_66_code
def yX4_nextOpen : MethodName := ⟨RX4, "nextOpen", "()I"⟩
abbrev cX4_papersOf : ByteArray := prog_1_method_67_code
def yX4_papersOf : MethodName := ⟨RX4, "papersOf", "(I)I"⟩
abbrev cX4_paper : ByteArray := prog_1_method_68_code
def yX4_paper : MethodName := ⟨RX4, "paper", "(II)I"⟩
abbrev cX4_firstOnes : ByteArray := prog_1_method_69_code
def yX4_firstOnes : MethodName := ⟨RX4, "firstOnes", "(I)I"⟩
abbrev cX4_nextLot : ByteArray := prog_1_method_70_code
def yX4_nextLot : MethodName := ⟨RX4, "nextLot", "(I)I"⟩
abbrev cX4_bitNumber : ByteArray := prog_1_method_71_code
def yX4_bitNumber : MethodName := ⟨RX4, "bitNumber", "(II)I"⟩
abbrev cX4_isOf : ByteArray := prog_1_method_72_code
def yX4_isOf : MethodName := ⟨RX4, "isOf", "(II)Z"⟩
abbrev cX4_kindOf : ByteArray := prog_1_method_73_code
def yX4_kindOf : MethodName := ⟨RX4, "kindOf", "(I)I"⟩
abbrev cX4_ringOf : ByteArray := prog_1_method_74_code
def yX4_ringOf : MethodName := ⟨RX4, "ringOf", "(II)I"⟩
abbrev cX4_ringCount : ByteArray := prog_1_method_75_code
def yX4_ringCount : MethodName := ⟨RX4, "ringCount", "(II)I"⟩
abbrev cX4_howManyThere : ByteArray := prog_1_method_76_code
def yX4_howManyThere : MethodName := ⟨RX4, "howManyThere", "([I)I"⟩
abbrev cX4_mixPapers : ByteArray := prog_1_method_77_code
def yX4_mixPapers : MethodName := ⟨RX4, "mixPapers", "(JII)J"⟩
def RX5 : String := "HatDrawModel"
def TX5 : u_T := fun k => match k with
  | 0 => ("HatDrawModel", "finding", "I", false)
  | 1 => ("HatDrawModel", "findings", "[I", true)
  | 2 => ("HatDrawModel", "asked", "I", false)
  | 3 => ("HatDrawModel", "upper", "J", false)
  | 4 => ("HatDrawModel", "lower", "J", false)
  | 5 => ("HatDrawModel", "sizes", "[I", true)
  | 6 => ("HatDrawModel", "rows", "[I", true)
  | 7 => ("HatDrawModel", "moving", "[I", true)
  | 8 => ("HatDrawModel", "lengths", "[I", true)
  | 9 => ("HatDrawModel", "texts", "[I", true)
  | 10 => ("HatDrawModel", "many", "I", false)
  | 11 => ("HatDrawModel", "rules", "I", false)
  | 12 => ("HatDrawModel", "kinds", "[I", true)
  | 13 => ("HatDrawModel", "tables", "[I", true)
  | 14 => ("HatDrawModel", "worths", "[I", true)
  | 15 => ("HatDrawModel", "readAt", "I", false)
  | 16 => ("HatDrawModel", "readMany", "I", false)
  | 17 => ("HatDrawModel", "years", "[I", true)
  | 18 => ("HatDrawModel", "yearMany", "I", false)
  | 19 => ("HatDrawModel", "one", "[I", true)
  | 20 => ("HatDrawModel", "badMate", "I", false)
  | 21 => ("HatDrawModel", "rights", "[I", true)
  | 22 => ("HatDrawModel", "rightMany", "I", false)
  | 23 => ("HatDrawModel", "laidSet", "I", false)
  | 24 => ("HatDrawModel", "drawn", "I", false)
  | 25 => ("HatDrawModel", "hat", "[I", true)
  | 26 => ("HatDrawModel", "beginMany", "I", false)
  | 27 => ("HatDrawModel", "turnSum", "J", false)
  | 28 => ("HatDrawModel", "aside", "[I", true)
  | 29 => ("HatDrawModel", "kept", "[I", true)
  | 30 => ("HatDrawModel", "fitMany", "I", false)
  | _ => ("HatDrawModel", "h0", "J", false)
def tyX5 : Nat → FieldType := fun k => match k with
  | 0 => .int
  | 1 => .array .int
  | 2 => .int
  | 3 => .long
  | 4 => .long
  | 5 => .array .int
  | 6 => .array .int
  | 7 => .array .int
  | 8 => .array .int
  | 9 => .array .int
  | 10 => .int
  | 11 => .int
  | 12 => .array .int
  | 13 => .array .int
  | 14 => .array .int
  | 15 => .int
  | 16 => .int
  | 17 => .array .int
  | 18 => .int
  | 19 => .array .int
  | 20 => .int
  | 21 => .array .int
  | 22 => .int
  | 23 => .int
  | 24 => .int
  | 25 => .array .int
  | 26 => .int
  | 27 => .long
  | 28 => .array .int
  | 29 => .array .int
  | 30 => .int
  | _ => .long
abbrev wsX50 : List Cond := u_ws RX5 TX5 32
theorem nmX5 : ∀ a, a < 32 → ∀ b, b < 32 → a ≠ b → (TX5 a).2.1 ≠ (TX5 b).2.1 := by decide +kernel
theorem tyX5_ok : ∀ k, k < 32 → parseFieldDescriptor (TX5 k).2.2.1 = some (tyX5 k) := by decide +kernel
abbrev cX5_init : ByteArray := prog_7_method_1_code
def yX5_init : MethodName := ⟨RX5, "<init>", "()V"⟩
abbrev cX5_in : ByteArray := prog_7_method_3_code
def yX5_in : MethodName := ⟨RX5, "in", "(III)Z"⟩
abbrev cX5_meet : ByteArray := prog_7_method_4_code
def yX5_meet : MethodName := ⟨RX5, "meet", "(I)I"⟩
abbrev cX5_ask : ByteArray := prog_7_method_5_code
def yX5_ask : MethodName := ⟨RX5, "ask", "(II)I"⟩
abbrev cX5_part : ByteArray := prog_7_method_6_code
def yX5_part : MethodName := ⟨RX5, "part", "(JJI)I"⟩
abbrev cX5_has : ByteArray := prog_7_method_7_code
def yX5_has : MethodName := ⟨RX5, "has", "(II)Z"⟩
abbrev cX5_sizeOf : ByteArray := prog_7_method_8_code
def yX5_sizeOf : MethodName := ⟨RX5, "sizeOf", "(I)I"⟩
abbrev cX5_isRow : ByteArray := prog_7_method_9_code
def yX5_isRow : MethodName := ⟨RX5, "isRow", "(I)Z"⟩
abbrev cX5_isText : ByteArray := prog_7_method_10_code
def yX5_isText : MethodName := ⟨RX5, "isText", "(I)Z"⟩
abbrev cX5_askedRow : ByteArray := prog_7_method_11_code
def yX5_askedRow : MethodName := ⟨RX5, "askedRow", "(I)I"⟩
abbrev cX5_askedText : ByteArray := prog_7_method_12_code
def yX5_askedText : MethodName := ⟨RX5, "askedText", "(I)I"⟩
abbrev cX5_rowAt : ByteArray := prog_7_method_13_code
def yX5_rowAt : MethodName := ⟨RX5, "rowAt", "(II)I"⟩
abbrev cX5_setRow : ByteArray := prog_7_method_14_code
def yX5_setRow : MethodName := ⟨RX5, "setRow", "(III)V"⟩
abbrev cX5_row : ByteArray := prog_7_method_15_code
def yX5_row : MethodName := ⟨RX5, "row", "(II)I"⟩
abbrev cX5_at : ByteArray := prog_7_method_16_code
def yX5_at : MethodName := ⟨RX5, "at", "(II)I"⟩
abbrev cX5_lay : ByteArray := prog_7_method_17_code
def yX5_lay : MethodName := ⟨RX5, "lay", "(III)I"⟩
abbrev cX5_tear : ByteArray := prog_7_method_18_code
def yX5_tear : MethodName := ⟨RX5, "tear", "(I)I"⟩
abbrev cX5_copy : ByteArray := prog_7_method_19_code
def yX5_copy : MethodName := ⟨RX5, "copy", "(IIIII)I"⟩
abbrev cX5_mean : ByteArray := prog_7_method_20_code
def yX5_mean : MethodName := ⟨RX5, "mean", "(I)I"⟩
abbrev cX5_text : ByteArray := prog_7_method_21_code
def yX5_text : MethodName := ⟨RX5, "text", "(II)I"⟩
abbrev cX5_put : ByteArray := prog_7_method_22_code
def yX5_put : MethodName := ⟨RX5, "put", "(III)I"⟩
abbrev cX5_here : ByteArray := prog_7_method_23_code
def yX5_here : MethodName := ⟨RX5, "here", "(I)I"⟩
abbrev cX5_kindOf : ByteArray := prog_7_method_24_code
def yX5_kindOf : MethodName := ⟨RX5, "kindOf", "(I)I"⟩
abbrev cX5_readsMate : ByteArray := prog_7_method_25_code
def yX5_readsMate : MethodName := ⟨RX5, "readsMate", "(I)Z"⟩
abbrev cX5_goesOn : ByteArray := prog_7_method_26_code
def yX5_goesOn : MethodName := ⟨RX5, "goesOn", "(I)I"⟩
abbrev cX5_fault : ByteArray := prog_7_method_27_code
def yX5_fault : MethodName := ⟨RX5, "fault", "(I)I"⟩
abbrev cX5_office : ByteArray := prog_7_method_28_code
def yX5_office : MethodName := ⟨RX5, "office", "(I)I"⟩
abbrev cX5_isMate : ByteArray := prog_7_method_29_code
def yX5_isMate : MethodName := ⟨RX5, "isMate", "(I)Z"⟩
abbrev cX5_isSet : ByteArray := prog_7_method_30_code
def yX5_isSet : MethodName := ⟨RX5, "isSet", "(I)Z"⟩
abbrev cX5_isA : ByteArray := prog_7_method_31_code
def yX5_isA : MethodName := ⟨RX5, "isA", "(II)Z"⟩
abbrev cX5_lastOf : ByteArray := prog_7_method_32_code
def yX5_lastOf : MethodName := ⟨RX5, "lastOf", "(I)I"⟩
abbrev cX5_mateOf : ByteArray := prog_7_method_33_code
def yX5_mateOf : MethodName := ⟨RX5, "mateOf", "(II)I"⟩
abbrev cX5_mate : ByteArray := prog_7_method_34_code
def yX5_mate : MethodName := ⟨RX5, "mate", "(II)I"⟩
abbrev cX5_barOf : ByteArray := prog_7_method_35_code
def yX5_barOf : MethodName := ⟨RX5, "barOf", "(II)I"⟩
abbrev cX5_mayOf : ByteArray := prog_7_method_36_code
def yX5_mayOf : MethodName := ⟨RX5, "mayOf", "(I)I"⟩
abbrev cX5_mark : ByteArray := prog_7_method_37_code
def yX5_mark : MethodName := ⟨RX5, "mark", "(II)I"⟩
abbrev cX5_rules : ByteArray := prog_7_method_38_code
def yX5_rules : MethodName := ⟨RX5, "rules", "(I)I"⟩
abbrev cX5_move : ByteArray := prog_7_method_39_code
def yX5_move : MethodName := ⟨RX5, "move", "(II)I"⟩
abbrev cX5_may : ByteArray := prog_7_method_40_code
def yX5_may : MethodName := ⟨RX5, "may", "(I)I"⟩
abbrev cX5_askedDrawing : ByteArray := prog_7_method_41_code
def yX5_askedDrawing : MethodName := ⟨RX5, "askedDrawing", "(I)I"⟩
abbrev cX5_isBack : ByteArray := prog_7_method_42_code
def yX5_isBack : MethodName := ⟨RX5, "isBack", "(II)Z"⟩
abbrev cX5_ringOf : ByteArray := prog_7_method_43_code
def yX5_ringOf : MethodName := ⟨RX5, "ringOf", "(I)I"⟩
abbrev cX5_ringsOf : ByteArray := prog_7_method_44_code
def yX5_ringsOf : MethodName := ⟨RX5, "ringsOf", "()I"⟩
abbrev cX5_badBy : ByteArray := prog_7_method_45_code
def yX5_badBy : MethodName := ⟨RX5, "badBy", "()I"⟩
abbrev cX5_judge : ByteArray := prog_7_method_46_code
def yX5_judge : MethodName := ⟨RX5, "judge", "(I)I"⟩
abbrev cX5_rightOn : ByteArray := prog_7_method_47_code
def yX5_rightOn : MethodName := ⟨RX5, "rightOn", "(I)V"⟩
abbrev cX5_setRights : ByteArray := prog_7_method_48_code
def yX5_setRights : MethodName := ⟨RX5, "setRights", "()V"⟩
abbrev cX5_right : ByteArray := prog_7_method_49_code
def yX5_right : MethodName := ⟨RX5, "right", "(II)I"⟩
abbrev cX5_ways : ByteArray := prog_7_method_50_code
def yX5_ways : MethodName := ⟨RX5, "ways", "()I"⟩
abbrev cX5_layRight : ByteArray := prog_7_method_51_code
def yX5_layRight : MethodName := ⟨RX5, "layRight", "(II)V"⟩
abbrev cX5_nth : ByteArray := prog_7_method_52_code
def yX5_nth : MethodName := ⟨RX5, "nth", "(II)I"⟩
abbrev cX5_numberOf : ByteArray := prog_7_method_53_code
def yX5_numberOf : MethodName := ⟨RX5, "numberOf", "(I)I"⟩
abbrev cX5_number : ByteArray := prog_7_method_54_code
def yX5_number : MethodName := ⟨RX5, "number", "(I)I"⟩
abbrev cX5_isSeed : ByteArray := prog_7_method_55_code
def yX5_isSeed : MethodName := ⟨RX5, "isSeed", "(I)Z"⟩
abbrev cX5_lot : ByteArray := prog_7_method_56_code
def yX5_lot : MethodName := ⟨RX5, "lot", "(II)I"⟩
abbrev cX5_draw : ByteArray := prog_7_method_57_code
def yX5_draw : MethodName := ⟨RX5, "draw", "(I)I"⟩
abbrev cX5_undo : ByteArray := prog_7_method_58_code
def yX5_undo : MethodName := ⟨RX5, "undo", "(I)I"⟩
abbrev cX5_drew : ByteArray := prog_7_method_59_code
def yX5_drew : MethodName := ⟨RX5, "drew", "(I)I"⟩
abbrev cX5_begins : ByteArray := prog_7_method_60_code
def yX5_begins : MethodName := ⟨RX5, "begins", "(II)Z"⟩
abbrev cX5_cans : ByteArray := prog_7_method_61_code
def yX5_cans : MethodName := ⟨RX5, "cans", "(I)I"⟩
abbrev cX5_can : ByteArray := prog_7_method_62_code
def yX5_can : MethodName := ⟨RX5, "can", "()I"⟩
abbrev cX5_turnOn : ByteArray := prog_7_method_63_code
def yX5_turnOn : MethodName := ⟨RX5, "turnOn", "(IIIJ)V"⟩
abbrev cX5_turns : ByteArray := prog_7_method_64_code
def yX5_turns : MethodName := ⟨RX5, "turns", "(II)I"⟩
abbrev cX5_alike : ByteArray := prog_7_method_65_code
def yX5_alike : MethodName := ⟨RX5, "alike", "(II)I"⟩
abbrev cX5_play : ByteArray := prog_7_method_66_code
def yX5_play : MethodName := ⟨RX5, "play", "(I)I"⟩
abbrev cX5_keep : ByteArray := prog_7_method_67_code
def yX5_keep : MethodName := ⟨RX5, "keep", "(I)I"⟩
abbrev cX5_on : ByteArray := prog_7_method_68_code
def yX5_on : MethodName := ⟨RX5, "on", "(I)I"⟩
abbrev cX5_year : ByteArray := prog_7_method_69_code
def yX5_year : MethodName := ⟨RX5, "year", "(I)I"⟩
abbrev cX5_forget : ByteArray := prog_7_method_70_code
def yX5_forget : MethodName := ⟨RX5, "forget", "(I)I"⟩
abbrev cX5_isYear : ByteArray := prog_7_method_71_code
def yX5_isYear : MethodName := ⟨RX5, "isYear", "(I)Z"⟩
abbrev cX5_run : ByteArray := prog_7_method_72_code
def yX5_run : MethodName := ⟨RX5, "run", "()I"⟩
abbrev cX5_times : ByteArray := prog_7_method_73_code
def yX5_times : MethodName := ⟨RX5, "times", "(II)I"⟩
abbrev cX5_askedRight : ByteArray := prog_7_method_74_code
def yX5_askedRight : MethodName := ⟨RX5, "askedRight", "(I)I"⟩
abbrev cX5_knownOf : ByteArray := prog_7_method_75_code
def yX5_knownOf : MethodName := ⟨RX5, "knownOf", "(II)I"⟩
abbrev cX5_askedTelling : ByteArray := prog_7_method_76_code
def yX5_askedTelling : MethodName := ⟨RX5, "askedTelling", "(II)I"⟩
abbrev cX5_fits : ByteArray := prog_7_method_77_code
def yX5_fits : MethodName := ⟨RX5, "fits", "(II)I"⟩
abbrev cX5_known : ByteArray := prog_7_method_78_code
def yX5_known : MethodName := ⟨RX5, "known", "(II)I"⟩
abbrev cX5_still : ByteArray := prog_7_method_79_code
def yX5_still : MethodName := ⟨RX5, "still", "(II)I"⟩
abbrev cX5_fewest : ByteArray := prog_7_method_80_code
def yX5_fewest : MethodName := ⟨RX5, "fewest", "(I)I"⟩
abbrev cX5_drop : ByteArray := prog_7_method_81_code
def yX5_drop : MethodName := ⟨RX5, "drop", "()I"⟩
abbrev cX5_table : ByteArray := prog_7_method_82_code
def yX5_table : MethodName := ⟨RX5, "table", "(I)I"⟩
abbrev cX5_rings : ByteArray := prog_7_method_83_code
def yX5_rings : MethodName := ⟨RX5, "rings", "(I)I"⟩
abbrev cX5_lookAt : ByteArray := prog_7_method_84_code
def yX5_lookAt : MethodName := ⟨RX5, "lookAt", "(I)V"⟩
abbrev cX5_ringed : ByteArray := prog_7_method_85_code
def yX5_ringed : MethodName := ⟨RX5, "ringed", "(I)I"⟩
abbrev cX5_even : ByteArray := prog_7_method_86_code
def yX5_even : MethodName := ⟨RX5, "even", "(I)I"⟩
abbrev cX5_gain : ByteArray := prog_7_method_87_code
def yX5_gain : MethodName := ⟨RX5, "gain", "(II)I"⟩
abbrev cX5_asked : ByteArray := prog_7_method_88_code
def yX5_asked : MethodName := ⟨RX5, "asked", "()I"⟩
abbrev cX5_upper : ByteArray := prog_7_method_89_code
def yX5_upper : MethodName := ⟨RX5, "upper", "()J"⟩
abbrev cX5_lower : ByteArray := prog_7_method_90_code
def yX5_lower : MethodName := ⟨RX5, "lower", "()J"⟩
abbrev cX5_tells : ByteArray := prog_7_method_91_code
def yX5_tells : MethodName := ⟨RX5, "tells", "(I)I"⟩
abbrev cX5_count : ByteArray := prog_7_method_92_code
def yX5_count : MethodName := ⟨RX5, "count", "(I)I"⟩
abbrev cX5_finding : ByteArray := prog_7_method_93_code
def yX5_finding : MethodName := ⟨RX5, "finding", "()I"⟩
abbrev cX5_findings : ByteArray := prog_7_method_94_code
def yX5_findings : MethodName := ⟨RX5, "findings", "(I)I"⟩
abbrev cX5_mix : ByteArray := prog_7_method_95_code
def yX5_mix : MethodName := ⟨RX5, "mix", "(I)V"⟩
abbrev cX5_mixOffice : ByteArray := prog_7_method_96_code
def yX5_mixOffice : MethodName := ⟨RX5, "mixOffice", "()V"⟩
abbrev cX5_digest : ByteArray := prog_7_method_97_code
def yX5_digest : MethodName := ⟨RX5, "digest", "()J"⟩
def RJ6 : String := "java/lang/Integer"
def TJ6 : u_T := fun k => match k with
  | _ => ("", "", "", false)
def tyJ6 : Nat → FieldType := fun k => match k with
  | _ => .int
abbrev wsJ60 : List Cond := u_ws RJ6 TJ6 0
theorem nmJ6 : ∀ a, a < 0 → ∀ b, b < 0 → a ≠ b → (TJ6 a).2.1 ≠ (TJ6 b).2.1 := by decide +kernel
theorem tyJ6_ok : ∀ k, k < 0 → parseFieldDescriptor (TJ6 k).2.2.1 = some (tyJ6 k) := by decide +kernel
abbrev cJ6_bitCount_0f7a4 : ByteArray := prog_8_method_49_code
def yJ6_bitCount_0f7a4 : MethodName := ⟨RJ6, "bitCount", "(I)I"⟩
def RJ9 : String := "java/lang/Math"
def TJ9 : u_T := fun k => match k with
  | _ => ("", "", "", false)
def tyJ9 : Nat → FieldType := fun k => match k with
  | _ => .int
abbrev wsJ90 : List Cond := u_ws RJ9 TJ9 0
theorem nmJ9 : ∀ a, a < 0 → ∀ b, b < 0 → a ≠ b → (TJ9 a).2.1 ≠ (TJ9 b).2.1 := by decide +kernel
theorem tyJ9_ok : ∀ k, k < 0 → parseFieldDescriptor (TJ9 k).2.2.1 = some (tyJ9 k) := by decide +kernel
abbrev cJ9_abs_0f7a4 : ByteArray := prog_9_method_59_code
def yJ9_abs_0f7a4 : MethodName := ⟨RJ9, "abs", "(I)I"⟩
abbrev cJ9_max_7cf53 : ByteArray := prog_9_method_65_code
def yJ9_max_7cf53 : MethodName := ⟨RJ9, "max", "(II)I"⟩
abbrev cJ9_min_7cf53 : ByteArray := prog_9_method_69_code
def yJ9_min_7cf53 : MethodName := ⟨RJ9, "min", "(II)I"⟩
def RJ10 : String := "java/lang/System"
def TJ10 : u_T := fun k => match k with
  | _ => ("", "", "", false)
def tyJ10 : Nat → FieldType := fun k => match k with
  | _ => .int
abbrev wsJ100 : List Cond := u_ws RJ10 TJ10 0
theorem nmJ10 : ∀ a, a < 0 → ∀ b, b < 0 → a ≠ b → (TJ10 a).2.1 ≠ (TJ10 b).2.1 := by decide +kernel
theorem tyJ10_ok : ∀ k, k < 0 → parseFieldDescriptor (TJ10 k).2.2.1 = some (tyJ10 k) := by decide +kernel
def RJ7 : String := "java/util/Arrays"
def TJ7 : u_T := fun k => match k with
  | _ => ("", "", "", false)
def tyJ7 : Nat → FieldType := fun k => match k with
  | _ => .int
abbrev wsJ70 : List Cond := u_ws RJ7 TJ7 0
theorem nmJ7 : ∀ a, a < 0 → ∀ b, b < 0 → a ≠ b → (TJ7 a).2.1 ≠ (TJ7 b).2.1 := by decide +kernel
theorem tyJ7_ok : ∀ k, k < 0 → parseFieldDescriptor (TJ7 k).2.2.1 = some (tyJ7 k) := by decide +kernel
abbrev cJ7_fill_53178 : ByteArray := prog_11_method_103_code
def yJ7_fill_53178 : MethodName := ⟨RJ7, "fill", "([II)V"⟩
abbrev cJ7_fill_031fb : ByteArray := prog_11_method_109_code
def yJ7_fill_031fb : MethodName := ⟨RJ7, "fill", "([BB)V"⟩
def RL : String := "HatDrawLaw"
abbrev cL_law : ByteArray := code
def yL_law : MethodName := ⟨RL, "law", "([I)Z"⟩
