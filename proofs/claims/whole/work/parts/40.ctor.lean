/-- constructor mode: what holds while a constructor runs -/
def YC (x : CX) (A : Nat → Prop) (own : String) (cc : ByteArray) (n d : Nat) : Prop := (xp x).tables.exec = Jvm.exec ∧ (xc x).code = cc ∧ (xs x).vm.findClass own = some (xm x).cls ∧ (∀ w ∈ ww, w.before (xa x) (xs x) = true) ∧ va_K (xG x).1 cls (tyG (xG x)) (xs x) ∧ (va_AOA .int (xs x) ∧ va_AOA .byte (xs x)) ∧ (∀ q, (xs x).heap.size ≤ q → A q) ∧ (xM x).locks = false ∧ (xc x).maxLocals = n ∧ d ≤ (xR x).frames ∧ 64 * d ≤ (xR x).locals
def Y (x : CX) (A : Nat → Prop) (n pc : Nat) (lv : List (Nat × Value)) (st : List Value) (ws : va_W) (cells slots : Nat) : Prop := ∀ (H : Heap) (locs : List Loc) (la : Array Slot), lv_has la n lv → va_P (xG x).1 cls ws H → va_D A ws → va_S A (xs x).heap H locs → W (xp x) (xl x) (xe x) (xR x) (xs x) (xm x) (xa x) (xb x) (xM x) (xc x) H locs cells slots (xQ x) (F0 (xm x) pc la st)
def rmC (d mc ms : Nat) : Room := { frames := d, cells := mc, slots := ms, locals := 64 * d }
/-- a constructor's contract: the world w0 grows to wf u -/
def Ci {S : Type} (G : GT) (l : Launch) (y : MethodName) (ws : List Cond) (d mc ms : Nat) (as : List Value) (w0 : va_W) (post : S → Prop) (wf : S → va_W) : Prop := ∀ sz : Nat, Met l y ws (rmC d mc ms) (va_Pc as (fun U => U.heap.size = sz ∧ va_P G.1 cls w0 U.heap ∧ va_K G.1 cls (tyG G) U ∧ va_D (fun _ => True) w0 ∧ va_AOA .int U ∧ va_AOA .byte U)) (va_Qv post (fun u t => va_P G.1 cls (wf u) t.heap ∧ va_D (va_A w0 sz) (wf u)) (va_A w0 sz)) mc ms (va_A w0 sz)
theorem AOA.moved {ty : FieldType} {u U : State} (hvm : u.vm.Alike U.vm) (h : va_AOA ty u) : va_AOA ty U := over_moved hvm h
theorem Ci_of {S : Type} {G : GT} {l : Launch} {y : MethodName} {own : String} {cc : ByteArray} {maxL d mc ms : Nat} {as : List Value} {w0 : va_W} {post : S → Prop} {wf : S → va_W} (hy : plainName own = true) (ho : y.cls = own) (hln : (lg_sl as).length ≤ maxL) (lv : List (Nat × Value)) (hlv : lv_args 0 as = lv)
    (body : ∀ (x : CX) (A : Nat → Prop), xG x = G → xl x = l → xR x = rmC d mc ms → YC x A own cc maxL d → (xM x).sig.returnType = none → (xM x).name = y.name → xQ x = MQ (xb x) (va_Qv post (fun u t => va_P (xG x).1 cls (wf u) t.heap ∧ va_D A (wf u)) A) (xa x) (xs x) mc ms A → Y x A maxL 0 lv [] w0 0 0) : Ci G l y (.code y cc maxL none :: ww) d mc ms as w0 post wf := by
  subst ho
  subst hlv
  intro sz
  refine Met.ofW (cc := cc) (maxL := maxL) (ret := none) hy rfl ?_
  intro p e s m args below meth c s₁ B hml hv
  obtain ⟨rfl, hsz, hP, hK, hD0, hO⟩ := hv
  subst hsz
  have hts := atoms_spec (ws := .code y cc maxL none :: ww) B.pre
  have hl := lv_entry as (n := maxL) hln
  rw [lg_entry_eq]
  generalize (lg_sl as ++ List.replicate (maxL - (lg_sl as).length) Slot.unset).toArray = la at hl ⊢
  exact body ((p, l, e, (headSpec (.code y cc maxL none :: ww) (rmC d mc ms)).room), (s, m, as.toArray, below), (meth, c), (0, 0, MQ below (va_Qv post (fun u t => va_P G.1 cls (wf u) t.heap ∧ va_D (va_A w0 s.heap.size) (wf u)) (va_A w0 s.heap.size)) as.toArray s mc ms (va_A w0 s.heap.size)), G) (va_A w0 s.heap.size) rfl rfl rfl
    ⟨B.exec, B.bytes, findClass_of_methodNamed B.named, fun w hw => hts w (List.mem_cons_of_mem _ hw), hK, hO, fun q h => Or.inr h, B.notSynchronized, hml, Nat.le_refl _, Nat.le_refl _⟩ B.returns (name_of_methodNamed B.named B.method).1 rfl s.heap [] la hl hP hD0.self va_S.rf
theorem Y_aload_n {x : CX} {A : Nat → Prop} {own : String} {cc : ByteArray} {n pc : Nat} {lv : List (Nat × Value)} {st : List Value} {ws : va_W} {cells slots : Nat} {d : Nat} {f : Fin 4} {i h : Nat} (hC : YC x A own cc n d) (hd : decode cc pc = .ok (.aload_n f, 1)) (pc' : Nat) (hp : pc + 1 = pc') (hi : (f : Nat) = i) (j : Nat) (hv : lv[j]? = some (i, .ref h)) (k : Y x A n pc' lv (.ref h :: st) ws cells slots) : Y x A n pc lv (st) ws cells slots := fun H locs la hl hP hD hS => lv_aload_n hC.1 hC.2.1 hd hi (lv_at hl j hv) (by subst hp; exact k H locs la hl hP hD hS)
theorem Y_iconst {x : CX} {A : Nat → Prop} {own : String} {cc : ByteArray} {n pc : Nat} {lv : List (Nat × Value)} {st : List Value} {ws : va_W} {cells slots : Nat} {d : Nat} {m : Int} {v : Int32} (hC : YC x A own cc n d) (hd : decode cc pc = .ok (.iconst m, 1)) (pc' : Nat) (hp : pc + 1 = pc') (hv : Int32.ofInt m = v) (k : Y x A n pc' lv (.int v :: st) ws cells slots) : Y x A n pc lv (st) ws cells slots := fun H locs la hl hP hD hS => lv_iconst hC.1 hC.2.1 hd hv (by subst hp; exact k H locs la hl hP hD hS)
theorem Y_bipush {x : CX} {A : Nat → Prop} {own : String} {cc : ByteArray} {n pc : Nat} {lv : List (Nat × Value)} {st : List Value} {ws : va_W} {cells slots : Nat} {d : Nat} {m : Int} {v : Int32} (hC : YC x A own cc n d) (hd : decode cc pc = .ok (.bipush m, 2)) (pc' : Nat) (hp : pc + 2 = pc') (hv : (Int8.ofInt m).toInt32 = v) (k : Y x A n pc' lv (.int v :: st) ws cells slots) : Y x A n pc lv (st) ws cells slots := fun H locs la hl hP hD hS => lv_bipush hC.1 hC.2.1 hd hv (by subst hp; exact k H locs la hl hP hD hS)
theorem Y_sipush {x : CX} {A : Nat → Prop} {own : String} {cc : ByteArray} {n pc : Nat} {lv : List (Nat × Value)} {st : List Value} {ws : va_W} {cells slots : Nat} {d : Nat} {m : Int} {v : Int32} (hC : YC x A own cc n d) (hd : decode cc pc = .ok (.sipush m, 3)) (pc' : Nat) (hp : pc + 3 = pc') (hv : (Int16.ofInt m).toInt32 = v) (k : Y x A n pc' lv (.int v :: st) ws cells slots) : Y x A n pc lv (st) ws cells slots := fun H locs la hl hP hD hS => lv_sipush hC.1 hC.2.1 hd hv (by subst hp; exact k H locs la hl hP hD hS)
theorem Y_lconst {x : CX} {A : Nat → Prop} {own : String} {cc : ByteArray} {n pc : Nat} {lv : List (Nat × Value)} {st : List Value} {ws : va_W} {cells slots : Nat} {d : Nat} {m : Fin 2} {v : Int64} (hC : YC x A own cc n d) (hd : decode cc pc = .ok (.lconst m, 1)) (pc' : Nat) (hp : pc + 1 = pc') (hv : Int64.ofNat m = v) (k : Y x A n pc' lv (.long v :: st) ws cells slots) : Y x A n pc lv (st) ws cells slots := fun H locs la hl hP hD hS => lv_lconst hC.1 hC.2.1 hd hv (by subst hp; exact k H locs la hl hP hD hS)
theorem Y_dup {x : CX} {A : Nat → Prop} {own : String} {cc : ByteArray} {n pc : Nat} {lv : List (Nat × Value)} {st : List Value} {ws : va_W} {cells slots : Nat} {d : Nat} {v : Value} (hC : YC x A own cc n d) (hd : decode cc pc = .ok (.dup, 1)) (pc' : Nat) (hp : pc + 1 = pc') (hv : v.category = 1) (k : Y x A n pc' lv (v :: v :: st) ws cells slots) : Y x A n pc lv (v :: st) ws cells slots := fun H locs la hl hP hD hS => lv_dup hC.1 hC.2.1 hd hv (by subst hp; exact k H locs la hl hP hD hS)
theorem Y_objInit {x : CX} {A : Nat → Prop} {own : String} {cc : ByteArray} {n pc : Nat} {lv : List (Nat × Value)} {st : List Value} {ws : va_W} {cells slots : Nat} {d idx h : Nat} (hC : YC x A own cc n d) (hdd : 1 ≤ d) (w1 : Cond.methodLink own idx Lib.objectInit ∈ ww) (w2 : Cond.instanceMethod Lib.objectInit ∈ ww) (w3 : Cond.code Lib.objectInit ⟨#[0xb1]⟩ 1 none ∈ ww) (hcat : (st.map fun v => v.category).sum ≤ 8) (hd : decode cc pc = .ok (.invokespecial idx, 3)) (pc' : Nat) (hp : pc + 3 = pc') (k : Y x A n pc' lv st ws cells slots) : Y x A n pc lv (.ref h :: st) ws cells slots := fun H locs la hl hP hD hS => by
  obtain ⟨c1, c2, c3, c4, c5, c6, c7, c8, c9, c10, c11⟩ := hC
  refine W.objInit c1 c2 c3 (c4 _ w1) (c4 _ w2) (c4 _ w3) rfl (by rw [c9]; exact hl.1) rfl hd (Nat.le_trans hdd c10) ?_ ?_
  · have : 2 * (F0 (xm x) pc la (Value.ref h :: st)).monitorRoom + (st.map fun v => v.category).sum ≤ 8 := lv_room hcat
    omega
  · subst hp; exact k H locs la hl hP hD hS
theorem cI_eq {G : GT} {s : State} {cA : ClassId} (hK : va_K G.1 cls (tyG G) s) (h : va_RA s cA .int) : cA = G.2.1 0 := Option.some.inj ((va_nm_int h).symm.trans (va_nm_int ((hK.2 0 _ rfl).2)))
theorem Y_newI {x : CX} {A : Nat → Prop} {own : String} {cc : ByteArray} {n pc : Nat} {lv : List (Nat × Value)} {st : List Value} {ws : va_W} {cells slots : Nat} {d : Nat} {v : Int32} (N' : Nat) (hC : YC x A own cc n d) (hn : ¬ v < 0) (hN : v.toNatClampNeg = N') (hby : N' ≤ 100000) (hcl : cells + 1 ≤ (xR x).cells) (hsl : slots + N' ≤ (xR x).slots) (w1 : Cond.arrayClass .int ∈ ww) (hd : decode cc pc = .ok (.newarray .int, 2)) (pc' : Nat) (hp : pc + 2 = pc') (k : ∀ q : Nat, Y x A n pc' lv (.ref q :: st) (ws ++ [(q, .inl ((xG x).2.1 0, N', .inl (fun _ => 0)))]) (cells + 1) (slots + N')) : Y x A n pc lv (.int v :: st) ws cells slots := fun H locs la hl hP hD hS => by
  obtain ⟨c1, c2, c3, c4, c5, c6, c7, c8⟩ := hC
  refine va_newa (atype := .int) (ty := .int) (D := (xG x).1) (a0 := (N', .inl (fun _ => 0))) c1 c2 (c4 _ w1) rfl c5 hP hD hS c7 (fun cA => rfl) hn hN (by show N' * 4 ≤ _; omega) hcl hsl hd (fun q cA H1 hK1 hP1 hD1 hS1 => ?_)
  have e : cA = (xG x).2.1 0 := cI_eq c5 (hK1.2 4 _ rfl).2
  subst e
  subst hp
  exact k q H1 locs la hl hP1 hD1 hS1
theorem Y_new {x : CX} {A : Nat → Prop} {own : String} {cc : ByteArray} {n pc : Nat} {lv : List (Nat × Value)} {st : List Value} {ws : va_W} {cells slots : Nat} {d idx ci N : Nat} {C : String} {T : u_T} (ty : Nat → FieldType) (fs : List Value) (hC : YC x A own cc n d) (hin : ∀ w ∈ u_ws C T N, w ∈ ww) (hty : ∀ k, k < N → parseFieldDescriptor (T k).2.2.1 = some (ty k)) (w1 : Cond.classLink own idx C ∈ ww) (w2 : Cond.instantiable C N ∈ ww) (w3 : Cond.initialized C ∈ ww) (hc : cls[ci]? = some (C, T, N)) (hfs : ∀ j, j < N → defaultValue (ty j) = vp_V fs j) (hcl : cells + 1 ≤ (xR x).cells) (hsl : slots + N ≤ (xR x).slots) (hd : decode cc pc = .ok (.new idx, 3)) (pc' : Nat) (hp : pc + 3 = pc') (k : ∀ q : Nat, Y x A n pc' lv (.ref q :: st) (ws ++ [(q, .inr (ci, fs))]) (cells + 1) (slots + N)) : Y x A n pc lv st ws cells slots := fun H locs la hl hP hD hS => by
  obtain ⟨c1, c2, c3, c4, c5, c6, c7, c8⟩ := hC
  refine va_new (D := (xG x).1) (fs := fs) c1 c2 c4 hin ty hty c3 (c4 _ w1) (c4 _ w2) (c4 _ w3) c5 hP hD hS c7 hc hfs hcl hsl hd (fun q H1 hP1 hD1 hS1 => ?_)
  subst hp
  exact k q H1 locs la hl hP1 hD1 hS1
theorem Y_put {x : CX} {A : Nat → Prop} {own : String} {cc : ByteArray} {n pc : Nat} {lv : List (Nat × Value)} {st : List Value} {ws : va_W} {cells slots : Nat} {d idx ci N h : Nat} {C : String} {T : u_T} {v : Value} {ty : FieldType} (ty0 : Nat → FieldType) (q0 kf : Nat) (fs : List Value) (ws' : va_W) (hC : YC x A own cc n d) (hnm : (xM x).name = "<init>") (he : ws[q0]? = some (h, .inr (ci, fs))) (hc : cls[ci]? = some (C, T, N)) (hin : ∀ w ∈ u_ws C T N, w ∈ ww) (hty : ∀ k, k < N → parseFieldDescriptor (T k).2.2.1 = some (ty0 k)) (hap : ∀ a, a < N → ∀ b, b < N → a ≠ b → (T a).2.1 ≠ (T b).2.1) (hk : kf < N) (hlk : Cond.fieldLink own idx C (T kf).2.1 (T kf).2.2.1 ∈ ww) (hs : (T kf).1 = C) (ho : C = own) (hpd : parseFieldDescriptor (T kf).2.2.1 = some ty) (hn : narrow ty v = v) (hft : fits ty v = true) (hlen : kf < fs.length) (hws : ws.set q0 (h, .inr (ci, fs.set kf v)) = ws') (hd : decode cc pc = .ok (.putfield idx, 3)) (pc' : Nat) (hp : pc + 3 = pc') (k : Y x A n pc' lv st ws' cells slots) : Y x A n pc lv (v :: .ref h :: st) ws cells slots := fun H locs la hl hP hD hS => by
  obtain ⟨c1, c2, c3, c4, c5, c6, c7, c8⟩ := hC
  subst hws
  by_cases hf : (T kf).2.2.2 = true
  · refine va_putF (D := (xG x).1) (v := v) (ty := ty) c1 c2 c4 hin ty0 hty hap c3 c5 hP hD hS q0 he hc kf hk (c4 _ hlk) (fun z hz => by rw [hs] at hz; exact hz) hf hnm (hs.trans ho) hpd hn hft hlen hd (fun H1 locs1 hP1 hD1 hS1 => ?_)
    subst hp; exact k H1 locs1 la hl hP1 hD1 hS1
  · have hf : (T kf).2.2.2 = false := by cases h9 : (T kf).2.2.2 with | true => exact absurd h9 hf | false => rfl
    refine va_put (D := (xG x).1) (v := v) (ty := ty) c1 c2 c4 hin ty0 hty hap c3 c5 hP hD hS q0 he hc kf hk (c4 _ hlk) (fun z hz => by rw [hs] at hz; exact hz) hf hpd hn hft hlen hd (fun H1 locs1 hP1 hD1 hS1 => ?_)
    subst hp; exact k H1 locs1 la hl hP1 hD1 hS1
theorem Y_get {x : CX} {A : Nat → Prop} {own : String} {cc : ByteArray} {n pc : Nat} {lv : List (Nat × Value)} {st : List Value} {ws : va_W} {cells slots : Nat} {d idx ci N h : Nat} {C : String} {T : u_T} {v : Value} (q0 kf : Nat) (fs : List Value) (hC : YC x A own cc n d) (he : ws[q0]? = some (h, .inr (ci, fs))) (hc : cls[ci]? = some (C, T, N)) (hin : ∀ w ∈ u_ws C T N, w ∈ ww) (hk : kf < N) (hlk : Cond.fieldLink own idx C (T kf).2.1 (T kf).2.2.1 ∈ ww) (hs : (T kf).1 = C) (hv : fs[kf]? = some v) (hd : decode cc pc = .ok (.getfield idx, 3)) (pc' : Nat) (hp : pc + 3 = pc') (k : Y x A n pc' lv (v :: st) ws cells slots) : Y x A n pc lv (.ref h :: st) ws cells slots := fun H locs la hl hP hD hS => by
  obtain ⟨c1, c2, c3, c4, c5, c6, c7, c8⟩ := hC
  refine va_get (D := (xG x).1) (v := v) c1 c2 c4 hin c3 c5 hP q0 he hc kf hk (c4 _ hlk) (fun z hz => by rw [hs] at hz; exact hz) hv hd ?_
  subst hp; exact k H locs la hl hP hD hS
/-- a constructor is called: its part of the world grows -/
theorem Y_callI {x : CX} {A : Nat → Prop} {own : String} {cc : ByteArray} {n pc : Nat} {lv : List (Nat × Value)} {st : List Value} {ws : va_W} {cells slots : Nat} {S : Type} {d dc mc ms idx maxL h m : Nat} {y : MethodName} {bytes : ByteArray} {w0 wr : va_W} {post : S → Prop} {wf : S → va_W} {st0 : List Value} (as : List Value) (isC isR : List Nat) (hC : YC x A own cc n d) (hM : Ci (xG x) (xl x) y (.code y bytes maxL none :: ww) dc mc ms (.ref h :: as) w0 post wf) (hy : y.cls ≠ "java/lang/invoke/MethodHandle" ∧ y.cls ≠ "java/lang/invoke/VarHandle" ∧ (parseMethodDescriptor y.desc).map (fun d => d.parameters.length) = some m) (hy1 : y.name = "<init>") (w1 : Cond.methodLink own idx y ∈ ww) (w2 : Cond.instanceMethod y ∈ ww) (w4 : Cond.initialized y.cls ∈ ww) (w5 : Cond.code y bytes maxL none ∈ ww) (hdc : dc + 1 ≤ d) (hmx : maxL ≤ 45) (hn : as.length = m) (hst : st0 = as.reverse ++ .ref h :: st) (hcat : (st.map fun v => v.category).sum ≤ 8) (hcl : cells + mc ≤ (xR x).cells) (hsl : slots + ms ≤ (xR x).slots) (hiC : isC.map (fun i => ws[i]?) = w0.map some) (hiR : isR.map (fun i => ws[i]?) = wr.map some) (hcn : va_nd isC = true) (hrn : va_nd isR = true) (hdis : ∀ i ∈ isR, i ∉ isC) (hd : decode cc pc = .ok (.invokespecial idx, 3)) (pc' : Nat) (hp : pc + 3 = pc') (k : ∀ u : S, post u → Y x A n pc' lv st (wr ++ wf u) (cells + mc) (slots + ms)) : Y x A n pc lv st0 ws cells slots := fun H locs la hl hP hD hS => by
  obtain ⟨c1, c2, c3, c4, c5, c6, c7, c8, c9, c10, c11⟩ := hC
  subst hst
  have at' : ∀ (k : Nat) (q : Nat × va_E), w0[k]? = some q → ∃ i, ws[i]? = some q := fun k q hq => by
    have h1 : (isC.map (fun i => ws[i]?))[k]? = some (some q) := by rw [hiC, List.getElem?_map, hq]; rfl
    rw [List.getElem?_map] at h1
    cases hi : isC[k]? with
    | none => rw [hi] at h1; cases h1
    | some i => rw [hi] at h1; exact ⟨i, Option.some.inj h1⟩
  have hPc : va_P (xG x).1 cls w0 H := fun k q hq => by
    obtain ⟨i, hi⟩ := at' k q hq
    exact hP i q hi
  have hDc : va_D A w0 := hD.sub isC hcn hiC
  have hFc := va_free (wc := w0) hD hS c7 isC hiC
  refine va_callv (va_runI (As := as) (rest := st) ⟨c1, c2, c9, c3, c4⟩ (hM H.size) (cwI m c4 (gww w5) rfl rfl rfl (c4 _ w4) (c4 _ w1) (c4 _ w2) hy1 hy ⟨Nat.le_trans hdc c10, by show 8 + (maxL + 11) + 64 * dc ≤ _; omega⟩) ⟨fun a U g mk q => by
      obtain ⟨q0, q1, qP, qK, qD, qO, qB⟩ := q
      exact ⟨q0, q1, qP, va_K.moved (u := U) (U := U.calling g mk a) (Vm.Alike.refl U.vm) qK, qD, AOA.moved (u := U) (U := U.calling g mk a) (Vm.Alike.refl U.vm) qO, AOA.moved (u := U) (U := U.calling g mk a) (Vm.Alike.refl U.vm) qB⟩, fun U hU hW => ⟨rfl, by rw [hU], by rw [hU]; exact hPc, va_K.moved hW.alike c5, hDc.weaken (fun _ _ _ _ => trivial), AOA.moved hW.alike c6.1, AOA.moved hW.alike c6.2⟩⟩ rfl hn hl.1 rfl (lv_room hcat) hd ⟨hcl, hsl⟩) hS (fun q _ h => hFc q h) hFc (fun u t H1 locs1 ht hvm hw hB hz1 hk1 hS1 => ?_)
  obtain ⟨hP1, hD1⟩ := hB
  rw [ht] at hP1
  obtain ⟨hP2, hD2⟩ := va_join (wr := wr) hP hD isC isR hiC hiR hrn hdis hk1 hFc hP1 hD1
  subst hp
  exact k u hw H1 locs1 la hl hP2 hD2 hS1
theorem Y_return {x : CX} {A : Nat → Prop} {own : String} {cc : ByteArray} {n pc : Nat} {lv : List (Nat × Value)} {st : List Value} {ws : va_W} {cells slots : Nat} {S : Type} {d : Nat} {post : S → Prop} {wf : S → va_W} (u : S) (hC : YC x A own cc n d) (hr : (xM x).sig.returnType = none) (hQ : xQ x = MQ (xb x) (va_Qv post (fun u t => va_P (xG x).1 cls (wf u) t.heap ∧ va_D A (wf u)) A) (xa x) (xs x) cells slots A) (hu : post u) (is : List Nat) (hn : va_nd is = true) (hws : is.map (fun i => ws[i]?) = (wf u).map some) (hd : decode cc pc = .ok (.return_, 1)) : Y x A n pc lv [] ws cells slots := fun H locs la hl hP hD hS => by
  obtain ⟨c1, c2, c3, c4, c5, c6, c7, c8, c9⟩ := hC
  have hP9 : va_P (xG x).1 cls (wf u) H := fun k q hq => by
    have h1 : (is.map (fun i => ws[i]?))[k]? = some (some q) := by rw [hws, List.getElem?_map, hq]; rfl
    rw [List.getElem?_map] at h1
    cases hi : is[k]? with
    | none => rw [hi] at h1; cases h1
    | some i => rw [hi] at h1; exact hP i q (Option.some.inj h1)
  have hD9 : va_D A (wf u) := hD.sub is hn hws
  rw [hQ]
  exact W.vret c1 c2 hr (fun t ht hW => ⟨⟨u, rfl, hu, by rw [ht]; exact hP9, hD9⟩, hS.F ht⟩) hS.2.2 hd c8
theorem Y_eq {x : CX} {A : Nat → Prop} {own : String} {cc : ByteArray} {n pc : Nat} {lv : List (Nat × Value)} {st : List Value} {ws : va_W} {cells slots : Nat} (ws' : va_W) (h : ws = ws') (k : Y x A n pc lv st ws' cells slots) : Y x A n pc lv st ws cells slots := by subst h; exact k
theorem Y_iload_n {x : CX} {A : Nat → Prop} {own : String} {cc : ByteArray} {n pc : Nat} {lv : List (Nat × Value)} {st : List Value} {ws : va_W} {cells slots : Nat} {d : Nat} {f : Fin 4} {i : Nat} {v : Int32} (hC : YC x A own cc n d) (hd : decode cc pc = .ok (.iload_n f, 1)) (pc' : Nat) (hp : pc + 1 = pc') (hi : (f : Nat) = i) (j : Nat) (hv : lv[j]? = some (i, .int v)) (k : Y x A n pc' lv (.int v :: st) ws cells slots) : Y x A n pc lv (st) ws cells slots := fun H locs la hl hP hD hS => lv_iload_n hC.1 hC.2.1 hd hi (lv_at hl j hv) (by subst hp; exact k H locs la hl hP hD hS)
theorem Y_istore_n {x : CX} {A : Nat → Prop} {own : String} {cc : ByteArray} {n pc : Nat} {lv : List (Nat × Value)} {st : List Value} {ws : va_W} {cells slots : Nat} {d i : Nat} {f : Fin 4} {v : Int32} (hC : YC x A own cc n d) (hd : decode cc pc = .ok (.istore_n f, 1)) (pc' : Nat) (hp : pc + 1 = pc') (he : (f : Nat) = i) (hi : i < n) (lv' : List (Nat × Value)) (hlv : (i, Value.int v) :: lv.filter (fun q => !(q.1 == i) && !(q.1 + 1 == i && q.2.category == 2)) = lv') (k : Y x A n pc' lv' st ws cells slots) : Y x A n pc lv (.int v :: st) ws cells slots := fun H locs la hl hP hD hS => lv_istore_n hC.1 hC.2.1 hd he hl hi hlv (fun la' h' => by subst hp; exact k H locs la' h' hP hD hS)
theorem Y_iinc {x : CX} {A : Nat → Prop} {own : String} {cc : ByteArray} {n pc : Nat} {lv : List (Nat × Value)} {st : List Value} {ws : va_W} {cells slots : Nat} {d i j : Nat} {m : Int} {v v' : Int32} (hC : YC x A own cc n d) (hd : decode cc pc = .ok (.iinc i m, 3)) (pc' : Nat) (hp : pc + 3 = pc') (hv : lv[j]? = some (i, .int v)) (hv' : v + Int32.ofInt m = v') (hi : i < n) (lv' : List (Nat × Value)) (hlv : (i, Value.int v') :: lv.filter (fun q => !(q.1 == i) && !(q.1 + 1 == i && q.2.category == 2)) = lv') (k : Y x A n pc' lv' st ws cells slots) : Y x A n pc lv st ws cells slots := fun H locs la hl hP hD hS => lv_iinc hC.1 hC.2.1 hd hl hv hv' hi hlv (fun la' h' => by subst hp; exact k H locs la' h' hP hD hS)
theorem Y_goto {x : CX} {A : Nat → Prop} {own : String} {cc : ByteArray} {n pc : Nat} {lv : List (Nat × Value)} {st : List Value} {ws : va_W} {cells slots : Nat} {d : Nat} {off : Int} (hC : YC x A own cc n d) (hd : decode cc pc = .ok (.goto off, 3)) (tgt : Nat) (ht : (pc : Int) + off = (tgt : Int)) (k : Y x A n tgt lv st ws cells slots) : Y x A n pc lv st ws cells slots := fun H locs la hl hP hD hS => lv_goto hC.1 hC.2.1 hd ht (k H locs la hl hP hD hS)
theorem Y_icmp_ge {x : CX} {A : Nat → Prop} {own : String} {cc : ByteArray} {n pc : Nat} {lv : List (Nat × Value)} {st : List Value} {ws : va_W} {cells slots : Nat} {d : Nat} {off : Int} {x1 x2 : Int32} (hC : YC x A own cc n d) (hd : decode cc pc = .ok (.if_icmp .ge off, 3)) (pc' tgt : Nat) (hp : pc + 3 = pc') (ht : (pc : Int) + off = (tgt : Int)) (kt : x2 ≤ x1 → Y x A n tgt lv st ws cells slots) (kf : ¬ x2 ≤ x1 → Y x A n pc' lv st ws cells slots) : Y x A n pc lv (.int x2 :: .int x1 :: st) ws cells slots := fun H locs la hl hP hD hS => lv_icmp_ge hC.1 hC.2.1 hd ht (fun c => kt c H locs la hl hP hD hS) (fun c => by subst hp; exact kf c H locs la hl hP hD hS)
theorem Y_alen {x : CX} {A : Nat → Prop} {own : String} {cc : ByteArray} {n pc : Nat} {lv : List (Nat × Value)} {st : List Value} {ws : va_W} {cells slots : Nat} {d h N' : Nat} {f : Nat → Int32} (q0 : Nat) (hC : YC x A own cc n d) (he : ws[q0]? = some (h, .inl ((xG x).2.1 0, N', .inl f))) (hd : decode cc pc = .ok (.arraylength, 1)) (pc' : Nat) (hp : pc + 1 = pc') (k : Y x A n pc' lv (.int (Int32.ofNat N') :: st) ws cells slots) : Y x A n pc lv (.ref h :: st) ws cells slots := fun H locs la hl hP hD hS => by
  refine va_alen (D := (xG x).1) hC.1 hC.2.1 hC.2.2.2.2.1 hP q0 0 he rfl rfl hd ?_
  subst hp; exact k H locs la hl hP hD hS
theorem Y_iastore {x : CX} {A : Nat → Prop} {own : String} {cc : ByteArray} {n pc : Nat} {lv : List (Nat × Value)} {st : List Value} {ws : va_W} {cells slots : Nat} {d h N' : Nat} {f : Nat → Int32} {j v : Int32} (q0 : Nat) (ws' : va_W) (hC : YC x A own cc n d) (he : ws[q0]? = some (h, .inl ((xG x).2.1 0, N', .inl f))) (hin : vp_in j N') (hws : ws.set q0 (h, .inl ((xG x).2.1 0, N', .inl (upd f j.toNatClampNeg v))) = ws') (hd : decode cc pc = .ok (.iastore, 1)) (pc' : Nat) (hp : pc + 1 = pc') (k : Y x A n pc' lv st ws' cells slots) : Y x A n pc lv (.int v :: .int j :: .ref h :: st) ws cells slots := fun H locs la hl hP hD hS => by
  subst hws
  refine va_iast (D := (xG x).1) hC.1 hC.2.1 hC.2.2.2.2.1 hP hD hS q0 0 he rfl hin hd (fun H1 locs1 hP1 hD1 hS1 => ?_)
  subst hp; exact k H1 locs1 la hl hP1 hD1 hS1
theorem Y_callS {x : CX} {A : Nat → Prop} {own : String} {cc : ByteArray} {n pc : Nat} {lv : List (Nat × Value)} {st : List Value} {ws : va_W} {cells slots : Nat} {S : Type} {d dc mc ms idx maxL m : Nat} {y : MethodName} {bytes : ByteArray} {w0 wr : va_W} {post : S → Prop} {wf : S → va_W} {st0 : List Value} (as : List Value) (isC isR : List Nat) (hC : YC x A own cc n d) (hM : Ci (xG x) (xl x) y (.code y bytes maxL none :: ww) dc mc ms as w0 post wf) (hy : y.cls ≠ "java/lang/invoke/MethodHandle" ∧ y.cls ≠ "java/lang/invoke/VarHandle" ∧ (parseMethodDescriptor y.desc).map (fun d => d.parameters.length) = some m) (w1 : Cond.methodLink own idx y ∈ ww) (w2 : Cond.static y ∈ ww) (w4 : Cond.initialized y.cls ∈ ww) (w5 : Cond.code y bytes maxL none ∈ ww) (hdc : dc + 1 ≤ d) (hmx : maxL ≤ 45) (hn : as.length = m) (hst : st0 = as.reverse ++ st) (hcat : (st.map fun v => v.category).sum ≤ 8) (hcl : cells + mc ≤ (xR x).cells) (hsl : slots + ms ≤ (xR x).slots) (hiC : isC.map (fun i => ws[i]?) = w0.map some) (hiR : isR.map (fun i => ws[i]?) = wr.map some) (hcn : va_nd isC = true) (hrn : va_nd isR = true) (hdis : ∀ i ∈ isR, i ∉ isC) (hd : decode cc pc = .ok (.invokestatic idx, 3)) (pc' : Nat) (hp : pc + 3 = pc') (k : ∀ u : S, post u → Y x A n pc' lv st (wr ++ wf u) (cells + mc) (slots + ms)) : Y x A n pc lv st0 ws cells slots := fun H locs la hl hP hD hS => by
  obtain ⟨c1, c2, c3, c4, c5, c6, c7, c8, c9, c10, c11⟩ := hC
  subst hst
  have at' : ∀ (k : Nat) (q : Nat × va_E), w0[k]? = some q → ∃ i, ws[i]? = some q := fun k q hq => by
    have h1 : (isC.map (fun i => ws[i]?))[k]? = some (some q) := by rw [hiC, List.getElem?_map, hq]; rfl
    rw [List.getElem?_map] at h1
    cases hi : isC[k]? with
    | none => rw [hi] at h1; cases h1
    | some i => rw [hi] at h1; exact ⟨i, Option.some.inj h1⟩
  have hPc : va_P (xG x).1 cls w0 H := fun k q hq => by
    obtain ⟨i, hi⟩ := at' k q hq
    exact hP i q hi
  have hDc : va_D A w0 := hD.sub isC hcn hiC
  have hFc := va_free (wc := w0) hD hS c7 isC hiC
  refine va_callv (va_runS (As := as) (rest := st) ⟨c1, c2, c9, c3, c4⟩ (hM H.size) ⟨callB_of m c4 (gww w5) rfl rfl rfl (c4 _ w4) (c4 _ w1) hy ⟨Nat.le_trans hdc c10, by show 8 + (maxL + 11) + 64 * dc ≤ _; omega⟩, c4 _ w2⟩ ⟨fun a U g mk q => by
      obtain ⟨q0, q1, qP, qK, qD, qO, qB⟩ := q
      exact ⟨q0, q1, qP, va_K.moved (u := U) (U := U.calling g mk a) (Vm.Alike.refl U.vm) qK, qD, AOA.moved (u := U) (U := U.calling g mk a) (Vm.Alike.refl U.vm) qO, AOA.moved (u := U) (U := U.calling g mk a) (Vm.Alike.refl U.vm) qB⟩, fun U hU hW => ⟨rfl, by rw [hU], by rw [hU]; exact hPc, va_K.moved hW.alike c5, hDc.weaken (fun _ _ _ _ => trivial), AOA.moved hW.alike c6.1, AOA.moved hW.alike c6.2⟩⟩ rfl hn hl.1 rfl (lv_room hcat) hd ⟨hcl, hsl⟩) hS (fun q _ h => hFc q h) hFc (fun u t H1 locs1 ht hvm hw hB hz1 hk1 hS1 => ?_)
  obtain ⟨hP1, hD1⟩ := hB
  rw [ht] at hP1
  obtain ⟨hP2, hD2⟩ := va_join (wr := wr) hP hD isC isR hiC hiR hrn hdis hk1 hFc hP1 hD1
  subst hp
  exact k u hw H1 locs1 la hl hP2 hD2 hS1
/-- new T[N][K]: the outer array, then the rows -/
theorem va_plE (r : Nat → Nat) (f : Nat → va_E) (e : va_E) (N' : Nat) : va_pl ([] ++ (List.range N').map r) (vr_up f ((List.range N').map r) e) = (List.range N').map (fun i => (r i, e)) := by
  unfold va_pl
  rw [List.nil_append, List.map_map]
  apply List.map_congr_left
  intro i hi
  show (r i, vr_up f _ e (r i)) = (r i, e)
  rw [vr_up_in (List.mem_map.mpr ⟨i, hi, rfl⟩)]
theorem Y_multi {x : CX} {A : Nat → Prop} {own : String} {cc : ByteArray} {n pc : Nat} {lv : List (Nat × Value)} {st : List Value} {ws : va_W} {cells slots : Nat} {d idx : Nat} {u v : Int32} {z : vp_A} (ty : FieldType) (tk to N' K' : Nat) (hC : YC x A own cc n d) (htk : (tyG (xG x))[tk]? = some ((xG x).2.1 tk, ty)) (hto : (tyG (xG x))[to]? = some ((xG x).2.1 to, .array ty)) (hpr : ∀ s : State, ∀ cA : ClassId, va_RA s cA ty → s.vm.findClass (FieldType.array ty).toString = some cA) (hover : va_AOA ty (xs x)) (w1 : Cond.classLink own idx ("[" ++ (FieldType.array ty).toString) ∈ ww) (w2 : Cond.arrayClass ty ∈ ww) (hn : ¬ u < 0) (hk : ¬ v < 0) (hN : u.toNatClampNeg = N') (hM : v.toNatClampNeg = K') (hb1 : N' * 4 ≤ 536870912) (hb2 : K' * componentBytes ty ≤ 536870912) (hb3 : K' ≤ 536870912) (hdf : fits ty (defaultValue ty) = true) (hdd : (defaultValue ty).isDefault = true) (hcl : cells + (1 + N') ≤ (xR x).cells) (hsl : slots + (N' + N' * K') ≤ (xR x).slots) (hz : ∀ c : ClassId, Jvm.Free.Multi.innerC c K' (defaultValue ty) = vp_cell c z) (hd : decode cc pc = .ok (.multianewarray idx 2, 4)) (pc' : Nat) (hp : pc + 4 = pc') (k : ∀ (q : Nat) (r : Nat → Nat), Y x A n pc' lv (.ref q :: st) ((ws ++ [(q, .inl ((xG x).2.1 to, N', .inr (.inr (.inr (.inr (fun i => if i < N' then some (r i) else none))))))]) ++ (List.range N').map (fun i => (r i, .inl ((xG x).2.1 tk, z)))) (cells + 1 + N') (slots + N' + N' * K')) : Y x A n pc lv (.int v :: .int u :: st) ws cells slots := fun H locs la hl hP hD hS => by
  obtain ⟨c1, c2, c3, c4, c5, c6, c7, c8⟩ := hC
  have hcy : (xs x).vm.findClass (FieldType.array ty).toString = some ((xG x).2.1 tk) := hpr _ _ (c5.2 tk _ htk).2
  have hP0 : va_P (xG x).1 cls (ws ++ va_pl [] (fun _ => .inl (0, z))) H := by
    show va_P _ _ (ws ++ []) H; rw [List.append_nil]; exact hP
  have hD0 : va_D A (ws ++ va_pl [] (fun _ => .inl (0, z))) := by
    show va_D A (ws ++ []); rw [List.append_nil]; exact hD
  refine va_mna (D := (xG x).1) (z := z) c1 c2 c3 (c4 _ w1) hover (c4 _ w2) hcy c5 hP0 hD0 hS c7 hn hk hN hM hb1 hb2 hb3 hdf hdd hcl hsl hz hd (fun q r cA H1 hr1 hr2 hK1 hP1 hD1 hS1 => ?_)
  have e : cA = (xG x).2.1 to := by
    have h1 := (hK1.2 4 _ rfl).2
    have h2 := (c5.2 to _ hto).2
    exact Option.some.inj (h1.symm.trans h2)
  subst e
  rw [va_plE] at hP1 hD1
  subst hp
  exact k q r H1 locs la hl hP1 hD1 hS1
