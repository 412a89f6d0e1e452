/-! THE CLAIM OUT OF ONE WALK OF THE LAW'S BODY. Your part is whole_start (and what it stands on); all else here is the same for every law, but numbers. -/
def R_law : String := "HatDrawLaw"
def lw_P (b : Addr) (xs : List Int32) (args : Array Value) (s : State) : Prop := args = #[.ref b] ∧ s.IntsAt b xs ∧ xs.length ≤ 3072 ∧ (Jvm.Cond.and given_1 narrow_1).before args s = true
def lw_Q (_ : Array Value) (s : State) (o : Outcome) (t : State) : Prop := o = .returned (some (.int 1)) ∧ Framed s o t [] 600000 7302250
def lw_Z (below : List Frame) (a : Array Value) (s : State) : State → Prop := fun t => ∃ o, t.status = .running ∧ Ended t below o ∧ lw_Q a s o t
/-- the law's own end, with 1 on the stack, nothing written that was there before, its room as the claim has it -/
theorem lw_ret {p : Program} {l : Launch} {e : Env} {s : State} {m : MethodId} {below : List Frame} {meth : Method} {c : Code} {b : Nat} (hx : p.tables.exec = Jvm.exec) (hb : c.code = code) (hr : meth.sig.returnType = ret) (hlocks : meth.locks = false) {pc : Nat} {H : Heap} {ls : Array Slot} (hdg : decode code pc = .ok (.ireturn, 1)) : W p l e room_1 s m #[Value.ref b] below meth c H [] 600000 7302250 (lw_Z below #[Value.ref b] s) (F0 m pc ls [.int 1]) := by
  intro T hT X
  obtain ⟨fs, hret, hrun, hended, hW, hframe⟩ := X.leave (v := some (.int 1)) (hlocks := hlocks) (fun h => by rw [hr] at h; cases h)
  have hmeth' : T.vm.method? m = some meth := X.method'
  refine ⟨T.setFrames fs, ?_, .returned (some (.int 1)), hrun, hended, rfl, ⟨_, rfl⟩, hW, hframe⟩
  jvm_step X.here [X.here.top, hx, hb, hdg, hmeth', hr, ret, narrow_b1]
  (try refine ⟨rfl, ?_⟩); (try refine ⟨rfl, ?_⟩)
  first | (intro acts; rw [hret _ acts rfl rfl rfl]) | rw [hret _ _ rfl rfl rfl]
  exact Steps.refl _
/-- what holds at the law's entry: the machine, the code, the tables' words (any of lw_tbl by 'hts w (by decide +kernel)'), the script of L ints xs at the cell b, what the Statement gives of the start (any of its parts by flat_of_before) -/
def lw_At (p : Program) (s : State) (m : MethodId) (meth : Method) (c : Code) (b L : Nat) (xs : Nat → Int32) : Prop :=
  p.tables.exec = Jvm.exec ∧ c.code = code ∧ meth.sig.returnType = ret ∧ c.maxLocals = 4 ∧ s.vm.findClass R_law = some m.cls ∧ (∀ w ∈ lw_tbl, w.before #[Value.ref b] s = true) ∧ va_X b L xs s s.heap ∧ b < s.heap.size ∧ meth.locks = false ∧ (Jvm.Cond.and given_1 narrow_1).before #[Value.ref b] s = true
-- ===== YOUR PART BEGINS =====
theorem addr_gis {D : va_G} {t : Nat → ClassId} {z : Nat → Nat → Nat} {A : Nat → Prop} {w : Wd} (hD : va_D A (wl (D, t, z) w)) : Inj (D, t, z) ∧ ∀ a, aG (D, t, z) a → A a := by
  constructor
  · intro p hp q hq e
    obtain ⟨i, hi, ei⟩ := List.getElem_of_mem hp
    obtain ⟨j, hj, ej⟩ := List.getElem_of_mem hq
    have e1 : gis[i]? = some p := by rw [List.getElem?_eq_getElem hi, ei]
    have e2 : gis[j]? = some q := by rw [List.getElem?_eq_getElem hj, ej]
    have hij := hD.1 i j _ _ (wl_at (D, t, z) w e1) (wl_at (D, t, z) w e2) e
    subst hij
    exact Option.some.inj (e1.symm.trans e2)
  · rintro a ⟨q, hq, rfl⟩
    obtain ⟨j, hj, ej⟩ := List.getElem_of_mem hq
    have e2 : gis[j]? = some q := by rw [List.getElem?_eq_getElem hj, ej]
    exact hD.2 j _ (wl_at (D, t, z) w e2)
set_option maxRecDepth 20000 in
set_option maxHeartbeats 2000000 in
theorem whole_start {p : Program} {e : Env} {s : State} {m : MethodId} {below : List Frame} {meth : Method} {c : Code} (l : Launch) (hflags : l.flags = flags0) {b L : Nat} {xs : Nat → Int32} (hL : L ≤ 3072) (C0 : lw_At p s m meth c b L xs) : W p l e room_1 s m #[Value.ref b] below meth c s.heap [] 0 0 (lw_Z below #[Value.ref b] s) (entryFrame m ([Value.ref b] : List Value).toArray 4) := by
  obtain ⟨hx, hb, hr, hml, hown, hts, hX, hbl, hlocks, hgv⟩ := id C0
  have hww : ∀ w ∈ ww, w.before #[Value.ref b] s = true := fun w hw => hts w (List.mem_filter.mp hw).1
  have hs := flat_of_before _ hgv
  obtain ⟨c0, i0, k0⟩ := u_known (C := RX0) (T := TX0) (N := 7) (n := 7) hww uw_X0 (hww _ win_X0)
  obtain ⟨c1, i1, k1⟩ := u_known (C := RX1) (T := TX1) (N := 2) (n := 2) hww uw_X1 (hww _ win_X1)
  obtain ⟨c2, i2, k2⟩ := u_known (C := RX2) (T := TX2) (N := 5) (n := 5) hww uw_X2 (hww _ win_X2)
  obtain ⟨c3, i3, k3⟩ := u_known (C := RX3) (T := TX3) (N := 2) (n := 2) hww uw_X3 (hww _ win_X3)
  obtain ⟨c4, i4, k4⟩ := u_known (C := RX4) (T := TX4) (N := 17) (n := 17) hww uw_X4 (hww _ win_X4)
  obtain ⟨c5, i5, k5⟩ := u_known (C := RX5) (T := TX5) (N := 32) (n := 32) hww uw_X5 (hww _ win_X5)
  obtain ⟨D, hKc⟩ : ∃ D : va_G, ∀ (k : Nat) (q : vw_C), cls[k]? = some q → u_Kn s q.1 q.2.1 q.2.2 (D.1 k) (D.2 k) := by
    refine ⟨(fun k => if k = 0 then c0 else if k = 1 then c1 else if k = 2 then c2 else if k = 3 then c3 else if k = 4 then c4 else c5, fun k => if k = 0 then i0 else if k = 1 then i1 else if k = 2 then i2 else if k = 3 then i3 else if k = 4 then i4 else i5), ?_⟩
    intro k q hq
    match k, hq with
    | 0, hq => cases hq; exact k0
    | 1, hq => cases hq; exact k1
    | 2, hq => cases hq; exact k2
    | 3, hq => cases hq; exact k3
    | 4, hq => cases hq; exact k4
    | 5, hq => cases hq; exact k5
    | k + 6, hq => simp [cls] at hq
  obtain ⟨aI, hI⟩ := arrc (Or.inl rfl) (hww _ wac_int)
  obtain ⟨aB, hB⟩ := arrc (Or.inr rfl) (hww _ wac_byte)
  have wo1 : (Cond.arrayOver (.array .int)).before #[Value.ref b] s = true := hts _ (by decide +kernel)
  have wo2 : (Cond.arrayOver (.array .byte)).before #[Value.ref b] s = true := hts _ (by decide +kernel)
  obtain ⟨aII, hII⟩ := arra wo1
  obtain ⟨aBB, hBB⟩ := arra wo2
  obtain ⟨t, ht⟩ : ∃ t : Nat → ClassId, t = fun k => if k = 0 then aI else if k = 1 then aB else if k = 2 then aII else aBB := ⟨_, rfl⟩
  have hK : va_K D cls [(t 0, .int), (t 1, .byte), (t 2, .array .int), (t 3, .array .byte)] s := by
    refine ⟨hKc, fun k q hq => ?_⟩
    subst ht
    match k, hq with
    | 0, hq => cases hq; exact hI
    | 1, hq => cases hq; exact hB
    | 2, hq => cases hq; exact hII
    | 3, hq => cases hq; exact hBB
    | k + 4, hq => simp at hq
  obtain ⟨tL, hev, hTL⟩ := va_Tof (args := #[Value.ref b]) (s := s) (tm := Term.static "HatDraw" "LETTERS" "[I") (ty := .int) (N := 6) (f := fun k => .int (letN k)) (A := fun q : Nat => s.heap.size ≤ q) (by decide) (hs _ (by decide +kernel)) (va_eqt (hs (Cond.eq (Term.length (Term.static "HatDraw" "LETTERS" "[I")) (Term.int 6)) (by decide +kernel))) (fun j hj => by
    rcases (show j = 0 ∨ j = 1 ∨ j = 2 ∨ j = 3 ∨ j = 4 ∨ j = 5 by omega) with rfl | rfl | rfl | rfl | rfl | rfl
    · exact va_eqt (hs (Cond.eq (Term.elem (Term.static "HatDraw" "LETTERS" "[I") (Term.int 0)) (Term.int 109)) (by decide +kernel))
    · exact va_eqt (hs (Cond.eq (Term.elem (Term.static "HatDraw" "LETTERS" "[I") (Term.int 1)) (Term.int 98)) (by decide +kernel))
    · exact va_eqt (hs (Cond.eq (Term.elem (Term.static "HatDraw" "LETTERS" "[I") (Term.int 2)) (Term.int 110)) (by decide +kernel))
    · exact va_eqt (hs (Cond.eq (Term.elem (Term.static "HatDraw" "LETTERS" "[I") (Term.int 3)) (Term.int 115)) (by decide +kernel))
    · exact va_eqt (hs (Cond.eq (Term.elem (Term.static "HatDraw" "LETTERS" "[I") (Term.int 4)) (Term.int 99)) (by decide +kernel))
    · exact va_eqt (hs (Cond.eq (Term.elem (Term.static "HatDraw" "LETTERS" "[I") (Term.int 5)) (Term.int 112)) (by decide +kernel))) (fun a ha h => by have h' : s.heap.size ≤ a := h; omega)
  have hZL := va_Zof (A := fun q : Nat => s.heap.size ≤ q) (hts (.laysStatic "HatDraw" "LETTERS" "[I") (by decide +kernel)) (hww _ wini_X4) hev (fun a ha h => by have h' : s.heap.size ≤ a := h; omega)
  have hNW : NW s := ⟨va_Nw.of rfl (hts _ (by decide +kernel)), va_Nw.of rfl (hts _ (by decide +kernel)), va_Nw.of rfl (hts _ (by decide +kernel)), va_Nw.of rfl (hts _ (by decide +kernel)), va_Nw.of rfl (hts _ (by decide +kernel)), va_Nw.of rfl (hts _ (by decide +kernel)), va_Nw.of rfl (hts _ (by decide +kernel))⟩
  have hl := lv_entry ([.ref b]) (n := 4) (Nat.le_of_ble_eq_true rfl)
  rw [lg_entry_eq]
  generalize (lg_sl ([.ref b]) ++ List.replicate (4 - (lg_sl ([.ref b])).length) Slot.unset).toArray = ls at hl ⊢
  have hl : lv_has ls 4 [(0, .ref b)] := hl
  refine st_walk (x := ((p, l, e, room_1), (s, m, #[Value.ref b], below), (meth, c), (0, 0, lw_Z below #[Value.ref b] s), (D, t, fun _ _ => 0))) (A := fun q : Nat => s.heap.size ≤ q) ⟨hx, hb, hown, hww, hK, ⟨va_AOA.of wo1, va_AOA.of wo2⟩, fun q h => h, hlocks, hml, (show 30 ≤ room_1.frames by decide), (show 64 * 30 ≤ room_1.locals by decide)⟩ rfl (fun q1 q2 u v hu hv => ?_) s.heap [] ls hl (fun k q h => by simp at h) ⟨fun i j p q h => by simp at h, fun k q h => by simp at h⟩ va_S.rf
  intro H locs la hla hP hD hS
  refine W.widen (k := 600000) (n := 7302250) (by decide) (by decide) ?_
  have hP1 : va_P D cls (wl (D, t, adr b tL q1 q2 u v) (w00 u v)) H := hP.sub _ wl_53f
  have hD1 : va_D (fun q : Nat => s.heap.size ≤ q) (wl (D, t, adr b tL q1 q2 u v) (w00 u v)) := hD.sub _ (by decide) wl_53
  obtain ⟨hInj, hA⟩ := addr_gis hD1
  refine va_forget (fun q hq => hS.2.2 q hq) ?_
  have hS1 : va_S (aG (D, t, adr b tL q1 q2 u v)) s.heap H [] := ⟨hS.1, fun q h1 _ => hS.2.1 q h1 (Nat.not_le.mpr h1), fun l h => by cases h⟩
  have hC1 : Cx ((p, l, e, room_1), (s, m, #[Value.ref b], below), (meth, c), (600000, 7302250, lw_Z below #[Value.ref b] s), (D, t, adr b tL q1 q2 u v)) RL code 4 30 := ⟨hx, hb, hown, hww, hK, hInj, ⟨hZL.narrow hA, hTL.narrow hA⟩, hNW, hlocks, hml, (show 30 ≤ room_1.frames by decide), (show 64 * 30 ≤ room_1.locals by decide), Nat.le_refl _, Nat.le_refl _⟩
  have hfin : ∀ (ls : LV) (w : Wd), Z ((p, l, e, room_1), (s, m, #[Value.ref b], below), (meth, c), (600000, 7302250, lw_Z below #[Value.ref b] s), (D, t, adr b tL q1 q2 u v)) 1547 ls [] w := fun ls w H locs la hl hP hS => by
    refine lv_iconst (v := 1) hx hb (dk d_st 10 rfl) (by decide) ?_
    exact va_forget (fun q hq => hA _ (hS.2.2 q hq)) (lw_ret hx hb hr hlocks (dk d_st 11 rfl))
  have hlvr : lvr (D, t, adr b tL q1 q2 u v) la [some (vr 51 0), some (vr 0 0), some (vr 5 0), some (vi (nI 0))] := by
    refine ⟨hla.1, hla.2.1, fun i z hz => ?_⟩
    match i, hz with
    | 0, hz => cases hz; exact hla.2.2 (0, .ref b) (by simp)
    | 1, hz => cases hz; exact hla.2.2 (1, .ref q1) (by simp)
    | 2, hz => cases hz; exact hla.2.2 (2, .ref q2) (by simp)
    | 3, hz => cases hz; exact hla.2.2 (3, .int (nI 0)) (by simp)
    | i + 4, hz => simp at hz
  exact law_loop (N := 10000) (Inv := Inv) hC1 hX hbl (fun h => by have := hA b h; omega) rfl hL (all_ok (by decide)) hfin 600 0 (w00 u v) (by omega) (by omega) (inv_00 hu hv) H [] la hlvr hP1 hS1
-- ===== YOUR PART ENDS =====
set_option maxHeartbeats 4000000 in
theorem lw_walk (l : Launch) (hflags : l.flags = flags0) (b : Addr) (xs : List Int32) : MetFree l x (headSpec (Jvm.Cond.code x code maxLocals ret :: tables_1) room_1) (lw_P b xs) (fun _ _ _ _ _ => True) lw_Q := by
  refine MetFree.of_bodyS (code := code) (maxLocals := maxLocals) (ret := ret) (by decide) ?_ ?_
  · intro args s m h hn
    obtain ⟨meth, c, h1, h2, h3, h4, h5, h6, -, -⟩ := Cond.code_spec hn (atoms_spec (ws := Jvm.Cond.code x code maxLocals ret :: tables_1) h _ List.mem_cons_self)
    exact ⟨meth, c, h1, h2, h3, h4, h5, h6⟩
  · intro p e s m args below meth c s₁ B hml0 hP _
    obtain ⟨rfl, hx, hbd, hgv⟩ := hP
    obtain ⟨scr, harrAt, hlist, hof, hsmall⟩ := hx
    obtain ⟨hcb, hkn, -, -⟩ := State.arrayAt?_spec harrAt
    have hown : s.vm.findClass R_law = some m.cls := findClass_of_methodNamed B.named
    have hts0 : ∀ c ∈ (Jvm.Cond.code x code maxLocals ret :: tables_1), c.before #[Value.ref b] s = true := atoms_spec (ws := Jvm.Cond.code x code maxLocals ret :: tables_1) B.pre
    have hts : ∀ w ∈ lw_tbl, w.before #[Value.ref b] s = true := k2_hts_sels lw_privs (fun w hw => hts0 w (List.mem_cons_of_mem _ hw)) lw_privs_ok
    have hml : c.maxLocals = 4 := B.maxLocals_eq (hts0 _ List.mem_cons_self)
    have X₀ : Stand p l e room_1 s m #[Value.ref b] below meth c s₁ [] 0 0 := Stand.of_body B
    have hh0 : s₁.heap = s.heap := by rw [B.state]; rfl
    have hsz : scr.slots.size = xs.length := by rw [← Array.length_toList, hlist, List.length_map]
    have hval : ∀ j : Nat, j < xs.length → scr.slots[j]? = some (.int (xs.getD j 0)) := fun j hj => by
      rw [← Array.getElem?_toList, hlist]
      simp [hj]
    have hbl : b < s.heap.size := (Array.getElem?_eq_some_iff.mp hcb).1
    have hX : va_X b xs.length (fun j => xs.getD j 0) s s.heap := ⟨scr, hcb, hof, hkn, hsz, hval⟩
    have K : W p l e room_1 s m #[Value.ref b] below meth c s₁.heap [] 0 0 (lw_Z below #[Value.ref b] s) (entryFrame m ([Value.ref b] : List Value).toArray 4) := by
      rw [hh0]
      exact whole_start l hflags hbd ⟨B.exec, B.bytes, B.returns, hml, hown, hts, hX, hbl, B.notSynchronized, hgv⟩
    obtain ⟨t, a1, o, b1, b2, b3⟩ := K s₁ rfl X₀
    exact ⟨t, o, a1, b1, b2, b3⟩
theorem lw_pre_spec {args : Array Value} {s : State} (h : (Jvm.Cond.and given_1 narrow_1).before args s = true) (hr : rest_1_c.before args s = true) : ∃ (b : Addr) (xs : List Int32), lw_P b xs args s := by
  have hs := flat_of_before _ h
  have hq := flat_of_before _ hr
  have hc : (Cond.count 1).before args s = true := hs _ (by decide +kernel)
  have harr : (Cond.arrayOf (.arg 0) .int).before args s = true := hs _ (by decide +kernel)
  have hle : (Cond.le (.length (.arg 0)) (.int 3072)).before args s = true := hs _ (by decide +kernel)
  have hlen : (Cond.isInt (.length (.arg 0))).before args s = true := hq _ (by decide +kernel)
  have hall : (Cond.all (.arg 0) (.isInt (.elem (.arg 0) (.index 0)))).before args s = true := hq _ (by decide +kernel)
  obtain ⟨b, xs, hb, hx⟩ := State.ints_of_pre rfl harr hlen hall
  have hsm : xs.length < 2 ^ 31 := hx.choose_spec.2.2.2
  have hev : (Term.length (.arg 0)).eval args s none [] s = some (.int xs.length.toInt32) := hx.length_eval hb
  have hv := Cond.le_ints hev (show (Term.int 3072).eval args s none [] s = some (.int 3072) from rfl)
  have hd : xs.length.toInt32 ≤ 3072 := by
    simpa [Cond.before, Cond.holds, hv] using hle
  have hN : xs.length ≤ 3072 := (Int32.ofNat_le_ofNat hsm (by decide)).mp (show Int32.ofNat xs.length ≤ Int32.ofNat 3072 from hd)
  exact ⟨b, xs, Cond.one_arg hc (show args[0]? = some (.ref b) from hb), hx, hN, h⟩
theorem lw_comes (l : Launch) (hflags : l.flags = flags0) : Comes l x (Jvm.Cond.code x code maxLocals ret :: tables_1) room_1 (fun tb e args s => Calls_1 tb e args s ∧ rest_1 tb e args s ∧ Pre_1 tb e args s)
    (fun _ _ args s o t => lw_Q args s o t) := by
  intro p e ha hc hk s m args below hf hfit hheap happ hpre
  obtain ⟨b, xs, hP⟩ := lw_pre_spec hpre.2.2 hpre.2.1
  obtain ⟨k, o, h1, h2, h3, hQ⟩ := lw_walk l hflags b xs p e ha hc hk s m args below hf ((Spec.applies_iff_loose hf).mp happ).1 hP trivial
  exact ⟨k, o, h1, h2, h3, hQ⟩
theorem lw_frame {s t : State} {o : Outcome} {args : Array Value} (h : Framed s o t [] 600000 7302250) :
    Framed s o t (fieldLocs frame_1_writes args s ++ arrayLocs frame_1_arrays args s ++ staticLocs frame_1_statics s) 600000 7302250 := h
theorem lw_limb (L : Cond) (hL : ∀ (args : Array Value) (s t : State), L.after args s (.returned (some (.int 1))) t = true) :
    ArmFor flags0 classFile x code maxLocals ret World_1 tables_1 room_1 Calls_1 rest_1 Pre_1
      (fun tb e a s o t => postC L tb e a s o t ∧ Framed s o t (fieldLocs frame_1_writes a s ++ arrayLocs frame_1_arrays a s ++ staticLocs frame_1_statics s) 600000 7302250) := by
  intro l hflags _ _ p e ha hc hk s m args below hf hfit hheap happ hpre
  obtain ⟨k, o, h1, h2, h3, rfl, hF⟩ := lw_comes l hflags p e ha hc hk s m args below hf hfit hheap happ hpre
  exact ⟨k, _, h1, h2, h3, hL args s _, lw_frame hF⟩
theorem i_vc : Claimed_1_1 ∧ Claimed_1_2 := ⟨lw_limb limb_1_1 (fun args s t => by simp [limb_1_1, Cond.after, Cond.holds, Cond.value]), lw_limb limb_1_2 (fun args s t => Cond.after_iff.mpr (by
  first | (rw [show limb_1_2 = Cond.eq .result (.int 1) from rfl, Cond.eq_ints (x := 1) (y := 1) rfl rfl]; simp; done) | (simp [limb_1_2, Cond.value, Term.eval]; done)))⟩
