def t_X2_fitsAt : List (Nat × Instr × Nat) := [(0, .aload_n 0, 1), (1, .getfield 9, 3), (4, .iload_n 1, 1), (5, .iaload, 1), (6, .iload_n 2, 1), (7, .ixor, 1), (8, .iload_n 3, 1), (9, .iand, 1), (10, .ifCond .ne 7, 3), (13, .iconst 1, 1), (14, .goto 4, 3), (17, .iconst 0, 1), (18, .ireturn, 1)]
set_option maxRecDepth 20000 in
theorem d_X2_fitsAt : ∀ q ∈ t_X2_fitsAt, decode cX2_fitsAt q.1 = .ok q.2 := by decide +kernel
noncomputable def f_X2_fitsAt (N : Nat) (i : Nat) (a1 : Int32) (a2 : Int32) (a3 : Int32) (w : Wd) : Option (Int32 × Wd) :=
  gd (vp_in a1 265) (
  if (((gA w 20 i a1.toNatClampNeg) ^^^ a2) &&& a3) = 0 then
    some ((1 : Int32), w)
  else
    some ((0 : Int32), w))
set_option maxRecDepth 20000 in
set_option maxHeartbeats 4000000 in
theorem s_X2_fitsAt (G : GT) (l : Launch) (N : Nat) (i : Nat) (hi : i < 2) (a1 : Int32) (a2 : Int32) (a3 : Int32) (w : Wd) (q : Int32 × Wd) (h : f_X2_fitsAt N i a1 a2 a3 w = some q) : Sp G l yX2_fitsAt cw_X2_fitsAt 0 [vr 4 i, vi a1, vi a2, vi a3] w (some (vi q.1)) q.2 := by
  refine Sp_of (own := RX2) [some (vr 4 i), some (vi a1), some (vi a2), some (vi a3)] (by decide) rfl rfl (Nat.le_of_ble_eq_true rfl) ?_
  intro x hG hl hC hr hQ _ _
  subst hG
  subst hl
  unfold f_X2_fitsAt at h
  refine Z_aload_n hC (dk d_X2_fitsAt 0 rfl) 1 rfl rfl rfl ?_
  refine G_X2_9 hC (m_4 hi) (dk d_X2_fitsAt 1 rfl) 4 rfl ?_
  refine Z_iload_n hC (dk d_X2_fitsAt 2 rfl) 5 rfl rfl rfl ?_
  obtain ⟨g1, h⟩ := gd_some h
  refine Z_iaload hC (m_20 hi) (by decide) rfl g1 (dk d_X2_fitsAt 3 rfl) 6 rfl ?_
  refine Z_iload_n hC (dk d_X2_fitsAt 4 rfl) 7 rfl rfl rfl ?_
  refine Z_ixor hC (dk d_X2_fitsAt 5 rfl) 8 rfl ?_
  refine Z_iload_n hC (dk d_X2_fitsAt 6 rfl) 9 rfl rfl rfl ?_
  refine Z_iand hC (dk d_X2_fitsAt 7 rfl) 10 rfl ?_
  refine Z_if_ne hC (dk d_X2_fitsAt 8 rfl) 13 17 rfl (by decide) (fun c => ?_) (fun c => ?_)
  · have h := it_f h c
    refine Z_iconst (v := 0) hC (dk d_X2_fitsAt 11 rfl) 18 rfl (by decide) ?_
    obtain rfl := Option.some.inj h
    exact Z_zreturn (st := []) hC hr rfl hQ (dk d_X2_fitsAt 12 rfl)
  · have h := it_t h c
    refine Z_iconst (v := 1) hC (dk d_X2_fitsAt 9 rfl) 14 rfl (by decide) ?_
    refine Z_goto hC (dk d_X2_fitsAt 10 rfl) 18 (by decide) ?_
    obtain rfl := Option.some.inj h
    exact Z_zreturn (st := []) hC hr rfl hQ (dk d_X2_fitsAt 12 rfl)
def t_X2_fitting : List (Nat × Instr × Nat) := [(0, .iconst 0, 1), (1, .istore_n 3, 1), (2, .iconst 0, 1), (3, .istore 4, 2), (5, .iload 4, 2), (7, .aload_n 0, 1), (8, .getfield 18, 3), (11, .if_icmp .ge 23, 3), (14, .aload_n 0, 1), (15, .iload 4, 2), (17, .iload_n 1, 1), (18, .iload_n 2, 1), (19, .invokevirtual 58, 3), (22, .ifCond .eq 6, 3), (25, .iinc 3 1, 3), (28, .iinc 4 1, 3), (31, .goto (-26), 3), (34, .iload_n 3, 1), (35, .ireturn, 1)]
set_option maxRecDepth 20000 in
theorem d_X2_fitting : ∀ q ∈ t_X2_fitting, decode cX2_fitting q.1 = .ok q.2 := by decide +kernel
noncomputable def X2_fitting_L1 (N : Nat) (i : Nat) (x1 : Int32) (x2 : Int32) : Nat → Int32 → Int32 → Wd → Option (Int32 × Wd)
  | 0, _, _, _ => none
  | n + 1, x3, x4, w =>
  if (gI w 201 i) ≤ x4 then
    some (x3, w)
  else
    (f_X2_fitsAt N i x4 x1 x2 w).bind (fun q1 =>
      if q1.1 = 0 then
        X2_fitting_L1 N i x1 x2 n x3 (x4 + (1 : Int32)) q1.2
      else
        X2_fitting_L1 N i x1 x2 n (x3 + (1 : Int32)) (x4 + (1 : Int32)) q1.2)
set_option maxRecDepth 20000 in
set_option maxHeartbeats 4000000 in
theorem z_X2_fitting_L1 {x : CX} (hC : Cx x RX2 cX2_fitting 5 1) (hr : (xM x).sig.returnType = (some .int)) (N : Nat) (i : Nat) (hi : i < 2) (x1 : Int32) (x2 : Int32) : ∀ (n : Nat) (x3 : Int32) (x4 : Int32) (w : Wd) (q : (Int32 × Wd)), X2_fitting_L1 N i x1 x2 n x3 x4 w = some q → Z x 34 [none, none, none, some (vi q.1), none] [] q.2 → Z x 5 [some (vr 4 i), some (vi x1), some (vi x2), some (vi x3), some (vi x4)] [] w := by
  intro n
  induction n with
  | zero =>
    intro x3 x4 w q h
    cases h
  | succ n ih =>
    intro x3 x4 w q h ke
    rw [X2_fitting_L1] at h
    refine Z_iload hC (dk d_X2_fitting 4 rfl) 7 rfl rfl ?_
    refine Z_aload_n hC (dk d_X2_fitting 5 rfl) 8 rfl rfl rfl ?_
    refine G_X2_18 hC (m_4 hi) (dk d_X2_fitting 6 rfl) 11 rfl ?_
    refine Z_icmp_ge hC (dk d_X2_fitting 7 rfl) 14 34 rfl (by decide) (fun c => ?_) (fun c => ?_)
    · have h := it_t h c
      obtain rfl := Option.some.inj h
      refine Z_wk [false, false, false, true, false] [none, none, none, some (vi x3), none] rfl ?_
      exact ke
    · have h := it_f h c
      refine Z_aload_n hC (dk d_X2_fitting 8 rfl) 15 rfl rfl rfl ?_
      refine Z_iload hC (dk d_X2_fitting 9 rfl) 17 rfl rfl ?_
      refine Z_iload_n hC (dk d_X2_fitting 10 rfl) 18 rfl rfl rfl ?_
      refine Z_iload_n hC (dk d_X2_fitting 11 rfl) 19 rfl rfl rfl ?_
      obtain ⟨q1, hq1, h⟩ := bd_some h
      refine K_X2_58 [vi x4, vi x1, vi x2] hC (m_4 hi) (s_X2_fitsAt (xG x) (xl x) N i hi x4 x1 x2 w q1 hq1) (Nat.le_of_ble_eq_true rfl) rfl rfl rfl (Nat.le_of_ble_eq_true rfl) (dk d_X2_fitting 12 rfl) 22 rfl ?_
      refine Z_if_eq hC (dk d_X2_fitting 13 rfl) 25 28 rfl (by decide) (fun c => ?_) (fun c => ?_)
      · have h := it_t h c
        refine Z_iinc hC (dk d_X2_fitting 15 rfl) 31 rfl rfl rfl [some (vr 4 i), some (vi x1), some (vi x2), some (vi x3), some (vi (x4 + (1 : Int32)))] rfl ?_
        refine Z_goto hC (dk d_X2_fitting 16 rfl) 5 (by decide) ?_
        refine Z_wk [true, true, true, true, true] [some (vr 4 i), some (vi x1), some (vi x2), some (vi x3), some (vi (x4 + (1 : Int32)))] rfl ?_
        exact ih x3 (x4 + (1 : Int32)) q1.2 _ h ke
      · have h := it_f h c
        refine Z_iinc hC (dk d_X2_fitting 14 rfl) 28 rfl rfl rfl [some (vr 4 i), some (vi x1), some (vi x2), some (vi (x3 + (1 : Int32))), some (vi x4)] rfl ?_
        refine Z_iinc hC (dk d_X2_fitting 15 rfl) 31 rfl rfl rfl [some (vr 4 i), some (vi x1), some (vi x2), some (vi (x3 + (1 : Int32))), some (vi (x4 + (1 : Int32)))] rfl ?_
        refine Z_goto hC (dk d_X2_fitting 16 rfl) 5 (by decide) ?_
        refine Z_wk [true, true, true, true, true] [some (vr 4 i), some (vi x1), some (vi x2), some (vi (x3 + (1 : Int32))), some (vi (x4 + (1 : Int32)))] rfl ?_
        exact ih (x3 + (1 : Int32)) (x4 + (1 : Int32)) q1.2 _ h ke
noncomputable def f_X2_fitting (N : Nat) (i : Nat) (a1 : Int32) (a2 : Int32) (w : Wd) : Option (Int32 × Wd) :=
  (X2_fitting_L1 N i a1 a2 N (0 : Int32) (0 : Int32) w).bind (fun q2 =>
    some (q2.1, q2.2))
set_option maxRecDepth 20000 in
set_option maxHeartbeats 4000000 in
theorem s_X2_fitting (G : GT) (l : Launch) (N : Nat) (i : Nat) (hi : i < 2) (a1 : Int32) (a2 : Int32) (w : Wd) (q : Int32 × Wd) (h : f_X2_fitting N i a1 a2 w = some q) : Sp G l yX2_fitting cw_X2_fitting 1 [vr 4 i, vi a1, vi a2] w (some (vi q.1)) q.2 := by
  refine Sp_of (own := RX2) [some (vr 4 i), some (vi a1), some (vi a2), none, none] (by decide) rfl rfl (Nat.le_of_ble_eq_true rfl) ?_
  intro x hG hl hC hr hQ _ _
  subst hG
  subst hl
  unfold f_X2_fitting at h
  refine Z_iconst (v := 0) hC (dk d_X2_fitting 0 rfl) 1 rfl (by decide) ?_
  refine Z_istore_n hC (dk d_X2_fitting 1 rfl) 2 rfl rfl (Nat.le_of_ble_eq_true rfl) [some (vr 4 i), some (vi a1), some (vi a2), some (vi (0 : Int32)), none] rfl ?_
  refine Z_iconst (v := 0) hC (dk d_X2_fitting 2 rfl) 3 rfl (by decide) ?_
  refine Z_istore hC (dk d_X2_fitting 3 rfl) 5 rfl (Nat.le_of_ble_eq_true rfl) [some (vr 4 i), some (vi a1), some (vi a2), some (vi (0 : Int32)), some (vi (0 : Int32))] rfl ?_
  obtain ⟨q2, hq2, h⟩ := bd_some h
  refine Z_wk [true, true, true, true, true] [some (vr 4 i), some (vi a1), some (vi a2), some (vi (0 : Int32)), some (vi (0 : Int32))] rfl ?_
  refine z_X2_fitting_L1 hC hr N i hi a1 a2 N (0 : Int32) (0 : Int32) w q2 hq2 ?_
  refine Z_iload_n hC (dk d_X2_fitting 17 rfl) 35 rfl rfl rfl ?_
  obtain rfl := Option.some.inj h
  exact Z_ireturn (st := []) hC hr hQ (dk d_X2_fitting 18 rfl)
def t_X2_placeOf : List (Nat × Instr × Nat) := [(0, .iconst 0, 1), (1, .istore_n 3, 1), (2, .iload_n 3, 1), (3, .aload_n 0, 1), (4, .getfield 18, 3), (7, .if_icmp .ge 21, 3), (10, .aload_n 0, 1), (11, .iload_n 3, 1), (12, .iload_n 1, 1), (13, .iload_n 2, 1), (14, .invokevirtual 58, 3), (17, .ifCond .eq 5, 3), (20, .iload_n 3, 1), (21, .ireturn, 1), (22, .iinc 3 1, 3), (25, .goto (-23), 3), (28, .bipush (-9), 2), (30, .ireturn, 1)]
set_option maxRecDepth 20000 in
theorem d_X2_placeOf : ∀ q ∈ t_X2_placeOf, decode cX2_placeOf q.1 = .ok q.2 := by decide +kernel
noncomputable def X2_placeOf_L1 (N : Nat) (i : Nat) (x1 : Int32) (x2 : Int32) : Nat → Int32 → Wd → Option ((Int32 × Wd) ⊕ (Wd))
  | 0, _, _ => none
  | n + 1, x3, w =>
  if (gI w 201 i) ≤ x3 then
    some (.inr w)
  else
    (f_X2_fitsAt N i x3 x1 x2 w).bind (fun q1 =>
      if q1.1 = 0 then
        X2_placeOf_L1 N i x1 x2 n (x3 + (1 : Int32)) q1.2
      else
        some (.inl (x3, q1.2)))
set_option maxRecDepth 20000 in
set_option maxHeartbeats 4000000 in
theorem z_X2_placeOf_L1 {x : CX} (hC : Cx x RX2 cX2_placeOf 4 1) (hr : (xM x).sig.returnType = (some .int)) (N : Nat) (i : Nat) (hi : i < 2) (x1 : Int32) (x2 : Int32) : ∀ (n : Nat) (x3 : Int32) (w : Wd) (q : ((Int32 × Wd) ⊕ (Wd))), X2_placeOf_L1 N i x1 x2 n x3 w = some q → (∀ r : Int32 × Wd, q = .inl r → Rt x (some (vi r.1)) r.2) → (∀ o : Wd, q = .inr o → Z x 28 [none, none, none, none] [] o) → Z x 2 [some (vr 4 i), some (vi x1), some (vi x2), some (vi x3)] [] w := by
  intro n
  induction n with
  | zero =>
    intro x3 w q h
    cases h
  | succ n ih =>
    intro x3 w q h kr ke
    rw [X2_placeOf_L1] at h
    refine Z_iload_n hC (dk d_X2_placeOf 2 rfl) 3 rfl rfl rfl ?_
    refine Z_aload_n hC (dk d_X2_placeOf 3 rfl) 4 rfl rfl rfl ?_
    refine G_X2_18 hC (m_4 hi) (dk d_X2_placeOf 4 rfl) 7 rfl ?_
    refine Z_icmp_ge hC (dk d_X2_placeOf 5 rfl) 10 28 rfl (by decide) (fun c => ?_) (fun c => ?_)
    · have h := it_t h c
      obtain rfl := Option.some.inj h
      refine Z_wk [false, false, false, false] [none, none, none, none] rfl ?_
      exact ke _ rfl
    · have h := it_f h c
      refine Z_aload_n hC (dk d_X2_placeOf 6 rfl) 11 rfl rfl rfl ?_
      refine Z_iload_n hC (dk d_X2_placeOf 7 rfl) 12 rfl rfl rfl ?_
      refine Z_iload_n hC (dk d_X2_placeOf 8 rfl) 13 rfl rfl rfl ?_
      refine Z_iload_n hC (dk d_X2_placeOf 9 rfl) 14 rfl rfl rfl ?_
      obtain ⟨q1, hq1, h⟩ := bd_some h
      refine K_X2_58 [vi x3, vi x1, vi x2] hC (m_4 hi) (s_X2_fitsAt (xG x) (xl x) N i hi x3 x1 x2 w q1 hq1) (Nat.le_of_ble_eq_true rfl) rfl rfl rfl (Nat.le_of_ble_eq_true rfl) (dk d_X2_placeOf 10 rfl) 17 rfl ?_
      refine Z_if_eq hC (dk d_X2_placeOf 11 rfl) 20 22 rfl (by decide) (fun c => ?_) (fun c => ?_)
      · have h := it_t h c
        refine Z_iinc hC (dk d_X2_placeOf 14 rfl) 25 rfl rfl rfl [some (vr 4 i), some (vi x1), some (vi x2), some (vi (x3 + (1 : Int32)))] rfl ?_
        refine Z_goto hC (dk d_X2_placeOf 15 rfl) 2 (by decide) ?_
        refine Z_wk [true, true, true, true] [some (vr 4 i), some (vi x1), some (vi x2), some (vi (x3 + (1 : Int32)))] rfl ?_
        exact ih (x3 + (1 : Int32)) q1.2 _ h kr ke
      · have h := it_f h c
        refine Z_iload_n hC (dk d_X2_placeOf 12 rfl) 21 rfl rfl rfl ?_
        obtain rfl := Option.some.inj h
        exact Z_ireturn (st := []) hC hr (kr _ rfl) (dk d_X2_placeOf 13 rfl)
noncomputable def f_X2_placeOf (N : Nat) (i : Nat) (a1 : Int32) (a2 : Int32) (w : Wd) : Option (Int32 × Wd) :=
  (X2_placeOf_L1 N i a1 a2 N (0 : Int32) w).bind (Sum.elim some (fun q2 =>
    some ((-9 : Int32), q2)))
set_option maxRecDepth 20000 in
set_option maxHeartbeats 4000000 in
theorem s_X2_placeOf (G : GT) (l : Launch) (N : Nat) (i : Nat) (hi : i < 2) (a1 : Int32) (a2 : Int32) (w : Wd) (q : Int32 × Wd) (h : f_X2_placeOf N i a1 a2 w = some q) : Sp G l yX2_placeOf cw_X2_placeOf 1 [vr 4 i, vi a1, vi a2] w (some (vi q.1)) q.2 := by
  refine Sp_of (own := RX2) [some (vr 4 i), some (vi a1), some (vi a2), none] (by decide) rfl rfl (Nat.le_of_ble_eq_true rfl) ?_
  intro x hG hl hC hr hQ _ _
  subst hG
  subst hl
  unfold f_X2_placeOf at h
  refine Z_iconst (v := 0) hC (dk d_X2_placeOf 0 rfl) 1 rfl (by decide) ?_
  refine Z_istore_n hC (dk d_X2_placeOf 1 rfl) 2 rfl rfl (Nat.le_of_ble_eq_true rfl) [some (vr 4 i), some (vi a1), some (vi a2), some (vi (0 : Int32))] rfl ?_
  obtain ⟨q2, hq2, h⟩ := bd_some h
  refine Z_wk [true, true, true, true] [some (vr 4 i), some (vi a1), some (vi a2), some (vi (0 : Int32))] rfl ?_
  refine z_X2_placeOf_L1 hC hr N i hi a1 a2 N (0 : Int32) w q2 hq2 (fun r e => ?_) (fun o e => ?_)
  · subst e
    obtain rfl := Option.some.inj h
    exact hQ
  · subst e
    obtain ⟨q2, rfl⟩ : ∃ z, z = o := ⟨_, rfl⟩
    refine Z_bipush (v := -9) hC (dk d_X2_placeOf 16 rfl) 30 rfl (by decide) ?_
    obtain rfl := Option.some.inj h
    exact Z_ireturn (st := []) hC hr hQ (dk d_X2_placeOf 17 rfl)
def t_X2_differing : List (Nat × Instr × Nat) := [(0, .iconst 0, 1), (1, .istore_n 3, 1), (2, .iconst 0, 1), (3, .istore 4, 2), (5, .iload 4, 2), (7, .aload_n 0, 1), (8, .getfield 18, 3), (11, .if_icmp .ge 32, 3), (14, .aload_n 0, 1), (15, .iload 4, 2), (17, .iload_n 1, 1), (18, .iload_n 2, 1), (19, .invokevirtual 58, 3), (22, .ifCond .eq 15, 3), (25, .iload_n 3, 1), (26, .aload_n 0, 1), (27, .getfield 9, 3), (30, .iload 4, 2), (32, .iaload, 1), (33, .iload_n 1, 1), (34, .ixor, 1), (35, .ior, 1), (36, .istore_n 3, 1), (37, .iinc 4 1, 3), (40, .goto (-35), 3), (43, .iload_n 3, 1), (44, .ireturn, 1)]
set_option maxRecDepth 20000 in
theorem d_X2_differing : ∀ q ∈ t_X2_differing, decode cX2_differing q.1 = .ok q.2 := by decide +kernel
noncomputable def X2_differing_L1 (N : Nat) (i : Nat) (x1 : Int32) (x2 : Int32) : Nat → Int32 → Int32 → Wd → Option (Int32 × Wd)
  | 0, _, _, _ => none
  | n + 1, x3, x4, w =>
  if (gI w 201 i) ≤ x4 then
    some (x3, w)
  else
    (f_X2_fitsAt N i x4 x1 x2 w).bind (fun q1 =>
      if q1.1 = 0 then
        X2_differing_L1 N i x1 x2 n x3 (x4 + (1 : Int32)) q1.2
      else
        gd (vp_in x4 265) (
        X2_differing_L1 N i x1 x2 n (x3 ||| ((gA q1.2 20 i x4.toNatClampNeg) ^^^ x1)) (x4 + (1 : Int32)) q1.2))
set_option maxRecDepth 20000 in
set_option maxHeartbeats 4000000 in
theorem z_X2_differing_L1 {x : CX} (hC : Cx x RX2 cX2_differing 5 1) (hr : (xM x).sig.returnType = (some .int)) (N : Nat) (i : Nat) (hi : i < 2) (x1 : Int32) (x2 : Int32) : ∀ (n : Nat) (x3 : Int32) (x4 : Int32) (w : Wd) (q : (Int32 × Wd)), X2_differing_L1 N i x1 x2 n x3 x4 w = some q → Z x 43 [none, none, none, some (vi q.1), none] [] q.2 → Z x 5 [some (vr 4 i), some (vi x1), some (vi x2), some (vi x3), some (vi x4)] [] w := by
  intro n
  induction n with
  | zero =>
    intro x3 x4 w q h
    cases h
  | succ n ih =>
    intro x3 x4 w q h ke
    rw [X2_differing_L1] at h
    refine Z_iload hC (dk d_X2_differing 4 rfl) 7 rfl rfl ?_
    refine Z_aload_n hC (dk d_X2_differing 5 rfl) 8 rfl rfl rfl ?_
    refine G_X2_18 hC (m_4 hi) (dk d_X2_differing 6 rfl) 11 rfl ?_
    refine Z_icmp_ge hC (dk d_X2_differing 7 rfl) 14 43 rfl (by decide) (fun c => ?_) (fun c => ?_)
    · have h := it_t h c
      obtain rfl := Option.some.inj h
      refine Z_wk [false, false, false, true, false] [none, none, none, some (vi x3), none] rfl ?_
      exact ke
    · have h := it_f h c
      refine Z_aload_n hC (dk d_X2_differing 8 rfl) 15 rfl rfl rfl ?_
      refine Z_iload hC (dk d_X2_differing 9 rfl) 17 rfl rfl ?_
      refine Z_iload_n hC (dk d_X2_differing 10 rfl) 18 rfl rfl rfl ?_
      refine Z_iload_n hC (dk d_X2_differing 11 rfl) 19 rfl rfl rfl ?_
      obtain ⟨q1, hq1, h⟩ := bd_some h
      refine K_X2_58 [vi x4, vi x1, vi x2] hC (m_4 hi) (s_X2_fitsAt (xG x) (xl x) N i hi x4 x1 x2 w q1 hq1) (Nat.le_of_ble_eq_true rfl) rfl rfl rfl (Nat.le_of_ble_eq_true rfl) (dk d_X2_differing 12 rfl) 22 rfl ?_
      refine Z_if_eq hC (dk d_X2_differing 13 rfl) 25 37 rfl (by decide) (fun c => ?_) (fun c => ?_)
      · have h := it_t h c
        refine Z_iinc hC (dk d_X2_differing 23 rfl) 40 rfl rfl rfl [some (vr 4 i), some (vi x1), some (vi x2), some (vi x3), some (vi (x4 + (1 : Int32)))] rfl ?_
        refine Z_goto hC (dk d_X2_differing 24 rfl) 5 (by decide) ?_
        refine Z_wk [true, true, true, true, true] [some (vr 4 i), some (vi x1), some (vi x2), some (vi x3), some (vi (x4 + (1 : Int32)))] rfl ?_
        exact ih x3 (x4 + (1 : Int32)) q1.2 _ h ke
      · have h := it_f h c
        refine Z_iload_n hC (dk d_X2_differing 14 rfl) 26 rfl rfl rfl ?_
        refine Z_aload_n hC (dk d_X2_differing 15 rfl) 27 rfl rfl rfl ?_
        refine G_X2_9 hC (m_4 hi) (dk d_X2_differing 16 rfl) 30 rfl ?_
        refine Z_iload hC (dk d_X2_differing 17 rfl) 32 rfl rfl ?_
        obtain ⟨g2, h⟩ := gd_some h
        refine Z_iaload hC (m_20 hi) (by decide) rfl g2 (dk d_X2_differing 18 rfl) 33 rfl ?_
        refine Z_iload_n hC (dk d_X2_differing 19 rfl) 34 rfl rfl rfl ?_
        refine Z_ixor hC (dk d_X2_differing 20 rfl) 35 rfl ?_
        refine Z_ior hC (dk d_X2_differing 21 rfl) 36 rfl ?_
        refine Z_istore_n hC (dk d_X2_differing 22 rfl) 37 rfl rfl (Nat.le_of_ble_eq_true rfl) [some (vr 4 i), some (vi x1), some (vi x2), some (vi (x3 ||| ((gA q1.2 20 i x4.toNatClampNeg) ^^^ x1))), some (vi x4)] rfl ?_
        refine Z_iinc hC (dk d_X2_differing 23 rfl) 40 rfl rfl rfl [some (vr 4 i), some (vi x1), some (vi x2), some (vi (x3 ||| ((gA q1.2 20 i x4.toNatClampNeg) ^^^ x1))), some (vi (x4 + (1 : Int32)))] rfl ?_
        refine Z_goto hC (dk d_X2_differing 24 rfl) 5 (by decide) ?_
        refine Z_wk [true, true, true, true, true] [some (vr 4 i), some (vi x1), some (vi x2), some (vi (x3 ||| ((gA q1.2 20 i x4.toNatClampNeg) ^^^ x1))), some (vi (x4 + (1 : Int32)))] rfl ?_
        exact ih (x3 ||| ((gA q1.2 20 i x4.toNatClampNeg) ^^^ x1)) (x4 + (1 : Int32)) q1.2 _ h ke
noncomputable def f_X2_differing (N : Nat) (i : Nat) (a1 : Int32) (a2 : Int32) (w : Wd) : Option (Int32 × Wd) :=
  (X2_differing_L1 N i a1 a2 N (0 : Int32) (0 : Int32) w).bind (fun q3 =>
    some (q3.1, q3.2))
set_option maxRecDepth 20000 in
set_option maxHeartbeats 4000000 in
theorem s_X2_differing (G : GT) (l : Launch) (N : Nat) (i : Nat) (hi : i < 2) (a1 : Int32) (a2 : Int32) (w : Wd) (q : Int32 × Wd) (h : f_X2_differing N i a1 a2 w = some q) : Sp G l yX2_differing cw_X2_differing 1 [vr 4 i, vi a1, vi a2] w (some (vi q.1)) q.2 := by
  refine Sp_of (own := RX2) [some (vr 4 i), some (vi a1), some (vi a2), none, none] (by decide) rfl rfl (Nat.le_of_ble_eq_true rfl) ?_
  intro x hG hl hC hr hQ _ _
  subst hG
  subst hl
  unfold f_X2_differing at h
  refine Z_iconst (v := 0) hC (dk d_X2_differing 0 rfl) 1 rfl (by decide) ?_
  refine Z_istore_n hC (dk d_X2_differing 1 rfl) 2 rfl rfl (Nat.le_of_ble_eq_true rfl) [some (vr 4 i), some (vi a1), some (vi a2), some (vi (0 : Int32)), none] rfl ?_
  refine Z_iconst (v := 0) hC (dk d_X2_differing 2 rfl) 3 rfl (by decide) ?_
  refine Z_istore hC (dk d_X2_differing 3 rfl) 5 rfl (Nat.le_of_ble_eq_true rfl) [some (vr 4 i), some (vi a1), some (vi a2), some (vi (0 : Int32)), some (vi (0 : Int32))] rfl ?_
  obtain ⟨q3, hq3, h⟩ := bd_some h
  refine Z_wk [true, true, true, true, true] [some (vr 4 i), some (vi a1), some (vi a2), some (vi (0 : Int32)), some (vi (0 : Int32))] rfl ?_
  refine z_X2_differing_L1 hC hr N i hi a1 a2 N (0 : Int32) (0 : Int32) w q3 hq3 ?_
  refine Z_iload_n hC (dk d_X2_differing 25 rfl) 44 rfl rfl rfl ?_
  obtain rfl := Option.some.inj h
  exact Z_ireturn (st := []) hC hr hQ (dk d_X2_differing 26 rfl)
def t_X2_partsAt : List (Nat × Instr × Nat) := [(0, .iconst 0, 1), (1, .istore 4, 2), (3, .iload_n 1, 1), (4, .istore 5, 2), (6, .iload 5, 2), (8, .iload_n 2, 1), (9, .if_icmp .ge 39, 3), (12, .iload 5, 2), (14, .iload_n 1, 1), (15, .if_icmp .eq 24, 3), (18, .aload_n 0, 1), (19, .iload 5, 2), (21, .iaload, 1), (22, .iload_n 3, 1), (23, .invokestatic 79, 3), (26, .aload_n 0, 1), (27, .iload 5, 2), (29, .iconst 1, 1), (30, .isub, 1), (31, .iaload, 1), (32, .iload_n 3, 1), (33, .invokestatic 79, 3), (36, .if_icmp .eq 6, 3), (39, .iinc 4 1, 3), (42, .iinc 5 1, 3), (45, .goto (-39), 3), (48, .iload 4, 2), (50, .ireturn, 1)]
set_option maxRecDepth 20000 in
theorem d_X2_partsAt : ∀ q ∈ t_X2_partsAt, decode cX2_partsAt q.1 = .ok q.2 := by decide +kernel
noncomputable def X2_partsAt_L1 (N : Nat) (i : Nat) (x1 : Int32) (x2 : Int32) (x3 : Int32) : Nat → Int32 → Int32 → Wd → Option (Int32 × Wd)
  | 0, _, _, _ => none
  | n + 1, x4, x5, w =>
  if x2 ≤ x5 then
    some (x4, w)
  else
    if x5 = x1 then
      X2_partsAt_L1 N i x1 x2 x3 n (x4 + (1 : Int32)) (x5 + (1 : Int32)) w
    else
      gd (vp_in x5 265) (
      (f_X4_paper N (gA w 20 i x5.toNatClampNeg) x3 w).bind (fun q2 =>
        gd (vp_in (x5 - (1 : Int32)) 265) (
        (f_X4_paper N (gA q2.2 20 i (x5 - (1 : Int32)).toNatClampNeg) x3 q2.2).bind (fun q4 =>
          if q2.1 = q4.1 then
            X2_partsAt_L1 N i x1 x2 x3 n x4 (x5 + (1 : Int32)) q4.2
          else
            X2_partsAt_L1 N i x1 x2 x3 n (x4 + (1 : Int32)) (x5 + (1 : Int32)) q4.2))))
set_option maxRecDepth 20000 in
set_option maxHeartbeats 4000000 in
theorem z_X2_partsAt_L1 {x : CX} (hC : Cx x RX2 cX2_partsAt 6 1) (hr : (xM x).sig.returnType = (some .int)) (N : Nat) (i : Nat) (hi : i < 2) (x1 : Int32) (x2 : Int32) (x3 : Int32) : ∀ (n : Nat) (x4 : Int32) (x5 : Int32) (w : Wd) (q : (Int32 × Wd)), X2_partsAt_L1 N i x1 x2 x3 n x4 x5 w = some q → Z x 48 [none, none, none, none, some (vi q.1), none] [] q.2 → Z x 6 [some (vr 20 i), some (vi x1), some (vi x2), some (vi x3), some (vi x4), some (vi x5)] [] w := by
  intro n
  induction n with
  | zero =>
    intro x4 x5 w q h
    cases h
  | succ n ih =>
    intro x4 x5 w q h ke
    rw [X2_partsAt_L1] at h
    refine Z_iload hC (dk d_X2_partsAt 4 rfl) 8 rfl rfl ?_
    refine Z_iload_n hC (dk d_X2_partsAt 5 rfl) 9 rfl rfl rfl ?_
    refine Z_icmp_ge hC (dk d_X2_partsAt 6 rfl) 12 48 rfl (by decide) (fun c => ?_) (fun c => ?_)
    · have h := it_t h c
      obtain rfl := Option.some.inj h
      refine Z_wk [false, false, false, false, true, false] [none, none, none, none, some (vi x4), none] rfl ?_
      exact ke
    · have h := it_f h c
      refine Z_iload hC (dk d_X2_partsAt 7 rfl) 14 rfl rfl ?_
      refine Z_iload_n hC (dk d_X2_partsAt 8 rfl) 15 rfl rfl rfl ?_
      refine Z_icmp_eq hC (dk d_X2_partsAt 9 rfl) 18 39 rfl (by decide) (fun c => ?_) (fun c => ?_)
      · have h := it_t h c
        refine Z_iinc hC (dk d_X2_partsAt 23 rfl) 42 rfl rfl rfl [some (vr 20 i), some (vi x1), some (vi x2), some (vi x3), some (vi (x4 + (1 : Int32))), some (vi x5)] rfl ?_
        refine Z_iinc hC (dk d_X2_partsAt 24 rfl) 45 rfl rfl rfl [some (vr 20 i), some (vi x1), some (vi x2), some (vi x3), some (vi (x4 + (1 : Int32))), some (vi (x5 + (1 : Int32)))] rfl ?_
        refine Z_goto hC (dk d_X2_partsAt 25 rfl) 6 (by decide) ?_
        refine Z_wk [true, true, true, true, true, true] [some (vr 20 i), some (vi x1), some (vi x2), some (vi x3), some (vi (x4 + (1 : Int32))), some (vi (x5 + (1 : Int32)))] rfl ?_
        exact ih (x4 + (1 : Int32)) (x5 + (1 : Int32)) w _ h ke
      · have h := it_f h c
        refine Z_aload_n hC (dk d_X2_partsAt 10 rfl) 19 rfl rfl rfl ?_
        refine Z_iload hC (dk d_X2_partsAt 11 rfl) 21 rfl rfl ?_
        obtain ⟨g1, h⟩ := gd_some h
        refine Z_iaload hC (m_20 hi) (by decide) rfl g1 (dk d_X2_partsAt 12 rfl) 22 rfl ?_
        refine Z_iload_n hC (dk d_X2_partsAt 13 rfl) 23 rfl rfl rfl ?_
        obtain ⟨q2, hq2, h⟩ := bd_some h
        refine K_X2_79 [vi (gA w 20 i x5.toNatClampNeg), vi x3] hC (s_X4_paper (xG x) (xl x) N (gA w 20 i x5.toNatClampNeg) x3 w q2 hq2) (Nat.le_of_ble_eq_true rfl) rfl rfl rfl (Nat.le_of_ble_eq_true rfl) (dk d_X2_partsAt 14 rfl) 26 rfl ?_
        refine Z_aload_n hC (dk d_X2_partsAt 15 rfl) 27 rfl rfl rfl ?_
        refine Z_iload hC (dk d_X2_partsAt 16 rfl) 29 rfl rfl ?_
        refine Z_iconst (v := 1) hC (dk d_X2_partsAt 17 rfl) 30 rfl (by decide) ?_
        refine Z_isub hC (dk d_X2_partsAt 18 rfl) 31 rfl ?_
        obtain ⟨g3, h⟩ := gd_some h
        refine Z_iaload hC (m_20 hi) (by decide) rfl g3 (dk d_X2_partsAt 19 rfl) 32 rfl ?_
        refine Z_iload_n hC (dk d_X2_partsAt 20 rfl) 33 rfl rfl rfl ?_
        obtain ⟨q4, hq4, h⟩ := bd_some h
        refine K_X2_79 [vi (gA q2.2 20 i (x5 - (1 : Int32)).toNatClampNeg), vi x3] hC (s_X4_paper (xG x) (xl x) N (gA q2.2 20 i (x5 - (1 : Int32)).toNatClampNeg) x3 q2.2 q4 hq4) (Nat.le_of_ble_eq_true rfl) rfl rfl rfl (Nat.le_of_ble_eq_true rfl) (dk d_X2_partsAt 21 rfl) 36 rfl ?_
        refine Z_icmp_eq hC (dk d_X2_partsAt 22 rfl) 39 42 rfl (by decide) (fun c => ?_) (fun c => ?_)
        · have h := it_t h c
          refine Z_iinc hC (dk d_X2_partsAt 24 rfl) 45 rfl rfl rfl [some (vr 20 i), some (vi x1), some (vi x2), some (vi x3), some (vi x4), some (vi (x5 + (1 : Int32)))] rfl ?_
          refine Z_goto hC (dk d_X2_partsAt 25 rfl) 6 (by decide) ?_
          refine Z_wk [true, true, true, true, true, true] [some (vr 20 i), some (vi x1), some (vi x2), some (vi x3), some (vi x4), some (vi (x5 + (1 : Int32)))] rfl ?_
          exact ih x4 (x5 + (1 : Int32)) q4.2 _ h ke
        · have h := it_f h c
          refine Z_iinc hC (dk d_X2_partsAt 23 rfl) 42 rfl rfl rfl [some (vr 20 i), some (vi x1), some (vi x2), some (vi x3), some (vi (x4 + (1 : Int32))), some (vi x5)] rfl ?_
          refine Z_iinc hC (dk d_X2_partsAt 24 rfl) 45 rfl rfl rfl [some (vr 20 i), some (vi x1), some (vi x2), some (vi x3), some (vi (x4 + (1 : Int32))), some (vi (x5 + (1 : Int32)))] rfl ?_
          refine Z_goto hC (dk d_X2_partsAt 25 rfl) 6 (by decide) ?_
          refine Z_wk [true, true, true, true, true, true] [some (vr 20 i), some (vi x1), some (vi x2), some (vi x3), some (vi (x4 + (1 : Int32))), some (vi (x5 + (1 : Int32)))] rfl ?_
          exact ih (x4 + (1 : Int32)) (x5 + (1 : Int32)) q4.2 _ h ke
noncomputable def f_X2_partsAt (N : Nat) (i : Nat) (a1 : Int32) (a2 : Int32) (a3 : Int32) (w : Wd) : Option (Int32 × Wd) :=
  (X2_partsAt_L1 N i a1 a2 a3 N (0 : Int32) a1 w).bind (fun q5 =>
    some (q5.1, q5.2))
set_option maxRecDepth 20000 in
set_option maxHeartbeats 4000000 in
theorem s_X2_partsAt (G : GT) (l : Launch) (N : Nat) (i : Nat) (hi : i < 2) (a1 : Int32) (a2 : Int32) (a3 : Int32) (w : Wd) (q : Int32 × Wd) (h : f_X2_partsAt N i a1 a2 a3 w = some q) : Sp G l yX2_partsAt cw_X2_partsAt 1 [vr 20 i, vi a1, vi a2, vi a3] w (some (vi q.1)) q.2 := by
  refine Sp_of (own := RX2) [some (vr 20 i), some (vi a1), some (vi a2), some (vi a3), none, none] (by decide) rfl rfl (Nat.le_of_ble_eq_true rfl) ?_
  intro x hG hl hC hr hQ _ _
  subst hG
  subst hl
  unfold f_X2_partsAt at h
  refine Z_iconst (v := 0) hC (dk d_X2_partsAt 0 rfl) 1 rfl (by decide) ?_
  refine Z_istore hC (dk d_X2_partsAt 1 rfl) 3 rfl (Nat.le_of_ble_eq_true rfl) [some (vr 20 i), some (vi a1), some (vi a2), some (vi a3), some (vi (0 : Int32)), none] rfl ?_
  refine Z_iload_n hC (dk d_X2_partsAt 2 rfl) 4 rfl rfl rfl ?_
  refine Z_istore hC (dk d_X2_partsAt 3 rfl) 6 rfl (Nat.le_of_ble_eq_true rfl) [some (vr 20 i), some (vi a1), some (vi a2), some (vi a3), some (vi (0 : Int32)), some (vi a1)] rfl ?_
  obtain ⟨q5, hq5, h⟩ := bd_some h
  refine Z_wk [true, true, true, true, true, true] [some (vr 20 i), some (vi a1), some (vi a2), some (vi a3), some (vi (0 : Int32)), some (vi a1)] rfl ?_
  refine z_X2_partsAt_L1 hC hr N i hi a1 a2 a3 N (0 : Int32) a1 w q5 hq5 ?_
  refine Z_iload hC (dk d_X2_partsAt 26 rfl) 50 rfl rfl ?_
  obtain rfl := Option.some.inj h
  exact Z_ireturn (st := []) hC hr hQ (dk d_X2_partsAt 27 rfl)
def t_X2_shareOf : List (Nat × Instr × Nat) := [(0, .iload_n 3, 1), (1, .iload 4, 2), (3, .if_icmp .gt 9, 3), (6, .iload_n 3, 1), (7, .bipush 6, 2), (9, .if_icmp .lt 5, 3), (12, .iconst 0, 1), (13, .ireturn, 1), (14, .aload_n 0, 1), (15, .iload_n 1, 1), (16, .iload_n 2, 1), (17, .iload_n 3, 1), (18, .invokestatic 75, 3), (21, .istore 7, 2), (23, .iload 7, 2), (25, .ifCond .ne 5, 3), (28, .iconst 0, 1), (29, .ireturn, 1), (30, .iload 6, 2), (32, .iload 7, 2), (34, .idiv, 1), (35, .istore 8, 2), (37, .iconst 0, 1), (38, .istore 9, 2), (40, .iload_n 1, 1), (41, .istore 10, 2), (43, .iload_n 1, 1), (44, .iconst 1, 1), (45, .iadd, 1), (46, .istore 11, 2), (48, .iload 11, 2), (50, .iload_n 2, 1), (51, .if_icmp .gt 89, 3), (54, .iload 11, 2), (56, .iload_n 2, 1), (57, .if_icmp .eq 22, 3), (60, .aload_n 0, 1), (61, .iload 11, 2), (63, .iaload, 1), (64, .iload_n 3, 1), (65, .invokestatic 79, 3), (68, .aload_n 0, 1), (69, .iload 10, 2), (71, .iaload, 1), (72, .iload_n 3, 1), (73, .invokestatic 79, 3), (76, .if_icmp .eq 58, 3), (79, .iload_n 3, 1), (80, .iload 4, 2), (82, .if_icmp .ge 28, 3), (85, .iload 9, 2), (87, .aload_n 0, 1), (88, .iload 10, 2), (90, .iload 11, 2), (92, .iload_n 3, 1), (93, .iconst 1, 1), (94, .iadd, 1), (95, .iload 4, 2), (97, .iload 5, 2), (99, .iload 8, 2), (101, .invokestatic 71, 3), (104, .iadd, 1), (105, .istore 9, 2), (107, .goto 23, 3), (110, .aload_n 0, 1), (111, .iload 10, 2), (113, .iaload, 1), (114, .iload_n 3, 1), (115, .invokestatic 79, 3), (118, .iload 5, 2), (120, .if_icmp .ne 10, 3), (123, .iload 9, 2), (125, .iload 8, 2), (127, .iadd, 1), (128, .istore 9, 2), (130, .iload 11, 2), (132, .istore 10, 2), (134, .iinc 11 1, 3), (137, .goto (-89), 3), (140, .iload 9, 2), (142, .ireturn, 1)]
set_option maxRecDepth 20000 in
theorem d_X2_shareOf : ∀ q ∈ t_X2_shareOf, decode cX2_shareOf q.1 = .ok q.2 := by decide +kernel
noncomputable def X2_shareOf_J79 (N : Nat) (rec : Nat → Int32 → Int32 → Int32 → Int32 → Int32 → Int32 → Wd → Option (Int32 × Wd)) (i : Nat) (go : Int32 → Int32 → Int32 → Wd → Option (Int32 × Wd)) (x2 : Int32) (x3 : Int32) (x4 : Int32) (x5 : Int32) (x8 : Int32) (x9 : Int32) (x10 : Int32) (x11 : Int32) (w : Wd) : Option (Int32 × Wd) :=
  if x4 ≤ x3 then
    gd (vp_in x10 265) (
    (f_X4_paper N (gA w 20 i x10.toNatClampNeg) x3 w).bind (fun q4 =>
      if q4.1 = x5 then
        go (x9 + x8) x11 (x11 + (1 : Int32)) q4.2
      else
        go x9 x11 (x11 + (1 : Int32)) q4.2))
  else
    (rec i x10 x11 (x3 + (1 : Int32)) x4 x5 x8 w).bind (fun q5 =>
      go (x9 + q5.1) x11 (x11 + (1 : Int32)) q5.2)
set_option maxRecDepth 20000 in
set_option maxHeartbeats 4000000 in
theorem z_X2_shareOf_J79 {x : CX} {kd : Nat} (hC : Cx x RX2 cX2_shareOf 12 (2 + (kd + 1))) (hr : (xM x).sig.returnType = (some .int)) (N : Nat) {rec : Nat → Int32 → Int32 → Int32 → Int32 → Int32 → Int32 → Wd → Option (Int32 × Wd)} (hrec : ∀ (i : Nat) (a1 : Int32) (a2 : Int32) (a3 : Int32) (a4 : Int32) (a5 : Int32) (a6 : Int32) (w : Wd) (q : Int32 × Wd), i < 2 → rec i a1 a2 a3 a4 a5 a6 w = some q → Sp (xG x) (xl x) yX2_shareOf cw_X2_shareOf (2 + kd) [vr 20 i, vi a1, vi a2, vi a3, vi a4, vi a5, vi a6] w (some (vi q.1)) q.2) (i : Nat) (hi : i < 2) (x2 : Int32) (x3 : Int32) (x4 : Int32) (x5 : Int32) (x8 : Int32) (x9 : Int32) (x10 : Int32) (x11 : Int32) {go : Int32 → Int32 → Int32 → Wd → Option (Int32 × Wd)} (hgo : ∀ (x9 : Int32) (x10 : Int32) (x11 : Int32) (w : Wd) (q : (Int32 × Wd)), go x9 x10 x11 w = some q → Z x 140 [none, none, none, none, none, none, none, none, none, some (vi q.1), none, none] [] q.2 → Z x 48 [some (vr 20 i), none, some (vi x2), some (vi x3), some (vi x4), some (vi x5), none, none, some (vi x8), some (vi x9), some (vi x10), some (vi x11)] [] w) (w : Wd) (q : (Int32 × Wd)) (h : X2_shareOf_J79 N rec i go x2 x3 x4 x5 x8 x9 x10 x11 w = some q) (ke : Z x 140 [none, none, none, none, none, none, none, none, none, some (vi q.1), none, none] [] q.2) : Z x 79 [some (vr 20 i), none, some (vi x2), some (vi x3), some (vi x4), some (vi x5), none, none, some (vi x8), some (vi x9), some (vi x10), some (vi x11)] [] w := by
  unfold X2_shareOf_J79 at h
  refine Z_iload_n hC (dk d_X2_shareOf 47 rfl) 80 rfl rfl rfl ?_
  refine Z_iload hC (dk d_X2_shareOf 48 rfl) 82 rfl rfl ?_
  refine Z_icmp_ge hC (dk d_X2_shareOf 49 rfl) 85 110 rfl (by decide) (fun c => ?_) (fun c => ?_)
  · have h := it_t h c
    refine Z_aload_n hC (dk d_X2_shareOf 64 rfl) 111 rfl rfl rfl ?_
    refine Z_iload hC (dk d_X2_shareOf 65 rfl) 113 rfl rfl ?_
    obtain ⟨g3, h⟩ := gd_some h
    refine Z_iaload hC (m_20 hi) (by decide) rfl g3 (dk d_X2_shareOf 66 rfl) 114 rfl ?_
    refine Z_iload_n hC (dk d_X2_shareOf 67 rfl) 115 rfl rfl rfl ?_
    obtain ⟨q4, hq4, h⟩ := bd_some h
    refine K_X2_79 [vi (gA w 20 i x10.toNatClampNeg), vi x3] hC (s_X4_paper (xG x) (xl x) N (gA w 20 i x10.toNatClampNeg) x3 w q4 hq4) (by omega) rfl rfl rfl (Nat.le_of_ble_eq_true rfl) (dk d_X2_shareOf 68 rfl) 118 rfl ?_
    refine Z_iload hC (dk d_X2_shareOf 69 rfl) 120 rfl rfl ?_
    refine Z_icmp_ne hC (dk d_X2_shareOf 70 rfl) 123 130 rfl (by decide) (fun c => ?_) (fun c => ?_)
    · have h := it_f h c
      refine Z_iload hC (dk d_X2_shareOf 75 rfl) 132 rfl rfl ?_
      refine Z_istore hC (dk d_X2_shareOf 76 rfl) 134 rfl (Nat.le_of_ble_eq_true rfl) [some (vr 20 i), none, some (vi x2), some (vi x3), some (vi x4), some (vi x5), none, none, some (vi x8), some (vi x9), some (vi x11), some (vi x11)] rfl ?_
      refine Z_iinc hC (dk d_X2_shareOf 77 rfl) 137 rfl rfl rfl [some (vr 20 i), none, some (vi x2), some (vi x3), some (vi x4), some (vi x5), none, none, some (vi x8), some (vi x9), some (vi x11), some (vi (x11 + (1 : Int32)))] rfl ?_
      refine Z_goto hC (dk d_X2_shareOf 78 rfl) 48 (by decide) ?_
      refine Z_wk [true, false, true, true, true, true, false, false, true, true, true, true] [some (vr 20 i), none, some (vi x2), some (vi x3), some (vi x4), some (vi x5), none, none, some (vi x8), some (vi x9), some (vi x11), some (vi (x11 + (1 : Int32)))] rfl ?_
      exact hgo x9 x11 (x11 + (1 : Int32)) q4.2 _ h ke
    · have h := it_t h c
      refine Z_iload hC (dk d_X2_shareOf 71 rfl) 125 rfl rfl ?_
      refine Z_iload hC (dk d_X2_shareOf 72 rfl) 127 rfl rfl ?_
      refine Z_iadd hC (dk d_X2_shareOf 73 rfl) 128 rfl ?_
      refine Z_istore hC (dk d_X2_shareOf 74 rfl) 130 rfl (Nat.le_of_ble_eq_true rfl) [some (vr 20 i), none, some (vi x2), some (vi x3), some (vi x4), some (vi x5), none, none, some (vi x8), some (vi (x9 + x8)), some (vi x10), some (vi x11)] rfl ?_
      refine Z_iload hC (dk d_X2_shareOf 75 rfl) 132 rfl rfl ?_
      refine Z_istore hC (dk d_X2_shareOf 76 rfl) 134 rfl (Nat.le_of_ble_eq_true rfl) [some (vr 20 i), none, some (vi x2), some (vi x3), some (vi x4), some (vi x5), none, none, some (vi x8), some (vi (x9 + x8)), some (vi x11), some (vi x11)] rfl ?_
      refine Z_iinc hC (dk d_X2_shareOf 77 rfl) 137 rfl rfl rfl [some (vr 20 i), none, some (vi x2), some (vi x3), some (vi x4), some (vi x5), none, none, some (vi x8), some (vi (x9 + x8)), some (vi x11), some (vi (x11 + (1 : Int32)))] rfl ?_
      refine Z_goto hC (dk d_X2_shareOf 78 rfl) 48 (by decide) ?_
      refine Z_wk [true, false, true, true, true, true, false, false, true, true, true, true] [some (vr 20 i), none, some (vi x2), some (vi x3), some (vi x4), some (vi x5), none, none, some (vi x8), some (vi (x9 + x8)), some (vi x11), some (vi (x11 + (1 : Int32)))] rfl ?_
      exact hgo (x9 + x8) x11 (x11 + (1 : Int32)) q4.2 _ h ke
  · have h := it_f h c
    refine Z_iload hC (dk d_X2_shareOf 50 rfl) 87 rfl rfl ?_
    refine Z_aload_n hC (dk d_X2_shareOf 51 rfl) 88 rfl rfl rfl ?_
    refine Z_iload hC (dk d_X2_shareOf 52 rfl) 90 rfl rfl ?_
    refine Z_iload hC (dk d_X2_shareOf 53 rfl) 92 rfl rfl ?_
    refine Z_iload_n hC (dk d_X2_shareOf 54 rfl) 93 rfl rfl rfl ?_
    refine Z_iconst (v := 1) hC (dk d_X2_shareOf 55 rfl) 94 rfl (by decide) ?_
    refine Z_iadd hC (dk d_X2_shareOf 56 rfl) 95 rfl ?_
    refine Z_iload hC (dk d_X2_shareOf 57 rfl) 97 rfl rfl ?_
    refine Z_iload hC (dk d_X2_shareOf 58 rfl) 99 rfl rfl ?_
    refine Z_iload hC (dk d_X2_shareOf 59 rfl) 101 rfl rfl ?_
    obtain ⟨q5, hq5, h⟩ := bd_some h
    refine K_X2_71 [vr 20 i, vi x10, vi x11, vi (x3 + (1 : Int32)), vi x4, vi x5, vi x8] hC (hrec i x10 x11 (x3 + (1 : Int32)) x4 x5 x8 w q5 hi hq5) (by omega) rfl rfl rfl (Nat.le_of_ble_eq_true rfl) (dk d_X2_shareOf 60 rfl) 104 rfl ?_
    refine Z_iadd hC (dk d_X2_shareOf 61 rfl) 105 rfl ?_
    refine Z_istore hC (dk d_X2_shareOf 62 rfl) 107 rfl (Nat.le_of_ble_eq_true rfl) [some (vr 20 i), none, some (vi x2), some (vi x3), some (vi x4), some (vi x5), none, none, some (vi x8), some (vi (x9 + q5.1)), some (vi x10), some (vi x11)] rfl ?_
    refine Z_goto hC (dk d_X2_shareOf 63 rfl) 130 (by decide) ?_
    refine Z_iload hC (dk d_X2_shareOf 75 rfl) 132 rfl rfl ?_
    refine Z_istore hC (dk d_X2_shareOf 76 rfl) 134 rfl (Nat.le_of_ble_eq_true rfl) [some (vr 20 i), none, some (vi x2), some (vi x3), some (vi x4), some (vi x5), none, none, some (vi x8), some (vi (x9 + q5.1)), some (vi x11), some (vi x11)] rfl ?_
    refine Z_iinc hC (dk d_X2_shareOf 77 rfl) 137 rfl rfl rfl [some (vr 20 i), none, some (vi x2), some (vi x3), some (vi x4), some (vi x5), none, none, some (vi x8), some (vi (x9 + q5.1)), some (vi x11), some (vi (x11 + (1 : Int32)))] rfl ?_
    refine Z_goto hC (dk d_X2_shareOf 78 rfl) 48 (by decide) ?_
    refine Z_wk [true, false, true, true, true, true, false, false, true, true, true, true] [some (vr 20 i), none, some (vi x2), some (vi x3), some (vi x4), some (vi x5), none, none, some (vi x8), some (vi (x9 + q5.1)), some (vi x11), some (vi (x11 + (1 : Int32)))] rfl ?_
    exact hgo (x9 + q5.1) x11 (x11 + (1 : Int32)) q5.2 _ h ke
noncomputable def X2_shareOf_L1 (N : Nat) (rec : Nat → Int32 → Int32 → Int32 → Int32 → Int32 → Int32 → Wd → Option (Int32 × Wd)) (i : Nat) (x2 : Int32) (x3 : Int32) (x4 : Int32) (x5 : Int32) (x8 : Int32) : Nat → Int32 → Int32 → Int32 → Wd → Option (Int32 × Wd)
  | 0, _, _, _, _ => none
  | n + 1, x9, x10, x11, w =>
  if x2 < x11 then
    some (x9, w)
  else
    if x11 = x2 then
      X2_shareOf_J79 N rec i (X2_shareOf_L1 N rec i x2 x3 x4 x5 x8 n) x2 x3 x4 x5 x8 x9 x10 x11 w
    else
      gd (vp_in x11 265) (
      (f_X4_paper N (gA w 20 i x11.toNatClampNeg) x3 w).bind (fun q7 =>
        gd (vp_in x10 265) (
        (f_X4_paper N (gA q7.2 20 i x10.toNatClampNeg) x3 q7.2).bind (fun q9 =>
          if q7.1 = q9.1 then
            X2_shareOf_L1 N rec i x2 x3 x4 x5 x8 n x9 x10 (x11 + (1 : Int32)) q9.2
          else
            X2_shareOf_J79 N rec i (X2_shareOf_L1 N rec i x2 x3 x4 x5 x8 n) x2 x3 x4 x5 x8 x9 x10 x11 q9.2))))
set_option maxRecDepth 20000 in
set_option maxHeartbeats 4000000 in
theorem z_X2_shareOf_L1 {x : CX} {kd : Nat} (hC : Cx x RX2 cX2_shareOf 12 (2 + (kd + 1))) (hr : (xM x).sig.returnType = (some .int)) (N : Nat) {rec : Nat → Int32 → Int32 → Int32 → Int32 → Int32 → Int32 → Wd → Option (Int32 × Wd)} (hrec : ∀ (i : Nat) (a1 : Int32) (a2 : Int32) (a3 : Int32) (a4 : Int32) (a5 : Int32) (a6 : Int32) (w : Wd) (q : Int32 × Wd), i < 2 → rec i a1 a2 a3 a4 a5 a6 w = some q → Sp (xG x) (xl x) yX2_shareOf cw_X2_shareOf (2 + kd) [vr 20 i, vi a1, vi a2, vi a3, vi a4, vi a5, vi a6] w (some (vi q.1)) q.2) (i : Nat) (hi : i < 2) (x2 : Int32) (x3 : Int32) (x4 : Int32) (x5 : Int32) (x8 : Int32) : ∀ (n : Nat) (x9 : Int32) (x10 : Int32) (x11 : Int32) (w : Wd) (q : (Int32 × Wd)), X2_shareOf_L1 N rec i x2 x3 x4 x5 x8 n x9 x10 x11 w = some q → Z x 140 [none, none, none, none, none, none, none, none, none, some (vi q.1), none, none] [] q.2 → Z x 48 [some (vr 20 i), none, some (vi x2), some (vi x3), some (vi x4), some (vi x5), none, none, some (vi x8), some (vi x9), some (vi x10), some (vi x11)] [] w := by
  intro n
  induction n with
  | zero =>
    intro x9 x10 x11 w q h
    cases h
  | succ n ih =>
    intro x9 x10 x11 w q h ke
    rw [X2_shareOf_L1] at h
    refine Z_iload hC (dk d_X2_shareOf 30 rfl) 50 rfl rfl ?_
    refine Z_iload_n hC (dk d_X2_shareOf 31 rfl) 51 rfl rfl rfl ?_
    refine Z_icmp_gt hC (dk d_X2_shareOf 32 rfl) 54 140 rfl (by decide) (fun c => ?_) (fun c => ?_)
    · have h := it_t h c
      obtain rfl := Option.some.inj h
      refine Z_wk [false, false, false, false, false, false, false, false, false, true, false, false] [none, none, none, none, none, none, none, none, none, some (vi x9), none, none] rfl ?_
      exact ke
    · have h := it_f h c
      refine Z_iload hC (dk d_X2_shareOf 33 rfl) 56 rfl rfl ?_
      refine Z_iload_n hC (dk d_X2_shareOf 34 rfl) 57 rfl rfl rfl ?_
      refine Z_icmp_eq hC (dk d_X2_shareOf 35 rfl) 60 79 rfl (by decide) (fun c => ?_) (fun c => ?_)
      · have h := it_t h c
        refine Z_wk [true, false, true, true, true, true, false, false, true, true, true, true] [some (vr 20 i), none, some (vi x2), some (vi x3), some (vi x4), some (vi x5), none, none, some (vi x8), some (vi x9), some (vi x10), some (vi x11)] rfl ?_
        exact z_X2_shareOf_J79 hC hr N hrec i hi x2 x3 x4 x5 x8 x9 x10 x11 ih w _ h ke
      · have h := it_f h c
        refine Z_aload_n hC (dk d_X2_shareOf 36 rfl) 61 rfl rfl rfl ?_
        refine Z_iload hC (dk d_X2_shareOf 37 rfl) 63 rfl rfl ?_
        obtain ⟨g6, h⟩ := gd_some h
        refine Z_iaload hC (m_20 hi) (by decide) rfl g6 (dk d_X2_shareOf 38 rfl) 64 rfl ?_
        refine Z_iload_n hC (dk d_X2_shareOf 39 rfl) 65 rfl rfl rfl ?_
        obtain ⟨q7, hq7, h⟩ := bd_some h
        refine K_X2_79 [vi (gA w 20 i x11.toNatClampNeg), vi x3] hC (s_X4_paper (xG x) (xl x) N (gA w 20 i x11.toNatClampNeg) x3 w q7 hq7) (by omega) rfl rfl rfl (Nat.le_of_ble_eq_true rfl) (dk d_X2_shareOf 40 rfl) 68 rfl ?_
        refine Z_aload_n hC (dk d_X2_shareOf 41 rfl) 69 rfl rfl rfl ?_
        refine Z_iload hC (dk d_X2_shareOf 42 rfl) 71 rfl rfl ?_
        obtain ⟨g8, h⟩ := gd_some h
        refine Z_iaload hC (m_20 hi) (by decide) rfl g8 (dk d_X2_shareOf 43 rfl) 72 rfl ?_
        refine Z_iload_n hC (dk d_X2_shareOf 44 rfl) 73 rfl rfl rfl ?_
        obtain ⟨q9, hq9, h⟩ := bd_some h
        refine K_X2_79 [vi (gA q7.2 20 i x10.toNatClampNeg), vi x3] hC (s_X4_paper (xG x) (xl x) N (gA q7.2 20 i x10.toNatClampNeg) x3 q7.2 q9 hq9) (by omega) rfl rfl rfl (Nat.le_of_ble_eq_true rfl) (dk d_X2_shareOf 45 rfl) 76 rfl ?_
        refine Z_icmp_eq hC (dk d_X2_shareOf 46 rfl) 79 134 rfl (by decide) (fun c => ?_) (fun c => ?_)
        · have h := it_t h c
          refine Z_iinc hC (dk d_X2_shareOf 77 rfl) 137 rfl rfl rfl [some (vr 20 i), none, some (vi x2), some (vi x3), some (vi x4), some (vi x5), none, none, some (vi x8), some (vi x9), some (vi x10), some (vi (x11 + (1 : Int32)))] rfl ?_
          refine Z_goto hC (dk d_X2_shareOf 78 rfl) 48 (by decide) ?_
          refine Z_wk [true, false, true, true, true, true, false, false, true, true, true, true] [some (vr 20 i), none, some (vi x2), some (vi x3), some (vi x4), some (vi x5), none, none, some (vi x8), some (vi x9), some (vi x10), some (vi (x11 + (1 : Int32)))] rfl ?_
          exact ih x9 x10 (x11 + (1 : Int32)) q9.2 _ h ke
        · have h := it_f h c
          refine Z_wk [true, false, true, true, true, true, false, false, true, true, true, true] [some (vr 20 i), none, some (vi x2), some (vi x3), some (vi x4), some (vi x5), none, none, some (vi x8), some (vi x9), some (vi x10), some (vi x11)] rfl ?_
          exact z_X2_shareOf_J79 hC hr N hrec i hi x2 x3 x4 x5 x8 x9 x10 x11 ih q9.2 _ h ke
noncomputable def f_X2_shareOf (N : Nat) : Nat → Nat → Int32 → Int32 → Int32 → Int32 → Int32 → Int32 → Wd → Option (Int32 × Wd)
  | 0, _, _, _, _, _, _, _, _ => none
  | k + 1, i, a1, a2, a3, a4, a5, a6, w =>
  if a4 < a3 then
    some ((0 : Int32), w)
  else
    if a3 < (6 : Int32) then
      (f_X2_partsAt N i a1 a2 a3 w).bind (fun q1 =>
        if q1.1 = 0 then
          some ((0 : Int32), q1.2)
        else
          gd (¬ q1.1 = 0) (
          (X2_shareOf_L1 N (f_X2_shareOf N k) i a2 a3 a4 a5 (a6 / q1.1) N (0 : Int32) a1 (a1 + (1 : Int32)) q1.2).bind (fun q10 =>
            some (q10.1, q10.2))))
    else
      some ((0 : Int32), w)
set_option maxRecDepth 20000 in
set_option maxHeartbeats 4000000 in
theorem s_X2_shareOf (G : GT) (l : Launch) (N : Nat) : ∀ (k : Nat) (i : Nat) (hi : i < 2) (a1 : Int32) (a2 : Int32) (a3 : Int32) (a4 : Int32) (a5 : Int32) (a6 : Int32) (w : Wd) (q : Int32 × Wd) (h : f_X2_shareOf N k i a1 a2 a3 a4 a5 a6 w = some q), Sp G l yX2_shareOf cw_X2_shareOf (2 + k) [vr 20 i, vi a1, vi a2, vi a3, vi a4, vi a5, vi a6] w (some (vi q.1)) q.2 := by
  intro kd
  induction kd with
  | zero =>
    intro i hi a1 a2 a3 a4 a5 a6 w q h
    cases h
  | succ kd ih =>
    intro i hi a1 a2 a3 a4 a5 a6 w q h
    rw [f_X2_shareOf] at h
    refine Sp_of (own := RX2) [some (vr 20 i), some (vi a1), some (vi a2), some (vi a3), some (vi a4), some (vi a5), some (vi a6), none, none, none, none, none] (by decide) rfl rfl (Nat.le_of_ble_eq_true rfl) ?_
    intro x hG hl hC hr hQ _ _
    subst hG
    subst hl
    have hrec : ∀ (i : Nat) (a1 : Int32) (a2 : Int32) (a3 : Int32) (a4 : Int32) (a5 : Int32) (a6 : Int32) (w : Wd) (q : Int32 × Wd), i < 2 → f_X2_shareOf N kd i a1 a2 a3 a4 a5 a6 w = some q → Sp (xG x) (xl x) yX2_shareOf cw_X2_shareOf (2 + kd) [vr 20 i, vi a1, vi a2, vi a3, vi a4, vi a5, vi a6] w (some (vi q.1)) q.2 := fun i a1 a2 a3 a4 a5 a6 w q hi h => ih i hi a1 a2 a3 a4 a5 a6 w q h
    refine Z_iload_n hC (dk d_X2_shareOf 0 rfl) 1 rfl rfl rfl ?_
    refine Z_iload hC (dk d_X2_shareOf 1 rfl) 3 rfl rfl ?_
    refine Z_icmp_gt hC (dk d_X2_shareOf 2 rfl) 6 12 rfl (by decide) (fun c => ?_) (fun c => ?_)
    · have h := it_t h c
      refine Z_iconst (v := 0) hC (dk d_X2_shareOf 6 rfl) 13 rfl (by decide) ?_
      obtain rfl := Option.some.inj h
      exact Z_ireturn (st := []) hC hr hQ (dk d_X2_shareOf 7 rfl)
    · have h := it_f h c
      refine Z_iload_n hC (dk d_X2_shareOf 3 rfl) 7 rfl rfl rfl ?_
      refine Z_bipush (v := 6) hC (dk d_X2_shareOf 4 rfl) 9 rfl (by decide) ?_
      refine Z_icmp_lt hC (dk d_X2_shareOf 5 rfl) 12 14 rfl (by decide) (fun c => ?_) (fun c => ?_)
      · have h := it_t h c
        refine Z_aload_n hC (dk d_X2_shareOf 8 rfl) 15 rfl rfl rfl ?_
        refine Z_iload_n hC (dk d_X2_shareOf 9 rfl) 16 rfl rfl rfl ?_
        refine Z_iload_n hC (dk d_X2_shareOf 10 rfl) 17 rfl rfl rfl ?_
        refine Z_iload_n hC (dk d_X2_shareOf 11 rfl) 18 rfl rfl rfl ?_
        obtain ⟨q1, hq1, h⟩ := bd_some h
        refine K_X2_75 [vr 20 i, vi a1, vi a2, vi a3] hC (s_X2_partsAt (xG x) (xl x) N i hi a1 a2 a3 w q1 hq1) (by omega) rfl rfl rfl (Nat.le_of_ble_eq_true rfl) (dk d_X2_shareOf 12 rfl) 21 rfl ?_
        refine Z_istore hC (dk d_X2_shareOf 13 rfl) 23 rfl (Nat.le_of_ble_eq_true rfl) [some (vr 20 i), some (vi a1), some (vi a2), some (vi a3), some (vi a4), some (vi a5), some (vi a6), some (vi q1.1), none, none, none, none] rfl ?_
        refine Z_iload hC (dk d_X2_shareOf 14 rfl) 25 rfl rfl ?_
        refine Z_if_ne hC (dk d_X2_shareOf 15 rfl) 28 30 rfl (by decide) (fun c => ?_) (fun c => ?_)
        · have h := it_f h c
          refine Z_iload hC (dk d_X2_shareOf 18 rfl) 32 rfl rfl ?_
          refine Z_iload hC (dk d_X2_shareOf 19 rfl) 34 rfl rfl ?_
          obtain ⟨g2, h⟩ := gd_some h
          refine Z_idiv hC (dk d_X2_shareOf 20 rfl) 35 rfl g2 ?_
          refine Z_istore hC (dk d_X2_shareOf 21 rfl) 37 rfl (Nat.le_of_ble_eq_true rfl) [some (vr 20 i), some (vi a1), some (vi a2), some (vi a3), some (vi a4), some (vi a5), some (vi a6), some (vi q1.1), some (vi (a6 / q1.1)), none, none, none] rfl ?_
          refine Z_iconst (v := 0) hC (dk d_X2_shareOf 22 rfl) 38 rfl (by decide) ?_
          refine Z_istore hC (dk d_X2_shareOf 23 rfl) 40 rfl (Nat.le_of_ble_eq_true rfl) [some (vr 20 i), some (vi a1), some (vi a2), some (vi a3), some (vi a4), some (vi a5), some (vi a6), some (vi q1.1), some (vi (a6 / q1.1)), some (vi (0 : Int32)), none, none] rfl ?_
          refine Z_iload_n hC (dk d_X2_shareOf 24 rfl) 41 rfl rfl rfl ?_
          refine Z_istore hC (dk d_X2_shareOf 25 rfl) 43 rfl (Nat.le_of_ble_eq_true rfl) [some (vr 20 i), some (vi a1), some (vi a2), some (vi a3), some (vi a4), some (vi a5), some (vi a6), some (vi q1.1), some (vi (a6 / q1.1)), some (vi (0 : Int32)), some (vi a1), none] rfl ?_
          refine Z_iload_n hC (dk d_X2_shareOf 26 rfl) 44 rfl rfl rfl ?_
          refine Z_iconst (v := 1) hC (dk d_X2_shareOf 27 rfl) 45 rfl (by decide) ?_
          refine Z_iadd hC (dk d_X2_shareOf 28 rfl) 46 rfl ?_
          refine Z_istore hC (dk d_X2_shareOf 29 rfl) 48 rfl (Nat.le_of_ble_eq_true rfl) [some (vr 20 i), some (vi a1), some (vi a2), some (vi a3), some (vi a4), some (vi a5), some (vi a6), some (vi q1.1), some (vi (a6 / q1.1)), some (vi (0 : Int32)), some (vi a1), some (vi (a1 + (1 : Int32)))] rfl ?_
          obtain ⟨q10, hq10, h⟩ := bd_some h
          refine Z_wk [true, false, true, true, true, true, false, false, true, true, true, true] [some (vr 20 i), none, some (vi a2), some (vi a3), some (vi a4), some (vi a5), none, none, some (vi (a6 / q1.1)), some (vi (0 : Int32)), some (vi a1), some (vi (a1 + (1 : Int32)))] rfl ?_
          refine z_X2_shareOf_L1 hC hr N hrec i hi a2 a3 a4 a5 (a6 / q1.1) N (0 : Int32) a1 (a1 + (1 : Int32)) q1.2 q10 hq10 ?_
          refine Z_iload hC (dk d_X2_shareOf 79 rfl) 142 rfl rfl ?_
          obtain rfl := Option.some.inj h
          exact Z_ireturn (st := []) hC hr hQ (dk d_X2_shareOf 80 rfl)
        · have h := it_t h c
          refine Z_iconst (v := 0) hC (dk d_X2_shareOf 16 rfl) 29 rfl (by decide) ?_
          obtain rfl := Option.some.inj h
          exact Z_ireturn (st := []) hC hr hQ (dk d_X2_shareOf 17 rfl)
      · have h := it_f h c
        refine Z_iconst (v := 0) hC (dk d_X2_shareOf 6 rfl) 13 rfl (by decide) ?_
        obtain rfl := Option.some.inj h
        exact Z_ireturn (st := []) hC hr hQ (dk d_X2_shareOf 7 rfl)
def t_X4_firstOnes : List (Nat × Instr × Nat) := [(0, .iconst 1, 1), (1, .iconst 3, 1), (2, .iload_n 0, 1), (3, .imul, 1), (4, .ishl, 1), (5, .iconst 1, 1), (6, .isub, 1), (7, .ireturn, 1)]
set_option maxRecDepth 20000 in
theorem d_X4_firstOnes : ∀ q ∈ t_X4_firstOnes, decode cX4_firstOnes q.1 = .ok q.2 := by decide +kernel
noncomputable def f_X4_firstOnes (N : Nat) (a1 : Int32) (w : Wd) : Option (Int32 × Wd) :=
  some (((1 : Int32) <<< (((3 : Int32) * a1) &&& (31 : Int32))) - (1 : Int32), w)
set_option maxRecDepth 20000 in
set_option maxHeartbeats 4000000 in
theorem s_X4_firstOnes (G : GT) (l : Launch) (N : Nat) (a1 : Int32) (w : Wd) (q : Int32 × Wd) (h : f_X4_firstOnes N a1 w = some q) : Sp G l yX4_firstOnes cw_X4_firstOnes 0 [vi a1] w (some (vi q.1)) q.2 := by
  refine Sp_of (own := RX4) [some (vi a1)] (by decide) rfl rfl (Nat.le_of_ble_eq_true rfl) ?_
  intro x hG hl hC hr hQ _ _
  subst hG
  subst hl
  unfold f_X4_firstOnes at h
  refine Z_iconst (v := 1) hC (dk d_X4_firstOnes 0 rfl) 1 rfl (by decide) ?_
  refine Z_iconst (v := 3) hC (dk d_X4_firstOnes 1 rfl) 2 rfl (by decide) ?_
  refine Z_iload_n hC (dk d_X4_firstOnes 2 rfl) 3 rfl rfl rfl ?_
  refine Z_imul hC (dk d_X4_firstOnes 3 rfl) 4 rfl ?_
  refine Z_ishl hC (dk d_X4_firstOnes 4 rfl) 5 rfl ?_
  refine Z_iconst (v := 1) hC (dk d_X4_firstOnes 5 rfl) 6 rfl (by decide) ?_
  refine Z_isub hC (dk d_X4_firstOnes 6 rfl) 7 rfl ?_
  obtain rfl := Option.some.inj h
  exact Z_ireturn (st := []) hC hr hQ (dk d_X4_firstOnes 7 rfl)
def t_X2_shareByTurns : List (Nat × Instr × Nat) := [(0, .iload_n 2, 1), (1, .invokestatic 61, 3), (4, .istore 5, 2), (6, .aload_n 0, 1), (7, .iload_n 1, 1), (8, .iload 5, 2), (10, .invokevirtual 64, 3), (13, .istore 6, 2), (15, .iload 6, 2), (17, .bipush (-9), 2), (19, .if_icmp .ne 5, 3), (22, .iconst 0, 1), (23, .ireturn, 1), (24, .aload_n 0, 1), (25, .getfield 9, 3), (28, .iload 6, 2), (30, .iload 6, 2), (32, .aload_n 0, 1), (33, .iload_n 1, 1), (34, .iload 5, 2), (36, .invokevirtual 67, 3), (39, .iadd, 1), (40, .iload_n 2, 1), (41, .iload_n 3, 1), (42, .iload 4, 2), (44, .ldc 70, 2), (46, .invokestatic 71, 3), (49, .ireturn, 1)]
set_option maxRecDepth 20000 in
theorem d_X2_shareByTurns : ∀ q ∈ t_X2_shareByTurns, decode cX2_shareByTurns q.1 = .ok q.2 := by decide +kernel
noncomputable def f_X2_shareByTurns (N : Nat) (i : Nat) (a1 : Int32) (a2 : Int32) (a3 : Int32) (a4 : Int32) (w : Wd) : Option (Int32 × Wd) :=
  (f_X4_firstOnes N a2 w).bind (fun q1 =>
    (f_X2_placeOf N i a1 q1.1 q1.2).bind (fun q2 =>
      if q2.1 = (-9 : Int32) then
        some ((0 : Int32), q2.2)
      else
        (f_X2_fitting N i a1 q1.1 q2.2).bind (fun q3 =>
          (f_X2_shareOf N 8 i q2.1 (q2.1 + q3.1) a2 a3 a4 (518400 : Int32) q3.2).bind (fun q4 =>
            some (q4.1, q4.2)))))
set_option maxRecDepth 20000 in
set_option maxHeartbeats 4000000 in
theorem s_X2_shareByTurns (G : GT) (l : Launch) (N : Nat) (i : Nat) (hi : i < 2) (a1 : Int32) (a2 : Int32) (a3 : Int32) (a4 : Int32) (w : Wd) (q : Int32 × Wd) (h : f_X2_shareByTurns N i a1 a2 a3 a4 w = some q) : Sp G l yX2_shareByTurns cw_X2_shareByTurns 11 [vr 4 i, vi a1, vi a2, vi a3, vi a4] w (some (vi q.1)) q.2 := by
  refine Sp_of (own := RX2) [some (vr 4 i), some (vi a1), some (vi a2), some (vi a3), some (vi a4), none, none] (by decide) rfl rfl (Nat.le_of_ble_eq_true rfl) ?_
  intro x hG hl hC hr hQ _ _
  subst hG
  subst hl
  unfold f_X2_shareByTurns at h
  refine Z_iload_n hC (dk d_X2_shareByTurns 0 rfl) 1 rfl rfl rfl ?_
  obtain ⟨q1, hq1, h⟩ := bd_some h
  refine K_X2_61 [vi a2] hC (s_X4_firstOnes (xG x) (xl x) N a2 w q1 hq1) (Nat.le_of_ble_eq_true rfl) rfl rfl rfl (Nat.le_of_ble_eq_true rfl) (dk d_X2_shareByTurns 1 rfl) 4 rfl ?_
  refine Z_istore hC (dk d_X2_shareByTurns 2 rfl) 6 rfl (Nat.le_of_ble_eq_true rfl) [some (vr 4 i), some (vi a1), some (vi a2), some (vi a3), some (vi a4), some (vi q1.1), none] rfl ?_
  refine Z_aload_n hC (dk d_X2_shareByTurns 3 rfl) 7 rfl rfl rfl ?_
  refine Z_iload_n hC (dk d_X2_shareByTurns 4 rfl) 8 rfl rfl rfl ?_
  refine Z_iload hC (dk d_X2_shareByTurns 5 rfl) 10 rfl rfl ?_
  obtain ⟨q2, hq2, h⟩ := bd_some h
  refine K_X2_64 [vi a1, vi q1.1] hC (m_4 hi) (s_X2_placeOf (xG x) (xl x) N i hi a1 q1.1 q1.2 q2 hq2) (Nat.le_of_ble_eq_true rfl) rfl rfl rfl (Nat.le_of_ble_eq_true rfl) (dk d_X2_shareByTurns 6 rfl) 13 rfl ?_
  refine Z_istore hC (dk d_X2_shareByTurns 7 rfl) 15 rfl (Nat.le_of_ble_eq_true rfl) [some (vr 4 i), some (vi a1), some (vi a2), some (vi a3), some (vi a4), some (vi q1.1), some (vi q2.1)] rfl ?_
  refine Z_iload hC (dk d_X2_shareByTurns 8 rfl) 17 rfl rfl ?_
  refine Z_bipush (v := -9) hC (dk d_X2_shareByTurns 9 rfl) 19 rfl (by decide) ?_
  refine Z_icmp_ne hC (dk d_X2_shareByTurns 10 rfl) 22 24 rfl (by decide) (fun c => ?_) (fun c => ?_)
  · have h := it_f h c
    refine Z_aload_n hC (dk d_X2_shareByTurns 13 rfl) 25 rfl rfl rfl ?_
    refine G_X2_9 hC (m_4 hi) (dk d_X2_shareByTurns 14 rfl) 28 rfl ?_
    refine Z_iload hC (dk d_X2_shareByTurns 15 rfl) 30 rfl rfl ?_
    refine Z_iload hC (dk d_X2_shareByTurns 16 rfl) 32 rfl rfl ?_
    refine Z_aload_n hC (dk d_X2_shareByTurns 17 rfl) 33 rfl rfl rfl ?_
    refine Z_iload_n hC (dk d_X2_shareByTurns 18 rfl) 34 rfl rfl rfl ?_
    refine Z_iload hC (dk d_X2_shareByTurns 19 rfl) 36 rfl rfl ?_
    obtain ⟨q3, hq3, h⟩ := bd_some h
    refine K_X2_67 [vi a1, vi q1.1] hC (m_4 hi) (s_X2_fitting (xG x) (xl x) N i hi a1 q1.1 q2.2 q3 hq3) (Nat.le_of_ble_eq_true rfl) rfl rfl rfl (Nat.le_of_ble_eq_true rfl) (dk d_X2_shareByTurns 20 rfl) 39 rfl ?_
    refine Z_iadd hC (dk d_X2_shareByTurns 21 rfl) 40 rfl ?_
    refine Z_iload_n hC (dk d_X2_shareByTurns 22 rfl) 41 rfl rfl rfl ?_
    refine Z_iload_n hC (dk d_X2_shareByTurns 23 rfl) 42 rfl rfl rfl ?_
    refine Z_iload hC (dk d_X2_shareByTurns 24 rfl) 44 rfl rfl ?_
    refine Z_ldc hC kc_X2_70 (dk d_X2_shareByTurns 25 rfl) 46 rfl ?_
    obtain ⟨q4, hq4, h⟩ := bd_some h
    refine K_X2_71 [vr 20 i, vi q2.1, vi (q2.1 + q3.1), vi a2, vi a3, vi a4, vi (518400 : Int32)] hC (s_X2_shareOf (xG x) (xl x) N 8 i hi q2.1 (q2.1 + q3.1) a2 a3 a4 (518400 : Int32) q3.2 q4 hq4) (Nat.le_of_ble_eq_true rfl) rfl rfl rfl (Nat.le_of_ble_eq_true rfl) (dk d_X2_shareByTurns 26 rfl) 49 rfl ?_
    obtain rfl := Option.some.inj h
    exact Z_ireturn (st := []) hC hr hQ (dk d_X2_shareByTurns 27 rfl)
  · have h := it_t h c
    refine Z_iconst (v := 0) hC (dk d_X2_shareByTurns 11 rfl) 23 rfl (by decide) ?_
    obtain rfl := Option.some.inj h
    exact Z_ireturn (st := []) hC hr hQ (dk d_X2_shareByTurns 12 rfl)
def t_X3_isMissing : List (Nat × Instr × Nat) := [(0, .aload_n 0, 1), (1, .getfield 16, 3), (4, .iload_n 1, 1), (5, .iaload, 1), (6, .iconst (-1), 1), (7, .if_icmp .ne 7, 3), (10, .iconst 1, 1), (11, .goto 4, 3), (14, .iconst 0, 1), (15, .ireturn, 1)]
set_option maxRecDepth 20000 in
theorem d_X3_isMissing : ∀ q ∈ t_X3_isMissing, decode cX3_isMissing q.1 = .ok q.2 := by decide +kernel
noncomputable def f_X3_isMissing (N : Nat) (a1 : Int32) (w : Wd) : Option (Int32 × Wd) :=
  gd (vp_in a1 4) (
  if (gA w 15 0 a1.toNatClampNeg) = (-1 : Int32) then
    some ((1 : Int32), w)
  else
    some ((0 : Int32), w))
set_option maxRecDepth 20000 in
set_option maxHeartbeats 4000000 in
theorem s_X3_isMissing (G : GT) (l : Launch) (N : Nat) (a1 : Int32) (w : Wd) (q : Int32 × Wd) (h : f_X3_isMissing N a1 w = some q) : Sp G l yX3_isMissing cw_X3_isMissing 0 [vr 2 0, vi a1] w (some (vi q.1)) q.2 := by
  refine Sp_of (own := RX3) [some (vr 2 0), some (vi a1)] (by decide) rfl rfl (Nat.le_of_ble_eq_true rfl) ?_
  intro x hG hl hC hr hQ _ _
  subst hG
  subst hl
  unfold f_X3_isMissing at h
  refine Z_aload_n hC (dk d_X3_isMissing 0 rfl) 1 rfl rfl rfl ?_
  refine G_X3_16 hC m_2 (dk d_X3_isMissing 1 rfl) 4 rfl ?_
  refine Z_iload_n hC (dk d_X3_isMissing 2 rfl) 5 rfl rfl rfl ?_
  obtain ⟨g1, h⟩ := gd_some h
  refine Z_iaload hC m_15 (by decide) rfl g1 (dk d_X3_isMissing 3 rfl) 6 rfl ?_
  refine Z_iconst (v := -1) hC (dk d_X3_isMissing 4 rfl) 7 rfl (by decide) ?_
  refine Z_icmp_ne hC (dk d_X3_isMissing 5 rfl) 10 14 rfl (by decide) (fun c => ?_) (fun c => ?_)
  · have h := it_f h c
    refine Z_iconst (v := 0) hC (dk d_X3_isMissing 8 rfl) 15 rfl (by decide) ?_
    obtain rfl := Option.some.inj h
    exact Z_zreturn (st := []) hC hr rfl hQ (dk d_X3_isMissing 9 rfl)
  · have h := it_t h c
    refine Z_iconst (v := 1) hC (dk d_X3_isMissing 6 rfl) 11 rfl (by decide) ?_
    refine Z_goto hC (dk d_X3_isMissing 7 rfl) 15 (by decide) ?_
    obtain rfl := Option.some.inj h
    exact Z_zreturn (st := []) hC hr rfl hQ (dk d_X3_isMissing 9 rfl)
def t_J7_fill_031fb : List (Nat × Instr × Nat) := [(0, .iconst 0, 1), (1, .istore_n 2, 1), (2, .aload_n 0, 1), (3, .arraylength, 1), (4, .istore_n 3, 1), (5, .iload_n 2, 1), (6, .iload_n 3, 1), (7, .if_icmp .ge 13, 3), (10, .aload_n 0, 1), (11, .iload_n 2, 1), (12, .iload_n 1, 1), (13, .bastore, 1), (14, .iinc 2 1, 3), (17, .goto (-12), 3), (20, .return_, 1)]
set_option maxRecDepth 20000 in
theorem d_J7_fill_031fb : ∀ q ∈ t_J7_fill_031fb, decode cJ7_fill_031fb q.1 = .ok q.2 := by decide +kernel
noncomputable def J7_fill_031fb_L1 (N : Nat) (g i : Nat) (x1 : Int32) (x3 : Int32) : Nat → Int32 → Wd → Option (Wd)
  | 0, _, _ => none
  | n + 1, x2, w =>
  if x3 ≤ x2 then
    some w
  else
    gd (vp_in x2 (arr g).2) (
    J7_fill_031fb_L1 N g i x1 x3 n (x2 + (1 : Int32)) (sA w g i (upd (gA w g i) x2.toNatClampNeg (vp_nar .byte x1))))
set_option maxRecDepth 20000 in
set_option maxHeartbeats 4000000 in
theorem z_J7_fill_031fb_L1 {x : CX} (hC : Cx x RJ7 cJ7_fill_031fb 4 0) (hr : (xM x).sig.returnType = none) (N : Nat) (g i : Nat) (hm : (g, i) ∈ gis) (h10 : ¬ g < 10) (hk : (arr g).1 = 1) (x1 : Int32) (x3 : Int32) : ∀ (n : Nat) (x2 : Int32) (w : Wd) (q : (Wd)), J7_fill_031fb_L1 N g i x1 x3 n x2 w = some q → Z x 20 [none, none, none, none] [] q → Z x 5 [some (vr g i), some (vi x1), some (vi x2), some (vi x3)] [] w := by
  intro n
  induction n with
  | zero =>
    intro x2 w q h
    cases h
  | succ n ih =>
    intro x2 w q h ke
    rw [J7_fill_031fb_L1] at h
    refine Z_iload_n hC (dk d_J7_fill_031fb 5 rfl) 6 rfl rfl rfl ?_
    refine Z_iload_n hC (dk d_J7_fill_031fb 6 rfl) 7 rfl rfl rfl ?_
    refine Z_icmp_ge hC (dk d_J7_fill_031fb 7 rfl) 10 20 rfl (by decide) (fun c => ?_) (fun c => ?_)
    · have h := it_t h c
      obtain rfl := Option.some.inj h
      refine Z_wk [false, false, false, false] [none, none, none, none] rfl ?_
      exact ke
    · have h := it_f h c
      refine Z_aload_n hC (dk d_J7_fill_031fb 8 rfl) 11 rfl rfl rfl ?_
      refine Z_iload_n hC (dk d_J7_fill_031fb 9 rfl) 12 rfl rfl rfl ?_
      refine Z_iload_n hC (dk d_J7_fill_031fb 10 rfl) 13 rfl rfl rfl ?_
      obtain ⟨g1, h⟩ := gd_some h
      refine Z_bastore hC hm h10 hk g1 (dk d_J7_fill_031fb 11 rfl) 14 rfl ?_
      refine Z_iinc hC (dk d_J7_fill_031fb 12 rfl) 17 rfl rfl rfl [some (vr g i), some (vi x1), some (vi (x2 + (1 : Int32))), some (vi x3)] rfl ?_
      refine Z_goto hC (dk d_J7_fill_031fb 13 rfl) 5 (by decide) ?_
      refine Z_wk [true, true, true, true] [some (vr g i), some (vi x1), some (vi (x2 + (1 : Int32))), some (vi x3)] rfl ?_
      exact ih (x2 + (1 : Int32)) (sA w g i (upd (gA w g i) x2.toNatClampNeg (vp_nar .byte x1))) _ h ke
noncomputable def f_J7_fill_031fb (N : Nat) (g i : Nat) (a1 : Int32) (w : Wd) : Option (Wd) :=
  (J7_fill_031fb_L1 N g i a1 (Int32.ofNat (arr g).2) N (0 : Int32) w).bind (fun q2 =>
    some q2)
set_option maxRecDepth 20000 in
set_option maxHeartbeats 4000000 in
theorem s_J7_fill_031fb (G : GT) (l : Launch) (N : Nat) (g i : Nat) (hm : (g, i) ∈ gis) (h10 : ¬ g < 10) (hk : (arr g).1 = 1) (a1 : Int32) (w : Wd) (q : Wd) (h : f_J7_fill_031fb N g i a1 w = some q) : Sp G l yJ7_fill_031fb cw_J7_fill_031fb 0 [vr g i, vi a1] w none q := by
  refine Sp_of (own := RJ7) [some (vr g i), some (vi a1), none, none] (by decide) rfl rfl (Nat.le_of_ble_eq_true rfl) ?_
  intro x hG hl hC hr hQ _ _
  subst hG
  subst hl
  unfold f_J7_fill_031fb at h
  refine Z_iconst (v := 0) hC (dk d_J7_fill_031fb 0 rfl) 1 rfl (by decide) ?_
  refine Z_istore_n hC (dk d_J7_fill_031fb 1 rfl) 2 rfl rfl (Nat.le_of_ble_eq_true rfl) [some (vr g i), some (vi a1), some (vi (0 : Int32)), none] rfl ?_
  refine Z_aload_n hC (dk d_J7_fill_031fb 2 rfl) 3 rfl rfl rfl ?_
  refine Z_alen hC hm h10 (by rw [hk]; decide) rfl (dk d_J7_fill_031fb 3 rfl) 4 rfl ?_
  refine Z_istore_n hC (dk d_J7_fill_031fb 4 rfl) 5 rfl rfl (Nat.le_of_ble_eq_true rfl) [some (vr g i), some (vi a1), some (vi (0 : Int32)), some (vi (Int32.ofNat (arr g).2))] rfl ?_
  obtain ⟨q2, hq2, h⟩ := bd_some h
  refine Z_wk [true, true, true, true] [some (vr g i), some (vi a1), some (vi (0 : Int32)), some (vi (Int32.ofNat (arr g).2))] rfl ?_
  refine z_J7_fill_031fb_L1 hC hr N g i hm h10 hk a1 (Int32.ofNat (arr g).2) N (0 : Int32) w q2 hq2 ?_
  obtain rfl := Option.some.inj h
  exact Z_return (st := []) hC hr hQ (dk d_J7_fill_031fb 14 rfl)
def t_X3_renew : List (Nat × Instr × Nat) := [(0, .aload_n 0, 1), (1, .getfield 11, 3), (4, .iload_n 1, 1), (5, .aaload, 1), (6, .bipush 32, 2), (8, .invokestatic 26, 3), (11, .aload_n 0, 1), (12, .getfield 16, 3), (15, .iload_n 1, 1), (16, .iload_n 2, 1), (17, .iastore, 1), (18, .return_, 1)]
set_option maxRecDepth 20000 in
theorem d_X3_renew : ∀ q ∈ t_X3_renew, decode cX3_renew q.1 = .ok q.2 := by decide +kernel
noncomputable def f_X3_renew (N : Nat) (a1 : Int32) (a2 : Int32) (w : Wd) : Option (Wd) :=
  gd (vp_in a1 4) (
  (f_J7_fill_031fb N 14 a1.toNatClampNeg (32 : Int32) w).bind (fun q2 =>
    gd (vp_in a1 4) (
    some (sA q2 15 0 (upd (gA q2 15 0) a1.toNatClampNeg a2)))))
set_option maxRecDepth 20000 in
set_option maxHeartbeats 4000000 in
theorem s_X3_renew (G : GT) (l : Launch) (N : Nat) (a1 : Int32) (a2 : Int32) (w : Wd) (q : Wd) (h : f_X3_renew N a1 a2 w = some q) : Sp G l yX3_renew cw_X3_renew 1 [vr 2 0, vi a1, vi a2] w none q := by
  refine Sp_of (own := RX3) [some (vr 2 0), some (vi a1), some (vi a2)] (by decide) rfl rfl (Nat.le_of_ble_eq_true rfl) ?_
  intro x hG hl hC hr hQ _ _
  subst hG
  subst hl
  unfold f_X3_renew at h
  refine Z_aload_n hC (dk d_X3_renew 0 rfl) 1 rfl rfl rfl ?_
  refine G_X3_11 hC m_2 (dk d_X3_renew 1 rfl) 4 rfl ?_
  refine Z_iload_n hC (dk d_X3_renew 2 rfl) 5 rfl rfl rfl ?_
  obtain ⟨g1, h⟩ := gd_some h
  refine Z_aaload hC m_13 (by decide) (by decide) g1 (dk d_X3_renew 3 rfl) 6 rfl ?_
  refine Z_bipush (v := 32) hC (dk d_X3_renew 4 rfl) 8 rfl (by decide) ?_
  obtain ⟨q2, hq2, h⟩ := bd_some h
  refine K_X3_26 [vr 14 a1.toNatClampNeg, vi (32 : Int32)] hC (s_J7_fill_031fb (xG x) (xl x) N 14 a1.toNatClampNeg (m_14 (vp_lt g1)) (by decide) rfl (32 : Int32) w q2 hq2) (Nat.le_of_ble_eq_true rfl) rfl rfl rfl (Nat.le_of_ble_eq_true rfl) (dk d_X3_renew 5 rfl) 11 rfl ?_
  refine Z_aload_n hC (dk d_X3_renew 6 rfl) 12 rfl rfl rfl ?_
  refine G_X3_16 hC m_2 (dk d_X3_renew 7 rfl) 15 rfl ?_
  refine Z_iload_n hC (dk d_X3_renew 8 rfl) 16 rfl rfl rfl ?_
  refine Z_iload_n hC (dk d_X3_renew 9 rfl) 17 rfl rfl rfl ?_
  obtain ⟨g3, h⟩ := gd_some h
  refine Z_iastore hC m_15 (by decide) rfl g3 (dk d_X3_renew 10 rfl) 18 rfl ?_
  obtain rfl := Option.some.inj h
  exact Z_return (st := []) hC hr hQ (dk d_X3_renew 11 rfl)
def t_X3_isFigure : List (Nat × Instr × Nat) := [(0, .iload_n 2, 1), (1, .aload_n 0, 1), (2, .getfield 16, 3), (5, .iload_n 1, 1), (6, .iaload, 1), (7, .if_icmp .ge 33, 3), (10, .aload_n 0, 1), (11, .getfield 11, 3), (14, .iload_n 1, 1), (15, .aaload, 1), (16, .iload_n 2, 1), (17, .baload, 1), (18, .bipush 48, 2), (20, .if_icmp .lt 20, 3), (23, .aload_n 0, 1), (24, .getfield 11, 3), (27, .iload_n 1, 1), (28, .aaload, 1), (29, .iload_n 2, 1), (30, .baload, 1), (31, .bipush 57, 2), (33, .if_icmp .gt 7, 3), (36, .iconst 1, 1), (37, .goto 4, 3), (40, .iconst 0, 1), (41, .ireturn, 1)]
set_option maxRecDepth 20000 in
theorem d_X3_isFigure : ∀ q ∈ t_X3_isFigure, decode cX3_isFigure q.1 = .ok q.2 := by decide +kernel
noncomputable def f_X3_isFigure (N : Nat) (a1 : Int32) (a2 : Int32) (w : Wd) : Option (Int32 × Wd) :=
  gd (vp_in a1 4) (
  if (gA w 15 0 a1.toNatClampNeg) ≤ a2 then
    some ((0 : Int32), w)
  else
    gd (vp_in a1 4) (
    gd (vp_in a2 60) (
    if (gA w 14 a1.toNatClampNeg a2.toNatClampNeg) < (48 : Int32) then
      some ((0 : Int32), w)
    else
      gd (vp_in a1 4) (
      gd (vp_in a2 60) (
      if (57 : Int32) < (gA w 14 a1.toNatClampNeg a2.toNatClampNeg) then
        some ((0 : Int32), w)
      else
        some ((1 : Int32), w))))))
set_option maxRecDepth 20000 in
set_option maxHeartbeats 4000000 in
theorem s_X3_isFigure (G : GT) (l : Launch) (N : Nat) (a1 : Int32) (a2 : Int32) (w : Wd) (q : Int32 × Wd) (h : f_X3_isFigure N a1 a2 w = some q) : Sp G l yX3_isFigure cw_X3_isFigure 0 [vr 2 0, vi a1, vi a2] w (some (vi q.1)) q.2 := by
  refine Sp_of (own := RX3) [some (vr 2 0), some (vi a1), some (vi a2)] (by decide) rfl rfl (Nat.le_of_ble_eq_true rfl) ?_
  intro x hG hl hC hr hQ _ _
  subst hG
  subst hl
  unfold f_X3_isFigure at h
  refine Z_iload_n hC (dk d_X3_isFigure 0 rfl) 1 rfl rfl rfl ?_
  refine Z_aload_n hC (dk d_X3_isFigure 1 rfl) 2 rfl rfl rfl ?_
  refine G_X3_16 hC m_2 (dk d_X3_isFigure 2 rfl) 5 rfl ?_
  refine Z_iload_n hC (dk d_X3_isFigure 3 rfl) 6 rfl rfl rfl ?_
  obtain ⟨g1, h⟩ := gd_some h
  refine Z_iaload hC m_15 (by decide) rfl g1 (dk d_X3_isFigure 4 rfl) 7 rfl ?_
  refine Z_icmp_ge hC (dk d_X3_isFigure 5 rfl) 10 40 rfl (by decide) (fun c => ?_) (fun c => ?_)
  · have h := it_t h c
    refine Z_iconst (v := 0) hC (dk d_X3_isFigure 24 rfl) 41 rfl (by decide) ?_
    obtain rfl := Option.some.inj h
    exact Z_zreturn (st := []) hC hr rfl hQ (dk d_X3_isFigure 25 rfl)
  · have h := it_f h c
    refine Z_aload_n hC (dk d_X3_isFigure 6 rfl) 11 rfl rfl rfl ?_
    refine G_X3_11 hC m_2 (dk d_X3_isFigure 7 rfl) 14 rfl ?_
    refine Z_iload_n hC (dk d_X3_isFigure 8 rfl) 15 rfl rfl rfl ?_
    obtain ⟨g2, h⟩ := gd_some h
    refine Z_aaload hC m_13 (by decide) (by decide) g2 (dk d_X3_isFigure 9 rfl) 16 rfl ?_
    refine Z_iload_n hC (dk d_X3_isFigure 10 rfl) 17 rfl rfl rfl ?_
    obtain ⟨g3, h⟩ := gd_some h
    refine Z_baload hC (m_14 (vp_lt g2)) (by decide) rfl g3 (dk d_X3_isFigure 11 rfl) 18 rfl ?_
    refine Z_bipush (v := 48) hC (dk d_X3_isFigure 12 rfl) 20 rfl (by decide) ?_
    refine Z_icmp_lt hC (dk d_X3_isFigure 13 rfl) 23 40 rfl (by decide) (fun c => ?_) (fun c => ?_)
    · have h := it_t h c
      refine Z_iconst (v := 0) hC (dk d_X3_isFigure 24 rfl) 41 rfl (by decide) ?_
      obtain rfl := Option.some.inj h
      exact Z_zreturn (st := []) hC hr rfl hQ (dk d_X3_isFigure 25 rfl)
    · have h := it_f h c
      refine Z_aload_n hC (dk d_X3_isFigure 14 rfl) 24 rfl rfl rfl ?_
      refine G_X3_11 hC m_2 (dk d_X3_isFigure 15 rfl) 27 rfl ?_
      refine Z_iload_n hC (dk d_X3_isFigure 16 rfl) 28 rfl rfl rfl ?_
      obtain ⟨g4, h⟩ := gd_some h
      refine Z_aaload hC m_13 (by decide) (by decide) g4 (dk d_X3_isFigure 17 rfl) 29 rfl ?_
      refine Z_iload_n hC (dk d_X3_isFigure 18 rfl) 30 rfl rfl rfl ?_
      obtain ⟨g5, h⟩ := gd_some h
      refine Z_baload hC (m_14 (vp_lt g4)) (by decide) rfl g5 (dk d_X3_isFigure 19 rfl) 31 rfl ?_
      refine Z_bipush (v := 57) hC (dk d_X3_isFigure 20 rfl) 33 rfl (by decide) ?_
      refine Z_icmp_gt hC (dk d_X3_isFigure 21 rfl) 36 40 rfl (by decide) (fun c => ?_) (fun c => ?_)
      · have h := it_t h c
        refine Z_iconst (v := 0) hC (dk d_X3_isFigure 24 rfl) 41 rfl (by decide) ?_
        obtain rfl := Option.some.inj h
        exact Z_zreturn (st := []) hC hr rfl hQ (dk d_X3_isFigure 25 rfl)
      · have h := it_f h c
        refine Z_iconst (v := 1) hC (dk d_X3_isFigure 22 rfl) 37 rfl (by decide) ?_
        refine Z_goto hC (dk d_X3_isFigure 23 rfl) 41 (by decide) ?_
        obtain rfl := Option.some.inj h
        exact Z_zreturn (st := []) hC hr rfl hQ (dk d_X3_isFigure 25 rfl)
def t_X3_firstFault : List (Nat × Instr × Nat) := [(0, .iconst 0, 1), (1, .istore_n 2, 1), (2, .iconst 0, 1), (3, .istore_n 3, 1), (4, .iload_n 3, 1), (5, .aload_n 0, 1), (6, .getfield 16, 3), (9, .iload_n 1, 1), (10, .iaload, 1), (11, .if_icmp .ge 85, 3), (14, .aload_n 0, 1), (15, .getfield 11, 3), (18, .iload_n 1, 1), (19, .aaload, 1), (20, .iload_n 3, 1), (21, .baload, 1), (22, .bipush 32, 2), (24, .if_icmp .ne 9, 3), (27, .iinc 3 1, 3), (30, .goto (-26), 3), (33, .iload_n 2, 1), (34, .bipush 6, 2), (36, .if_icmp .eq 19, 3), (39, .aload_n 0, 1), (40, .getfield 11, 3), (43, .iload_n 1, 1), (44, .aaload, 1), (45, .iload_n 3, 1), (46, .baload, 1), (47, .invokestatic 29, 3), (50, .bipush (-9), 2), (52, .if_icmp .ne 5, 3), (55, .iload_n 3, 1), (56, .ireturn, 1), (57, .aload_n 0, 1), (58, .iload_n 1, 1), (59, .iload_n 3, 1), (60, .iconst 1, 1), (61, .iadd, 1), (62, .invokevirtual 33, 3), (65, .ifCond .ne 7, 3), (68, .iload_n 3, 1), (69, .iconst 1, 1), (70, .iadd, 1), (71, .ireturn, 1), (72, .aload_n 0, 1), (73, .iload_n 1, 1), (74, .iload_n 3, 1), (75, .iconst 2, 1), (76, .iadd, 1), (77, .invokevirtual 33, 3), (80, .ifCond .ne 7, 3), (83, .iload_n 3, 1), (84, .iconst 2, 1), (85, .iadd, 1), (86, .ireturn, 1), (87, .iinc 2 1, 3), (90, .iinc 3 3, 3), (93, .goto (-89), 3), (96, .bipush (-9), 2), (98, .ireturn, 1)]
set_option maxRecDepth 20000 in
theorem d_X3_firstFault : ∀ q ∈ t_X3_firstFault, decode cX3_firstFault q.1 = .ok q.2 := by decide +kernel
noncomputable def X3_firstFault_L1 (N : Nat) (x1 : Int32) : Nat → Int32 → Int32 → Wd → Option ((Int32 × Wd) ⊕ (Wd))
  | 0, _, _, _ => none
  | n + 1, x2, x3, w =>
  gd (vp_in x1 4) (
  if (gA w 15 0 x1.toNatClampNeg) ≤ x3 then
    some (.inr w)
  else
    gd (vp_in x1 4) (
    gd (vp_in x3 60) (
    if (gA w 14 x1.toNatClampNeg x3.toNatClampNeg) = (32 : Int32) then
      X3_firstFault_L1 N x1 n x2 (x3 + (1 : Int32)) w
    else
      if x2 = (6 : Int32) then
        some (.inl (x3, w))
      else
        gd (vp_in x1 4) (
        gd (vp_in x3 60) (
        (f_X4_kindOf N (gA w 14 x1.toNatClampNeg x3.toNatClampNeg) w).bind (fun q6 =>
          if q6.1 = (-9 : Int32) then
            some (.inl (x3, q6.2))
          else
            (f_X3_isFigure N x1 (x3 + (1 : Int32)) q6.2).bind (fun q7 =>
              if q7.1 = 0 then
                some (.inl (x3 + (1 : Int32), q7.2))
              else
                (f_X3_isFigure N x1 (x3 + (2 : Int32)) q7.2).bind (fun q8 =>
                  if q8.1 = 0 then
                    some (.inl (x3 + (2 : Int32), q8.2))
                  else
                    X3_firstFault_L1 N x1 n (x2 + (1 : Int32)) (x3 + (3 : Int32)) q8.2))))))))
set_option maxRecDepth 20000 in
set_option maxHeartbeats 4000000 in
theorem z_X3_firstFault_L1 {x : CX} (hC : Cx x RX3 cX3_firstFault 4 1) (hr : (xM x).sig.returnType = (some .int)) (N : Nat) (x1 : Int32) : ∀ (n : Nat) (x2 : Int32) (x3 : Int32) (w : Wd) (q : ((Int32 × Wd) ⊕ (Wd))), X3_firstFault_L1 N x1 n x2 x3 w = some q → (∀ r : Int32 × Wd, q = .inl r → Rt x (some (vi r.1)) r.2) → (∀ o : Wd, q = .inr o → Z x 96 [none, none, none, none] [] o) → Z x 4 [some (vr 2 0), some (vi x1), some (vi x2), some (vi x3)] [] w := by
  intro n
  induction n with
  | zero =>
    intro x2 x3 w q h
    cases h
  | succ n ih =>
    intro x2 x3 w q h kr ke
    rw [X3_firstFault_L1] at h
    refine Z_iload_n hC (dk d_X3_firstFault 4 rfl) 5 rfl rfl rfl ?_
    refine Z_aload_n hC (dk d_X3_firstFault 5 rfl) 6 rfl rfl rfl ?_
    refine G_X3_16 hC m_2 (dk d_X3_firstFault 6 rfl) 9 rfl ?_
    refine Z_iload_n hC (dk d_X3_firstFault 7 rfl) 10 rfl rfl rfl ?_
    obtain ⟨g1, h⟩ := gd_some h
    refine Z_iaload hC m_15 (by decide) rfl g1 (dk d_X3_firstFault 8 rfl) 11 rfl ?_
    refine Z_icmp_ge hC (dk d_X3_firstFault 9 rfl) 14 96 rfl (by decide) (fun c => ?_) (fun c => ?_)
    · have h := it_t h c
      obtain rfl := Option.some.inj h
      refine Z_wk [false, false, false, false] [none, none, none, none] rfl ?_
      exact ke _ rfl
    · have h := it_f h c
      refine Z_aload_n hC (dk d_X3_firstFault 10 rfl) 15 rfl rfl rfl ?_
      refine G_X3_11 hC m_2 (dk d_X3_firstFault 11 rfl) 18 rfl ?_
      refine Z_iload_n hC (dk d_X3_firstFault 12 rfl) 19 rfl rfl rfl ?_
      obtain ⟨g2, h⟩ := gd_some h
      refine Z_aaload hC m_13 (by decide) (by decide) g2 (dk d_X3_firstFault 13 rfl) 20 rfl ?_
      refine Z_iload_n hC (dk d_X3_firstFault 14 rfl) 21 rfl rfl rfl ?_
      obtain ⟨g3, h⟩ := gd_some h
      refine Z_baload hC (m_14 (vp_lt g2)) (by decide) rfl g3 (dk d_X3_firstFault 15 rfl) 22 rfl ?_
      refine Z_bipush (v := 32) hC (dk d_X3_firstFault 16 rfl) 24 rfl (by decide) ?_
      refine Z_icmp_ne hC (dk d_X3_firstFault 17 rfl) 27 33 rfl (by decide) (fun c => ?_) (fun c => ?_)
      · have h := it_f h c
        refine Z_iload_n hC (dk d_X3_firstFault 20 rfl) 34 rfl rfl rfl ?_
        refine Z_bipush (v := 6) hC (dk d_X3_firstFault 21 rfl) 36 rfl (by decide) ?_
        refine Z_icmp_eq hC (dk d_X3_firstFault 22 rfl) 39 55 rfl (by decide) (fun c => ?_) (fun c => ?_)
        · have h := it_t h c
          refine Z_iload_n hC (dk d_X3_firstFault 32 rfl) 56 rfl rfl rfl ?_
          obtain rfl := Option.some.inj h
          exact Z_ireturn (st := []) hC hr (kr _ rfl) (dk d_X3_firstFault 33 rfl)
        · have h := it_f h c
          refine Z_aload_n hC (dk d_X3_firstFault 23 rfl) 40 rfl rfl rfl ?_
          refine G_X3_11 hC m_2 (dk d_X3_firstFault 24 rfl) 43 rfl ?_
          refine Z_iload_n hC (dk d_X3_firstFault 25 rfl) 44 rfl rfl rfl ?_
          obtain ⟨g4, h⟩ := gd_some h
          refine Z_aaload hC m_13 (by decide) (by decide) g4 (dk d_X3_firstFault 26 rfl) 45 rfl ?_
          refine Z_iload_n hC (dk d_X3_firstFault 27 rfl) 46 rfl rfl rfl ?_
          obtain ⟨g5, h⟩ := gd_some h
          refine Z_baload hC (m_14 (vp_lt g4)) (by decide) rfl g5 (dk d_X3_firstFault 28 rfl) 47 rfl ?_
          obtain ⟨q6, hq6, h⟩ := bd_some h
          refine K_X3_29 [vi (gA w 14 x1.toNatClampNeg x3.toNatClampNeg)] hC (s_X4_kindOf (xG x) (xl x) N (gA w 14 x1.toNatClampNeg x3.toNatClampNeg) w q6 hq6) (Nat.le_of_ble_eq_true rfl) rfl rfl rfl (Nat.le_of_ble_eq_true rfl) (dk d_X3_firstFault 29 rfl) 50 rfl ?_
          refine Z_bipush (v := -9) hC (dk d_X3_firstFault 30 rfl) 52 rfl (by decide) ?_
          refine Z_icmp_ne hC (dk d_X3_firstFault 31 rfl) 55 57 rfl (by decide) (fun c => ?_) (fun c => ?_)
          · have h := it_f h c
            refine Z_aload_n hC (dk d_X3_firstFault 34 rfl) 58 rfl rfl rfl ?_
            refine Z_iload_n hC (dk d_X3_firstFault 35 rfl) 59 rfl rfl rfl ?_
            refine Z_iload_n hC (dk d_X3_firstFault 36 rfl) 60 rfl rfl rfl ?_
            refine Z_iconst (v := 1) hC (dk d_X3_firstFault 37 rfl) 61 rfl (by decide) ?_
            refine Z_iadd hC (dk d_X3_firstFault 38 rfl) 62 rfl ?_
            obtain ⟨q7, hq7, h⟩ := bd_some h
            refine K_X3_33 [vi x1, vi (x3 + (1 : Int32))] hC m_2 (s_X3_isFigure (xG x) (xl x) N x1 (x3 + (1 : Int32)) q6.2 q7 hq7) (Nat.le_of_ble_eq_true rfl) rfl rfl rfl (Nat.le_of_ble_eq_true rfl) (dk d_X3_firstFault 39 rfl) 65 rfl ?_
            refine Z_if_ne hC (dk d_X3_firstFault 40 rfl) 68 72 rfl (by decide) (fun c => ?_) (fun c => ?_)
            · have h := it_f h c
              refine Z_aload_n hC (dk d_X3_firstFault 45 rfl) 73 rfl rfl rfl ?_
              refine Z_iload_n hC (dk d_X3_firstFault 46 rfl) 74 rfl rfl rfl ?_
              refine Z_iload_n hC (dk d_X3_firstFault 47 rfl) 75 rfl rfl rfl ?_
              refine Z_iconst (v := 2) hC (dk d_X3_firstFault 48 rfl) 76 rfl (by decide) ?_
              refine Z_iadd hC (dk d_X3_firstFault 49 rfl) 77 rfl ?_
              obtain ⟨q8, hq8, h⟩ := bd_some h
              refine K_X3_33 [vi x1, vi (x3 + (2 : Int32))] hC m_2 (s_X3_isFigure (xG x) (xl x) N x1 (x3 + (2 : Int32)) q7.2 q8 hq8) (Nat.le_of_ble_eq_true rfl) rfl rfl rfl (Nat.le_of_ble_eq_true rfl) (dk d_X3_firstFault 50 rfl) 80 rfl ?_
              refine Z_if_ne hC (dk d_X3_firstFault 51 rfl) 83 87 rfl (by decide) (fun c => ?_) (fun c => ?_)
              · have h := it_f h c
                refine Z_iinc hC (dk d_X3_firstFault 56 rfl) 90 rfl rfl rfl [some (vr 2 0), some (vi x1), some (vi (x2 + (1 : Int32))), some (vi x3)] rfl ?_
                refine Z_iinc hC (dk d_X3_firstFault 57 rfl) 93 rfl rfl rfl [some (vr 2 0), some (vi x1), some (vi (x2 + (1 : Int32))), some (vi (x3 + (3 : Int32)))] rfl ?_
                refine Z_goto hC (dk d_X3_firstFault 58 rfl) 4 (by decide) ?_
                refine Z_wk [true, true, true, true] [some (vr 2 0), some (vi x1), some (vi (x2 + (1 : Int32))), some (vi (x3 + (3 : Int32)))] rfl ?_
                exact ih (x2 + (1 : Int32)) (x3 + (3 : Int32)) q8.2 _ h kr ke
              · have h := it_t h c
                refine Z_iload_n hC (dk d_X3_firstFault 52 rfl) 84 rfl rfl rfl ?_
                refine Z_iconst (v := 2) hC (dk d_X3_firstFault 53 rfl) 85 rfl (by decide) ?_
                refine Z_iadd hC (dk d_X3_firstFault 54 rfl) 86 rfl ?_
                obtain rfl := Option.some.inj h
                exact Z_ireturn (st := []) hC hr (kr _ rfl) (dk d_X3_firstFault 55 rfl)
            · have h := it_t h c
              refine Z_iload_n hC (dk d_X3_firstFault 41 rfl) 69 rfl rfl rfl ?_
              refine Z_iconst (v := 1) hC (dk d_X3_firstFault 42 rfl) 70 rfl (by decide) ?_
              refine Z_iadd hC (dk d_X3_firstFault 43 rfl) 71 rfl ?_
              obtain rfl := Option.some.inj h
              exact Z_ireturn (st := []) hC hr (kr _ rfl) (dk d_X3_firstFault 44 rfl)
          · have h := it_t h c
            refine Z_iload_n hC (dk d_X3_firstFault 32 rfl) 56 rfl rfl rfl ?_
            obtain rfl := Option.some.inj h
            exact Z_ireturn (st := []) hC hr (kr _ rfl) (dk d_X3_firstFault 33 rfl)
      · have h := it_t h c
        refine Z_iinc hC (dk d_X3_firstFault 18 rfl) 30 rfl rfl rfl [some (vr 2 0), some (vi x1), some (vi x2), some (vi (x3 + (1 : Int32)))] rfl ?_
        refine Z_goto hC (dk d_X3_firstFault 19 rfl) 4 (by decide) ?_
        refine Z_wk [true, true, true, true] [some (vr 2 0), some (vi x1), some (vi x2), some (vi (x3 + (1 : Int32)))] rfl ?_
        exact ih x2 (x3 + (1 : Int32)) w _ h kr ke
noncomputable def f_X3_firstFault (N : Nat) (a1 : Int32) (w : Wd) : Option (Int32 × Wd) :=
  (X3_firstFault_L1 N a1 N (0 : Int32) (0 : Int32) w).bind (Sum.elim some (fun q9 =>
    some ((-9 : Int32), q9)))
set_option maxRecDepth 20000 in
set_option maxHeartbeats 4000000 in
theorem s_X3_firstFault (G : GT) (l : Launch) (N : Nat) (a1 : Int32) (w : Wd) (q : Int32 × Wd) (h : f_X3_firstFault N a1 w = some q) : Sp G l yX3_firstFault cw_X3_firstFault 1 [vr 2 0, vi a1] w (some (vi q.1)) q.2 := by
  refine Sp_of (own := RX3) [some (vr 2 0), some (vi a1), none, none] (by decide) rfl rfl (Nat.le_of_ble_eq_true rfl) ?_
  intro x hG hl hC hr hQ _ _
  subst hG
  subst hl
  unfold f_X3_firstFault at h
  refine Z_iconst (v := 0) hC (dk d_X3_firstFault 0 rfl) 1 rfl (by decide) ?_
  refine Z_istore_n hC (dk d_X3_firstFault 1 rfl) 2 rfl rfl (Nat.le_of_ble_eq_true rfl) [some (vr 2 0), some (vi a1), some (vi (0 : Int32)), none] rfl ?_
  refine Z_iconst (v := 0) hC (dk d_X3_firstFault 2 rfl) 3 rfl (by decide) ?_
  refine Z_istore_n hC (dk d_X3_firstFault 3 rfl) 4 rfl rfl (Nat.le_of_ble_eq_true rfl) [some (vr 2 0), some (vi a1), some (vi (0 : Int32)), some (vi (0 : Int32))] rfl ?_
  obtain ⟨q9, hq9, h⟩ := bd_some h
  refine Z_wk [true, true, true, true] [some (vr 2 0), some (vi a1), some (vi (0 : Int32)), some (vi (0 : Int32))] rfl ?_
  refine z_X3_firstFault_L1 hC hr N a1 N (0 : Int32) (0 : Int32) w q9 hq9 (fun r e => ?_) (fun o e => ?_)
  · subst e
    obtain rfl := Option.some.inj h
    exact hQ
  · subst e
    obtain ⟨q9, rfl⟩ : ∃ z, z = o := ⟨_, rfl⟩
    refine Z_bipush (v := -9) hC (dk d_X3_firstFault 59 rfl) 98 rfl (by decide) ?_
    obtain rfl := Option.some.inj h
    exact Z_ireturn (st := []) hC hr hQ (dk d_X3_firstFault 60 rfl)
def t_X3_mixAll : List (Nat × Instr × Nat) := [(0, .lload_n 1, 1), (1, .lstore_n 3, 1), (2, .iconst 0, 1), (3, .istore 5, 2), (5, .iload 5, 2), (7, .iconst 4, 1), (8, .if_icmp .ge 63, 3), (11, .ldc2_w 37, 3), (14, .lload_n 3, 1), (15, .lmul, 1), (16, .aload_n 0, 1), (17, .getfield 16, 3), (20, .iload 5, 2), (22, .iaload, 1), (23, .i2l, 1), (24, .ladd, 1), (25, .lstore_n 3, 1), (26, .iconst 0, 1), (27, .istore 6, 2), (29, .iload 6, 2), (31, .aload_n 0, 1), (32, .getfield 16, 3), (35, .iload 5, 2), (37, .iaload, 1), (38, .if_icmp .ge 27, 3), (41, .ldc2_w 37, 3), (44, .lload_n 3, 1), (45, .lmul, 1), (46, .aload_n 0, 1), (47, .getfield 11, 3), (50, .iload 5, 2), (52, .aaload, 1), (53, .iload 6, 2), (55, .baload, 1), (56, .i2l, 1), (57, .ladd, 1), (58, .lstore_n 3, 1), (59, .iinc 6 1, 3), (62, .goto (-33), 3), (65, .iinc 5 1, 3), (68, .goto (-63), 3), (71, .lload_n 3, 1), (72, .lreturn, 1)]
set_option maxRecDepth 20000 in
theorem d_X3_mixAll : ∀ q ∈ t_X3_mixAll, decode cX3_mixAll q.1 = .ok q.2 := by decide +kernel
noncomputable def X3_mixAll_L2 (N : Nat) (x5 : Int32) : Nat → Int64 → Int32 → Wd → Option (Int64 × Wd)
  | 0, _, _, _ => none
  | n + 1, x3, x6, w =>
  gd (vp_in x5 4) (
  if (gA w 15 0 x5.toNatClampNeg) ≤ x6 then
    some (x3, w)
  else
    gd (vp_in x5 4) (
    gd (vp_in x6 60) (
    X3_mixAll_L2 N x5 n (((31 : Int64) * x3) + ((gA w 14 x5.toNatClampNeg x6.toNatClampNeg).toInt64)) (x6 + (1 : Int32)) w)))
set_option maxRecDepth 20000 in
set_option maxHeartbeats 4000000 in
theorem z_X3_mixAll_L2 {x : CX} (hC : Cx x RX3 cX3_mixAll 7 0) (hr : (xM x).sig.returnType = (some .long)) (N : Nat) (x5 : Int32) : ∀ (n : Nat) (x3 : Int64) (x6 : Int32) (w : Wd) (q : (Int64 × Wd)), X3_mixAll_L2 N x5 n x3 x6 w = some q → Z x 65 [some (vr 2 0), none, none, some (vl q.1), none, some (vi x5), none] [] q.2 → Z x 29 [some (vr 2 0), none, none, some (vl x3), none, some (vi x5), some (vi x6)] [] w := by
  intro n
  induction n with
  | zero =>
    intro x3 x6 w q h
    cases h
  | succ n ih =>
    intro x3 x6 w q h ke
    rw [X3_mixAll_L2] at h
    refine Z_iload hC (dk d_X3_mixAll 19 rfl) 31 rfl rfl ?_
    refine Z_aload_n hC (dk d_X3_mixAll 20 rfl) 32 rfl rfl rfl ?_
    refine G_X3_16 hC m_2 (dk d_X3_mixAll 21 rfl) 35 rfl ?_
    refine Z_iload hC (dk d_X3_mixAll 22 rfl) 37 rfl rfl ?_
    obtain ⟨g2, h⟩ := gd_some h
    refine Z_iaload hC m_15 (by decide) rfl g2 (dk d_X3_mixAll 23 rfl) 38 rfl ?_
    refine Z_icmp_ge hC (dk d_X3_mixAll 24 rfl) 41 65 rfl (by decide) (fun c => ?_) (fun c => ?_)
    · have h := it_t h c
      obtain rfl := Option.some.inj h
      refine Z_wk [true, false, false, true, false, true, false] [some (vr 2 0), none, none, some (vl x3), none, some (vi x5), none] rfl ?_
      exact ke
    · have h := it_f h c
      refine Z_ldc2 hC kc_X3_37 (dk d_X3_mixAll 25 rfl) 44 rfl ?_
      refine Z_lload_n hC (dk d_X3_mixAll 26 rfl) 45 rfl rfl rfl ?_
      refine Z_lmul hC (dk d_X3_mixAll 27 rfl) 46 rfl ?_
      refine Z_aload_n hC (dk d_X3_mixAll 28 rfl) 47 rfl rfl rfl ?_
      refine G_X3_11 hC m_2 (dk d_X3_mixAll 29 rfl) 50 rfl ?_
      refine Z_iload hC (dk d_X3_mixAll 30 rfl) 52 rfl rfl ?_
      obtain ⟨g3, h⟩ := gd_some h
      refine Z_aaload hC m_13 (by decide) (by decide) g3 (dk d_X3_mixAll 31 rfl) 53 rfl ?_
      refine Z_iload hC (dk d_X3_mixAll 32 rfl) 55 rfl rfl ?_
      obtain ⟨g4, h⟩ := gd_some h
      refine Z_baload hC (m_14 (vp_lt g3)) (by decide) rfl g4 (dk d_X3_mixAll 33 rfl) 56 rfl ?_
      refine Z_i2l hC (dk d_X3_mixAll 34 rfl) 57 rfl ?_
      refine Z_ladd hC (dk d_X3_mixAll 35 rfl) 58 rfl ?_
      refine Z_lstore_n hC (dk d_X3_mixAll 36 rfl) 59 rfl rfl (Nat.le_of_ble_eq_true rfl) [some (vr 2 0), none, none, some (vl (((31 : Int64) * x3) + ((gA w 14 x5.toNatClampNeg x6.toNatClampNeg).toInt64))), none, some (vi x5), some (vi x6)] rfl ?_
      refine Z_iinc hC (dk d_X3_mixAll 37 rfl) 62 rfl rfl rfl [some (vr 2 0), none, none, some (vl (((31 : Int64) * x3) + ((gA w 14 x5.toNatClampNeg x6.toNatClampNeg).toInt64))), none, some (vi x5), some (vi (x6 + (1 : Int32)))] rfl ?_
      refine Z_goto hC (dk d_X3_mixAll 38 rfl) 29 (by decide) ?_
      refine Z_wk [true, false, false, true, false, true, true] [some (vr 2 0), none, none, some (vl (((31 : Int64) * x3) + ((gA w 14 x5.toNatClampNeg x6.toNatClampNeg).toInt64))), none, some (vi x5), some (vi (x6 + (1 : Int32)))] rfl ?_
      exact ih (((31 : Int64) * x3) + ((gA w 14 x5.toNatClampNeg x6.toNatClampNeg).toInt64)) (x6 + (1 : Int32)) w _ h ke
noncomputable def X3_mixAll_L1 (N : Nat) : Nat → Int64 → Int32 → Wd → Option (Int64 × Wd)
  | 0, _, _, _ => none
  | n + 1, x3, x5, w =>
  if (4 : Int32) ≤ x5 then
    some (x3, w)
  else
    gd (vp_in x5 4) (
    (X3_mixAll_L2 N x5 N (((31 : Int64) * x3) + ((gA w 15 0 x5.toNatClampNeg).toInt64)) (0 : Int32) w).bind (fun q5 =>
      X3_mixAll_L1 N n q5.1 (x5 + (1 : Int32)) q5.2))
set_option maxRecDepth 20000 in
set_option maxHeartbeats 4000000 in
theorem z_X3_mixAll_L1 {x : CX} (hC : Cx x RX3 cX3_mixAll 7 0) (hr : (xM x).sig.returnType = (some .long)) (N : Nat) : ∀ (n : Nat) (x3 : Int64) (x5 : Int32) (w : Wd) (q : (Int64 × Wd)), X3_mixAll_L1 N n x3 x5 w = some q → Z x 71 [none, none, none, some (vl q.1), none, none, none] [] q.2 → Z x 5 [some (vr 2 0), none, none, some (vl x3), none, some (vi x5), none] [] w := by
  intro n
  induction n with
  | zero =>
    intro x3 x5 w q h
    cases h
  | succ n ih =>
    intro x3 x5 w q h ke
    rw [X3_mixAll_L1] at h
    refine Z_iload hC (dk d_X3_mixAll 4 rfl) 7 rfl rfl ?_
    refine Z_iconst (v := 4) hC (dk d_X3_mixAll 5 rfl) 8 rfl (by decide) ?_
    refine Z_icmp_ge hC (dk d_X3_mixAll 6 rfl) 11 71 rfl (by decide) (fun c => ?_) (fun c => ?_)
    · have h := it_t h c
      obtain rfl := Option.some.inj h
      refine Z_wk [false, false, false, true, false, false, false] [none, none, none, some (vl x3), none, none, none] rfl ?_
      exact ke
    · have h := it_f h c
      refine Z_ldc2 hC kc_X3_37 (dk d_X3_mixAll 7 rfl) 14 rfl ?_
      refine Z_lload_n hC (dk d_X3_mixAll 8 rfl) 15 rfl rfl rfl ?_
      refine Z_lmul hC (dk d_X3_mixAll 9 rfl) 16 rfl ?_
      refine Z_aload_n hC (dk d_X3_mixAll 10 rfl) 17 rfl rfl rfl ?_
      refine G_X3_16 hC m_2 (dk d_X3_mixAll 11 rfl) 20 rfl ?_
      refine Z_iload hC (dk d_X3_mixAll 12 rfl) 22 rfl rfl ?_
      obtain ⟨g1, h⟩ := gd_some h
      refine Z_iaload hC m_15 (by decide) rfl g1 (dk d_X3_mixAll 13 rfl) 23 rfl ?_
      refine Z_i2l hC (dk d_X3_mixAll 14 rfl) 24 rfl ?_
      refine Z_ladd hC (dk d_X3_mixAll 15 rfl) 25 rfl ?_
      refine Z_lstore_n hC (dk d_X3_mixAll 16 rfl) 26 rfl rfl (Nat.le_of_ble_eq_true rfl) [some (vr 2 0), none, none, some (vl (((31 : Int64) * x3) + ((gA w 15 0 x5.toNatClampNeg).toInt64))), none, some (vi x5), none] rfl ?_
      refine Z_iconst (v := 0) hC (dk d_X3_mixAll 17 rfl) 27 rfl (by decide) ?_
      refine Z_istore hC (dk d_X3_mixAll 18 rfl) 29 rfl (Nat.le_of_ble_eq_true rfl) [some (vr 2 0), none, none, some (vl (((31 : Int64) * x3) + ((gA w 15 0 x5.toNatClampNeg).toInt64))), none, some (vi x5), some (vi (0 : Int32))] rfl ?_
      obtain ⟨q5, hq5, h⟩ := bd_some h
      refine Z_wk [true, false, false, true, false, true, true] [some (vr 2 0), none, none, some (vl (((31 : Int64) * x3) + ((gA w 15 0 x5.toNatClampNeg).toInt64))), none, some (vi x5), some (vi (0 : Int32))] rfl ?_
      refine z_X3_mixAll_L2 hC hr N x5 N (((31 : Int64) * x3) + ((gA w 15 0 x5.toNatClampNeg).toInt64)) (0 : Int32) w q5 hq5 ?_
      refine Z_iinc hC (dk d_X3_mixAll 39 rfl) 68 rfl rfl rfl [some (vr 2 0), none, none, some (vl q5.1), none, some (vi (x5 + (1 : Int32))), none] rfl ?_
      refine Z_goto hC (dk d_X3_mixAll 40 rfl) 5 (by decide) ?_
      refine Z_wk [true, false, false, true, false, true, false] [some (vr 2 0), none, none, some (vl q5.1), none, some (vi (x5 + (1 : Int32))), none] rfl ?_
      exact ih q5.1 (x5 + (1 : Int32)) q5.2 _ h ke
noncomputable def f_X3_mixAll (N : Nat) (a1 : Int64) (w : Wd) : Option (Int64 × Wd) :=
  (X3_mixAll_L1 N N a1 (0 : Int32) w).bind (fun q6 =>
    some (q6.1, q6.2))
set_option maxRecDepth 20000 in
set_option maxHeartbeats 4000000 in
theorem s_X3_mixAll (G : GT) (l : Launch) (N : Nat) (a1 : Int64) (w : Wd) (q : Int64 × Wd) (h : f_X3_mixAll N a1 w = some q) : Sp G l yX3_mixAll cw_X3_mixAll 0 [vr 2 0, vl a1] w (some (vl q.1)) q.2 := by
  refine Sp_of (own := RX3) [some (vr 2 0), some (vl a1), none, none, none, none, none] (by decide) rfl rfl (Nat.le_of_ble_eq_true rfl) ?_
  intro x hG hl hC hr hQ _ _
  subst hG
  subst hl
  unfold f_X3_mixAll at h
  refine Z_lload_n hC (dk d_X3_mixAll 0 rfl) 1 rfl rfl rfl ?_
  refine Z_lstore_n hC (dk d_X3_mixAll 1 rfl) 2 rfl rfl (Nat.le_of_ble_eq_true rfl) [some (vr 2 0), some (vl a1), none, some (vl a1), none, none, none] rfl ?_
  refine Z_iconst (v := 0) hC (dk d_X3_mixAll 2 rfl) 3 rfl (by decide) ?_
  refine Z_istore hC (dk d_X3_mixAll 3 rfl) 5 rfl (Nat.le_of_ble_eq_true rfl) [some (vr 2 0), some (vl a1), none, some (vl a1), none, some (vi (0 : Int32)), none] rfl ?_
  obtain ⟨q6, hq6, h⟩ := bd_some h
  refine Z_wk [true, false, false, true, false, true, false] [some (vr 2 0), none, none, some (vl a1), none, some (vi (0 : Int32)), none] rfl ?_
  refine z_X3_mixAll_L1 hC hr N N a1 (0 : Int32) w q6 hq6 ?_
  refine Z_lload_n hC (dk d_X3_mixAll 41 rfl) 72 rfl rfl rfl ?_
  obtain rfl := Option.some.inj h
  exact Z_lreturn (st := []) hC hr hQ (dk d_X3_mixAll 42 rfl)
def t_X4_isRow : List (Nat × Instr × Nat) := [(0, .iload_n 0, 1), (1, .ifCond .lt 13, 3), (4, .iload_n 0, 1), (5, .bipush 6, 2), (7, .if_icmp .ge 7, 3), (10, .iconst 1, 1), (11, .goto 4, 3), (14, .iconst 0, 1), (15, .ireturn, 1)]
set_option maxRecDepth 20000 in
theorem d_X4_isRow : ∀ q ∈ t_X4_isRow, decode cX4_isRow q.1 = .ok q.2 := by decide +kernel
noncomputable def f_X4_isRow (N : Nat) (a1 : Int32) (w : Wd) : Option (Int32 × Wd) :=
  if a1 < 0 then
    some ((0 : Int32), w)
  else
    if (6 : Int32) ≤ a1 then
      some ((0 : Int32), w)
    else
      some ((1 : Int32), w)
set_option maxRecDepth 20000 in
set_option maxHeartbeats 4000000 in
theorem s_X4_isRow (G : GT) (l : Launch) (N : Nat) (a1 : Int32) (w : Wd) (q : Int32 × Wd) (h : f_X4_isRow N a1 w = some q) : Sp G l yX4_isRow cw_X4_isRow 0 [vi a1] w (some (vi q.1)) q.2 := by
  refine Sp_of (own := RX4) [some (vi a1)] (by decide) rfl rfl (Nat.le_of_ble_eq_true rfl) ?_
  intro x hG hl hC hr hQ _ _
  subst hG
  subst hl
  unfold f_X4_isRow at h
  refine Z_iload_n hC (dk d_X4_isRow 0 rfl) 1 rfl rfl rfl ?_
  refine Z_if_lt hC (dk d_X4_isRow 1 rfl) 4 14 rfl (by decide) (fun c => ?_) (fun c => ?_)
  · have h := it_t h c
    refine Z_iconst (v := 0) hC (dk d_X4_isRow 7 rfl) 15 rfl (by decide) ?_
    obtain rfl := Option.some.inj h
    exact Z_zreturn (st := []) hC hr rfl hQ (dk d_X4_isRow 8 rfl)
  · have h := it_f h c
    refine Z_iload_n hC (dk d_X4_isRow 2 rfl) 5 rfl rfl rfl ?_
    refine Z_bipush (v := 6) hC (dk d_X4_isRow 3 rfl) 7 rfl (by decide) ?_
    refine Z_icmp_ge hC (dk d_X4_isRow 4 rfl) 10 14 rfl (by decide) (fun c => ?_) (fun c => ?_)
    · have h := it_t h c
      refine Z_iconst (v := 0) hC (dk d_X4_isRow 7 rfl) 15 rfl (by decide) ?_
      obtain rfl := Option.some.inj h
      exact Z_zreturn (st := []) hC hr rfl hQ (dk d_X4_isRow 8 rfl)
    · have h := it_f h c
      refine Z_iconst (v := 1) hC (dk d_X4_isRow 5 rfl) 11 rfl (by decide) ?_
      refine Z_goto hC (dk d_X4_isRow 6 rfl) 15 (by decide) ?_
      obtain rfl := Option.some.inj h
      exact Z_zreturn (st := []) hC hr rfl hQ (dk d_X4_isRow 8 rfl)
def t_X4_refuse : List (Nat × Instr × Nat) := [(0, .aload_n 0, 1), (1, .iload_n 1, 1), (2, .putfield 298, 3), (5, .aload_n 0, 1), (6, .getfield 53, 3), (9, .iload_n 1, 1), (10, .dup2, 1), (11, .iaload, 1), (12, .iconst 1, 1), (13, .iadd, 1), (14, .iastore, 1), (15, .bipush (-3), 2), (17, .ireturn, 1)]
set_option maxRecDepth 20000 in
theorem d_X4_refuse : ∀ q ∈ t_X4_refuse, decode cX4_refuse q.1 = .ok q.2 := by decide +kernel
noncomputable def f_X4_refuse (N : Nat) (a1 : Int32) (w : Wd) : Option (Int32 × Wd) :=
  gd (vp_in a1 6) (
  gd (vp_in a1 6) (
  some ((-3 : Int32), sA (sI w 415 0 a1) 25 0 (upd (gA (sI w 415 0 a1) 25 0) a1.toNatClampNeg ((gA (sI w 415 0 a1) 25 0 a1.toNatClampNeg) + (1 : Int32))))))
set_option maxRecDepth 20000 in
set_option maxHeartbeats 4000000 in
theorem s_X4_refuse (G : GT) (l : Launch) (N : Nat) (a1 : Int32) (w : Wd) (q : Int32 × Wd) (h : f_X4_refuse N a1 w = some q) : Sp G l yX4_refuse cw_X4_refuse 0 [vr 0 0, vi a1] w (some (vi q.1)) q.2 := by
  refine Sp_of (own := RX4) [some (vr 0 0), some (vi a1)] (by decide) rfl rfl (Nat.le_of_ble_eq_true rfl) ?_
  intro x hG hl hC hr hQ _ _
  subst hG
  subst hl
  unfold f_X4_refuse at h
  refine Z_aload_n hC (dk d_X4_refuse 0 rfl) 1 rfl rfl rfl ?_
  refine Z_iload_n hC (dk d_X4_refuse 1 rfl) 2 rfl rfl rfl ?_
  refine P_X4_298 hC m_0 (dk d_X4_refuse 2 rfl) 5 rfl ?_
  refine Z_aload_n hC (dk d_X4_refuse 3 rfl) 6 rfl rfl rfl ?_
  refine G_X4_53 hC m_0 (dk d_X4_refuse 4 rfl) 9 rfl ?_
  refine Z_iload_n hC (dk d_X4_refuse 5 rfl) 10 rfl rfl rfl ?_
  refine Z_dup2 hC (dk d_X4_refuse 6 rfl) 11 rfl rfl rfl ?_
  obtain ⟨g1, h⟩ := gd_some h
  refine Z_iaload hC m_25 (by decide) rfl g1 (dk d_X4_refuse 7 rfl) 12 rfl ?_
  refine Z_iconst (v := 1) hC (dk d_X4_refuse 8 rfl) 13 rfl (by decide) ?_
  refine Z_iadd hC (dk d_X4_refuse 9 rfl) 14 rfl ?_
  obtain ⟨g2, h⟩ := gd_some h
  refine Z_iastore hC m_25 (by decide) rfl g2 (dk d_X4_refuse 10 rfl) 15 rfl ?_
  refine Z_bipush (v := -3) hC (dk d_X4_refuse 11 rfl) 17 rfl (by decide) ?_
  obtain rfl := Option.some.inj h
  exact Z_ireturn (st := []) hC hr hQ (dk d_X4_refuse 12 rfl)
def t_X4_row : List (Nat × Instr × Nat) := [(0, .iload_n 1, 1), (1, .invokestatic 70, 3), (4, .ifCond .eq 9, 3), (7, .iload_n 2, 1), (8, .bipush 40, 2), (10, .if_icmp .le 5, 3), (13, .iconst (-1), 1), (14, .ireturn, 1), (15, .iload_n 2, 1), (16, .ifCond .ge 9, 3), (19, .aload_n 0, 1), (20, .iconst 5, 1), (21, .invokevirtual 74, 3), (24, .ireturn, 1), (25, .aload_n 0, 1), (26, .getfield 10, 3), (29, .iload_n 1, 1), (30, .iload_n 2, 1), (31, .invokevirtual 78, 3), (34, .iload_n 2, 1), (35, .ireturn, 1)]
set_option maxRecDepth 20000 in
theorem d_X4_row : ∀ q ∈ t_X4_row, decode cX4_row q.1 = .ok q.2 := by decide +kernel
noncomputable def f_X4_row (N : Nat) (a1 : Int32) (a2 : Int32) (w : Wd) : Option (Int32 × Wd) :=
  (f_X4_isRow N a1 w).bind (fun q1 =>
    if q1.1 = 0 then
      some ((-1 : Int32), q1.2)
    else
      if a2 ≤ (40 : Int32) then
        if 0 ≤ a2 then
          (f_X1_renew N a1 a2 q1.2).bind (fun q2 =>
            some (a2, q2))
        else
          (f_X4_refuse N (5 : Int32) q1.2).bind (fun q3 =>
            some (q3.1, q3.2))
      else
        some ((-1 : Int32), q1.2))
set_option maxRecDepth 20000 in
set_option maxHeartbeats 4000000 in
theorem s_X4_row (G : GT) (l : Launch) (N : Nat) (a1 : Int32) (a2 : Int32) (w : Wd) (q : Int32 × Wd) (h : f_X4_row N a1 a2 w = some q) : Sp G l yX4_row cw_X4_row 2 [vr 0 0, vi a1, vi a2] w (some (vi q.1)) q.2 := by
  refine Sp_of (own := RX4) [some (vr 0 0), some (vi a1), some (vi a2)] (by decide) rfl rfl (Nat.le_of_ble_eq_true rfl) ?_
  intro x hG hl hC hr hQ _ _
  subst hG
  subst hl
  unfold f_X4_row at h
  refine Z_iload_n hC (dk d_X4_row 0 rfl) 1 rfl rfl rfl ?_
  obtain ⟨q1, hq1, h⟩ := bd_some h
  refine K_X4_70 [vi a1] hC (s_X4_isRow (xG x) (xl x) N a1 w q1 hq1) (Nat.le_of_ble_eq_true rfl) rfl rfl rfl (Nat.le_of_ble_eq_true rfl) (dk d_X4_row 1 rfl) 4 rfl ?_
  refine Z_if_eq hC (dk d_X4_row 2 rfl) 7 13 rfl (by decide) (fun c => ?_) (fun c => ?_)
  · have h := it_t h c
    refine Z_iconst (v := -1) hC (dk d_X4_row 6 rfl) 14 rfl (by decide) ?_
    obtain rfl := Option.some.inj h
    exact Z_ireturn (st := []) hC hr hQ (dk d_X4_row 7 rfl)
  · have h := it_f h c
    refine Z_iload_n hC (dk d_X4_row 3 rfl) 8 rfl rfl rfl ?_
    refine Z_bipush (v := 40) hC (dk d_X4_row 4 rfl) 10 rfl (by decide) ?_
    refine Z_icmp_le hC (dk d_X4_row 5 rfl) 13 15 rfl (by decide) (fun c => ?_) (fun c => ?_)
    · have h := it_t h c
      refine Z_iload_n hC (dk d_X4_row 8 rfl) 16 rfl rfl rfl ?_
      refine Z_if_ge hC (dk d_X4_row 9 rfl) 19 25 rfl (by decide) (fun c => ?_) (fun c => ?_)
      · have h := it_t h c
        refine Z_aload_n hC (dk d_X4_row 14 rfl) 26 rfl rfl rfl ?_
        refine G_X4_10 hC m_0 (dk d_X4_row 15 rfl) 29 rfl ?_
        refine Z_iload_n hC (dk d_X4_row 16 rfl) 30 rfl rfl rfl ?_
        refine Z_iload_n hC (dk d_X4_row 17 rfl) 31 rfl rfl rfl ?_
        obtain ⟨q2, hq2, h⟩ := bd_some h
        refine K_X4_78 [vi a1, vi a2] hC m_1 (s_X1_renew (xG x) (xl x) N a1 a2 q1.2 q2 hq2) (Nat.le_of_ble_eq_true rfl) rfl rfl rfl (Nat.le_of_ble_eq_true rfl) (dk d_X4_row 18 rfl) 34 rfl ?_
        refine Z_iload_n hC (dk d_X4_row 19 rfl) 35 rfl rfl rfl ?_
        obtain rfl := Option.some.inj h
        exact Z_ireturn (st := []) hC hr hQ (dk d_X4_row 20 rfl)
      · have h := it_f h c
        refine Z_aload_n hC (dk d_X4_row 10 rfl) 20 rfl rfl rfl ?_
        refine Z_iconst (v := 5) hC (dk d_X4_row 11 rfl) 21 rfl (by decide) ?_
        obtain ⟨q3, hq3, h⟩ := bd_some h
        refine K_X4_74 [vi (5 : Int32)] hC m_0 (s_X4_refuse (xG x) (xl x) N (5 : Int32) q1.2 q3 hq3) (Nat.le_of_ble_eq_true rfl) rfl rfl rfl (Nat.le_of_ble_eq_true rfl) (dk d_X4_row 12 rfl) 24 rfl ?_
        obtain rfl := Option.some.inj h
        exact Z_ireturn (st := []) hC hr hQ (dk d_X4_row 13 rfl)
    · have h := it_f h c
      refine Z_iconst (v := -1) hC (dk d_X4_row 6 rfl) 14 rfl (by decide) ?_
      obtain rfl := Option.some.inj h
      exact Z_ireturn (st := []) hC hr hQ (dk d_X4_row 7 rfl)
def t_X4_lay : List (Nat × Instr × Nat) := [(0, .iload_n 1, 1), (1, .invokestatic 70, 3), (4, .ifCond .ne 5, 3), (7, .iconst (-1), 1), (8, .ireturn, 1), (9, .aload_n 0, 1), (10, .getfield 10, 3), (13, .iload_n 1, 1), (14, .iload_n 2, 1), (15, .invokevirtual 82, 3), (18, .istore 4, 2), (20, .iload 4, 2), (22, .ifCond .eq 10, 3), (25, .aload_n 0, 1), (26, .iload 4, 2), (28, .invokevirtual 74, 3), (31, .ireturn, 1), (32, .aload_n 0, 1), (33, .aload_n 0, 1), (34, .getfield 10, 3), (37, .getfield 86, 3), (40, .iload_n 1, 1), (41, .aaload, 1), (42, .iload_n 2, 1), (43, .iaload, 1), (44, .putfield 90, 3), (47, .aload_n 0, 1), (48, .getfield 10, 3), (51, .getfield 86, 3), (54, .iload_n 1, 1), (55, .aaload, 1), (56, .iload_n 2, 1), (57, .iload_n 3, 1), (58, .iastore, 1), (59, .iconst 1, 1), (60, .ireturn, 1)]
set_option maxRecDepth 20000 in
theorem d_X4_lay : ∀ q ∈ t_X4_lay, decode cX4_lay q.1 = .ok q.2 := by decide +kernel
noncomputable def f_X4_lay (N : Nat) (a1 : Int32) (a2 : Int32) (a3 : Int32) (w : Wd) : Option (Int32 × Wd) :=
  (f_X4_isRow N a1 w).bind (fun q1 =>
    if q1.1 = 0 then
      some ((-1 : Int32), q1.2)
    else
      (f_X1_missesPlace N a1 a2 q1.2).bind (fun q2 =>
        if q2.1 = 0 then
          gd (vp_in a1 6) (
          gd (vp_in a2 40) (
          gd (vp_in a1 6) (
          gd (vp_in a2 40) (
          some ((1 : Int32), sA (sI q2.2 412 0 (gA q2.2 11 a1.toNatClampNeg a2.toNatClampNeg)) 11 a1.toNatClampNeg (upd (gA (sI q2.2 412 0 (gA q2.2 11 a1.toNatClampNeg a2.toNatClampNeg)) 11 a1.toNatClampNeg) a2.toNatClampNeg a3))))))
        else
          (f_X4_refuse N q2.1 q2.2).bind (fun q7 =>
            some (q7.1, q7.2))))
set_option maxRecDepth 20000 in
set_option maxHeartbeats 4000000 in
theorem s_X4_lay (G : GT) (l : Launch) (N : Nat) (a1 : Int32) (a2 : Int32) (a3 : Int32) (w : Wd) (q : Int32 × Wd) (h : f_X4_lay N a1 a2 a3 w = some q) : Sp G l yX4_lay cw_X4_lay 2 [vr 0 0, vi a1, vi a2, vi a3] w (some (vi q.1)) q.2 := by
  refine Sp_of (own := RX4) [some (vr 0 0), some (vi a1), some (vi a2), some (vi a3), none] (by decide) rfl rfl (Nat.le_of_ble_eq_true rfl) ?_
  intro x hG hl hC hr hQ _ _
  subst hG
  subst hl
  unfold f_X4_lay at h
  refine Z_iload_n hC (dk d_X4_lay 0 rfl) 1 rfl rfl rfl ?_
  obtain ⟨q1, hq1, h⟩ := bd_some h
  refine K_X4_70 [vi a1] hC (s_X4_isRow (xG x) (xl x) N a1 w q1 hq1) (Nat.le_of_ble_eq_true rfl) rfl rfl rfl (Nat.le_of_ble_eq_true rfl) (dk d_X4_lay 1 rfl) 4 rfl ?_
  refine Z_if_ne hC (dk d_X4_lay 2 rfl) 7 9 rfl (by decide) (fun c => ?_) (fun c => ?_)
  · have h := it_f h c
    refine Z_aload_n hC (dk d_X4_lay 5 rfl) 10 rfl rfl rfl ?_
    refine G_X4_10 hC m_0 (dk d_X4_lay 6 rfl) 13 rfl ?_
    refine Z_iload_n hC (dk d_X4_lay 7 rfl) 14 rfl rfl rfl ?_
    refine Z_iload_n hC (dk d_X4_lay 8 rfl) 15 rfl rfl rfl ?_
    obtain ⟨q2, hq2, h⟩ := bd_some h
    refine K_X4_82 [vi a1, vi a2] hC m_1 (s_X1_missesPlace (xG x) (xl x) N a1 a2 q1.2 q2 hq2) (Nat.le_of_ble_eq_true rfl) rfl rfl rfl (Nat.le_of_ble_eq_true rfl) (dk d_X4_lay 9 rfl) 18 rfl ?_
    refine Z_istore hC (dk d_X4_lay 10 rfl) 20 rfl (Nat.le_of_ble_eq_true rfl) [some (vr 0 0), some (vi a1), some (vi a2), some (vi a3), some (vi q2.1)] rfl ?_
    refine Z_iload hC (dk d_X4_lay 11 rfl) 22 rfl rfl ?_
    refine Z_if_eq hC (dk d_X4_lay 12 rfl) 25 32 rfl (by decide) (fun c => ?_) (fun c => ?_)
    · have h := it_t h c
      refine Z_aload_n hC (dk d_X4_lay 17 rfl) 33 rfl rfl rfl ?_
      refine Z_aload_n hC (dk d_X4_lay 18 rfl) 34 rfl rfl rfl ?_
      refine G_X4_10 hC m_0 (dk d_X4_lay 19 rfl) 37 rfl ?_
      refine G_X4_86 hC m_1 (dk d_X4_lay 20 rfl) 40 rfl ?_
      refine Z_iload_n hC (dk d_X4_lay 21 rfl) 41 rfl rfl rfl ?_
      obtain ⟨g3, h⟩ := gd_some h
      refine Z_aaload hC m_10 (by decide) (by decide) g3 (dk d_X4_lay 22 rfl) 42 rfl ?_
      refine Z_iload_n hC (dk d_X4_lay 23 rfl) 43 rfl rfl rfl ?_
      obtain ⟨g4, h⟩ := gd_some h
      refine Z_iaload hC (m_11 (vp_lt g3)) (by decide) rfl g4 (dk d_X4_lay 24 rfl) 44 rfl ?_
      refine P_X4_90 hC m_0 (dk d_X4_lay 25 rfl) 47 rfl ?_
      refine Z_aload_n hC (dk d_X4_lay 26 rfl) 48 rfl rfl rfl ?_
      refine G_X4_10 hC m_0 (dk d_X4_lay 27 rfl) 51 rfl ?_
      refine G_X4_86 hC m_1 (dk d_X4_lay 28 rfl) 54 rfl ?_
      refine Z_iload_n hC (dk d_X4_lay 29 rfl) 55 rfl rfl rfl ?_
      obtain ⟨g5, h⟩ := gd_some h
      refine Z_aaload hC m_10 (by decide) (by decide) g5 (dk d_X4_lay 30 rfl) 56 rfl ?_
      refine Z_iload_n hC (dk d_X4_lay 31 rfl) 57 rfl rfl rfl ?_
      refine Z_iload_n hC (dk d_X4_lay 32 rfl) 58 rfl rfl rfl ?_
      obtain ⟨g6, h⟩ := gd_some h
      refine Z_iastore hC (m_11 (vp_lt g5)) (by decide) rfl g6 (dk d_X4_lay 33 rfl) 59 rfl ?_
      refine Z_iconst (v := 1) hC (dk d_X4_lay 34 rfl) 60 rfl (by decide) ?_
      obtain rfl := Option.some.inj h
      exact Z_ireturn (st := []) hC hr hQ (dk d_X4_lay 35 rfl)
    · have h := it_f h c
      refine Z_aload_n hC (dk d_X4_lay 13 rfl) 26 rfl rfl rfl ?_
      refine Z_iload hC (dk d_X4_lay 14 rfl) 28 rfl rfl ?_
      obtain ⟨q7, hq7, h⟩ := bd_some h
      refine K_X4_74 [vi q2.1] hC m_0 (s_X4_refuse (xG x) (xl x) N q2.1 q2.2 q7 hq7) (Nat.le_of_ble_eq_true rfl) rfl rfl rfl (Nat.le_of_ble_eq_true rfl) (dk d_X4_lay 15 rfl) 31 rfl ?_
      obtain rfl := Option.some.inj h
      exact Z_ireturn (st := []) hC hr hQ (dk d_X4_lay 16 rfl)
  · have h := it_t h c
    refine Z_iconst (v := -1) hC (dk d_X4_lay 3 rfl) 8 rfl (by decide) ?_
    obtain rfl := Option.some.inj h
    exact Z_ireturn (st := []) hC hr hQ (dk d_X4_lay 4 rfl)
def t_X4_at : List (Nat × Instr × Nat) := [(0, .iload_n 1, 1), (1, .invokestatic 70, 3), (4, .ifCond .ne 5, 3), (7, .iconst (-1), 1), (8, .ireturn, 1), (9, .aload_n 0, 1), (10, .getfield 10, 3), (13, .iload_n 1, 1), (14, .iload_n 2, 1), (15, .invokevirtual 82, 3), (18, .istore_n 3, 1), (19, .iload_n 3, 1), (20, .ifCond .eq 9, 3), (23, .aload_n 0, 1), (24, .iload_n 3, 1), (25, .invokevirtual 74, 3), (28, .ireturn, 1), (29, .aload_n 0, 1), (30, .aload_n 0, 1), (31, .getfield 10, 3), (34, .getfield 86, 3), (37, .iload_n 1, 1), (38, .aaload, 1), (39, .iload_n 2, 1), (40, .iaload, 1), (41, .putfield 90, 3), (44, .iconst 1, 1), (45, .ireturn, 1)]
set_option maxRecDepth 20000 in
theorem d_X4_at : ∀ q ∈ t_X4_at, decode cX4_at q.1 = .ok q.2 := by decide +kernel
noncomputable def f_X4_at (N : Nat) (a1 : Int32) (a2 : Int32) (w : Wd) : Option (Int32 × Wd) :=
  (f_X4_isRow N a1 w).bind (fun q1 =>
    if q1.1 = 0 then
      some ((-1 : Int32), q1.2)
    else
      (f_X1_missesPlace N a1 a2 q1.2).bind (fun q2 =>
        if q2.1 = 0 then
          gd (vp_in a1 6) (
          gd (vp_in a2 40) (
          some ((1 : Int32), sI q2.2 412 0 (gA q2.2 11 a1.toNatClampNeg a2.toNatClampNeg))))
        else
          (f_X4_refuse N q2.1 q2.2).bind (fun q5 =>
            some (q5.1, q5.2))))
set_option maxRecDepth 20000 in
set_option maxHeartbeats 4000000 in
theorem s_X4_at (G : GT) (l : Launch) (N : Nat) (a1 : Int32) (a2 : Int32) (w : Wd) (q : Int32 × Wd) (h : f_X4_at N a1 a2 w = some q) : Sp G l yX4_at cw_X4_at 2 [vr 0 0, vi a1, vi a2] w (some (vi q.1)) q.2 := by
  refine Sp_of (own := RX4) [some (vr 0 0), some (vi a1), some (vi a2), none] (by decide) rfl rfl (Nat.le_of_ble_eq_true rfl) ?_
  intro x hG hl hC hr hQ _ _
  subst hG
  subst hl
  unfold f_X4_at at h
  refine Z_iload_n hC (dk d_X4_at 0 rfl) 1 rfl rfl rfl ?_
  obtain ⟨q1, hq1, h⟩ := bd_some h
  refine K_X4_70 [vi a1] hC (s_X4_isRow (xG x) (xl x) N a1 w q1 hq1) (Nat.le_of_ble_eq_true rfl) rfl rfl rfl (Nat.le_of_ble_eq_true rfl) (dk d_X4_at 1 rfl) 4 rfl ?_
  refine Z_if_ne hC (dk d_X4_at 2 rfl) 7 9 rfl (by decide) (fun c => ?_) (fun c => ?_)
  · have h := it_f h c
    refine Z_aload_n hC (dk d_X4_at 5 rfl) 10 rfl rfl rfl ?_
    refine G_X4_10 hC m_0 (dk d_X4_at 6 rfl) 13 rfl ?_
    refine Z_iload_n hC (dk d_X4_at 7 rfl) 14 rfl rfl rfl ?_
    refine Z_iload_n hC (dk d_X4_at 8 rfl) 15 rfl rfl rfl ?_
    obtain ⟨q2, hq2, h⟩ := bd_some h
    refine K_X4_82 [vi a1, vi a2] hC m_1 (s_X1_missesPlace (xG x) (xl x) N a1 a2 q1.2 q2 hq2) (Nat.le_of_ble_eq_true rfl) rfl rfl rfl (Nat.le_of_ble_eq_true rfl) (dk d_X4_at 9 rfl) 18 rfl ?_
    refine Z_istore_n hC (dk d_X4_at 10 rfl) 19 rfl rfl (Nat.le_of_ble_eq_true rfl) [some (vr 0 0), some (vi a1), some (vi a2), some (vi q2.1)] rfl ?_
    refine Z_iload_n hC (dk d_X4_at 11 rfl) 20 rfl rfl rfl ?_
    refine Z_if_eq hC (dk d_X4_at 12 rfl) 23 29 rfl (by decide) (fun c => ?_) (fun c => ?_)
    · have h := it_t h c
      refine Z_aload_n hC (dk d_X4_at 17 rfl) 30 rfl rfl rfl ?_
      refine Z_aload_n hC (dk d_X4_at 18 rfl) 31 rfl rfl rfl ?_
      refine G_X4_10 hC m_0 (dk d_X4_at 19 rfl) 34 rfl ?_
      refine G_X4_86 hC m_1 (dk d_X4_at 20 rfl) 37 rfl ?_
      refine Z_iload_n hC (dk d_X4_at 21 rfl) 38 rfl rfl rfl ?_
      obtain ⟨g3, h⟩ := gd_some h
      refine Z_aaload hC m_10 (by decide) (by decide) g3 (dk d_X4_at 22 rfl) 39 rfl ?_
      refine Z_iload_n hC (dk d_X4_at 23 rfl) 40 rfl rfl rfl ?_
      obtain ⟨g4, h⟩ := gd_some h
      refine Z_iaload hC (m_11 (vp_lt g3)) (by decide) rfl g4 (dk d_X4_at 24 rfl) 41 rfl ?_
      refine P_X4_90 hC m_0 (dk d_X4_at 25 rfl) 44 rfl ?_
      refine Z_iconst (v := 1) hC (dk d_X4_at 26 rfl) 45 rfl (by decide) ?_
      obtain rfl := Option.some.inj h
      exact Z_ireturn (st := []) hC hr hQ (dk d_X4_at 27 rfl)
    · have h := it_f h c
      refine Z_aload_n hC (dk d_X4_at 13 rfl) 24 rfl rfl rfl ?_
      refine Z_iload_n hC (dk d_X4_at 14 rfl) 25 rfl rfl rfl ?_
      obtain ⟨q5, hq5, h⟩ := bd_some h
      refine K_X4_74 [vi q2.1] hC m_0 (s_X4_refuse (xG x) (xl x) N q2.1 q2.2 q5 hq5) (Nat.le_of_ble_eq_true rfl) rfl rfl rfl (Nat.le_of_ble_eq_true rfl) (dk d_X4_at 15 rfl) 28 rfl ?_
      obtain rfl := Option.some.inj h
      exact Z_ireturn (st := []) hC hr hQ (dk d_X4_at 16 rfl)
  · have h := it_t h c
    refine Z_iconst (v := -1) hC (dk d_X4_at 3 rfl) 8 rfl (by decide) ?_
    obtain rfl := Option.some.inj h
    exact Z_ireturn (st := []) hC hr hQ (dk d_X4_at 4 rfl)
def t_X4_tear : List (Nat × Instr × Nat) := [(0, .iload_n 1, 1), (1, .invokestatic 70, 3), (4, .ifCond .ne 5, 3), (7, .iconst (-1), 1), (8, .ireturn, 1), (9, .aload_n 0, 1), (10, .getfield 10, 3), (13, .iload_n 1, 1), (14, .invokevirtual 94, 3), (17, .ifCond .eq 9, 3), (20, .aload_n 0, 1), (21, .iconst 1, 1), (22, .invokevirtual 74, 3), (25, .ireturn, 1), (26, .aload_n 0, 1), (27, .getfield 10, 3), (30, .getfield 97, 3), (33, .iload_n 1, 1), (34, .iconst (-1), 1), (35, .iastore, 1), (36, .iconst 1, 1), (37, .ireturn, 1)]
set_option maxRecDepth 20000 in
theorem d_X4_tear : ∀ q ∈ t_X4_tear, decode cX4_tear q.1 = .ok q.2 := by decide +kernel
noncomputable def f_X4_tear (N : Nat) (a1 : Int32) (w : Wd) : Option (Int32 × Wd) :=
  (f_X4_isRow N a1 w).bind (fun q1 =>
    if q1.1 = 0 then
      some ((-1 : Int32), q1.2)
    else
      (f_X1_isMissing N a1 q1.2).bind (fun q2 =>
        if q2.1 = 0 then
          gd (vp_in a1 6) (
          some ((1 : Int32), sA q2.2 12 0 (upd (gA q2.2 12 0) a1.toNatClampNeg (-1 : Int32))))
        else
          (f_X4_refuse N (1 : Int32) q2.2).bind (fun q4 =>
            some (q4.1, q4.2))))
set_option maxRecDepth 20000 in
set_option maxHeartbeats 4000000 in
theorem s_X4_tear (G : GT) (l : Launch) (N : Nat) (a1 : Int32) (w : Wd) (q : Int32 × Wd) (h : f_X4_tear N a1 w = some q) : Sp G l yX4_tear cw_X4_tear 1 [vr 0 0, vi a1] w (some (vi q.1)) q.2 := by
  refine Sp_of (own := RX4) [some (vr 0 0), some (vi a1)] (by decide) rfl rfl (Nat.le_of_ble_eq_true rfl) ?_
  intro x hG hl hC hr hQ _ _
  subst hG
  subst hl
  unfold f_X4_tear at h
  refine Z_iload_n hC (dk d_X4_tear 0 rfl) 1 rfl rfl rfl ?_
  obtain ⟨q1, hq1, h⟩ := bd_some h
  refine K_X4_70 [vi a1] hC (s_X4_isRow (xG x) (xl x) N a1 w q1 hq1) (Nat.le_of_ble_eq_true rfl) rfl rfl rfl (Nat.le_of_ble_eq_true rfl) (dk d_X4_tear 1 rfl) 4 rfl ?_
  refine Z_if_ne hC (dk d_X4_tear 2 rfl) 7 9 rfl (by decide) (fun c => ?_) (fun c => ?_)
  · have h := it_f h c
    refine Z_aload_n hC (dk d_X4_tear 5 rfl) 10 rfl rfl rfl ?_
    refine G_X4_10 hC m_0 (dk d_X4_tear 6 rfl) 13 rfl ?_
    refine Z_iload_n hC (dk d_X4_tear 7 rfl) 14 rfl rfl rfl ?_
    obtain ⟨q2, hq2, h⟩ := bd_some h
    refine K_X4_94 [vi a1] hC m_1 (s_X1_isMissing (xG x) (xl x) N a1 q1.2 q2 hq2) (Nat.le_of_ble_eq_true rfl) rfl rfl rfl (Nat.le_of_ble_eq_true rfl) (dk d_X4_tear 8 rfl) 17 rfl ?_
    refine Z_if_eq hC (dk d_X4_tear 9 rfl) 20 26 rfl (by decide) (fun c => ?_) (fun c => ?_)
    · have h := it_t h c
      refine Z_aload_n hC (dk d_X4_tear 14 rfl) 27 rfl rfl rfl ?_
      refine G_X4_10 hC m_0 (dk d_X4_tear 15 rfl) 30 rfl ?_
      refine G_X4_97 hC m_1 (dk d_X4_tear 16 rfl) 33 rfl ?_
      refine Z_iload_n hC (dk d_X4_tear 17 rfl) 34 rfl rfl rfl ?_
      refine Z_iconst (v := -1) hC (dk d_X4_tear 18 rfl) 35 rfl (by decide) ?_
      obtain ⟨g3, h⟩ := gd_some h
      refine Z_iastore hC m_12 (by decide) rfl g3 (dk d_X4_tear 19 rfl) 36 rfl ?_
      refine Z_iconst (v := 1) hC (dk d_X4_tear 20 rfl) 37 rfl (by decide) ?_
      obtain rfl := Option.some.inj h
      exact Z_ireturn (st := []) hC hr hQ (dk d_X4_tear 21 rfl)
    · have h := it_f h c
      refine Z_aload_n hC (dk d_X4_tear 10 rfl) 21 rfl rfl rfl ?_
      refine Z_iconst (v := 1) hC (dk d_X4_tear 11 rfl) 22 rfl (by decide) ?_
      obtain ⟨q4, hq4, h⟩ := bd_some h
      refine K_X4_74 [vi (1 : Int32)] hC m_0 (s_X4_refuse (xG x) (xl x) N (1 : Int32) q2.2 q4 hq4) (Nat.le_of_ble_eq_true rfl) rfl rfl rfl (Nat.le_of_ble_eq_true rfl) (dk d_X4_tear 12 rfl) 25 rfl ?_
      obtain rfl := Option.some.inj h
      exact Z_ireturn (st := []) hC hr hQ (dk d_X4_tear 13 rfl)
  · have h := it_t h c
    refine Z_iconst (v := -1) hC (dk d_X4_tear 3 rfl) 8 rfl (by decide) ?_
    obtain rfl := Option.some.inj h
    exact Z_ireturn (st := []) hC hr hQ (dk d_X4_tear 4 rfl)
