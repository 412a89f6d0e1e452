def t_X4_kindOf : List (Nat × Instr × Nat) := [(0, .iconst 0, 1), (1, .istore_n 1, 1), (2, .iload_n 1, 1), (3, .getstatic 327, 3), (6, .arraylength, 1), (7, .if_icmp .ge 20, 3), (10, .getstatic 327, 3), (13, .iload_n 1, 1), (14, .iaload, 1), (15, .iload_n 0, 1), (16, .if_icmp .ne 5, 3), (19, .iload_n 1, 1), (20, .ireturn, 1), (21, .iinc 1 1, 3), (24, .goto (-22), 3), (27, .bipush (-9), 2), (29, .ireturn, 1)]
set_option maxRecDepth 20000 in
theorem d_X4_kindOf : ∀ q ∈ t_X4_kindOf, decode cX4_kindOf q.1 = .ok q.2 := by decide +kernel
noncomputable def X4_kindOf_L1 (N : Nat) (x0 : Int32) : Nat → Int32 → Wd → Option ((Int32 × Wd) ⊕ (Wd))
  | 0, _, _ => none
  | n + 1, x1, w =>
  if (6 : Int32) ≤ x1 then
    some (.inr w)
  else
    gd (vp_in x1 6) (
    if (letN x1.toNatClampNeg) = x0 then
      some (.inl (x1, w))
    else
      X4_kindOf_L1 N x0 n (x1 + (1 : Int32)) w)
set_option maxRecDepth 20000 in
set_option maxHeartbeats 4000000 in
theorem z_X4_kindOf_L1 {x : CX} (hC : Cx x RX4 cX4_kindOf 2 0) (hr : (xM x).sig.returnType = (some .int)) (N : Nat) (x0 : Int32) : ∀ (n : Nat) (x1 : Int32) (w : Wd) (q : ((Int32 × Wd) ⊕ (Wd))), X4_kindOf_L1 N x0 n x1 w = some q → (∀ r : Int32 × Wd, q = .inl r → Rt x (some (vi r.1)) r.2) → (∀ o : Wd, q = .inr o → Z x 27 [none, none] [] o) → Z x 2 [some (vi x0), some (vi x1)] [] w := by
  intro n
  induction n with
  | zero =>
    intro x1 w q h
    cases h
  | succ n ih =>
    intro x1 w q h kr ke
    rw [X4_kindOf_L1] at h
    refine Z_iload_n hC (dk d_X4_kindOf 2 rfl) 3 rfl rfl rfl ?_
    refine Z_getLet hC fk_X4_327 (dk d_X4_kindOf 3 rfl) 6 rfl ?_
    refine Z_lenLet hC (dk d_X4_kindOf 4 rfl) 7 rfl ?_
    refine Z_icmp_ge hC (dk d_X4_kindOf 5 rfl) 10 27 rfl (by decide) (fun c => ?_) (fun c => ?_)
    · have h := it_t h c
      obtain rfl := Option.some.inj h
      refine Z_wk [false, false] [none, none] rfl ?_
      exact ke _ rfl
    · have h := it_f h c
      refine Z_getLet hC fk_X4_327 (dk d_X4_kindOf 6 rfl) 13 rfl ?_
      refine Z_iload_n hC (dk d_X4_kindOf 7 rfl) 14 rfl rfl rfl ?_
      obtain ⟨g1, h⟩ := gd_some h
      refine Z_ldLet hC g1 (dk d_X4_kindOf 8 rfl) 15 rfl ?_
      refine Z_iload_n hC (dk d_X4_kindOf 9 rfl) 16 rfl rfl rfl ?_
      refine Z_icmp_ne hC (dk d_X4_kindOf 10 rfl) 19 21 rfl (by decide) (fun c => ?_) (fun c => ?_)
      · have h := it_f h c
        refine Z_iinc hC (dk d_X4_kindOf 13 rfl) 24 rfl rfl rfl [some (vi x0), some (vi (x1 + (1 : Int32)))] rfl ?_
        refine Z_goto hC (dk d_X4_kindOf 14 rfl) 2 (by decide) ?_
        refine Z_wk [true, true] [some (vi x0), some (vi (x1 + (1 : Int32)))] rfl ?_
        exact ih (x1 + (1 : Int32)) w _ h kr ke
      · have h := it_t h c
        refine Z_iload_n hC (dk d_X4_kindOf 11 rfl) 20 rfl rfl rfl ?_
        obtain rfl := Option.some.inj h
        exact Z_ireturn (st := []) hC hr (kr _ rfl) (dk d_X4_kindOf 12 rfl)
noncomputable def f_X4_kindOf (N : Nat) (a1 : Int32) (w : Wd) : Option (Int32 × Wd) :=
  (X4_kindOf_L1 N a1 N (0 : Int32) w).bind (Sum.elim some (fun q2 =>
    some ((-9 : Int32), q2)))
set_option maxRecDepth 20000 in
set_option maxHeartbeats 4000000 in
theorem s_X4_kindOf (G : GT) (l : Launch) (N : Nat) (a1 : Int32) (w : Wd) (q : Int32 × Wd) (h : f_X4_kindOf N a1 w = some q) : Sp G l yX4_kindOf cw_X4_kindOf 0 [vi a1] w (some (vi q.1)) q.2 := by
  refine Sp_of (own := RX4) [some (vi a1), none] (by decide) rfl rfl (Nat.le_of_ble_eq_true rfl) ?_
  intro x hG hl hC hr hQ _ _
  subst hG
  subst hl
  unfold f_X4_kindOf at h
  refine Z_iconst (v := 0) hC (dk d_X4_kindOf 0 rfl) 1 rfl (by decide) ?_
  refine Z_istore_n hC (dk d_X4_kindOf 1 rfl) 2 rfl rfl (Nat.le_of_ble_eq_true rfl) [some (vi a1), some (vi (0 : Int32))] rfl ?_
  obtain ⟨q2, hq2, h⟩ := bd_some h
  refine Z_wk [true, true] [some (vi a1), some (vi (0 : Int32))] rfl ?_
  refine z_X4_kindOf_L1 hC hr N a1 N (0 : Int32) w q2 hq2 (fun r e => ?_) (fun o e => ?_)
  · subst e
    obtain rfl := Option.some.inj h
    exact hQ
  · subst e
    obtain ⟨q2, rfl⟩ : ∃ z, z = o := ⟨_, rfl⟩
    refine Z_bipush (v := -9) hC (dk d_X4_kindOf 15 rfl) 29 rfl (by decide) ?_
    obtain rfl := Option.some.inj h
    exact Z_ireturn (st := []) hC hr hQ (dk d_X4_kindOf 16 rfl)
def t_X0_settle : List (Nat × Instr × Nat) := [(0, .aload_n 0, 1), (1, .iconst 0, 1), (2, .putfield 28, 3), (5, .aload_n 0, 1), (6, .iconst 0, 1), (7, .putfield 31, 3), (10, .iconst 0, 1), (11, .istore_n 3, 1), (12, .iload_n 3, 1), (13, .iconst 2, 1), (14, .iadd, 1), (15, .iload_n 2, 1), (16, .if_icmp .ge 91, 3), (19, .aload_n 0, 1), (20, .getfield 28, 3), (23, .bipush 6, 2), (25, .if_icmp .ge 82, 3), (28, .aload_n 1, 1), (29, .iload_n 3, 1), (30, .baload, 1), (31, .bipush 32, 2), (33, .if_icmp .ne 9, 3), (36, .iinc 3 1, 3), (39, .goto (-27), 3), (42, .aload_n 0, 1), (43, .getfield 9, 3), (46, .aload_n 0, 1), (47, .getfield 28, 3), (50, .aload_n 1, 1), (51, .iload_n 3, 1), (52, .baload, 1), (53, .invokestatic 34, 3), (56, .iastore, 1), (57, .aload_n 0, 1), (58, .getfield 15, 3), (61, .aload_n 0, 1), (62, .getfield 28, 3), (65, .aload_n 1, 1), (66, .iload_n 3, 1), (67, .iconst 1, 1), (68, .iadd, 1), (69, .baload, 1), (70, .bipush 48, 2), (72, .isub, 1), (73, .iastore, 1), (74, .aload_n 0, 1), (75, .getfield 18, 3), (78, .aload_n 0, 1), (79, .getfield 28, 3), (82, .aload_n 1, 1), (83, .iload_n 3, 1), (84, .iconst 2, 1), (85, .iadd, 1), (86, .baload, 1), (87, .bipush 48, 2), (89, .isub, 1), (90, .iastore, 1), (91, .aload_n 0, 1), (92, .dup, 1), (93, .getfield 28, 3), (96, .iconst 1, 1), (97, .iadd, 1), (98, .putfield 28, 3), (101, .iinc 3 3, 3), (104, .goto (-92), 3), (107, .return_, 1)]
set_option maxRecDepth 20000 in
theorem d_X0_settle : ∀ q ∈ t_X0_settle, decode cX0_settle q.1 = .ok q.2 := by decide +kernel
noncomputable def X0_settle_L1 (N : Nat) (i : Nat) (t : Nat) (x2 : Int32) : Nat → Int32 → Wd → Option (Wd)
  | 0, _, _ => none
  | n + 1, x3, w =>
  if x2 ≤ (x3 + (2 : Int32)) then
    some w
  else
    if (6 : Int32) ≤ (gI w 4 i) then
      some w
    else
      gd (vp_in x3 60) (
      if (gA w 14 t x3.toNatClampNeg) = (32 : Int32) then
        X0_settle_L1 N i t x2 n (x3 + (1 : Int32)) w
      else
        gd (vp_in x3 60) (
        (f_X4_kindOf N (gA w 14 t x3.toNatClampNeg) w).bind (fun q3 =>
          gd (vp_in (gI w 4 i) 6) (
          gd (vp_in (x3 + (1 : Int32)) 60) (
          gd (vp_in (gI (sA q3.2 16 i (upd (gA q3.2 16 i) (gI w 4 i).toNatClampNeg q3.1)) 4 i) 6) (
          gd (vp_in (x3 + (2 : Int32)) 60) (
          gd (vp_in (gI (sA (sA q3.2 16 i (upd (gA q3.2 16 i) (gI w 4 i).toNatClampNeg q3.1)) 17 i (upd (gA (sA q3.2 16 i (upd (gA q3.2 16 i) (gI w 4 i).toNatClampNeg q3.1)) 17 i) (gI (sA q3.2 16 i (upd (gA q3.2 16 i) (gI w 4 i).toNatClampNeg q3.1)) 4 i).toNatClampNeg ((gA (sA q3.2 16 i (upd (gA q3.2 16 i) (gI w 4 i).toNatClampNeg q3.1)) 14 t (x3 + (1 : Int32)).toNatClampNeg) - (48 : Int32)))) 4 i) 6) (
          X0_settle_L1 N i t x2 n (x3 + (3 : Int32)) (sI (sA (sA (sA q3.2 16 i (upd (gA q3.2 16 i) (gI w 4 i).toNatClampNeg q3.1)) 17 i (upd (gA (sA q3.2 16 i (upd (gA q3.2 16 i) (gI w 4 i).toNatClampNeg q3.1)) 17 i) (gI (sA q3.2 16 i (upd (gA q3.2 16 i) (gI w 4 i).toNatClampNeg q3.1)) 4 i).toNatClampNeg ((gA (sA q3.2 16 i (upd (gA q3.2 16 i) (gI w 4 i).toNatClampNeg q3.1)) 14 t (x3 + (1 : Int32)).toNatClampNeg) - (48 : Int32)))) 18 i (upd (gA (sA (sA q3.2 16 i (upd (gA q3.2 16 i) (gI w 4 i).toNatClampNeg q3.1)) 17 i (upd (gA (sA q3.2 16 i (upd (gA q3.2 16 i) (gI w 4 i).toNatClampNeg q3.1)) 17 i) (gI (sA q3.2 16 i (upd (gA q3.2 16 i) (gI w 4 i).toNatClampNeg q3.1)) 4 i).toNatClampNeg ((gA (sA q3.2 16 i (upd (gA q3.2 16 i) (gI w 4 i).toNatClampNeg q3.1)) 14 t (x3 + (1 : Int32)).toNatClampNeg) - (48 : Int32)))) 18 i) (gI (sA (sA q3.2 16 i (upd (gA q3.2 16 i) (gI w 4 i).toNatClampNeg q3.1)) 17 i (upd (gA (sA q3.2 16 i (upd (gA q3.2 16 i) (gI w 4 i).toNatClampNeg q3.1)) 17 i) (gI (sA q3.2 16 i (upd (gA q3.2 16 i) (gI w 4 i).toNatClampNeg q3.1)) 4 i).toNatClampNeg ((gA (sA q3.2 16 i (upd (gA q3.2 16 i) (gI w 4 i).toNatClampNeg q3.1)) 14 t (x3 + (1 : Int32)).toNatClampNeg) - (48 : Int32)))) 4 i).toNatClampNeg ((gA (sA (sA q3.2 16 i (upd (gA q3.2 16 i) (gI w 4 i).toNatClampNeg q3.1)) 17 i (upd (gA (sA q3.2 16 i (upd (gA q3.2 16 i) (gI w 4 i).toNatClampNeg q3.1)) 17 i) (gI (sA q3.2 16 i (upd (gA q3.2 16 i) (gI w 4 i).toNatClampNeg q3.1)) 4 i).toNatClampNeg ((gA (sA q3.2 16 i (upd (gA q3.2 16 i) (gI w 4 i).toNatClampNeg q3.1)) 14 t (x3 + (1 : Int32)).toNatClampNeg) - (48 : Int32)))) 14 t (x3 + (2 : Int32)).toNatClampNeg) - (48 : Int32)))) 4 i ((gI (sA (sA (sA q3.2 16 i (upd (gA q3.2 16 i) (gI w 4 i).toNatClampNeg q3.1)) 17 i (upd (gA (sA q3.2 16 i (upd (gA q3.2 16 i) (gI w 4 i).toNatClampNeg q3.1)) 17 i) (gI (sA q3.2 16 i (upd (gA q3.2 16 i) (gI w 4 i).toNatClampNeg q3.1)) 4 i).toNatClampNeg ((gA (sA q3.2 16 i (upd (gA q3.2 16 i) (gI w 4 i).toNatClampNeg q3.1)) 14 t (x3 + (1 : Int32)).toNatClampNeg) - (48 : Int32)))) 18 i (upd (gA (sA (sA q3.2 16 i (upd (gA q3.2 16 i) (gI w 4 i).toNatClampNeg q3.1)) 17 i (upd (gA (sA q3.2 16 i (upd (gA q3.2 16 i) (gI w 4 i).toNatClampNeg q3.1)) 17 i) (gI (sA q3.2 16 i (upd (gA q3.2 16 i) (gI w 4 i).toNatClampNeg q3.1)) 4 i).toNatClampNeg ((gA (sA q3.2 16 i (upd (gA q3.2 16 i) (gI w 4 i).toNatClampNeg q3.1)) 14 t (x3 + (1 : Int32)).toNatClampNeg) - (48 : Int32)))) 18 i) (gI (sA (sA q3.2 16 i (upd (gA q3.2 16 i) (gI w 4 i).toNatClampNeg q3.1)) 17 i (upd (gA (sA q3.2 16 i (upd (gA q3.2 16 i) (gI w 4 i).toNatClampNeg q3.1)) 17 i) (gI (sA q3.2 16 i (upd (gA q3.2 16 i) (gI w 4 i).toNatClampNeg q3.1)) 4 i).toNatClampNeg ((gA (sA q3.2 16 i (upd (gA q3.2 16 i) (gI w 4 i).toNatClampNeg q3.1)) 14 t (x3 + (1 : Int32)).toNatClampNeg) - (48 : Int32)))) 4 i).toNatClampNeg ((gA (sA (sA q3.2 16 i (upd (gA q3.2 16 i) (gI w 4 i).toNatClampNeg q3.1)) 17 i (upd (gA (sA q3.2 16 i (upd (gA q3.2 16 i) (gI w 4 i).toNatClampNeg q3.1)) 17 i) (gI (sA q3.2 16 i (upd (gA q3.2 16 i) (gI w 4 i).toNatClampNeg q3.1)) 4 i).toNatClampNeg ((gA (sA q3.2 16 i (upd (gA q3.2 16 i) (gI w 4 i).toNatClampNeg q3.1)) 14 t (x3 + (1 : Int32)).toNatClampNeg) - (48 : Int32)))) 14 t (x3 + (2 : Int32)).toNatClampNeg) - (48 : Int32)))) 4 i) + (1 : Int32)))))))))))
set_option maxRecDepth 20000 in
set_option maxHeartbeats 4000000 in
theorem z_X0_settle_L1 {x : CX} (hC : Cx x RX0 cX0_settle 4 1) (hr : (xM x).sig.returnType = none) (N : Nat) (i : Nat) (t : Nat) (hi : i < 2) (ht : t < 4) (x2 : Int32) : ∀ (n : Nat) (x3 : Int32) (w : Wd) (q : (Wd)), X0_settle_L1 N i t x2 n x3 w = some q → Z x 107 [none, none, none, none] [] q → Z x 12 [some (vr 3 i), some (vr 14 t), some (vi x2), some (vi x3)] [] w := by
  intro n
  induction n with
  | zero =>
    intro x3 w q h
    cases h
  | succ n ih =>
    intro x3 w q h ke
    rw [X0_settle_L1] at h
    refine Z_iload_n hC (dk d_X0_settle 8 rfl) 13 rfl rfl rfl ?_
    refine Z_iconst (v := 2) hC (dk d_X0_settle 9 rfl) 14 rfl (by decide) ?_
    refine Z_iadd hC (dk d_X0_settle 10 rfl) 15 rfl ?_
    refine Z_iload_n hC (dk d_X0_settle 11 rfl) 16 rfl rfl rfl ?_
    refine Z_icmp_ge hC (dk d_X0_settle 12 rfl) 19 107 rfl (by decide) (fun c => ?_) (fun c => ?_)
    · have h := it_t h c
      obtain rfl := Option.some.inj h
      refine Z_wk [false, false, false, false] [none, none, none, none] rfl ?_
      exact ke
    · have h := it_f h c
      refine Z_aload_n hC (dk d_X0_settle 13 rfl) 20 rfl rfl rfl ?_
      refine G_X0_28 hC (m_3 hi) (dk d_X0_settle 14 rfl) 23 rfl ?_
      refine Z_bipush (v := 6) hC (dk d_X0_settle 15 rfl) 25 rfl (by decide) ?_
      refine Z_icmp_ge hC (dk d_X0_settle 16 rfl) 28 107 rfl (by decide) (fun c => ?_) (fun c => ?_)
      · have h := it_t h c
        obtain rfl := Option.some.inj h
        refine Z_wk [false, false, false, false] [none, none, none, none] rfl ?_
        exact ke
      · have h := it_f h c
        refine Z_aload_n hC (dk d_X0_settle 17 rfl) 29 rfl rfl rfl ?_
        refine Z_iload_n hC (dk d_X0_settle 18 rfl) 30 rfl rfl rfl ?_
        obtain ⟨g1, h⟩ := gd_some h
        refine Z_baload hC (m_14 ht) (by decide) rfl g1 (dk d_X0_settle 19 rfl) 31 rfl ?_
        refine Z_bipush (v := 32) hC (dk d_X0_settle 20 rfl) 33 rfl (by decide) ?_
        refine Z_icmp_ne hC (dk d_X0_settle 21 rfl) 36 42 rfl (by decide) (fun c => ?_) (fun c => ?_)
        · have h := it_f h c
          refine Z_aload_n hC (dk d_X0_settle 24 rfl) 43 rfl rfl rfl ?_
          refine G_X0_9 hC (m_3 hi) (dk d_X0_settle 25 rfl) 46 rfl ?_
          refine Z_aload_n hC (dk d_X0_settle 26 rfl) 47 rfl rfl rfl ?_
          refine G_X0_28 hC (m_3 hi) (dk d_X0_settle 27 rfl) 50 rfl ?_
          refine Z_aload_n hC (dk d_X0_settle 28 rfl) 51 rfl rfl rfl ?_
          refine Z_iload_n hC (dk d_X0_settle 29 rfl) 52 rfl rfl rfl ?_
          obtain ⟨g2, h⟩ := gd_some h
          refine Z_baload hC (m_14 ht) (by decide) rfl g2 (dk d_X0_settle 30 rfl) 53 rfl ?_
          obtain ⟨q3, hq3, h⟩ := bd_some h
          refine K_X0_34 [vi (gA w 14 t x3.toNatClampNeg)] hC (s_X4_kindOf (xG x) (xl x) N (gA w 14 t x3.toNatClampNeg) w q3 hq3) (Nat.le_of_ble_eq_true rfl) rfl rfl rfl (Nat.le_of_ble_eq_true rfl) (dk d_X0_settle 31 rfl) 56 rfl ?_
          obtain ⟨g4, h⟩ := gd_some h
          refine Z_iastore hC (m_16 hi) (by decide) rfl g4 (dk d_X0_settle 32 rfl) 57 rfl ?_
          refine Z_aload_n hC (dk d_X0_settle 33 rfl) 58 rfl rfl rfl ?_
          refine G_X0_15 hC (m_3 hi) (dk d_X0_settle 34 rfl) 61 rfl ?_
          refine Z_aload_n hC (dk d_X0_settle 35 rfl) 62 rfl rfl rfl ?_
          refine G_X0_28 hC (m_3 hi) (dk d_X0_settle 36 rfl) 65 rfl ?_
          refine Z_aload_n hC (dk d_X0_settle 37 rfl) 66 rfl rfl rfl ?_
          refine Z_iload_n hC (dk d_X0_settle 38 rfl) 67 rfl rfl rfl ?_
          refine Z_iconst (v := 1) hC (dk d_X0_settle 39 rfl) 68 rfl (by decide) ?_
          refine Z_iadd hC (dk d_X0_settle 40 rfl) 69 rfl ?_
          obtain ⟨g5, h⟩ := gd_some h
          refine Z_baload hC (m_14 ht) (by decide) rfl g5 (dk d_X0_settle 41 rfl) 70 rfl ?_
          refine Z_bipush (v := 48) hC (dk d_X0_settle 42 rfl) 72 rfl (by decide) ?_
          refine Z_isub hC (dk d_X0_settle 43 rfl) 73 rfl ?_
          obtain ⟨g6, h⟩ := gd_some h
          refine Z_iastore hC (m_17 hi) (by decide) rfl g6 (dk d_X0_settle 44 rfl) 74 rfl ?_
          refine Z_aload_n hC (dk d_X0_settle 45 rfl) 75 rfl rfl rfl ?_
          refine G_X0_18 hC (m_3 hi) (dk d_X0_settle 46 rfl) 78 rfl ?_
          refine Z_aload_n hC (dk d_X0_settle 47 rfl) 79 rfl rfl rfl ?_
          refine G_X0_28 hC (m_3 hi) (dk d_X0_settle 48 rfl) 82 rfl ?_
          refine Z_aload_n hC (dk d_X0_settle 49 rfl) 83 rfl rfl rfl ?_
          refine Z_iload_n hC (dk d_X0_settle 50 rfl) 84 rfl rfl rfl ?_
          refine Z_iconst (v := 2) hC (dk d_X0_settle 51 rfl) 85 rfl (by decide) ?_
          refine Z_iadd hC (dk d_X0_settle 52 rfl) 86 rfl ?_
          obtain ⟨g7, h⟩ := gd_some h
          refine Z_baload hC (m_14 ht) (by decide) rfl g7 (dk d_X0_settle 53 rfl) 87 rfl ?_
          refine Z_bipush (v := 48) hC (dk d_X0_settle 54 rfl) 89 rfl (by decide) ?_
          refine Z_isub hC (dk d_X0_settle 55 rfl) 90 rfl ?_
          obtain ⟨g8, h⟩ := gd_some h
          refine Z_iastore hC (m_18 hi) (by decide) rfl g8 (dk d_X0_settle 56 rfl) 91 rfl ?_
          refine Z_aload_n hC (dk d_X0_settle 57 rfl) 92 rfl rfl rfl ?_
          refine Z_dup hC (dk d_X0_settle 58 rfl) 93 rfl rfl ?_
          refine G_X0_28 hC (m_3 hi) (dk d_X0_settle 59 rfl) 96 rfl ?_
          refine Z_iconst (v := 1) hC (dk d_X0_settle 60 rfl) 97 rfl (by decide) ?_
          refine Z_iadd hC (dk d_X0_settle 61 rfl) 98 rfl ?_
          refine P_X0_28 hC (m_3 hi) (dk d_X0_settle 62 rfl) 101 rfl ?_
          refine Z_iinc hC (dk d_X0_settle 63 rfl) 104 rfl rfl rfl [some (vr 3 i), some (vr 14 t), some (vi x2), some (vi (x3 + (3 : Int32)))] rfl ?_
          refine Z_goto hC (dk d_X0_settle 64 rfl) 12 (by decide) ?_
          refine Z_wk [true, true, true, true] [some (vr 3 i), some (vr 14 t), some (vi x2), some (vi (x3 + (3 : Int32)))] rfl ?_
          exact ih (x3 + (3 : Int32)) (sI (sA (sA (sA q3.2 16 i (upd (gA q3.2 16 i) (gI w 4 i).toNatClampNeg q3.1)) 17 i (upd (gA (sA q3.2 16 i (upd (gA q3.2 16 i) (gI w 4 i).toNatClampNeg q3.1)) 17 i) (gI (sA q3.2 16 i (upd (gA q3.2 16 i) (gI w 4 i).toNatClampNeg q3.1)) 4 i).toNatClampNeg ((gA (sA q3.2 16 i (upd (gA q3.2 16 i) (gI w 4 i).toNatClampNeg q3.1)) 14 t (x3 + (1 : Int32)).toNatClampNeg) - (48 : Int32)))) 18 i (upd (gA (sA (sA q3.2 16 i (upd (gA q3.2 16 i) (gI w 4 i).toNatClampNeg q3.1)) 17 i (upd (gA (sA q3.2 16 i (upd (gA q3.2 16 i) (gI w 4 i).toNatClampNeg q3.1)) 17 i) (gI (sA q3.2 16 i (upd (gA q3.2 16 i) (gI w 4 i).toNatClampNeg q3.1)) 4 i).toNatClampNeg ((gA (sA q3.2 16 i (upd (gA q3.2 16 i) (gI w 4 i).toNatClampNeg q3.1)) 14 t (x3 + (1 : Int32)).toNatClampNeg) - (48 : Int32)))) 18 i) (gI (sA (sA q3.2 16 i (upd (gA q3.2 16 i) (gI w 4 i).toNatClampNeg q3.1)) 17 i (upd (gA (sA q3.2 16 i (upd (gA q3.2 16 i) (gI w 4 i).toNatClampNeg q3.1)) 17 i) (gI (sA q3.2 16 i (upd (gA q3.2 16 i) (gI w 4 i).toNatClampNeg q3.1)) 4 i).toNatClampNeg ((gA (sA q3.2 16 i (upd (gA q3.2 16 i) (gI w 4 i).toNatClampNeg q3.1)) 14 t (x3 + (1 : Int32)).toNatClampNeg) - (48 : Int32)))) 4 i).toNatClampNeg ((gA (sA (sA q3.2 16 i (upd (gA q3.2 16 i) (gI w 4 i).toNatClampNeg q3.1)) 17 i (upd (gA (sA q3.2 16 i (upd (gA q3.2 16 i) (gI w 4 i).toNatClampNeg q3.1)) 17 i) (gI (sA q3.2 16 i (upd (gA q3.2 16 i) (gI w 4 i).toNatClampNeg q3.1)) 4 i).toNatClampNeg ((gA (sA q3.2 16 i (upd (gA q3.2 16 i) (gI w 4 i).toNatClampNeg q3.1)) 14 t (x3 + (1 : Int32)).toNatClampNeg) - (48 : Int32)))) 14 t (x3 + (2 : Int32)).toNatClampNeg) - (48 : Int32)))) 4 i ((gI (sA (sA (sA q3.2 16 i (upd (gA q3.2 16 i) (gI w 4 i).toNatClampNeg q3.1)) 17 i (upd (gA (sA q3.2 16 i (upd (gA q3.2 16 i) (gI w 4 i).toNatClampNeg q3.1)) 17 i) (gI (sA q3.2 16 i (upd (gA q3.2 16 i) (gI w 4 i).toNatClampNeg q3.1)) 4 i).toNatClampNeg ((gA (sA q3.2 16 i (upd (gA q3.2 16 i) (gI w 4 i).toNatClampNeg q3.1)) 14 t (x3 + (1 : Int32)).toNatClampNeg) - (48 : Int32)))) 18 i (upd (gA (sA (sA q3.2 16 i (upd (gA q3.2 16 i) (gI w 4 i).toNatClampNeg q3.1)) 17 i (upd (gA (sA q3.2 16 i (upd (gA q3.2 16 i) (gI w 4 i).toNatClampNeg q3.1)) 17 i) (gI (sA q3.2 16 i (upd (gA q3.2 16 i) (gI w 4 i).toNatClampNeg q3.1)) 4 i).toNatClampNeg ((gA (sA q3.2 16 i (upd (gA q3.2 16 i) (gI w 4 i).toNatClampNeg q3.1)) 14 t (x3 + (1 : Int32)).toNatClampNeg) - (48 : Int32)))) 18 i) (gI (sA (sA q3.2 16 i (upd (gA q3.2 16 i) (gI w 4 i).toNatClampNeg q3.1)) 17 i (upd (gA (sA q3.2 16 i (upd (gA q3.2 16 i) (gI w 4 i).toNatClampNeg q3.1)) 17 i) (gI (sA q3.2 16 i (upd (gA q3.2 16 i) (gI w 4 i).toNatClampNeg q3.1)) 4 i).toNatClampNeg ((gA (sA q3.2 16 i (upd (gA q3.2 16 i) (gI w 4 i).toNatClampNeg q3.1)) 14 t (x3 + (1 : Int32)).toNatClampNeg) - (48 : Int32)))) 4 i).toNatClampNeg ((gA (sA (sA q3.2 16 i (upd (gA q3.2 16 i) (gI w 4 i).toNatClampNeg q3.1)) 17 i (upd (gA (sA q3.2 16 i (upd (gA q3.2 16 i) (gI w 4 i).toNatClampNeg q3.1)) 17 i) (gI (sA q3.2 16 i (upd (gA q3.2 16 i) (gI w 4 i).toNatClampNeg q3.1)) 4 i).toNatClampNeg ((gA (sA q3.2 16 i (upd (gA q3.2 16 i) (gI w 4 i).toNatClampNeg q3.1)) 14 t (x3 + (1 : Int32)).toNatClampNeg) - (48 : Int32)))) 14 t (x3 + (2 : Int32)).toNatClampNeg) - (48 : Int32)))) 4 i) + (1 : Int32))) _ h ke
        · have h := it_t h c
          refine Z_iinc hC (dk d_X0_settle 22 rfl) 39 rfl rfl rfl [some (vr 3 i), some (vr 14 t), some (vi x2), some (vi (x3 + (1 : Int32)))] rfl ?_
          refine Z_goto hC (dk d_X0_settle 23 rfl) 12 (by decide) ?_
          refine Z_wk [true, true, true, true] [some (vr 3 i), some (vr 14 t), some (vi x2), some (vi (x3 + (1 : Int32)))] rfl ?_
          exact ih (x3 + (1 : Int32)) w _ h ke
noncomputable def f_X0_settle (N : Nat) (i : Nat) (t : Nat) (a1 : Int32) (w : Wd) : Option (Wd) :=
  (X0_settle_L1 N i t a1 N (0 : Int32) (sI (sI w 4 i (0 : Int32)) 5 i (0 : Int32))).bind (fun q9 =>
    some q9)
set_option maxRecDepth 20000 in
set_option maxHeartbeats 4000000 in
theorem s_X0_settle (G : GT) (l : Launch) (N : Nat) (i : Nat) (t : Nat) (hi : i < 2) (ht : t < 4) (a1 : Int32) (w : Wd) (q : Wd) (h : f_X0_settle N i t a1 w = some q) : Sp G l yX0_settle cw_X0_settle 1 [vr 3 i, vr 14 t, vi a1] w none q := by
  refine Sp_of (own := RX0) [some (vr 3 i), some (vr 14 t), some (vi a1), none] (by decide) rfl rfl (Nat.le_of_ble_eq_true rfl) ?_
  intro x hG hl hC hr hQ _ _
  subst hG
  subst hl
  unfold f_X0_settle at h
  refine Z_aload_n hC (dk d_X0_settle 0 rfl) 1 rfl rfl rfl ?_
  refine Z_iconst (v := 0) hC (dk d_X0_settle 1 rfl) 2 rfl (by decide) ?_
  refine P_X0_28 hC (m_3 hi) (dk d_X0_settle 2 rfl) 5 rfl ?_
  refine Z_aload_n hC (dk d_X0_settle 3 rfl) 6 rfl rfl rfl ?_
  refine Z_iconst (v := 0) hC (dk d_X0_settle 4 rfl) 7 rfl (by decide) ?_
  refine P_X0_31 hC (m_3 hi) (dk d_X0_settle 5 rfl) 10 rfl ?_
  refine Z_iconst (v := 0) hC (dk d_X0_settle 6 rfl) 11 rfl (by decide) ?_
  refine Z_istore_n hC (dk d_X0_settle 7 rfl) 12 rfl rfl (Nat.le_of_ble_eq_true rfl) [some (vr 3 i), some (vr 14 t), some (vi a1), some (vi (0 : Int32))] rfl ?_
  obtain ⟨q9, hq9, h⟩ := bd_some h
  refine Z_wk [true, true, true, true] [some (vr 3 i), some (vr 14 t), some (vi a1), some (vi (0 : Int32))] rfl ?_
  refine z_X0_settle_L1 hC hr N i t hi ht a1 N (0 : Int32) (sI (sI w 4 i (0 : Int32)) 5 i (0 : Int32)) q9 hq9 ?_
  obtain rfl := Option.some.inj h
  exact Z_return (st := []) hC hr hQ (dk d_X0_settle 65 rfl)
def t_X0_become : List (Nat × Instr × Nat) := [(0, .aload_n 1, 1), (1, .getfield 9, 3), (4, .iconst 0, 1), (5, .aload_n 0, 1), (6, .getfield 9, 3), (9, .iconst 0, 1), (10, .bipush 6, 2), (12, .invokestatic 38, 3), (15, .aload_n 1, 1), (16, .getfield 15, 3), (19, .iconst 0, 1), (20, .aload_n 0, 1), (21, .getfield 15, 3), (24, .iconst 0, 1), (25, .bipush 6, 2), (27, .invokestatic 38, 3), (30, .aload_n 1, 1), (31, .getfield 18, 3), (34, .iconst 0, 1), (35, .aload_n 0, 1), (36, .getfield 18, 3), (39, .iconst 0, 1), (40, .bipush 6, 2), (42, .invokestatic 38, 3), (45, .aload_n 1, 1), (46, .getfield 21, 3), (49, .iconst 0, 1), (50, .aload_n 0, 1), (51, .getfield 21, 3), (54, .iconst 0, 1), (55, .aload_n 0, 1), (56, .getfield 21, 3), (59, .arraylength, 1), (60, .invokestatic 38, 3), (63, .aload_n 0, 1), (64, .aload_n 1, 1), (65, .getfield 28, 3), (68, .putfield 28, 3), (71, .aload_n 0, 1), (72, .aload_n 1, 1), (73, .getfield 31, 3), (76, .putfield 31, 3), (79, .aload_n 0, 1), (80, .aload_n 1, 1), (81, .getfield 24, 3), (84, .putfield 24, 3), (87, .return_, 1)]
set_option maxRecDepth 20000 in
theorem d_X0_become : ∀ q ∈ t_X0_become, decode cX0_become q.1 = .ok q.2 := by decide +kernel
noncomputable def f_X0_become (N : Nat) (i : Nat) (j : Nat) (w : Wd) : Option (Wd) :=
  gd (¬ (0 : Int32) < 0 ∧ ¬ (0 : Int32) < 0 ∧ ¬ (6 : Int32) < 0 ∧ (0 : Int32).toNatClampNeg + (6 : Int32).toNatClampNeg ≤ 6 ∧ (0 : Int32).toNatClampNeg + (6 : Int32).toNatClampNeg ≤ 6) (
  gd (¬ (0 : Int32) < 0 ∧ ¬ (0 : Int32) < 0 ∧ ¬ (6 : Int32) < 0 ∧ (0 : Int32).toNatClampNeg + (6 : Int32).toNatClampNeg ≤ 6 ∧ (0 : Int32).toNatClampNeg + (6 : Int32).toNatClampNeg ≤ 6) (
  gd (¬ (0 : Int32) < 0 ∧ ¬ (0 : Int32) < 0 ∧ ¬ (6 : Int32) < 0 ∧ (0 : Int32).toNatClampNeg + (6 : Int32).toNatClampNeg ≤ 6 ∧ (0 : Int32).toNatClampNeg + (6 : Int32).toNatClampNeg ≤ 6) (
  gd (¬ (0 : Int32) < 0 ∧ ¬ (0 : Int32) < 0 ∧ ¬ (42 : Int32) < 0 ∧ (0 : Int32).toNatClampNeg + (42 : Int32).toNatClampNeg ≤ 42 ∧ (0 : Int32).toNatClampNeg + (42 : Int32).toNatClampNeg ≤ 42) (
  some (sI (sI (sI (sA (sA (sA (sA w 16 i (va_cpy (gA w 16 j) (gA w 16 i) (0 : Int32).toNatClampNeg (0 : Int32).toNatClampNeg (6 : Int32).toNatClampNeg)) 17 i (va_cpy (gA (sA w 16 i (va_cpy (gA w 16 j) (gA w 16 i) (0 : Int32).toNatClampNeg (0 : Int32).toNatClampNeg (6 : Int32).toNatClampNeg)) 17 j) (gA (sA w 16 i (va_cpy (gA w 16 j) (gA w 16 i) (0 : Int32).toNatClampNeg (0 : Int32).toNatClampNeg (6 : Int32).toNatClampNeg)) 17 i) (0 : Int32).toNatClampNeg (0 : Int32).toNatClampNeg (6 : Int32).toNatClampNeg)) 18 i (va_cpy (gA (sA (sA w 16 i (va_cpy (gA w 16 j) (gA w 16 i) (0 : Int32).toNatClampNeg (0 : Int32).toNatClampNeg (6 : Int32).toNatClampNeg)) 17 i (va_cpy (gA (sA w 16 i (va_cpy (gA w 16 j) (gA w 16 i) (0 : Int32).toNatClampNeg (0 : Int32).toNatClampNeg (6 : Int32).toNatClampNeg)) 17 j) (gA (sA w 16 i (va_cpy (gA w 16 j) (gA w 16 i) (0 : Int32).toNatClampNeg (0 : Int32).toNatClampNeg (6 : Int32).toNatClampNeg)) 17 i) (0 : Int32).toNatClampNeg (0 : Int32).toNatClampNeg (6 : Int32).toNatClampNeg)) 18 j) (gA (sA (sA w 16 i (va_cpy (gA w 16 j) (gA w 16 i) (0 : Int32).toNatClampNeg (0 : Int32).toNatClampNeg (6 : Int32).toNatClampNeg)) 17 i (va_cpy (gA (sA w 16 i (va_cpy (gA w 16 j) (gA w 16 i) (0 : Int32).toNatClampNeg (0 : Int32).toNatClampNeg (6 : Int32).toNatClampNeg)) 17 j) (gA (sA w 16 i (va_cpy (gA w 16 j) (gA w 16 i) (0 : Int32).toNatClampNeg (0 : Int32).toNatClampNeg (6 : Int32).toNatClampNeg)) 17 i) (0 : Int32).toNatClampNeg (0 : Int32).toNatClampNeg (6 : Int32).toNatClampNeg)) 18 i) (0 : Int32).toNatClampNeg (0 : Int32).toNatClampNeg (6 : Int32).toNatClampNeg)) 19 i (va_cpy (gA (sA (sA (sA w 16 i (va_cpy (gA w 16 j) (gA w 16 i) (0 : Int32).toNatClampNeg (0 : Int32).toNatClampNeg (6 : Int32).toNatClampNeg)) 17 i (va_cpy (gA (sA w 16 i (va_cpy (gA w 16 j) (gA w 16 i) (0 : Int32).toNatClampNeg (0 : Int32).toNatClampNeg (6 : Int32).toNatClampNeg)) 17 j) (gA (sA w 16 i (va_cpy (gA w 16 j) (gA w 16 i) (0 : Int32).toNatClampNeg (0 : Int32).toNatClampNeg (6 : Int32).toNatClampNeg)) 17 i) (0 : Int32).toNatClampNeg (0 : Int32).toNatClampNeg (6 : Int32).toNatClampNeg)) 18 i (va_cpy (gA (sA (sA w 16 i (va_cpy (gA w 16 j) (gA w 16 i) (0 : Int32).toNatClampNeg (0 : Int32).toNatClampNeg (6 : Int32).toNatClampNeg)) 17 i (va_cpy (gA (sA w 16 i (va_cpy (gA w 16 j) (gA w 16 i) (0 : Int32).toNatClampNeg (0 : Int32).toNatClampNeg (6 : Int32).toNatClampNeg)) 17 j) (gA (sA w 16 i (va_cpy (gA w 16 j) (gA w 16 i) (0 : Int32).toNatClampNeg (0 : Int32).toNatClampNeg (6 : Int32).toNatClampNeg)) 17 i) (0 : Int32).toNatClampNeg (0 : Int32).toNatClampNeg (6 : Int32).toNatClampNeg)) 18 j) (gA (sA (sA w 16 i (va_cpy (gA w 16 j) (gA w 16 i) (0 : Int32).toNatClampNeg (0 : Int32).toNatClampNeg (6 : Int32).toNatClampNeg)) 17 i (va_cpy (gA (sA w 16 i (va_cpy (gA w 16 j) (gA w 16 i) (0 : Int32).toNatClampNeg (0 : Int32).toNatClampNeg (6 : Int32).toNatClampNeg)) 17 j) (gA (sA w 16 i (va_cpy (gA w 16 j) (gA w 16 i) (0 : Int32).toNatClampNeg (0 : Int32).toNatClampNeg (6 : Int32).toNatClampNeg)) 17 i) (0 : Int32).toNatClampNeg (0 : Int32).toNatClampNeg (6 : Int32).toNatClampNeg)) 18 i) (0 : Int32).toNatClampNeg (0 : Int32).toNatClampNeg (6 : Int32).toNatClampNeg)) 19 j) (gA (sA (sA (sA w 16 i (va_cpy (gA w 16 j) (gA w 16 i) (0 : Int32).toNatClampNeg (0 : Int32).toNatClampNeg (6 : Int32).toNatClampNeg)) 17 i (va_cpy (gA (sA w 16 i (va_cpy (gA w 16 j) (gA w 16 i) (0 : Int32).toNatClampNeg (0 : Int32).toNatClampNeg (6 : Int32).toNatClampNeg)) 17 j) (gA (sA w 16 i (va_cpy (gA w 16 j) (gA w 16 i) (0 : Int32).toNatClampNeg (0 : Int32).toNatClampNeg (6 : Int32).toNatClampNeg)) 17 i) (0 : Int32).toNatClampNeg (0 : Int32).toNatClampNeg (6 : Int32).toNatClampNeg)) 18 i (va_cpy (gA (sA (sA w 16 i (va_cpy (gA w 16 j) (gA w 16 i) (0 : Int32).toNatClampNeg (0 : Int32).toNatClampNeg (6 : Int32).toNatClampNeg)) 17 i (va_cpy (gA (sA w 16 i (va_cpy (gA w 16 j) (gA w 16 i) (0 : Int32).toNatClampNeg (0 : Int32).toNatClampNeg (6 : Int32).toNatClampNeg)) 17 j) (gA (sA w 16 i (va_cpy (gA w 16 j) (gA w 16 i) (0 : Int32).toNatClampNeg (0 : Int32).toNatClampNeg (6 : Int32).toNatClampNeg)) 17 i) (0 : Int32).toNatClampNeg (0 : Int32).toNatClampNeg (6 : Int32).toNatClampNeg)) 18 j) (gA (sA (sA w 16 i (va_cpy (gA w 16 j) (gA w 16 i) (0 : Int32).toNatClampNeg (0 : Int32).toNatClampNeg (6 : Int32).toNatClampNeg)) 17 i (va_cpy (gA (sA w 16 i (va_cpy (gA w 16 j) (gA w 16 i) (0 : Int32).toNatClampNeg (0 : Int32).toNatClampNeg (6 : Int32).toNatClampNeg)) 17 j) (gA (sA w 16 i (va_cpy (gA w 16 j) (gA w 16 i) (0 : Int32).toNatClampNeg (0 : Int32).toNatClampNeg (6 : Int32).toNatClampNeg)) 17 i) (0 : Int32).toNatClampNeg (0 : Int32).toNatClampNeg (6 : Int32).toNatClampNeg)) 18 i) (0 : Int32).toNatClampNeg (0 : Int32).toNatClampNeg (6 : Int32).toNatClampNeg)) 19 i) (0 : Int32).toNatClampNeg (0 : Int32).toNatClampNeg (42 : Int32).toNatClampNeg)) 4 i (gI (sA (sA (sA (sA w 16 i (va_cpy (gA w 16 j) (gA w 16 i) (0 : Int32).toNatClampNeg (0 : Int32).toNatClampNeg (6 : Int32).toNatClampNeg)) 17 i (va_cpy (gA (sA w 16 i (va_cpy (gA w 16 j) (gA w 16 i) (0 : Int32).toNatClampNeg (0 : Int32).toNatClampNeg (6 : Int32).toNatClampNeg)) 17 j) (gA (sA w 16 i (va_cpy (gA w 16 j) (gA w 16 i) (0 : Int32).toNatClampNeg (0 : Int32).toNatClampNeg (6 : Int32).toNatClampNeg)) 17 i) (0 : Int32).toNatClampNeg (0 : Int32).toNatClampNeg (6 : Int32).toNatClampNeg)) 18 i (va_cpy (gA (sA (sA w 16 i (va_cpy (gA w 16 j) (gA w 16 i) (0 : Int32).toNatClampNeg (0 : Int32).toNatClampNeg (6 : Int32).toNatClampNeg)) 17 i (va_cpy (gA (sA w 16 i (va_cpy (gA w 16 j) (gA w 16 i) (0 : Int32).toNatClampNeg (0 : Int32).toNatClampNeg (6 : Int32).toNatClampNeg)) 17 j) (gA (sA w 16 i (va_cpy (gA w 16 j) (gA w 16 i) (0 : Int32).toNatClampNeg (0 : Int32).toNatClampNeg (6 : Int32).toNatClampNeg)) 17 i) (0 : Int32).toNatClampNeg (0 : Int32).toNatClampNeg (6 : Int32).toNatClampNeg)) 18 j) (gA (sA (sA w 16 i (va_cpy (gA w 16 j) (gA w 16 i) (0 : Int32).toNatClampNeg (0 : Int32).toNatClampNeg (6 : Int32).toNatClampNeg)) 17 i (va_cpy (gA (sA w 16 i (va_cpy (gA w 16 j) (gA w 16 i) (0 : Int32).toNatClampNeg (0 : Int32).toNatClampNeg (6 : Int32).toNatClampNeg)) 17 j) (gA (sA w 16 i (va_cpy (gA w 16 j) (gA w 16 i) (0 : Int32).toNatClampNeg (0 : Int32).toNatClampNeg (6 : Int32).toNatClampNeg)) 17 i) (0 : Int32).toNatClampNeg (0 : Int32).toNatClampNeg (6 : Int32).toNatClampNeg)) 18 i) (0 : Int32).toNatClampNeg (0 : Int32).toNatClampNeg (6 : Int32).toNatClampNeg)) 19 i (va_cpy (gA (sA (sA (sA w 16 i (va_cpy (gA w 16 j) (gA w 16 i) (0 : Int32).toNatClampNeg (0 : Int32).toNatClampNeg (6 : Int32).toNatClampNeg)) 17 i (va_cpy (gA (sA w 16 i (va_cpy (gA w 16 j) (gA w 16 i) (0 : Int32).toNatClampNeg (0 : Int32).toNatClampNeg (6 : Int32).toNatClampNeg)) 17 j) (gA (sA w 16 i (va_cpy (gA w 16 j) (gA w 16 i) (0 : Int32).toNatClampNeg (0 : Int32).toNatClampNeg (6 : Int32).toNatClampNeg)) 17 i) (0 : Int32).toNatClampNeg (0 : Int32).toNatClampNeg (6 : Int32).toNatClampNeg)) 18 i (va_cpy (gA (sA (sA w 16 i (va_cpy (gA w 16 j) (gA w 16 i) (0 : Int32).toNatClampNeg (0 : Int32).toNatClampNeg (6 : Int32).toNatClampNeg)) 17 i (va_cpy (gA (sA w 16 i (va_cpy (gA w 16 j) (gA w 16 i) (0 : Int32).toNatClampNeg (0 : Int32).toNatClampNeg (6 : Int32).toNatClampNeg)) 17 j) (gA (sA w 16 i (va_cpy (gA w 16 j) (gA w 16 i) (0 : Int32).toNatClampNeg (0 : Int32).toNatClampNeg (6 : Int32).toNatClampNeg)) 17 i) (0 : Int32).toNatClampNeg (0 : Int32).toNatClampNeg (6 : Int32).toNatClampNeg)) 18 j) (gA (sA (sA w 16 i (va_cpy (gA w 16 j) (gA w 16 i) (0 : Int32).toNatClampNeg (0 : Int32).toNatClampNeg (6 : Int32).toNatClampNeg)) 17 i (va_cpy (gA (sA w 16 i (va_cpy (gA w 16 j) (gA w 16 i) (0 : Int32).toNatClampNeg (0 : Int32).toNatClampNeg (6 : Int32).toNatClampNeg)) 17 j) (gA (sA w 16 i (va_cpy (gA w 16 j) (gA w 16 i) (0 : Int32).toNatClampNeg (0 : Int32).toNatClampNeg (6 : Int32).toNatClampNeg)) 17 i) (0 : Int32).toNatClampNeg (0 : Int32).toNatClampNeg (6 : Int32).toNatClampNeg)) 18 i) (0 : Int32).toNatClampNeg (0 : Int32).toNatClampNeg (6 : Int32).toNatClampNeg)) 19 j) (gA (sA (sA (sA w 16 i (va_cpy (gA w 16 j) (gA w 16 i) (0 : Int32).toNatClampNeg (0 : Int32).toNatClampNeg (6 : Int32).toNatClampNeg)) 17 i (va_cpy (gA (sA w 16 i (va_cpy (gA w 16 j) (gA w 16 i) (0 : Int32).toNatClampNeg (0 : Int32).toNatClampNeg (6 : Int32).toNatClampNeg)) 17 j) (gA (sA w 16 i (va_cpy (gA w 16 j) (gA w 16 i) (0 : Int32).toNatClampNeg (0 : Int32).toNatClampNeg (6 : Int32).toNatClampNeg)) 17 i) (0 : Int32).toNatClampNeg (0 : Int32).toNatClampNeg (6 : Int32).toNatClampNeg)) 18 i (va_cpy (gA (sA (sA w 16 i (va_cpy (gA w 16 j) (gA w 16 i) (0 : Int32).toNatClampNeg (0 : Int32).toNatClampNeg (6 : Int32).toNatClampNeg)) 17 i (va_cpy (gA (sA w 16 i (va_cpy (gA w 16 j) (gA w 16 i) (0 : Int32).toNatClampNeg (0 : Int32).toNatClampNeg (6 : Int32).toNatClampNeg)) 17 j) (gA (sA w 16 i (va_cpy (gA w 16 j) (gA w 16 i) (0 : Int32).toNatClampNeg (0 : Int32).toNatClampNeg (6 : Int32).toNatClampNeg)) 17 i) (0 : Int32).toNatClampNeg (0 : Int32).toNatClampNeg (6 : Int32).toNatClampNeg)) 18 j) (gA (sA (sA w 16 i (va_cpy (gA w 16 j) (gA w 16 i) (0 : Int32).toNatClampNeg (0 : Int32).toNatClampNeg (6 : Int32).toNatClampNeg)) 17 i (va_cpy (gA (sA w 16 i (va_cpy (gA w 16 j) (gA w 16 i) (0 : Int32).toNatClampNeg (0 : Int32).toNatClampNeg (6 : Int32).toNatClampNeg)) 17 j) (gA (sA w 16 i (va_cpy (gA w 16 j) (gA w 16 i) (0 : Int32).toNatClampNeg (0 : Int32).toNatClampNeg (6 : Int32).toNatClampNeg)) 17 i) (0 : Int32).toNatClampNeg (0 : Int32).toNatClampNeg (6 : Int32).toNatClampNeg)) 18 i) (0 : Int32).toNatClampNeg (0 : Int32).toNatClampNeg (6 : Int32).toNatClampNeg)) 19 i) (0 : Int32).toNatClampNeg (0 : Int32).toNatClampNeg (42 : Int32).toNatClampNeg)) 4 j)) 5 i (gI (sI (sA (sA (sA (sA w 16 i (va_cpy (gA w 16 j) (gA w 16 i) (0 : Int32).toNatClampNeg (0 : Int32).toNatClampNeg (6 : Int32).toNatClampNeg)) 17 i (va_cpy (gA (sA w 16 i (va_cpy (gA w 16 j) (gA w 16 i) (0 : Int32).toNatClampNeg (0 : Int32).toNatClampNeg (6 : Int32).toNatClampNeg)) 17 j) (gA (sA w 16 i (va_cpy (gA w 16 j) (gA w 16 i) (0 : Int32).toNatClampNeg (0 : Int32).toNatClampNeg (6 : Int32).toNatClampNeg)) 17 i) (0 : Int32).toNatClampNeg (0 : Int32).toNatClampNeg (6 : Int32).toNatClampNeg)) 18 i (va_cpy (gA (sA (sA w 16 i (va_cpy (gA w 16 j) (gA w 16 i) (0 : Int32).toNatClampNeg (0 : Int32).toNatClampNeg (6 : Int32).toNatClampNeg)) 17 i (va_cpy (gA (sA w 16 i (va_cpy (gA w 16 j) (gA w 16 i) (0 : Int32).toNatClampNeg (0 : Int32).toNatClampNeg (6 : Int32).toNatClampNeg)) 17 j) (gA (sA w 16 i (va_cpy (gA w 16 j) (gA w 16 i) (0 : Int32).toNatClampNeg (0 : Int32).toNatClampNeg (6 : Int32).toNatClampNeg)) 17 i) (0 : Int32).toNatClampNeg (0 : Int32).toNatClampNeg (6 : Int32).toNatClampNeg)) 18 j) (gA (sA (sA w 16 i (va_cpy (gA w 16 j) (gA w 16 i) (0 : Int32).toNatClampNeg (0 : Int32).toNatClampNeg (6 : Int32).toNatClampNeg)) 17 i (va_cpy (gA (sA w 16 i (va_cpy (gA w 16 j) (gA w 16 i) (0 : Int32).toNatClampNeg (0 : Int32).toNatClampNeg (6 : Int32).toNatClampNeg)) 17 j) (gA (sA w 16 i (va_cpy (gA w 16 j) (gA w 16 i) (0 : Int32).toNatClampNeg (0 : Int32).toNatClampNeg (6 : Int32).toNatClampNeg)) 17 i) (0 : Int32).toNatClampNeg (0 : Int32).toNatClampNeg (6 : Int32).toNatClampNeg)) 18 i) (0 : Int32).toNatClampNeg (0 : Int32).toNatClampNeg (6 : Int32).toNatClampNeg)) 19 i (va_cpy (gA (sA (sA (sA w 16 i (va_cpy (gA w 16 j) (gA w 16 i) (0 : Int32).toNatClampNeg (0 : Int32).toNatClampNeg (6 : Int32).toNatClampNeg)) 17 i (va_cpy (gA (sA w 16 i (va_cpy (gA w 16 j) (gA w 16 i) (0 : Int32).toNatClampNeg (0 : Int32).toNatClampNeg (6 : Int32).toNatClampNeg)) 17 j) (gA (sA w 16 i (va_cpy (gA w 16 j) (gA w 16 i) (0 : Int32).toNatClampNeg (0 : Int32).toNatClampNeg (6 : Int32).toNatClampNeg)) 17 i) (0 : Int32).toNatClampNeg (0 : Int32).toNatClampNeg (6 : Int32).toNatClampNeg)) 18 i (va_cpy (gA (sA (sA w 16 i (va_cpy (gA w 16 j) (gA w 16 i) (0 : Int32).toNatClampNeg (0 : Int32).toNatClampNeg (6 : Int32).toNatClampNeg)) 17 i (va_cpy (gA (sA w 16 i (va_cpy (gA w 16 j) (gA w 16 i) (0 : Int32).toNatClampNeg (0 : Int32).toNatClampNeg (6 : Int32).toNatClampNeg)) 17 j) (gA (sA w 16 i (va_cpy (gA w 16 j) (gA w 16 i) (0 : Int32).toNatClampNeg (0 : Int32).toNatClampNeg (6 : Int32).toNatClampNeg)) 17 i) (0 : Int32).toNatClampNeg (0 : Int32).toNatClampNeg (6 : Int32).toNatClampNeg)) 18 j) (gA (sA (sA w 16 i (va_cpy (gA w 16 j) (gA w 16 i) (0 : Int32).toNatClampNeg (0 : Int32).toNatClampNeg (6 : Int32).toNatClampNeg)) 17 i (va_cpy (gA (sA w 16 i (va_cpy (gA w 16 j) (gA w 16 i) (0 : Int32).toNatClampNeg (0 : Int32).toNatClampNeg (6 : Int32).toNatClampNeg)) 17 j) (gA (sA w 16 i (va_cpy (gA w 16 j) (gA w 16 i) (0 : Int32).toNatClampNeg (0 : Int32).toNatClampNeg (6 : Int32).toNatClampNeg)) 17 i) (0 : Int32).toNatClampNeg (0 : Int32).toNatClampNeg (6 : Int32).toNatClampNeg)) 18 i) (0 : Int32).toNatClampNeg (0 : Int32).toNatClampNeg (6 : Int32).toNatClampNeg)) 19 j) (gA (sA (sA (sA w 16 i (va_cpy (gA w 16 j) (gA w 16 i) (0 : Int32).toNatClampNeg (0 : Int32).toNatClampNeg (6 : Int32).toNatClampNeg)) 17 i (va_cpy (gA (sA w 16 i (va_cpy (gA w 16 j) (gA w 16 i) (0 : Int32).toNatClampNeg (0 : Int32).toNatClampNeg (6 : Int32).toNatClampNeg)) 17 j) (gA (sA w 16 i (va_cpy (gA w 16 j) (gA w 16 i) (0 : Int32).toNatClampNeg (0 : Int32).toNatClampNeg (6 : Int32).toNatClampNeg)) 17 i) (0 : Int32).toNatClampNeg (0 : Int32).toNatClampNeg (6 : Int32).toNatClampNeg)) 18 i (va_cpy (gA (sA (sA w 16 i (va_cpy (gA w 16 j) (gA w 16 i) (0 : Int32).toNatClampNeg (0 : Int32).toNatClampNeg (6 : Int32).toNatClampNeg)) 17 i (va_cpy (gA (sA w 16 i (va_cpy (gA w 16 j) (gA w 16 i) (0 : Int32).toNatClampNeg (0 : Int32).toNatClampNeg (6 : Int32).toNatClampNeg)) 17 j) (gA (sA w 16 i (va_cpy (gA w 16 j) (gA w 16 i) (0 : Int32).toNatClampNeg (0 : Int32).toNatClampNeg (6 : Int32).toNatClampNeg)) 17 i) (0 : Int32).toNatClampNeg (0 : Int32).toNatClampNeg (6 : Int32).toNatClampNeg)) 18 j) (gA (sA (sA w 16 i (va_cpy (gA w 16 j) (gA w 16 i) (0 : Int32).toNatClampNeg (0 : Int32).toNatClampNeg (6 : Int32).toNatClampNeg)) 17 i (va_cpy (gA (sA w 16 i (va_cpy (gA w 16 j) (gA w 16 i) (0 : Int32).toNatClampNeg (0 : Int32).toNatClampNeg (6 : Int32).toNatClampNeg)) 17 j) (gA (sA w 16 i (va_cpy (gA w 16 j) (gA w 16 i) (0 : Int32).toNatClampNeg (0 : Int32).toNatClampNeg (6 : Int32).toNatClampNeg)) 17 i) (0 : Int32).toNatClampNeg (0 : Int32).toNatClampNeg (6 : Int32).toNatClampNeg)) 18 i) (0 : Int32).toNatClampNeg (0 : Int32).toNatClampNeg (6 : Int32).toNatClampNeg)) 19 i) (0 : Int32).toNatClampNeg (0 : Int32).toNatClampNeg (42 : Int32).toNatClampNeg)) 4 i (gI (sA (sA (sA (sA w 16 i (va_cpy (gA w 16 j) (gA w 16 i) (0 : Int32).toNatClampNeg (0 : Int32).toNatClampNeg (6 : Int32).toNatClampNeg)) 17 i (va_cpy (gA (sA w 16 i (va_cpy (gA w 16 j) (gA w 16 i) (0 : Int32).toNatClampNeg (0 : Int32).toNatClampNeg (6 : Int32).toNatClampNeg)) 17 j) (gA (sA w 16 i (va_cpy (gA w 16 j) (gA w 16 i) (0 : Int32).toNatClampNeg (0 : Int32).toNatClampNeg (6 : Int32).toNatClampNeg)) 17 i) (0 : Int32).toNatClampNeg (0 : Int32).toNatClampNeg (6 : Int32).toNatClampNeg)) 18 i (va_cpy (gA (sA (sA w 16 i (va_cpy (gA w 16 j) (gA w 16 i) (0 : Int32).toNatClampNeg (0 : Int32).toNatClampNeg (6 : Int32).toNatClampNeg)) 17 i (va_cpy (gA (sA w 16 i (va_cpy (gA w 16 j) (gA w 16 i) (0 : Int32).toNatClampNeg (0 : Int32).toNatClampNeg (6 : Int32).toNatClampNeg)) 17 j) (gA (sA w 16 i (va_cpy (gA w 16 j) (gA w 16 i) (0 : Int32).toNatClampNeg (0 : Int32).toNatClampNeg (6 : Int32).toNatClampNeg)) 17 i) (0 : Int32).toNatClampNeg (0 : Int32).toNatClampNeg (6 : Int32).toNatClampNeg)) 18 j) (gA (sA (sA w 16 i (va_cpy (gA w 16 j) (gA w 16 i) (0 : Int32).toNatClampNeg (0 : Int32).toNatClampNeg (6 : Int32).toNatClampNeg)) 17 i (va_cpy (gA (sA w 16 i (va_cpy (gA w 16 j) (gA w 16 i) (0 : Int32).toNatClampNeg (0 : Int32).toNatClampNeg (6 : Int32).toNatClampNeg)) 17 j) (gA (sA w 16 i (va_cpy (gA w 16 j) (gA w 16 i) (0 : Int32).toNatClampNeg (0 : Int32).toNatClampNeg (6 : Int32).toNatClampNeg)) 17 i) (0 : Int32).toNatClampNeg (0 : Int32).toNatClampNeg (6 : Int32).toNatClampNeg)) 18 i) (0 : Int32).toNatClampNeg (0 : Int32).toNatClampNeg (6 : Int32).toNatClampNeg)) 19 i (va_cpy (gA (sA (sA (sA w 16 i (va_cpy (gA w 16 j) (gA w 16 i) (0 : Int32).toNatClampNeg (0 : Int32).toNatClampNeg (6 : Int32).toNatClampNeg)) 17 i (va_cpy (gA (sA w 16 i (va_cpy (gA w 16 j) (gA w 16 i) (0 : Int32).toNatClampNeg (0 : Int32).toNatClampNeg (6 : Int32).toNatClampNeg)) 17 j) (gA (sA w 16 i (va_cpy (gA w 16 j) (gA w 16 i) (0 : Int32).toNatClampNeg (0 : Int32).toNatClampNeg (6 : Int32).toNatClampNeg)) 17 i) (0 : Int32).toNatClampNeg (0 : Int32).toNatClampNeg (6 : Int32).toNatClampNeg)) 18 i (va_cpy (gA (sA (sA w 16 i (va_cpy (gA w 16 j) (gA w 16 i) (0 : Int32).toNatClampNeg (0 : Int32).toNatClampNeg (6 : Int32).toNatClampNeg)) 17 i (va_cpy (gA (sA w 16 i (va_cpy (gA w 16 j) (gA w 16 i) (0 : Int32).toNatClampNeg (0 : Int32).toNatClampNeg (6 : Int32).toNatClampNeg)) 17 j) (gA (sA w 16 i (va_cpy (gA w 16 j) (gA w 16 i) (0 : Int32).toNatClampNeg (0 : Int32).toNatClampNeg (6 : Int32).toNatClampNeg)) 17 i) (0 : Int32).toNatClampNeg (0 : Int32).toNatClampNeg (6 : Int32).toNatClampNeg)) 18 j) (gA (sA (sA w 16 i (va_cpy (gA w 16 j) (gA w 16 i) (0 : Int32).toNatClampNeg (0 : Int32).toNatClampNeg (6 : Int32).toNatClampNeg)) 17 i (va_cpy (gA (sA w 16 i (va_cpy (gA w 16 j) (gA w 16 i) (0 : Int32).toNatClampNeg (0 : Int32).toNatClampNeg (6 : Int32).toNatClampNeg)) 17 j) (gA (sA w 16 i (va_cpy (gA w 16 j) (gA w 16 i) (0 : Int32).toNatClampNeg (0 : Int32).toNatClampNeg (6 : Int32).toNatClampNeg)) 17 i) (0 : Int32).toNatClampNeg (0 : Int32).toNatClampNeg (6 : Int32).toNatClampNeg)) 18 i) (0 : Int32).toNatClampNeg (0 : Int32).toNatClampNeg (6 : Int32).toNatClampNeg)) 19 j) (gA (sA (sA (sA w 16 i (va_cpy (gA w 16 j) (gA w 16 i) (0 : Int32).toNatClampNeg (0 : Int32).toNatClampNeg (6 : Int32).toNatClampNeg)) 17 i (va_cpy (gA (sA w 16 i (va_cpy (gA w 16 j) (gA w 16 i) (0 : Int32).toNatClampNeg (0 : Int32).toNatClampNeg (6 : Int32).toNatClampNeg)) 17 j) (gA (sA w 16 i (va_cpy (gA w 16 j) (gA w 16 i) (0 : Int32).toNatClampNeg (0 : Int32).toNatClampNeg (6 : Int32).toNatClampNeg)) 17 i) (0 : Int32).toNatClampNeg (0 : Int32).toNatClampNeg (6 : Int32).toNatClampNeg)) 18 i (va_cpy (gA (sA (sA w 16 i (va_cpy (gA w 16 j) (gA w 16 i) (0 : Int32).toNatClampNeg (0 : Int32).toNatClampNeg (6 : Int32).toNatClampNeg)) 17 i (va_cpy (gA (sA w 16 i (va_cpy (gA w 16 j) (gA w 16 i) (0 : Int32).toNatClampNeg (0 : Int32).toNatClampNeg (6 : Int32).toNatClampNeg)) 17 j) (gA (sA w 16 i (va_cpy (gA w 16 j) (gA w 16 i) (0 : Int32).toNatClampNeg (0 : Int32).toNatClampNeg (6 : Int32).toNatClampNeg)) 17 i) (0 : Int32).toNatClampNeg (0 : Int32).toNatClampNeg (6 : Int32).toNatClampNeg)) 18 j) (gA (sA (sA w 16 i (va_cpy (gA w 16 j) (gA w 16 i) (0 : Int32).toNatClampNeg (0 : Int32).toNatClampNeg (6 : Int32).toNatClampNeg)) 17 i (va_cpy (gA (sA w 16 i (va_cpy (gA w 16 j) (gA w 16 i) (0 : Int32).toNatClampNeg (0 : Int32).toNatClampNeg (6 : Int32).toNatClampNeg)) 17 j) (gA (sA w 16 i (va_cpy (gA w 16 j) (gA w 16 i) (0 : Int32).toNatClampNeg (0 : Int32).toNatClampNeg (6 : Int32).toNatClampNeg)) 17 i) (0 : Int32).toNatClampNeg (0 : Int32).toNatClampNeg (6 : Int32).toNatClampNeg)) 18 i) (0 : Int32).toNatClampNeg (0 : Int32).toNatClampNeg (6 : Int32).toNatClampNeg)) 19 i) (0 : Int32).toNatClampNeg (0 : Int32).toNatClampNeg (42 : Int32).toNatClampNeg)) 4 j)) 5 j)) 6 i (gI (sI (sI (sA (sA (sA (sA w 16 i (va_cpy (gA w 16 j) (gA w 16 i) (0 : Int32).toNatClampNeg (0 : Int32).toNatClampNeg (6 : Int32).toNatClampNeg)) 17 i (va_cpy (gA (sA w 16 i (va_cpy (gA w 16 j) (gA w 16 i) (0 : Int32).toNatClampNeg (0 : Int32).toNatClampNeg (6 : Int32).toNatClampNeg)) 17 j) (gA (sA w 16 i (va_cpy (gA w 16 j) (gA w 16 i) (0 : Int32).toNatClampNeg (0 : Int32).toNatClampNeg (6 : Int32).toNatClampNeg)) 17 i) (0 : Int32).toNatClampNeg (0 : Int32).toNatClampNeg (6 : Int32).toNatClampNeg)) 18 i (va_cpy (gA (sA (sA w 16 i (va_cpy (gA w 16 j) (gA w 16 i) (0 : Int32).toNatClampNeg (0 : Int32).toNatClampNeg (6 : Int32).toNatClampNeg)) 17 i (va_cpy (gA (sA w 16 i (va_cpy (gA w 16 j) (gA w 16 i) (0 : Int32).toNatClampNeg (0 : Int32).toNatClampNeg (6 : Int32).toNatClampNeg)) 17 j) (gA (sA w 16 i (va_cpy (gA w 16 j) (gA w 16 i) (0 : Int32).toNatClampNeg (0 : Int32).toNatClampNeg (6 : Int32).toNatClampNeg)) 17 i) (0 : Int32).toNatClampNeg (0 : Int32).toNatClampNeg (6 : Int32).toNatClampNeg)) 18 j) (gA (sA (sA w 16 i (va_cpy (gA w 16 j) (gA w 16 i) (0 : Int32).toNatClampNeg (0 : Int32).toNatClampNeg (6 : Int32).toNatClampNeg)) 17 i (va_cpy (gA (sA w 16 i (va_cpy (gA w 16 j) (gA w 16 i) (0 : Int32).toNatClampNeg (0 : Int32).toNatClampNeg (6 : Int32).toNatClampNeg)) 17 j) (gA (sA w 16 i (va_cpy (gA w 16 j) (gA w 16 i) (0 : Int32).toNatClampNeg (0 : Int32).toNatClampNeg (6 : Int32).toNatClampNeg)) 17 i) (0 : Int32).toNatClampNeg (0 : Int32).toNatClampNeg (6 : Int32).toNatClampNeg)) 18 i) (0 : Int32).toNatClampNeg (0 : Int32).toNatClampNeg (6 : Int32).toNatClampNeg)) 19 i (va_cpy (gA (sA (sA (sA w 16 i (va_cpy (gA w 16 j) (gA w 16 i) (0 : Int32).toNatClampNeg (0 : Int32).toNatClampNeg (6 : Int32).toNatClampNeg)) 17 i (va_cpy (gA (sA w 16 i (va_cpy (gA w 16 j) (gA w 16 i) (0 : Int32).toNatClampNeg (0 : Int32).toNatClampNeg (6 : Int32).toNatClampNeg)) 17 j) (gA (sA w 16 i (va_cpy (gA w 16 j) (gA w 16 i) (0 : Int32).toNatClampNeg (0 : Int32).toNatClampNeg (6 : Int32).toNatClampNeg)) 17 i) (0 : Int32).toNatClampNeg (0 : Int32).toNatClampNeg (6 : Int32).toNatClampNeg)) 18 i (va_cpy (gA (sA (sA w 16 i (va_cpy (gA w 16 j) (gA w 16 i) (0 : Int32).toNatClampNeg (0 : Int32).toNatClampNeg (6 : Int32).toNatClampNeg)) 17 i (va_cpy (gA (sA w 16 i (va_cpy (gA w 16 j) (gA w 16 i) (0 : Int32).toNatClampNeg (0 : Int32).toNatClampNeg (6 : Int32).toNatClampNeg)) 17 j) (gA (sA w 16 i (va_cpy (gA w 16 j) (gA w 16 i) (0 : Int32).toNatClampNeg (0 : Int32).toNatClampNeg (6 : Int32).toNatClampNeg)) 17 i) (0 : Int32).toNatClampNeg (0 : Int32).toNatClampNeg (6 : Int32).toNatClampNeg)) 18 j) (gA (sA (sA w 16 i (va_cpy (gA w 16 j) (gA w 16 i) (0 : Int32).toNatClampNeg (0 : Int32).toNatClampNeg (6 : Int32).toNatClampNeg)) 17 i (va_cpy (gA (sA w 16 i (va_cpy (gA w 16 j) (gA w 16 i) (0 : Int32).toNatClampNeg (0 : Int32).toNatClampNeg (6 : Int32).toNatClampNeg)) 17 j) (gA (sA w 16 i (va_cpy (gA w 16 j) (gA w 16 i) (0 : Int32).toNatClampNeg (0 : Int32).toNatClampNeg (6 : Int32).toNatClampNeg)) 17 i) (0 : Int32).toNatClampNeg (0 : Int32).toNatClampNeg (6 : Int32).toNatClampNeg)) 18 i) (0 : Int32).toNatClampNeg (0 : Int32).toNatClampNeg (6 : Int32).toNatClampNeg)) 19 j) (gA (sA (sA (sA w 16 i (va_cpy (gA w 16 j) (gA w 16 i) (0 : Int32).toNatClampNeg (0 : Int32).toNatClampNeg (6 : Int32).toNatClampNeg)) 17 i (va_cpy (gA (sA w 16 i (va_cpy (gA w 16 j) (gA w 16 i) (0 : Int32).toNatClampNeg (0 : Int32).toNatClampNeg (6 : Int32).toNatClampNeg)) 17 j) (gA (sA w 16 i (va_cpy (gA w 16 j) (gA w 16 i) (0 : Int32).toNatClampNeg (0 : Int32).toNatClampNeg (6 : Int32).toNatClampNeg)) 17 i) (0 : Int32).toNatClampNeg (0 : Int32).toNatClampNeg (6 : Int32).toNatClampNeg)) 18 i (va_cpy (gA (sA (sA w 16 i (va_cpy (gA w 16 j) (gA w 16 i) (0 : Int32).toNatClampNeg (0 : Int32).toNatClampNeg (6 : Int32).toNatClampNeg)) 17 i (va_cpy (gA (sA w 16 i (va_cpy (gA w 16 j) (gA w 16 i) (0 : Int32).toNatClampNeg (0 : Int32).toNatClampNeg (6 : Int32).toNatClampNeg)) 17 j) (gA (sA w 16 i (va_cpy (gA w 16 j) (gA w 16 i) (0 : Int32).toNatClampNeg (0 : Int32).toNatClampNeg (6 : Int32).toNatClampNeg)) 17 i) (0 : Int32).toNatClampNeg (0 : Int32).toNatClampNeg (6 : Int32).toNatClampNeg)) 18 j) (gA (sA (sA w 16 i (va_cpy (gA w 16 j) (gA w 16 i) (0 : Int32).toNatClampNeg (0 : Int32).toNatClampNeg (6 : Int32).toNatClampNeg)) 17 i (va_cpy (gA (sA w 16 i (va_cpy (gA w 16 j) (gA w 16 i) (0 : Int32).toNatClampNeg (0 : Int32).toNatClampNeg (6 : Int32).toNatClampNeg)) 17 j) (gA (sA w 16 i (va_cpy (gA w 16 j) (gA w 16 i) (0 : Int32).toNatClampNeg (0 : Int32).toNatClampNeg (6 : Int32).toNatClampNeg)) 17 i) (0 : Int32).toNatClampNeg (0 : Int32).toNatClampNeg (6 : Int32).toNatClampNeg)) 18 i) (0 : Int32).toNatClampNeg (0 : Int32).toNatClampNeg (6 : Int32).toNatClampNeg)) 19 i) (0 : Int32).toNatClampNeg (0 : Int32).toNatClampNeg (42 : Int32).toNatClampNeg)) 4 i (gI (sA (sA (sA (sA w 16 i (va_cpy (gA w 16 j) (gA w 16 i) (0 : Int32).toNatClampNeg (0 : Int32).toNatClampNeg (6 : Int32).toNatClampNeg)) 17 i (va_cpy (gA (sA w 16 i (va_cpy (gA w 16 j) (gA w 16 i) (0 : Int32).toNatClampNeg (0 : Int32).toNatClampNeg (6 : Int32).toNatClampNeg)) 17 j) (gA (sA w 16 i (va_cpy (gA w 16 j) (gA w 16 i) (0 : Int32).toNatClampNeg (0 : Int32).toNatClampNeg (6 : Int32).toNatClampNeg)) 17 i) (0 : Int32).toNatClampNeg (0 : Int32).toNatClampNeg (6 : Int32).toNatClampNeg)) 18 i (va_cpy (gA (sA (sA w 16 i (va_cpy (gA w 16 j) (gA w 16 i) (0 : Int32).toNatClampNeg (0 : Int32).toNatClampNeg (6 : Int32).toNatClampNeg)) 17 i (va_cpy (gA (sA w 16 i (va_cpy (gA w 16 j) (gA w 16 i) (0 : Int32).toNatClampNeg (0 : Int32).toNatClampNeg (6 : Int32).toNatClampNeg)) 17 j) (gA (sA w 16 i (va_cpy (gA w 16 j) (gA w 16 i) (0 : Int32).toNatClampNeg (0 : Int32).toNatClampNeg (6 : Int32).toNatClampNeg)) 17 i) (0 : Int32).toNatClampNeg (0 : Int32).toNatClampNeg (6 : Int32).toNatClampNeg)) 18 j) (gA (sA (sA w 16 i (va_cpy (gA w 16 j) (gA w 16 i) (0 : Int32).toNatClampNeg (0 : Int32).toNatClampNeg (6 : Int32).toNatClampNeg)) 17 i (va_cpy (gA (sA w 16 i (va_cpy (gA w 16 j) (gA w 16 i) (0 : Int32).toNatClampNeg (0 : Int32).toNatClampNeg (6 : Int32).toNatClampNeg)) 17 j) (gA (sA w 16 i (va_cpy (gA w 16 j) (gA w 16 i) (0 : Int32).toNatClampNeg (0 : Int32).toNatClampNeg (6 : Int32).toNatClampNeg)) 17 i) (0 : Int32).toNatClampNeg (0 : Int32).toNatClampNeg (6 : Int32).toNatClampNeg)) 18 i) (0 : Int32).toNatClampNeg (0 : Int32).toNatClampNeg (6 : Int32).toNatClampNeg)) 19 i (va_cpy (gA (sA (sA (sA w 16 i (va_cpy (gA w 16 j) (gA w 16 i) (0 : Int32).toNatClampNeg (0 : Int32).toNatClampNeg (6 : Int32).toNatClampNeg)) 17 i (va_cpy (gA (sA w 16 i (va_cpy (gA w 16 j) (gA w 16 i) (0 : Int32).toNatClampNeg (0 : Int32).toNatClampNeg (6 : Int32).toNatClampNeg)) 17 j) (gA (sA w 16 i (va_cpy (gA w 16 j) (gA w 16 i) (0 : Int32).toNatClampNeg (0 : Int32).toNatClampNeg (6 : Int32).toNatClampNeg)) 17 i) (0 : Int32).toNatClampNeg (0 : Int32).toNatClampNeg (6 : Int32).toNatClampNeg)) 18 i (va_cpy (gA (sA (sA w 16 i (va_cpy (gA w 16 j) (gA w 16 i) (0 : Int32).toNatClampNeg (0 : Int32).toNatClampNeg (6 : Int32).toNatClampNeg)) 17 i (va_cpy (gA (sA w 16 i (va_cpy (gA w 16 j) (gA w 16 i) (0 : Int32).toNatClampNeg (0 : Int32).toNatClampNeg (6 : Int32).toNatClampNeg)) 17 j) (gA (sA w 16 i (va_cpy (gA w 16 j) (gA w 16 i) (0 : Int32).toNatClampNeg (0 : Int32).toNatClampNeg (6 : Int32).toNatClampNeg)) 17 i) (0 : Int32).toNatClampNeg (0 : Int32).toNatClampNeg (6 : Int32).toNatClampNeg)) 18 j) (gA (sA (sA w 16 i (va_cpy (gA w 16 j) (gA w 16 i) (0 : Int32).toNatClampNeg (0 : Int32).toNatClampNeg (6 : Int32).toNatClampNeg)) 17 i (va_cpy (gA (sA w 16 i (va_cpy (gA w 16 j) (gA w 16 i) (0 : Int32).toNatClampNeg (0 : Int32).toNatClampNeg (6 : Int32).toNatClampNeg)) 17 j) (gA (sA w 16 i (va_cpy (gA w 16 j) (gA w 16 i) (0 : Int32).toNatClampNeg (0 : Int32).toNatClampNeg (6 : Int32).toNatClampNeg)) 17 i) (0 : Int32).toNatClampNeg (0 : Int32).toNatClampNeg (6 : Int32).toNatClampNeg)) 18 i) (0 : Int32).toNatClampNeg (0 : Int32).toNatClampNeg (6 : Int32).toNatClampNeg)) 19 j) (gA (sA (sA (sA w 16 i (va_cpy (gA w 16 j) (gA w 16 i) (0 : Int32).toNatClampNeg (0 : Int32).toNatClampNeg (6 : Int32).toNatClampNeg)) 17 i (va_cpy (gA (sA w 16 i (va_cpy (gA w 16 j) (gA w 16 i) (0 : Int32).toNatClampNeg (0 : Int32).toNatClampNeg (6 : Int32).toNatClampNeg)) 17 j) (gA (sA w 16 i (va_cpy (gA w 16 j) (gA w 16 i) (0 : Int32).toNatClampNeg (0 : Int32).toNatClampNeg (6 : Int32).toNatClampNeg)) 17 i) (0 : Int32).toNatClampNeg (0 : Int32).toNatClampNeg (6 : Int32).toNatClampNeg)) 18 i (va_cpy (gA (sA (sA w 16 i (va_cpy (gA w 16 j) (gA w 16 i) (0 : Int32).toNatClampNeg (0 : Int32).toNatClampNeg (6 : Int32).toNatClampNeg)) 17 i (va_cpy (gA (sA w 16 i (va_cpy (gA w 16 j) (gA w 16 i) (0 : Int32).toNatClampNeg (0 : Int32).toNatClampNeg (6 : Int32).toNatClampNeg)) 17 j) (gA (sA w 16 i (va_cpy (gA w 16 j) (gA w 16 i) (0 : Int32).toNatClampNeg (0 : Int32).toNatClampNeg (6 : Int32).toNatClampNeg)) 17 i) (0 : Int32).toNatClampNeg (0 : Int32).toNatClampNeg (6 : Int32).toNatClampNeg)) 18 j) (gA (sA (sA w 16 i (va_cpy (gA w 16 j) (gA w 16 i) (0 : Int32).toNatClampNeg (0 : Int32).toNatClampNeg (6 : Int32).toNatClampNeg)) 17 i (va_cpy (gA (sA w 16 i (va_cpy (gA w 16 j) (gA w 16 i) (0 : Int32).toNatClampNeg (0 : Int32).toNatClampNeg (6 : Int32).toNatClampNeg)) 17 j) (gA (sA w 16 i (va_cpy (gA w 16 j) (gA w 16 i) (0 : Int32).toNatClampNeg (0 : Int32).toNatClampNeg (6 : Int32).toNatClampNeg)) 17 i) (0 : Int32).toNatClampNeg (0 : Int32).toNatClampNeg (6 : Int32).toNatClampNeg)) 18 i) (0 : Int32).toNatClampNeg (0 : Int32).toNatClampNeg (6 : Int32).toNatClampNeg)) 19 i) (0 : Int32).toNatClampNeg (0 : Int32).toNatClampNeg (42 : Int32).toNatClampNeg)) 4 j)) 5 i (gI (sI (sA (sA (sA (sA w 16 i (va_cpy (gA w 16 j) (gA w 16 i) (0 : Int32).toNatClampNeg (0 : Int32).toNatClampNeg (6 : Int32).toNatClampNeg)) 17 i (va_cpy (gA (sA w 16 i (va_cpy (gA w 16 j) (gA w 16 i) (0 : Int32).toNatClampNeg (0 : Int32).toNatClampNeg (6 : Int32).toNatClampNeg)) 17 j) (gA (sA w 16 i (va_cpy (gA w 16 j) (gA w 16 i) (0 : Int32).toNatClampNeg (0 : Int32).toNatClampNeg (6 : Int32).toNatClampNeg)) 17 i) (0 : Int32).toNatClampNeg (0 : Int32).toNatClampNeg (6 : Int32).toNatClampNeg)) 18 i (va_cpy (gA (sA (sA w 16 i (va_cpy (gA w 16 j) (gA w 16 i) (0 : Int32).toNatClampNeg (0 : Int32).toNatClampNeg (6 : Int32).toNatClampNeg)) 17 i (va_cpy (gA (sA w 16 i (va_cpy (gA w 16 j) (gA w 16 i) (0 : Int32).toNatClampNeg (0 : Int32).toNatClampNeg (6 : Int32).toNatClampNeg)) 17 j) (gA (sA w 16 i (va_cpy (gA w 16 j) (gA w 16 i) (0 : Int32).toNatClampNeg (0 : Int32).toNatClampNeg (6 : Int32).toNatClampNeg)) 17 i) (0 : Int32).toNatClampNeg (0 : Int32).toNatClampNeg (6 : Int32).toNatClampNeg)) 18 j) (gA (sA (sA w 16 i (va_cpy (gA w 16 j) (gA w 16 i) (0 : Int32).toNatClampNeg (0 : Int32).toNatClampNeg (6 : Int32).toNatClampNeg)) 17 i (va_cpy (gA (sA w 16 i (va_cpy (gA w 16 j) (gA w 16 i) (0 : Int32).toNatClampNeg (0 : Int32).toNatClampNeg (6 : Int32).toNatClampNeg)) 17 j) (gA (sA w 16 i (va_cpy (gA w 16 j) (gA w 16 i) (0 : Int32).toNatClampNeg (0 : Int32).toNatClampNeg (6 : Int32).toNatClampNeg)) 17 i) (0 : Int32).toNatClampNeg (0 : Int32).toNatClampNeg (6 : Int32).toNatClampNeg)) 18 i) (0 : Int32).toNatClampNeg (0 : Int32).toNatClampNeg (6 : Int32).toNatClampNeg)) 19 i (va_cpy (gA (sA (sA (sA w 16 i (va_cpy (gA w 16 j) (gA w 16 i) (0 : Int32).toNatClampNeg (0 : Int32).toNatClampNeg (6 : Int32).toNatClampNeg)) 17 i (va_cpy (gA (sA w 16 i (va_cpy (gA w 16 j) (gA w 16 i) (0 : Int32).toNatClampNeg (0 : Int32).toNatClampNeg (6 : Int32).toNatClampNeg)) 17 j) (gA (sA w 16 i (va_cpy (gA w 16 j) (gA w 16 i) (0 : Int32).toNatClampNeg (0 : Int32).toNatClampNeg (6 : Int32).toNatClampNeg)) 17 i) (0 : Int32).toNatClampNeg (0 : Int32).toNatClampNeg (6 : Int32).toNatClampNeg)) 18 i (va_cpy (gA (sA (sA w 16 i (va_cpy (gA w 16 j) (gA w 16 i) (0 : Int32).toNatClampNeg (0 : Int32).toNatClampNeg (6 : Int32).toNatClampNeg)) 17 i (va_cpy (gA (sA w 16 i (va_cpy (gA w 16 j) (gA w 16 i) (0 : Int32).toNatClampNeg (0 : Int32).toNatClampNeg (6 : Int32).toNatClampNeg)) 17 j) (gA (sA w 16 i (va_cpy (gA w 16 j) (gA w 16 i) (0 : Int32).toNatClampNeg (0 : Int32).toNatClampNeg (6 : Int32).toNatClampNeg)) 17 i) (0 : Int32).toNatClampNeg (0 : Int32).toNatClampNeg (6 : Int32).toNatClampNeg)) 18 j) (gA (sA (sA w 16 i (va_cpy (gA w 16 j) (gA w 16 i) (0 : Int32).toNatClampNeg (0 : Int32).toNatClampNeg (6 : Int32).toNatClampNeg)) 17 i (va_cpy (gA (sA w 16 i (va_cpy (gA w 16 j) (gA w 16 i) (0 : Int32).toNatClampNeg (0 : Int32).toNatClampNeg (6 : Int32).toNatClampNeg)) 17 j) (gA (sA w 16 i (va_cpy (gA w 16 j) (gA w 16 i) (0 : Int32).toNatClampNeg (0 : Int32).toNatClampNeg (6 : Int32).toNatClampNeg)) 17 i) (0 : Int32).toNatClampNeg (0 : Int32).toNatClampNeg (6 : Int32).toNatClampNeg)) 18 i) (0 : Int32).toNatClampNeg (0 : Int32).toNatClampNeg (6 : Int32).toNatClampNeg)) 19 j) (gA (sA (sA (sA w 16 i (va_cpy (gA w 16 j) (gA w 16 i) (0 : Int32).toNatClampNeg (0 : Int32).toNatClampNeg (6 : Int32).toNatClampNeg)) 17 i (va_cpy (gA (sA w 16 i (va_cpy (gA w 16 j) (gA w 16 i) (0 : Int32).toNatClampNeg (0 : Int32).toNatClampNeg (6 : Int32).toNatClampNeg)) 17 j) (gA (sA w 16 i (va_cpy (gA w 16 j) (gA w 16 i) (0 : Int32).toNatClampNeg (0 : Int32).toNatClampNeg (6 : Int32).toNatClampNeg)) 17 i) (0 : Int32).toNatClampNeg (0 : Int32).toNatClampNeg (6 : Int32).toNatClampNeg)) 18 i (va_cpy (gA (sA (sA w 16 i (va_cpy (gA w 16 j) (gA w 16 i) (0 : Int32).toNatClampNeg (0 : Int32).toNatClampNeg (6 : Int32).toNatClampNeg)) 17 i (va_cpy (gA (sA w 16 i (va_cpy (gA w 16 j) (gA w 16 i) (0 : Int32).toNatClampNeg (0 : Int32).toNatClampNeg (6 : Int32).toNatClampNeg)) 17 j) (gA (sA w 16 i (va_cpy (gA w 16 j) (gA w 16 i) (0 : Int32).toNatClampNeg (0 : Int32).toNatClampNeg (6 : Int32).toNatClampNeg)) 17 i) (0 : Int32).toNatClampNeg (0 : Int32).toNatClampNeg (6 : Int32).toNatClampNeg)) 18 j) (gA (sA (sA w 16 i (va_cpy (gA w 16 j) (gA w 16 i) (0 : Int32).toNatClampNeg (0 : Int32).toNatClampNeg (6 : Int32).toNatClampNeg)) 17 i (va_cpy (gA (sA w 16 i (va_cpy (gA w 16 j) (gA w 16 i) (0 : Int32).toNatClampNeg (0 : Int32).toNatClampNeg (6 : Int32).toNatClampNeg)) 17 j) (gA (sA w 16 i (va_cpy (gA w 16 j) (gA w 16 i) (0 : Int32).toNatClampNeg (0 : Int32).toNatClampNeg (6 : Int32).toNatClampNeg)) 17 i) (0 : Int32).toNatClampNeg (0 : Int32).toNatClampNeg (6 : Int32).toNatClampNeg)) 18 i) (0 : Int32).toNatClampNeg (0 : Int32).toNatClampNeg (6 : Int32).toNatClampNeg)) 19 i) (0 : Int32).toNatClampNeg (0 : Int32).toNatClampNeg (42 : Int32).toNatClampNeg)) 4 i (gI (sA (sA (sA (sA w 16 i (va_cpy (gA w 16 j) (gA w 16 i) (0 : Int32).toNatClampNeg (0 : Int32).toNatClampNeg (6 : Int32).toNatClampNeg)) 17 i (va_cpy (gA (sA w 16 i (va_cpy (gA w 16 j) (gA w 16 i) (0 : Int32).toNatClampNeg (0 : Int32).toNatClampNeg (6 : Int32).toNatClampNeg)) 17 j) (gA (sA w 16 i (va_cpy (gA w 16 j) (gA w 16 i) (0 : Int32).toNatClampNeg (0 : Int32).toNatClampNeg (6 : Int32).toNatClampNeg)) 17 i) (0 : Int32).toNatClampNeg (0 : Int32).toNatClampNeg (6 : Int32).toNatClampNeg)) 18 i (va_cpy (gA (sA (sA w 16 i (va_cpy (gA w 16 j) (gA w 16 i) (0 : Int32).toNatClampNeg (0 : Int32).toNatClampNeg (6 : Int32).toNatClampNeg)) 17 i (va_cpy (gA (sA w 16 i (va_cpy (gA w 16 j) (gA w 16 i) (0 : Int32).toNatClampNeg (0 : Int32).toNatClampNeg (6 : Int32).toNatClampNeg)) 17 j) (gA (sA w 16 i (va_cpy (gA w 16 j) (gA w 16 i) (0 : Int32).toNatClampNeg (0 : Int32).toNatClampNeg (6 : Int32).toNatClampNeg)) 17 i) (0 : Int32).toNatClampNeg (0 : Int32).toNatClampNeg (6 : Int32).toNatClampNeg)) 18 j) (gA (sA (sA w 16 i (va_cpy (gA w 16 j) (gA w 16 i) (0 : Int32).toNatClampNeg (0 : Int32).toNatClampNeg (6 : Int32).toNatClampNeg)) 17 i (va_cpy (gA (sA w 16 i (va_cpy (gA w 16 j) (gA w 16 i) (0 : Int32).toNatClampNeg (0 : Int32).toNatClampNeg (6 : Int32).toNatClampNeg)) 17 j) (gA (sA w 16 i (va_cpy (gA w 16 j) (gA w 16 i) (0 : Int32).toNatClampNeg (0 : Int32).toNatClampNeg (6 : Int32).toNatClampNeg)) 17 i) (0 : Int32).toNatClampNeg (0 : Int32).toNatClampNeg (6 : Int32).toNatClampNeg)) 18 i) (0 : Int32).toNatClampNeg (0 : Int32).toNatClampNeg (6 : Int32).toNatClampNeg)) 19 i (va_cpy (gA (sA (sA (sA w 16 i (va_cpy (gA w 16 j) (gA w 16 i) (0 : Int32).toNatClampNeg (0 : Int32).toNatClampNeg (6 : Int32).toNatClampNeg)) 17 i (va_cpy (gA (sA w 16 i (va_cpy (gA w 16 j) (gA w 16 i) (0 : Int32).toNatClampNeg (0 : Int32).toNatClampNeg (6 : Int32).toNatClampNeg)) 17 j) (gA (sA w 16 i (va_cpy (gA w 16 j) (gA w 16 i) (0 : Int32).toNatClampNeg (0 : Int32).toNatClampNeg (6 : Int32).toNatClampNeg)) 17 i) (0 : Int32).toNatClampNeg (0 : Int32).toNatClampNeg (6 : Int32).toNatClampNeg)) 18 i (va_cpy (gA (sA (sA w 16 i (va_cpy (gA w 16 j) (gA w 16 i) (0 : Int32).toNatClampNeg (0 : Int32).toNatClampNeg (6 : Int32).toNatClampNeg)) 17 i (va_cpy (gA (sA w 16 i (va_cpy (gA w 16 j) (gA w 16 i) (0 : Int32).toNatClampNeg (0 : Int32).toNatClampNeg (6 : Int32).toNatClampNeg)) 17 j) (gA (sA w 16 i (va_cpy (gA w 16 j) (gA w 16 i) (0 : Int32).toNatClampNeg (0 : Int32).toNatClampNeg (6 : Int32).toNatClampNeg)) 17 i) (0 : Int32).toNatClampNeg (0 : Int32).toNatClampNeg (6 : Int32).toNatClampNeg)) 18 j) (gA (sA (sA w 16 i (va_cpy (gA w 16 j) (gA w 16 i) (0 : Int32).toNatClampNeg (0 : Int32).toNatClampNeg (6 : Int32).toNatClampNeg)) 17 i (va_cpy (gA (sA w 16 i (va_cpy (gA w 16 j) (gA w 16 i) (0 : Int32).toNatClampNeg (0 : Int32).toNatClampNeg (6 : Int32).toNatClampNeg)) 17 j) (gA (sA w 16 i (va_cpy (gA w 16 j) (gA w 16 i) (0 : Int32).toNatClampNeg (0 : Int32).toNatClampNeg (6 : Int32).toNatClampNeg)) 17 i) (0 : Int32).toNatClampNeg (0 : Int32).toNatClampNeg (6 : Int32).toNatClampNeg)) 18 i) (0 : Int32).toNatClampNeg (0 : Int32).toNatClampNeg (6 : Int32).toNatClampNeg)) 19 j) (gA (sA (sA (sA w 16 i (va_cpy (gA w 16 j) (gA w 16 i) (0 : Int32).toNatClampNeg (0 : Int32).toNatClampNeg (6 : Int32).toNatClampNeg)) 17 i (va_cpy (gA (sA w 16 i (va_cpy (gA w 16 j) (gA w 16 i) (0 : Int32).toNatClampNeg (0 : Int32).toNatClampNeg (6 : Int32).toNatClampNeg)) 17 j) (gA (sA w 16 i (va_cpy (gA w 16 j) (gA w 16 i) (0 : Int32).toNatClampNeg (0 : Int32).toNatClampNeg (6 : Int32).toNatClampNeg)) 17 i) (0 : Int32).toNatClampNeg (0 : Int32).toNatClampNeg (6 : Int32).toNatClampNeg)) 18 i (va_cpy (gA (sA (sA w 16 i (va_cpy (gA w 16 j) (gA w 16 i) (0 : Int32).toNatClampNeg (0 : Int32).toNatClampNeg (6 : Int32).toNatClampNeg)) 17 i (va_cpy (gA (sA w 16 i (va_cpy (gA w 16 j) (gA w 16 i) (0 : Int32).toNatClampNeg (0 : Int32).toNatClampNeg (6 : Int32).toNatClampNeg)) 17 j) (gA (sA w 16 i (va_cpy (gA w 16 j) (gA w 16 i) (0 : Int32).toNatClampNeg (0 : Int32).toNatClampNeg (6 : Int32).toNatClampNeg)) 17 i) (0 : Int32).toNatClampNeg (0 : Int32).toNatClampNeg (6 : Int32).toNatClampNeg)) 18 j) (gA (sA (sA w 16 i (va_cpy (gA w 16 j) (gA w 16 i) (0 : Int32).toNatClampNeg (0 : Int32).toNatClampNeg (6 : Int32).toNatClampNeg)) 17 i (va_cpy (gA (sA w 16 i (va_cpy (gA w 16 j) (gA w 16 i) (0 : Int32).toNatClampNeg (0 : Int32).toNatClampNeg (6 : Int32).toNatClampNeg)) 17 j) (gA (sA w 16 i (va_cpy (gA w 16 j) (gA w 16 i) (0 : Int32).toNatClampNeg (0 : Int32).toNatClampNeg (6 : Int32).toNatClampNeg)) 17 i) (0 : Int32).toNatClampNeg (0 : Int32).toNatClampNeg (6 : Int32).toNatClampNeg)) 18 i) (0 : Int32).toNatClampNeg (0 : Int32).toNatClampNeg (6 : Int32).toNatClampNeg)) 19 i) (0 : Int32).toNatClampNeg (0 : Int32).toNatClampNeg (42 : Int32).toNatClampNeg)) 4 j)) 5 j)) 6 j))))))
set_option maxRecDepth 20000 in
set_option maxHeartbeats 4000000 in
theorem s_X0_become (G : GT) (l : Launch) (N : Nat) (i : Nat) (j : Nat) (hi : i < 2) (hj : j < 2) (w : Wd) (q : Wd) (h : f_X0_become N i j w = some q) : Sp G l yX0_become cw_X0_become 1 [vr 3 i, vr 3 j] w none q := by
  refine Sp_of (own := RX0) [some (vr 3 i), some (vr 3 j)] (by decide) rfl rfl (Nat.le_of_ble_eq_true rfl) ?_
  intro x hG hl hC hr hQ _ _
  subst hG
  subst hl
  unfold f_X0_become at h
  refine Z_aload_n hC (dk d_X0_become 0 rfl) 1 rfl rfl rfl ?_
  refine G_X0_9 hC (m_3 hj) (dk d_X0_become 1 rfl) 4 rfl ?_
  refine Z_iconst (v := 0) hC (dk d_X0_become 2 rfl) 5 rfl (by decide) ?_
  refine Z_aload_n hC (dk d_X0_become 3 rfl) 6 rfl rfl rfl ?_
  refine G_X0_9 hC (m_3 hi) (dk d_X0_become 4 rfl) 9 rfl ?_
  refine Z_iconst (v := 0) hC (dk d_X0_become 5 rfl) 10 rfl (by decide) ?_
  refine Z_bipush (v := 6) hC (dk d_X0_become 6 rfl) 12 rfl (by decide) ?_
  obtain ⟨g1, h⟩ := gd_some h
  refine Z_copy hC (m_16 hj) (m_16 hi) (by decide) (by decide) rfl rfl ml_X0_38 wac_native wac_static wini_J10 g1.1 g1.2.1 g1.2.2.1 g1.2.2.2.1 g1.2.2.2.2 (by decide) rfl (Nat.le_of_ble_eq_true rfl) (dk d_X0_become 7 rfl) 15 rfl ?_
  refine Z_aload_n hC (dk d_X0_become 8 rfl) 16 rfl rfl rfl ?_
  refine G_X0_15 hC (m_3 hj) (dk d_X0_become 9 rfl) 19 rfl ?_
  refine Z_iconst (v := 0) hC (dk d_X0_become 10 rfl) 20 rfl (by decide) ?_
  refine Z_aload_n hC (dk d_X0_become 11 rfl) 21 rfl rfl rfl ?_
  refine G_X0_15 hC (m_3 hi) (dk d_X0_become 12 rfl) 24 rfl ?_
  refine Z_iconst (v := 0) hC (dk d_X0_become 13 rfl) 25 rfl (by decide) ?_
  refine Z_bipush (v := 6) hC (dk d_X0_become 14 rfl) 27 rfl (by decide) ?_
  obtain ⟨g2, h⟩ := gd_some h
  refine Z_copy hC (m_17 hj) (m_17 hi) (by decide) (by decide) rfl rfl ml_X0_38 wac_native wac_static wini_J10 g2.1 g2.2.1 g2.2.2.1 g2.2.2.2.1 g2.2.2.2.2 (by decide) rfl (Nat.le_of_ble_eq_true rfl) (dk d_X0_become 15 rfl) 30 rfl ?_
  refine Z_aload_n hC (dk d_X0_become 16 rfl) 31 rfl rfl rfl ?_
  refine G_X0_18 hC (m_3 hj) (dk d_X0_become 17 rfl) 34 rfl ?_
  refine Z_iconst (v := 0) hC (dk d_X0_become 18 rfl) 35 rfl (by decide) ?_
  refine Z_aload_n hC (dk d_X0_become 19 rfl) 36 rfl rfl rfl ?_
  refine G_X0_18 hC (m_3 hi) (dk d_X0_become 20 rfl) 39 rfl ?_
  refine Z_iconst (v := 0) hC (dk d_X0_become 21 rfl) 40 rfl (by decide) ?_
  refine Z_bipush (v := 6) hC (dk d_X0_become 22 rfl) 42 rfl (by decide) ?_
  obtain ⟨g3, h⟩ := gd_some h
  refine Z_copy hC (m_18 hj) (m_18 hi) (by decide) (by decide) rfl rfl ml_X0_38 wac_native wac_static wini_J10 g3.1 g3.2.1 g3.2.2.1 g3.2.2.2.1 g3.2.2.2.2 (by decide) rfl (Nat.le_of_ble_eq_true rfl) (dk d_X0_become 23 rfl) 45 rfl ?_
  refine Z_aload_n hC (dk d_X0_become 24 rfl) 46 rfl rfl rfl ?_
  refine G_X0_21 hC (m_3 hj) (dk d_X0_become 25 rfl) 49 rfl ?_
  refine Z_iconst (v := 0) hC (dk d_X0_become 26 rfl) 50 rfl (by decide) ?_
  refine Z_aload_n hC (dk d_X0_become 27 rfl) 51 rfl rfl rfl ?_
  refine G_X0_21 hC (m_3 hi) (dk d_X0_become 28 rfl) 54 rfl ?_
  refine Z_iconst (v := 0) hC (dk d_X0_become 29 rfl) 55 rfl (by decide) ?_
  refine Z_aload_n hC (dk d_X0_become 30 rfl) 56 rfl rfl rfl ?_
  refine G_X0_21 hC (m_3 hi) (dk d_X0_become 31 rfl) 59 rfl ?_
  refine Z_alen (v := 42) hC (m_19 hi) (by decide) (by decide) (by decide) (dk d_X0_become 32 rfl) 60 rfl ?_
  obtain ⟨g4, h⟩ := gd_some h
  refine Z_copy hC (m_19 hj) (m_19 hi) (by decide) (by decide) rfl rfl ml_X0_38 wac_native wac_static wini_J10 g4.1 g4.2.1 g4.2.2.1 g4.2.2.2.1 g4.2.2.2.2 (by decide) rfl (Nat.le_of_ble_eq_true rfl) (dk d_X0_become 33 rfl) 63 rfl ?_
  refine Z_aload_n hC (dk d_X0_become 34 rfl) 64 rfl rfl rfl ?_
  refine Z_aload_n hC (dk d_X0_become 35 rfl) 65 rfl rfl rfl ?_
  refine G_X0_28 hC (m_3 hj) (dk d_X0_become 36 rfl) 68 rfl ?_
  refine P_X0_28 hC (m_3 hi) (dk d_X0_become 37 rfl) 71 rfl ?_
  refine Z_aload_n hC (dk d_X0_become 38 rfl) 72 rfl rfl rfl ?_
  refine Z_aload_n hC (dk d_X0_become 39 rfl) 73 rfl rfl rfl ?_
  refine G_X0_31 hC (m_3 hj) (dk d_X0_become 40 rfl) 76 rfl ?_
  refine P_X0_31 hC (m_3 hi) (dk d_X0_become 41 rfl) 79 rfl ?_
  refine Z_aload_n hC (dk d_X0_become 42 rfl) 80 rfl rfl rfl ?_
  refine Z_aload_n hC (dk d_X0_become 43 rfl) 81 rfl rfl rfl ?_
  refine G_X0_24 hC (m_3 hj) (dk d_X0_become 44 rfl) 84 rfl ?_
  refine P_X0_24 hC (m_3 hi) (dk d_X0_become 45 rfl) 87 rfl ?_
  obtain rfl := Option.some.inj h
  exact Z_return (st := []) hC hr hQ (dk d_X0_become 46 rfl)
def t_X0_addYear : List (Nat × Instr × Nat) := [(0, .aload_n 0, 1), (1, .getfield 31, 3), (4, .aload_n 0, 1), (5, .getfield 21, 3), (8, .arraylength, 1), (9, .if_icmp .ge 23, 3), (12, .aload_n 0, 1), (13, .getfield 21, 3), (16, .aload_n 0, 1), (17, .getfield 31, 3), (20, .iload_n 1, 1), (21, .iastore, 1), (22, .aload_n 0, 1), (23, .dup, 1), (24, .getfield 31, 3), (27, .iconst 1, 1), (28, .iadd, 1), (29, .putfield 31, 3), (32, .return_, 1)]
set_option maxRecDepth 20000 in
theorem d_X0_addYear : ∀ q ∈ t_X0_addYear, decode cX0_addYear q.1 = .ok q.2 := by decide +kernel
noncomputable def f_X0_addYear (N : Nat) (i : Nat) (a1 : Int32) (w : Wd) : Option (Wd) :=
  if (42 : Int32) ≤ (gI w 5 i) then
    some w
  else
    gd (vp_in (gI w 5 i) 42) (
    some (sI (sA w 19 i (upd (gA w 19 i) (gI w 5 i).toNatClampNeg a1)) 5 i ((gI (sA w 19 i (upd (gA w 19 i) (gI w 5 i).toNatClampNeg a1)) 5 i) + (1 : Int32))))
set_option maxRecDepth 20000 in
set_option maxHeartbeats 4000000 in
theorem s_X0_addYear (G : GT) (l : Launch) (N : Nat) (i : Nat) (hi : i < 2) (a1 : Int32) (w : Wd) (q : Wd) (h : f_X0_addYear N i a1 w = some q) : Sp G l yX0_addYear cw_X0_addYear 0 [vr 3 i, vi a1] w none q := by
  refine Sp_of (own := RX0) [some (vr 3 i), some (vi a1)] (by decide) rfl rfl (Nat.le_of_ble_eq_true rfl) ?_
  intro x hG hl hC hr hQ _ _
  subst hG
  subst hl
  unfold f_X0_addYear at h
  refine Z_aload_n hC (dk d_X0_addYear 0 rfl) 1 rfl rfl rfl ?_
  refine G_X0_31 hC (m_3 hi) (dk d_X0_addYear 1 rfl) 4 rfl ?_
  refine Z_aload_n hC (dk d_X0_addYear 2 rfl) 5 rfl rfl rfl ?_
  refine G_X0_21 hC (m_3 hi) (dk d_X0_addYear 3 rfl) 8 rfl ?_
  refine Z_alen (v := 42) hC (m_19 hi) (by decide) (by decide) (by decide) (dk d_X0_addYear 4 rfl) 9 rfl ?_
  refine Z_icmp_ge hC (dk d_X0_addYear 5 rfl) 12 32 rfl (by decide) (fun c => ?_) (fun c => ?_)
  · have h := it_t h c
    obtain rfl := Option.some.inj h
    exact Z_return (st := []) hC hr hQ (dk d_X0_addYear 18 rfl)
  · have h := it_f h c
    refine Z_aload_n hC (dk d_X0_addYear 6 rfl) 13 rfl rfl rfl ?_
    refine G_X0_21 hC (m_3 hi) (dk d_X0_addYear 7 rfl) 16 rfl ?_
    refine Z_aload_n hC (dk d_X0_addYear 8 rfl) 17 rfl rfl rfl ?_
    refine G_X0_31 hC (m_3 hi) (dk d_X0_addYear 9 rfl) 20 rfl ?_
    refine Z_iload_n hC (dk d_X0_addYear 10 rfl) 21 rfl rfl rfl ?_
    obtain ⟨g1, h⟩ := gd_some h
    refine Z_iastore hC (m_19 hi) (by decide) rfl g1 (dk d_X0_addYear 11 rfl) 22 rfl ?_
    refine Z_aload_n hC (dk d_X0_addYear 12 rfl) 23 rfl rfl rfl ?_
    refine Z_dup hC (dk d_X0_addYear 13 rfl) 24 rfl rfl ?_
    refine G_X0_31 hC (m_3 hi) (dk d_X0_addYear 14 rfl) 27 rfl ?_
    refine Z_iconst (v := 1) hC (dk d_X0_addYear 15 rfl) 28 rfl (by decide) ?_
    refine Z_iadd hC (dk d_X0_addYear 16 rfl) 29 rfl ?_
    refine P_X0_31 hC (m_3 hi) (dk d_X0_addYear 17 rfl) 32 rfl ?_
    obtain rfl := Option.some.inj h
    exact Z_return (st := []) hC hr hQ (dk d_X0_addYear 18 rfl)
def t_X0_hadYear : List (Nat × Instr × Nat) := [(0, .iconst 0, 1), (1, .istore_n 2, 1), (2, .iload_n 2, 1), (3, .aload_n 0, 1), (4, .getfield 31, 3), (7, .if_icmp .ge 21, 3), (10, .aload_n 0, 1), (11, .getfield 21, 3), (14, .iload_n 2, 1), (15, .iaload, 1), (16, .iload_n 1, 1), (17, .if_icmp .ne 5, 3), (20, .iconst 1, 1), (21, .ireturn, 1), (22, .iinc 2 1, 3), (25, .goto (-23), 3), (28, .iconst 0, 1), (29, .ireturn, 1)]
set_option maxRecDepth 20000 in
theorem d_X0_hadYear : ∀ q ∈ t_X0_hadYear, decode cX0_hadYear q.1 = .ok q.2 := by decide +kernel
noncomputable def X0_hadYear_L1 (N : Nat) (i : Nat) (x1 : Int32) : Nat → Int32 → Wd → Option ((Int32 × Wd) ⊕ (Wd))
  | 0, _, _ => none
  | n + 1, x2, w =>
  if (gI w 5 i) ≤ x2 then
    some (.inr w)
  else
    gd (vp_in x2 42) (
    if (gA w 19 i x2.toNatClampNeg) = x1 then
      some (.inl ((1 : Int32), w))
    else
      X0_hadYear_L1 N i x1 n (x2 + (1 : Int32)) w)
set_option maxRecDepth 20000 in
set_option maxHeartbeats 4000000 in
theorem z_X0_hadYear_L1 {x : CX} (hC : Cx x RX0 cX0_hadYear 3 0) (hr : (xM x).sig.returnType = (some .boolean)) (N : Nat) (i : Nat) (hi : i < 2) (x1 : Int32) : ∀ (n : Nat) (x2 : Int32) (w : Wd) (q : ((Int32 × Wd) ⊕ (Wd))), X0_hadYear_L1 N i x1 n x2 w = some q → (∀ r : Int32 × Wd, q = .inl r → Rt x (some (vi r.1)) r.2) → (∀ o : Wd, q = .inr o → Z x 28 [none, none, none] [] o) → Z x 2 [some (vr 3 i), some (vi x1), some (vi x2)] [] w := by
  intro n
  induction n with
  | zero =>
    intro x2 w q h
    cases h
  | succ n ih =>
    intro x2 w q h kr ke
    rw [X0_hadYear_L1] at h
    refine Z_iload_n hC (dk d_X0_hadYear 2 rfl) 3 rfl rfl rfl ?_
    refine Z_aload_n hC (dk d_X0_hadYear 3 rfl) 4 rfl rfl rfl ?_
    refine G_X0_31 hC (m_3 hi) (dk d_X0_hadYear 4 rfl) 7 rfl ?_
    refine Z_icmp_ge hC (dk d_X0_hadYear 5 rfl) 10 28 rfl (by decide) (fun c => ?_) (fun c => ?_)
    · have h := it_t h c
      obtain rfl := Option.some.inj h
      refine Z_wk [false, false, false] [none, none, none] rfl ?_
      exact ke _ rfl
    · have h := it_f h c
      refine Z_aload_n hC (dk d_X0_hadYear 6 rfl) 11 rfl rfl rfl ?_
      refine G_X0_21 hC (m_3 hi) (dk d_X0_hadYear 7 rfl) 14 rfl ?_
      refine Z_iload_n hC (dk d_X0_hadYear 8 rfl) 15 rfl rfl rfl ?_
      obtain ⟨g1, h⟩ := gd_some h
      refine Z_iaload hC (m_19 hi) (by decide) rfl g1 (dk d_X0_hadYear 9 rfl) 16 rfl ?_
      refine Z_iload_n hC (dk d_X0_hadYear 10 rfl) 17 rfl rfl rfl ?_
      refine Z_icmp_ne hC (dk d_X0_hadYear 11 rfl) 20 22 rfl (by decide) (fun c => ?_) (fun c => ?_)
      · have h := it_f h c
        refine Z_iinc hC (dk d_X0_hadYear 14 rfl) 25 rfl rfl rfl [some (vr 3 i), some (vi x1), some (vi (x2 + (1 : Int32)))] rfl ?_
        refine Z_goto hC (dk d_X0_hadYear 15 rfl) 2 (by decide) ?_
        refine Z_wk [true, true, true] [some (vr 3 i), some (vi x1), some (vi (x2 + (1 : Int32)))] rfl ?_
        exact ih (x2 + (1 : Int32)) w _ h kr ke
      · have h := it_t h c
        refine Z_iconst (v := 1) hC (dk d_X0_hadYear 12 rfl) 21 rfl (by decide) ?_
        obtain rfl := Option.some.inj h
        exact Z_zreturn (st := []) hC hr rfl (kr _ rfl) (dk d_X0_hadYear 13 rfl)
noncomputable def f_X0_hadYear (N : Nat) (i : Nat) (a1 : Int32) (w : Wd) : Option (Int32 × Wd) :=
  (X0_hadYear_L1 N i a1 N (0 : Int32) w).bind (Sum.elim some (fun q2 =>
    some ((0 : Int32), q2)))
set_option maxRecDepth 20000 in
set_option maxHeartbeats 4000000 in
theorem s_X0_hadYear (G : GT) (l : Launch) (N : Nat) (i : Nat) (hi : i < 2) (a1 : Int32) (w : Wd) (q : Int32 × Wd) (h : f_X0_hadYear N i a1 w = some q) : Sp G l yX0_hadYear cw_X0_hadYear 0 [vr 3 i, vi a1] w (some (vi q.1)) q.2 := by
  refine Sp_of (own := RX0) [some (vr 3 i), some (vi a1), none] (by decide) rfl rfl (Nat.le_of_ble_eq_true rfl) ?_
  intro x hG hl hC hr hQ _ _
  subst hG
  subst hl
  unfold f_X0_hadYear at h
  refine Z_iconst (v := 0) hC (dk d_X0_hadYear 0 rfl) 1 rfl (by decide) ?_
  refine Z_istore_n hC (dk d_X0_hadYear 1 rfl) 2 rfl rfl (Nat.le_of_ble_eq_true rfl) [some (vr 3 i), some (vi a1), some (vi (0 : Int32))] rfl ?_
  obtain ⟨q2, hq2, h⟩ := bd_some h
  refine Z_wk [true, true, true] [some (vr 3 i), some (vi a1), some (vi (0 : Int32))] rfl ?_
  refine z_X0_hadYear_L1 hC hr N i hi a1 N (0 : Int32) w q2 hq2 (fun r e => ?_) (fun o e => ?_)
  · subst e
    obtain rfl := Option.some.inj h
    exact hQ
  · subst e
    obtain ⟨q2, rfl⟩ : ∃ z, z = o := ⟨_, rfl⟩
    refine Z_iconst (v := 0) hC (dk d_X0_hadYear 16 rfl) 29 rfl (by decide) ?_
    obtain rfl := Option.some.inj h
    exact Z_zreturn (st := []) hC hr rfl hQ (dk d_X0_hadYear 17 rfl)
def t_X4_paper : List (Nat × Instr × Nat) := [(0, .iload_n 0, 1), (1, .iconst 3, 1), (2, .iload_n 1, 1), (3, .imul, 1), (4, .ishr, 1), (5, .bipush 7, 2), (7, .iand, 1), (8, .ireturn, 1)]
set_option maxRecDepth 20000 in
theorem d_X4_paper : ∀ q ∈ t_X4_paper, decode cX4_paper q.1 = .ok q.2 := by decide +kernel
noncomputable def f_X4_paper (N : Nat) (a1 : Int32) (a2 : Int32) (w : Wd) : Option (Int32 × Wd) :=
  some ((a1 >>> (((3 : Int32) * a2) &&& (31 : Int32))) &&& (7 : Int32), w)
set_option maxRecDepth 20000 in
set_option maxHeartbeats 4000000 in
theorem s_X4_paper (G : GT) (l : Launch) (N : Nat) (a1 : Int32) (a2 : Int32) (w : Wd) (q : Int32 × Wd) (h : f_X4_paper N a1 a2 w = some q) : Sp G l yX4_paper cw_X4_paper 0 [vi a1, vi a2] w (some (vi q.1)) q.2 := by
  refine Sp_of (own := RX4) [some (vi a1), some (vi a2)] (by decide) rfl rfl (Nat.le_of_ble_eq_true rfl) ?_
  intro x hG hl hC hr hQ _ _
  subst hG
  subst hl
  unfold f_X4_paper at h
  refine Z_iload_n hC (dk d_X4_paper 0 rfl) 1 rfl rfl rfl ?_
  refine Z_iconst (v := 3) hC (dk d_X4_paper 1 rfl) 2 rfl (by decide) ?_
  refine Z_iload_n hC (dk d_X4_paper 2 rfl) 3 rfl rfl rfl ?_
  refine Z_imul hC (dk d_X4_paper 3 rfl) 4 rfl ?_
  refine Z_ishr hC (dk d_X4_paper 4 rfl) 5 rfl ?_
  refine Z_bipush (v := 7) hC (dk d_X4_paper 5 rfl) 7 rfl (by decide) ?_
  refine Z_iand hC (dk d_X4_paper 6 rfl) 8 rfl ?_
  obtain rfl := Option.some.inj h
  exact Z_ireturn (st := []) hC hr hQ (dk d_X4_paper 7 rfl)
def t_X0_latest : List (Nat × Instr × Nat) := [(0, .aload_n 0, 1), (1, .getfield 31, 3), (4, .ifCond .ne 8, 3), (7, .bipush (-9), 2), (9, .goto 18, 3), (12, .aload_n 0, 1), (13, .getfield 21, 3), (16, .aload_n 0, 1), (17, .getfield 31, 3), (20, .iconst 1, 1), (21, .isub, 1), (22, .iaload, 1), (23, .iload_n 1, 1), (24, .invokestatic 44, 3), (27, .ireturn, 1)]
set_option maxRecDepth 20000 in
theorem d_X0_latest : ∀ q ∈ t_X0_latest, decode cX0_latest q.1 = .ok q.2 := by decide +kernel
noncomputable def f_X0_latest (N : Nat) (i : Nat) (a1 : Int32) (w : Wd) : Option (Int32 × Wd) :=
  if (gI w 5 i) = 0 then
    some ((-9 : Int32), w)
  else
    gd (vp_in ((gI w 5 i) - (1 : Int32)) 42) (
    (f_X4_paper N (gA w 19 i ((gI w 5 i) - (1 : Int32)).toNatClampNeg) a1 w).bind (fun q2 =>
      some (q2.1, q2.2)))
set_option maxRecDepth 20000 in
set_option maxHeartbeats 4000000 in
theorem s_X0_latest (G : GT) (l : Launch) (N : Nat) (i : Nat) (hi : i < 2) (a1 : Int32) (w : Wd) (q : Int32 × Wd) (h : f_X0_latest N i a1 w = some q) : Sp G l yX0_latest cw_X0_latest 1 [vr 3 i, vi a1] w (some (vi q.1)) q.2 := by
  refine Sp_of (own := RX0) [some (vr 3 i), some (vi a1)] (by decide) rfl rfl (Nat.le_of_ble_eq_true rfl) ?_
  intro x hG hl hC hr hQ _ _
  subst hG
  subst hl
  unfold f_X0_latest at h
  refine Z_aload_n hC (dk d_X0_latest 0 rfl) 1 rfl rfl rfl ?_
  refine G_X0_31 hC (m_3 hi) (dk d_X0_latest 1 rfl) 4 rfl ?_
  refine Z_if_ne hC (dk d_X0_latest 2 rfl) 7 12 rfl (by decide) (fun c => ?_) (fun c => ?_)
  · have h := it_f h c
    refine Z_aload_n hC (dk d_X0_latest 5 rfl) 13 rfl rfl rfl ?_
    refine G_X0_21 hC (m_3 hi) (dk d_X0_latest 6 rfl) 16 rfl ?_
    refine Z_aload_n hC (dk d_X0_latest 7 rfl) 17 rfl rfl rfl ?_
    refine G_X0_31 hC (m_3 hi) (dk d_X0_latest 8 rfl) 20 rfl ?_
    refine Z_iconst (v := 1) hC (dk d_X0_latest 9 rfl) 21 rfl (by decide) ?_
    refine Z_isub hC (dk d_X0_latest 10 rfl) 22 rfl ?_
    obtain ⟨g1, h⟩ := gd_some h
    refine Z_iaload hC (m_19 hi) (by decide) rfl g1 (dk d_X0_latest 11 rfl) 23 rfl ?_
    refine Z_iload_n hC (dk d_X0_latest 12 rfl) 24 rfl rfl rfl ?_
    obtain ⟨q2, hq2, h⟩ := bd_some h
    refine K_X0_44 [vi (gA w 19 i ((gI w 5 i) - (1 : Int32)).toNatClampNeg), vi a1] hC (s_X4_paper (xG x) (xl x) N (gA w 19 i ((gI w 5 i) - (1 : Int32)).toNatClampNeg) a1 w q2 hq2) (Nat.le_of_ble_eq_true rfl) rfl rfl rfl (Nat.le_of_ble_eq_true rfl) (dk d_X0_latest 13 rfl) 27 rfl ?_
    obtain rfl := Option.some.inj h
    exact Z_ireturn (st := []) hC hr hQ (dk d_X0_latest 14 rfl)
  · have h := it_t h c
    refine Z_bipush (v := -9) hC (dk d_X0_latest 3 rfl) 9 rfl (by decide) ?_
    refine Z_goto hC (dk d_X0_latest 4 rfl) 27 (by decide) ?_
    obtain rfl := Option.some.inj h
    exact Z_ireturn (st := []) hC hr hQ (dk d_X0_latest 14 rfl)
def t_X0_fact : List (Nat × Instr × Nat) := [(0, .iload_n 2, 1), (1, .tableswitch 48 0 2 #[27, 34, 41], 27), (28, .aload_n 0, 1), (29, .getfield 9, 3), (32, .iload_n 1, 1), (33, .iaload, 1), (34, .ireturn, 1), (35, .aload_n 0, 1), (36, .getfield 15, 3), (39, .iload_n 1, 1), (40, .iaload, 1), (41, .ireturn, 1), (42, .aload_n 0, 1), (43, .getfield 18, 3), (46, .iload_n 1, 1), (47, .iaload, 1), (48, .ireturn, 1), (49, .aload_n 0, 1), (50, .iload_n 1, 1), (51, .invokevirtual 48, 3), (54, .ireturn, 1)]
set_option maxRecDepth 20000 in
theorem d_X0_fact : ∀ q ∈ t_X0_fact, decode cX0_fact q.1 = .ok q.2 := by decide +kernel
noncomputable def f_X0_fact (N : Nat) (i : Nat) (a1 : Int32) (a2 : Int32) (w : Wd) : Option (Int32 × Wd) :=
  if a2 = (0 : Int32) then
    gd (vp_in a1 6) (
    some (gA w 16 i a1.toNatClampNeg, w))
  else
  if a2 = (1 : Int32) then
    gd (vp_in a1 6) (
    some (gA w 17 i a1.toNatClampNeg, w))
  else
  if a2 = (2 : Int32) then
    gd (vp_in a1 6) (
    some (gA w 18 i a1.toNatClampNeg, w))
  else
    (f_X0_latest N i a1 w).bind (fun q4 =>
      some (q4.1, q4.2))
set_option maxRecDepth 20000 in
set_option maxHeartbeats 4000000 in
theorem s_X0_fact (G : GT) (l : Launch) (N : Nat) (i : Nat) (hi : i < 2) (a1 : Int32) (a2 : Int32) (w : Wd) (q : Int32 × Wd) (h : f_X0_fact N i a1 a2 w = some q) : Sp G l yX0_fact cw_X0_fact 2 [vr 3 i, vi a1, vi a2] w (some (vi q.1)) q.2 := by
  refine Sp_of (own := RX0) [some (vr 3 i), some (vi a1), some (vi a2)] (by decide) rfl rfl (Nat.le_of_ble_eq_true rfl) ?_
  intro x hG hl hC hr hQ _ _
  subst hG
  subst hl
  unfold f_X0_fact at h
  refine Z_iload_n hC (dk d_X0_fact 0 rfl) 1 rfl rfl rfl ?_
  by_cases c0 : a2 = (0 : Int32)
  · have h := it_t h c0
    refine Z_swIn hC (dk d_X0_fact 1 rfl) (m := 0) (by rw [c0]; rfl) (by decide) (by decide) rfl 28 (by decide) ?_
    refine Z_aload_n hC (dk d_X0_fact 2 rfl) 29 rfl rfl rfl ?_
    refine G_X0_9 hC (m_3 hi) (dk d_X0_fact 3 rfl) 32 rfl ?_
    refine Z_iload_n hC (dk d_X0_fact 4 rfl) 33 rfl rfl rfl ?_
    obtain ⟨g1, h⟩ := gd_some h
    refine Z_iaload hC (m_16 hi) (by decide) rfl g1 (dk d_X0_fact 5 rfl) 34 rfl ?_
    obtain rfl := Option.some.inj h
    exact Z_ireturn (st := []) hC hr hQ (dk d_X0_fact 6 rfl)
  have h := it_f h c0
  by_cases c1 : a2 = (1 : Int32)
  · have h := it_t h c1
    refine Z_swIn hC (dk d_X0_fact 1 rfl) (m := 1) (by rw [c1]; rfl) (by decide) (by decide) rfl 35 (by decide) ?_
    refine Z_aload_n hC (dk d_X0_fact 7 rfl) 36 rfl rfl rfl ?_
    refine G_X0_15 hC (m_3 hi) (dk d_X0_fact 8 rfl) 39 rfl ?_
    refine Z_iload_n hC (dk d_X0_fact 9 rfl) 40 rfl rfl rfl ?_
    obtain ⟨g2, h⟩ := gd_some h
    refine Z_iaload hC (m_17 hi) (by decide) rfl g2 (dk d_X0_fact 10 rfl) 41 rfl ?_
    obtain rfl := Option.some.inj h
    exact Z_ireturn (st := []) hC hr hQ (dk d_X0_fact 11 rfl)
  have h := it_f h c1
  by_cases c2 : a2 = (2 : Int32)
  · have h := it_t h c2
    refine Z_swIn hC (dk d_X0_fact 1 rfl) (m := 2) (by rw [c2]; rfl) (by decide) (by decide) rfl 42 (by decide) ?_
    refine Z_aload_n hC (dk d_X0_fact 12 rfl) 43 rfl rfl rfl ?_
    refine G_X0_18 hC (m_3 hi) (dk d_X0_fact 13 rfl) 46 rfl ?_
    refine Z_iload_n hC (dk d_X0_fact 14 rfl) 47 rfl rfl rfl ?_
    obtain ⟨g3, h⟩ := gd_some h
    refine Z_iaload hC (m_18 hi) (by decide) rfl g3 (dk d_X0_fact 15 rfl) 48 rfl ?_
    obtain rfl := Option.some.inj h
    exact Z_ireturn (st := []) hC hr hQ (dk d_X0_fact 16 rfl)
  have h := it_f h c2
  refine Z_swOut hC (dk d_X0_fact 1 rfl) 49 (by decide) (by have e0 := ne_toInt (m := 0) rfl c0; have e1 := ne_toInt (m := 1) rfl c1; have e2 := ne_toInt (m := 2) rfl c2; omega) ?_
  refine Z_aload_n hC (dk d_X0_fact 17 rfl) 50 rfl rfl rfl ?_
  refine Z_iload_n hC (dk d_X0_fact 18 rfl) 51 rfl rfl rfl ?_
  obtain ⟨q4, hq4, h⟩ := bd_some h
  refine K_X0_48 [vi a1] hC (m_3 hi) (s_X0_latest (xG x) (xl x) N i hi a1 w q4 hq4) (Nat.le_of_ble_eq_true rfl) rfl rfl rfl (Nat.le_of_ble_eq_true rfl) (dk d_X0_fact 19 rfl) 54 rfl ?_
  obtain rfl := Option.some.inj h
  exact Z_ireturn (st := []) hC hr hQ (dk d_X0_fact 20 rfl)
