def t_X4_kindOf : List (Nat × Instr × Nat) := [(0, .iconst 0, 1), (1, .istore_n 1, 1), (2, .iload_n 1, 1), (3, .getstatic 326, 3), (6, .arraylength, 1), (7, .if_icmp .ge 20, 3), (10, .getstatic 326, 3), (13, .iload_n 1, 1), (14, .iaload, 1), (15, .iload_n 0, 1), (16, .if_icmp .ne 5, 3), (19, .iload_n 1, 1), (20, .ireturn, 1), (21, .iinc 1 1, 3), (24, .goto (-22), 3), (27, .bipush (-9), 2), (29, .ireturn, 1)]
set_option maxRecDepth 20000 in
theorem d_X4_kindOf : ∀ q ∈ t_X4_kindOf, decode cX4_kindOf q.1 = .ok q.2 := by decide +kernel
noncomputable def X4_kindOf_L1 (N : Nat) (x0 : Int32) : Nat → Int32 → Wd → Option ((Int32 × Wd) ⊕ (Wd))
  | 0, _, _ => none
  | n + 1, x1, w =>
  if (6 : Int32) ≤ x1 then
    some (.inr w)
  else
    gd (vp_in x1 6) (
    if (letN x1.toNatClampNeg) = x0 then
      some (.inl (x1, w))
    else
      X4_kindOf_L1 N x0 n (x1 + (1 : Int32)) w)
set_option maxRecDepth 20000 in
set_option maxHeartbeats 4000000 in
theorem z_X4_kindOf_L1 {x : CX} (hC : Cx x RX4 cX4_kindOf 2 0) (hr : (xM x).sig.returnType = (some .int)) (N : Nat) (x0 : Int32) : ∀ (n : Nat) (x1 : Int32) (w : Wd) (q : ((Int32 × Wd) ⊕ (Wd))), X4_kindOf_L1 N x0 n x1 w = some q → (∀ r : Int32 × Wd, q = .inl r → Rt x (some (vi r.1)) r.2) → (∀ o : Wd, q = .inr o → Z x 27 [none, none] [] o) → Z x 2 [some (vi x0), some (vi x1)] [] w := by
  intro n
  induction n with
  | zero =>
    intro x1 w q h
    cases h
  | succ n ih =>
    intro x1 w q h kr ke
    rw [X4_kindOf_L1] at h
    refine Z_iload_n hC (dk d_X4_kindOf 2 rfl) 3 rfl rfl rfl ?_
    refine Z_getLet hC fk_X4_326 (dk d_X4_kindOf 3 rfl) 6 rfl ?_
    refine Z_lenLet hC (dk d_X4_kindOf 4 rfl) 7 rfl ?_
    refine Z_icmp_ge hC (dk d_X4_kindOf 5 rfl) 10 27 rfl (by decide) (fun c => ?_) (fun c => ?_)
    · have h := it_t h c
      obtain rfl := Option.some.inj h
      refine Z_wk [false, false] [none, none] rfl ?_
      exact ke _ rfl
    · have h := it_f h c
      refine Z_getLet hC fk_X4_326 (dk d_X4_kindOf 6 rfl) 13 rfl ?_
      refine Z_iload_n hC (dk d_X4_kindOf 7 rfl) 14 rfl rfl rfl ?_
      obtain ⟨g1, h⟩ := gd_some h
      refine Z_ldLet hC g1 (dk d_X4_kindOf 8 rfl) 15 rfl ?_
      refine Z_iload_n hC (dk d_X4_kindOf 9 rfl) 16 rfl rfl rfl ?_
      refine Z_icmp_ne hC (dk d_X4_kindOf 10 rfl) 19 21 rfl (by decide) (fun c => ?_) (fun c => ?_)
      · have h := it_f h c
        refine Z_iinc hC (dk d_X4_kindOf 13 rfl) 24 rfl rfl rfl [some (vi x0), some (vi (x1 + (1 : Int32)))] rfl ?_
        refine Z_goto hC (dk d_X4_kindOf 14 rfl) 2 (by decide) ?_
        refine Z_wk [true, true] [some (vi x0), some (vi (x1 + (1 : Int32)))] rfl ?_
        exact ih (x1 + (1 : Int32)) w _ h kr ke
      · have h := it_t h c
        refine Z_iload_n hC (dk d_X4_kindOf 11 rfl) 20 rfl rfl rfl ?_
        obtain rfl := Option.some.inj h
        exact Z_ireturn (st := []) hC hr (kr _ rfl) (dk d_X4_kindOf 12 rfl)
noncomputable def f_X4_kindOf (N : Nat) (a1 : Int32) (w : Wd) : Option (Int32 × Wd) :=
  (X4_kindOf_L1 N a1 N (0 : Int32) w).bind (Sum.elim some (fun q2 =>
    some ((-9 : Int32), q2)))
set_option maxRecDepth 20000 in
set_option maxHeartbeats 4000000 in
theorem s_X4_kindOf (G : GT) (l : Launch) (N : Nat) (a1 : Int32) (w : Wd) (q : Int32 × Wd) (h : f_X4_kindOf N a1 w = some q) : Sp G l yX4_kindOf cw_X4_kindOf 0 [vi a1] w (some (vi q.1)) q.2 := by
  refine Sp_of (own := RX4) [some (vi a1), none] (by decide) rfl rfl (Nat.le_of_ble_eq_true rfl) ?_
  intro x hG hl hC hr hQ _ _
  subst hG
  subst hl
  unfold f_X4_kindOf at h
  refine Z_iconst (v := 0) hC (dk d_X4_kindOf 0 rfl) 1 rfl (by decide) ?_
  refine Z_istore_n hC (dk d_X4_kindOf 1 rfl) 2 rfl rfl (Nat.le_of_ble_eq_true rfl) [some (vi a1), some (vi (0 : Int32))] rfl ?_
  obtain ⟨q2, hq2, h⟩ := bd_some h
  refine Z_wk [true, true] [some (vi a1), some (vi (0 : Int32))] rfl ?_
  refine z_X4_kindOf_L1 hC hr N a1 N (0 : Int32) w q2 hq2 (fun r e => ?_) (fun o e => ?_)
  · subst e
    obtain rfl := Option.some.inj h
    exact hQ
  · subst e
    obtain ⟨q2, rfl⟩ : ∃ z, z = o := ⟨_, rfl⟩
    refine Z_bipush (v := -9) hC (dk d_X4_kindOf 15 rfl) 29 rfl (by decide) ?_
    obtain rfl := Option.some.inj h
    exact Z_ireturn (st := []) hC hr hQ (dk d_X4_kindOf 16 rfl)
def t_X0_settle : List (Nat × Instr × Nat) := [(0, .aload_n 0, 1), (1, .iconst 0, 1), (2, .putfield 28, 3), (5, .aload_n 0, 1), (6, .iconst 0, 1), (7, .putfield 31, 3), (10, .iconst 0, 1), (11, .istore_n 3, 1), (12, .iload_n 3, 1), (13, .iconst 2, 1), (14, .iadd, 1), (15, .iload_n 2, 1), (16, .if_icmp .ge 91, 3), (19, .aload_n 0, 1), (20, .getfield 28, 3), (23, .bipush 6, 2), (25, .if_icmp .ge 82, 3), (28, .aload_n 1, 1), (29, .iload_n 3, 1), (30, .baload, 1), (31, .bipush 32, 2), (33, .if_icmp .ne 9, 3), (36, .iinc 3 1, 3), (39, .goto (-27), 3), (42, .aload_n 0, 1), (43, .getfield 9, 3), (46, .aload_n 0, 1), (47, .getfield 28, 3), (50, .aload_n 1, 1), (51, .iload_n 3, 1), (52, .baload, 1), (53, .invokestatic 34, 3), (56, .iastore, 1), (57, .aload_n 0, 1), (58, .getfield 15, 3), (61, .aload_n 0, 1), (62, .getfield 28, 3), (65, .aload_n 1, 1), (66, .iload_n 3, 1), (67, .iconst 1, 1), (68, .iadd, 1), (69, .baload, 1), (70, .bipush 48, 2), (72, .isub, 1), (73, .iastore, 1), (74, .aload_n 0, 1), (75, .getfield 18, 3), (78, .aload_n 0, 1), (79, .getfield 28, 3), (82, .aload_n 1, 1), (83, .iload_n 3, 1), (84, .iconst 2, 1), (85, .iadd, 1), (86, .baload, 1), (87, .bipush 48, 2), (89, .isub, 1), (90, .iastore, 1), (91, .aload_n 0, 1), (92, .dup, 1), (93, .getfield 28, 3), (96, .iconst 1, 1), (97, .iadd, 1), (98, .putfield 28, 3), (101, .iinc 3 3, 3), (104, .goto (-92), 3), (107, .return_, 1)]
set_option maxRecDepth 20000 in
theorem d_X0_settle : ∀ q ∈ t_X0_settle, decode cX0_settle q.1 = .ok q.2 := by decide +kernel
noncomputable def X0_settle_L1 (N : Nat) (i : Nat) (t : Nat) (x2 : Int32) : Nat → Int32 → Wd → Option (Wd)
  | 0, _, _ => none
  | n + 1, x3, w =>
  if x2 ≤ (x3 + (2 : Int32)) then
    some w
  else
    if (6 : Int32) ≤ (gI w 4 i) then
      some w
    else
      gd (vp_in x3 60) (
      if (gA w 14 t x3.toNatClampNeg) = (32 : Int32) then
        X0_settle_L1 N i t x2 n (x3 + (1 : Int32)) w
      else
        gd (vp_in x3 60) (
        (f_X4_kindOf N (gA w 14 t x3.toNatClampNeg) w).bind (fun q3 =>
          gd (vp_in (gI w 4 i) 6) (
          gd (vp_in (x3 + (1 : Int32)) 60) (
          gd (vp_in (gI (sA q3.2 16 i (upd (gA q3.2 16 i) (gI w 4 i).toNatClampNeg q3.1)) 4 i) 6) (
          gd (vp_in (x3 + (2 : Int32)) 60) (
          gd (vp_in (gI (sA (sA q3.2 16 i (upd (gA q3.2 16 i) (gI w 4 i).toNatClampNeg q3.1)) 17 i (upd (gA (sA q3.2 16 i (upd (gA q3.2 16 i) (gI w 4 i).toNatClampNeg q3.1)) 17 i) (gI (sA q3.2 16 i (upd (gA q3.2 16 i) (gI w 4 i).toNatClampNeg q3.1)) 4 i).toNatClampNeg ((gA (sA q3.2 16 i (upd (gA q3.2 16 i) (gI w 4 i).toNatClampNeg q3.1)) 14 t (x3 + (1 : Int32)).toNatClampNeg) - (48 : Int32)))) 4 i) 6) (
          X0_settle_L1 N i t x2 n (x3 + (3 : Int32)) (sI (sA (sA (sA q3.2 16 i (upd (gA q3.2 16 i) (gI w 4 i).toNatClampNeg q3.1)) 17 i (upd (gA (sA q3.2 16 i (upd (gA q3.2 16 i) (gI w 4 i).toNatClampNeg q3.1)) 17 i) (gI (sA q3.2 16 i (upd (gA q3.2 16 i) (gI w 4 i).toNatClampNeg q3.1)) 4 i).toNatClampNeg ((gA (sA q3.2 16 i (upd (gA q3.2 16 i) (gI w 4 i).toNatClampNeg q3.1)) 14 t (x3 + (1 : Int32)).toNatClampNeg) - (48 : Int32)))) 18 i (upd (gA (sA (sA q3.2 16 i (upd (gA q3.2 16 i) (gI w 4 i).toNatClampNeg q3.1)) 17 i (upd (gA (sA q3.2 16 i (upd (gA q3.2 16 i) (gI w 4 i).toNatClampNeg q3.1)) 17 i) (gI (sA q3.2 16 i (upd (gA q3.2 16 i) (gI w 4 i).toNatClampNeg q3.1)) 4 i).toNatClampNeg ((gA (sA q3.2 16 i (upd (gA q3.2 16 i) (gI w 4 i).toNatClampNeg q3.1)) 14 t (x3 + (1 : Int32)).toNatClampNeg) - (48 : Int32)))) 18 i) (gI (sA (sA q3.2 16 i (upd (gA q3.2 16 i) (gI w 4 i).toNatClampNeg q3.1)) 17 i (upd (gA (sA q3.2 16 i (upd (gA q3.2 16 i) (gI w 4 i).toNatClampNeg q3.1)) 17 i) (gI (sA q3.2 16 i (upd (gA q3.2 16 i) (gI w 4 i).toNatClampNeg q3.1)) 4 i).toNatClampNeg ((gA (sA q3.2 16 i (upd (gA q3.2 16 i) (gI w 4 i).toNatClampNeg q3.1)) 14 t (x3 + (1 : Int32)).toNatClampNeg) - (48 : Int32)))) 4 i).toNatClampNeg ((gA (sA (sA q3.2 16 i (upd (gA q3.2 16 i) (gI w 4 i).toNatClampNeg q3.1)) 17 i (upd (gA (sA q3.2 16 i (upd (gA q3.2 16 i) (gI w 4 i).toNatClampNeg q3.1)) 17 i) (gI (sA q3.2 16 i (upd (gA q3.2 16 i) (gI w 4 i).toNatClampNeg q3.1)) 4 i).toNatClampNeg ((gA (sA q3.2 16 i (upd (gA q3.2 16 i) (gI w 4 i).toNatClampNeg q3.1)) 14 t (x3 + (1 : Int32)).toNatClampNeg) - (48 : Int32)))) 14 t (x3 + (2 : Int32)).toNatClampNeg) - (48 : Int32)))) 4 i ((gI (sA (sA (sA q3.2 16 i (upd (gA q3.2 16 i) (gI w 4 i).toNatClampNeg q3.1)) 17 i (upd (gA (sA q3.2 16 i (upd (gA q3.2 16 i) (gI w 4 i).toNatClampNeg q3.1)) 17 i) (gI (sA q3.2 16 i (upd (gA q3.2 16 i) (gI w 4 i).toNatClampNeg q3.1)) 4 i).toNatClampNeg ((gA (sA q3.2 16 i (upd (gA q3.2 16 i) (gI w 4 i).toNatClampNeg q3.1)) 14 t (x3 + (1 : Int32)).toNatClampNeg) - (48 : Int32)))) 18 i (upd (gA (sA (sA q3.2 16 i (upd (gA q3.2 16 i) (gI w 4 i).toNatClampNeg q3.1)) 17 i (upd (gA (sA q3.2 16 i (upd (gA q3.2 16 i) (gI w 4 i).toNatClampNeg q3.1)) 17 i) (gI (sA q3.2 16 i (upd (gA q3.2 16 i) (gI w 4 i).toNatClampNeg q3.1)) 4 i).toNatClampNeg ((gA (sA q3.2 16 i (upd (gA q3.2 16 i) (gI w 4 i).toNatClampNeg q3.1)) 14 t (x3 + (1 : Int32)).toNatClampNeg) - (48 : Int32)))) 18 i) (gI (sA (sA q3.2 16 i (upd (gA q3.2 16 i) (gI w 4 i).toNatClampNeg q3.1)) 17 i (upd (gA (sA q3.2 16 i (upd (gA q3.2 16 i) (gI w 4 i).toNatClampNeg q3.1)) 17 i) (gI (sA q3.2 16 i (upd (gA q3.2 16 i) (gI w 4 i).toNatClampNeg q3.1)) 4 i).toNatClampNeg ((gA (sA q3.2 16 i (upd (gA q3.2 16 i) (gI w 4 i).toNatClampNeg q3.1)) 14 t (x3 + (1 : Int32)).toNatClampNeg) - (48 : Int32)))) 4 i).toNatClampNeg ((gA (sA (sA q3.2 16 i (upd (gA q3.2 16 i) (gI w 4 i).toNatClampNeg q3.1)) 17 i (upd (gA (sA q3.2 16 i (upd (gA q3.2 16 i) (gI w 4 i).toNatClampNeg q3.1)) 17 i) (gI (sA q3.2 16 i (upd (gA q3.2 16 i) (gI w 4 i).toNatClampNeg q3.1)) 4 i).toNatClampNeg ((gA (sA q3.2 16 i (upd (gA q3.2 16 i) (gI w 4 i).toNatClampNeg q3.1)) 14 t (x3 + (1 : Int32)).toNatClampNeg) - (48 : Int32)))) 14 t (x3 + (2 : Int32)).toNatClampNeg) - (48 : Int32)))) 4 i) + (1 : Int32)))))))))))
set_option maxRecDepth 20000 in
set_option maxHeartbeats 4000000 in
theorem z_X0_settle_L1 {x : CX} (hC : Cx x RX0 cX0_settle 4 1) (hr : (xM x).sig.returnType = none) (N : Nat) (i : Nat) (t : Nat) (hi : i < 2) (ht : t < 4) (x2 : Int32) : ∀ (n : Nat) (x3 : Int32) (w : Wd) (q : (Wd)), X0_settle_L1 N i t x2 n x3 w = some q → Z x 107 [none, none, none, none] [] q → Z x 12 [some (vr 3 i), some (vr 14 t), some (vi x2), some (vi x3)] [] w := by
  intro n
  induction n with
  | zero =>
    intro x3 w q h
    cases h
  | succ n ih =>
    intro x3 w q h ke
    rw [X0_settle_L1] at h
    refine Z_iload_n hC (dk d_X0_settle 8 rfl) 13 rfl rfl rfl ?_
    refine Z_iconst (v := 2) hC (dk d_X0_settle 9 rfl) 14 rfl (by decide) ?_
    refine Z_iadd hC (dk d_X0_settle 10 rfl) 15 rfl ?_
    refine Z_iload_n hC (dk d_X0_settle 11 rfl) 16 rfl rfl rfl ?_
    refine Z_icmp_ge hC (dk d_X0_settle 12 rfl) 19 107 rfl (by decide) (fun c => ?_) (fun c => ?_)
    · have h := it_t h c
      obtain rfl := Option.some.inj h
      refine Z_wk [false, false, false, false] [none, none, none, none] rfl ?_
      exact ke
    · have h := it_f h c
      refine Z_aload_n hC (dk d_X0_settle 13 rfl) 20 rfl rfl rfl ?_
      refine G_X0_28 hC (m_3 hi) (dk d_X0_settle 14 rfl) 23 rfl ?_
      refine Z_bipush (v := 6) hC (dk d_X0_settle 15 rfl) 25 rfl (by decide) ?_
      refine Z_icmp_ge hC (dk d_X0_settle 16 rfl) 28 107 rfl (by decide) (fun c => ?_) (fun c => ?_)
      · have h := it_t h c
        obtain rfl := Option.some.inj h
        refine Z_wk [false, false, false, false] [none, none, none, none] rfl ?_
        exact ke
      · have h := it_f h c
        refine Z_aload_n hC (dk d_X0_settle 17 rfl) 29 rfl rfl rfl ?_
        refine Z_iload_n hC (dk d_X0_settle 18 rfl) 30 rfl rfl rfl ?_
        obtain ⟨g1, h⟩ := gd_some h
        refine Z_baload hC (m_14 ht) (by decide) rfl g1 (dk d_X0_settle 19 rfl) 31 rfl ?_
        refine Z_bipush (v := 32) hC (dk d_X0_settle 20 rfl) 33 rfl (by decide) ?_
        refine Z_icmp_ne hC (dk d_X0_settle 21 rfl) 36 42 rfl (by decide) (fun c => ?_) (fun c => ?_)
        · have h := it_f h c
          refine Z_aload_n hC (dk d_X0_settle 24 rfl) 43 rfl rfl rfl ?_
          refine G_X0_9 hC (m_3 hi) (dk d_X0_settle 25 rfl) 46 rfl ?_
          refine Z_aload_n hC (dk d_X0_settle 26 rfl) 47 rfl rfl rfl ?_
          refine G_X0_28 hC (m_3 hi) (dk d_X0_settle 27 rfl) 50 rfl ?_
          refine Z_aload_n hC (dk d_X0_settle 28 rfl) 51 rfl rfl rfl ?_
          refine Z_iload_n hC (dk d_X0_settle 29 rfl) 52 rfl rfl rfl ?_
          obtain ⟨g2, h⟩ := gd_some h
          refine Z_baload hC (m_14 ht) (by decide) rfl g2 (dk d_X0_settle 30 rfl) 53 rfl ?_
          obtain ⟨q3, hq3, h⟩ := bd_some h
          refine K_X0_34 [vi (gA w 14 t x3.toNatClampNeg)] hC (s_X4_kindOf (xG x) (xl x) N (gA w 14 t x3.toNatClampNeg) w q3 hq3) (Nat.le_of_ble_eq_true rfl) rfl rfl rfl (Nat.le_of_ble_eq_true rfl) (dk d_X0_settle 31 rfl) 56 rfl ?_
          obtain ⟨g4, h⟩ := gd_some h
          refine Z_iastore hC (m_16 hi) (by decide) rfl g4 (dk d_X0_settle 32 rfl) 57 rfl ?_
          refine Z_aload_n hC (dk d_X0_settle 33 rfl) 58 rfl rfl rfl ?_
          refine G_X0_15 hC (m_3 hi) (dk d_X0_settle 34 rfl) 61 rfl ?_
          refine Z_aload_n hC (dk d_X0_settle 35 rfl) 62 rfl rfl rfl ?_
          refine G_X0_28 hC (m_3 hi) (dk d_X0_settle 36 rfl) 65 rfl ?_
          refine Z_aload_n hC (dk d_X0_settle 37 rfl) 66 rfl rfl rfl ?_
          refine Z_iload_n hC (dk d_X0_settle 38 rfl) 67 rfl rfl rfl ?_
          refine Z_iconst (v := 1) hC (dk d_X0_settle 39 rfl) 68 rfl (by decide) ?_
          refine Z_iadd hC (dk d_X0_settle 40 rfl) 69 rfl ?_
          obtain ⟨g5, h⟩ := gd_some h
          refine Z_baload hC (m_14 ht) (by decide) rfl g5 (dk d_X0_settle 41 rfl) 70 rfl ?_
          refine Z_bipush (v := 48) hC (dk d_X0_settle 42 rfl) 72 rfl (by decide) ?_
          refine Z_isub hC (dk d_X0_settle 43 rfl) 73 rfl ?_
          obtain ⟨g6, h⟩ := gd_some h
          refine Z_iastore hC (m_17 hi) (by decide) rfl g6 (dk d_X0_settle 44 rfl) 74 rfl ?_
          refine Z_aload_n hC (dk d_X0_settle 45 rfl) 75 rfl rfl rfl ?_
          refine G_X0_18 hC (m_3 hi) (dk d_X0_settle 46 rfl) 78 rfl ?_
          refine Z_aload_n hC (dk d_X0_settle 47 rfl) 79 rfl rfl rfl ?_
          refine G_X0_28 hC (m_3 hi) (dk d_X0_settle 48 rfl) 82 rfl ?_
          refine Z_aload_n hC (dk d_X0_settle 49 rfl) 83 rfl rfl rfl ?_
          refine Z_iload_n hC (dk d_X0_settle 50 rfl) 84 rfl rfl rfl ?_
          refine Z_iconst (v := 2) hC (dk d_X0_settle 51 rfl) 85 rfl (by decide) ?_
          refine Z_iadd hC (dk d_X0_settle 52 rfl) 86 rfl ?_
          obtain ⟨g7, h⟩ := gd_some h
          refine Z_baload hC (m_14 ht) (by decide) rfl g7 (dk d_X0_settle 53 rfl) 87 rfl ?_
          refine Z_bipush (v := 48) hC (dk d_X0_settle 54 rfl) 89 rfl (by decide) ?_
          refine Z_isub hC (dk d_X0_settle 55 rfl) 90 rfl ?_
          obtain ⟨g8, h⟩ := gd_some h
          refine Z_iastore hC (m_18 hi) (by decide) rfl g8 (dk d_X0_settle 56 rfl) 91 rfl ?_
          refine Z_aload_n hC (dk d_X0_settle 57 rfl) 92 rfl rfl rfl ?_
          refine Z_dup hC (dk d_X0_settle 58 rfl) 93 rfl rfl ?_
          refine G_X0_28 hC (m_3 hi) (dk d_X0_settle 59 rfl) 96 rfl ?_
          refine Z_iconst (v := 1) hC (dk d_X0_settle 60 rfl) 97 rfl (by decide) ?_
          refine Z_iadd hC (dk d_X0_settle 61 rfl) 98 rfl ?_
          refine P_X0_28 hC (m_3 hi) (dk d_X0_settle 62 rfl) 101 rfl ?_
          refine Z_iinc hC (dk d_X0_settle 63 rfl) 104 rfl rfl rfl [some (vr 3 i), some (vr 14 t), some (vi x2), some (vi (x3 + (3 : Int32)))] rfl ?_
          refine Z_goto hC (dk d_X0_settle 64 rfl) 12 (by decide) ?_
          refine Z_wk [true, true, true, true] [some (vr 3 i), some (vr 14 t), some (vi x2), some (vi (x3 + (3 : Int32)))] rfl ?_
          exact ih (x3 + (3 : Int32)) (sI (sA (sA (sA q3.2 16 i (upd (gA q3.2 16 i) (gI w 4 i).toNatClampNeg q3.1)) 17 i (upd (gA (sA q3.2 16 i (upd (gA q3.2 16 i) (gI w 4 i).toNatClampNeg q3.1)) 17 i) (gI (sA q3.2 16 i (upd (gA q3.2 16 i) (gI w 4 i).toNatClampNeg q3.1)) 4 i).toNatClampNeg ((gA (sA q3.2 16 i (upd (gA q3.2 16 i) (gI w 4 i).toNatClampNeg q3.1)) 14 t (x3 + (1 : Int32)).toNatClampNeg) - (48 : Int32)))) 18 i (upd (gA (sA (sA q3.2 16 i (upd (gA q3.2 16 i) (gI w 4 i).toNatClampNeg q3.1)) 17 i (upd (gA (sA q3.2 16 i (upd (gA q3.2 16 i) (gI w 4 i).toNatClampNeg q3.1)) 17 i) (gI (sA q3.2 16 i (upd (gA q3.2 16 i) (gI w 4 i).toNatClampNeg q3.1)) 4 i).toNatClampNeg ((gA (sA q3.2 16 i (upd (gA q3.2 16 i) (gI w 4 i).toNatClampNeg q3.1)) 14 t (x3 + (1 : Int32)).toNatClampNeg) - (48 : Int32)))) 18 i) (gI (sA (sA q3.2 16 i (upd (gA q3.2 16 i) (gI w 4 i).toNatClampNeg q3.1)) 17 i (upd (gA (sA q3.2 16 i (upd (gA q3.2 16 i) (gI w 4 i).toNatClampNeg q3.1)) 17 i) (gI (sA q3.2 16 i (upd (gA q3.2 16 i) (gI w 4 i).toNatClampNeg q3.1)) 4 i).toNatClampNeg ((gA (sA q3.2 16 i (upd (gA q3.2 16 i) (gI w 4 i).toNatClampNeg q3.1)) 14 t (x3 + (1 : Int32)).toNatClampNeg) - (48 : Int32)))) 4 i).toNatClampNeg ((gA (sA (sA q3.2 16 i (upd (gA q3.2 16 i) (gI w 4 i).toNatClampNeg q3.1)) 17 i (upd (gA (sA q3.2 16 i (upd (gA q3.2 16 i) (gI w 4 i).toNatClampNeg q3.1)) 17 i) (gI (sA q3.2 16 i (upd (gA q3.2 16 i) (gI w 4 i).toNatClampNeg q3.1)) 4 i).toNatClampNeg ((gA (sA q3.2 16 i (upd (gA q3.2 16 i) (gI w 4 i).toNatClampNeg q3.1)) 14 t (x3 + (1 : Int32)).toNatClampNeg) - (48 : Int32)))) 14 t (x3 + (2 : Int32)).toNatClampNeg) - (48 : Int32)))) 4 i ((gI (sA (sA (sA q3.2 16 i (upd (gA q3.2 16 i) (gI w 4 i).toNatClampNeg q3.1)) 17 i (upd (gA (sA q3.2 16 i (upd (gA q3.2 16 i) (gI w 4 i).toNatClampNeg q3.1)) 17 i) (gI (sA q3.2 16 i (upd (gA q3.2 16 i) (gI w 4 i).toNatClampNeg q3.1)) 4 i).toNatClampNeg ((gA (sA q3.2 16 i (upd (gA q3.2 16 i) (gI w 4 i).toNatClampNeg q3.1)) 14 t (x3 + (1 : Int32)).toNatClampNeg) - (48 : Int32)))) 18 i (upd (gA (sA (sA q3.2 16 i (upd (gA q3.2 16 i) (gI w 4 i).toNatClampNeg q3.1)) 17 i (upd (gA (sA q3.2 16 i (upd (gA q3.2 16 i) (gI w 4 i).toNatClampNeg q3.1)) 17 i) (gI (sA q3.2 16 i (upd (gA q3.2 16 i) (gI w 4 i).toNatClampNeg q3.1)) 4 i).toNatClampNeg ((gA (sA q3.2 16 i (upd (gA q3.2 16 i) (gI w 4 i).toNatClampNeg q3.1)) 14 t (x3 + (1 : Int32)).toNatClampNeg) - (48 : Int32)))) 18 i) (gI (sA (sA q3.2 16 i (upd (gA q3.2 16 i) (gI w 4 i).toNatClampNeg q3.1)) 17 i (upd (gA (sA q3.2 16 i (upd (gA q3.2 16 i) (gI w 4 i).toNatClampNeg q3.1)) 17 i) (gI (sA q3.2 16 i (upd (gA q3.2 16 i) (gI w 4 i).toNatClampNeg q3.1)) 4 i).toNatClampNeg ((gA (sA q3.2 16 i (upd (gA q3.2 16 i) (gI w 4 i).toNatClampNeg q3.1)) 14 t (x3 + (1 : Int32)).toNatClampNeg) - (48 : Int32)))) 4 i).toNatClampNeg ((gA (sA (sA q3.2 16 i (upd (gA q3.2 16 i) (gI w 4 i).toNatClampNeg q3.1)) 17 i (upd (gA (sA q3.2 16 i (upd (gA q3.2 16 i) (gI w 4 i).toNatClampNeg q3.1)) 17 i) (gI (sA q3.2 16 i (upd (gA q3.2 16 i) (gI w 4 i).toNatClampNeg q3.1)) 4 i).toNatClampNeg ((gA (sA q3.2 16 i (upd (gA q3.2 16 i) (gI w 4 i).toNatClampNeg q3.1)) 14 t (x3 + (1 : Int32)).toNatClampNeg) - (48 : Int32)))) 14 t (x3 + (2 : Int32)).toNatClampNeg) - (48 : Int32)))) 4 i) + (1 : Int32))) _ h ke
        · have h := it_t h c
          refine Z_iinc hC (dk d_X0_settle 22 rfl) 39 rfl rfl rfl [some (vr 3 i), some (vr 14 t), some (vi x2), some (vi (x3 + (1 : Int32)))] rfl ?_
          refine Z_goto hC (dk d_X0_settle 23 rfl) 12 (by decide) ?_
          refine Z_wk [true, true, true, true] [some (vr 3 i), some (vr 14 t), some (vi x2), some (vi (x3 + (1 : Int32)))] rfl ?_
          exact ih (x3 + (1 : Int32)) w _ h ke
noncomputable def f_X0_settle (N : Nat) (i : Nat) (t : Nat) (a1 : Int32) (w : Wd) : Option (Wd) :=
  (X0_settle_L1 N i t a1 N (0 : Int32) (sI (sI w 4 i (0 : Int32)) 5 i (0 : Int32))).bind (fun q9 =>
    some q9)
set_option maxRecDepth 20000 in
set_option maxHeartbeats 4000000 in
theorem s_X0_settle (G : GT) (l : Launch) (N : Nat) (i : Nat) (t : Nat) (hi : i < 2) (ht : t < 4) (a1 : Int32) (w : Wd) (q : Wd) (h : f_X0_settle N i t a1 w = some q) : Sp G l yX0_settle cw_X0_settle 1 [vr 3 i, vr 14 t, vi a1] w none q := by
  refine Sp_of (own := RX0) [some (vr 3 i), some (vr 14 t), some (vi a1), none] (by decide) rfl rfl (Nat.le_of_ble_eq_true rfl) ?_
  intro x hG hl hC hr hQ _ _
  subst hG
  subst hl
  unfold f_X0_settle at h
  refine Z_aload_n hC (dk d_X0_settle 0 rfl) 1 rfl rfl rfl ?_
  refine Z_iconst (v := 0) hC (dk d_X0_settle 1 rfl) 2 rfl (by decide) ?_
  refine P_X0_28 hC (m_3 hi) (dk d_X0_settle 2 rfl) 5 rfl ?_
  refine Z_aload_n hC (dk d_X0_settle 3 rfl) 6 rfl rfl rfl ?_
  refine Z_iconst (v := 0) hC (dk d_X0_settle 4 rfl) 7 rfl (by decide) ?_
  refine P_X0_31 hC (m_3 hi) (dk d_X0_settle 5 rfl) 10 rfl ?_
  refine Z_iconst (v := 0) hC (dk d_X0_settle 6 rfl) 11 rfl (by decide) ?_
  refine Z_istore_n hC (dk d_X0_settle 7 rfl) 12 rfl rfl (Nat.le_of_ble_eq_true rfl) [some (vr 3 i), some (vr 14 t), some (vi a1), some (vi (0 : Int32))] rfl ?_
  obtain ⟨q9, hq9, h⟩ := bd_some h
  refine Z_wk [true, true, true, true] [some (vr 3 i), some (vr 14 t), some (vi a1), some (vi (0 : Int32))] rfl ?_
  refine z_X0_settle_L1 hC hr N i t hi ht a1 N (0 : Int32) (sI (sI w 4 i (0 : Int32)) 5 i (0 : Int32)) q9 hq9 ?_
  obtain rfl := Option.some.inj h
  exact Z_return (st := []) hC hr hQ (dk d_X0_settle 65 rfl)
def t_X0_become : List (Nat × Instr × Nat) := [(0, .aload_n 1, 1), (1, .getfield 9, 3), (4, .iconst 0, 1), (5, .aload_n 0, 1), (6, .getfield 9, 3), (9, .iconst 0, 1), (10, .bipush 6, 2), (12, .invokestatic 38, 3), (15, .aload_n 1, 1), (16, .getfield 15, 3), (19, .iconst 0, 1), (20, .aload_n 0, 1), (21, .getfield 15, 3), (24, .iconst 0, 1), (25, .bipush 6, 2), (27, .invokestatic 38, 3), (30, .aload_n 1, 1), (31, .getfield 18, 3), (34, .iconst 0, 1), (35, .aload_n 0, 1), (36, .getfield 18, 3), (39, .iconst 0, 1), (40, .bipush 6, 2), (42, .invokestatic 38, 3), (45, .aload_n 1, 1), (46, .getfield 21, 3), (49, .iconst 0, 1), (50, .aload_n 0, 1), (51, .getfield 21, 3), (54, .iconst 0, 1), (55, .aload_n 0, 1), (56, .getfield 21, 3), (59, .arraylength, 1), (60, .invokestatic 38, 3), (63, .aload_n 0, 1), (64, .aload_n 1, 1), (65, .getfield 28, 3), (68, .putfield 28, 3), (71, .aload_n 0, 1), (72, .aload_n 1, 1), (73, .getfield 31, 3), (76, .putfield 31, 3), (79, .aload_n 0, 1), (80, .aload_n 1, 1), (81, .getfield 24, 3), (84, .putfield 24, 3), (87, .return_, 1)]
set_option maxRecDepth 20000 in
theorem d_X0_become : ∀ q ∈ t_X0_become, decode cX0_become q.1 = .ok q.2 := by decide +kernel
noncomputable def f_X0_become (N : Nat) (i : Nat) (j : Nat) (w : Wd) : Option (Wd) :=
  gd (¬ (0 : Int32) < 0 ∧ ¬ (0 : Int32) < 0 ∧ ¬ (6 : Int32) < 0 ∧ (0 : Int32).toNatClampNeg + (6 : Int32).toNatClampNeg ≤ 6 ∧ (0 : Int32).toNatClampNeg + (6 : Int32).toNatClampNeg ≤ 6) (
  gd (¬ (0 : Int32) < 0 ∧ ¬ (0 : Int32) < 0 ∧ ¬ (6 : Int32) < 0 ∧ (0 : Int32).toNatClampNeg + (6 : Int32).toNatClampNeg ≤ 6 ∧ (0 : Int32).toNatClampNeg + (6 : Int32).toNatClampNeg ≤ 6) (
  gd (¬ (0 : Int32) < 0 ∧ ¬ (0 : Int32) < 0 ∧ ¬ (6 : Int32) < 0 ∧ (0 : Int32).toNatClampNeg + (6 : Int32).toNatClampNeg ≤ 6 ∧ (0 : Int32).toNatClampNeg + (6 : Int32).toNatClampNeg ≤ 6) (
  gd (¬ (0 : Int32) < 0 ∧ ¬ (0 : Int32) < 0 ∧ ¬ (42 : Int32) < 0 ∧ (0 : Int32).toNatClampNeg + (42 : Int32).toNatClampNeg ≤ 42 ∧ (0 : Int32).toNatClampNeg + (42 : Int32).toNatClampNeg ≤ 42) (
  some (sI (sI (sI (sA (sA (sA (sA w 16 i (va_cpy (gA w 16 j) (gA w 16 i) (0 : Int32).toNatClampNeg (0 : Int32).toNatClampNeg (6 : Int32).toNatClampNeg)) 17 i (va_cpy (gA (sA w 16 i (va_cpy (gA w 16 j) (gA w 16 i) (0 : Int32).toNatClampNeg (0 : Int32).toNatClampNeg (6 : Int32).toNatClampNeg)) 17 j) (gA (sA w 16 i (va_cpy (gA w 16 j) (gA w 16 i) (0 : Int32).toNatClampNeg (0 : Int32).toNatClampNeg (6 : Int32).toNatClampNeg)) 17 i) (0 : Int32).toNatClampNeg (0 : Int32).toNatClampNeg (6 : Int32).toNatClampNeg)) 18 i (va_cpy (gA (sA (sA w 16 i (va_cpy (gA w 16 j) (gA w 16 i) (0 : Int32).toNatClampNeg (0 : Int32).toNatClampNeg (6 : Int32).toNatClampNeg)) 17 i (va_cpy (gA (sA w 16 i (va_cpy (gA w 16 j) (gA w 16 i) (0 : Int32).toNatClampNeg (0 : Int32).toNatClampNeg (6 : Int32).toNatClampNeg)) 17 j) (gA (sA w 16 i (va_cpy (gA w 16 j) (gA w 16 i) (0 : Int32).toNatClampNeg (0 : Int32).toNatClampNeg (6 : Int32).toNatClampNeg)) 17 i) (0 : Int32).toNatClampNeg (0 : Int32).toNatClampNeg (6 : Int32).toNatClampNeg)) 18 j) (gA (sA (sA w 16 i (va_cpy (gA w 16 j) (gA w 16 i) (0 : Int32).toNatClampNeg (0 : Int32).toNatClampNeg (6 : Int32).toNatClampNeg)) 17 i (va_cpy (gA (sA w 16 i (va_cpy (gA w 16 j) (gA w 16 i) (0 : Int32).toNatClampNeg (0 : Int32).toNatClampNeg (6 : Int32).toNatClampNeg)) 17 j) (gA (sA w 16 i (va_cpy (gA w 16 j) (gA w 16 i) (0 : Int32).toNatClampNeg (0 : Int32).toNatClampNeg (6 : Int32).toNatClampNeg)) 17 i) (0 : Int32).toNatClampNeg (0 : Int32).toNatClampNeg (6 : Int32).toNatClampNeg)) 18 i) (0 : Int32).toNatClampNeg (0 : Int32).toNatClampNeg (6 : Int32).toNatClampNeg)) 19 i (va_cpy (gA (sA (sA (sA w 16 i (va_cpy (gA w 16 j) (gA w 16 i) (0 : Int32).toNatClampNeg (0 : Int32).toNatClampNeg (6 : Int32).toNatClampNeg)) 17 i (va_cpy (gA (sA w 16 i (va_cpy (gA w 16 j) (gA w 16 i) (0 : Int32).toNatClampNeg (0 : Int32).toNatClampNeg (6 : Int32).toNatClampNeg)) 17 j) (gA (sA w 16 i (va_cpy (gA w 16 j) (gA w 16 i) (0 : Int32).toNatClampNeg (0 : Int32).toNatClampNeg (6 : Int32).toNatClampNeg)) 17 i) (0 : Int32).toNatClampNeg (0 : Int32).toNatClampNeg (6 : Int32).toNatClampNeg)) 18 i (va_cpy (gA (sA (sA w 16 i (va_cpy (gA w 16 j) (gA w 16 i) (0 : Int32).toNatClampNeg (0 : Int32).toNatClampNeg (6 : Int32).toNatClampNeg)) 17 i (va_cpy (gA (sA w 16 i (va_cpy (gA w 16 j) (gA w 16 i) (0 : Int32).toNatClampNeg (0 : Int32).toNatClampNeg (6 : Int32).toNatClampNeg)) 17 j) (gA (sA w 16 i (va_cpy (gA w 16 j) (gA w 16 i) (0 : Int32).toNatClampNeg (0 : Int32).toNatClampNeg (6 : Int32).toNatClampNeg)) 17 i) (0 : Int32).toNatClampNeg (0 : Int32).toNatClampNeg (6 : Int32).toNatClampNeg)) 18 j) (gA (sA (sA w 16 i (va_cpy (gA w 16 j) (gA w 16 i) (0 : Int32).toNatClampNeg (0 : Int32).toNatClampNeg (6 : Int32).toNatClampNeg)) 17 i (va_cpy (gA (sA w 16 i (va_cpy (gA w 16 j) (gA w 16 i) (0 : Int32).toNatClampNeg (0 : Int32).toNatClampNeg (6 : Int32).toNatClampNeg)) 17 j) (gA (sA w 16 i (va_cpy (gA w 16 j) (gA w 16 i) (0 : Int32).toNatClampNeg (0 : Int32).toNatClampNeg (6 : Int32).toNatClampNeg)) 17 i) (0 : Int32).toNatClampNeg (0 : Int32).toNatClampNeg (6 : Int32).toNatClampNeg)) 18 i) (0 : Int32).toNatClampNeg (0 : Int32).toNatClampNeg (6 : Int32).toNatClampNeg)) 19 j) (gA (sA (sA (sA w 16 i (va_cpy (gA w 16 j) (gA w 16 i) (0 : Int32).toNatClampNeg (0 : Int32).toNatClampNeg (6 : Int32).toNatClampNeg)) 17 i (va_cpy (gA (sA w 16 i (va_cpy (gA w 16 j) (gA w 16 i) (0 : Int32).toNatClampNeg (0 : Int32).toNatClampNeg (6 : Int32).toNatClampNeg)) 17 j) (gA (sA w 16 i (va_cpy (gA w 16 j) (gA w 16 i) (0 : Int32).toNatClampNeg (0 : Int32).toNatClampNeg (6 : Int32).toNatClampNeg)) 17 i) (0 : Int32).toNatClampNeg (0 : Int32).toNatClampNeg (6 : Int32).toNatClampNeg)) 18 i (va_cpy (gA (sA (sA w 16 i (va_cpy (gA w 16 j) (gA w 16 i) (0 : Int32).toNatClampNeg (0 : Int32).toNatClampNeg (6 : Int32).toNatClampNeg)) 17 i (va_cpy (gA (sA w 16 i (va_cpy (gA w 16 j) (gA w 16 i) (0 : Int32).toNatClampNeg (0 : Int32).toNatClampNeg (6 : Int32).toNatClampNeg)) 17 j) (gA (sA w 16 i (va_cpy (gA w 16 j) (gA w 16 i) (0 : Int32).toNatClampNeg (0 : Int32).toNatClampNeg (6 : Int32).toNatClampNeg)) 17 i) (0 : Int32).toNatClampNeg (0 : Int32).toNatClampNeg (6 : Int32).toNatClampNeg)) 18 j) (gA (sA (sA w 16 i (va_cpy (gA w 16 j) (gA w 16 i) (0 : Int32).toNatClampNeg (0 : Int32).toNatClampNeg (6 : Int32).toNatClampNeg)) 17 i (va_cpy (gA (sA w 16 i (va_cpy (gA w 16 j) (gA w 16 i) (0 : Int32).toNatClampNeg (0 : Int32).toNatClampNeg (6 : Int32).toNatClampNeg)) 17 j) (gA (sA w 16 i (va_cpy (gA w 16 j) (gA w 16 i) (0 : Int32).toNatClampNeg (0 : Int32).toNatClampNeg (6 : Int32).toNatClampNeg)) 17 i) (0 : Int32).toNatClampNeg (0 : Int32).toNatClampNeg (6 : Int32).toNatClampNeg)) 18 i) (0 : Int32).toNatClampNeg (0 : Int32).toNatClampNeg (6 : Int32).toNatClampNeg)) 19 i) (0 : Int32).toNatClampNeg (0 : Int32).toNatClampNeg (42 : Int32).toNatClampNeg)) 4 i (gI (sA (sA (sA (sA w 16 i (va_cpy (gA w 16 j) (gA w 16 i) (0 : Int32).toNatClampNeg (0 : Int32).toNatClampNeg (6 : Int32).toNatClampNeg)) 17 i (va_cpy (gA (sA w 16 i (va_cpy (gA w 16 j) (gA w 16 i) (0 : Int32).toNatClampNeg (0 : Int32).toNatClampNeg (6 : Int32).toNatClampNeg)) 17 j) (gA (sA w 16 i (va_cpy (gA w 16 j) (gA w 16 i) (0 : Int32).toNatClampNeg (0 : Int32).toNatClampNeg (6 : Int32).toNatClampNeg)) 17 i) (0 : Int32).toNatClampNeg (0 : Int32).toNatClampNeg (6 : Int32).toNatClampNeg)) 18 i (va_cpy (gA (sA (sA w 16 i (va_cpy (gA w 16 j) (gA w 16 i) (0 : Int32).toNatClampNeg (0 : Int32).toNatClampNeg (6 : Int32).toNatClampNeg)) 17 i (va_cpy (gA (sA w 16 i (va_cpy (gA w 16 j) (gA w 16 i) (0 : Int32).toNatClampNeg (0 : Int32).toNatClampNeg (6 : Int32).toNatClampNeg)) 17 j) (gA (sA w 16 i (va_cpy (gA w 16 j) (gA w 16 i) (0 : Int32).toNatClampNeg (0 : Int32).toNatClampNeg (6 : Int32).toNatClampNeg)) 17 i) (0 : Int32).toNatClampNeg (0 : Int32).toNatClampNeg (6 : Int32).toNatClampNeg)) 18 j) (gA (sA (sA w 16 i (va_cpy (gA w 16 j) (gA w 16 i) (0 : Int32).toNatClampNeg (0 : Int32).toNatClampNeg (6 : Int32).toNatClampNeg)) 17 i (va_cpy (gA (sA w 16 i (va_cpy (gA w 16 j) (gA w 16 i) (0 : Int32).toNatClampNeg (0 : Int32).toNatClampNeg (6 : Int32).toNatClampNeg)) 17 j) (gA (sA w 16 i (va_cpy (gA w 16 j) (gA w 16 i) (0 : Int32).toNatClampNeg (0 : Int32).toNatClampNeg (6 : Int32).toNatClampNeg)) 17 i) (0 : Int32).toNatClampNeg (0 : Int32).toNatClampNeg (6 : Int32).toNatClampNeg)) 18 i) (0 : Int32).toNatClampNeg (0 : Int32).toNatClampNeg (6 : Int32).toNatClampNeg)) 19 i (va_cpy (gA (sA (sA (sA w 16 i (va_cpy (gA w 16 j) (gA w 16 i) (0 : Int32).toNatClampNeg (0 : Int32).toNatClampNeg (6 : Int32).toNatClampNeg)) 17 i (va_cpy (gA (sA w 16 i (va_cpy (gA w 16 j) (gA w 16 i) (0 : Int32).toNatClampNeg (0 : Int32).toNatClampNeg (6 : Int32).toNatClampNeg)) 17 j) (gA (sA w 16 i (va_cpy (gA w 16 j) (gA w 16 i) (0 : Int32).toNatClampNeg (0 : Int32).toNatClampNeg (6 : Int32).toNatClampNeg)) 17 i) (0 : Int32).toNatClampNeg (0 : Int32).toNatClampNeg (6 : Int32).toNatClampNeg)) 18 i (va_cpy (gA (sA (sA w 16 i (va_cpy (gA w 16 j) (gA w 16 i) (0 : Int32).toNatClampNeg (0 : Int32).toNatClampNeg (6 : Int32).toNatClampNeg)) 17 i (va_cpy (gA (sA w 16 i (va_cpy (gA w 16 j) (gA w 16 i) (0 : Int32).toNatClampNeg (0 : Int32).toNatClampNeg (6 : Int32).toNatClampNeg)) 17 j) (gA (sA w 16 i (va_cpy (gA w 16 j) (gA w 16 i) (0 : Int32).toNatClampNeg (0 : Int32).toNatClampNeg (6 : Int32).toNatClampNeg)) 17 i) (0 : Int32).toNatClampNeg (0 : Int32).toNatClampNeg (6 : Int32).toNatClampNeg)) 18 j) (gA (sA (sA w 16 i (va_cpy (gA w 16 j) (gA w 16 i) (0 : Int32).toNatClampNeg (0 : Int32).toNatClampNeg (6 : Int32).toNatClampNeg)) 17 i (va_cpy (gA (sA w 16 i (va_cpy (gA w 16 j) (gA w 16 i) (0 : Int32).toNatClampNeg (0 : Int32).toNatClampNeg (6 : Int32).toNatClampNeg)) 17 j) (gA (sA w 16 i (va_cpy (gA w 16 j) (gA w 16 i) (0 : Int32).toNatClampNeg (0 : Int32).toNatClampNeg (6 : Int32).toNatClampNeg)) 17 i) (0 : Int32).toNatClampNeg (0 : Int32).toNatClampNeg (6 : Int32).toNatClampNeg)) 18 i) (0 : Int32).toNatClampNeg (0 : Int32).toNatClampNeg (6 : Int32).toNatClampNeg)) 19 j) (gA (sA (sA (sA w 16 i (va_cpy (gA w 16 j) (gA w 16 i) (0 : Int32).toNatClampNeg (0 : Int32).toNatClampNeg (6 : Int32).toNatClampNeg)) 17 i (va_cpy (gA (sA w 16 i (va_cpy (gA w 16 j) (gA w 16 i) (0 : Int32).toNatClampNeg (0 : Int32).toNatClampNeg (6 : Int32).toNatClampNeg)) 17 j) (gA (sA w 16 i (va_cpy (gA w 16 j) (gA w 16 i) (0 : Int32).toNatClampNeg (0 : Int32).toNatClampNeg (6 : Int32).toNatClampNeg)) 17 i) (0 : Int32).toNatClampNeg (0 : Int32).toNatClampNeg (6 : Int32).toNatClampNeg)) 18 i (va_cpy (gA (sA (sA w 16 i (va_cpy (gA w 16 j) (gA w 16 i) (0 : Int32).toNatClampNeg (0 : Int32).toNatClampNeg (6 : Int32).toNatClampNeg)) 17 i (va_cpy (gA (sA w 16 i (va_cpy (gA w 16 j) (gA w 16 i) (0 : Int32).toNatClampNeg (0 : Int32).toNatClampNeg (6 : Int32).toNatClampNeg)) 17 j) (gA (sA w 16 i (va_cpy (gA w 16 j) (gA w 16 i) (0 : Int32).toNatClampNeg (0 : Int32).toNatClampNeg (6 : Int32).toNatClampNeg)) 17 i) (0 : Int32).toNatClampNeg (0 : Int32).toNatClampNeg (6 : Int32).toNatClampNeg)) 18 j) (gA (sA (sA w 16 i (va_cpy (gA w 16 j) (gA w 16 i) (0 : Int32).toNatClampNeg (0 : Int32).toNatClampNeg (6 : Int32).toNatClampNeg)) 17 i (va_cpy (gA (sA w 16 i (va_cpy (gA w 16 j) (gA w 16 i) (0 : Int32).toNatClampNeg (0 : Int32).toNatClampNeg (6 : Int32).toNatClampNeg)) 17 j) (gA (sA w 16 i (va_cpy (gA w 16 j) (gA w 16 i) (0 : Int32).toNatClampNeg (0 : Int32).toNatClampNeg (6 : Int32).toNatClampNeg)) 17 i) (0 : Int32).toNatClampNeg (0 : Int32).toNatClampNeg (6 : Int32).toNatClampNeg)) 18 i) (0 : Int32).toNatClampNeg (0 : Int32).toNatClampNeg (6 : Int32).toNatClampNeg)) 19 i) (0 : Int32).toNatClampNeg (0 : Int32).toNatClampNeg (42 : Int32).toNatClampNeg)) 4 j)) 5 i (gI (sI (sA (sA (sA (sA w 16 i (va_cpy (gA w 16 j) (gA w 16 i) (0 : Int32).toNatClampNeg (0 : Int32).toNatClampNeg (6 : Int32).toNatClampNeg)) 17 i (va_cpy (gA (sA w 16 i (va_cpy (gA w 16 j) (gA w 16 i) (0 : Int32).toNatClampNeg (0 : Int32).toNatClampNeg (6 : Int32).toNatClampNeg)) 17 j) (gA (sA w 16 i (va_cpy (gA w 16 j) (gA w 16 i) (0 : Int32).toNatClampNeg (0 : Int32).toNatClampNeg (6 : Int32).toNatClampNeg)) 17 i) (0 : Int32).toNatClampNeg (0 : Int32).toNatClampNeg (6 : Int32).toNatClampNeg)) 18 i (va_cpy (gA (sA (sA w 16 i (va_cpy (gA w 16 j) (gA w 16 i) (0 : Int32).toNatClampNeg (0 : Int32).toNatClampNeg (6 : Int32).toNatClampNeg)) 17 i (va_cpy (gA (sA w 16 i (va_cpy (gA w 16 j) (gA w 16 i) (0 : Int32).toNatClampNeg (0 : Int32).toNatClampNeg (6 : Int32).toNatClampNeg)) 17 j) (gA (sA w 16 i (va_cpy (gA w 16 j) (gA w 16 i) (0 : Int32).toNatClampNeg (0 : Int32).toNatClampNeg (6 : Int32).toNatClampNeg)) 17 i) (0 : Int32).toNatClampNeg (0 : Int32).toNatClampNeg (6 : Int32).toNatClampNeg)) 18 j) (gA (sA (sA w 16 i (va_cpy (gA w 16 j) (gA w 16 i) (0 : Int32).toNatClampNeg (0 : Int32).toNatClampNeg (6 : Int32).toNatClampNeg)) 17 i (va_cpy (gA (sA w 16 i (va_cpy (gA w 16 j) (gA w 16 i) (0 : Int32).toNatClampNeg (0 : Int32).toNatClampNeg (6 : Int32).toNatClampNeg)) 17 j) (gA (sA w 16 i (va_cpy (gA w 16 j) (gA w 16 i) (0 : Int32).toNatClampNeg (0 : Int32).toNatClampNeg (6 : Int32).toNatClampNeg)) 17 i) (0 : Int32).toNatClampNeg (0 : Int32).toNatClampNeg (6 : Int32).toNatClampNeg)) 18 i) (0 : Int32).toNatClampNeg (0 : Int32).toNatClampNeg (6 : Int32).toNatClampNeg)) 19 i (va_cpy (gA (sA (sA (sA w 16 i (va_cpy (gA w 16 j) (gA w 16 i) (0 : Int32).toNatClampNeg (0 : Int32).toNatClampNeg (6 : Int32).toNatClampNeg)) 17 i (va_cpy (gA (sA w 16 i (va_cpy (gA w 16 j) (gA w 16 i) (0 : Int32).toNatClampNeg (0 : Int32).toNatClampNeg (6 : Int32).toNatClampNeg)) 17 j) (gA (sA w 16 i (va_cpy (gA w 16 j) (gA w 16 i) (0 : Int32).toNatClampNeg (0 : Int32).toNatClampNeg (6 : Int32).toNatClampNeg)) 17 i) (0 : Int32).toNatClampNeg (0 : Int32).toNatClampNeg (6 : Int32).toNatClampNeg)) 18 i (va_cpy (gA (sA (sA w 16 i (va_cpy (gA w 16 j) (gA w 16 i) (0 : Int32).toNatClampNeg (0 : Int32).toNatClampNeg (6 : Int32).toNatClampNeg)) 17 i (va_cpy (gA (sA w 16 i (va_cpy (gA w 16 j) (gA w 16 i) (0 : Int32).toNatClampNeg (0 : Int32).toNatClampNeg (6 : Int32).toNatClampNeg)) 17 j) (gA (sA w 16 i (va_cpy (gA w 16 j) (gA w 16 i) (0 : Int32).toNatClampNeg (0 : Int32).toNatClampNeg (6 : Int32).toNatClampNeg)) 17 i) (0 : Int32).toNatClampNeg (0 : Int32).toNatClampNeg (6 : Int32).toNatClampNeg)) 18 j) (gA (sA (sA w 16 i (va_cpy (gA w 16 j) (gA w 16 i) (0 : Int32).toNatClampNeg (0 : Int32).toNatClampNeg (6 : Int32).toNatClampNeg)) 17 i (va_cpy (gA (sA w 16 i (va_cpy (gA w 16 j) (gA w 16 i) (0 : Int32).toNatClampNeg (0 : Int32).toNatClampNeg (6 : Int32).toNatClampNeg)) 17 j) (gA (sA w 16 i (va_cpy (gA w 16 j) (gA w 16 i) (0 : Int32).toNatClampNeg (0 : Int32).toNatClampNeg (6 : Int32).toNatClampNeg)) 17 i) (0 : Int32).toNatClampNeg (0 : Int32).toNatClampNeg (6 : Int32).toNatClampNeg)) 18 i) (0 : Int32).toNatClampNeg (0 : Int32).toNatClampNeg (6 : Int32).toNatClampNeg)) 19 j) (gA (sA (sA (sA w 16 i (va_cpy (gA w 16 j) (gA w 16 i) (0 : Int32).toNatClampNeg (0 : Int32).toNatClampNeg (6 : Int32).toNatClampNeg)) 17 i (va_cpy (gA (sA w 16 i (va_cpy (gA w 16 j) (gA w 16 i) (0 : Int32).toNatClampNeg (0 : Int32).toNatClampNeg (6 : Int32).toNatClampNeg)) 17 j) (gA (sA w 16 i (va_cpy (gA w 16 j) (gA w 16 i) (0 : Int32).toNatClampNeg (0 : Int32).toNatClampNeg (6 : Int32).toNatClampNeg)) 17 i) (0 : Int32).toNatClampNeg (0 : Int32).toNatClampNeg (6 : Int32).toNatClampNeg)) 18 i (va_cpy (gA (sA (sA w 16 i (va_cpy (gA w 16 j) (gA w 16 i) (0 : Int32).toNatClampNeg (0 : Int32).toNatClampNeg (6 : Int32).toNatClampNeg)) 17 i (va_cpy (gA (sA w 16 i (va_cpy (gA w 16 j) (gA w 16 i) (0 : Int32).toNatClampNeg (0 : Int32).toNatClampNeg (6 : Int32).toNatClampNeg)) 17 j) (gA (sA w 16 i (va_cpy (gA w 16 j) (gA w 16 i) (0 : Int32).toNatClampNeg (0 : Int32).toNatClampNeg (6 : Int32).toNatClampNeg)) 17 i) (0 : Int32).toNatClampNeg (0 : Int32).toNatClampNeg (6 : Int32).toNatClampNeg)) 18 j) (gA (sA (sA w 16 i (va_cpy (gA w 16 j) (gA w 16 i) (0 : Int32).toNatClampNeg (0 : Int32).toNatClampNeg (6 : Int32).toNatClampNeg)) 17 i (va_cpy (gA (sA w 16 i (va_cpy (gA w 16 j) (gA w 16 i) (0 : Int32).toNatClampNeg (0 : Int32).toNatClampNeg (6 : Int32).toNatClampNeg)) 17 j) (gA (sA w 16 i (va_cpy (gA w 16 j) (gA w 16 i) (0 : Int32).toNatClampNeg (0 : Int32).toNatClampNeg (6 : Int32).toNatClampNeg)) 17 i) (0 : Int32).toNatClampNeg (0 : Int32).toNatClampNeg (6 : Int32).toNatClampNeg)) 18 i) (0 : Int32).toNatClampNeg (0 : Int32).toNatClampNeg (6 : Int32).toNatClampNeg)) 19 i) (0 : Int32).toNatClampNeg (0 : Int32).toNatClampNeg (42 : Int32).toNatClampNeg)) 4 i (gI (sA (sA (sA (sA w 16 i (va_cpy (gA w 16 j) (gA w 16 i) (0 : Int32).toNatClampNeg (0 : Int32).toNatClampNeg (6 : Int32).toNatClampNeg)) 17 i (va_cpy (gA (sA w 16 i (va_cpy (gA w 16 j) (gA w 16 i) (0 : Int32).toNatClampNeg (0 : Int32).toNatClampNeg (6 : Int32).toNatClampNeg)) 17 j) (gA (sA w 16 i (va_cpy (gA w 16 j) (gA w 16 i) (0 : Int32).toNatClampNeg (0 : Int32).toNatClampNeg (6 : Int32).toNatClampNeg)) 17 i) (0 : Int32).toNatClampNeg (0 : Int32).toNatClampNeg (6 : Int32).toNatClampNeg)) 18 i (va_cpy (gA (sA (sA w 16 i (va_cpy (gA w 16 j) (gA w 16 i) (0 : Int32).toNatClampNeg (0 : Int32).toNatClampNeg (6 : Int32).toNatClampNeg)) 17 i (va_cpy (gA (sA w 16 i (va_cpy (gA w 16 j) (gA w 16 i) (0 : Int32).toNatClampNeg (0 : Int32).toNatClampNeg (6 : Int32).toNatClampNeg)) 17 j) (gA (sA w 16 i (va_cpy (gA w 16 j) (gA w 16 i) (0 : Int32).toNatClampNeg (0 : Int32).toNatClampNeg (6 : Int32).toNatClampNeg)) 17 i) (0 : Int32).toNatClampNeg (0 : Int32).toNatClampNeg (6 : Int32).toNatClampNeg)) 18 j) (gA (sA (sA w 16 i (va_cpy (gA w 16 j) (gA w 16 i) (0 : Int32).toNatClampNeg (0 : Int32).toNatClampNeg (6 : Int32).toNatClampNeg)) 17 i (va_cpy (gA (sA w 16 i (va_cpy (gA w 16 j) (gA w 16 i) (0 : Int32).toNatClampNeg (0 : Int32).toNatClampNeg (6 : Int32).toNatClampNeg)) 17 j) (gA (sA w 16 i (va_cpy (gA w 16 j) (gA w 16 i) (0 : Int32).toNatClampNeg (0 : Int32).toNatClampNeg (6 : Int32).toNatClampNeg)) 17 i) (0 : Int32).toNatClampNeg (0 : Int32).toNatClampNeg (6 : Int32).toNatClampNeg)) 18 i) (0 : Int32).toNatClampNeg (0 : Int32).toNatClampNeg (6 : Int32).toNatClampNeg)) 19 i (va_cpy (gA (sA (sA (sA w 16 i (va_cpy (gA w 16 j) (gA w 16 i) (0 : Int32).toNatClampNeg (0 : Int32).toNatClampNeg (6 : Int32).toNatClampNeg)) 17 i (va_cpy (gA (sA w 16 i (va_cpy (gA w 16 j) (gA w 16 i) (0 : Int32).toNatClampNeg (0 : Int32).toNatClampNeg (6 : Int32).toNatClampNeg)) 17 j) (gA (sA w 16 i (va_cpy (gA w 16 j) (gA w 16 i) (0 : Int32).toNatClampNeg (0 : Int32).toNatClampNeg (6 : Int32).toNatClampNeg)) 17 i) (0 : Int32).toNatClampNeg (0 : Int32).toNatClampNeg (6 : Int32).toNatClampNeg)) 18 i (va_cpy (gA (sA (sA w 16 i (va_cpy (gA w 16 j) (gA w 16 i) (0 : Int32).toNatClampNeg (0 : Int32).toNatClampNeg (6 : Int32).toNatClampNeg)) 17 i (va_cpy (gA (sA w 16 i (va_cpy (gA w 16 j) (gA w 16 i) (0 : Int32).toNatClampNeg (0 : Int32).toNatClampNeg (6 : Int32).toNatClampNeg)) 17 j) (gA (sA w 16 i (va_cpy (gA w 16 j) (gA w 16 i) (0 : Int32).toNatClampNeg (0 : Int32).toNatClampNeg (6 : Int32).toNatClampNeg)) 17 i) (0 : Int32).toNatClampNeg (0 : Int32).toNatClampNeg (6 : Int32).toNatClampNeg)) 18 j) (gA (sA (sA w 16 i (va_cpy (gA w 16 j) (gA w 16 i) (0 : Int32).toNatClampNeg (0 : Int32).toNatClampNeg (6 : Int32).toNatClampNeg)) 17 i (va_cpy (gA (sA w 16 i (va_cpy (gA w 16 j) (gA w 16 i) (0 : Int32).toNatClampNeg (0 : Int32).toNatClampNeg (6 : Int32).toNatClampNeg)) 17 j) (gA (sA w 16 i (va_cpy (gA w 16 j) (gA w 16 i) (0 : Int32).toNatClampNeg (0 : Int32).toNatClampNeg (6 : Int32).toNatClampNeg)) 17 i) (0 : Int32).toNatClampNeg (0 : Int32).toNatClampNeg (6 : Int32).toNatClampNeg)) 18 i) (0 : Int32).toNatClampNeg (0 : Int32).toNatClampNeg (6 : Int32).toNatClampNeg)) 19 j) (gA (sA (sA (sA w 16 i (va_cpy (gA w 16 j) (gA w 16 i) (0 : Int32).toNatClampNeg (0 : Int32).toNatClampNeg (6 : Int32).toNatClampNeg)) 17 i (va_cpy (gA (sA w 16 i (va_cpy (gA w 16 j) (gA w 16 i) (0 : Int32).toNatClampNeg (0 : Int32).toNatClampNeg (6 : Int32).toNatClampNeg)) 17 j) (gA (sA w 16 i (va_cpy (gA w 16 j) (gA w 16 i) (0 : Int32).toNatClampNeg (0 : Int32).toNatClampNeg (6 : Int32).toNatClampNeg)) 17 i) (0 : Int32).toNatClampNeg (0 : Int32).toNatClampNeg (6 : Int32).toNatClampNeg)) 18 i (va_cpy (gA (sA (sA w 16 i (va_cpy (gA w 16 j) (gA w 16 i) (0 : Int32).toNatClampNeg (0 : Int32).toNatClampNeg (6 : Int32).toNatClampNeg)) 17 i (va_cpy (gA (sA w 16 i (va_cpy (gA w 16 j) (gA w 16 i) (0 : Int32).toNatClampNeg (0 : Int32).toNatClampNeg (6 : Int32).toNatClampNeg)) 17 j) (gA (sA w 16 i (va_cpy (gA w 16 j) (gA w 16 i) (0 : Int32).toNatClampNeg (0 : Int32).toNatClampNeg (6 : Int32).toNatClampNeg)) 17 i) (0 : Int32).toNatClampNeg (0 : Int32).toNatClampNeg (6 : Int32).toNatClampNeg)) 18 j) (gA (sA (sA w 16 i (va_cpy (gA w 16 j) (gA w 16 i) (0 : Int32).toNatClampNeg (0 : Int32).toNatClampNeg (6 : Int32).toNatClampNeg)) 17 i (va_cpy (gA (sA w 16 i (va_cpy (gA w 16 j) (gA w 16 i) (0 : Int32).toNatClampNeg (0 : Int32).toNatClampNeg (6 : Int32).toNatClampNeg)) 17 j) (gA (sA w 16 i (va_cpy (gA w 16 j) (gA w 16 i) (0 : Int32).toNatClampNeg (0 : Int32).toNatClampNeg (6 : Int32).toNatClampNeg)) 17 i) (0 : Int32).toNatClampNeg (0 : Int32).toNatClampNeg (6 : Int32).toNatClampNeg)) 18 i) (0 : Int32).toNatClampNeg (0 : Int32).toNatClampNeg (6 : Int32).toNatClampNeg)) 19 i) (0 : Int32).toNatClampNeg (0 : Int32).toNatClampNeg (42 : Int32).toNatClampNeg)) 4 j)) 5 j)) 6 i (gI (sI (sI (sA (sA (sA (sA w 16 i (va_cpy (gA w 16 j) (gA w 16 i) (0 : Int32).toNatClampNeg (0 : Int32).toNatClampNeg (6 : Int32).toNatClampNeg)) 17 i (va_cpy (gA (sA w 16 i (va_cpy (gA w 16 j) (gA w 16 i) (0 : Int32).toNatClampNeg (0 : Int32).toNatClampNeg (6 : Int32).toNatClampNeg)) 17 j) (gA (sA w 16 i (va_cpy (gA w 16 j) (gA w 16 i) (0 : Int32).toNatClampNeg (0 : Int32).toNatClampNeg (6 : Int32).toNatClampNeg)) 17 i) (0 : Int32).toNatClampNeg (0 : Int32).toNatClampNeg (6 : Int32).toNatClampNeg)) 18 i (va_cpy (gA (sA (sA w 16 i (va_cpy (gA w 16 j) (gA w 16 i) (0 : Int32).toNatClampNeg (0 : Int32).toNatClampNeg (6 : Int32).toNatClampNeg)) 17 i (va_cpy (gA (sA w 16 i (va_cpy (gA w 16 j) (gA w 16 i) (0 : Int32).toNatClampNeg (0 : Int32).toNatClampNeg (6 : Int32).toNatClampNeg)) 17 j) (gA (sA w 16 i (va_cpy (gA w 16 j) (gA w 16 i) (0 : Int32).toNatClampNeg (0 : Int32).toNatClampNeg (6 : Int32).toNatClampNeg)) 17 i) (0 : Int32).toNatClampNeg (0 : Int32).toNatClampNeg (6 : Int32).toNatClampNeg)) 18 j) (gA (sA (sA w 16 i (va_cpy (gA w 16 j) (gA w 16 i) (0 : Int32).toNatClampNeg (0 : Int32).toNatClampNeg (6 : Int32).toNatClampNeg)) 17 i (va_cpy (gA (sA w 16 i (va_cpy (gA w 16 j) (gA w 16 i) (0 : Int32).toNatClampNeg (0 : Int32).toNatClampNeg (6 : Int32).toNatClampNeg)) 17 j) (gA (sA w 16 i (va_cpy (gA w 16 j) (gA w 16 i) (0 : Int32).toNatClampNeg (0 : Int32).toNatClampNeg (6 : Int32).toNatClampNeg)) 17 i) (0 : Int32).toNatClampNeg (0 : Int32).toNatClampNeg (6 : Int32).toNatClampNeg)) 18 i) (0 : Int32).toNatClampNeg (0 : Int32).toNatClampNeg (6 : Int32).toNatClampNeg)) 19 i (va_cpy (gA (sA (sA (sA w 16 i (va_cpy (gA w 16 j) (gA w 16 i) (0 : Int32).toNatClampNeg (0 : Int32).toNatClampNeg (6 : Int32).toNatClampNeg)) 17 i (va_cpy (gA (sA w 16 i (va_cpy (gA w 16 j) (gA w 16 i) (0 : Int32).toNatClampNeg (0 : Int32).toNatClampNeg (6 : Int32).toNatClampNeg)) 17 j) (gA (sA w 16 i (va_cpy (gA w 16 j) (gA w 16 i) (0 : Int32).toNatClampNeg (0 : Int32).toNatClampNeg (6 : Int32).toNatClampNeg)) 17 i) (0 : Int32).toNatClampNeg (0 : Int32).toNatClampNeg (6 : Int32).toNatClampNeg)) 18 i (va_cpy (gA (sA (sA w 16 i (va_cpy (gA w 16 j) (gA w 16 i) (0 : Int32).toNatClampNeg (0 : Int32).toNatClampNeg (6 : Int32).toNatClampNeg)) 17 i (va_cpy (gA (sA w 16 i (va_cpy (gA w 16 j) (gA w 16 i) (0 : Int32).toNatClampNeg (0 : Int32).toNatClampNeg (6 : Int32).toNatClampNeg)) 17 j) (gA (sA w 16 i (va_cpy (gA w 16 j) (gA w 16 i) (0 : Int32).toNatClampNeg (0 : Int32).toNatClampNeg (6 : Int32).toNatClampNeg)) 17 i) (0 : Int32).toNatClampNeg (0 : Int32).toNatClampNeg (6 : Int32).toNatClampNeg)) 18 j) (gA (sA (sA w 16 i (va_cpy (gA w 16 j) (gA w 16 i) (0 : Int32).toNatClampNeg (0 : Int32).toNatClampNeg (6 : Int32).toNatClampNeg)) 17 i (va_cpy (gA (sA w 16 i (va_cpy (gA w 16 j) (gA w 16 i) (0 : Int32).toNatClampNeg (0 : Int32).toNatClampNeg (6 : Int32).toNatClampNeg)) 17 j) (gA (sA w 16 i (va_cpy (gA w 16 j) (gA w 16 i) (0 : Int32).toNatClampNeg (0 : Int32).toNatClampNeg (6 : Int32).toNatClampNeg)) 17 i) (0 : Int32).toNatClampNeg (0 : Int32).toNatClampNeg (6 : Int32).toNatClampNeg)) 18 i) (0 : Int32).toNatClampNeg (0 : Int32).toNatClampNeg (6 : Int32).toNatClampNeg)) 19 j) (gA (sA (sA (sA w 16 i (va_cpy (gA w 16 j) (gA w 16 i) (0 : Int32).toNatClampNeg (0 : Int32).toNatClampNeg (6 : Int32).toNatClampNeg)) 17 i (va_cpy (gA (sA w 16 i (va_cpy (gA w 16 j) (gA w 16 i) (0 : Int32).toNatClampNeg (0 : Int32).toNatClampNeg (6 : Int32).toNatClampNeg)) 17 j) (gA (sA w 16 i (va_cpy (gA w 16 j) (gA w 16 i) (0 : Int32).toNatClampNeg (0 : Int32).toNatClampNeg (6 : Int32).toNatClampNeg)) 17 i) (0 : Int32).toNatClampNeg (0 : Int32).toNatClampNeg (6 : Int32).toNatClampNeg)) 18 i (va_cpy (gA (sA (sA w 16 i (va_cpy (gA w 16 j) (gA w 16 i) (0 : Int32).toNatClampNeg (0 : Int32).toNatClampNeg (6 : Int32).toNatClampNeg)) 17 i (va_cpy (gA (sA w 16 i (va_cpy (gA w 16 j) (gA w 16 i) (0 : Int32).toNatClampNeg (0 : Int32).toNatClampNeg (6 : Int32).toNatClampNeg)) 17 j) (gA (sA w 16 i (va_cpy (gA w 16 j) (gA w 16 i) (0 : Int32).toNatClampNeg (0 : Int32).toNatClampNeg (6 : Int32).toNatClampNeg)) 17 i) (0 : Int32).toNatClampNeg (0 : Int32).toNatClampNeg (6 : Int32).toNatClampNeg)) 18 j) (gA (sA (sA w 16 i (va_cpy (gA w 16 j) (gA w 16 i) (0 : Int32).toNatClampNeg (0 : Int32).toNatClampNeg (6 : Int32).toNatClampNeg)) 17 i (va_cpy (gA (sA w 16 i (va_cpy (gA w 16 j) (gA w 16 i) (0 : Int32).toNatClampNeg (0 : Int32).toNatClampNeg (6 : Int32).toNatClampNeg)) 17 j) (gA (sA w 16 i (va_cpy (gA w 16 j) (gA w 16 i) (0 : Int32).toNatClampNeg (0 : Int32).toNatClampNeg (6 : Int32).toNatClampNeg)) 17 i) (0 : Int32).toNatClampNeg (0 : Int32).toNatClampNeg (6 : Int32).toNatClampNeg)) 18 i) (0 : Int32).toNatClampNeg (0 : Int32).toNatClampNeg (6 : Int32).toNatClampNeg)) 19 i) (0 : Int32).toNatClampNeg (0 : Int32).toNatClampNeg (42 : Int32).toNatClampNeg)) 4 i (gI (sA (sA (sA (sA w 16 i (va_cpy (gA w 16 j) (gA w 16 i) (0 : Int32).toNatClampNeg (0 : Int32).toNatClampNeg (6 : Int32).toNatClampNeg)) 17 i (va_cpy (gA (sA w 16 i (va_cpy (gA w 16 j) (gA w 16 i) (0 : Int32).toNatClampNeg (0 : Int32).toNatClampNeg (6 : Int32).toNatClampNeg)) 17 j) (gA (sA w 16 i (va_cpy (gA w 16 j) (gA w 16 i) (0 : Int32).toNatClampNeg (0 : Int32).toNatClampNeg (6 : Int32).toNatClampNeg)) 17 i) (0 : Int32).toNatClampNeg (0 : Int32).toNatClampNeg (6 : Int32).toNatClampNeg)) 18 i (va_cpy (gA (sA (sA w 16 i (va_cpy (gA w 16 j) (gA w 16 i) (0 : Int32).toNatClampNeg (0 : Int32).toNatClampNeg (6 : Int32).toNatClampNeg)) 17 i (va_cpy (gA (sA w 16 i (va_cpy (gA w 16 j) (gA w 16 i) (0 : Int32).toNatClampNeg (0 : Int32).toNatClampNeg (6 : Int32).toNatClampNeg)) 17 j) (gA (sA w 16 i (va_cpy (gA w 16 j) (gA w 16 i) (0 : Int32).toNatClampNeg (0 : Int32).toNatClampNeg (6 : Int32).toNatClampNeg)) 17 i) (0 : Int32).toNatClampNeg (0 : Int32).toNatClampNeg (6 : Int32).toNatClampNeg)) 18 j) (gA (sA (sA w 16 i (va_cpy (gA w 16 j) (gA w 16 i) (0 : Int32).toNatClampNeg (0 : Int32).toNatClampNeg (6 : Int32).toNatClampNeg)) 17 i (va_cpy (gA (sA w 16 i (va_cpy (gA w 16 j) (gA w 16 i) (0 : Int32).toNatClampNeg (0 : Int32).toNatClampNeg (6 : Int32).toNatClampNeg)) 17 j) (gA (sA w 16 i (va_cpy (gA w 16 j) (gA w 16 i) (0 : Int32).toNatClampNeg (0 : Int32).toNatClampNeg (6 : Int32).toNatClampNeg)) 17 i) (0 : Int32).toNatClampNeg (0 : Int32).toNatClampNeg (6 : Int32).toNatClampNeg)) 18 i) (0 : Int32).toNatClampNeg (0 : Int32).toNatClampNeg (6 : Int32).toNatClampNeg)) 19 i (va_cpy (gA (sA (sA (sA w 16 i (va_cpy (gA w 16 j) (gA w 16 i) (0 : Int32).toNatClampNeg (0 : Int32).toNatClampNeg (6 : Int32).toNatClampNeg)) 17 i (va_cpy (gA (sA w 16 i (va_cpy (gA w 16 j) (gA w 16 i) (0 : Int32).toNatClampNeg (0 : Int32).toNatClampNeg (6 : Int32).toNatClampNeg)) 17 j) (gA (sA w 16 i (va_cpy (gA w 16 j) (gA w 16 i) (0 : Int32).toNatClampNeg (0 : Int32).toNatClampNeg (6 : Int32).toNatClampNeg)) 17 i) (0 : Int32).toNatClampNeg (0 : Int32).toNatClampNeg (6 : Int32).toNatClampNeg)) 18 i (va_cpy (gA (sA (sA w 16 i (va_cpy (gA w 16 j) (gA w 16 i) (0 : Int32).toNatClampNeg (0 : Int32).toNatClampNeg (6 : Int32).toNatClampNeg)) 17 i (va_cpy (gA (sA w 16 i (va_cpy (gA w 16 j) (gA w 16 i) (0 : Int32).toNatClampNeg (0 : Int32).toNatClampNeg (6 : Int32).toNatClampNeg)) 17 j) (gA (sA w 16 i (va_cpy (gA w 16 j) (gA w 16 i) (0 : Int32).toNatClampNeg (0 : Int32).toNatClampNeg (6 : Int32).toNatClampNeg)) 17 i) (0 : Int32).toNatClampNeg (0 : Int32).toNatClampNeg (6 : Int32).toNatClampNeg)) 18 j) (gA (sA (sA w 16 i (va_cpy (gA w 16 j) (gA w 16 i) (0 : Int32).toNatClampNeg (0 : Int32).toNatClampNeg (6 : Int32).toNatClampNeg)) 17 i (va_cpy (gA (sA w 16 i (va_cpy (gA w 16 j) (gA w 16 i) (0 : Int32).toNatClampNeg (0 : Int32).toNatClampNeg (6 : Int32).toNatClampNeg)) 17 j) (gA (sA w 16 i (va_cpy (gA w 16 j) (gA w 16 i) (0 : Int32).toNatClampNeg (0 : Int32).toNatClampNeg (6 : Int32).toNatClampNeg)) 17 i) (0 : Int32).toNatClampNeg (0 : Int32).toNatClampNeg (6 : Int32).toNatClampNeg)) 18 i) (0 : Int32).toNatClampNeg (0 : Int32).toNatClampNeg (6 : Int32).toNatClampNeg)) 19 j) (gA (sA (sA (sA w 16 i (va_cpy (gA w 16 j) (gA w 16 i) (0 : Int32).toNatClampNeg (0 : Int32).toNatClampNeg (6 : Int32).toNatClampNeg)) 17 i (va_cpy (gA (sA w 16 i (va_cpy (gA w 16 j) (gA w 16 i) (0 : Int32).toNatClampNeg (0 : Int32).toNatClampNeg (6 : Int32).toNatClampNeg)) 17 j) (gA (sA w 16 i (va_cpy (gA w 16 j) (gA w 16 i) (0 : Int32).toNatClampNeg (0 : Int32).toNatClampNeg (6 : Int32).toNatClampNeg)) 17 i) (0 : Int32).toNatClampNeg (0 : Int32).toNatClampNeg (6 : Int32).toNatClampNeg)) 18 i (va_cpy (gA (sA (sA w 16 i (va_cpy (gA w 16 j) (gA w 16 i) (0 : Int32).toNatClampNeg (0 : Int32).toNatClampNeg (6 : Int32).toNatClampNeg)) 17 i (va_cpy (gA (sA w 16 i (va_cpy (gA w 16 j) (gA w 16 i) (0 : Int32).toNatClampNeg (0 : Int32).toNatClampNeg (6 : Int32).toNatClampNeg)) 17 j) (gA (sA w 16 i (va_cpy (gA w 16 j) (gA w 16 i) (0 : Int32).toNatClampNeg (0 : Int32).toNatClampNeg (6 : Int32).toNatClampNeg)) 17 i) (0 : Int32).toNatClampNeg (0 : Int32).toNatClampNeg (6 : Int32).toNatClampNeg)) 18 j) (gA (sA (sA w 16 i (va_cpy (gA w 16 j) (gA w 16 i) (0 : Int32).toNatClampNeg (0 : Int32).toNatClampNeg (6 : Int32).toNatClampNeg)) 17 i (va_cpy (gA (sA w 16 i (va_cpy (gA w 16 j) (gA w 16 i) (0 : Int32).toNatClampNeg (0 : Int32).toNatClampNeg (6 : Int32).toNatClampNeg)) 17 j) (gA (sA w 16 i (va_cpy (gA w 16 j) (gA w 16 i) (0 : Int32).toNatClampNeg (0 : Int32).toNatClampNeg (6 : Int32).toNatClampNeg)) 17 i) (0 : Int32).toNatClampNeg (0 : Int32).toNatClampNeg (6 : Int32).toNatClampNeg)) 18 i) (0 : Int32).toNatClampNeg (0 : Int32).toNatClampNeg (6 : Int32).toNatClampNeg)) 19 i) (0 : Int32).toNatClampNeg (0 : Int32).toNatClampNeg (42 : Int32).toNatClampNeg)) 4 j)) 5 i (gI (sI (sA (sA (sA (sA w 16 i (va_cpy (gA w 16 j) (gA w 16 i) (0 : Int32).toNatClampNeg (0 : Int32).toNatClampNeg (6 : Int32).toNatClampNeg)) 17 i (va_cpy (gA (sA w 16 i (va_cpy (gA w 16 j) (gA w 16 i) (0 : Int32).toNatClampNeg (0 : Int32).toNatClampNeg (6 : Int32).toNatClampNeg)) 17 j) (gA (sA w 16 i (va_cpy (gA w 16 j) (gA w 16 i) (0 : Int32).toNatClampNeg (0 : Int32).toNatClampNeg (6 : Int32).toNatClampNeg)) 17 i) (0 : Int32).toNatClampNeg (0 : Int32).toNatClampNeg (6 : Int32).toNatClampNeg)) 18 i (va_cpy (gA (sA (sA w 16 i (va_cpy (gA w 16 j) (gA w 16 i) (0 : Int32).toNatClampNeg (0 : Int32).toNatClampNeg (6 : Int32).toNatClampNeg)) 17 i (va_cpy (gA (sA w 16 i (va_cpy (gA w 16 j) (gA w 16 i) (0 : Int32).toNatClampNeg (0 : Int32).toNatClampNeg (6 : Int32).toNatClampNeg)) 17 j) (gA (sA w 16 i (va_cpy (gA w 16 j) (gA w 16 i) (0 : Int32).toNatClampNeg (0 : Int32).toNatClampNeg (6 : Int32).toNatClampNeg)) 17 i) (0 : Int32).toNatClampNeg (0 : Int32).toNatClampNeg (6 : Int32).toNatClampNeg)) 18 j) (gA (sA (sA w 16 i (va_cpy (gA w 16 j) (gA w 16 i) (0 : Int32).toNatClampNeg (0 : Int32).toNatClampNeg (6 : Int32).toNatClampNeg)) 17 i (va_cpy (gA (sA w 16 i (va_cpy (gA w 16 j) (gA w 16 i) (0 : Int32).toNatClampNeg (0 : Int32).toNatClampNeg (6 : Int32).toNatClampNeg)) 17 j) (gA (sA w 16 i (va_cpy (gA w 16 j) (gA w 16 i) (0 : Int32).toNatClampNeg (0 : Int32).toNatClampNeg (6 : Int32).toNatClampNeg)) 17 i) (0 : Int32).toNatClampNeg (0 : Int32).toNatClampNeg (6 : Int32).toNatClampNeg)) 18 i) (0 : Int32).toNatClampNeg (0 : Int32).toNatClampNeg (6 : Int32).toNatClampNeg)) 19 i (va_cpy (gA (sA (sA (sA w 16 i (va_cpy (gA w 16 j) (gA w 16 i) (0 : Int32).toNatClampNeg (0 : Int32).toNatClampNeg (6 : Int32).toNatClampNeg)) 17 i (va_cpy (gA (sA w 16 i (va_cpy (gA w 16 j) (gA w 16 i) (0 : Int32).toNatClampNeg (0 : Int32).toNatClampNeg (6 : Int32).toNatClampNeg)) 17 j) (gA (sA w 16 i (va_cpy (gA w 16 j) (gA w 16 i) (0 : Int32).toNatClampNeg (0 : Int32).toNatClampNeg (6 : Int32).toNatClampNeg)) 17 i) (0 : Int32).toNatClampNeg (0 : Int32).toNatClampNeg (6 : Int32).toNatClampNeg)) 18 i (va_cpy (gA (sA (sA w 16 i (va_cpy (gA w 16 j) (gA w 16 i) (0 : Int32).toNatClampNeg (0 : Int32).toNatClampNeg (6 : Int32).toNatClampNeg)) 17 i (va_cpy (gA (sA w 16 i (va_cpy (gA w 16 j) (gA w 16 i) (0 : Int32).toNatClampNeg (0 : Int32).toNatClampNeg (6 : Int32).toNatClampNeg)) 17 j) (gA (sA w 16 i (va_cpy (gA w 16 j) (gA w 16 i) (0 : Int32).toNatClampNeg (0 : Int32).toNatClampNeg (6 : Int32).toNatClampNeg)) 17 i) (0 : Int32).toNatClampNeg (0 : Int32).toNatClampNeg (6 : Int32).toNatClampNeg)) 18 j) (gA (sA (sA w 16 i (va_cpy (gA w 16 j) (gA w 16 i) (0 : Int32).toNatClampNeg (0 : Int32).toNatClampNeg (6 : Int32).toNatClampNeg)) 17 i (va_cpy (gA (sA w 16 i (va_cpy (gA w 16 j) (gA w 16 i) (0 : Int32).toNatClampNeg (0 : Int32).toNatClampNeg (6 : Int32).toNatClampNeg)) 17 j) (gA (sA w 16 i (va_cpy (gA w 16 j) (gA w 16 i) (0 : Int32).toNatClampNeg (0 : Int32).toNatClampNeg (6 : Int32).toNatClampNeg)) 17 i) (0 : Int32).toNatClampNeg (0 : Int32).toNatClampNeg (6 : Int32).toNatClampNeg)) 18 i) (0 : Int32).toNatClampNeg (0 : Int32).toNatClampNeg (6 : Int32).toNatClampNeg)) 19 j) (gA (sA (sA (sA w 16 i (va_cpy (gA w 16 j) (gA w 16 i) (0 : Int32).toNatClampNeg (0 : Int32).toNatClampNeg (6 : Int32).toNatClampNeg)) 17 i (va_cpy (gA (sA w 16 i (va_cpy (gA w 16 j) (gA w 16 i) (0 : Int32).toNatClampNeg (0 : Int32).toNatClampNeg (6 : Int32).toNatClampNeg)) 17 j) (gA (sA w 16 i (va_cpy (gA w 16 j) (gA w 16 i) (0 : Int32).toNatClampNeg (0 : Int32).toNatClampNeg (6 : Int32).toNatClampNeg)) 17 i) (0 : Int32).toNatClampNeg (0 : Int32).toNatClampNeg (6 : Int32).toNatClampNeg)) 18 i (va_cpy (gA (sA (sA w 16 i (va_cpy (gA w 16 j) (gA w 16 i) (0 : Int32).toNatClampNeg (0 : Int32).toNatClampNeg (6 : Int32).toNatClampNeg)) 17 i (va_cpy (gA (sA w 16 i (va_cpy (gA w 16 j) (gA w 16 i) (0 : Int32).toNatClampNeg (0 : Int32).toNatClampNeg (6 : Int32).toNatClampNeg)) 17 j) (gA (sA w 16 i (va_cpy (gA w 16 j) (gA w 16 i) (0 : Int32).toNatClampNeg (0 : Int32).toNatClampNeg (6 : Int32).toNatClampNeg)) 17 i) (0 : Int32).toNatClampNeg (0 : Int32).toNatClampNeg (6 : Int32).toNatClampNeg)) 18 j) (gA (sA (sA w 16 i (va_cpy (gA w 16 j) (gA w 16 i) (0 : Int32).toNatClampNeg (0 : Int32).toNatClampNeg (6 : Int32).toNatClampNeg)) 17 i (va_cpy (gA (sA w 16 i (va_cpy (gA w 16 j) (gA w 16 i) (0 : Int32).toNatClampNeg (0 : Int32).toNatClampNeg (6 : Int32).toNatClampNeg)) 17 j) (gA (sA w 16 i (va_cpy (gA w 16 j) (gA w 16 i) (0 : Int32).toNatClampNeg (0 : Int32).toNatClampNeg (6 : Int32).toNatClampNeg)) 17 i) (0 : Int32).toNatClampNeg (0 : Int32).toNatClampNeg (6 : Int32).toNatClampNeg)) 18 i) (0 : Int32).toNatClampNeg (0 : Int32).toNatClampNeg (6 : Int32).toNatClampNeg)) 19 i) (0 : Int32).toNatClampNeg (0 : Int32).toNatClampNeg (42 : Int32).toNatClampNeg)) 4 i (gI (sA (sA (sA (sA w 16 i (va_cpy (gA w 16 j) (gA w 16 i) (0 : Int32).toNatClampNeg (0 : Int32).toNatClampNeg (6 : Int32).toNatClampNeg)) 17 i (va_cpy (gA (sA w 16 i (va_cpy (gA w 16 j) (gA w 16 i) (0 : Int32).toNatClampNeg (0 : Int32).toNatClampNeg (6 : Int32).toNatClampNeg)) 17 j) (gA (sA w 16 i (va_cpy (gA w 16 j) (gA w 16 i) (0 : Int32).toNatClampNeg (0 : Int32).toNatClampNeg (6 : Int32).toNatClampNeg)) 17 i) (0 : Int32).toNatClampNeg (0 : Int32).toNatClampNeg (6 : Int32).toNatClampNeg)) 18 i (va_cpy (gA (sA (sA w 16 i (va_cpy (gA w 16 j) (gA w 16 i) (0 : Int32).toNatClampNeg (0 : Int32).toNatClampNeg (6 : Int32).toNatClampNeg)) 17 i (va_cpy (gA (sA w 16 i (va_cpy (gA w 16 j) (gA w 16 i) (0 : Int32).toNatClampNeg (0 : Int32).toNatClampNeg (6 : Int32).toNatClampNeg)) 17 j) (gA (sA w 16 i (va_cpy (gA w 16 j) (gA w 16 i) (0 : Int32).toNatClampNeg (0 : Int32).toNatClampNeg (6 : Int32).toNatClampNeg)) 17 i) (0 : Int32).toNatClampNeg (0 : Int32).toNatClampNeg (6 : Int32).toNatClampNeg)) 18 j) (gA (sA (sA w 16 i (va_cpy (gA w 16 j) (gA w 16 i) (0 : Int32).toNatClampNeg (0 : Int32).toNatClampNeg (6 : Int32).toNatClampNeg)) 17 i (va_cpy (gA (sA w 16 i (va_cpy (gA w 16 j) (gA w 16 i) (0 : Int32).toNatClampNeg (0 : Int32).toNatClampNeg (6 : Int32).toNatClampNeg)) 17 j) (gA (sA w 16 i (va_cpy (gA w 16 j) (gA w 16 i) (0 : Int32).toNatClampNeg (0 : Int32).toNatClampNeg (6 : Int32).toNatClampNeg)) 17 i) (0 : Int32).toNatClampNeg (0 : Int32).toNatClampNeg (6 : Int32).toNatClampNeg)) 18 i) (0 : Int32).toNatClampNeg (0 : Int32).toNatClampNeg (6 : Int32).toNatClampNeg)) 19 i (va_cpy (gA (sA (sA (sA w 16 i (va_cpy (gA w 16 j) (gA w 16 i) (0 : Int32).toNatClampNeg (0 : Int32).toNatClampNeg (6 : Int32).toNatClampNeg)) 17 i (va_cpy (gA (sA w 16 i (va_cpy (gA w 16 j) (gA w 16 i) (0 : Int32).toNatClampNeg (0 : Int32).toNatClampNeg (6 : Int32).toNatClampNeg)) 17 j) (gA (sA w 16 i (va_cpy (gA w 16 j) (gA w 16 i) (0 : Int32).toNatClampNeg (0 : Int32).toNatClampNeg (6 : Int32).toNatClampNeg)) 17 i) (0 : Int32).toNatClampNeg (0 : Int32).toNatClampNeg (6 : Int32).toNatClampNeg)) 18 i (va_cpy (gA (sA (sA w 16 i (va_cpy (gA w 16 j) (gA w 16 i) (0 : Int32).toNatClampNeg (0 : Int32).toNatClampNeg (6 : Int32).toNatClampNeg)) 17 i (va_cpy (gA (sA w 16 i (va_cpy (gA w 16 j) (gA w 16 i) (0 : Int32).toNatClampNeg (0 : Int32).toNatClampNeg (6 : Int32).toNatClampNeg)) 17 j) (gA (sA w 16 i (va_cpy (gA w 16 j) (gA w 16 i) (0 : Int32).toNatClampNeg (0 : Int32).toNatClampNeg (6 : Int32).toNatClampNeg)) 17 i) (0 : Int32).toNatClampNeg (0 : Int32).toNatClampNeg (6 : Int32).toNatClampNeg)) 18 j) (gA (sA (sA w 16 i (va_cpy (gA w 16 j) (gA w 16 i) (0 : Int32).toNatClampNeg (0 : Int32).toNatClampNeg (6 : Int32).toNatClampNeg)) 17 i (va_cpy (gA (sA w 16 i (va_cpy (gA w 16 j) (gA w 16 i) (0 : Int32).toNatClampNeg (0 : Int32).toNatClampNeg (6 : Int32).toNatClampNeg)) 17 j) (gA (sA w 16 i (va_cpy (gA w 16 j) (gA w 16 i) (0 : Int32).toNatClampNeg (0 : Int32).toNatClampNeg (6 : Int32).toNatClampNeg)) 17 i) (0 : Int32).toNatClampNeg (0 : Int32).toNatClampNeg (6 : Int32).toNatClampNeg)) 18 i) (0 : Int32).toNatClampNeg (0 : Int32).toNatClampNeg (6 : Int32).toNatClampNeg)) 19 j) (gA (sA (sA (sA w 16 i (va_cpy (gA w 16 j) (gA w 16 i) (0 : Int32).toNatClampNeg (0 : Int32).toNatClampNeg (6 : Int32).toNatClampNeg)) 17 i (va_cpy (gA (sA w 16 i (va_cpy (gA w 16 j) (gA w 16 i) (0 : Int32).toNatClampNeg (0 : Int32).toNatClampNeg (6 : Int32).toNatClampNeg)) 17 j) (gA (sA w 16 i (va_cpy (gA w 16 j) (gA w 16 i) (0 : Int32).toNatClampNeg (0 : Int32).toNatClampNeg (6 : Int32).toNatClampNeg)) 17 i) (0 : Int32).toNatClampNeg (0 : Int32).toNatClampNeg (6 : Int32).toNatClampNeg)) 18 i (va_cpy (gA (sA (sA w 16 i (va_cpy (gA w 16 j) (gA w 16 i) (0 : Int32).toNatClampNeg (0 : Int32).toNatClampNeg (6 : Int32).toNatClampNeg)) 17 i (va_cpy (gA (sA w 16 i (va_cpy (gA w 16 j) (gA w 16 i) (0 : Int32).toNatClampNeg (0 : Int32).toNatClampNeg (6 : Int32).toNatClampNeg)) 17 j) (gA (sA w 16 i (va_cpy (gA w 16 j) (gA w 16 i) (0 : Int32).toNatClampNeg (0 : Int32).toNatClampNeg (6 : Int32).toNatClampNeg)) 17 i) (0 : Int32).toNatClampNeg (0 : Int32).toNatClampNeg (6 : Int32).toNatClampNeg)) 18 j) (gA (sA (sA w 16 i (va_cpy (gA w 16 j) (gA w 16 i) (0 : Int32).toNatClampNeg (0 : Int32).toNatClampNeg (6 : Int32).toNatClampNeg)) 17 i (va_cpy (gA (sA w 16 i (va_cpy (gA w 16 j) (gA w 16 i) (0 : Int32).toNatClampNeg (0 : Int32).toNatClampNeg (6 : Int32).toNatClampNeg)) 17 j) (gA (sA w 16 i (va_cpy (gA w 16 j) (gA w 16 i) (0 : Int32).toNatClampNeg (0 : Int32).toNatClampNeg (6 : Int32).toNatClampNeg)) 17 i) (0 : Int32).toNatClampNeg (0 : Int32).toNatClampNeg (6 : Int32).toNatClampNeg)) 18 i) (0 : Int32).toNatClampNeg (0 : Int32).toNatClampNeg (6 : Int32).toNatClampNeg)) 19 i) (0 : Int32).toNatClampNeg (0 : Int32).toNatClampNeg (42 : Int32).toNatClampNeg)) 4 j)) 5 j)) 6 j))))))
set_option maxRecDepth 20000 in
set_option maxHeartbeats 4000000 in
theorem s_X0_become (G : GT) (l : Launch) (N : Nat) (i : Nat) (j : Nat) (hi : i < 2) (hj : j < 2) (w : Wd) (q : Wd) (h : f_X0_become N i j w = some q) : Sp G l yX0_become cw_X0_become 1 [vr 3 i, vr 3 j] w none q := by
  refine Sp_of (own := RX0) [some (vr 3 i), some (vr 3 j)] (by decide) rfl rfl (Nat.le_of_ble_eq_true rfl) ?_
  intro x hG hl hC hr hQ _ _
  subst hG
  subst hl
  unfold f_X0_become at h
  refine Z_aload_n hC (dk d_X0_become 0 rfl) 1 rfl rfl rfl ?_
  refine G_X0_9 hC (m_3 hj) (dk d_X0_become 1 rfl) 4 rfl ?_
  refine Z_iconst (v := 0) hC (dk d_X0_become 2 rfl) 5 rfl (by decide) ?_
  refine Z_aload_n hC (dk d_X0_become 3 rfl) 6 rfl rfl rfl ?_
  refine G_X0_9 hC (m_3 hi) (dk d_X0_become 4 rfl) 9 rfl ?_
  refine Z_iconst (v := 0) hC (dk d_X0_become 5 rfl) 10 rfl (by decide) ?_
  refine Z_bipush (v := 6) hC (dk d_X0_become 6 rfl) 12 rfl (by decide) ?_
  obtain ⟨g1, h⟩ := gd_some h
  refine Z_copy hC (m_16 hj) (m_16 hi) (by decide) (by decide) rfl rfl ml_X0_38 wac_native wac_static wini_J10 g1.1 g1.2.1 g1.2.2.1 g1.2.2.2.1 g1.2.2.2.2 (by decide) rfl (Nat.le_of_ble_eq_true rfl) (dk d_X0_become 7 rfl) 15 rfl ?_
  refine Z_aload_n hC (dk d_X0_become 8 rfl) 16 rfl rfl rfl ?_
  refine G_X0_15 hC (m_3 hj) (dk d_X0_become 9 rfl) 19 rfl ?_
  refine Z_iconst (v := 0) hC (dk d_X0_become 10 rfl) 20 rfl (by decide) ?_
  refine Z_aload_n hC (dk d_X0_become 11 rfl) 21 rfl rfl rfl ?_
  refine G_X0_15 hC (m_3 hi) (dk d_X0_become 12 rfl) 24 rfl ?_
  refine Z_iconst (v := 0) hC (dk d_X0_become 13 rfl) 25 rfl (by decide) ?_
  refine Z_bipush (v := 6) hC (dk d_X0_become 14 rfl) 27 rfl (by decide) ?_
  obtain ⟨g2, h⟩ := gd_some h
  refine Z_copy hC (m_17 hj) (m_17 hi) (by decide) (by decide) rfl rfl ml_X0_38 wac_native wac_static wini_J10 g2.1 g2.2.1 g2.2.2.1 g2.2.2.2.1 g2.2.2.2.2 (by decide) rfl (Nat.le_of_ble_eq_true rfl) (dk d_X0_become 15 rfl) 30 rfl ?_
  refine Z_aload_n hC (dk d_X0_become 16 rfl) 31 rfl rfl rfl ?_
  refine G_X0_18 hC (m_3 hj) (dk d_X0_become 17 rfl) 34 rfl ?_
  refine Z_iconst (v := 0) hC (dk d_X0_become 18 rfl) 35 rfl (by decide) ?_
  refine Z_aload_n hC (dk d_X0_become 19 rfl) 36 rfl rfl rfl ?_
  refine G_X0_18 hC (m_3 hi) (dk d_X0_become 20 rfl) 39 rfl ?_
  refine Z_iconst (v := 0) hC (dk d_X0_become 21 rfl) 40 rfl (by decide) ?_
  refine Z_bipush (v := 6) hC (dk d_X0_become 22 rfl) 42 rfl (by decide) ?_
  obtain ⟨g3, h⟩ := gd_some h
  refine Z_copy hC (m_18 hj) (m_18 hi) (by decide) (by decide) rfl rfl ml_X0_38 wac_native wac_static wini_J10 g3.1 g3.2.1 g3.2.2.1 g3.2.2.2.1 g3.2.2.2.2 (by decide) rfl (Nat.le_of_ble_eq_true rfl) (dk d_X0_become 23 rfl) 45 rfl ?_
  refine Z_aload_n hC (dk d_X0_become 24 rfl) 46 rfl rfl rfl ?_
  refine G_X0_21 hC (m_3 hj) (dk d_X0_become 25 rfl) 49 rfl ?_
  refine Z_iconst (v := 0) hC (dk d_X0_become 26 rfl) 50 rfl (by decide) ?_
  refine Z_aload_n hC (dk d_X0_become 27 rfl) 51 rfl rfl rfl ?_
  refine G_X0_21 hC (m_3 hi) (dk d_X0_become 28 rfl) 54 rfl ?_
  refine Z_iconst (v := 0) hC (dk d_X0_become 29 rfl) 55 rfl (by decide) ?_
  refine Z_aload_n hC (dk d_X0_become 30 rfl) 56 rfl rfl rfl ?_
  refine G_X0_21 hC (m_3 hi) (dk d_X0_become 31 rfl) 59 rfl ?_
  refine Z_alen (v := 42) hC (m_19 hi) (by decide) (by decide) (by decide) (dk d_X0_become 32 rfl) 60 rfl ?_
  obtain ⟨g4, h⟩ := gd_some h
  refine Z_copy hC (m_19 hj) (m_19 hi) (by decide) (by decide) rfl rfl ml_X0_38 wac_native wac_static wini_J10 g4.1 g4.2.1 g4.2.2.1 g4.2.2.2.1 g4.2.2.2.2 (by decide) rfl (Nat.le_of_ble_eq_true rfl) (dk d_X0_become 33 rfl) 63 rfl ?_
  refine Z_aload_n hC (dk d_X0_become 34 rfl) 64 rfl rfl rfl ?_
  refine Z_aload_n hC (dk d_X0_become 35 rfl) 65 rfl rfl rfl ?_
  refine G_X0_28 hC (m_3 hj) (dk d_X0_become 36 rfl) 68 rfl ?_
  refine P_X0_28 hC (m_3 hi) (dk d_X0_become 37 rfl) 71 rfl ?_
  refine Z_aload_n hC (dk d_X0_become 38 rfl) 72 rfl rfl rfl ?_
  refine Z_aload_n hC (dk d_X0_become 39 rfl) 73 rfl rfl rfl ?_
  refine G_X0_31 hC (m_3 hj) (dk d_X0_become 40 rfl) 76 rfl ?_
  refine P_X0_31 hC (m_3 hi) (dk d_X0_become 41 rfl) 79 rfl ?_
  refine Z_aload_n hC (dk d_X0_become 42 rfl) 80 rfl rfl rfl ?_
  refine Z_aload_n hC (dk d_X0_become 43 rfl) 81 rfl rfl rfl ?_
  refine G_X0_24 hC (m_3 hj) (dk d_X0_become 44 rfl) 84 rfl ?_
  refine P_X0_24 hC (m_3 hi) (dk d_X0_become 45 rfl) 87 rfl ?_
  obtain rfl := Option.some.inj h
  exact Z_return (st := []) hC hr hQ (dk d_X0_become 46 rfl)
def t_X0_addYear : List (Nat × Instr × Nat) := [(0, .aload_n 0, 1), (1, .getfield 31, 3), (4, .aload_n 0, 1), (5, .getfield 21, 3), (8, .arraylength, 1), (9, .if_icmp .ge 23, 3), (12, .aload_n 0, 1), (13, .getfield 21, 3), (16, .aload_n 0, 1), (17, .getfield 31, 3), (20, .iload_n 1, 1), (21, .iastore, 1), (22, .aload_n 0, 1), (23, .dup, 1), (24, .getfield 31, 3), (27, .iconst 1, 1), (28, .iadd, 1), (29, .putfield 31, 3), (32, .return_, 1)]
set_option maxRecDepth 20000 in
theorem d_X0_addYear : ∀ q ∈ t_X0_addYear, decode cX0_addYear q.1 = .ok q.2 := by decide +kernel
noncomputable def f_X0_addYear (N : Nat) (i : Nat) (a1 : Int32) (w : Wd) : Option (Wd) :=
  if (42 : Int32) ≤ (gI w 5 i) then
    some w
  else
    gd (vp_in (gI w 5 i) 42) (
    some (sI (sA w 19 i (upd (gA w 19 i) (gI w 5 i).toNatClampNeg a1)) 5 i ((gI (sA w 19 i (upd (gA w 19 i) (gI w 5 i).toNatClampNeg a1)) 5 i) + (1 : Int32))))
set_option maxRecDepth 20000 in
set_option maxHeartbeats 4000000 in
theorem s_X0_addYear (G : GT) (l : Launch) (N : Nat) (i : Nat) (hi : i < 2) (a1 : Int32) (w : Wd) (q : Wd) (h : f_X0_addYear N i a1 w = some q) : Sp G l yX0_addYear cw_X0_addYear 0 [vr 3 i, vi a1] w none q := by
  refine Sp_of (own := RX0) [some (vr 3 i), some (vi a1)] (by decide) rfl rfl (Nat.le_of_ble_eq_true rfl) ?_
  intro x hG hl hC hr hQ _ _
  subst hG
  subst hl
  unfold f_X0_addYear at h
  refine Z_aload_n hC (dk d_X0_addYear 0 rfl) 1 rfl rfl rfl ?_
  refine G_X0_31 hC (m_3 hi) (dk d_X0_addYear 1 rfl) 4 rfl ?_
  refine Z_aload_n hC (dk d_X0_addYear 2 rfl) 5 rfl rfl rfl ?_
  refine G_X0_21 hC (m_3 hi) (dk d_X0_addYear 3 rfl) 8 rfl ?_
  refine Z_alen (v := 42) hC (m_19 hi) (by decide) (by decide) (by decide) (dk d_X0_addYear 4 rfl) 9 rfl ?_
  refine Z_icmp_ge hC (dk d_X0_addYear 5 rfl) 12 32 rfl (by decide) (fun c => ?_) (fun c => ?_)
  · have h := it_t h c
    obtain rfl := Option.some.inj h
    exact Z_return (st := []) hC hr hQ (dk d_X0_addYear 18 rfl)
  · have h := it_f h c
    refine Z_aload_n hC (dk d_X0_addYear 6 rfl) 13 rfl rfl rfl ?_
    refine G_X0_21 hC (m_3 hi) (dk d_X0_addYear 7 rfl) 16 rfl ?_
    refine Z_aload_n hC (dk d_X0_addYear 8 rfl) 17 rfl rfl rfl ?_
    refine G_X0_31 hC (m_3 hi) (dk d_X0_addYear 9 rfl) 20 rfl ?_
    refine Z_iload_n hC (dk d_X0_addYear 10 rfl) 21 rfl rfl rfl ?_
    obtain ⟨g1, h⟩ := gd_some h
    refine Z_iastore hC (m_19 hi) (by decide) rfl g1 (dk d_X0_addYear 11 rfl) 22 rfl ?_
    refine Z_aload_n hC (dk d_X0_addYear 12 rfl) 23 rfl rfl rfl ?_
    refine Z_dup hC (dk d_X0_addYear 13 rfl) 24 rfl rfl ?_
    refine G_X0_31 hC (m_3 hi) (dk d_X0_addYear 14 rfl) 27 rfl ?_
    refine Z_iconst (v := 1) hC (dk d_X0_addYear 15 rfl) 28 rfl (by decide) ?_
    refine Z_iadd hC (dk d_X0_addYear 16 rfl) 29 rfl ?_
    refine P_X0_31 hC (m_3 hi) (dk d_X0_addYear 17 rfl) 32 rfl ?_
    obtain rfl := Option.some.inj h
    exact Z_return (st := []) hC hr hQ (dk d_X0_addYear 18 rfl)
def t_X0_hadYear : List (Nat × Instr × Nat) := [(0, .iconst 0, 1), (1, .istore_n 2, 1), (2, .iload_n 2, 1), (3, .aload_n 0, 1), (4, .getfield 31, 3), (7, .if_icmp .ge 21, 3), (10, .aload_n 0, 1), (11, .getfield 21, 3), (14, .iload_n 2, 1), (15, .iaload, 1), (16, .iload_n 1, 1), (17, .if_icmp .ne 5, 3), (20, .iconst 1, 1), (21, .ireturn, 1), (22, .iinc 2 1, 3), (25, .goto (-23), 3), (28, .iconst 0, 1), (29, .ireturn, 1)]
set_option maxRecDepth 20000 in
theorem d_X0_hadYear : ∀ q ∈ t_X0_hadYear, decode cX0_hadYear q.1 = .ok q.2 := by decide +kernel
noncomputable def X0_hadYear_L1 (N : Nat) (i : Nat) (x1 : Int32) : Nat → Int32 → Wd → Option ((Int32 × Wd) ⊕ (Wd))
  | 0, _, _ => none
  | n + 1, x2, w =>
  if (gI w 5 i) ≤ x2 then
    some (.inr w)
  else
    gd (vp_in x2 42) (
    if (gA w 19 i x2.toNatClampNeg) = x1 then
      some (.inl ((1 : Int32), w))
    else
      X0_hadYear_L1 N i x1 n (x2 + (1 : Int32)) w)
set_option maxRecDepth 20000 in
set_option maxHeartbeats 4000000 in
theorem z_X0_hadYear_L1 {x : CX} (hC : Cx x RX0 cX0_hadYear 3 0) (hr : (xM x).sig.returnType = (some .boolean)) (N : Nat) (i : Nat) (hi : i < 2) (x1 : Int32) : ∀ (n : Nat) (x2 : Int32) (w : Wd) (q : ((Int32 × Wd) ⊕ (Wd))), X0_hadYear_L1 N i x1 n x2 w = some q → (∀ r : Int32 × Wd, q = .inl r → Rt x (some (vi r.1)) r.2) → (∀ o : Wd, q = .inr o → Z x 28 [none, none, none] [] o) → Z x 2 [some (vr 3 i), some (vi x1), some (vi x2)] [] w := by
  intro n
  induction n with
  | zero =>
    intro x2 w q h
    cases h
  | succ n ih =>
    intro x2 w q h kr ke
    rw [X0_hadYear_L1] at h
    refine Z_iload_n hC (dk d_X0_hadYear 2 rfl) 3 rfl rfl rfl ?_
    refine Z_aload_n hC (dk d_X0_hadYear 3 rfl) 4 rfl rfl rfl ?_
    refine G_X0_31 hC (m_3 hi) (dk d_X0_hadYear 4 rfl) 7 rfl ?_
    refine Z_icmp_ge hC (dk d_X0_hadYear 5 rfl) 10 28 rfl (by decide) (fun c => ?_) (fun c => ?_)
    · have h := it_t h c
      obtain rfl := Option.some.inj h
      refine Z_wk [false, false, false] [none, none, none] rfl ?_
      exact ke _ rfl
    · have h := it_f h c
      refine Z_aload_n hC (dk d_X0_hadYear 6 rfl) 11 rfl rfl rfl ?_
      refine G_X0_21 hC (m_3 hi) (dk d_X0_hadYear 7 rfl) 14 rfl ?_
      refine Z_iload_n hC (dk d_X0_hadYear 8 rfl) 15 rfl rfl rfl ?_
      obtain ⟨g1, h⟩ := gd_some h
      refine Z_iaload hC (m_19 hi) (by decide) rfl g1 (dk d_X0_hadYear 9 rfl) 16 rfl ?_
      refine Z_iload_n hC (dk d_X0_hadYear 10 rfl) 17 rfl rfl rfl ?_
      refine Z_icmp_ne hC (dk d_X0_hadYear 11 rfl) 20 22 rfl (by decide) (fun c => ?_) (fun c => ?_)
      · have h := it_f h c
        refine Z_iinc hC (dk d_X0_hadYear 14 rfl) 25 rfl rfl rfl [some (vr 3 i), some (vi x1), some (vi (x2 + (1 : Int32)))] rfl ?_
        refine Z_goto hC (dk d_X0_hadYear 15 rfl) 2 (by decide) ?_
        refine Z_wk [true, true, true] [some (vr 3 i), some (vi x1), some (vi (x2 + (1 : Int32)))] rfl ?_
        exact ih (x2 + (1 : Int32)) w _ h kr ke
      · have h := it_t h c
        refine Z_iconst (v := 1) hC (dk d_X0_hadYear 12 rfl) 21 rfl (by decide) ?_
        obtain rfl := Option.some.inj h
        exact Z_zreturn (st := []) hC hr rfl (kr _ rfl) (dk d_X0_hadYear 13 rfl)
noncomputable def f_X0_hadYear (N : Nat) (i : Nat) (a1 : Int32) (w : Wd) : Option (Int32 × Wd) :=
  (X0_hadYear_L1 N i a1 N (0 : Int32) w).bind (Sum.elim some (fun q2 =>
    some ((0 : Int32), q2)))
set_option maxRecDepth 20000 in
set_option maxHeartbeats 4000000 in
theorem s_X0_hadYear (G : GT) (l : Launch) (N : Nat) (i : Nat) (hi : i < 2) (a1 : Int32) (w : Wd) (q : Int32 × Wd) (h : f_X0_hadYear N i a1 w = some q) : Sp G l yX0_hadYear cw_X0_hadYear 0 [vr 3 i, vi a1] w (some (vi q.1)) q.2 := by
  refine Sp_of (own := RX0) [some (vr 3 i), some (vi a1), none] (by decide) rfl rfl (Nat.le_of_ble_eq_true rfl) ?_
  intro x hG hl hC hr hQ _ _
  subst hG
  subst hl
  unfold f_X0_hadYear at h
  refine Z_iconst (v := 0) hC (dk d_X0_hadYear 0 rfl) 1 rfl (by decide) ?_
  refine Z_istore_n hC (dk d_X0_hadYear 1 rfl) 2 rfl rfl (Nat.le_of_ble_eq_true rfl) [some (vr 3 i), some (vi a1), some (vi (0 : Int32))] rfl ?_
  obtain ⟨q2, hq2, h⟩ := bd_some h
  refine Z_wk [true, true, true] [some (vr 3 i), some (vi a1), some (vi (0 : Int32))] rfl ?_
  refine z_X0_hadYear_L1 hC hr N i hi a1 N (0 : Int32) w q2 hq2 (fun r e => ?_) (fun o e => ?_)
  · subst e
    obtain rfl := Option.some.inj h
    exact hQ
  · subst e
    obtain ⟨q2, rfl⟩ : ∃ z, z = o := ⟨_, rfl⟩
    refine Z_iconst (v := 0) hC (dk d_X0_hadYear 16 rfl) 29 rfl (by decide) ?_
    obtain rfl := Option.some.inj h
    exact Z_zreturn (st := []) hC hr rfl hQ (dk d_X0_hadYear 17 rfl)
def t_X4_paper : List (Nat × Instr × Nat) := [(0, .iload_n 0, 1), (1, .iconst 3, 1), (2, .iload_n 1, 1), (3, .imul, 1), (4, .ishr, 1), (5, .bipush 7, 2), (7, .iand, 1), (8, .ireturn, 1)]
set_option maxRecDepth 20000 in
theorem d_X4_paper : ∀ q ∈ t_X4_paper, decode cX4_paper q.1 = .ok q.2 := by decide +kernel
noncomputable def f_X4_paper (N : Nat) (a1 : Int32) (a2 : Int32) (w : Wd) : Option (Int32 × Wd) :=
  some ((a1 >>> (((3 : Int32) * a2) &&& (31 : Int32))) &&& (7 : Int32), w)
set_option maxRecDepth 20000 in
set_option maxHeartbeats 4000000 in
theorem s_X4_paper (G : GT) (l : Launch) (N : Nat) (a1 : Int32) (a2 : Int32) (w : Wd) (q : Int32 × Wd) (h : f_X4_paper N a1 a2 w = some q) : Sp G l yX4_paper cw_X4_paper 0 [vi a1, vi a2] w (some (vi q.1)) q.2 := by
  refine Sp_of (own := RX4) [some (vi a1), some (vi a2)] (by decide) rfl rfl (Nat.le_of_ble_eq_true rfl) ?_
  intro x hG hl hC hr hQ _ _
  subst hG
  subst hl
  unfold f_X4_paper at h
  refine Z_iload_n hC (dk d_X4_paper 0 rfl) 1 rfl rfl rfl ?_
  refine Z_iconst (v := 3) hC (dk d_X4_paper 1 rfl) 2 rfl (by decide) ?_
  refine Z_iload_n hC (dk d_X4_paper 2 rfl) 3 rfl rfl rfl ?_
  refine Z_imul hC (dk d_X4_paper 3 rfl) 4 rfl ?_
  refine Z_ishr hC (dk d_X4_paper 4 rfl) 5 rfl ?_
  refine Z_bipush (v := 7) hC (dk d_X4_paper 5 rfl) 7 rfl (by decide) ?_
  refine Z_iand hC (dk d_X4_paper 6 rfl) 8 rfl ?_
  obtain rfl := Option.some.inj h
  exact Z_ireturn (st := []) hC hr hQ (dk d_X4_paper 7 rfl)
def t_X0_latest : List (Nat × Instr × Nat) := [(0, .aload_n 0, 1), (1, .getfield 31, 3), (4, .ifCond .ne 8, 3), (7, .bipush (-9), 2), (9, .goto 18, 3), (12, .aload_n 0, 1), (13, .getfield 21, 3), (16, .aload_n 0, 1), (17, .getfield 31, 3), (20, .iconst 1, 1), (21, .isub, 1), (22, .iaload, 1), (23, .iload_n 1, 1), (24, .invokestatic 44, 3), (27, .ireturn, 1)]
set_option maxRecDepth 20000 in
theorem d_X0_latest : ∀ q ∈ t_X0_latest, decode cX0_latest q.1 = .ok q.2 := by decide +kernel
noncomputable def f_X0_latest (N : Nat) (i : Nat) (a1 : Int32) (w : Wd) : Option (Int32 × Wd) :=
  if (gI w 5 i) = 0 then
    some ((-9 : Int32), w)
  else
    gd (vp_in ((gI w 5 i) - (1 : Int32)) 42) (
    (f_X4_paper N (gA w 19 i ((gI w 5 i) - (1 : Int32)).toNatClampNeg) a1 w).bind (fun q2 =>
      some (q2.1, q2.2)))
set_option maxRecDepth 20000 in
set_option maxHeartbeats 4000000 in
theorem s_X0_latest (G : GT) (l : Launch) (N : Nat) (i : Nat) (hi : i < 2) (a1 : Int32) (w : Wd) (q : Int32 × Wd) (h : f_X0_latest N i a1 w = some q) : Sp G l yX0_latest cw_X0_latest 1 [vr 3 i, vi a1] w (some (vi q.1)) q.2 := by
  refine Sp_of (own := RX0) [some (vr 3 i), some (vi a1)] (by decide) rfl rfl (Nat.le_of_ble_eq_true rfl) ?_
  intro x hG hl hC hr hQ _ _
  subst hG
  subst hl
  unfold f_X0_latest at h
  refine Z_aload_n hC (dk d_X0_latest 0 rfl) 1 rfl rfl rfl ?_
  refine G_X0_31 hC (m_3 hi) (dk d_X0_latest 1 rfl) 4 rfl ?_
  refine Z_if_ne hC (dk d_X0_latest 2 rfl) 7 12 rfl (by decide) (fun c => ?_) (fun c => ?_)
  · have h := it_f h c
    refine Z_aload_n hC (dk d_X0_latest 5 rfl) 13 rfl rfl rfl ?_
    refine G_X0_21 hC (m_3 hi) (dk d_X0_latest 6 rfl) 16 rfl ?_
    refine Z_aload_n hC (dk d_X0_latest 7 rfl) 17 rfl rfl rfl ?_
    refine G_X0_31 hC (m_3 hi) (dk d_X0_latest 8 rfl) 20 rfl ?_
    refine Z_iconst (v := 1) hC (dk d_X0_latest 9 rfl) 21 rfl (by decide) ?_
    refine Z_isub hC (dk d_X0_latest 10 rfl) 22 rfl ?_
    obtain ⟨g1, h⟩ := gd_some h
    refine Z_iaload hC (m_19 hi) (by decide) rfl g1 (dk d_X0_latest 11 rfl) 23 rfl ?_
    refine Z_iload_n hC (dk d_X0_latest 12 rfl) 24 rfl rfl rfl ?_
    obtain ⟨q2, hq2, h⟩ := bd_some h
    refine K_X0_44 [vi (gA w 19 i ((gI w 5 i) - (1 : Int32)).toNatClampNeg), vi a1] hC (s_X4_paper (xG x) (xl x) N (gA w 19 i ((gI w 5 i) - (1 : Int32)).toNatClampNeg) a1 w q2 hq2) (Nat.le_of_ble_eq_true rfl) rfl rfl rfl (Nat.le_of_ble_eq_true rfl) (dk d_X0_latest 13 rfl) 27 rfl ?_
    obtain rfl := Option.some.inj h
    exact Z_ireturn (st := []) hC hr hQ (dk d_X0_latest 14 rfl)
  · have h := it_t h c
    refine Z_bipush (v := -9) hC (dk d_X0_latest 3 rfl) 9 rfl (by decide) ?_
    refine Z_goto hC (dk d_X0_latest 4 rfl) 27 (by decide) ?_
    obtain rfl := Option.some.inj h
    exact Z_ireturn (st := []) hC hr hQ (dk d_X0_latest 14 rfl)
def t_X0_fact : List (Nat × Instr × Nat) := [(0, .iload_n 2, 1), (1, .tableswitch 48 0 2 #[27, 34, 41], 27), (28, .aload_n 0, 1), (29, .getfield 9, 3), (32, .iload_n 1, 1), (33, .iaload, 1), (34, .ireturn, 1), (35, .aload_n 0, 1), (36, .getfield 15, 3), (39, .iload_n 1, 1), (40, .iaload, 1), (41, .ireturn, 1), (42, .aload_n 0, 1), (43, .getfield 18, 3), (46, .iload_n 1, 1), (47, .iaload, 1), (48, .ireturn, 1), (49, .aload_n 0, 1), (50, .iload_n 1, 1), (51, .invokevirtual 48, 3), (54, .ireturn, 1)]
set_option maxRecDepth 20000 in
theorem d_X0_fact : ∀ q ∈ t_X0_fact, decode cX0_fact q.1 = .ok q.2 := by decide +kernel
noncomputable def f_X0_fact (N : Nat) (i : Nat) (a1 : Int32) (a2 : Int32) (w : Wd) : Option (Int32 × Wd) :=
  if a2 = (0 : Int32) then
    gd (vp_in a1 6) (
    some (gA w 16 i a1.toNatClampNeg, w))
  else
  if a2 = (1 : Int32) then
    gd (vp_in a1 6) (
    some (gA w 17 i a1.toNatClampNeg, w))
  else
  if a2 = (2 : Int32) then
    gd (vp_in a1 6) (
    some (gA w 18 i a1.toNatClampNeg, w))
  else
    (f_X0_latest N i a1 w).bind (fun q4 =>
      some (q4.1, q4.2))
set_option maxRecDepth 20000 in
set_option maxHeartbeats 4000000 in
theorem s_X0_fact (G : GT) (l : Launch) (N : Nat) (i : Nat) (hi : i < 2) (a1 : Int32) (a2 : Int32) (w : Wd) (q : Int32 × Wd) (h : f_X0_fact N i a1 a2 w = some q) : Sp G l yX0_fact cw_X0_fact 2 [vr 3 i, vi a1, vi a2] w (some (vi q.1)) q.2 := by
  refine Sp_of (own := RX0) [some (vr 3 i), some (vi a1), some (vi a2)] (by decide) rfl rfl (Nat.le_of_ble_eq_true rfl) ?_
  intro x hG hl hC hr hQ _ _
  subst hG
  subst hl
  unfold f_X0_fact at h
  refine Z_iload_n hC (dk d_X0_fact 0 rfl) 1 rfl rfl rfl ?_
  by_cases c0 : a2 = (0 : Int32)
  · have h := it_t h c0
    refine Z_swIn hC (dk d_X0_fact 1 rfl) (m := 0) (by rw [c0]; rfl) (by decide) (by decide) rfl 28 (by decide) ?_
    refine Z_aload_n hC (dk d_X0_fact 2 rfl) 29 rfl rfl rfl ?_
    refine G_X0_9 hC (m_3 hi) (dk d_X0_fact 3 rfl) 32 rfl ?_
    refine Z_iload_n hC (dk d_X0_fact 4 rfl) 33 rfl rfl rfl ?_
    obtain ⟨g1, h⟩ := gd_some h
    refine Z_iaload hC (m_16 hi) (by decide) rfl g1 (dk d_X0_fact 5 rfl) 34 rfl ?_
    obtain rfl := Option.some.inj h
    exact Z_ireturn (st := []) hC hr hQ (dk d_X0_fact 6 rfl)
  have h := it_f h c0
  by_cases c1 : a2 = (1 : Int32)
  · have h := it_t h c1
    refine Z_swIn hC (dk d_X0_fact 1 rfl) (m := 1) (by rw [c1]; rfl) (by decide) (by decide) rfl 35 (by decide) ?_
    refine Z_aload_n hC (dk d_X0_fact 7 rfl) 36 rfl rfl rfl ?_
    refine G_X0_15 hC (m_3 hi) (dk d_X0_fact 8 rfl) 39 rfl ?_
    refine Z_iload_n hC (dk d_X0_fact 9 rfl) 40 rfl rfl rfl ?_
    obtain ⟨g2, h⟩ := gd_some h
    refine Z_iaload hC (m_17 hi) (by decide) rfl g2 (dk d_X0_fact 10 rfl) 41 rfl ?_
    obtain rfl := Option.some.inj h
    exact Z_ireturn (st := []) hC hr hQ (dk d_X0_fact 11 rfl)
  have h := it_f h c1
  by_cases c2 : a2 = (2 : Int32)
  · have h := it_t h c2
    refine Z_swIn hC (dk d_X0_fact 1 rfl) (m := 2) (by rw [c2]; rfl) (by decide) (by decide) rfl 42 (by decide) ?_
    refine Z_aload_n hC (dk d_X0_fact 12 rfl) 43 rfl rfl rfl ?_
    refine G_X0_18 hC (m_3 hi) (dk d_X0_fact 13 rfl) 46 rfl ?_
    refine Z_iload_n hC (dk d_X0_fact 14 rfl) 47 rfl rfl rfl ?_
    obtain ⟨g3, h⟩ := gd_some h
    refine Z_iaload hC (m_18 hi) (by decide) rfl g3 (dk d_X0_fact 15 rfl) 48 rfl ?_
    obtain rfl := Option.some.inj h
    exact Z_ireturn (st := []) hC hr hQ (dk d_X0_fact 16 rfl)
  have h := it_f h c2
  refine Z_swOut hC (dk d_X0_fact 1 rfl) 49 (by decide) (by have e0 := ne_toInt (m := 0) rfl c0; have e1 := ne_toInt (m := 1) rfl c1; have e2 := ne_toInt (m := 2) rfl c2; omega) ?_
  refine Z_aload_n hC (dk d_X0_fact 17 rfl) 50 rfl rfl rfl ?_
  refine Z_iload_n hC (dk d_X0_fact 18 rfl) 51 rfl rfl rfl ?_
  obtain ⟨q4, hq4, h⟩ := bd_some h
  refine K_X0_48 [vi a1] hC (m_3 hi) (s_X0_latest (xG x) (xl x) N i hi a1 w q4 hq4) (Nat.le_of_ble_eq_true rfl) rfl rfl rfl (Nat.le_of_ble_eq_true rfl) (dk d_X0_fact 19 rfl) 54 rfl ?_
  obtain rfl := Option.some.inj h
  exact Z_ireturn (st := []) hC hr hQ (dk d_X0_fact 20 rfl)
def t_X0_isFor : List (Nat × Instr × Nat) := [(0, .aload_n 0, 1), (1, .getfield 24, 3), (4, .iload_n 1, 1), (5, .iand, 1), (6, .ifCond .eq 7, 3), (9, .iconst 1, 1), (10, .goto 4, 3), (13, .iconst 0, 1), (14, .ireturn, 1)]
set_option maxRecDepth 20000 in
theorem d_X0_isFor : ∀ q ∈ t_X0_isFor, decode cX0_isFor q.1 = .ok q.2 := by decide +kernel
noncomputable def f_X0_isFor (N : Nat) (i : Nat) (a1 : Int32) (w : Wd) : Option (Int32 × Wd) :=
  if ((gI w 6 i) &&& a1) = 0 then
    some ((0 : Int32), w)
  else
    some ((1 : Int32), w)
set_option maxRecDepth 20000 in
set_option maxHeartbeats 4000000 in
theorem s_X0_isFor (G : GT) (l : Launch) (N : Nat) (i : Nat) (hi : i < 2) (a1 : Int32) (w : Wd) (q : Int32 × Wd) (h : f_X0_isFor N i a1 w = some q) : Sp G l yX0_isFor cw_X0_isFor 0 [vr 3 i, vi a1] w (some (vi q.1)) q.2 := by
  refine Sp_of (own := RX0) [some (vr 3 i), some (vi a1)] (by decide) rfl rfl (Nat.le_of_ble_eq_true rfl) ?_
  intro x hG hl hC hr hQ _ _
  subst hG
  subst hl
  unfold f_X0_isFor at h
  refine Z_aload_n hC (dk d_X0_isFor 0 rfl) 1 rfl rfl rfl ?_
  refine G_X0_24 hC (m_3 hi) (dk d_X0_isFor 1 rfl) 4 rfl ?_
  refine Z_iload_n hC (dk d_X0_isFor 2 rfl) 5 rfl rfl rfl ?_
  refine Z_iand hC (dk d_X0_isFor 3 rfl) 6 rfl ?_
  refine Z_if_eq hC (dk d_X0_isFor 4 rfl) 9 13 rfl (by decide) (fun c => ?_) (fun c => ?_)
  · have h := it_t h c
    refine Z_iconst (v := 0) hC (dk d_X0_isFor 7 rfl) 14 rfl (by decide) ?_
    obtain rfl := Option.some.inj h
    exact Z_zreturn (st := []) hC hr rfl hQ (dk d_X0_isFor 8 rfl)
  · have h := it_f h c
    refine Z_iconst (v := 1) hC (dk d_X0_isFor 5 rfl) 10 rfl (by decide) ?_
    refine Z_goto hC (dk d_X0_isFor 6 rfl) 14 (by decide) ?_
    obtain rfl := Option.some.inj h
    exact Z_zreturn (st := []) hC hr rfl hQ (dk d_X0_isFor 8 rfl)
def t_X4_isOf : List (Nat × Instr × Nat) := [(0, .iload_n 0, 1), (1, .iload_n 1, 1), (2, .if_icmp .eq 23, 3), (5, .iload_n 1, 1), (6, .iconst 1, 1), (7, .if_icmp .ne 8, 3), (10, .iload_n 0, 1), (11, .iconst 5, 1), (12, .if_icmp .eq 13, 3), (15, .iload_n 1, 1), (16, .iconst 2, 1), (17, .if_icmp .ne 12, 3), (20, .iload_n 0, 1), (21, .iconst 4, 1), (22, .if_icmp .ne 7, 3), (25, .iconst 1, 1), (26, .goto 4, 3), (29, .iconst 0, 1), (30, .ireturn, 1)]
set_option maxRecDepth 20000 in
theorem d_X4_isOf : ∀ q ∈ t_X4_isOf, decode cX4_isOf q.1 = .ok q.2 := by decide +kernel
noncomputable def X4_isOf_J15 (N : Nat) (x0 : Int32) (x1 : Int32) (w : Wd) : Option (Int32 × Wd) :=
  if x1 = (2 : Int32) then
    if x0 = (4 : Int32) then
      some ((1 : Int32), w)
    else
      some ((0 : Int32), w)
  else
    some ((0 : Int32), w)
set_option maxRecDepth 20000 in
set_option maxHeartbeats 4000000 in
theorem z_X4_isOf_J15 {x : CX} (hC : Cx x RX4 cX4_isOf 2 0) (hr : (xM x).sig.returnType = (some .boolean)) (N : Nat) (x0 : Int32) (x1 : Int32) (w : Wd) (q : (Int32 × Wd)) (h : X4_isOf_J15 N x0 x1 w = some q) (hQ : Rt x (some (vi q.1)) q.2) : Z x 15 [some (vi x0), some (vi x1)] [] w := by
  unfold X4_isOf_J15 at h
  refine Z_iload_n hC (dk d_X4_isOf 9 rfl) 16 rfl rfl rfl ?_
  refine Z_iconst (v := 2) hC (dk d_X4_isOf 10 rfl) 17 rfl (by decide) ?_
  refine Z_icmp_ne hC (dk d_X4_isOf 11 rfl) 20 29 rfl (by decide) (fun c => ?_) (fun c => ?_)
  · have h := it_f h c
    refine Z_iconst (v := 0) hC (dk d_X4_isOf 17 rfl) 30 rfl (by decide) ?_
    obtain rfl := Option.some.inj h
    exact Z_zreturn (st := []) hC hr rfl hQ (dk d_X4_isOf 18 rfl)
  · have h := it_t h c
    refine Z_iload_n hC (dk d_X4_isOf 12 rfl) 21 rfl rfl rfl ?_
    refine Z_iconst (v := 4) hC (dk d_X4_isOf 13 rfl) 22 rfl (by decide) ?_
    refine Z_icmp_ne hC (dk d_X4_isOf 14 rfl) 25 29 rfl (by decide) (fun c => ?_) (fun c => ?_)
    · have h := it_f h c
      refine Z_iconst (v := 0) hC (dk d_X4_isOf 17 rfl) 30 rfl (by decide) ?_
      obtain rfl := Option.some.inj h
      exact Z_zreturn (st := []) hC hr rfl hQ (dk d_X4_isOf 18 rfl)
    · have h := it_t h c
      refine Z_iconst (v := 1) hC (dk d_X4_isOf 15 rfl) 26 rfl (by decide) ?_
      refine Z_goto hC (dk d_X4_isOf 16 rfl) 30 (by decide) ?_
      obtain rfl := Option.some.inj h
      exact Z_zreturn (st := []) hC hr rfl hQ (dk d_X4_isOf 18 rfl)
noncomputable def f_X4_isOf (N : Nat) (a1 : Int32) (a2 : Int32) (w : Wd) : Option (Int32 × Wd) :=
  if a1 = a2 then
    some ((1 : Int32), w)
  else
    if a2 = (1 : Int32) then
      if a1 = (5 : Int32) then
        some ((1 : Int32), w)
      else
        X4_isOf_J15 N a1 a2 w
    else
      X4_isOf_J15 N a1 a2 w
set_option maxRecDepth 20000 in
set_option maxHeartbeats 4000000 in
theorem s_X4_isOf (G : GT) (l : Launch) (N : Nat) (a1 : Int32) (a2 : Int32) (w : Wd) (q : Int32 × Wd) (h : f_X4_isOf N a1 a2 w = some q) : Sp G l yX4_isOf cw_X4_isOf 0 [vi a1, vi a2] w (some (vi q.1)) q.2 := by
  refine Sp_of (own := RX4) [some (vi a1), some (vi a2)] (by decide) rfl rfl (Nat.le_of_ble_eq_true rfl) ?_
  intro x hG hl hC hr hQ _ _
  subst hG
  subst hl
  unfold f_X4_isOf at h
  refine Z_iload_n hC (dk d_X4_isOf 0 rfl) 1 rfl rfl rfl ?_
  refine Z_iload_n hC (dk d_X4_isOf 1 rfl) 2 rfl rfl rfl ?_
  refine Z_icmp_eq hC (dk d_X4_isOf 2 rfl) 5 25 rfl (by decide) (fun c => ?_) (fun c => ?_)
  · have h := it_t h c
    refine Z_iconst (v := 1) hC (dk d_X4_isOf 15 rfl) 26 rfl (by decide) ?_
    refine Z_goto hC (dk d_X4_isOf 16 rfl) 30 (by decide) ?_
    obtain rfl := Option.some.inj h
    exact Z_zreturn (st := []) hC hr rfl hQ (dk d_X4_isOf 18 rfl)
  · have h := it_f h c
    refine Z_iload_n hC (dk d_X4_isOf 3 rfl) 6 rfl rfl rfl ?_
    refine Z_iconst (v := 1) hC (dk d_X4_isOf 4 rfl) 7 rfl (by decide) ?_
    refine Z_icmp_ne hC (dk d_X4_isOf 5 rfl) 10 15 rfl (by decide) (fun c => ?_) (fun c => ?_)
    · have h := it_f h c
      refine Z_wk [true, true] [some (vi a1), some (vi a2)] rfl ?_
      exact z_X4_isOf_J15 hC hr N a1 a2 w _ h hQ
    · have h := it_t h c
      refine Z_iload_n hC (dk d_X4_isOf 6 rfl) 11 rfl rfl rfl ?_
      refine Z_iconst (v := 5) hC (dk d_X4_isOf 7 rfl) 12 rfl (by decide) ?_
      refine Z_icmp_eq hC (dk d_X4_isOf 8 rfl) 15 25 rfl (by decide) (fun c => ?_) (fun c => ?_)
      · have h := it_t h c
        refine Z_iconst (v := 1) hC (dk d_X4_isOf 15 rfl) 26 rfl (by decide) ?_
        refine Z_goto hC (dk d_X4_isOf 16 rfl) 30 (by decide) ?_
        obtain rfl := Option.some.inj h
        exact Z_zreturn (st := []) hC hr rfl hQ (dk d_X4_isOf 18 rfl)
      · have h := it_f h c
        refine Z_wk [true, true] [some (vi a1), some (vi a2)] rfl ?_
        exact z_X4_isOf_J15 hC hr N a1 a2 w _ h hQ
def t_X0_barrier : List (Nat × Instr × Nat) := [(0, .iload_n 1, 1), (1, .iload_n 2, 1), (2, .if_icmp .ne 5, 3), (5, .iconst 1, 1), (6, .ireturn, 1), (7, .aload_n 0, 1), (8, .getfield 15, 3), (11, .iload_n 1, 1), (12, .iaload, 1), (13, .aload_n 0, 1), (14, .getfield 15, 3), (17, .iload_n 2, 1), (18, .iaload, 1), (19, .if_icmp .ne 7, 3), (22, .iconst 1, 1), (23, .goto 4, 3), (26, .iconst 0, 1), (27, .istore_n 3, 1), (28, .iload_n 3, 1), (29, .ifCond .eq 28, 3), (32, .aload_n 0, 1), (33, .getfield 9, 3), (36, .iload_n 2, 1), (37, .iaload, 1), (38, .iconst 1, 1), (39, .invokestatic 51, 3), (42, .ifCond .ne 13, 3), (45, .aload_n 0, 1), (46, .getfield 9, 3), (49, .iload_n 1, 1), (50, .iaload, 1), (51, .iconst 5, 1), (52, .if_icmp .ne 5, 3), (55, .iconst 2, 1), (56, .ireturn, 1), (57, .aload_n 0, 1), (58, .getfield 9, 3), (61, .iload_n 2, 1), (62, .iaload, 1), (63, .iconst 3, 1), (64, .if_icmp .ne 20, 3), (67, .aload_n 0, 1), (68, .getfield 18, 3), (71, .iload_n 1, 1), (72, .iaload, 1), (73, .aload_n 0, 1), (74, .getfield 18, 3), (77, .iload_n 2, 1), (78, .iaload, 1), (79, .if_icmp .le 5, 3), (82, .iconst 2, 1), (83, .ireturn, 1), (84, .iload_n 3, 1), (85, .ifCond .eq 13, 3), (88, .aload_n 0, 1), (89, .iconst 4, 1), (90, .invokevirtual 55, 3), (93, .ifCond .eq 5, 3), (96, .iconst 3, 1), (97, .ireturn, 1), (98, .aload_n 0, 1), (99, .iconst 2, 1), (100, .invokevirtual 55, 3), (103, .ifCond .eq 27, 3), (106, .aload_n 0, 1), (107, .getfield 9, 3), (110, .iload_n 1, 1), (111, .iaload, 1), (112, .iconst 2, 1), (113, .invokestatic 51, 3), (116, .ifCond .ne 14, 3), (119, .aload_n 0, 1), (120, .iload_n 1, 1), (121, .invokevirtual 48, 3), (124, .iload_n 2, 1), (125, .if_icmp .ne 5, 3), (128, .iconst 4, 1), (129, .ireturn, 1), (130, .iconst 0, 1), (131, .ireturn, 1)]
set_option maxRecDepth 20000 in
theorem d_X0_barrier : ∀ q ∈ t_X0_barrier, decode cX0_barrier q.1 = .ok q.2 := by decide +kernel
noncomputable def X0_barrier_J98 (N : Nat) (i : Nat) (x1 : Int32) (x2 : Int32) (w : Wd) : Option (Int32 × Wd) :=
  (f_X0_isFor N i (2 : Int32) w).bind (fun q4 =>
    if q4.1 = 0 then
      some ((0 : Int32), q4.2)
    else
      gd (vp_in x1 6) (
      (f_X4_isOf N (gA q4.2 16 i x1.toNatClampNeg) (2 : Int32) q4.2).bind (fun q6 =>
        if q6.1 = 0 then
          (f_X0_latest N i x1 q6.2).bind (fun q7 =>
            if q7.1 = x2 then
              some ((4 : Int32), q7.2)
            else
              some ((0 : Int32), q7.2))
        else
          some ((0 : Int32), q6.2))))
set_option maxRecDepth 20000 in
set_option maxHeartbeats 4000000 in
theorem z_X0_barrier_J98 {x : CX} (hC : Cx x RX0 cX0_barrier 4 2) (hr : (xM x).sig.returnType = (some .int)) (N : Nat) (i : Nat) (hi : i < 2) (x1 : Int32) (x2 : Int32) (w : Wd) (q : (Int32 × Wd)) (h : X0_barrier_J98 N i x1 x2 w = some q) (hQ : Rt x (some (vi q.1)) q.2) : Z x 98 [some (vr 3 i), some (vi x1), some (vi x2), none] [] w := by
  unfold X0_barrier_J98 at h
  refine Z_aload_n hC (dk d_X0_barrier 60 rfl) 99 rfl rfl rfl ?_
  refine Z_iconst (v := 2) hC (dk d_X0_barrier 61 rfl) 100 rfl (by decide) ?_
  obtain ⟨q4, hq4, h⟩ := bd_some h
  refine K_X0_55 [vi (2 : Int32)] hC (m_3 hi) (s_X0_isFor (xG x) (xl x) N i hi (2 : Int32) w q4 hq4) (Nat.le_of_ble_eq_true rfl) rfl rfl rfl (Nat.le_of_ble_eq_true rfl) (dk d_X0_barrier 62 rfl) 103 rfl ?_
  refine Z_if_eq hC (dk d_X0_barrier 63 rfl) 106 130 rfl (by decide) (fun c => ?_) (fun c => ?_)
  · have h := it_t h c
    refine Z_iconst (v := 0) hC (dk d_X0_barrier 78 rfl) 131 rfl (by decide) ?_
    obtain rfl := Option.some.inj h
    exact Z_ireturn (st := []) hC hr hQ (dk d_X0_barrier 79 rfl)
  · have h := it_f h c
    refine Z_aload_n hC (dk d_X0_barrier 64 rfl) 107 rfl rfl rfl ?_
    refine G_X0_9 hC (m_3 hi) (dk d_X0_barrier 65 rfl) 110 rfl ?_
    refine Z_iload_n hC (dk d_X0_barrier 66 rfl) 111 rfl rfl rfl ?_
    obtain ⟨g5, h⟩ := gd_some h
    refine Z_iaload hC (m_16 hi) (by decide) rfl g5 (dk d_X0_barrier 67 rfl) 112 rfl ?_
    refine Z_iconst (v := 2) hC (dk d_X0_barrier 68 rfl) 113 rfl (by decide) ?_
    obtain ⟨q6, hq6, h⟩ := bd_some h
    refine K_X0_51 [vi (gA q4.2 16 i x1.toNatClampNeg), vi (2 : Int32)] hC (s_X4_isOf (xG x) (xl x) N (gA q4.2 16 i x1.toNatClampNeg) (2 : Int32) q4.2 q6 hq6) (Nat.le_of_ble_eq_true rfl) rfl rfl rfl (Nat.le_of_ble_eq_true rfl) (dk d_X0_barrier 69 rfl) 116 rfl ?_
    refine Z_if_ne hC (dk d_X0_barrier 70 rfl) 119 130 rfl (by decide) (fun c => ?_) (fun c => ?_)
    · have h := it_f h c
      refine Z_iconst (v := 0) hC (dk d_X0_barrier 78 rfl) 131 rfl (by decide) ?_
      obtain rfl := Option.some.inj h
      exact Z_ireturn (st := []) hC hr hQ (dk d_X0_barrier 79 rfl)
    · have h := it_t h c
      refine Z_aload_n hC (dk d_X0_barrier 71 rfl) 120 rfl rfl rfl ?_
      refine Z_iload_n hC (dk d_X0_barrier 72 rfl) 121 rfl rfl rfl ?_
      obtain ⟨q7, hq7, h⟩ := bd_some h
      refine K_X0_48 [vi x1] hC (m_3 hi) (s_X0_latest (xG x) (xl x) N i hi x1 q6.2 q7 hq7) (Nat.le_of_ble_eq_true rfl) rfl rfl rfl (Nat.le_of_ble_eq_true rfl) (dk d_X0_barrier 73 rfl) 124 rfl ?_
      refine Z_iload_n hC (dk d_X0_barrier 74 rfl) 125 rfl rfl rfl ?_
      refine Z_icmp_ne hC (dk d_X0_barrier 75 rfl) 128 130 rfl (by decide) (fun c => ?_) (fun c => ?_)
      · have h := it_f h c
        refine Z_iconst (v := 0) hC (dk d_X0_barrier 78 rfl) 131 rfl (by decide) ?_
        obtain rfl := Option.some.inj h
        exact Z_ireturn (st := []) hC hr hQ (dk d_X0_barrier 79 rfl)
      · have h := it_t h c
        refine Z_iconst (v := 4) hC (dk d_X0_barrier 76 rfl) 129 rfl (by decide) ?_
        obtain rfl := Option.some.inj h
        exact Z_ireturn (st := []) hC hr hQ (dk d_X0_barrier 77 rfl)
noncomputable def X0_barrier_J84 (N : Nat) (i : Nat) (x1 : Int32) (x2 : Int32) (x3 : Int32) (w : Wd) : Option (Int32 × Wd) :=
  if x3 = 0 then
    X0_barrier_J98 N i x1 x2 w
  else
    (f_X0_isFor N i (4 : Int32) w).bind (fun q8 =>
      if q8.1 = 0 then
        X0_barrier_J98 N i x1 x2 q8.2
      else
        some ((3 : Int32), q8.2))
set_option maxRecDepth 20000 in
set_option maxHeartbeats 4000000 in
theorem z_X0_barrier_J84 {x : CX} (hC : Cx x RX0 cX0_barrier 4 2) (hr : (xM x).sig.returnType = (some .int)) (N : Nat) (i : Nat) (hi : i < 2) (x1 : Int32) (x2 : Int32) (x3 : Int32) (w : Wd) (q : (Int32 × Wd)) (h : X0_barrier_J84 N i x1 x2 x3 w = some q) (hQ : Rt x (some (vi q.1)) q.2) : Z x 84 [some (vr 3 i), some (vi x1), some (vi x2), some (vi x3)] [] w := by
  unfold X0_barrier_J84 at h
  refine Z_iload_n hC (dk d_X0_barrier 52 rfl) 85 rfl rfl rfl ?_
  refine Z_if_eq hC (dk d_X0_barrier 53 rfl) 88 98 rfl (by decide) (fun c => ?_) (fun c => ?_)
  · have h := it_t h c
    refine Z_wk [true, true, true, false] [some (vr 3 i), some (vi x1), some (vi x2), none] rfl ?_
    exact z_X0_barrier_J98 hC hr N i hi x1 x2 w _ h hQ
  · have h := it_f h c
    refine Z_aload_n hC (dk d_X0_barrier 54 rfl) 89 rfl rfl rfl ?_
    refine Z_iconst (v := 4) hC (dk d_X0_barrier 55 rfl) 90 rfl (by decide) ?_
    obtain ⟨q8, hq8, h⟩ := bd_some h
    refine K_X0_55 [vi (4 : Int32)] hC (m_3 hi) (s_X0_isFor (xG x) (xl x) N i hi (4 : Int32) w q8 hq8) (Nat.le_of_ble_eq_true rfl) rfl rfl rfl (Nat.le_of_ble_eq_true rfl) (dk d_X0_barrier 56 rfl) 93 rfl ?_
    refine Z_if_eq hC (dk d_X0_barrier 57 rfl) 96 98 rfl (by decide) (fun c => ?_) (fun c => ?_)
    · have h := it_t h c
      refine Z_wk [true, true, true, false] [some (vr 3 i), some (vi x1), some (vi x2), none] rfl ?_
      exact z_X0_barrier_J98 hC hr N i hi x1 x2 q8.2 _ h hQ
    · have h := it_f h c
      refine Z_iconst (v := 3) hC (dk d_X0_barrier 58 rfl) 97 rfl (by decide) ?_
      obtain rfl := Option.some.inj h
      exact Z_ireturn (st := []) hC hr hQ (dk d_X0_barrier 59 rfl)
noncomputable def X0_barrier_J57 (N : Nat) (i : Nat) (x1 : Int32) (x2 : Int32) (x3 : Int32) (w : Wd) : Option (Int32 × Wd) :=
  gd (vp_in x2 6) (
  if (gA w 16 i x2.toNatClampNeg) = (3 : Int32) then
    gd (vp_in x1 6) (
    gd (vp_in x2 6) (
    if (gA w 18 i x1.toNatClampNeg) ≤ (gA w 18 i x2.toNatClampNeg) then
      X0_barrier_J84 N i x1 x2 x3 w
    else
      some ((2 : Int32), w)))
  else
    X0_barrier_J84 N i x1 x2 x3 w)
set_option maxRecDepth 20000 in
set_option maxHeartbeats 4000000 in
theorem z_X0_barrier_J57 {x : CX} (hC : Cx x RX0 cX0_barrier 4 2) (hr : (xM x).sig.returnType = (some .int)) (N : Nat) (i : Nat) (hi : i < 2) (x1 : Int32) (x2 : Int32) (x3 : Int32) (w : Wd) (q : (Int32 × Wd)) (h : X0_barrier_J57 N i x1 x2 x3 w = some q) (hQ : Rt x (some (vi q.1)) q.2) : Z x 57 [some (vr 3 i), some (vi x1), some (vi x2), some (vi x3)] [] w := by
  unfold X0_barrier_J57 at h
  refine Z_aload_n hC (dk d_X0_barrier 35 rfl) 58 rfl rfl rfl ?_
  refine G_X0_9 hC (m_3 hi) (dk d_X0_barrier 36 rfl) 61 rfl ?_
  refine Z_iload_n hC (dk d_X0_barrier 37 rfl) 62 rfl rfl rfl ?_
  obtain ⟨g3, h⟩ := gd_some h
  refine Z_iaload hC (m_16 hi) (by decide) rfl g3 (dk d_X0_barrier 38 rfl) 63 rfl ?_
  refine Z_iconst (v := 3) hC (dk d_X0_barrier 39 rfl) 64 rfl (by decide) ?_
  refine Z_icmp_ne hC (dk d_X0_barrier 40 rfl) 67 84 rfl (by decide) (fun c => ?_) (fun c => ?_)
  · have h := it_f h c
    refine Z_wk [true, true, true, true] [some (vr 3 i), some (vi x1), some (vi x2), some (vi x3)] rfl ?_
    exact z_X0_barrier_J84 hC hr N i hi x1 x2 x3 w _ h hQ
  · have h := it_t h c
    refine Z_aload_n hC (dk d_X0_barrier 41 rfl) 68 rfl rfl rfl ?_
    refine G_X0_18 hC (m_3 hi) (dk d_X0_barrier 42 rfl) 71 rfl ?_
    refine Z_iload_n hC (dk d_X0_barrier 43 rfl) 72 rfl rfl rfl ?_
    obtain ⟨g9, h⟩ := gd_some h
    refine Z_iaload hC (m_18 hi) (by decide) rfl g9 (dk d_X0_barrier 44 rfl) 73 rfl ?_
    refine Z_aload_n hC (dk d_X0_barrier 45 rfl) 74 rfl rfl rfl ?_
    refine G_X0_18 hC (m_3 hi) (dk d_X0_barrier 46 rfl) 77 rfl ?_
    refine Z_iload_n hC (dk d_X0_barrier 47 rfl) 78 rfl rfl rfl ?_
    obtain ⟨g10, h⟩ := gd_some h
    refine Z_iaload hC (m_18 hi) (by decide) rfl g10 (dk d_X0_barrier 48 rfl) 79 rfl ?_
    refine Z_icmp_le hC (dk d_X0_barrier 49 rfl) 82 84 rfl (by decide) (fun c => ?_) (fun c => ?_)
    · have h := it_t h c
      refine Z_wk [true, true, true, true] [some (vr 3 i), some (vi x1), some (vi x2), some (vi x3)] rfl ?_
      exact z_X0_barrier_J84 hC hr N i hi x1 x2 x3 w _ h hQ
    · have h := it_f h c
      refine Z_iconst (v := 2) hC (dk d_X0_barrier 50 rfl) 83 rfl (by decide) ?_
      obtain rfl := Option.some.inj h
      exact Z_ireturn (st := []) hC hr hQ (dk d_X0_barrier 51 rfl)
noncomputable def X0_barrier_J27 (N : Nat) (i : Nat) (x1 : Int32) (x2 : Int32) (s0 : Int32) (w : Wd) : Option (Int32 × Wd) :=
  if s0 = 0 then
    X0_barrier_J57 N i x1 x2 s0 w
  else
    gd (vp_in x2 6) (
    (f_X4_isOf N (gA w 16 i x2.toNatClampNeg) (1 : Int32) w).bind (fun q12 =>
      if q12.1 = 0 then
        gd (vp_in x1 6) (
        if (gA q12.2 16 i x1.toNatClampNeg) = (5 : Int32) then
          some ((2 : Int32), q12.2)
        else
          X0_barrier_J57 N i x1 x2 s0 q12.2)
      else
        some ((2 : Int32), q12.2)))
set_option maxRecDepth 20000 in
set_option maxHeartbeats 4000000 in
theorem z_X0_barrier_J27 {x : CX} (hC : Cx x RX0 cX0_barrier 4 2) (hr : (xM x).sig.returnType = (some .int)) (N : Nat) (i : Nat) (hi : i < 2) (x1 : Int32) (x2 : Int32) (s0 : Int32) (w : Wd) (q : (Int32 × Wd)) (h : X0_barrier_J27 N i x1 x2 s0 w = some q) (hQ : Rt x (some (vi q.1)) q.2) : Z x 27 [some (vr 3 i), some (vi x1), some (vi x2), none] [vi s0] w := by
  unfold X0_barrier_J27 at h
  refine Z_istore_n hC (dk d_X0_barrier 17 rfl) 28 rfl rfl (Nat.le_of_ble_eq_true rfl) [some (vr 3 i), some (vi x1), some (vi x2), some (vi s0)] rfl ?_
  refine Z_iload_n hC (dk d_X0_barrier 18 rfl) 29 rfl rfl rfl ?_
  refine Z_if_eq hC (dk d_X0_barrier 19 rfl) 32 57 rfl (by decide) (fun c => ?_) (fun c => ?_)
  · have h := it_t h c
    refine Z_wk [true, true, true, true] [some (vr 3 i), some (vi x1), some (vi x2), some (vi s0)] rfl ?_
    exact z_X0_barrier_J57 hC hr N i hi x1 x2 s0 w _ h hQ
  · have h := it_f h c
    refine Z_aload_n hC (dk d_X0_barrier 20 rfl) 33 rfl rfl rfl ?_
    refine G_X0_9 hC (m_3 hi) (dk d_X0_barrier 21 rfl) 36 rfl ?_
    refine Z_iload_n hC (dk d_X0_barrier 22 rfl) 37 rfl rfl rfl ?_
    obtain ⟨g11, h⟩ := gd_some h
    refine Z_iaload hC (m_16 hi) (by decide) rfl g11 (dk d_X0_barrier 23 rfl) 38 rfl ?_
    refine Z_iconst (v := 1) hC (dk d_X0_barrier 24 rfl) 39 rfl (by decide) ?_
    obtain ⟨q12, hq12, h⟩ := bd_some h
    refine K_X0_51 [vi (gA w 16 i x2.toNatClampNeg), vi (1 : Int32)] hC (s_X4_isOf (xG x) (xl x) N (gA w 16 i x2.toNatClampNeg) (1 : Int32) w q12 hq12) (Nat.le_of_ble_eq_true rfl) rfl rfl rfl (Nat.le_of_ble_eq_true rfl) (dk d_X0_barrier 25 rfl) 42 rfl ?_
    refine Z_if_ne hC (dk d_X0_barrier 26 rfl) 45 55 rfl (by decide) (fun c => ?_) (fun c => ?_)
    · have h := it_f h c
      refine Z_iconst (v := 2) hC (dk d_X0_barrier 33 rfl) 56 rfl (by decide) ?_
      obtain rfl := Option.some.inj h
      exact Z_ireturn (st := []) hC hr hQ (dk d_X0_barrier 34 rfl)
    · have h := it_t h c
      refine Z_aload_n hC (dk d_X0_barrier 27 rfl) 46 rfl rfl rfl ?_
      refine G_X0_9 hC (m_3 hi) (dk d_X0_barrier 28 rfl) 49 rfl ?_
      refine Z_iload_n hC (dk d_X0_barrier 29 rfl) 50 rfl rfl rfl ?_
      obtain ⟨g13, h⟩ := gd_some h
      refine Z_iaload hC (m_16 hi) (by decide) rfl g13 (dk d_X0_barrier 30 rfl) 51 rfl ?_
      refine Z_iconst (v := 5) hC (dk d_X0_barrier 31 rfl) 52 rfl (by decide) ?_
      refine Z_icmp_ne hC (dk d_X0_barrier 32 rfl) 55 57 rfl (by decide) (fun c => ?_) (fun c => ?_)
      · have h := it_f h c
        refine Z_wk [true, true, true, true] [some (vr 3 i), some (vi x1), some (vi x2), some (vi s0)] rfl ?_
        exact z_X0_barrier_J57 hC hr N i hi x1 x2 s0 q12.2 _ h hQ
      · have h := it_t h c
        refine Z_iconst (v := 2) hC (dk d_X0_barrier 33 rfl) 56 rfl (by decide) ?_
        obtain rfl := Option.some.inj h
        exact Z_ireturn (st := []) hC hr hQ (dk d_X0_barrier 34 rfl)
noncomputable def f_X0_barrier (N : Nat) (i : Nat) (a1 : Int32) (a2 : Int32) (w : Wd) : Option (Int32 × Wd) :=
  if a1 = a2 then
    some ((1 : Int32), w)
  else
    gd (vp_in a1 6) (
    gd (vp_in a2 6) (
    if (gA w 17 i a1.toNatClampNeg) = (gA w 17 i a2.toNatClampNeg) then
      X0_barrier_J27 N i a1 a2 (1 : Int32) w
    else
      X0_barrier_J27 N i a1 a2 (0 : Int32) w))
set_option maxRecDepth 20000 in
set_option maxHeartbeats 4000000 in
theorem s_X0_barrier (G : GT) (l : Launch) (N : Nat) (i : Nat) (hi : i < 2) (a1 : Int32) (a2 : Int32) (w : Wd) (q : Int32 × Wd) (h : f_X0_barrier N i a1 a2 w = some q) : Sp G l yX0_barrier cw_X0_barrier 2 [vr 3 i, vi a1, vi a2] w (some (vi q.1)) q.2 := by
  refine Sp_of (own := RX0) [some (vr 3 i), some (vi a1), some (vi a2), none] (by decide) rfl rfl (Nat.le_of_ble_eq_true rfl) ?_
  intro x hG hl hC hr hQ _ _
  subst hG
  subst hl
  unfold f_X0_barrier at h
  refine Z_iload_n hC (dk d_X0_barrier 0 rfl) 1 rfl rfl rfl ?_
  refine Z_iload_n hC (dk d_X0_barrier 1 rfl) 2 rfl rfl rfl ?_
  refine Z_icmp_ne hC (dk d_X0_barrier 2 rfl) 5 7 rfl (by decide) (fun c => ?_) (fun c => ?_)
  · have h := it_f h c
    refine Z_aload_n hC (dk d_X0_barrier 5 rfl) 8 rfl rfl rfl ?_
    refine G_X0_15 hC (m_3 hi) (dk d_X0_barrier 6 rfl) 11 rfl ?_
    refine Z_iload_n hC (dk d_X0_barrier 7 rfl) 12 rfl rfl rfl ?_
    obtain ⟨g1, h⟩ := gd_some h
    refine Z_iaload hC (m_17 hi) (by decide) rfl g1 (dk d_X0_barrier 8 rfl) 13 rfl ?_
    refine Z_aload_n hC (dk d_X0_barrier 9 rfl) 14 rfl rfl rfl ?_
    refine G_X0_15 hC (m_3 hi) (dk d_X0_barrier 10 rfl) 17 rfl ?_
    refine Z_iload_n hC (dk d_X0_barrier 11 rfl) 18 rfl rfl rfl ?_
    obtain ⟨g2, h⟩ := gd_some h
    refine Z_iaload hC (m_17 hi) (by decide) rfl g2 (dk d_X0_barrier 12 rfl) 19 rfl ?_
    refine Z_icmp_ne hC (dk d_X0_barrier 13 rfl) 22 26 rfl (by decide) (fun c => ?_) (fun c => ?_)
    · have h := it_f h c
      refine Z_iconst (v := 0) hC (dk d_X0_barrier 16 rfl) 27 rfl (by decide) ?_
      refine Z_wk [true, true, true, false] [some (vr 3 i), some (vi a1), some (vi a2), none] rfl ?_
      exact z_X0_barrier_J27 hC hr N i hi a1 a2 (0 : Int32) w _ h hQ
    · have h := it_t h c
      refine Z_iconst (v := 1) hC (dk d_X0_barrier 14 rfl) 23 rfl (by decide) ?_
      refine Z_goto hC (dk d_X0_barrier 15 rfl) 27 (by decide) ?_
      refine Z_wk [true, true, true, false] [some (vr 3 i), some (vi a1), some (vi a2), none] rfl ?_
      exact z_X0_barrier_J27 hC hr N i hi a1 a2 (1 : Int32) w _ h hQ
  · have h := it_t h c
    refine Z_iconst (v := 1) hC (dk d_X0_barrier 3 rfl) 6 rfl (by decide) ?_
    obtain rfl := Option.some.inj h
    exact Z_ireturn (st := []) hC hr hQ (dk d_X0_barrier 4 rfl)
def t_X0_open : List (Nat × Instr × Nat) := [(0, .iconst 0, 1), (1, .istore_n 2, 1), (2, .iconst 0, 1), (3, .istore_n 3, 1), (4, .iload_n 3, 1), (5, .aload_n 0, 1), (6, .getfield 28, 3), (9, .if_icmp .ge 24, 3), (12, .aload_n 0, 1), (13, .iload_n 1, 1), (14, .iload_n 3, 1), (15, .invokevirtual 59, 3), (18, .ifCond .ne 9, 3), (21, .iload_n 2, 1), (22, .iconst 1, 1), (23, .iload_n 3, 1), (24, .ishl, 1), (25, .ior, 1), (26, .istore_n 2, 1), (27, .iinc 3 1, 3), (30, .goto (-26), 3), (33, .iload_n 2, 1), (34, .ireturn, 1)]
set_option maxRecDepth 20000 in
theorem d_X0_open : ∀ q ∈ t_X0_open, decode cX0_open q.1 = .ok q.2 := by decide +kernel
noncomputable def X0_open_L1 (N : Nat) (i : Nat) (x1 : Int32) : Nat → Int32 → Int32 → Wd → Option (Int32 × Wd)
  | 0, _, _, _ => none
  | n + 1, x2, x3, w =>
  if (gI w 4 i) ≤ x3 then
    some (x2, w)
  else
    (f_X0_barrier N i x1 x3 w).bind (fun q1 =>
      if q1.1 = 0 then
        X0_open_L1 N i x1 n (x2 ||| ((1 : Int32) <<< (x3 &&& (31 : Int32)))) (x3 + (1 : Int32)) q1.2
      else
        X0_open_L1 N i x1 n x2 (x3 + (1 : Int32)) q1.2)
set_option maxRecDepth 20000 in
set_option maxHeartbeats 4000000 in
theorem z_X0_open_L1 {x : CX} (hC : Cx x RX0 cX0_open 4 3) (hr : (xM x).sig.returnType = (some .int)) (N : Nat) (i : Nat) (hi : i < 2) (x1 : Int32) : ∀ (n : Nat) (x2 : Int32) (x3 : Int32) (w : Wd) (q : (Int32 × Wd)), X0_open_L1 N i x1 n x2 x3 w = some q → Z x 33 [none, none, some (vi q.1), none] [] q.2 → Z x 4 [some (vr 3 i), some (vi x1), some (vi x2), some (vi x3)] [] w := by
  intro n
  induction n with
  | zero =>
    intro x2 x3 w q h
    cases h
  | succ n ih =>
    intro x2 x3 w q h ke
    rw [X0_open_L1] at h
    refine Z_iload_n hC (dk d_X0_open 4 rfl) 5 rfl rfl rfl ?_
    refine Z_aload_n hC (dk d_X0_open 5 rfl) 6 rfl rfl rfl ?_
    refine G_X0_28 hC (m_3 hi) (dk d_X0_open 6 rfl) 9 rfl ?_
    refine Z_icmp_ge hC (dk d_X0_open 7 rfl) 12 33 rfl (by decide) (fun c => ?_) (fun c => ?_)
    · have h := it_t h c
      obtain rfl := Option.some.inj h
      refine Z_wk [false, false, true, false] [none, none, some (vi x2), none] rfl ?_
      exact ke
    · have h := it_f h c
      refine Z_aload_n hC (dk d_X0_open 8 rfl) 13 rfl rfl rfl ?_
      refine Z_iload_n hC (dk d_X0_open 9 rfl) 14 rfl rfl rfl ?_
      refine Z_iload_n hC (dk d_X0_open 10 rfl) 15 rfl rfl rfl ?_
      obtain ⟨q1, hq1, h⟩ := bd_some h
      refine K_X0_59 [vi x1, vi x3] hC (m_3 hi) (s_X0_barrier (xG x) (xl x) N i hi x1 x3 w q1 hq1) (Nat.le_of_ble_eq_true rfl) rfl rfl rfl (Nat.le_of_ble_eq_true rfl) (dk d_X0_open 11 rfl) 18 rfl ?_
      refine Z_if_ne hC (dk d_X0_open 12 rfl) 21 27 rfl (by decide) (fun c => ?_) (fun c => ?_)
      · have h := it_f h c
        refine Z_iinc hC (dk d_X0_open 19 rfl) 30 rfl rfl rfl [some (vr 3 i), some (vi x1), some (vi x2), some (vi (x3 + (1 : Int32)))] rfl ?_
        refine Z_goto hC (dk d_X0_open 20 rfl) 4 (by decide) ?_
        refine Z_wk [true, true, true, true] [some (vr 3 i), some (vi x1), some (vi x2), some (vi (x3 + (1 : Int32)))] rfl ?_
        exact ih x2 (x3 + (1 : Int32)) q1.2 _ h ke
      · have h := it_t h c
        refine Z_iload_n hC (dk d_X0_open 13 rfl) 22 rfl rfl rfl ?_
        refine Z_iconst (v := 1) hC (dk d_X0_open 14 rfl) 23 rfl (by decide) ?_
        refine Z_iload_n hC (dk d_X0_open 15 rfl) 24 rfl rfl rfl ?_
        refine Z_ishl hC (dk d_X0_open 16 rfl) 25 rfl ?_
        refine Z_ior hC (dk d_X0_open 17 rfl) 26 rfl ?_
        refine Z_istore_n hC (dk d_X0_open 18 rfl) 27 rfl rfl (Nat.le_of_ble_eq_true rfl) [some (vr 3 i), some (vi x1), some (vi (x2 ||| ((1 : Int32) <<< (x3 &&& (31 : Int32))))), some (vi x3)] rfl ?_
        refine Z_iinc hC (dk d_X0_open 19 rfl) 30 rfl rfl rfl [some (vr 3 i), some (vi x1), some (vi (x2 ||| ((1 : Int32) <<< (x3 &&& (31 : Int32))))), some (vi (x3 + (1 : Int32)))] rfl ?_
        refine Z_goto hC (dk d_X0_open 20 rfl) 4 (by decide) ?_
        refine Z_wk [true, true, true, true] [some (vr 3 i), some (vi x1), some (vi (x2 ||| ((1 : Int32) <<< (x3 &&& (31 : Int32))))), some (vi (x3 + (1 : Int32)))] rfl ?_
        exact ih (x2 ||| ((1 : Int32) <<< (x3 &&& (31 : Int32)))) (x3 + (1 : Int32)) q1.2 _ h ke
noncomputable def f_X0_open (N : Nat) (i : Nat) (a1 : Int32) (w : Wd) : Option (Int32 × Wd) :=
  (X0_open_L1 N i a1 N (0 : Int32) (0 : Int32) w).bind (fun q2 =>
    some (q2.1, q2.2))
set_option maxRecDepth 20000 in
set_option maxHeartbeats 4000000 in
theorem s_X0_open (G : GT) (l : Launch) (N : Nat) (i : Nat) (hi : i < 2) (a1 : Int32) (w : Wd) (q : Int32 × Wd) (h : f_X0_open N i a1 w = some q) : Sp G l yX0_open cw_X0_open 3 [vr 3 i, vi a1] w (some (vi q.1)) q.2 := by
  refine Sp_of (own := RX0) [some (vr 3 i), some (vi a1), none, none] (by decide) rfl rfl (Nat.le_of_ble_eq_true rfl) ?_
  intro x hG hl hC hr hQ _ _
  subst hG
  subst hl
  unfold f_X0_open at h
  refine Z_iconst (v := 0) hC (dk d_X0_open 0 rfl) 1 rfl (by decide) ?_
  refine Z_istore_n hC (dk d_X0_open 1 rfl) 2 rfl rfl (Nat.le_of_ble_eq_true rfl) [some (vr 3 i), some (vi a1), some (vi (0 : Int32)), none] rfl ?_
  refine Z_iconst (v := 0) hC (dk d_X0_open 2 rfl) 3 rfl (by decide) ?_
  refine Z_istore_n hC (dk d_X0_open 3 rfl) 4 rfl rfl (Nat.le_of_ble_eq_true rfl) [some (vr 3 i), some (vi a1), some (vi (0 : Int32)), some (vi (0 : Int32))] rfl ?_
  obtain ⟨q2, hq2, h⟩ := bd_some h
  refine Z_wk [true, true, true, true] [some (vr 3 i), some (vi a1), some (vi (0 : Int32)), some (vi (0 : Int32))] rfl ?_
  refine z_X0_open_L1 hC hr N i hi a1 N (0 : Int32) (0 : Int32) w q2 hq2 ?_
  refine Z_iload_n hC (dk d_X0_open 21 rfl) 34 rfl rfl rfl ?_
  obtain rfl := Option.some.inj h
  exact Z_ireturn (st := []) hC hr hQ (dk d_X0_open 22 rfl)
def t_X0_minds : List (Nat × Instr × Nat) := [(0, .aload_n 0, 1), (1, .iconst 1, 1), (2, .invokevirtual 55, 3), (5, .ifCond .eq 27, 3), (8, .aload_n 0, 1), (9, .getfield 9, 3), (12, .iload_n 1, 1), (13, .iaload, 1), (14, .iconst 4, 1), (15, .if_icmp .eq 17, 3), (18, .aload_n 0, 1), (19, .getfield 9, 3), (22, .iload_n 2, 1), (23, .iaload, 1), (24, .iconst 4, 1), (25, .if_icmp .eq 7, 3), (28, .iconst 1, 1), (29, .goto 4, 3), (32, .iconst 0, 1), (33, .ireturn, 1)]
set_option maxRecDepth 20000 in
theorem d_X0_minds : ∀ q ∈ t_X0_minds, decode cX0_minds q.1 = .ok q.2 := by decide +kernel
noncomputable def f_X0_minds (N : Nat) (i : Nat) (a1 : Int32) (a2 : Int32) (w : Wd) : Option (Int32 × Wd) :=
  (f_X0_isFor N i (1 : Int32) w).bind (fun q1 =>
    if q1.1 = 0 then
      some ((0 : Int32), q1.2)
    else
      gd (vp_in a1 6) (
      if (gA q1.2 16 i a1.toNatClampNeg) = (4 : Int32) then
        some ((0 : Int32), q1.2)
      else
        gd (vp_in a2 6) (
        if (gA q1.2 16 i a2.toNatClampNeg) = (4 : Int32) then
          some ((0 : Int32), q1.2)
        else
          some ((1 : Int32), q1.2))))
set_option maxRecDepth 20000 in
set_option maxHeartbeats 4000000 in
theorem s_X0_minds (G : GT) (l : Launch) (N : Nat) (i : Nat) (hi : i < 2) (a1 : Int32) (a2 : Int32) (w : Wd) (q : Int32 × Wd) (h : f_X0_minds N i a1 a2 w = some q) : Sp G l yX0_minds cw_X0_minds 1 [vr 3 i, vi a1, vi a2] w (some (vi q.1)) q.2 := by
  refine Sp_of (own := RX0) [some (vr 3 i), some (vi a1), some (vi a2)] (by decide) rfl rfl (Nat.le_of_ble_eq_true rfl) ?_
  intro x hG hl hC hr hQ _ _
  subst hG
  subst hl
  unfold f_X0_minds at h
  refine Z_aload_n hC (dk d_X0_minds 0 rfl) 1 rfl rfl rfl ?_
  refine Z_iconst (v := 1) hC (dk d_X0_minds 1 rfl) 2 rfl (by decide) ?_
  obtain ⟨q1, hq1, h⟩ := bd_some h
  refine K_X0_55 [vi (1 : Int32)] hC (m_3 hi) (s_X0_isFor (xG x) (xl x) N i hi (1 : Int32) w q1 hq1) (Nat.le_of_ble_eq_true rfl) rfl rfl rfl (Nat.le_of_ble_eq_true rfl) (dk d_X0_minds 2 rfl) 5 rfl ?_
  refine Z_if_eq hC (dk d_X0_minds 3 rfl) 8 32 rfl (by decide) (fun c => ?_) (fun c => ?_)
  · have h := it_t h c
    refine Z_iconst (v := 0) hC (dk d_X0_minds 18 rfl) 33 rfl (by decide) ?_
    obtain rfl := Option.some.inj h
    exact Z_zreturn (st := []) hC hr rfl hQ (dk d_X0_minds 19 rfl)
  · have h := it_f h c
    refine Z_aload_n hC (dk d_X0_minds 4 rfl) 9 rfl rfl rfl ?_
    refine G_X0_9 hC (m_3 hi) (dk d_X0_minds 5 rfl) 12 rfl ?_
    refine Z_iload_n hC (dk d_X0_minds 6 rfl) 13 rfl rfl rfl ?_
    obtain ⟨g2, h⟩ := gd_some h
    refine Z_iaload hC (m_16 hi) (by decide) rfl g2 (dk d_X0_minds 7 rfl) 14 rfl ?_
    refine Z_iconst (v := 4) hC (dk d_X0_minds 8 rfl) 15 rfl (by decide) ?_
    refine Z_icmp_eq hC (dk d_X0_minds 9 rfl) 18 32 rfl (by decide) (fun c => ?_) (fun c => ?_)
    · have h := it_t h c
      refine Z_iconst (v := 0) hC (dk d_X0_minds 18 rfl) 33 rfl (by decide) ?_
      obtain rfl := Option.some.inj h
      exact Z_zreturn (st := []) hC hr rfl hQ (dk d_X0_minds 19 rfl)
    · have h := it_f h c
      refine Z_aload_n hC (dk d_X0_minds 10 rfl) 19 rfl rfl rfl ?_
      refine G_X0_9 hC (m_3 hi) (dk d_X0_minds 11 rfl) 22 rfl ?_
      refine Z_iload_n hC (dk d_X0_minds 12 rfl) 23 rfl rfl rfl ?_
      obtain ⟨g3, h⟩ := gd_some h
      refine Z_iaload hC (m_16 hi) (by decide) rfl g3 (dk d_X0_minds 13 rfl) 24 rfl ?_
      refine Z_iconst (v := 4) hC (dk d_X0_minds 14 rfl) 25 rfl (by decide) ?_
      refine Z_icmp_eq hC (dk d_X0_minds 15 rfl) 28 32 rfl (by decide) (fun c => ?_) (fun c => ?_)
      · have h := it_t h c
        refine Z_iconst (v := 0) hC (dk d_X0_minds 18 rfl) 33 rfl (by decide) ?_
        obtain rfl := Option.some.inj h
        exact Z_zreturn (st := []) hC hr rfl hQ (dk d_X0_minds 19 rfl)
      · have h := it_f h c
        refine Z_iconst (v := 1) hC (dk d_X0_minds 16 rfl) 29 rfl (by decide) ?_
        refine Z_goto hC (dk d_X0_minds 17 rfl) 33 (by decide) ?_
        obtain rfl := Option.some.inj h
        exact Z_zreturn (st := []) hC hr rfl hQ (dk d_X0_minds 19 rfl)
def t_X0_drawsBack : List (Nat × Instr × Nat) := [(0, .iload_n 2, 1), (1, .iload_n 1, 1), (2, .if_icmp .ge 25, 3), (5, .iload_n 3, 1), (6, .iload_n 2, 1), (7, .invokestatic 44, 3), (10, .iload_n 1, 1), (11, .if_icmp .ne 16, 3), (14, .aload_n 0, 1), (15, .iload_n 1, 1), (16, .iload_n 2, 1), (17, .invokevirtual 62, 3), (20, .ifCond .eq 7, 3), (23, .iconst 1, 1), (24, .goto 4, 3), (27, .iconst 0, 1), (28, .ireturn, 1)]
set_option maxRecDepth 20000 in
theorem d_X0_drawsBack : ∀ q ∈ t_X0_drawsBack, decode cX0_drawsBack q.1 = .ok q.2 := by decide +kernel
noncomputable def f_X0_drawsBack (N : Nat) (i : Nat) (a1 : Int32) (a2 : Int32) (a3 : Int32) (w : Wd) : Option (Int32 × Wd) :=
  if a1 ≤ a2 then
    some ((0 : Int32), w)
  else
    (f_X4_paper N a3 a2 w).bind (fun q1 =>
      if q1.1 = a1 then
        (f_X0_minds N i a1 a2 q1.2).bind (fun q2 =>
          if q2.1 = 0 then
            some ((0 : Int32), q2.2)
          else
            some ((1 : Int32), q2.2))
      else
        some ((0 : Int32), q1.2))
set_option maxRecDepth 20000 in
set_option maxHeartbeats 4000000 in
theorem s_X0_drawsBack (G : GT) (l : Launch) (N : Nat) (i : Nat) (hi : i < 2) (a1 : Int32) (a2 : Int32) (a3 : Int32) (w : Wd) (q : Int32 × Wd) (h : f_X0_drawsBack N i a1 a2 a3 w = some q) : Sp G l yX0_drawsBack cw_X0_drawsBack 2 [vr 3 i, vi a1, vi a2, vi a3] w (some (vi q.1)) q.2 := by
  refine Sp_of (own := RX0) [some (vr 3 i), some (vi a1), some (vi a2), some (vi a3)] (by decide) rfl rfl (Nat.le_of_ble_eq_true rfl) ?_
  intro x hG hl hC hr hQ _ _
  subst hG
  subst hl
  unfold f_X0_drawsBack at h
  refine Z_iload_n hC (dk d_X0_drawsBack 0 rfl) 1 rfl rfl rfl ?_
  refine Z_iload_n hC (dk d_X0_drawsBack 1 rfl) 2 rfl rfl rfl ?_
  refine Z_icmp_ge hC (dk d_X0_drawsBack 2 rfl) 5 27 rfl (by decide) (fun c => ?_) (fun c => ?_)
  · have h := it_t h c
    refine Z_iconst (v := 0) hC (dk d_X0_drawsBack 15 rfl) 28 rfl (by decide) ?_
    obtain rfl := Option.some.inj h
    exact Z_zreturn (st := []) hC hr rfl hQ (dk d_X0_drawsBack 16 rfl)
  · have h := it_f h c
    refine Z_iload_n hC (dk d_X0_drawsBack 3 rfl) 6 rfl rfl rfl ?_
    refine Z_iload_n hC (dk d_X0_drawsBack 4 rfl) 7 rfl rfl rfl ?_
    obtain ⟨q1, hq1, h⟩ := bd_some h
    refine K_X0_44 [vi a3, vi a2] hC (s_X4_paper (xG x) (xl x) N a3 a2 w q1 hq1) (Nat.le_of_ble_eq_true rfl) rfl rfl rfl (Nat.le_of_ble_eq_true rfl) (dk d_X0_drawsBack 5 rfl) 10 rfl ?_
    refine Z_iload_n hC (dk d_X0_drawsBack 6 rfl) 11 rfl rfl rfl ?_
    refine Z_icmp_ne hC (dk d_X0_drawsBack 7 rfl) 14 27 rfl (by decide) (fun c => ?_) (fun c => ?_)
    · have h := it_f h c
      refine Z_iconst (v := 0) hC (dk d_X0_drawsBack 15 rfl) 28 rfl (by decide) ?_
      obtain rfl := Option.some.inj h
      exact Z_zreturn (st := []) hC hr rfl hQ (dk d_X0_drawsBack 16 rfl)
    · have h := it_t h c
      refine Z_aload_n hC (dk d_X0_drawsBack 8 rfl) 15 rfl rfl rfl ?_
      refine Z_iload_n hC (dk d_X0_drawsBack 9 rfl) 16 rfl rfl rfl ?_
      refine Z_iload_n hC (dk d_X0_drawsBack 10 rfl) 17 rfl rfl rfl ?_
      obtain ⟨q2, hq2, h⟩ := bd_some h
      refine K_X0_62 [vi a1, vi a2] hC (m_3 hi) (s_X0_minds (xG x) (xl x) N i hi a1 a2 q1.2 q2 hq2) (Nat.le_of_ble_eq_true rfl) rfl rfl rfl (Nat.le_of_ble_eq_true rfl) (dk d_X0_drawsBack 11 rfl) 20 rfl ?_
      refine Z_if_eq hC (dk d_X0_drawsBack 12 rfl) 23 27 rfl (by decide) (fun c => ?_) (fun c => ?_)
      · have h := it_t h c
        refine Z_iconst (v := 0) hC (dk d_X0_drawsBack 15 rfl) 28 rfl (by decide) ?_
        obtain rfl := Option.some.inj h
        exact Z_zreturn (st := []) hC hr rfl hQ (dk d_X0_drawsBack 16 rfl)
      · have h := it_f h c
        refine Z_iconst (v := 1) hC (dk d_X0_drawsBack 13 rfl) 24 rfl (by decide) ?_
        refine Z_goto hC (dk d_X0_drawsBack 14 rfl) 28 (by decide) ?_
        obtain rfl := Option.some.inj h
        exact Z_zreturn (st := []) hC hr rfl hQ (dk d_X0_drawsBack 16 rfl)
