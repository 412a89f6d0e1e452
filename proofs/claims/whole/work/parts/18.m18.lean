def t_X5_barOf : List (Nat × Instr × Nat) := [(0, .aload_n 0, 1), (1, .getfield 39, 3), (4, .iload_n 1, 1), (5, .iaload, 1), (6, .aload_n 0, 1), (7, .getfield 39, 3), (10, .iload_n 2, 1), (11, .iaload, 1), (12, .if_icmp .ne 7, 3), (15, .iconst 1, 1), (16, .goto 4, 3), (19, .iconst 0, 1), (20, .istore_n 3, 1), (21, .iload_n 1, 1), (22, .iload_n 2, 1), (23, .if_icmp .ne 5, 3), (26, .iconst 1, 1), (27, .ireturn, 1), (28, .iload_n 3, 1), (29, .ifCond .eq 22, 3), (32, .aload_n 0, 1), (33, .iload_n 2, 1), (34, .iconst 1, 1), (35, .invokevirtual 143, 3), (38, .ifCond .ne 38, 3), (41, .aload_n 0, 1), (42, .getfield 36, 3), (45, .iload_n 1, 1), (46, .iaload, 1), (47, .iconst 5, 1), (48, .if_icmp .eq 28, 3), (51, .aload_n 0, 1), (52, .getfield 36, 3), (55, .iload_n 2, 1), (56, .iaload, 1), (57, .iconst 3, 1), (58, .if_icmp .ne 20, 3), (61, .aload_n 0, 1), (62, .getfield 42, 3), (65, .iload_n 1, 1), (66, .iaload, 1), (67, .aload_n 0, 1), (68, .getfield 42, 3), (71, .iload_n 2, 1), (72, .iaload, 1), (73, .if_icmp .le 5, 3), (76, .iconst 2, 1), (77, .ireturn, 1), (78, .aload_n 0, 1), (79, .getfield 32, 3), (82, .iconst 2, 1), (83, .invokestatic 147, 3), (86, .ifCond .eq 9, 3), (89, .iload_n 3, 1), (90, .ifCond .eq 5, 3), (93, .iconst 3, 1), (94, .ireturn, 1), (95, .aload_n 0, 1), (96, .getfield 32, 3), (99, .iconst 1, 1), (100, .invokestatic 147, 3), (103, .ifCond .eq 25, 3), (106, .aload_n 0, 1), (107, .iload_n 1, 1), (108, .invokevirtual 134, 3), (111, .iload_n 2, 1), (112, .if_icmp .ne 16, 3), (115, .aload_n 0, 1), (116, .iload_n 1, 1), (117, .iconst 2, 1), (118, .invokevirtual 143, 3), (121, .ifCond .ne 7, 3), (124, .iconst 4, 1), (125, .goto 4, 3), (128, .iconst 0, 1), (129, .ireturn, 1)]
set_option maxRecDepth 20000 in
theorem d_X5_barOf : ∀ q ∈ t_X5_barOf, decode cX5_barOf q.1 = .ok q.2 := by decide +kernel
noncomputable def X5_barOf_J95 (N : Nat) (x1 : Int32) (x2 : Int32) (w : Wd) : Option (Int32 × Wd) :=
  (f_X5_has N (gI w 511 0) (1 : Int32) w).bind (fun q5 =>
    if q5.1 = 0 then
      some ((0 : Int32), q5.2)
    else
      (f_X5_lastOf N x1 q5.2).bind (fun q6 =>
        if q6.1 = x2 then
          (f_X5_isA N x1 (2 : Int32) q6.2).bind (fun q7 =>
            if q7.1 = 0 then
              some ((4 : Int32), q7.2)
            else
              some ((0 : Int32), q7.2))
        else
          some ((0 : Int32), q6.2)))
set_option maxRecDepth 20000 in
set_option maxHeartbeats 4000000 in
theorem z_X5_barOf_J95 {x : CX} (hC : Cx x RX5 cX5_barOf 4 1) (hr : (xM x).sig.returnType = (some .int)) (N : Nat) (x1 : Int32) (x2 : Int32) (w : Wd) (q : (Int32 × Wd)) (h : X5_barOf_J95 N x1 x2 w = some q) (hQ : Rt x (some (vi q.1)) q.2) : Z x 95 [some (vr 5 0), some (vi x1), some (vi x2), none] [] w := by
  unfold X5_barOf_J95 at h
  refine Z_aload_n hC (dk d_X5_barOf 57 rfl) 96 rfl rfl rfl ?_
  refine G_X5_32 hC m_5 (dk d_X5_barOf 58 rfl) 99 rfl ?_
  refine Z_iconst (v := 1) hC (dk d_X5_barOf 59 rfl) 100 rfl (by decide) ?_
  obtain ⟨q5, hq5, h⟩ := bd_some h
  refine K_X5_147 [vi (gI w 511 0), vi (1 : Int32)] hC (s_X5_has (xG x) (xl x) N (gI w 511 0) (1 : Int32) w q5 hq5) (Nat.le_of_ble_eq_true rfl) rfl rfl rfl (Nat.le_of_ble_eq_true rfl) (dk d_X5_barOf 60 rfl) 103 rfl ?_
  refine Z_if_eq hC (dk d_X5_barOf 61 rfl) 106 128 rfl (by decide) (fun c => ?_) (fun c => ?_)
  · have h := it_t h c
    refine Z_iconst (v := 0) hC (dk d_X5_barOf 74 rfl) 129 rfl (by decide) ?_
    obtain rfl := Option.some.inj h
    exact Z_ireturn (st := []) hC hr hQ (dk d_X5_barOf 75 rfl)
  · have h := it_f h c
    refine Z_aload_n hC (dk d_X5_barOf 62 rfl) 107 rfl rfl rfl ?_
    refine Z_iload_n hC (dk d_X5_barOf 63 rfl) 108 rfl rfl rfl ?_
    obtain ⟨q6, hq6, h⟩ := bd_some h
    refine K_X5_134 [vi x1] hC m_5 (s_X5_lastOf (xG x) (xl x) N x1 q5.2 q6 hq6) (Nat.le_of_ble_eq_true rfl) rfl rfl rfl (Nat.le_of_ble_eq_true rfl) (dk d_X5_barOf 64 rfl) 111 rfl ?_
    refine Z_iload_n hC (dk d_X5_barOf 65 rfl) 112 rfl rfl rfl ?_
    refine Z_icmp_ne hC (dk d_X5_barOf 66 rfl) 115 128 rfl (by decide) (fun c => ?_) (fun c => ?_)
    · have h := it_f h c
      refine Z_iconst (v := 0) hC (dk d_X5_barOf 74 rfl) 129 rfl (by decide) ?_
      obtain rfl := Option.some.inj h
      exact Z_ireturn (st := []) hC hr hQ (dk d_X5_barOf 75 rfl)
    · have h := it_t h c
      refine Z_aload_n hC (dk d_X5_barOf 67 rfl) 116 rfl rfl rfl ?_
      refine Z_iload_n hC (dk d_X5_barOf 68 rfl) 117 rfl rfl rfl ?_
      refine Z_iconst (v := 2) hC (dk d_X5_barOf 69 rfl) 118 rfl (by decide) ?_
      obtain ⟨q7, hq7, h⟩ := bd_some h
      refine K_X5_143 [vi x1, vi (2 : Int32)] hC m_5 (s_X5_isA (xG x) (xl x) N x1 (2 : Int32) q6.2 q7 hq7) (Nat.le_of_ble_eq_true rfl) rfl rfl rfl (Nat.le_of_ble_eq_true rfl) (dk d_X5_barOf 70 rfl) 121 rfl ?_
      refine Z_if_ne hC (dk d_X5_barOf 71 rfl) 124 128 rfl (by decide) (fun c => ?_) (fun c => ?_)
      · have h := it_f h c
        refine Z_iconst (v := 0) hC (dk d_X5_barOf 74 rfl) 129 rfl (by decide) ?_
        obtain rfl := Option.some.inj h
        exact Z_ireturn (st := []) hC hr hQ (dk d_X5_barOf 75 rfl)
      · have h := it_t h c
        refine Z_iconst (v := 4) hC (dk d_X5_barOf 72 rfl) 125 rfl (by decide) ?_
        refine Z_goto hC (dk d_X5_barOf 73 rfl) 129 (by decide) ?_
        obtain rfl := Option.some.inj h
        exact Z_ireturn (st := []) hC hr hQ (dk d_X5_barOf 75 rfl)
noncomputable def X5_barOf_J78 (N : Nat) (x1 : Int32) (x2 : Int32) (x3 : Int32) (w : Wd) : Option (Int32 × Wd) :=
  (f_X5_has N (gI w 511 0) (2 : Int32) w).bind (fun q4 =>
    if q4.1 = 0 then
      X5_barOf_J95 N x1 x2 q4.2
    else
      if x3 = 0 then
        X5_barOf_J95 N x1 x2 q4.2
      else
        some ((3 : Int32), q4.2))
set_option maxRecDepth 20000 in
set_option maxHeartbeats 4000000 in
theorem z_X5_barOf_J78 {x : CX} (hC : Cx x RX5 cX5_barOf 4 1) (hr : (xM x).sig.returnType = (some .int)) (N : Nat) (x1 : Int32) (x2 : Int32) (x3 : Int32) (w : Wd) (q : (Int32 × Wd)) (h : X5_barOf_J78 N x1 x2 x3 w = some q) (hQ : Rt x (some (vi q.1)) q.2) : Z x 78 [some (vr 5 0), some (vi x1), some (vi x2), some (vi x3)] [] w := by
  unfold X5_barOf_J78 at h
  refine Z_aload_n hC (dk d_X5_barOf 48 rfl) 79 rfl rfl rfl ?_
  refine G_X5_32 hC m_5 (dk d_X5_barOf 49 rfl) 82 rfl ?_
  refine Z_iconst (v := 2) hC (dk d_X5_barOf 50 rfl) 83 rfl (by decide) ?_
  obtain ⟨q4, hq4, h⟩ := bd_some h
  refine K_X5_147 [vi (gI w 511 0), vi (2 : Int32)] hC (s_X5_has (xG x) (xl x) N (gI w 511 0) (2 : Int32) w q4 hq4) (Nat.le_of_ble_eq_true rfl) rfl rfl rfl (Nat.le_of_ble_eq_true rfl) (dk d_X5_barOf 51 rfl) 86 rfl ?_
  refine Z_if_eq hC (dk d_X5_barOf 52 rfl) 89 95 rfl (by decide) (fun c => ?_) (fun c => ?_)
  · have h := it_t h c
    refine Z_wk [true, true, true, false] [some (vr 5 0), some (vi x1), some (vi x2), none] rfl ?_
    exact z_X5_barOf_J95 hC hr N x1 x2 q4.2 _ h hQ
  · have h := it_f h c
    refine Z_iload_n hC (dk d_X5_barOf 53 rfl) 90 rfl rfl rfl ?_
    refine Z_if_eq hC (dk d_X5_barOf 54 rfl) 93 95 rfl (by decide) (fun c => ?_) (fun c => ?_)
    · have h := it_t h c
      refine Z_wk [true, true, true, false] [some (vr 5 0), some (vi x1), some (vi x2), none] rfl ?_
      exact z_X5_barOf_J95 hC hr N x1 x2 q4.2 _ h hQ
    · have h := it_f h c
      refine Z_iconst (v := 3) hC (dk d_X5_barOf 55 rfl) 94 rfl (by decide) ?_
      obtain rfl := Option.some.inj h
      exact Z_ireturn (st := []) hC hr hQ (dk d_X5_barOf 56 rfl)
noncomputable def X5_barOf_J51 (N : Nat) (x1 : Int32) (x2 : Int32) (x3 : Int32) (w : Wd) : Option (Int32 × Wd) :=
  gd (vp_in x2 12) (
  if (gA w 36 0 x2.toNatClampNeg) = (3 : Int32) then
    gd (vp_in x1 12) (
    gd (vp_in x2 12) (
    if (gA w 38 0 x1.toNatClampNeg) ≤ (gA w 38 0 x2.toNatClampNeg) then
      X5_barOf_J78 N x1 x2 x3 w
    else
      some ((2 : Int32), w)))
  else
    X5_barOf_J78 N x1 x2 x3 w)
set_option maxRecDepth 20000 in
set_option maxHeartbeats 4000000 in
theorem z_X5_barOf_J51 {x : CX} (hC : Cx x RX5 cX5_barOf 4 1) (hr : (xM x).sig.returnType = (some .int)) (N : Nat) (x1 : Int32) (x2 : Int32) (x3 : Int32) (w : Wd) (q : (Int32 × Wd)) (h : X5_barOf_J51 N x1 x2 x3 w = some q) (hQ : Rt x (some (vi q.1)) q.2) : Z x 51 [some (vr 5 0), some (vi x1), some (vi x2), some (vi x3)] [] w := by
  unfold X5_barOf_J51 at h
  refine Z_aload_n hC (dk d_X5_barOf 31 rfl) 52 rfl rfl rfl ?_
  refine G_X5_36 hC m_5 (dk d_X5_barOf 32 rfl) 55 rfl ?_
  refine Z_iload_n hC (dk d_X5_barOf 33 rfl) 56 rfl rfl rfl ?_
  obtain ⟨g3, h⟩ := gd_some h
  refine Z_iaload hC m_36 (by decide) rfl g3 (dk d_X5_barOf 34 rfl) 57 rfl ?_
  refine Z_iconst (v := 3) hC (dk d_X5_barOf 35 rfl) 58 rfl (by decide) ?_
  refine Z_icmp_ne hC (dk d_X5_barOf 36 rfl) 61 78 rfl (by decide) (fun c => ?_) (fun c => ?_)
  · have h := it_f h c
    refine Z_wk [true, true, true, true] [some (vr 5 0), some (vi x1), some (vi x2), some (vi x3)] rfl ?_
    exact z_X5_barOf_J78 hC hr N x1 x2 x3 w _ h hQ
  · have h := it_t h c
    refine Z_aload_n hC (dk d_X5_barOf 37 rfl) 62 rfl rfl rfl ?_
    refine G_X5_42 hC m_5 (dk d_X5_barOf 38 rfl) 65 rfl ?_
    refine Z_iload_n hC (dk d_X5_barOf 39 rfl) 66 rfl rfl rfl ?_
    obtain ⟨g8, h⟩ := gd_some h
    refine Z_iaload hC m_38 (by decide) rfl g8 (dk d_X5_barOf 40 rfl) 67 rfl ?_
    refine Z_aload_n hC (dk d_X5_barOf 41 rfl) 68 rfl rfl rfl ?_
    refine G_X5_42 hC m_5 (dk d_X5_barOf 42 rfl) 71 rfl ?_
    refine Z_iload_n hC (dk d_X5_barOf 43 rfl) 72 rfl rfl rfl ?_
    obtain ⟨g9, h⟩ := gd_some h
    refine Z_iaload hC m_38 (by decide) rfl g9 (dk d_X5_barOf 44 rfl) 73 rfl ?_
    refine Z_icmp_le hC (dk d_X5_barOf 45 rfl) 76 78 rfl (by decide) (fun c => ?_) (fun c => ?_)
    · have h := it_t h c
      refine Z_wk [true, true, true, true] [some (vr 5 0), some (vi x1), some (vi x2), some (vi x3)] rfl ?_
      exact z_X5_barOf_J78 hC hr N x1 x2 x3 w _ h hQ
    · have h := it_f h c
      refine Z_iconst (v := 2) hC (dk d_X5_barOf 46 rfl) 77 rfl (by decide) ?_
      obtain rfl := Option.some.inj h
      exact Z_ireturn (st := []) hC hr hQ (dk d_X5_barOf 47 rfl)
noncomputable def X5_barOf_J20 (N : Nat) (x1 : Int32) (x2 : Int32) (s0 : Int32) (w : Wd) : Option (Int32 × Wd) :=
  if x1 = x2 then
    some ((1 : Int32), w)
  else
    if s0 = 0 then
      X5_barOf_J51 N x1 x2 s0 w
    else
      (f_X5_isA N x2 (1 : Int32) w).bind (fun q10 =>
        if q10.1 = 0 then
          gd (vp_in x1 12) (
          if (gA q10.2 36 0 x1.toNatClampNeg) = (5 : Int32) then
            some ((2 : Int32), q10.2)
          else
            X5_barOf_J51 N x1 x2 s0 q10.2)
        else
          some ((2 : Int32), q10.2))
set_option maxRecDepth 20000 in
set_option maxHeartbeats 4000000 in
theorem z_X5_barOf_J20 {x : CX} (hC : Cx x RX5 cX5_barOf 4 1) (hr : (xM x).sig.returnType = (some .int)) (N : Nat) (x1 : Int32) (x2 : Int32) (s0 : Int32) (w : Wd) (q : (Int32 × Wd)) (h : X5_barOf_J20 N x1 x2 s0 w = some q) (hQ : Rt x (some (vi q.1)) q.2) : Z x 20 [some (vr 5 0), some (vi x1), some (vi x2), none] [vi s0] w := by
  unfold X5_barOf_J20 at h
  refine Z_istore_n hC (dk d_X5_barOf 12 rfl) 21 rfl rfl (Nat.le_of_ble_eq_true rfl) [some (vr 5 0), some (vi x1), some (vi x2), some (vi s0)] rfl ?_
  refine Z_iload_n hC (dk d_X5_barOf 13 rfl) 22 rfl rfl rfl ?_
  refine Z_iload_n hC (dk d_X5_barOf 14 rfl) 23 rfl rfl rfl ?_
  refine Z_icmp_ne hC (dk d_X5_barOf 15 rfl) 26 28 rfl (by decide) (fun c => ?_) (fun c => ?_)
  · have h := it_f h c
    refine Z_iload_n hC (dk d_X5_barOf 18 rfl) 29 rfl rfl rfl ?_
    refine Z_if_eq hC (dk d_X5_barOf 19 rfl) 32 51 rfl (by decide) (fun c => ?_) (fun c => ?_)
    · have h := it_t h c
      refine Z_wk [true, true, true, true] [some (vr 5 0), some (vi x1), some (vi x2), some (vi s0)] rfl ?_
      exact z_X5_barOf_J51 hC hr N x1 x2 s0 w _ h hQ
    · have h := it_f h c
      refine Z_aload_n hC (dk d_X5_barOf 20 rfl) 33 rfl rfl rfl ?_
      refine Z_iload_n hC (dk d_X5_barOf 21 rfl) 34 rfl rfl rfl ?_
      refine Z_iconst (v := 1) hC (dk d_X5_barOf 22 rfl) 35 rfl (by decide) ?_
      obtain ⟨q10, hq10, h⟩ := bd_some h
      refine K_X5_143 [vi x2, vi (1 : Int32)] hC m_5 (s_X5_isA (xG x) (xl x) N x2 (1 : Int32) w q10 hq10) (Nat.le_of_ble_eq_true rfl) rfl rfl rfl (Nat.le_of_ble_eq_true rfl) (dk d_X5_barOf 23 rfl) 38 rfl ?_
      refine Z_if_ne hC (dk d_X5_barOf 24 rfl) 41 76 rfl (by decide) (fun c => ?_) (fun c => ?_)
      · have h := it_f h c
        refine Z_iconst (v := 2) hC (dk d_X5_barOf 46 rfl) 77 rfl (by decide) ?_
        obtain rfl := Option.some.inj h
        exact Z_ireturn (st := []) hC hr hQ (dk d_X5_barOf 47 rfl)
      · have h := it_t h c
        refine Z_aload_n hC (dk d_X5_barOf 25 rfl) 42 rfl rfl rfl ?_
        refine G_X5_36 hC m_5 (dk d_X5_barOf 26 rfl) 45 rfl ?_
        refine Z_iload_n hC (dk d_X5_barOf 27 rfl) 46 rfl rfl rfl ?_
        obtain ⟨g11, h⟩ := gd_some h
        refine Z_iaload hC m_36 (by decide) rfl g11 (dk d_X5_barOf 28 rfl) 47 rfl ?_
        refine Z_iconst (v := 5) hC (dk d_X5_barOf 29 rfl) 48 rfl (by decide) ?_
        refine Z_icmp_eq hC (dk d_X5_barOf 30 rfl) 51 76 rfl (by decide) (fun c => ?_) (fun c => ?_)
        · have h := it_t h c
          refine Z_iconst (v := 2) hC (dk d_X5_barOf 46 rfl) 77 rfl (by decide) ?_
          obtain rfl := Option.some.inj h
          exact Z_ireturn (st := []) hC hr hQ (dk d_X5_barOf 47 rfl)
        · have h := it_f h c
          refine Z_wk [true, true, true, true] [some (vr 5 0), some (vi x1), some (vi x2), some (vi s0)] rfl ?_
          exact z_X5_barOf_J51 hC hr N x1 x2 s0 q10.2 _ h hQ
  · have h := it_t h c
    refine Z_iconst (v := 1) hC (dk d_X5_barOf 16 rfl) 27 rfl (by decide) ?_
    obtain rfl := Option.some.inj h
    exact Z_ireturn (st := []) hC hr hQ (dk d_X5_barOf 17 rfl)
noncomputable def f_X5_barOf (N : Nat) (a1 : Int32) (a2 : Int32) (w : Wd) : Option (Int32 × Wd) :=
  gd (vp_in a1 12) (
  gd (vp_in a2 12) (
  if (gA w 37 0 a1.toNatClampNeg) = (gA w 37 0 a2.toNatClampNeg) then
    X5_barOf_J20 N a1 a2 (1 : Int32) w
  else
    X5_barOf_J20 N a1 a2 (0 : Int32) w))
set_option maxRecDepth 20000 in
set_option maxHeartbeats 4000000 in
theorem s_X5_barOf (G : GT) (l : Launch) (N : Nat) (a1 : Int32) (a2 : Int32) (w : Wd) (q : Int32 × Wd) (h : f_X5_barOf N a1 a2 w = some q) : Sp G l yX5_barOf cw_X5_barOf 1 [vr 5 0, vi a1, vi a2] w (some (vi q.1)) q.2 := by
  refine Sp_of (own := RX5) [some (vr 5 0), some (vi a1), some (vi a2), none] (by decide) rfl rfl (Nat.le_of_ble_eq_true rfl) ?_
  intro x hG hl hC hr hQ _ _
  subst hG
  subst hl
  unfold f_X5_barOf at h
  refine Z_aload_n hC (dk d_X5_barOf 0 rfl) 1 rfl rfl rfl ?_
  refine G_X5_39 hC m_5 (dk d_X5_barOf 1 rfl) 4 rfl ?_
  refine Z_iload_n hC (dk d_X5_barOf 2 rfl) 5 rfl rfl rfl ?_
  obtain ⟨g1, h⟩ := gd_some h
  refine Z_iaload hC m_37 (by decide) rfl g1 (dk d_X5_barOf 3 rfl) 6 rfl ?_
  refine Z_aload_n hC (dk d_X5_barOf 4 rfl) 7 rfl rfl rfl ?_
  refine G_X5_39 hC m_5 (dk d_X5_barOf 5 rfl) 10 rfl ?_
  refine Z_iload_n hC (dk d_X5_barOf 6 rfl) 11 rfl rfl rfl ?_
  obtain ⟨g2, h⟩ := gd_some h
  refine Z_iaload hC m_37 (by decide) rfl g2 (dk d_X5_barOf 7 rfl) 12 rfl ?_
  refine Z_icmp_ne hC (dk d_X5_barOf 8 rfl) 15 19 rfl (by decide) (fun c => ?_) (fun c => ?_)
  · have h := it_f h c
    refine Z_iconst (v := 0) hC (dk d_X5_barOf 11 rfl) 20 rfl (by decide) ?_
    refine Z_wk [true, true, true, false] [some (vr 5 0), some (vi a1), some (vi a2), none] rfl ?_
    exact z_X5_barOf_J20 hC hr N a1 a2 (0 : Int32) w _ h hQ
  · have h := it_t h c
    refine Z_iconst (v := 1) hC (dk d_X5_barOf 9 rfl) 16 rfl (by decide) ?_
    refine Z_goto hC (dk d_X5_barOf 10 rfl) 20 (by decide) ?_
    refine Z_wk [true, true, true, false] [some (vr 5 0), some (vi a1), some (vi a2), none] rfl ?_
    exact z_X5_barOf_J20 hC hr N a1 a2 (1 : Int32) w _ h hQ
def t_X5_mayOf : List (Nat × Instr × Nat) := [(0, .iconst 0, 1), (1, .istore_n 2, 1), (2, .iconst 0, 1), (3, .istore_n 3, 1), (4, .iload_n 3, 1), (5, .aload_n 0, 1), (6, .getfield 125, 3), (9, .if_icmp .ge 28, 3), (12, .iload_n 2, 1), (13, .aload_n 0, 1), (14, .iload_n 1, 1), (15, .iload_n 3, 1), (16, .invokevirtual 150, 3), (19, .ifCond .ne 9, 3), (22, .iconst 1, 1), (23, .iload_n 3, 1), (24, .ishl, 1), (25, .goto 4, 3), (28, .iconst 0, 1), (29, .ior, 1), (30, .istore_n 2, 1), (31, .iinc 3 1, 3), (34, .goto (-30), 3), (37, .iload_n 2, 1), (38, .ireturn, 1)]
set_option maxRecDepth 20000 in
theorem d_X5_mayOf : ∀ q ∈ t_X5_mayOf, decode cX5_mayOf q.1 = .ok q.2 := by decide +kernel
noncomputable def X5_mayOf_L1 (N : Nat) (x1 : Int32) : Nat → Int32 → Int32 → Wd → Option (Int32 × Wd)
  | 0, _, _, _ => none
  | n + 1, x2, x3, w =>
  if (gI w 510 0) ≤ x3 then
    some (x2, w)
  else
    (f_X5_barOf N x1 x3 w).bind (fun q1 =>
      if q1.1 = 0 then
        X5_mayOf_L1 N x1 n (x2 ||| ((1 : Int32) <<< (x3 &&& (31 : Int32)))) (x3 + (1 : Int32)) q1.2
      else
        X5_mayOf_L1 N x1 n (x2 ||| (0 : Int32)) (x3 + (1 : Int32)) q1.2)
set_option maxRecDepth 20000 in
set_option maxHeartbeats 4000000 in
theorem z_X5_mayOf_L1 {x : CX} (hC : Cx x RX5 cX5_mayOf 4 2) (hr : (xM x).sig.returnType = (some .int)) (N : Nat) (x1 : Int32) : ∀ (n : Nat) (x2 : Int32) (x3 : Int32) (w : Wd) (q : (Int32 × Wd)), X5_mayOf_L1 N x1 n x2 x3 w = some q → Z x 37 [none, none, some (vi q.1), none] [] q.2 → Z x 4 [some (vr 5 0), some (vi x1), some (vi x2), some (vi x3)] [] w := by
  intro n
  induction n with
  | zero =>
    intro x2 x3 w q h
    cases h
  | succ n ih =>
    intro x2 x3 w q h ke
    rw [X5_mayOf_L1] at h
    refine Z_iload_n hC (dk d_X5_mayOf 4 rfl) 5 rfl rfl rfl ?_
    refine Z_aload_n hC (dk d_X5_mayOf 5 rfl) 6 rfl rfl rfl ?_
    refine G_X5_125 hC m_5 (dk d_X5_mayOf 6 rfl) 9 rfl ?_
    refine Z_icmp_ge hC (dk d_X5_mayOf 7 rfl) 12 37 rfl (by decide) (fun c => ?_) (fun c => ?_)
    · have h := it_t h c
      obtain rfl := Option.some.inj h
      refine Z_wk [false, false, true, false] [none, none, some (vi x2), none] rfl ?_
      exact ke
    · have h := it_f h c
      refine Z_iload_n hC (dk d_X5_mayOf 8 rfl) 13 rfl rfl rfl ?_
      refine Z_aload_n hC (dk d_X5_mayOf 9 rfl) 14 rfl rfl rfl ?_
      refine Z_iload_n hC (dk d_X5_mayOf 10 rfl) 15 rfl rfl rfl ?_
      refine Z_iload_n hC (dk d_X5_mayOf 11 rfl) 16 rfl rfl rfl ?_
      obtain ⟨q1, hq1, h⟩ := bd_some h
      refine K_X5_150 [vi x1, vi x3] hC m_5 (s_X5_barOf (xG x) (xl x) N x1 x3 w q1 hq1) (Nat.le_of_ble_eq_true rfl) rfl rfl rfl (Nat.le_of_ble_eq_true rfl) (dk d_X5_mayOf 12 rfl) 19 rfl ?_
      refine Z_if_ne hC (dk d_X5_mayOf 13 rfl) 22 28 rfl (by decide) (fun c => ?_) (fun c => ?_)
      · have h := it_f h c
        refine Z_iconst (v := 0) hC (dk d_X5_mayOf 18 rfl) 29 rfl (by decide) ?_
        refine Z_ior hC (dk d_X5_mayOf 19 rfl) 30 rfl ?_
        refine Z_istore_n hC (dk d_X5_mayOf 20 rfl) 31 rfl rfl (Nat.le_of_ble_eq_true rfl) [some (vr 5 0), some (vi x1), some (vi (x2 ||| (0 : Int32))), some (vi x3)] rfl ?_
        refine Z_iinc hC (dk d_X5_mayOf 21 rfl) 34 rfl rfl rfl [some (vr 5 0), some (vi x1), some (vi (x2 ||| (0 : Int32))), some (vi (x3 + (1 : Int32)))] rfl ?_
        refine Z_goto hC (dk d_X5_mayOf 22 rfl) 4 (by decide) ?_
        refine Z_wk [true, true, true, true] [some (vr 5 0), some (vi x1), some (vi (x2 ||| (0 : Int32))), some (vi (x3 + (1 : Int32)))] rfl ?_
        exact ih (x2 ||| (0 : Int32)) (x3 + (1 : Int32)) q1.2 _ h ke
      · have h := it_t h c
        refine Z_iconst (v := 1) hC (dk d_X5_mayOf 14 rfl) 23 rfl (by decide) ?_
        refine Z_iload_n hC (dk d_X5_mayOf 15 rfl) 24 rfl rfl rfl ?_
        refine Z_ishl hC (dk d_X5_mayOf 16 rfl) 25 rfl ?_
        refine Z_goto hC (dk d_X5_mayOf 17 rfl) 29 (by decide) ?_
        refine Z_ior hC (dk d_X5_mayOf 19 rfl) 30 rfl ?_
        refine Z_istore_n hC (dk d_X5_mayOf 20 rfl) 31 rfl rfl (Nat.le_of_ble_eq_true rfl) [some (vr 5 0), some (vi x1), some (vi (x2 ||| ((1 : Int32) <<< (x3 &&& (31 : Int32))))), some (vi x3)] rfl ?_
        refine Z_iinc hC (dk d_X5_mayOf 21 rfl) 34 rfl rfl rfl [some (vr 5 0), some (vi x1), some (vi (x2 ||| ((1 : Int32) <<< (x3 &&& (31 : Int32))))), some (vi (x3 + (1 : Int32)))] rfl ?_
        refine Z_goto hC (dk d_X5_mayOf 22 rfl) 4 (by decide) ?_
        refine Z_wk [true, true, true, true] [some (vr 5 0), some (vi x1), some (vi (x2 ||| ((1 : Int32) <<< (x3 &&& (31 : Int32))))), some (vi (x3 + (1 : Int32)))] rfl ?_
        exact ih (x2 ||| ((1 : Int32) <<< (x3 &&& (31 : Int32)))) (x3 + (1 : Int32)) q1.2 _ h ke
noncomputable def f_X5_mayOf (N : Nat) (a1 : Int32) (w : Wd) : Option (Int32 × Wd) :=
  (X5_mayOf_L1 N a1 N (0 : Int32) (0 : Int32) w).bind (fun q2 =>
    some (q2.1, q2.2))
set_option maxRecDepth 20000 in
set_option maxHeartbeats 4000000 in
theorem s_X5_mayOf (G : GT) (l : Launch) (N : Nat) (a1 : Int32) (w : Wd) (q : Int32 × Wd) (h : f_X5_mayOf N a1 w = some q) : Sp G l yX5_mayOf cw_X5_mayOf 2 [vr 5 0, vi a1] w (some (vi q.1)) q.2 := by
  refine Sp_of (own := RX5) [some (vr 5 0), some (vi a1), none, none] (by decide) rfl rfl (Nat.le_of_ble_eq_true rfl) ?_
  intro x hG hl hC hr hQ _ _
  subst hG
  subst hl
  unfold f_X5_mayOf at h
  refine Z_iconst (v := 0) hC (dk d_X5_mayOf 0 rfl) 1 rfl (by decide) ?_
  refine Z_istore_n hC (dk d_X5_mayOf 1 rfl) 2 rfl rfl (Nat.le_of_ble_eq_true rfl) [some (vr 5 0), some (vi a1), some (vi (0 : Int32)), none] rfl ?_
  refine Z_iconst (v := 0) hC (dk d_X5_mayOf 2 rfl) 3 rfl (by decide) ?_
  refine Z_istore_n hC (dk d_X5_mayOf 3 rfl) 4 rfl rfl (Nat.le_of_ble_eq_true rfl) [some (vr 5 0), some (vi a1), some (vi (0 : Int32)), some (vi (0 : Int32))] rfl ?_
  obtain ⟨q2, hq2, h⟩ := bd_some h
  refine Z_wk [true, true, true, true] [some (vr 5 0), some (vi a1), some (vi (0 : Int32)), some (vi (0 : Int32))] rfl ?_
  refine z_X5_mayOf_L1 hC hr N a1 N (0 : Int32) (0 : Int32) w q2 hq2 ?_
  refine Z_iload_n hC (dk d_X5_mayOf 23 rfl) 38 rfl rfl rfl ?_
  obtain rfl := Option.some.inj h
  exact Z_ireturn (st := []) hC hr hQ (dk d_X5_mayOf 24 rfl)
def t_X5_mark : List (Nat × Instr × Nat) := [(0, .aload_n 0, 1), (1, .iload_n 1, 1), (2, .invokevirtual 137, 3), (5, .ifCond .eq 12, 3), (8, .iload_n 2, 1), (9, .iconst 1, 1), (10, .iconst 5, 1), (11, .invokestatic 72, 3), (14, .ifCond .ne 5, 3), (17, .iconst (-1), 1), (18, .ireturn, 1), (19, .aload_n 0, 1), (20, .iload_n 1, 1), (21, .iload_n 2, 1), (22, .invokevirtual 143, 3), (25, .ifCond .ne 9, 3), (28, .aload_n 0, 1), (29, .iconst 3, 1), (30, .invokevirtual 80, 3), (33, .ireturn, 1), (34, .iconst 0, 1), (35, .istore_n 3, 1), (36, .iconst 0, 1), (37, .istore 4, 2), (39, .iload 4, 2), (41, .aload_n 0, 1), (42, .getfield 125, 3), (45, .if_icmp .ge 92, 3), (48, .iload 4, 2), (50, .iload_n 1, 1), (51, .if_icmp .eq 7, 3), (54, .iconst 1, 1), (55, .goto 4, 3), (58, .iconst 0, 1), (59, .istore 5, 2), (61, .iload_n 3, 1), (62, .iload 5, 2), (64, .ifCond .eq 64, 3), (67, .iload_n 2, 1), (68, .iconst 1, 1), (69, .if_icmp .ne 19, 3), (72, .aload_n 0, 1), (73, .getfield 39, 3), (76, .iload 4, 2), (78, .iaload, 1), (79, .aload_n 0, 1), (80, .getfield 39, 3), (83, .iload_n 1, 1), (84, .iaload, 1), (85, .if_icmp .eq 39, 3), (88, .iload_n 2, 1), (89, .iconst 3, 1), (90, .if_icmp .ne 19, 3), (93, .aload_n 0, 1), (94, .getfield 42, 3), (97, .iload 4, 2), (99, .iaload, 1), (100, .aload_n 0, 1), (101, .getfield 42, 3), (104, .iload_n 1, 1), (105, .iaload, 1), (106, .if_icmp .gt 18, 3), (109, .iload_n 2, 1), (110, .iconst 5, 1), (111, .if_icmp .ne 17, 3), (114, .aload_n 0, 1), (115, .iload 4, 2), (117, .iload_n 1, 1), (118, .invokevirtual 150, 3), (121, .ifCond .eq 7, 3), (124, .iconst 1, 1), (125, .goto 4, 3), (128, .iconst 0, 1), (129, .iadd, 1), (130, .istore_n 3, 1), (131, .iinc 4 1, 3), (134, .goto (-95), 3), (137, .iconst 0, 1), (138, .istore 4, 2), (140, .iload 4, 2), (142, .aload_n 0, 1), (143, .getfield 131, 3), (146, .if_icmp .ge 49, 3), (149, .iload_n 3, 1), (150, .iload_n 2, 1), (151, .iconst 2, 1), (152, .if_icmp .ne 34, 3), (155, .aload_n 0, 1), (156, .getfield 45, 3), (159, .bipush 6, 2), (161, .iload 4, 2), (163, .imul, 1), (164, .aload_n 0, 1), (165, .getfield 45, 3), (168, .bipush 6, 2), (170, .iload 4, 2), (172, .imul, 1), (173, .iload_n 1, 1), (174, .iadd, 1), (175, .iaload, 1), (176, .iadd, 1), (177, .iaload, 1), (178, .iload_n 1, 1), (179, .if_icmp .ne 7, 3), (182, .iconst 1, 1), (183, .goto 4, 3), (186, .iconst 0, 1), (187, .iadd, 1), (188, .istore_n 3, 1), (189, .iinc 4 1, 3), (192, .goto (-52), 3), (195, .iload_n 2, 1), (196, .iconst 4, 1), (197, .if_icmp .ne 14, 3), (200, .aload_n 0, 1), (201, .iload_n 1, 1), (202, .invokevirtual 153, 3), (205, .invokestatic 156, 3), (208, .goto 4, 3), (211, .iload_n 3, 1), (212, .ireturn, 1)]
set_option maxRecDepth 20000 in
theorem d_X5_mark : ∀ q ∈ t_X5_mark, decode cX5_mark q.1 = .ok q.2 := by decide +kernel
noncomputable def X5_mark_J109 (N : Nat) (go : Int32 → Int32 → Wd → Option (Int32 × Wd)) (x1 : Int32) (x2 : Int32) (x4 : Int32) (s0 : Int32) (w : Wd) : Option (Int32 × Wd) :=
  if x2 = (5 : Int32) then
    (f_X5_barOf N x4 x1 w).bind (fun q4 =>
      if q4.1 = 0 then
        go (s0 + (0 : Int32)) (x4 + (1 : Int32)) q4.2
      else
        go (s0 + (1 : Int32)) (x4 + (1 : Int32)) q4.2)
  else
    go (s0 + (0 : Int32)) (x4 + (1 : Int32)) w
set_option maxRecDepth 20000 in
set_option maxHeartbeats 4000000 in
theorem z_X5_mark_J109 {x : CX} (hC : Cx x RX5 cX5_mark 6 3) (hr : (xM x).sig.returnType = (some .int)) (N : Nat) (x1 : Int32) (x2 : Int32) (x4 : Int32) (s0 : Int32) {go : Int32 → Int32 → Wd → Option (Int32 × Wd)} (hgo : ∀ (x3 : Int32) (x4 : Int32) (w : Wd) (q : (Int32 × Wd)), go x3 x4 w = some q → Z x 137 [some (vr 5 0), some (vi x1), some (vi x2), some (vi q.1), none, none] [] q.2 → Z x 39 [some (vr 5 0), some (vi x1), some (vi x2), some (vi x3), some (vi x4), none] [] w) (w : Wd) (q : (Int32 × Wd)) (h : X5_mark_J109 N go x1 x2 x4 s0 w = some q) (ke : Z x 137 [some (vr 5 0), some (vi x1), some (vi x2), some (vi q.1), none, none] [] q.2) : Z x 109 [some (vr 5 0), some (vi x1), some (vi x2), none, some (vi x4), none] [vi s0] w := by
  unfold X5_mark_J109 at h
  refine Z_iload_n hC (dk d_X5_mark 62 rfl) 110 rfl rfl rfl ?_
  refine Z_iconst (v := 5) hC (dk d_X5_mark 63 rfl) 111 rfl (by decide) ?_
  refine Z_icmp_ne hC (dk d_X5_mark 64 rfl) 114 128 rfl (by decide) (fun c => ?_) (fun c => ?_)
  · have h := it_f h c
    refine Z_iconst (v := 0) hC (dk d_X5_mark 72 rfl) 129 rfl (by decide) ?_
    refine Z_iadd hC (dk d_X5_mark 73 rfl) 130 rfl ?_
    refine Z_istore_n hC (dk d_X5_mark 74 rfl) 131 rfl rfl (Nat.le_of_ble_eq_true rfl) [some (vr 5 0), some (vi x1), some (vi x2), some (vi (s0 + (0 : Int32))), some (vi x4), none] rfl ?_
    refine Z_iinc hC (dk d_X5_mark 75 rfl) 134 rfl rfl rfl [some (vr 5 0), some (vi x1), some (vi x2), some (vi (s0 + (0 : Int32))), some (vi (x4 + (1 : Int32))), none] rfl ?_
    refine Z_goto hC (dk d_X5_mark 76 rfl) 39 (by decide) ?_
    refine Z_wk [true, true, true, true, true, false] [some (vr 5 0), some (vi x1), some (vi x2), some (vi (s0 + (0 : Int32))), some (vi (x4 + (1 : Int32))), none] rfl ?_
    exact hgo (s0 + (0 : Int32)) (x4 + (1 : Int32)) w _ h ke
  · have h := it_t h c
    refine Z_aload_n hC (dk d_X5_mark 65 rfl) 115 rfl rfl rfl ?_
    refine Z_iload hC (dk d_X5_mark 66 rfl) 117 rfl rfl ?_
    refine Z_iload_n hC (dk d_X5_mark 67 rfl) 118 rfl rfl rfl ?_
    obtain ⟨q4, hq4, h⟩ := bd_some h
    refine K_X5_150 [vi x4, vi x1] hC m_5 (s_X5_barOf (xG x) (xl x) N x4 x1 w q4 hq4) (Nat.le_of_ble_eq_true rfl) rfl rfl rfl (Nat.le_of_ble_eq_true rfl) (dk d_X5_mark 68 rfl) 121 rfl ?_
    refine Z_if_eq hC (dk d_X5_mark 69 rfl) 124 128 rfl (by decide) (fun c => ?_) (fun c => ?_)
    · have h := it_t h c
      refine Z_iconst (v := 0) hC (dk d_X5_mark 72 rfl) 129 rfl (by decide) ?_
      refine Z_iadd hC (dk d_X5_mark 73 rfl) 130 rfl ?_
      refine Z_istore_n hC (dk d_X5_mark 74 rfl) 131 rfl rfl (Nat.le_of_ble_eq_true rfl) [some (vr 5 0), some (vi x1), some (vi x2), some (vi (s0 + (0 : Int32))), some (vi x4), none] rfl ?_
      refine Z_iinc hC (dk d_X5_mark 75 rfl) 134 rfl rfl rfl [some (vr 5 0), some (vi x1), some (vi x2), some (vi (s0 + (0 : Int32))), some (vi (x4 + (1 : Int32))), none] rfl ?_
      refine Z_goto hC (dk d_X5_mark 76 rfl) 39 (by decide) ?_
      refine Z_wk [true, true, true, true, true, false] [some (vr 5 0), some (vi x1), some (vi x2), some (vi (s0 + (0 : Int32))), some (vi (x4 + (1 : Int32))), none] rfl ?_
      exact hgo (s0 + (0 : Int32)) (x4 + (1 : Int32)) q4.2 _ h ke
    · have h := it_f h c
      refine Z_iconst (v := 1) hC (dk d_X5_mark 70 rfl) 125 rfl (by decide) ?_
      refine Z_goto hC (dk d_X5_mark 71 rfl) 129 (by decide) ?_
      refine Z_iadd hC (dk d_X5_mark 73 rfl) 130 rfl ?_
      refine Z_istore_n hC (dk d_X5_mark 74 rfl) 131 rfl rfl (Nat.le_of_ble_eq_true rfl) [some (vr 5 0), some (vi x1), some (vi x2), some (vi (s0 + (1 : Int32))), some (vi x4), none] rfl ?_
      refine Z_iinc hC (dk d_X5_mark 75 rfl) 134 rfl rfl rfl [some (vr 5 0), some (vi x1), some (vi x2), some (vi (s0 + (1 : Int32))), some (vi (x4 + (1 : Int32))), none] rfl ?_
      refine Z_goto hC (dk d_X5_mark 76 rfl) 39 (by decide) ?_
      refine Z_wk [true, true, true, true, true, false] [some (vr 5 0), some (vi x1), some (vi x2), some (vi (s0 + (1 : Int32))), some (vi (x4 + (1 : Int32))), none] rfl ?_
      exact hgo (s0 + (1 : Int32)) (x4 + (1 : Int32)) q4.2 _ h ke
noncomputable def X5_mark_J88 (N : Nat) (go : Int32 → Int32 → Wd → Option (Int32 × Wd)) (x1 : Int32) (x2 : Int32) (x4 : Int32) (s0 : Int32) (w : Wd) : Option (Int32 × Wd) :=
  if x2 = (3 : Int32) then
    gd (vp_in x4 12) (
    gd (vp_in x1 12) (
    if (gA w 38 0 x1.toNatClampNeg) < (gA w 38 0 x4.toNatClampNeg) then
      go (s0 + (1 : Int32)) (x4 + (1 : Int32)) w
    else
      X5_mark_J109 N go x1 x2 x4 s0 w))
  else
    X5_mark_J109 N go x1 x2 x4 s0 w
set_option maxRecDepth 20000 in
set_option maxHeartbeats 4000000 in
theorem z_X5_mark_J88 {x : CX} (hC : Cx x RX5 cX5_mark 6 3) (hr : (xM x).sig.returnType = (some .int)) (N : Nat) (x1 : Int32) (x2 : Int32) (x4 : Int32) (s0 : Int32) {go : Int32 → Int32 → Wd → Option (Int32 × Wd)} (hgo : ∀ (x3 : Int32) (x4 : Int32) (w : Wd) (q : (Int32 × Wd)), go x3 x4 w = some q → Z x 137 [some (vr 5 0), some (vi x1), some (vi x2), some (vi q.1), none, none] [] q.2 → Z x 39 [some (vr 5 0), some (vi x1), some (vi x2), some (vi x3), some (vi x4), none] [] w) (w : Wd) (q : (Int32 × Wd)) (h : X5_mark_J88 N go x1 x2 x4 s0 w = some q) (ke : Z x 137 [some (vr 5 0), some (vi x1), some (vi x2), some (vi q.1), none, none] [] q.2) : Z x 88 [some (vr 5 0), some (vi x1), some (vi x2), none, some (vi x4), none] [vi s0] w := by
  unfold X5_mark_J88 at h
  refine Z_iload_n hC (dk d_X5_mark 50 rfl) 89 rfl rfl rfl ?_
  refine Z_iconst (v := 3) hC (dk d_X5_mark 51 rfl) 90 rfl (by decide) ?_
  refine Z_icmp_ne hC (dk d_X5_mark 52 rfl) 93 109 rfl (by decide) (fun c => ?_) (fun c => ?_)
  · have h := it_f h c
    refine Z_wk [true, true, true, false, true, false] [some (vr 5 0), some (vi x1), some (vi x2), none, some (vi x4), none] rfl ?_
    exact z_X5_mark_J109 hC hr N x1 x2 x4 s0 hgo w _ h ke
  · have h := it_t h c
    refine Z_aload_n hC (dk d_X5_mark 53 rfl) 94 rfl rfl rfl ?_
    refine G_X5_42 hC m_5 (dk d_X5_mark 54 rfl) 97 rfl ?_
    refine Z_iload hC (dk d_X5_mark 55 rfl) 99 rfl rfl ?_
    obtain ⟨g5, h⟩ := gd_some h
    refine Z_iaload hC m_38 (by decide) rfl g5 (dk d_X5_mark 56 rfl) 100 rfl ?_
    refine Z_aload_n hC (dk d_X5_mark 57 rfl) 101 rfl rfl rfl ?_
    refine G_X5_42 hC m_5 (dk d_X5_mark 58 rfl) 104 rfl ?_
    refine Z_iload_n hC (dk d_X5_mark 59 rfl) 105 rfl rfl rfl ?_
    obtain ⟨g6, h⟩ := gd_some h
    refine Z_iaload hC m_38 (by decide) rfl g6 (dk d_X5_mark 60 rfl) 106 rfl ?_
    refine Z_icmp_gt hC (dk d_X5_mark 61 rfl) 109 124 rfl (by decide) (fun c => ?_) (fun c => ?_)
    · have h := it_t h c
      refine Z_iconst (v := 1) hC (dk d_X5_mark 70 rfl) 125 rfl (by decide) ?_
      refine Z_goto hC (dk d_X5_mark 71 rfl) 129 (by decide) ?_
      refine Z_iadd hC (dk d_X5_mark 73 rfl) 130 rfl ?_
      refine Z_istore_n hC (dk d_X5_mark 74 rfl) 131 rfl rfl (Nat.le_of_ble_eq_true rfl) [some (vr 5 0), some (vi x1), some (vi x2), some (vi (s0 + (1 : Int32))), some (vi x4), none] rfl ?_
      refine Z_iinc hC (dk d_X5_mark 75 rfl) 134 rfl rfl rfl [some (vr 5 0), some (vi x1), some (vi x2), some (vi (s0 + (1 : Int32))), some (vi (x4 + (1 : Int32))), none] rfl ?_
      refine Z_goto hC (dk d_X5_mark 76 rfl) 39 (by decide) ?_
      refine Z_wk [true, true, true, true, true, false] [some (vr 5 0), some (vi x1), some (vi x2), some (vi (s0 + (1 : Int32))), some (vi (x4 + (1 : Int32))), none] rfl ?_
      exact hgo (s0 + (1 : Int32)) (x4 + (1 : Int32)) w _ h ke
    · have h := it_f h c
      refine Z_wk [true, true, true, false, true, false] [some (vr 5 0), some (vi x1), some (vi x2), none, some (vi x4), none] rfl ?_
      exact z_X5_mark_J109 hC hr N x1 x2 x4 s0 hgo w _ h ke
noncomputable def X5_mark_J59 (N : Nat) (go : Int32 → Int32 → Wd → Option (Int32 × Wd)) (x1 : Int32) (x2 : Int32) (x3 : Int32) (x4 : Int32) (s0 : Int32) (w : Wd) : Option (Int32 × Wd) :=
  if s0 = 0 then
    go (x3 + (0 : Int32)) (x4 + (1 : Int32)) w
  else
    if x2 = (1 : Int32) then
      gd (vp_in x4 12) (
      gd (vp_in x1 12) (
      if (gA w 37 0 x4.toNatClampNeg) = (gA w 37 0 x1.toNatClampNeg) then
        go (x3 + (1 : Int32)) (x4 + (1 : Int32)) w
      else
        X5_mark_J88 N go x1 x2 x4 x3 w))
    else
      X5_mark_J88 N go x1 x2 x4 x3 w
set_option maxRecDepth 20000 in
set_option maxHeartbeats 4000000 in
theorem z_X5_mark_J59 {x : CX} (hC : Cx x RX5 cX5_mark 6 3) (hr : (xM x).sig.returnType = (some .int)) (N : Nat) (x1 : Int32) (x2 : Int32) (x3 : Int32) (x4 : Int32) (s0 : Int32) {go : Int32 → Int32 → Wd → Option (Int32 × Wd)} (hgo : ∀ (x3 : Int32) (x4 : Int32) (w : Wd) (q : (Int32 × Wd)), go x3 x4 w = some q → Z x 137 [some (vr 5 0), some (vi x1), some (vi x2), some (vi q.1), none, none] [] q.2 → Z x 39 [some (vr 5 0), some (vi x1), some (vi x2), some (vi x3), some (vi x4), none] [] w) (w : Wd) (q : (Int32 × Wd)) (h : X5_mark_J59 N go x1 x2 x3 x4 s0 w = some q) (ke : Z x 137 [some (vr 5 0), some (vi x1), some (vi x2), some (vi q.1), none, none] [] q.2) : Z x 59 [some (vr 5 0), some (vi x1), some (vi x2), some (vi x3), some (vi x4), none] [vi s0] w := by
  unfold X5_mark_J59 at h
  refine Z_istore hC (dk d_X5_mark 34 rfl) 61 rfl (Nat.le_of_ble_eq_true rfl) [some (vr 5 0), some (vi x1), some (vi x2), some (vi x3), some (vi x4), some (vi s0)] rfl ?_
  refine Z_iload_n hC (dk d_X5_mark 35 rfl) 62 rfl rfl rfl ?_
  refine Z_iload hC (dk d_X5_mark 36 rfl) 64 rfl rfl ?_
  refine Z_if_eq hC (dk d_X5_mark 37 rfl) 67 128 rfl (by decide) (fun c => ?_) (fun c => ?_)
  · have h := it_t h c
    refine Z_iconst (v := 0) hC (dk d_X5_mark 72 rfl) 129 rfl (by decide) ?_
    refine Z_iadd hC (dk d_X5_mark 73 rfl) 130 rfl ?_
    refine Z_istore_n hC (dk d_X5_mark 74 rfl) 131 rfl rfl (Nat.le_of_ble_eq_true rfl) [some (vr 5 0), some (vi x1), some (vi x2), some (vi (x3 + (0 : Int32))), some (vi x4), some (vi s0)] rfl ?_
    refine Z_iinc hC (dk d_X5_mark 75 rfl) 134 rfl rfl rfl [some (vr 5 0), some (vi x1), some (vi x2), some (vi (x3 + (0 : Int32))), some (vi (x4 + (1 : Int32))), some (vi s0)] rfl ?_
    refine Z_goto hC (dk d_X5_mark 76 rfl) 39 (by decide) ?_
    refine Z_wk [true, true, true, true, true, false] [some (vr 5 0), some (vi x1), some (vi x2), some (vi (x3 + (0 : Int32))), some (vi (x4 + (1 : Int32))), none] rfl ?_
    exact hgo (x3 + (0 : Int32)) (x4 + (1 : Int32)) w _ h ke
  · have h := it_f h c
    refine Z_iload_n hC (dk d_X5_mark 38 rfl) 68 rfl rfl rfl ?_
    refine Z_iconst (v := 1) hC (dk d_X5_mark 39 rfl) 69 rfl (by decide) ?_
    refine Z_icmp_ne hC (dk d_X5_mark 40 rfl) 72 88 rfl (by decide) (fun c => ?_) (fun c => ?_)
    · have h := it_f h c
      refine Z_wk [true, true, true, false, true, false] [some (vr 5 0), some (vi x1), some (vi x2), none, some (vi x4), none] rfl ?_
      exact z_X5_mark_J88 hC hr N x1 x2 x4 x3 hgo w _ h ke
    · have h := it_t h c
      refine Z_aload_n hC (dk d_X5_mark 41 rfl) 73 rfl rfl rfl ?_
      refine G_X5_39 hC m_5 (dk d_X5_mark 42 rfl) 76 rfl ?_
      refine Z_iload hC (dk d_X5_mark 43 rfl) 78 rfl rfl ?_
      obtain ⟨g7, h⟩ := gd_some h
      refine Z_iaload hC m_37 (by decide) rfl g7 (dk d_X5_mark 44 rfl) 79 rfl ?_
      refine Z_aload_n hC (dk d_X5_mark 45 rfl) 80 rfl rfl rfl ?_
      refine G_X5_39 hC m_5 (dk d_X5_mark 46 rfl) 83 rfl ?_
      refine Z_iload_n hC (dk d_X5_mark 47 rfl) 84 rfl rfl rfl ?_
      obtain ⟨g8, h⟩ := gd_some h
      refine Z_iaload hC m_37 (by decide) rfl g8 (dk d_X5_mark 48 rfl) 85 rfl ?_
      refine Z_icmp_eq hC (dk d_X5_mark 49 rfl) 88 124 rfl (by decide) (fun c => ?_) (fun c => ?_)
      · have h := it_t h c
        refine Z_iconst (v := 1) hC (dk d_X5_mark 70 rfl) 125 rfl (by decide) ?_
        refine Z_goto hC (dk d_X5_mark 71 rfl) 129 (by decide) ?_
        refine Z_iadd hC (dk d_X5_mark 73 rfl) 130 rfl ?_
        refine Z_istore_n hC (dk d_X5_mark 74 rfl) 131 rfl rfl (Nat.le_of_ble_eq_true rfl) [some (vr 5 0), some (vi x1), some (vi x2), some (vi (x3 + (1 : Int32))), some (vi x4), some (vi s0)] rfl ?_
        refine Z_iinc hC (dk d_X5_mark 75 rfl) 134 rfl rfl rfl [some (vr 5 0), some (vi x1), some (vi x2), some (vi (x3 + (1 : Int32))), some (vi (x4 + (1 : Int32))), some (vi s0)] rfl ?_
        refine Z_goto hC (dk d_X5_mark 76 rfl) 39 (by decide) ?_
        refine Z_wk [true, true, true, true, true, false] [some (vr 5 0), some (vi x1), some (vi x2), some (vi (x3 + (1 : Int32))), some (vi (x4 + (1 : Int32))), none] rfl ?_
        exact hgo (x3 + (1 : Int32)) (x4 + (1 : Int32)) w _ h ke
      · have h := it_f h c
        refine Z_wk [true, true, true, false, true, false] [some (vr 5 0), some (vi x1), some (vi x2), none, some (vi x4), none] rfl ?_
        exact z_X5_mark_J88 hC hr N x1 x2 x4 x3 hgo w _ h ke
noncomputable def X5_mark_L1 (N : Nat) (x1 : Int32) (x2 : Int32) : Nat → Int32 → Int32 → Wd → Option (Int32 × Wd)
  | 0, _, _, _ => none
  | n + 1, x3, x4, w =>
  if (gI w 510 0) ≤ x4 then
    some (x3, w)
  else
    if x4 = x1 then
      X5_mark_J59 N (X5_mark_L1 N x1 x2 n) x1 x2 x3 x4 (0 : Int32) w
    else
      X5_mark_J59 N (X5_mark_L1 N x1 x2 n) x1 x2 x3 x4 (1 : Int32) w
set_option maxRecDepth 20000 in
set_option maxHeartbeats 4000000 in
theorem z_X5_mark_L1 {x : CX} (hC : Cx x RX5 cX5_mark 6 3) (hr : (xM x).sig.returnType = (some .int)) (N : Nat) (x1 : Int32) (x2 : Int32) : ∀ (n : Nat) (x3 : Int32) (x4 : Int32) (w : Wd) (q : (Int32 × Wd)), X5_mark_L1 N x1 x2 n x3 x4 w = some q → Z x 137 [some (vr 5 0), some (vi x1), some (vi x2), some (vi q.1), none, none] [] q.2 → Z x 39 [some (vr 5 0), some (vi x1), some (vi x2), some (vi x3), some (vi x4), none] [] w := by
  intro n
  induction n with
  | zero =>
    intro x3 x4 w q h
    cases h
  | succ n ih =>
    intro x3 x4 w q h ke
    rw [X5_mark_L1] at h
    refine Z_iload hC (dk d_X5_mark 24 rfl) 41 rfl rfl ?_
    refine Z_aload_n hC (dk d_X5_mark 25 rfl) 42 rfl rfl rfl ?_
    refine G_X5_125 hC m_5 (dk d_X5_mark 26 rfl) 45 rfl ?_
    refine Z_icmp_ge hC (dk d_X5_mark 27 rfl) 48 137 rfl (by decide) (fun c => ?_) (fun c => ?_)
    · have h := it_t h c
      obtain rfl := Option.some.inj h
      refine Z_wk [true, true, true, true, false, false] [some (vr 5 0), some (vi x1), some (vi x2), some (vi x3), none, none] rfl ?_
      exact ke
    · have h := it_f h c
      refine Z_iload hC (dk d_X5_mark 28 rfl) 50 rfl rfl ?_
      refine Z_iload_n hC (dk d_X5_mark 29 rfl) 51 rfl rfl rfl ?_
      refine Z_icmp_eq hC (dk d_X5_mark 30 rfl) 54 58 rfl (by decide) (fun c => ?_) (fun c => ?_)
      · have h := it_t h c
        refine Z_iconst (v := 0) hC (dk d_X5_mark 33 rfl) 59 rfl (by decide) ?_
        refine Z_wk [true, true, true, true, true, false] [some (vr 5 0), some (vi x1), some (vi x2), some (vi x3), some (vi x4), none] rfl ?_
        exact z_X5_mark_J59 hC hr N x1 x2 x3 x4 (0 : Int32) ih w _ h ke
      · have h := it_f h c
        refine Z_iconst (v := 1) hC (dk d_X5_mark 31 rfl) 55 rfl (by decide) ?_
        refine Z_goto hC (dk d_X5_mark 32 rfl) 59 (by decide) ?_
        refine Z_wk [true, true, true, true, true, false] [some (vr 5 0), some (vi x1), some (vi x2), some (vi x3), some (vi x4), none] rfl ?_
        exact z_X5_mark_J59 hC hr N x1 x2 x3 x4 (1 : Int32) ih w _ h ke
noncomputable def X5_mark_L2 (N : Nat) (x1 : Int32) (x2 : Int32) : Nat → Int32 → Int32 → Wd → Option (Int32 × Wd)
  | 0, _, _, _ => none
  | n + 1, x3, x4, w =>
  if (gI w 518 0) ≤ x4 then
    some (x3, w)
  else
    if x2 = (2 : Int32) then
      gd (vp_in (((6 : Int32) * x4) + x1) 252) (
      gd (vp_in (((6 : Int32) * x4) + (gA w 39 0 (((6 : Int32) * x4) + x1).toNatClampNeg)) 252) (
      if (gA w 39 0 (((6 : Int32) * x4) + (gA w 39 0 (((6 : Int32) * x4) + x1).toNatClampNeg)).toNatClampNeg) = x1 then
        X5_mark_L2 N x1 x2 n (x3 + (1 : Int32)) (x4 + (1 : Int32)) w
      else
        X5_mark_L2 N x1 x2 n (x3 + (0 : Int32)) (x4 + (1 : Int32)) w))
    else
      X5_mark_L2 N x1 x2 n (x3 + (0 : Int32)) (x4 + (1 : Int32)) w
set_option maxRecDepth 20000 in
set_option maxHeartbeats 4000000 in
theorem z_X5_mark_L2 {x : CX} (hC : Cx x RX5 cX5_mark 6 3) (hr : (xM x).sig.returnType = (some .int)) (N : Nat) (x1 : Int32) (x2 : Int32) : ∀ (n : Nat) (x3 : Int32) (x4 : Int32) (w : Wd) (q : (Int32 × Wd)), X5_mark_L2 N x1 x2 n x3 x4 w = some q → Z x 195 [some (vr 5 0), some (vi x1), some (vi x2), some (vi q.1), none, none] [] q.2 → Z x 140 [some (vr 5 0), some (vi x1), some (vi x2), some (vi x3), some (vi x4), none] [] w := by
  intro n
  induction n with
  | zero =>
    intro x3 x4 w q h
    cases h
  | succ n ih =>
    intro x3 x4 w q h ke
    rw [X5_mark_L2] at h
    refine Z_iload hC (dk d_X5_mark 79 rfl) 142 rfl rfl ?_
    refine Z_aload_n hC (dk d_X5_mark 80 rfl) 143 rfl rfl rfl ?_
    refine G_X5_131 hC m_5 (dk d_X5_mark 81 rfl) 146 rfl ?_
    refine Z_icmp_ge hC (dk d_X5_mark 82 rfl) 149 195 rfl (by decide) (fun c => ?_) (fun c => ?_)
    · have h := it_t h c
      obtain rfl := Option.some.inj h
      refine Z_wk [true, true, true, true, false, false] [some (vr 5 0), some (vi x1), some (vi x2), some (vi x3), none, none] rfl ?_
      exact ke
    · have h := it_f h c
      refine Z_iload_n hC (dk d_X5_mark 83 rfl) 150 rfl rfl rfl ?_
      refine Z_iload_n hC (dk d_X5_mark 84 rfl) 151 rfl rfl rfl ?_
      refine Z_iconst (v := 2) hC (dk d_X5_mark 85 rfl) 152 rfl (by decide) ?_
      refine Z_icmp_ne hC (dk d_X5_mark 86 rfl) 155 186 rfl (by decide) (fun c => ?_) (fun c => ?_)
      · have h := it_f h c
        refine Z_iconst (v := 0) hC (dk d_X5_mark 106 rfl) 187 rfl (by decide) ?_
        refine Z_iadd hC (dk d_X5_mark 107 rfl) 188 rfl ?_
        refine Z_istore_n hC (dk d_X5_mark 108 rfl) 189 rfl rfl (Nat.le_of_ble_eq_true rfl) [some (vr 5 0), some (vi x1), some (vi x2), some (vi (x3 + (0 : Int32))), some (vi x4), none] rfl ?_
        refine Z_iinc hC (dk d_X5_mark 109 rfl) 192 rfl rfl rfl [some (vr 5 0), some (vi x1), some (vi x2), some (vi (x3 + (0 : Int32))), some (vi (x4 + (1 : Int32))), none] rfl ?_
        refine Z_goto hC (dk d_X5_mark 110 rfl) 140 (by decide) ?_
        refine Z_wk [true, true, true, true, true, false] [some (vr 5 0), some (vi x1), some (vi x2), some (vi (x3 + (0 : Int32))), some (vi (x4 + (1 : Int32))), none] rfl ?_
        exact ih (x3 + (0 : Int32)) (x4 + (1 : Int32)) w _ h ke
      · have h := it_t h c
        refine Z_aload_n hC (dk d_X5_mark 87 rfl) 156 rfl rfl rfl ?_
        refine G_X5_45 hC m_5 (dk d_X5_mark 88 rfl) 159 rfl ?_
        refine Z_bipush (v := 6) hC (dk d_X5_mark 89 rfl) 161 rfl (by decide) ?_
        refine Z_iload hC (dk d_X5_mark 90 rfl) 163 rfl rfl ?_
        refine Z_imul hC (dk d_X5_mark 91 rfl) 164 rfl ?_
        refine Z_aload_n hC (dk d_X5_mark 92 rfl) 165 rfl rfl rfl ?_
        refine G_X5_45 hC m_5 (dk d_X5_mark 93 rfl) 168 rfl ?_
        refine Z_bipush (v := 6) hC (dk d_X5_mark 94 rfl) 170 rfl (by decide) ?_
        refine Z_iload hC (dk d_X5_mark 95 rfl) 172 rfl rfl ?_
        refine Z_imul hC (dk d_X5_mark 96 rfl) 173 rfl ?_
        refine Z_iload_n hC (dk d_X5_mark 97 rfl) 174 rfl rfl rfl ?_
        refine Z_iadd hC (dk d_X5_mark 98 rfl) 175 rfl ?_
        obtain ⟨g10, h⟩ := gd_some h
        refine Z_iaload hC m_39 (by decide) rfl g10 (dk d_X5_mark 99 rfl) 176 rfl ?_
        refine Z_iadd hC (dk d_X5_mark 100 rfl) 177 rfl ?_
        obtain ⟨g11, h⟩ := gd_some h
        refine Z_iaload hC m_39 (by decide) rfl g11 (dk d_X5_mark 101 rfl) 178 rfl ?_
        refine Z_iload_n hC (dk d_X5_mark 102 rfl) 179 rfl rfl rfl ?_
        refine Z_icmp_ne hC (dk d_X5_mark 103 rfl) 182 186 rfl (by decide) (fun c => ?_) (fun c => ?_)
        · have h := it_f h c
          refine Z_iconst (v := 0) hC (dk d_X5_mark 106 rfl) 187 rfl (by decide) ?_
          refine Z_iadd hC (dk d_X5_mark 107 rfl) 188 rfl ?_
          refine Z_istore_n hC (dk d_X5_mark 108 rfl) 189 rfl rfl (Nat.le_of_ble_eq_true rfl) [some (vr 5 0), some (vi x1), some (vi x2), some (vi (x3 + (0 : Int32))), some (vi x4), none] rfl ?_
          refine Z_iinc hC (dk d_X5_mark 109 rfl) 192 rfl rfl rfl [some (vr 5 0), some (vi x1), some (vi x2), some (vi (x3 + (0 : Int32))), some (vi (x4 + (1 : Int32))), none] rfl ?_
          refine Z_goto hC (dk d_X5_mark 110 rfl) 140 (by decide) ?_
          refine Z_wk [true, true, true, true, true, false] [some (vr 5 0), some (vi x1), some (vi x2), some (vi (x3 + (0 : Int32))), some (vi (x4 + (1 : Int32))), none] rfl ?_
          exact ih (x3 + (0 : Int32)) (x4 + (1 : Int32)) w _ h ke
        · have h := it_t h c
          refine Z_iconst (v := 1) hC (dk d_X5_mark 104 rfl) 183 rfl (by decide) ?_
          refine Z_goto hC (dk d_X5_mark 105 rfl) 187 (by decide) ?_
          refine Z_iadd hC (dk d_X5_mark 107 rfl) 188 rfl ?_
          refine Z_istore_n hC (dk d_X5_mark 108 rfl) 189 rfl rfl (Nat.le_of_ble_eq_true rfl) [some (vr 5 0), some (vi x1), some (vi x2), some (vi (x3 + (1 : Int32))), some (vi x4), none] rfl ?_
          refine Z_iinc hC (dk d_X5_mark 109 rfl) 192 rfl rfl rfl [some (vr 5 0), some (vi x1), some (vi x2), some (vi (x3 + (1 : Int32))), some (vi (x4 + (1 : Int32))), none] rfl ?_
          refine Z_goto hC (dk d_X5_mark 110 rfl) 140 (by decide) ?_
          refine Z_wk [true, true, true, true, true, false] [some (vr 5 0), some (vi x1), some (vi x2), some (vi (x3 + (1 : Int32))), some (vi (x4 + (1 : Int32))), none] rfl ?_
          exact ih (x3 + (1 : Int32)) (x4 + (1 : Int32)) w _ h ke
noncomputable def f_X5_mark (N : Nat) (a1 : Int32) (a2 : Int32) (w : Wd) : Option (Int32 × Wd) :=
  (f_X5_isMate N a1 w).bind (fun q1 =>
    if q1.1 = 0 then
      some ((-1 : Int32), q1.2)
    else
      (f_X5_in N a2 (1 : Int32) (5 : Int32) q1.2).bind (fun q2 =>
        if q2.1 = 0 then
          some ((-1 : Int32), q2.2)
        else
          (f_X5_isA N a1 a2 q2.2).bind (fun q3 =>
            if q3.1 = 0 then
              (f_X5_meet N (3 : Int32) q3.2).bind (fun q15 =>
                some (q15.1, q15.2))
            else
              (X5_mark_L1 N a1 a2 N (0 : Int32) (0 : Int32) q3.2).bind (fun q9 =>
                (X5_mark_L2 N a1 a2 N q9.1 (0 : Int32) q9.2).bind (fun q12 =>
                  if a2 = (4 : Int32) then
                    (f_X5_mayOf N a1 q12.2).bind (fun q13 =>
                      (f_X5_sizeOf N q13.1 q13.2).bind (fun q14 =>
                        some (q14.1, q14.2)))
                  else
                    some (q12.1, q12.2))))))
set_option maxRecDepth 20000 in
set_option maxHeartbeats 4000000 in
theorem s_X5_mark (G : GT) (l : Launch) (N : Nat) (a1 : Int32) (a2 : Int32) (w : Wd) (q : Int32 × Wd) (h : f_X5_mark N a1 a2 w = some q) : Sp G l yX5_mark cw_X5_mark 3 [vr 5 0, vi a1, vi a2] w (some (vi q.1)) q.2 := by
  refine Sp_of (own := RX5) [some (vr 5 0), some (vi a1), some (vi a2), none, none, none] (by decide) rfl rfl (Nat.le_of_ble_eq_true rfl) ?_
  intro x hG hl hC hr hQ _ _
  subst hG
  subst hl
  unfold f_X5_mark at h
  refine Z_aload_n hC (dk d_X5_mark 0 rfl) 1 rfl rfl rfl ?_
  refine Z_iload_n hC (dk d_X5_mark 1 rfl) 2 rfl rfl rfl ?_
  obtain ⟨q1, hq1, h⟩ := bd_some h
  refine K_X5_137 [vi a1] hC m_5 (s_X5_isMate (xG x) (xl x) N a1 w q1 hq1) (Nat.le_of_ble_eq_true rfl) rfl rfl rfl (Nat.le_of_ble_eq_true rfl) (dk d_X5_mark 2 rfl) 5 rfl ?_
  refine Z_if_eq hC (dk d_X5_mark 3 rfl) 8 17 rfl (by decide) (fun c => ?_) (fun c => ?_)
  · have h := it_t h c
    refine Z_iconst (v := -1) hC (dk d_X5_mark 9 rfl) 18 rfl (by decide) ?_
    obtain rfl := Option.some.inj h
    exact Z_ireturn (st := []) hC hr hQ (dk d_X5_mark 10 rfl)
  · have h := it_f h c
    refine Z_iload_n hC (dk d_X5_mark 4 rfl) 9 rfl rfl rfl ?_
    refine Z_iconst (v := 1) hC (dk d_X5_mark 5 rfl) 10 rfl (by decide) ?_
    refine Z_iconst (v := 5) hC (dk d_X5_mark 6 rfl) 11 rfl (by decide) ?_
    obtain ⟨q2, hq2, h⟩ := bd_some h
    refine K_X5_72 [vi a2, vi (1 : Int32), vi (5 : Int32)] hC (s_X5_in (xG x) (xl x) N a2 (1 : Int32) (5 : Int32) q1.2 q2 hq2) (Nat.le_of_ble_eq_true rfl) rfl rfl rfl (Nat.le_of_ble_eq_true rfl) (dk d_X5_mark 7 rfl) 14 rfl ?_
    refine Z_if_ne hC (dk d_X5_mark 8 rfl) 17 19 rfl (by decide) (fun c => ?_) (fun c => ?_)
    · have h := it_f h c
      refine Z_aload_n hC (dk d_X5_mark 11 rfl) 20 rfl rfl rfl ?_
      refine Z_iload_n hC (dk d_X5_mark 12 rfl) 21 rfl rfl rfl ?_
      refine Z_iload_n hC (dk d_X5_mark 13 rfl) 22 rfl rfl rfl ?_
      obtain ⟨q3, hq3, h⟩ := bd_some h
      refine K_X5_143 [vi a1, vi a2] hC m_5 (s_X5_isA (xG x) (xl x) N a1 a2 q2.2 q3 hq3) (Nat.le_of_ble_eq_true rfl) rfl rfl rfl (Nat.le_of_ble_eq_true rfl) (dk d_X5_mark 14 rfl) 25 rfl ?_
      refine Z_if_ne hC (dk d_X5_mark 15 rfl) 28 34 rfl (by decide) (fun c => ?_) (fun c => ?_)
      · have h := it_f h c
        refine Z_iconst (v := 0) hC (dk d_X5_mark 20 rfl) 35 rfl (by decide) ?_
        refine Z_istore_n hC (dk d_X5_mark 21 rfl) 36 rfl rfl (Nat.le_of_ble_eq_true rfl) [some (vr 5 0), some (vi a1), some (vi a2), some (vi (0 : Int32)), none, none] rfl ?_
        refine Z_iconst (v := 0) hC (dk d_X5_mark 22 rfl) 37 rfl (by decide) ?_
        refine Z_istore hC (dk d_X5_mark 23 rfl) 39 rfl (Nat.le_of_ble_eq_true rfl) [some (vr 5 0), some (vi a1), some (vi a2), some (vi (0 : Int32)), some (vi (0 : Int32)), none] rfl ?_
        obtain ⟨q9, hq9, h⟩ := bd_some h
        refine Z_wk [true, true, true, true, true, false] [some (vr 5 0), some (vi a1), some (vi a2), some (vi (0 : Int32)), some (vi (0 : Int32)), none] rfl ?_
        refine z_X5_mark_L1 hC hr N a1 a2 N (0 : Int32) (0 : Int32) q3.2 q9 hq9 ?_
        refine Z_iconst (v := 0) hC (dk d_X5_mark 77 rfl) 138 rfl (by decide) ?_
        refine Z_istore hC (dk d_X5_mark 78 rfl) 140 rfl (Nat.le_of_ble_eq_true rfl) [some (vr 5 0), some (vi a1), some (vi a2), some (vi q9.1), some (vi (0 : Int32)), none] rfl ?_
        obtain ⟨q12, hq12, h⟩ := bd_some h
        refine Z_wk [true, true, true, true, true, false] [some (vr 5 0), some (vi a1), some (vi a2), some (vi q9.1), some (vi (0 : Int32)), none] rfl ?_
        refine z_X5_mark_L2 hC hr N a1 a2 N q9.1 (0 : Int32) q9.2 q12 hq12 ?_
        refine Z_iload_n hC (dk d_X5_mark 111 rfl) 196 rfl rfl rfl ?_
        refine Z_iconst (v := 4) hC (dk d_X5_mark 112 rfl) 197 rfl (by decide) ?_
        refine Z_icmp_ne hC (dk d_X5_mark 113 rfl) 200 211 rfl (by decide) (fun c => ?_) (fun c => ?_)
        · have h := it_f h c
          refine Z_iload_n hC (dk d_X5_mark 119 rfl) 212 rfl rfl rfl ?_
          obtain rfl := Option.some.inj h
          exact Z_ireturn (st := []) hC hr hQ (dk d_X5_mark 120 rfl)
        · have h := it_t h c
          refine Z_aload_n hC (dk d_X5_mark 114 rfl) 201 rfl rfl rfl ?_
          refine Z_iload_n hC (dk d_X5_mark 115 rfl) 202 rfl rfl rfl ?_
          obtain ⟨q13, hq13, h⟩ := bd_some h
          refine K_X5_153 [vi a1] hC m_5 (s_X5_mayOf (xG x) (xl x) N a1 q12.2 q13 hq13) (Nat.le_of_ble_eq_true rfl) rfl rfl rfl (Nat.le_of_ble_eq_true rfl) (dk d_X5_mark 116 rfl) 205 rfl ?_
          obtain ⟨q14, hq14, h⟩ := bd_some h
          refine K_X5_156 [vi q13.1] hC (s_X5_sizeOf (xG x) (xl x) N q13.1 q13.2 q14 hq14) (Nat.le_of_ble_eq_true rfl) rfl rfl rfl (Nat.le_of_ble_eq_true rfl) (dk d_X5_mark 117 rfl) 208 rfl ?_
          refine Z_goto hC (dk d_X5_mark 118 rfl) 212 (by decide) ?_
          obtain rfl := Option.some.inj h
          exact Z_ireturn (st := []) hC hr hQ (dk d_X5_mark 120 rfl)
      · have h := it_t h c
        refine Z_aload_n hC (dk d_X5_mark 16 rfl) 29 rfl rfl rfl ?_
        refine Z_iconst (v := 3) hC (dk d_X5_mark 17 rfl) 30 rfl (by decide) ?_
        obtain ⟨q15, hq15, h⟩ := bd_some h
        refine K_X5_80 [vi (3 : Int32)] hC m_5 (s_X5_meet (xG x) (xl x) N (3 : Int32) q3.2 q15 hq15) (Nat.le_of_ble_eq_true rfl) rfl rfl rfl (Nat.le_of_ble_eq_true rfl) (dk d_X5_mark 18 rfl) 33 rfl ?_
        obtain rfl := Option.some.inj h
        exact Z_ireturn (st := []) hC hr hQ (dk d_X5_mark 19 rfl)
    · have h := it_t h c
      refine Z_iconst (v := -1) hC (dk d_X5_mark 9 rfl) 18 rfl (by decide) ?_
      obtain rfl := Option.some.inj h
      exact Z_ireturn (st := []) hC hr hQ (dk d_X5_mark 10 rfl)
def t_X5_rules : List (Nat × Instr × Nat) := [(0, .iload_n 1, 1), (1, .iconst 0, 1), (2, .bipush 15, 2), (4, .invokestatic 72, 3), (7, .ifCond .ne 5, 3), (10, .iconst (-1), 1), (11, .ireturn, 1), (12, .aload_n 0, 1), (13, .getfield 32, 3), (16, .istore_n 2, 1), (17, .aload_n 0, 1), (18, .iload_n 1, 1), (19, .putfield 32, 3), (22, .iload_n 2, 1), (23, .ireturn, 1)]
set_option maxRecDepth 20000 in
theorem d_X5_rules : ∀ q ∈ t_X5_rules, decode cX5_rules q.1 = .ok q.2 := by decide +kernel
noncomputable def f_X5_rules (N : Nat) (a1 : Int32) (w : Wd) : Option (Int32 × Wd) :=
  (f_X5_in N a1 (0 : Int32) (15 : Int32) w).bind (fun q1 =>
    if q1.1 = 0 then
      some ((-1 : Int32), q1.2)
    else
      some (gI q1.2 511 0, sI q1.2 511 0 a1))
set_option maxRecDepth 20000 in
set_option maxHeartbeats 4000000 in
theorem s_X5_rules (G : GT) (l : Launch) (N : Nat) (a1 : Int32) (w : Wd) (q : Int32 × Wd) (h : f_X5_rules N a1 w = some q) : Sp G l yX5_rules cw_X5_rules 1 [vr 5 0, vi a1] w (some (vi q.1)) q.2 := by
  refine Sp_of (own := RX5) [some (vr 5 0), some (vi a1), none] (by decide) rfl rfl (Nat.le_of_ble_eq_true rfl) ?_
  intro x hG hl hC hr hQ _ _
  subst hG
  subst hl
  unfold f_X5_rules at h
  refine Z_iload_n hC (dk d_X5_rules 0 rfl) 1 rfl rfl rfl ?_
  refine Z_iconst (v := 0) hC (dk d_X5_rules 1 rfl) 2 rfl (by decide) ?_
  refine Z_bipush (v := 15) hC (dk d_X5_rules 2 rfl) 4 rfl (by decide) ?_
  obtain ⟨q1, hq1, h⟩ := bd_some h
  refine K_X5_72 [vi a1, vi (0 : Int32), vi (15 : Int32)] hC (s_X5_in (xG x) (xl x) N a1 (0 : Int32) (15 : Int32) w q1 hq1) (Nat.le_of_ble_eq_true rfl) rfl rfl rfl (Nat.le_of_ble_eq_true rfl) (dk d_X5_rules 3 rfl) 7 rfl ?_
  refine Z_if_ne hC (dk d_X5_rules 4 rfl) 10 12 rfl (by decide) (fun c => ?_) (fun c => ?_)
  · have h := it_f h c
    refine Z_aload_n hC (dk d_X5_rules 7 rfl) 13 rfl rfl rfl ?_
    refine G_X5_32 hC m_5 (dk d_X5_rules 8 rfl) 16 rfl ?_
    refine Z_istore_n hC (dk d_X5_rules 9 rfl) 17 rfl rfl (Nat.le_of_ble_eq_true rfl) [some (vr 5 0), some (vi a1), some (vi (gI q1.2 511 0))] rfl ?_
    refine Z_aload_n hC (dk d_X5_rules 10 rfl) 18 rfl rfl rfl ?_
    refine Z_iload_n hC (dk d_X5_rules 11 rfl) 19 rfl rfl rfl ?_
    refine P_X5_32 hC m_5 (dk d_X5_rules 12 rfl) 22 rfl ?_
    refine Z_iload_n hC (dk d_X5_rules 13 rfl) 23 rfl rfl rfl ?_
    obtain rfl := Option.some.inj h
    exact Z_ireturn (st := []) hC hr hQ (dk d_X5_rules 14 rfl)
  · have h := it_t h c
    refine Z_iconst (v := -1) hC (dk d_X5_rules 5 rfl) 11 rfl (by decide) ?_
    obtain rfl := Option.some.inj h
    exact Z_ireturn (st := []) hC hr hQ (dk d_X5_rules 6 rfl)
def t_X5_move : List (Nat × Instr × Nat) := [(0, .aload_n 0, 1), (1, .iload_n 1, 1), (2, .invokevirtual 137, 3), (5, .ifCond .eq 13, 3), (8, .iload_n 2, 1), (9, .iconst 0, 1), (10, .bipush 9, 2), (12, .invokestatic 72, 3), (15, .ifCond .ne 5, 3), (18, .iconst (-1), 1), (19, .ireturn, 1), (20, .aload_n 0, 1), (21, .getfield 39, 3), (24, .iload_n 1, 1), (25, .iaload, 1), (26, .istore_n 3, 1), (27, .aload_n 0, 1), (28, .getfield 39, 3), (31, .iload_n 1, 1), (32, .iload_n 2, 1), (33, .iastore, 1), (34, .iload_n 3, 1), (35, .ireturn, 1)]
set_option maxRecDepth 20000 in
theorem d_X5_move : ∀ q ∈ t_X5_move, decode cX5_move q.1 = .ok q.2 := by decide +kernel
noncomputable def f_X5_move (N : Nat) (a1 : Int32) (a2 : Int32) (w : Wd) : Option (Int32 × Wd) :=
  (f_X5_isMate N a1 w).bind (fun q1 =>
    if q1.1 = 0 then
      some ((-1 : Int32), q1.2)
    else
      (f_X5_in N a2 (0 : Int32) (9 : Int32) q1.2).bind (fun q2 =>
        if q2.1 = 0 then
          some ((-1 : Int32), q2.2)
        else
          gd (vp_in a1 12) (
          gd (vp_in a1 12) (
          some (gA q2.2 37 0 a1.toNatClampNeg, sA q2.2 37 0 (upd (gA q2.2 37 0) a1.toNatClampNeg a2))))))
set_option maxRecDepth 20000 in
set_option maxHeartbeats 4000000 in
theorem s_X5_move (G : GT) (l : Launch) (N : Nat) (a1 : Int32) (a2 : Int32) (w : Wd) (q : Int32 × Wd) (h : f_X5_move N a1 a2 w = some q) : Sp G l yX5_move cw_X5_move 2 [vr 5 0, vi a1, vi a2] w (some (vi q.1)) q.2 := by
  refine Sp_of (own := RX5) [some (vr 5 0), some (vi a1), some (vi a2), none] (by decide) rfl rfl (Nat.le_of_ble_eq_true rfl) ?_
  intro x hG hl hC hr hQ _ _
  subst hG
  subst hl
  unfold f_X5_move at h
  refine Z_aload_n hC (dk d_X5_move 0 rfl) 1 rfl rfl rfl ?_
  refine Z_iload_n hC (dk d_X5_move 1 rfl) 2 rfl rfl rfl ?_
  obtain ⟨q1, hq1, h⟩ := bd_some h
  refine K_X5_137 [vi a1] hC m_5 (s_X5_isMate (xG x) (xl x) N a1 w q1 hq1) (Nat.le_of_ble_eq_true rfl) rfl rfl rfl (Nat.le_of_ble_eq_true rfl) (dk d_X5_move 2 rfl) 5 rfl ?_
  refine Z_if_eq hC (dk d_X5_move 3 rfl) 8 18 rfl (by decide) (fun c => ?_) (fun c => ?_)
  · have h := it_t h c
    refine Z_iconst (v := -1) hC (dk d_X5_move 9 rfl) 19 rfl (by decide) ?_
    obtain rfl := Option.some.inj h
    exact Z_ireturn (st := []) hC hr hQ (dk d_X5_move 10 rfl)
  · have h := it_f h c
    refine Z_iload_n hC (dk d_X5_move 4 rfl) 9 rfl rfl rfl ?_
    refine Z_iconst (v := 0) hC (dk d_X5_move 5 rfl) 10 rfl (by decide) ?_
    refine Z_bipush (v := 9) hC (dk d_X5_move 6 rfl) 12 rfl (by decide) ?_
    obtain ⟨q2, hq2, h⟩ := bd_some h
    refine K_X5_72 [vi a2, vi (0 : Int32), vi (9 : Int32)] hC (s_X5_in (xG x) (xl x) N a2 (0 : Int32) (9 : Int32) q1.2 q2 hq2) (Nat.le_of_ble_eq_true rfl) rfl rfl rfl (Nat.le_of_ble_eq_true rfl) (dk d_X5_move 7 rfl) 15 rfl ?_
    refine Z_if_ne hC (dk d_X5_move 8 rfl) 18 20 rfl (by decide) (fun c => ?_) (fun c => ?_)
    · have h := it_f h c
      refine Z_aload_n hC (dk d_X5_move 11 rfl) 21 rfl rfl rfl ?_
      refine G_X5_39 hC m_5 (dk d_X5_move 12 rfl) 24 rfl ?_
      refine Z_iload_n hC (dk d_X5_move 13 rfl) 25 rfl rfl rfl ?_
      obtain ⟨g3, h⟩ := gd_some h
      refine Z_iaload hC m_37 (by decide) rfl g3 (dk d_X5_move 14 rfl) 26 rfl ?_
      refine Z_istore_n hC (dk d_X5_move 15 rfl) 27 rfl rfl (Nat.le_of_ble_eq_true rfl) [some (vr 5 0), some (vi a1), some (vi a2), some (vi (gA q2.2 37 0 a1.toNatClampNeg))] rfl ?_
      refine Z_aload_n hC (dk d_X5_move 16 rfl) 28 rfl rfl rfl ?_
      refine G_X5_39 hC m_5 (dk d_X5_move 17 rfl) 31 rfl ?_
      refine Z_iload_n hC (dk d_X5_move 18 rfl) 32 rfl rfl rfl ?_
      refine Z_iload_n hC (dk d_X5_move 19 rfl) 33 rfl rfl rfl ?_
      obtain ⟨g4, h⟩ := gd_some h
      refine Z_iastore hC m_37 (by decide) rfl g4 (dk d_X5_move 20 rfl) 34 rfl ?_
      refine Z_iload_n hC (dk d_X5_move 21 rfl) 35 rfl rfl rfl ?_
      obtain rfl := Option.some.inj h
      exact Z_ireturn (st := []) hC hr hQ (dk d_X5_move 22 rfl)
    · have h := it_t h c
      refine Z_iconst (v := -1) hC (dk d_X5_move 9 rfl) 19 rfl (by decide) ?_
      obtain rfl := Option.some.inj h
      exact Z_ireturn (st := []) hC hr hQ (dk d_X5_move 10 rfl)
def t_X5_may : List (Nat × Instr × Nat) := [(0, .aload_n 0, 1), (1, .iload_n 1, 1), (2, .invokevirtual 137, 3), (5, .ifCond .eq 11, 3), (8, .aload_n 0, 1), (9, .iload_n 1, 1), (10, .invokevirtual 153, 3), (13, .goto 4, 3), (16, .iconst (-1), 1), (17, .ireturn, 1)]
set_option maxRecDepth 20000 in
theorem d_X5_may : ∀ q ∈ t_X5_may, decode cX5_may q.1 = .ok q.2 := by decide +kernel
noncomputable def f_X5_may (N : Nat) (a1 : Int32) (w : Wd) : Option (Int32 × Wd) :=
  (f_X5_isMate N a1 w).bind (fun q1 =>
    if q1.1 = 0 then
      some ((-1 : Int32), q1.2)
    else
      (f_X5_mayOf N a1 q1.2).bind (fun q2 =>
        some (q2.1, q2.2)))
set_option maxRecDepth 20000 in
set_option maxHeartbeats 4000000 in
theorem s_X5_may (G : GT) (l : Launch) (N : Nat) (a1 : Int32) (w : Wd) (q : Int32 × Wd) (h : f_X5_may N a1 w = some q) : Sp G l yX5_may cw_X5_may 3 [vr 5 0, vi a1] w (some (vi q.1)) q.2 := by
  refine Sp_of (own := RX5) [some (vr 5 0), some (vi a1)] (by decide) rfl rfl (Nat.le_of_ble_eq_true rfl) ?_
  intro x hG hl hC hr hQ _ _
  subst hG
  subst hl
  unfold f_X5_may at h
  refine Z_aload_n hC (dk d_X5_may 0 rfl) 1 rfl rfl rfl ?_
  refine Z_iload_n hC (dk d_X5_may 1 rfl) 2 rfl rfl rfl ?_
  obtain ⟨q1, hq1, h⟩ := bd_some h
  refine K_X5_137 [vi a1] hC m_5 (s_X5_isMate (xG x) (xl x) N a1 w q1 hq1) (Nat.le_of_ble_eq_true rfl) rfl rfl rfl (Nat.le_of_ble_eq_true rfl) (dk d_X5_may 2 rfl) 5 rfl ?_
  refine Z_if_eq hC (dk d_X5_may 3 rfl) 8 16 rfl (by decide) (fun c => ?_) (fun c => ?_)
  · have h := it_t h c
    refine Z_iconst (v := -1) hC (dk d_X5_may 8 rfl) 17 rfl (by decide) ?_
    obtain rfl := Option.some.inj h
    exact Z_ireturn (st := []) hC hr hQ (dk d_X5_may 9 rfl)
  · have h := it_f h c
    refine Z_aload_n hC (dk d_X5_may 4 rfl) 9 rfl rfl rfl ?_
    refine Z_iload_n hC (dk d_X5_may 5 rfl) 10 rfl rfl rfl ?_
    obtain ⟨q2, hq2, h⟩ := bd_some h
    refine K_X5_153 [vi a1] hC m_5 (s_X5_mayOf (xG x) (xl x) N a1 q1.2 q2 hq2) (Nat.le_of_ble_eq_true rfl) rfl rfl rfl (Nat.le_of_ble_eq_true rfl) (dk d_X5_may 6 rfl) 13 rfl ?_
    refine Z_goto hC (dk d_X5_may 7 rfl) 17 (by decide) ?_
    obtain rfl := Option.some.inj h
    exact Z_ireturn (st := []) hC hr hQ (dk d_X5_may 9 rfl)
def t_X5_askedDrawing : List (Nat × Instr × Nat) := [(0, .aload_n 0, 1), (1, .iload_n 1, 1), (2, .invokevirtual 91, 3), (5, .istore_n 2, 1), (6, .iload_n 2, 1), (7, .ifCond .ge 5, 3), (10, .iload_n 2, 1), (11, .ireturn, 1), (12, .aload_n 0, 1), (13, .getfield 17, 3), (16, .iload_n 1, 1), (17, .iaload, 1), (18, .aload_n 0, 1), (19, .getfield 125, 3), (22, .if_icmp .eq 9, 3), (25, .aload_n 0, 1), (26, .iconst 5, 1), (27, .invokevirtual 80, 3), (30, .ireturn, 1), (31, .iconst 0, 1), (32, .istore_n 3, 1), (33, .iconst 0, 1), (34, .istore 4, 2), (36, .iload 4, 2), (38, .aload_n 0, 1), (39, .getfield 125, 3), (42, .if_icmp .ge 58, 3), (45, .aload_n 0, 1), (46, .iload_n 1, 1), (47, .iload 4, 2), (49, .invokevirtual 94, 3), (52, .istore 5, 2), (54, .aload_n 0, 1), (55, .iload 5, 2), (57, .invokevirtual 137, 3), (60, .ifCond .eq 12, 3), (63, .iload_n 3, 1), (64, .iload 5, 2), (66, .invokestatic 147, 3), (69, .ifCond .eq 9, 3), (72, .aload_n 0, 1), (73, .iconst 3, 1), (74, .invokevirtual 80, 3), (77, .ireturn, 1), (78, .iload_n 3, 1), (79, .iconst 1, 1), (80, .iload 5, 2), (82, .ishl, 1), (83, .ior, 1), (84, .istore_n 3, 1), (85, .aload_n 0, 1), (86, .getfield 48, 3), (89, .iload 4, 2), (91, .iload 5, 2), (93, .iastore, 1), (94, .iinc 4 1, 3), (97, .goto (-61), 3), (100, .iconst 0, 1), (101, .ireturn, 1)]
set_option maxRecDepth 20000 in
theorem d_X5_askedDrawing : ∀ q ∈ t_X5_askedDrawing, decode cX5_askedDrawing q.1 = .ok q.2 := by decide +kernel
noncomputable def X5_askedDrawing_L1 (N : Nat) (x1 : Int32) : Nat → Int32 → Int32 → Wd → Option ((Int32 × Wd) ⊕ (Wd))
  | 0, _, _, _ => none
  | n + 1, x3, x4, w =>
  if (gI w 510 0) ≤ x4 then
    some (.inr w)
  else
    (f_X5_rowAt N x1 x4 w).bind (fun q3 =>
      (f_X5_isMate N q3.1 q3.2).bind (fun q4 =>
        if q4.1 = 0 then
          (f_X5_meet N (3 : Int32) q4.2).bind (fun q5 =>
            some (.inl (q5.1, q5.2)))
        else
          (f_X5_has N x3 q3.1 q4.2).bind (fun q6 =>
            if q6.1 = 0 then
              gd (vp_in x4 6) (
              X5_askedDrawing_L1 N x1 n (x3 ||| ((1 : Int32) <<< (q3.1 &&& (31 : Int32)))) (x4 + (1 : Int32)) (sA q6.2 40 0 (upd (gA q6.2 40 0) x4.toNatClampNeg q3.1)))
            else
              (f_X5_meet N (3 : Int32) q6.2).bind (fun q8 =>
                some (.inl (q8.1, q8.2))))))
set_option maxRecDepth 20000 in
set_option maxHeartbeats 4000000 in
theorem z_X5_askedDrawing_L1 {x : CX} (hC : Cx x RX5 cX5_askedDrawing 6 3) (hr : (xM x).sig.returnType = (some .int)) (N : Nat) (x1 : Int32) : ∀ (n : Nat) (x3 : Int32) (x4 : Int32) (w : Wd) (q : ((Int32 × Wd) ⊕ (Wd))), X5_askedDrawing_L1 N x1 n x3 x4 w = some q → (∀ r : Int32 × Wd, q = .inl r → Rt x (some (vi r.1)) r.2) → (∀ o : Wd, q = .inr o → Z x 100 [none, none, none, none, none, none] [] o) → Z x 36 [some (vr 5 0), some (vi x1), none, some (vi x3), some (vi x4), none] [] w := by
  intro n
  induction n with
  | zero =>
    intro x3 x4 w q h
    cases h
  | succ n ih =>
    intro x3 x4 w q h kr ke
    rw [X5_askedDrawing_L1] at h
    refine Z_iload hC (dk d_X5_askedDrawing 23 rfl) 38 rfl rfl ?_
    refine Z_aload_n hC (dk d_X5_askedDrawing 24 rfl) 39 rfl rfl rfl ?_
    refine G_X5_125 hC m_5 (dk d_X5_askedDrawing 25 rfl) 42 rfl ?_
    refine Z_icmp_ge hC (dk d_X5_askedDrawing 26 rfl) 45 100 rfl (by decide) (fun c => ?_) (fun c => ?_)
    · have h := it_t h c
      obtain rfl := Option.some.inj h
      refine Z_wk [false, false, false, false, false, false] [none, none, none, none, none, none] rfl ?_
      exact ke _ rfl
    · have h := it_f h c
      refine Z_aload_n hC (dk d_X5_askedDrawing 27 rfl) 46 rfl rfl rfl ?_
      refine Z_iload_n hC (dk d_X5_askedDrawing 28 rfl) 47 rfl rfl rfl ?_
      refine Z_iload hC (dk d_X5_askedDrawing 29 rfl) 49 rfl rfl ?_
      obtain ⟨q3, hq3, h⟩ := bd_some h
      refine K_X5_94 [vi x1, vi x4] hC m_5 (s_X5_rowAt (xG x) (xl x) N x1 x4 w q3 hq3) (Nat.le_of_ble_eq_true rfl) rfl rfl rfl (Nat.le_of_ble_eq_true rfl) (dk d_X5_askedDrawing 30 rfl) 52 rfl ?_
      refine Z_istore hC (dk d_X5_askedDrawing 31 rfl) 54 rfl (Nat.le_of_ble_eq_true rfl) [some (vr 5 0), some (vi x1), none, some (vi x3), some (vi x4), some (vi q3.1)] rfl ?_
      refine Z_aload_n hC (dk d_X5_askedDrawing 32 rfl) 55 rfl rfl rfl ?_
      refine Z_iload hC (dk d_X5_askedDrawing 33 rfl) 57 rfl rfl ?_
      obtain ⟨q4, hq4, h⟩ := bd_some h
      refine K_X5_137 [vi q3.1] hC m_5 (s_X5_isMate (xG x) (xl x) N q3.1 q3.2 q4 hq4) (Nat.le_of_ble_eq_true rfl) rfl rfl rfl (Nat.le_of_ble_eq_true rfl) (dk d_X5_askedDrawing 34 rfl) 60 rfl ?_
      refine Z_if_eq hC (dk d_X5_askedDrawing 35 rfl) 63 72 rfl (by decide) (fun c => ?_) (fun c => ?_)
      · have h := it_t h c
        refine Z_aload_n hC (dk d_X5_askedDrawing 40 rfl) 73 rfl rfl rfl ?_
        refine Z_iconst (v := 3) hC (dk d_X5_askedDrawing 41 rfl) 74 rfl (by decide) ?_
        obtain ⟨q5, hq5, h⟩ := bd_some h
        refine K_X5_80 [vi (3 : Int32)] hC m_5 (s_X5_meet (xG x) (xl x) N (3 : Int32) q4.2 q5 hq5) (Nat.le_of_ble_eq_true rfl) rfl rfl rfl (Nat.le_of_ble_eq_true rfl) (dk d_X5_askedDrawing 42 rfl) 77 rfl ?_
        obtain rfl := Option.some.inj h
        exact Z_ireturn (st := []) hC hr (kr _ rfl) (dk d_X5_askedDrawing 43 rfl)
      · have h := it_f h c
        refine Z_iload_n hC (dk d_X5_askedDrawing 36 rfl) 64 rfl rfl rfl ?_
        refine Z_iload hC (dk d_X5_askedDrawing 37 rfl) 66 rfl rfl ?_
        obtain ⟨q6, hq6, h⟩ := bd_some h
        refine K_X5_147 [vi x3, vi q3.1] hC (s_X5_has (xG x) (xl x) N x3 q3.1 q4.2 q6 hq6) (Nat.le_of_ble_eq_true rfl) rfl rfl rfl (Nat.le_of_ble_eq_true rfl) (dk d_X5_askedDrawing 38 rfl) 69 rfl ?_
        refine Z_if_eq hC (dk d_X5_askedDrawing 39 rfl) 72 78 rfl (by decide) (fun c => ?_) (fun c => ?_)
        · have h := it_t h c
          refine Z_iload_n hC (dk d_X5_askedDrawing 44 rfl) 79 rfl rfl rfl ?_
          refine Z_iconst (v := 1) hC (dk d_X5_askedDrawing 45 rfl) 80 rfl (by decide) ?_
          refine Z_iload hC (dk d_X5_askedDrawing 46 rfl) 82 rfl rfl ?_
          refine Z_ishl hC (dk d_X5_askedDrawing 47 rfl) 83 rfl ?_
          refine Z_ior hC (dk d_X5_askedDrawing 48 rfl) 84 rfl ?_
          refine Z_istore_n hC (dk d_X5_askedDrawing 49 rfl) 85 rfl rfl (Nat.le_of_ble_eq_true rfl) [some (vr 5 0), some (vi x1), none, some (vi (x3 ||| ((1 : Int32) <<< (q3.1 &&& (31 : Int32))))), some (vi x4), some (vi q3.1)] rfl ?_
          refine Z_aload_n hC (dk d_X5_askedDrawing 50 rfl) 86 rfl rfl rfl ?_
          refine G_X5_48 hC m_5 (dk d_X5_askedDrawing 51 rfl) 89 rfl ?_
          refine Z_iload hC (dk d_X5_askedDrawing 52 rfl) 91 rfl rfl ?_
          refine Z_iload hC (dk d_X5_askedDrawing 53 rfl) 93 rfl rfl ?_
          obtain ⟨g7, h⟩ := gd_some h
          refine Z_iastore hC m_40 (by decide) rfl g7 (dk d_X5_askedDrawing 54 rfl) 94 rfl ?_
          refine Z_iinc hC (dk d_X5_askedDrawing 55 rfl) 97 rfl rfl rfl [some (vr 5 0), some (vi x1), none, some (vi (x3 ||| ((1 : Int32) <<< (q3.1 &&& (31 : Int32))))), some (vi (x4 + (1 : Int32))), some (vi q3.1)] rfl ?_
          refine Z_goto hC (dk d_X5_askedDrawing 56 rfl) 36 (by decide) ?_
          refine Z_wk [true, true, false, true, true, false] [some (vr 5 0), some (vi x1), none, some (vi (x3 ||| ((1 : Int32) <<< (q3.1 &&& (31 : Int32))))), some (vi (x4 + (1 : Int32))), none] rfl ?_
          exact ih (x3 ||| ((1 : Int32) <<< (q3.1 &&& (31 : Int32)))) (x4 + (1 : Int32)) (sA q6.2 40 0 (upd (gA q6.2 40 0) x4.toNatClampNeg q3.1)) _ h kr ke
        · have h := it_f h c
          refine Z_aload_n hC (dk d_X5_askedDrawing 40 rfl) 73 rfl rfl rfl ?_
          refine Z_iconst (v := 3) hC (dk d_X5_askedDrawing 41 rfl) 74 rfl (by decide) ?_
          obtain ⟨q8, hq8, h⟩ := bd_some h
          refine K_X5_80 [vi (3 : Int32)] hC m_5 (s_X5_meet (xG x) (xl x) N (3 : Int32) q6.2 q8 hq8) (Nat.le_of_ble_eq_true rfl) rfl rfl rfl (Nat.le_of_ble_eq_true rfl) (dk d_X5_askedDrawing 42 rfl) 77 rfl ?_
          obtain rfl := Option.some.inj h
          exact Z_ireturn (st := []) hC hr (kr _ rfl) (dk d_X5_askedDrawing 43 rfl)
noncomputable def f_X5_askedDrawing (N : Nat) (a1 : Int32) (w : Wd) : Option (Int32 × Wd) :=
  (f_X5_askedRow N a1 w).bind (fun q1 =>
    if 0 ≤ q1.1 then
      gd (vp_in a1 6) (
      if (gA q1.2 31 0 a1.toNatClampNeg) = (gI q1.2 510 0) then
        (X5_askedDrawing_L1 N a1 N (0 : Int32) (0 : Int32) q1.2).bind (Sum.elim some (fun q9 =>
          some ((0 : Int32), q9)))
      else
        (f_X5_meet N (5 : Int32) q1.2).bind (fun q10 =>
          some (q10.1, q10.2)))
    else
      some (q1.1, q1.2))
set_option maxRecDepth 20000 in
set_option maxHeartbeats 4000000 in
theorem s_X5_askedDrawing (G : GT) (l : Launch) (N : Nat) (a1 : Int32) (w : Wd) (q : Int32 × Wd) (h : f_X5_askedDrawing N a1 w = some q) : Sp G l yX5_askedDrawing cw_X5_askedDrawing 3 [vr 5 0, vi a1] w (some (vi q.1)) q.2 := by
  refine Sp_of (own := RX5) [some (vr 5 0), some (vi a1), none, none, none, none] (by decide) rfl rfl (Nat.le_of_ble_eq_true rfl) ?_
  intro x hG hl hC hr hQ _ _
  subst hG
  subst hl
  unfold f_X5_askedDrawing at h
  refine Z_aload_n hC (dk d_X5_askedDrawing 0 rfl) 1 rfl rfl rfl ?_
  refine Z_iload_n hC (dk d_X5_askedDrawing 1 rfl) 2 rfl rfl rfl ?_
  obtain ⟨q1, hq1, h⟩ := bd_some h
  refine K_X5_91 [vi a1] hC m_5 (s_X5_askedRow (xG x) (xl x) N a1 w q1 hq1) (Nat.le_of_ble_eq_true rfl) rfl rfl rfl (Nat.le_of_ble_eq_true rfl) (dk d_X5_askedDrawing 2 rfl) 5 rfl ?_
  refine Z_istore_n hC (dk d_X5_askedDrawing 3 rfl) 6 rfl rfl (Nat.le_of_ble_eq_true rfl) [some (vr 5 0), some (vi a1), some (vi q1.1), none, none, none] rfl ?_
  refine Z_iload_n hC (dk d_X5_askedDrawing 4 rfl) 7 rfl rfl rfl ?_
  refine Z_if_ge hC (dk d_X5_askedDrawing 5 rfl) 10 12 rfl (by decide) (fun c => ?_) (fun c => ?_)
  · have h := it_t h c
    refine Z_aload_n hC (dk d_X5_askedDrawing 8 rfl) 13 rfl rfl rfl ?_
    refine G_X5_17 hC m_5 (dk d_X5_askedDrawing 9 rfl) 16 rfl ?_
    refine Z_iload_n hC (dk d_X5_askedDrawing 10 rfl) 17 rfl rfl rfl ?_
    obtain ⟨g2, h⟩ := gd_some h
    refine Z_iaload hC m_31 (by decide) rfl g2 (dk d_X5_askedDrawing 11 rfl) 18 rfl ?_
    refine Z_aload_n hC (dk d_X5_askedDrawing 12 rfl) 19 rfl rfl rfl ?_
    refine G_X5_125 hC m_5 (dk d_X5_askedDrawing 13 rfl) 22 rfl ?_
    refine Z_icmp_eq hC (dk d_X5_askedDrawing 14 rfl) 25 31 rfl (by decide) (fun c => ?_) (fun c => ?_)
    · have h := it_t h c
      refine Z_iconst (v := 0) hC (dk d_X5_askedDrawing 19 rfl) 32 rfl (by decide) ?_
      refine Z_istore_n hC (dk d_X5_askedDrawing 20 rfl) 33 rfl rfl (Nat.le_of_ble_eq_true rfl) [some (vr 5 0), some (vi a1), some (vi q1.1), some (vi (0 : Int32)), none, none] rfl ?_
      refine Z_iconst (v := 0) hC (dk d_X5_askedDrawing 21 rfl) 34 rfl (by decide) ?_
      refine Z_istore hC (dk d_X5_askedDrawing 22 rfl) 36 rfl (Nat.le_of_ble_eq_true rfl) [some (vr 5 0), some (vi a1), some (vi q1.1), some (vi (0 : Int32)), some (vi (0 : Int32)), none] rfl ?_
      obtain ⟨q9, hq9, h⟩ := bd_some h
      refine Z_wk [true, true, false, true, true, false] [some (vr 5 0), some (vi a1), none, some (vi (0 : Int32)), some (vi (0 : Int32)), none] rfl ?_
      refine z_X5_askedDrawing_L1 hC hr N a1 N (0 : Int32) (0 : Int32) q1.2 q9 hq9 (fun r e => ?_) (fun o e => ?_)
      · subst e
        obtain rfl := Option.some.inj h
        exact hQ
      · subst e
        obtain ⟨q9, rfl⟩ : ∃ z, z = o := ⟨_, rfl⟩
        refine Z_iconst (v := 0) hC (dk d_X5_askedDrawing 57 rfl) 101 rfl (by decide) ?_
        obtain rfl := Option.some.inj h
        exact Z_ireturn (st := []) hC hr hQ (dk d_X5_askedDrawing 58 rfl)
    · have h := it_f h c
      refine Z_aload_n hC (dk d_X5_askedDrawing 15 rfl) 26 rfl rfl rfl ?_
      refine Z_iconst (v := 5) hC (dk d_X5_askedDrawing 16 rfl) 27 rfl (by decide) ?_
      obtain ⟨q10, hq10, h⟩ := bd_some h
      refine K_X5_80 [vi (5 : Int32)] hC m_5 (s_X5_meet (xG x) (xl x) N (5 : Int32) q1.2 q10 hq10) (Nat.le_of_ble_eq_true rfl) rfl rfl rfl (Nat.le_of_ble_eq_true rfl) (dk d_X5_askedDrawing 17 rfl) 30 rfl ?_
      obtain rfl := Option.some.inj h
      exact Z_ireturn (st := []) hC hr hQ (dk d_X5_askedDrawing 18 rfl)
  · have h := it_f h c
    refine Z_iload_n hC (dk d_X5_askedDrawing 6 rfl) 11 rfl rfl rfl ?_
    obtain rfl := Option.some.inj h
    exact Z_ireturn (st := []) hC hr hQ (dk d_X5_askedDrawing 7 rfl)
def t_X5_isBack : List (Nat × Instr × Nat) := [(0, .aload_n 0, 1), (1, .getfield 32, 3), (4, .iconst 0, 1), (5, .invokestatic 147, 3), (8, .ifCond .eq 27, 3), (11, .aload_n 0, 1), (12, .getfield 36, 3), (15, .iload_n 1, 1), (16, .iaload, 1), (17, .iconst 4, 1), (18, .if_icmp .eq 17, 3), (21, .aload_n 0, 1), (22, .getfield 36, 3), (25, .iload_n 2, 1), (26, .iaload, 1), (27, .iconst 4, 1), (28, .if_icmp .eq 7, 3), (31, .iconst 1, 1), (32, .goto 4, 3), (35, .iconst 0, 1), (36, .ireturn, 1)]
set_option maxRecDepth 20000 in
theorem d_X5_isBack : ∀ q ∈ t_X5_isBack, decode cX5_isBack q.1 = .ok q.2 := by decide +kernel
noncomputable def f_X5_isBack (N : Nat) (a1 : Int32) (a2 : Int32) (w : Wd) : Option (Int32 × Wd) :=
  (f_X5_has N (gI w 511 0) (0 : Int32) w).bind (fun q1 =>
    if q1.1 = 0 then
      some ((0 : Int32), q1.2)
    else
      gd (vp_in a1 12) (
      if (gA q1.2 36 0 a1.toNatClampNeg) = (4 : Int32) then
        some ((0 : Int32), q1.2)
      else
        gd (vp_in a2 12) (
        if (gA q1.2 36 0 a2.toNatClampNeg) = (4 : Int32) then
          some ((0 : Int32), q1.2)
        else
          some ((1 : Int32), q1.2))))
set_option maxRecDepth 20000 in
set_option maxHeartbeats 4000000 in
theorem s_X5_isBack (G : GT) (l : Launch) (N : Nat) (a1 : Int32) (a2 : Int32) (w : Wd) (q : Int32 × Wd) (h : f_X5_isBack N a1 a2 w = some q) : Sp G l yX5_isBack cw_X5_isBack 1 [vr 5 0, vi a1, vi a2] w (some (vi q.1)) q.2 := by
  refine Sp_of (own := RX5) [some (vr 5 0), some (vi a1), some (vi a2)] (by decide) rfl rfl (Nat.le_of_ble_eq_true rfl) ?_
  intro x hG hl hC hr hQ _ _
  subst hG
  subst hl
  unfold f_X5_isBack at h
  refine Z_aload_n hC (dk d_X5_isBack 0 rfl) 1 rfl rfl rfl ?_
  refine G_X5_32 hC m_5 (dk d_X5_isBack 1 rfl) 4 rfl ?_
  refine Z_iconst (v := 0) hC (dk d_X5_isBack 2 rfl) 5 rfl (by decide) ?_
  obtain ⟨q1, hq1, h⟩ := bd_some h
  refine K_X5_147 [vi (gI w 511 0), vi (0 : Int32)] hC (s_X5_has (xG x) (xl x) N (gI w 511 0) (0 : Int32) w q1 hq1) (Nat.le_of_ble_eq_true rfl) rfl rfl rfl (Nat.le_of_ble_eq_true rfl) (dk d_X5_isBack 3 rfl) 8 rfl ?_
  refine Z_if_eq hC (dk d_X5_isBack 4 rfl) 11 35 rfl (by decide) (fun c => ?_) (fun c => ?_)
  · have h := it_t h c
    refine Z_iconst (v := 0) hC (dk d_X5_isBack 19 rfl) 36 rfl (by decide) ?_
    obtain rfl := Option.some.inj h
    exact Z_zreturn (st := []) hC hr rfl hQ (dk d_X5_isBack 20 rfl)
  · have h := it_f h c
    refine Z_aload_n hC (dk d_X5_isBack 5 rfl) 12 rfl rfl rfl ?_
    refine G_X5_36 hC m_5 (dk d_X5_isBack 6 rfl) 15 rfl ?_
    refine Z_iload_n hC (dk d_X5_isBack 7 rfl) 16 rfl rfl rfl ?_
    obtain ⟨g2, h⟩ := gd_some h
    refine Z_iaload hC m_36 (by decide) rfl g2 (dk d_X5_isBack 8 rfl) 17 rfl ?_
    refine Z_iconst (v := 4) hC (dk d_X5_isBack 9 rfl) 18 rfl (by decide) ?_
    refine Z_icmp_eq hC (dk d_X5_isBack 10 rfl) 21 35 rfl (by decide) (fun c => ?_) (fun c => ?_)
    · have h := it_t h c
      refine Z_iconst (v := 0) hC (dk d_X5_isBack 19 rfl) 36 rfl (by decide) ?_
      obtain rfl := Option.some.inj h
      exact Z_zreturn (st := []) hC hr rfl hQ (dk d_X5_isBack 20 rfl)
    · have h := it_f h c
      refine Z_aload_n hC (dk d_X5_isBack 11 rfl) 22 rfl rfl rfl ?_
      refine G_X5_36 hC m_5 (dk d_X5_isBack 12 rfl) 25 rfl ?_
      refine Z_iload_n hC (dk d_X5_isBack 13 rfl) 26 rfl rfl rfl ?_
      obtain ⟨g3, h⟩ := gd_some h
      refine Z_iaload hC m_36 (by decide) rfl g3 (dk d_X5_isBack 14 rfl) 27 rfl ?_
      refine Z_iconst (v := 4) hC (dk d_X5_isBack 15 rfl) 28 rfl (by decide) ?_
      refine Z_icmp_eq hC (dk d_X5_isBack 16 rfl) 31 35 rfl (by decide) (fun c => ?_) (fun c => ?_)
      · have h := it_t h c
        refine Z_iconst (v := 0) hC (dk d_X5_isBack 19 rfl) 36 rfl (by decide) ?_
        obtain rfl := Option.some.inj h
        exact Z_zreturn (st := []) hC hr rfl hQ (dk d_X5_isBack 20 rfl)
      · have h := it_f h c
        refine Z_iconst (v := 1) hC (dk d_X5_isBack 17 rfl) 32 rfl (by decide) ?_
        refine Z_goto hC (dk d_X5_isBack 18 rfl) 36 (by decide) ?_
        obtain rfl := Option.some.inj h
        exact Z_zreturn (st := []) hC hr rfl hQ (dk d_X5_isBack 20 rfl)
def t_X5_ringOf : List (Nat × Instr × Nat) := [(0, .iconst 1, 1), (1, .istore_n 2, 1), (2, .aload_n 0, 1), (3, .getfield 48, 3), (6, .iload_n 1, 1), (7, .iaload, 1), (8, .istore_n 3, 1), (9, .iload_n 3, 1), (10, .iload_n 1, 1), (11, .if_icmp .eq 16, 3), (14, .aload_n 0, 1), (15, .getfield 48, 3), (18, .iload_n 3, 1), (19, .iaload, 1), (20, .istore_n 3, 1), (21, .iinc 2 1, 3), (24, .goto (-15), 3), (27, .iload_n 2, 1), (28, .ireturn, 1)]
set_option maxRecDepth 20000 in
theorem d_X5_ringOf : ∀ q ∈ t_X5_ringOf, decode cX5_ringOf q.1 = .ok q.2 := by decide +kernel
noncomputable def X5_ringOf_L1 (N : Nat) (x1 : Int32) : Nat → Int32 → Int32 → Wd → Option (Int32 × Wd)
  | 0, _, _, _ => none
  | n + 1, x2, x3, w =>
  if x3 = x1 then
    some (x2, w)
  else
    gd (vp_in x3 6) (
    X5_ringOf_L1 N x1 n (x2 + (1 : Int32)) (gA w 40 0 x3.toNatClampNeg) w)
set_option maxRecDepth 20000 in
set_option maxHeartbeats 4000000 in
theorem z_X5_ringOf_L1 {x : CX} (hC : Cx x RX5 cX5_ringOf 4 0) (hr : (xM x).sig.returnType = (some .int)) (N : Nat) (x1 : Int32) : ∀ (n : Nat) (x2 : Int32) (x3 : Int32) (w : Wd) (q : (Int32 × Wd)), X5_ringOf_L1 N x1 n x2 x3 w = some q → Z x 27 [none, none, some (vi q.1), none] [] q.2 → Z x 9 [some (vr 5 0), some (vi x1), some (vi x2), some (vi x3)] [] w := by
  intro n
  induction n with
  | zero =>
    intro x2 x3 w q h
    cases h
  | succ n ih =>
    intro x2 x3 w q h ke
    rw [X5_ringOf_L1] at h
    refine Z_iload_n hC (dk d_X5_ringOf 7 rfl) 10 rfl rfl rfl ?_
    refine Z_iload_n hC (dk d_X5_ringOf 8 rfl) 11 rfl rfl rfl ?_
    refine Z_icmp_eq hC (dk d_X5_ringOf 9 rfl) 14 27 rfl (by decide) (fun c => ?_) (fun c => ?_)
    · have h := it_t h c
      obtain rfl := Option.some.inj h
      refine Z_wk [false, false, true, false] [none, none, some (vi x2), none] rfl ?_
      exact ke
    · have h := it_f h c
      refine Z_aload_n hC (dk d_X5_ringOf 10 rfl) 15 rfl rfl rfl ?_
      refine G_X5_48 hC m_5 (dk d_X5_ringOf 11 rfl) 18 rfl ?_
      refine Z_iload_n hC (dk d_X5_ringOf 12 rfl) 19 rfl rfl rfl ?_
      obtain ⟨g2, h⟩ := gd_some h
      refine Z_iaload hC m_40 (by decide) rfl g2 (dk d_X5_ringOf 13 rfl) 20 rfl ?_
      refine Z_istore_n hC (dk d_X5_ringOf 14 rfl) 21 rfl rfl (Nat.le_of_ble_eq_true rfl) [some (vr 5 0), some (vi x1), some (vi x2), some (vi (gA w 40 0 x3.toNatClampNeg))] rfl ?_
      refine Z_iinc hC (dk d_X5_ringOf 15 rfl) 24 rfl rfl rfl [some (vr 5 0), some (vi x1), some (vi (x2 + (1 : Int32))), some (vi (gA w 40 0 x3.toNatClampNeg))] rfl ?_
      refine Z_goto hC (dk d_X5_ringOf 16 rfl) 9 (by decide) ?_
      refine Z_wk [true, true, true, true] [some (vr 5 0), some (vi x1), some (vi (x2 + (1 : Int32))), some (vi (gA w 40 0 x3.toNatClampNeg))] rfl ?_
      exact ih (x2 + (1 : Int32)) (gA w 40 0 x3.toNatClampNeg) w _ h ke
noncomputable def f_X5_ringOf (N : Nat) (a1 : Int32) (w : Wd) : Option (Int32 × Wd) :=
  gd (vp_in a1 6) (
  (X5_ringOf_L1 N a1 N (1 : Int32) (gA w 40 0 a1.toNatClampNeg) w).bind (fun q3 =>
    some (q3.1, q3.2)))
set_option maxRecDepth 20000 in
set_option maxHeartbeats 4000000 in
theorem s_X5_ringOf (G : GT) (l : Launch) (N : Nat) (a1 : Int32) (w : Wd) (q : Int32 × Wd) (h : f_X5_ringOf N a1 w = some q) : Sp G l yX5_ringOf cw_X5_ringOf 0 [vr 5 0, vi a1] w (some (vi q.1)) q.2 := by
  refine Sp_of (own := RX5) [some (vr 5 0), some (vi a1), none, none] (by decide) rfl rfl (Nat.le_of_ble_eq_true rfl) ?_
  intro x hG hl hC hr hQ _ _
  subst hG
  subst hl
  unfold f_X5_ringOf at h
  refine Z_iconst (v := 1) hC (dk d_X5_ringOf 0 rfl) 1 rfl (by decide) ?_
  refine Z_istore_n hC (dk d_X5_ringOf 1 rfl) 2 rfl rfl (Nat.le_of_ble_eq_true rfl) [some (vr 5 0), some (vi a1), some (vi (1 : Int32)), none] rfl ?_
  refine Z_aload_n hC (dk d_X5_ringOf 2 rfl) 3 rfl rfl rfl ?_
  refine G_X5_48 hC m_5 (dk d_X5_ringOf 3 rfl) 6 rfl ?_
  refine Z_iload_n hC (dk d_X5_ringOf 4 rfl) 7 rfl rfl rfl ?_
  obtain ⟨g1, h⟩ := gd_some h
  refine Z_iaload hC m_40 (by decide) rfl g1 (dk d_X5_ringOf 5 rfl) 8 rfl ?_
  refine Z_istore_n hC (dk d_X5_ringOf 6 rfl) 9 rfl rfl (Nat.le_of_ble_eq_true rfl) [some (vr 5 0), some (vi a1), some (vi (1 : Int32)), some (vi (gA w 40 0 a1.toNatClampNeg))] rfl ?_
  obtain ⟨q3, hq3, h⟩ := bd_some h
  refine Z_wk [true, true, true, true] [some (vr 5 0), some (vi a1), some (vi (1 : Int32)), some (vi (gA w 40 0 a1.toNatClampNeg))] rfl ?_
  refine z_X5_ringOf_L1 hC hr N a1 N (1 : Int32) (gA w 40 0 a1.toNatClampNeg) w q3 hq3 ?_
  refine Z_iload_n hC (dk d_X5_ringOf 17 rfl) 28 rfl rfl rfl ?_
  obtain rfl := Option.some.inj h
  exact Z_ireturn (st := []) hC hr hQ (dk d_X5_ringOf 18 rfl)
def t_X5_ringsOf : List (Nat × Instr × Nat) := [(0, .iconst 0, 1), (1, .istore_n 1, 1), (2, .iconst 0, 1), (3, .istore_n 2, 1), (4, .iconst 0, 1), (5, .istore_n 3, 1), (6, .iload_n 3, 1), (7, .aload_n 0, 1), (8, .getfield 125, 3), (11, .if_icmp .ge 56, 3), (14, .iload_n 2, 1), (15, .iload_n 1, 1), (16, .iload_n 3, 1), (17, .invokestatic 147, 3), (20, .ifCond .eq 7, 3), (23, .iconst 0, 1), (24, .goto 4, 3), (27, .iconst 1, 1), (28, .iadd, 1), (29, .istore_n 2, 1), (30, .iload_n 3, 1), (31, .istore 4, 2), (33, .iload_n 1, 1), (34, .iload 4, 2), (36, .invokestatic 147, 3), (39, .ifCond .ne 22, 3), (42, .iload_n 1, 1), (43, .iconst 1, 1), (44, .iload 4, 2), (46, .ishl, 1), (47, .ior, 1), (48, .istore_n 1, 1), (49, .aload_n 0, 1), (50, .getfield 48, 3), (53, .iload 4, 2), (55, .iaload, 1), (56, .istore 4, 2), (58, .goto (-25), 3), (61, .iinc 3 1, 3), (64, .goto (-58), 3), (67, .iload_n 2, 1), (68, .ireturn, 1)]
set_option maxRecDepth 20000 in
theorem d_X5_ringsOf : ∀ q ∈ t_X5_ringsOf, decode cX5_ringsOf q.1 = .ok q.2 := by decide +kernel
noncomputable def X5_ringsOf_L2 (N : Nat) (x2 : Int32) (x3 : Int32) : Nat → Int32 → Int32 → Wd → Option (Int32 × Wd)
  | 0, _, _, _ => none
  | n + 1, x1, x4, w =>
  (f_X5_has N x1 x4 w).bind (fun q2 =>
    if q2.1 = 0 then
      gd (vp_in x4 6) (
      X5_ringsOf_L2 N x2 x3 n (x1 ||| ((1 : Int32) <<< (x4 &&& (31 : Int32)))) (gA q2.2 40 0 x4.toNatClampNeg) q2.2)
    else
      some (x1, q2.2))
set_option maxRecDepth 20000 in
set_option maxHeartbeats 4000000 in
theorem z_X5_ringsOf_L2 {x : CX} (hC : Cx x RX5 cX5_ringsOf 5 1) (hr : (xM x).sig.returnType = (some .int)) (N : Nat) (x2 : Int32) (x3 : Int32) : ∀ (n : Nat) (x1 : Int32) (x4 : Int32) (w : Wd) (q : (Int32 × Wd)), X5_ringsOf_L2 N x2 x3 n x1 x4 w = some q → Z x 61 [some (vr 5 0), some (vi q.1), some (vi x2), some (vi x3), none] [] q.2 → Z x 33 [some (vr 5 0), some (vi x1), some (vi x2), some (vi x3), some (vi x4)] [] w := by
  intro n
  induction n with
  | zero =>
    intro x1 x4 w q h
    cases h
  | succ n ih =>
    intro x1 x4 w q h ke
    rw [X5_ringsOf_L2] at h
    refine Z_iload_n hC (dk d_X5_ringsOf 22 rfl) 34 rfl rfl rfl ?_
    refine Z_iload hC (dk d_X5_ringsOf 23 rfl) 36 rfl rfl ?_
    obtain ⟨q2, hq2, h⟩ := bd_some h
    refine K_X5_147 [vi x1, vi x4] hC (s_X5_has (xG x) (xl x) N x1 x4 w q2 hq2) (Nat.le_of_ble_eq_true rfl) rfl rfl rfl (Nat.le_of_ble_eq_true rfl) (dk d_X5_ringsOf 24 rfl) 39 rfl ?_
    refine Z_if_ne hC (dk d_X5_ringsOf 25 rfl) 42 61 rfl (by decide) (fun c => ?_) (fun c => ?_)
    · have h := it_f h c
      obtain rfl := Option.some.inj h
      refine Z_wk [true, true, true, true, false] [some (vr 5 0), some (vi x1), some (vi x2), some (vi x3), none] rfl ?_
      exact ke
    · have h := it_t h c
      refine Z_iload_n hC (dk d_X5_ringsOf 26 rfl) 43 rfl rfl rfl ?_
      refine Z_iconst (v := 1) hC (dk d_X5_ringsOf 27 rfl) 44 rfl (by decide) ?_
      refine Z_iload hC (dk d_X5_ringsOf 28 rfl) 46 rfl rfl ?_
      refine Z_ishl hC (dk d_X5_ringsOf 29 rfl) 47 rfl ?_
      refine Z_ior hC (dk d_X5_ringsOf 30 rfl) 48 rfl ?_
      refine Z_istore_n hC (dk d_X5_ringsOf 31 rfl) 49 rfl rfl (Nat.le_of_ble_eq_true rfl) [some (vr 5 0), some (vi (x1 ||| ((1 : Int32) <<< (x4 &&& (31 : Int32))))), some (vi x2), some (vi x3), some (vi x4)] rfl ?_
      refine Z_aload_n hC (dk d_X5_ringsOf 32 rfl) 50 rfl rfl rfl ?_
      refine G_X5_48 hC m_5 (dk d_X5_ringsOf 33 rfl) 53 rfl ?_
      refine Z_iload hC (dk d_X5_ringsOf 34 rfl) 55 rfl rfl ?_
      obtain ⟨g3, h⟩ := gd_some h
      refine Z_iaload hC m_40 (by decide) rfl g3 (dk d_X5_ringsOf 35 rfl) 56 rfl ?_
      refine Z_istore hC (dk d_X5_ringsOf 36 rfl) 58 rfl (Nat.le_of_ble_eq_true rfl) [some (vr 5 0), some (vi (x1 ||| ((1 : Int32) <<< (x4 &&& (31 : Int32))))), some (vi x2), some (vi x3), some (vi (gA q2.2 40 0 x4.toNatClampNeg))] rfl ?_
      refine Z_goto hC (dk d_X5_ringsOf 37 rfl) 33 (by decide) ?_
      refine Z_wk [true, true, true, true, true] [some (vr 5 0), some (vi (x1 ||| ((1 : Int32) <<< (x4 &&& (31 : Int32))))), some (vi x2), some (vi x3), some (vi (gA q2.2 40 0 x4.toNatClampNeg))] rfl ?_
      exact ih (x1 ||| ((1 : Int32) <<< (x4 &&& (31 : Int32)))) (gA q2.2 40 0 x4.toNatClampNeg) q2.2 _ h ke
noncomputable def X5_ringsOf_J28 (N : Nat) (go : Int32 → Int32 → Int32 → Wd → Option (Int32 × Wd)) (x1 : Int32) (x3 : Int32) (s0 : Int32) (s1 : Int32) (w : Wd) : Option (Int32 × Wd) :=
  (X5_ringsOf_L2 N (s0 + s1) x3 N x1 x3 w).bind (fun q4 =>
    go q4.1 (s0 + s1) (x3 + (1 : Int32)) q4.2)
set_option maxRecDepth 20000 in
set_option maxHeartbeats 4000000 in
theorem z_X5_ringsOf_J28 {x : CX} (hC : Cx x RX5 cX5_ringsOf 5 1) (hr : (xM x).sig.returnType = (some .int)) (N : Nat) (x1 : Int32) (x3 : Int32) (s0 : Int32) (s1 : Int32) {go : Int32 → Int32 → Int32 → Wd → Option (Int32 × Wd)} (hgo : ∀ (x1 : Int32) (x2 : Int32) (x3 : Int32) (w : Wd) (q : (Int32 × Wd)), go x1 x2 x3 w = some q → Z x 67 [none, none, some (vi q.1), none, none] [] q.2 → Z x 6 [some (vr 5 0), some (vi x1), some (vi x2), some (vi x3), none] [] w) (w : Wd) (q : (Int32 × Wd)) (h : X5_ringsOf_J28 N go x1 x3 s0 s1 w = some q) (ke : Z x 67 [none, none, some (vi q.1), none, none] [] q.2) : Z x 28 [some (vr 5 0), some (vi x1), none, some (vi x3), none] [vi s1, vi s0] w := by
  unfold X5_ringsOf_J28 at h
  refine Z_iadd hC (dk d_X5_ringsOf 18 rfl) 29 rfl ?_
  refine Z_istore_n hC (dk d_X5_ringsOf 19 rfl) 30 rfl rfl (Nat.le_of_ble_eq_true rfl) [some (vr 5 0), some (vi x1), some (vi (s0 + s1)), some (vi x3), none] rfl ?_
  refine Z_iload_n hC (dk d_X5_ringsOf 20 rfl) 31 rfl rfl rfl ?_
  refine Z_istore hC (dk d_X5_ringsOf 21 rfl) 33 rfl (Nat.le_of_ble_eq_true rfl) [some (vr 5 0), some (vi x1), some (vi (s0 + s1)), some (vi x3), some (vi x3)] rfl ?_
  obtain ⟨q4, hq4, h⟩ := bd_some h
  refine Z_wk [true, true, true, true, true] [some (vr 5 0), some (vi x1), some (vi (s0 + s1)), some (vi x3), some (vi x3)] rfl ?_
  refine z_X5_ringsOf_L2 hC hr N (s0 + s1) x3 N x1 x3 w q4 hq4 ?_
  refine Z_iinc hC (dk d_X5_ringsOf 38 rfl) 64 rfl rfl rfl [some (vr 5 0), some (vi q4.1), some (vi (s0 + s1)), some (vi (x3 + (1 : Int32))), none] rfl ?_
  refine Z_goto hC (dk d_X5_ringsOf 39 rfl) 6 (by decide) ?_
  refine Z_wk [true, true, true, true, false] [some (vr 5 0), some (vi q4.1), some (vi (s0 + s1)), some (vi (x3 + (1 : Int32))), none] rfl ?_
  exact hgo q4.1 (s0 + s1) (x3 + (1 : Int32)) q4.2 _ h ke
noncomputable def X5_ringsOf_L1 (N : Nat) : Nat → Int32 → Int32 → Int32 → Wd → Option (Int32 × Wd)
  | 0, _, _, _, _ => none
  | n + 1, x1, x2, x3, w =>
  if (gI w 510 0) ≤ x3 then
    some (x2, w)
  else
    (f_X5_has N x1 x3 w).bind (fun q1 =>
      if q1.1 = 0 then
        X5_ringsOf_J28 N (X5_ringsOf_L1 N n) x1 x3 x2 (1 : Int32) q1.2
      else
        X5_ringsOf_J28 N (X5_ringsOf_L1 N n) x1 x3 x2 (0 : Int32) q1.2)
set_option maxRecDepth 20000 in
set_option maxHeartbeats 4000000 in
theorem z_X5_ringsOf_L1 {x : CX} (hC : Cx x RX5 cX5_ringsOf 5 1) (hr : (xM x).sig.returnType = (some .int)) (N : Nat) : ∀ (n : Nat) (x1 : Int32) (x2 : Int32) (x3 : Int32) (w : Wd) (q : (Int32 × Wd)), X5_ringsOf_L1 N n x1 x2 x3 w = some q → Z x 67 [none, none, some (vi q.1), none, none] [] q.2 → Z x 6 [some (vr 5 0), some (vi x1), some (vi x2), some (vi x3), none] [] w := by
  intro n
  induction n with
  | zero =>
    intro x1 x2 x3 w q h
    cases h
  | succ n ih =>
    intro x1 x2 x3 w q h ke
    rw [X5_ringsOf_L1] at h
    refine Z_iload_n hC (dk d_X5_ringsOf 6 rfl) 7 rfl rfl rfl ?_
    refine Z_aload_n hC (dk d_X5_ringsOf 7 rfl) 8 rfl rfl rfl ?_
    refine G_X5_125 hC m_5 (dk d_X5_ringsOf 8 rfl) 11 rfl ?_
    refine Z_icmp_ge hC (dk d_X5_ringsOf 9 rfl) 14 67 rfl (by decide) (fun c => ?_) (fun c => ?_)
    · have h := it_t h c
      obtain rfl := Option.some.inj h
      refine Z_wk [false, false, true, false, false] [none, none, some (vi x2), none, none] rfl ?_
      exact ke
    · have h := it_f h c
      refine Z_iload_n hC (dk d_X5_ringsOf 10 rfl) 15 rfl rfl rfl ?_
      refine Z_iload_n hC (dk d_X5_ringsOf 11 rfl) 16 rfl rfl rfl ?_
      refine Z_iload_n hC (dk d_X5_ringsOf 12 rfl) 17 rfl rfl rfl ?_
      obtain ⟨q1, hq1, h⟩ := bd_some h
      refine K_X5_147 [vi x1, vi x3] hC (s_X5_has (xG x) (xl x) N x1 x3 w q1 hq1) (Nat.le_of_ble_eq_true rfl) rfl rfl rfl (Nat.le_of_ble_eq_true rfl) (dk d_X5_ringsOf 13 rfl) 20 rfl ?_
      refine Z_if_eq hC (dk d_X5_ringsOf 14 rfl) 23 27 rfl (by decide) (fun c => ?_) (fun c => ?_)
      · have h := it_t h c
        refine Z_iconst (v := 1) hC (dk d_X5_ringsOf 17 rfl) 28 rfl (by decide) ?_
        refine Z_wk [true, true, false, true, false] [some (vr 5 0), some (vi x1), none, some (vi x3), none] rfl ?_
        exact z_X5_ringsOf_J28 hC hr N x1 x3 x2 (1 : Int32) ih q1.2 _ h ke
      · have h := it_f h c
        refine Z_iconst (v := 0) hC (dk d_X5_ringsOf 15 rfl) 24 rfl (by decide) ?_
        refine Z_goto hC (dk d_X5_ringsOf 16 rfl) 28 (by decide) ?_
        refine Z_wk [true, true, false, true, false] [some (vr 5 0), some (vi x1), none, some (vi x3), none] rfl ?_
        exact z_X5_ringsOf_J28 hC hr N x1 x3 x2 (0 : Int32) ih q1.2 _ h ke
noncomputable def f_X5_ringsOf (N : Nat) (w : Wd) : Option (Int32 × Wd) :=
  (X5_ringsOf_L1 N N (0 : Int32) (0 : Int32) (0 : Int32) w).bind (fun q5 =>
    some (q5.1, q5.2))
set_option maxRecDepth 20000 in
set_option maxHeartbeats 4000000 in
theorem s_X5_ringsOf (G : GT) (l : Launch) (N : Nat) (w : Wd) (q : Int32 × Wd) (h : f_X5_ringsOf N w = some q) : Sp G l yX5_ringsOf cw_X5_ringsOf 1 [vr 5 0] w (some (vi q.1)) q.2 := by
  refine Sp_of (own := RX5) [some (vr 5 0), none, none, none, none] (by decide) rfl rfl (Nat.le_of_ble_eq_true rfl) ?_
  intro x hG hl hC hr hQ _ _
  subst hG
  subst hl
  unfold f_X5_ringsOf at h
  refine Z_iconst (v := 0) hC (dk d_X5_ringsOf 0 rfl) 1 rfl (by decide) ?_
  refine Z_istore_n hC (dk d_X5_ringsOf 1 rfl) 2 rfl rfl (Nat.le_of_ble_eq_true rfl) [some (vr 5 0), some (vi (0 : Int32)), none, none, none] rfl ?_
  refine Z_iconst (v := 0) hC (dk d_X5_ringsOf 2 rfl) 3 rfl (by decide) ?_
  refine Z_istore_n hC (dk d_X5_ringsOf 3 rfl) 4 rfl rfl (Nat.le_of_ble_eq_true rfl) [some (vr 5 0), some (vi (0 : Int32)), some (vi (0 : Int32)), none, none] rfl ?_
  refine Z_iconst (v := 0) hC (dk d_X5_ringsOf 4 rfl) 5 rfl (by decide) ?_
  refine Z_istore_n hC (dk d_X5_ringsOf 5 rfl) 6 rfl rfl (Nat.le_of_ble_eq_true rfl) [some (vr 5 0), some (vi (0 : Int32)), some (vi (0 : Int32)), some (vi (0 : Int32)), none] rfl ?_
  obtain ⟨q5, hq5, h⟩ := bd_some h
  refine Z_wk [true, true, true, true, false] [some (vr 5 0), some (vi (0 : Int32)), some (vi (0 : Int32)), some (vi (0 : Int32)), none] rfl ?_
  refine z_X5_ringsOf_L1 hC hr N N (0 : Int32) (0 : Int32) (0 : Int32) w q5 hq5 ?_
  refine Z_iload_n hC (dk d_X5_ringsOf 40 rfl) 68 rfl rfl rfl ?_
  obtain rfl := Option.some.inj h
  exact Z_ireturn (st := []) hC hr hQ (dk d_X5_ringsOf 41 rfl)
def t_X5_badBy : List (Nat × Instr × Nat) := [(0, .iconst 0, 1), (1, .istore_n 1, 1), (2, .iload_n 1, 1), (3, .aload_n 0, 1), (4, .getfield 125, 3), (7, .if_icmp .ge 63, 3), (10, .aload_n 0, 1), (11, .iload_n 1, 1), (12, .putfield 159, 3), (15, .aload_n 0, 1), (16, .iload_n 1, 1), (17, .aload_n 0, 1), (18, .getfield 48, 3), (21, .iload_n 1, 1), (22, .iaload, 1), (23, .invokevirtual 150, 3), (26, .istore_n 2, 1), (27, .iload_n 2, 1), (28, .ifCond .eq 5, 3), (31, .iload_n 2, 1), (32, .ireturn, 1), (33, .aload_n 0, 1), (34, .getfield 48, 3), (37, .aload_n 0, 1), (38, .getfield 48, 3), (41, .iload_n 1, 1), (42, .iaload, 1), (43, .iaload, 1), (44, .iload_n 1, 1), (45, .if_icmp .ne 19, 3), (48, .aload_n 0, 1), (49, .iload_n 1, 1), (50, .aload_n 0, 1), (51, .getfield 48, 3), (54, .iload_n 1, 1), (55, .iaload, 1), (56, .invokevirtual 162, 3), (59, .ifCond .eq 5, 3), (62, .iconst 5, 1), (63, .ireturn, 1), (64, .iinc 1 1, 3), (67, .goto (-65), 3), (70, .aload_n 0, 1), (71, .iconst 0, 1), (72, .putfield 159, 3), (75, .aload_n 0, 1), (76, .getfield 32, 3), (79, .iconst 3, 1), (80, .invokestatic 147, 3), (83, .ifCond .eq 16, 3), (86, .aload_n 0, 1), (87, .invokevirtual 165, 3), (90, .iconst 1, 1), (91, .if_icmp .le 8, 3), (94, .bipush 6, 2), (96, .goto 4, 3), (99, .iconst 0, 1), (100, .ireturn, 1)]
set_option maxRecDepth 20000 in
theorem d_X5_badBy : ∀ q ∈ t_X5_badBy, decode cX5_badBy q.1 = .ok q.2 := by decide +kernel
noncomputable def X5_badBy_L1 (N : Nat) : Nat → Int32 → Wd → Option ((Int32 × Wd) ⊕ (Wd))
  | 0, _, _ => none
  | n + 1, x1, w =>
  if (gI w 510 0) ≤ x1 then
    some (.inr w)
  else
    gd (vp_in x1 6) (
    (f_X5_barOf N x1 (gA (sI w 520 0 x1) 40 0 x1.toNatClampNeg) (sI w 520 0 x1)).bind (fun q2 =>
      if q2.1 = 0 then
        gd (vp_in x1 6) (
        gd (vp_in (gA q2.2 40 0 x1.toNatClampNeg) 6) (
        if (gA q2.2 40 0 (gA q2.2 40 0 x1.toNatClampNeg).toNatClampNeg) = x1 then
          gd (vp_in x1 6) (
          (f_X5_isBack N x1 (gA q2.2 40 0 x1.toNatClampNeg) q2.2).bind (fun q6 =>
            if q6.1 = 0 then
              X5_badBy_L1 N n (x1 + (1 : Int32)) q6.2
            else
              some (.inl ((5 : Int32), q6.2))))
        else
          X5_badBy_L1 N n (x1 + (1 : Int32)) q2.2))
      else
        some (.inl (q2.1, q2.2))))
set_option maxRecDepth 20000 in
set_option maxHeartbeats 4000000 in
theorem z_X5_badBy_L1 {x : CX} (hC : Cx x RX5 cX5_badBy 3 2) (hr : (xM x).sig.returnType = (some .int)) (N : Nat) : ∀ (n : Nat) (x1 : Int32) (w : Wd) (q : ((Int32 × Wd) ⊕ (Wd))), X5_badBy_L1 N n x1 w = some q → (∀ r : Int32 × Wd, q = .inl r → Rt x (some (vi r.1)) r.2) → (∀ o : Wd, q = .inr o → Z x 70 [some (vr 5 0), none, none] [] o) → Z x 2 [some (vr 5 0), some (vi x1), none] [] w := by
  intro n
  induction n with
  | zero =>
    intro x1 w q h
    cases h
  | succ n ih =>
    intro x1 w q h kr ke
    rw [X5_badBy_L1] at h
    refine Z_iload_n hC (dk d_X5_badBy 2 rfl) 3 rfl rfl rfl ?_
    refine Z_aload_n hC (dk d_X5_badBy 3 rfl) 4 rfl rfl rfl ?_
    refine G_X5_125 hC m_5 (dk d_X5_badBy 4 rfl) 7 rfl ?_
    refine Z_icmp_ge hC (dk d_X5_badBy 5 rfl) 10 70 rfl (by decide) (fun c => ?_) (fun c => ?_)
    · have h := it_t h c
      obtain rfl := Option.some.inj h
      refine Z_wk [true, false, false] [some (vr 5 0), none, none] rfl ?_
      exact ke _ rfl
    · have h := it_f h c
      refine Z_aload_n hC (dk d_X5_badBy 6 rfl) 11 rfl rfl rfl ?_
      refine Z_iload_n hC (dk d_X5_badBy 7 rfl) 12 rfl rfl rfl ?_
      refine P_X5_159 hC m_5 (dk d_X5_badBy 8 rfl) 15 rfl ?_
      refine Z_aload_n hC (dk d_X5_badBy 9 rfl) 16 rfl rfl rfl ?_
      refine Z_iload_n hC (dk d_X5_badBy 10 rfl) 17 rfl rfl rfl ?_
      refine Z_aload_n hC (dk d_X5_badBy 11 rfl) 18 rfl rfl rfl ?_
      refine G_X5_48 hC m_5 (dk d_X5_badBy 12 rfl) 21 rfl ?_
      refine Z_iload_n hC (dk d_X5_badBy 13 rfl) 22 rfl rfl rfl ?_
      obtain ⟨g1, h⟩ := gd_some h
      refine Z_iaload hC m_40 (by decide) rfl g1 (dk d_X5_badBy 14 rfl) 23 rfl ?_
      obtain ⟨q2, hq2, h⟩ := bd_some h
      refine K_X5_150 [vi x1, vi (gA (sI w 520 0 x1) 40 0 x1.toNatClampNeg)] hC m_5 (s_X5_barOf (xG x) (xl x) N x1 (gA (sI w 520 0 x1) 40 0 x1.toNatClampNeg) (sI w 520 0 x1) q2 hq2) (Nat.le_of_ble_eq_true rfl) rfl rfl rfl (Nat.le_of_ble_eq_true rfl) (dk d_X5_badBy 15 rfl) 26 rfl ?_
      refine Z_istore_n hC (dk d_X5_badBy 16 rfl) 27 rfl rfl (Nat.le_of_ble_eq_true rfl) [some (vr 5 0), some (vi x1), some (vi q2.1)] rfl ?_
      refine Z_iload_n hC (dk d_X5_badBy 17 rfl) 28 rfl rfl rfl ?_
      refine Z_if_eq hC (dk d_X5_badBy 18 rfl) 31 33 rfl (by decide) (fun c => ?_) (fun c => ?_)
      · have h := it_t h c
        refine Z_aload_n hC (dk d_X5_badBy 21 rfl) 34 rfl rfl rfl ?_
        refine G_X5_48 hC m_5 (dk d_X5_badBy 22 rfl) 37 rfl ?_
        refine Z_aload_n hC (dk d_X5_badBy 23 rfl) 38 rfl rfl rfl ?_
        refine G_X5_48 hC m_5 (dk d_X5_badBy 24 rfl) 41 rfl ?_
        refine Z_iload_n hC (dk d_X5_badBy 25 rfl) 42 rfl rfl rfl ?_
        obtain ⟨g3, h⟩ := gd_some h
        refine Z_iaload hC m_40 (by decide) rfl g3 (dk d_X5_badBy 26 rfl) 43 rfl ?_
        obtain ⟨g4, h⟩ := gd_some h
        refine Z_iaload hC m_40 (by decide) rfl g4 (dk d_X5_badBy 27 rfl) 44 rfl ?_
        refine Z_iload_n hC (dk d_X5_badBy 28 rfl) 45 rfl rfl rfl ?_
        refine Z_icmp_ne hC (dk d_X5_badBy 29 rfl) 48 64 rfl (by decide) (fun c => ?_) (fun c => ?_)
        · have h := it_f h c
          refine Z_iinc hC (dk d_X5_badBy 40 rfl) 67 rfl rfl rfl [some (vr 5 0), some (vi (x1 + (1 : Int32))), some (vi q2.1)] rfl ?_
          refine Z_goto hC (dk d_X5_badBy 41 rfl) 2 (by decide) ?_
          refine Z_wk [true, true, false] [some (vr 5 0), some (vi (x1 + (1 : Int32))), none] rfl ?_
          exact ih (x1 + (1 : Int32)) q2.2 _ h kr ke
        · have h := it_t h c
          refine Z_aload_n hC (dk d_X5_badBy 30 rfl) 49 rfl rfl rfl ?_
          refine Z_iload_n hC (dk d_X5_badBy 31 rfl) 50 rfl rfl rfl ?_
          refine Z_aload_n hC (dk d_X5_badBy 32 rfl) 51 rfl rfl rfl ?_
          refine G_X5_48 hC m_5 (dk d_X5_badBy 33 rfl) 54 rfl ?_
          refine Z_iload_n hC (dk d_X5_badBy 34 rfl) 55 rfl rfl rfl ?_
          obtain ⟨g5, h⟩ := gd_some h
          refine Z_iaload hC m_40 (by decide) rfl g5 (dk d_X5_badBy 35 rfl) 56 rfl ?_
          obtain ⟨q6, hq6, h⟩ := bd_some h
          refine K_X5_162 [vi x1, vi (gA q2.2 40 0 x1.toNatClampNeg)] hC m_5 (s_X5_isBack (xG x) (xl x) N x1 (gA q2.2 40 0 x1.toNatClampNeg) q2.2 q6 hq6) (Nat.le_of_ble_eq_true rfl) rfl rfl rfl (Nat.le_of_ble_eq_true rfl) (dk d_X5_badBy 36 rfl) 59 rfl ?_
          refine Z_if_eq hC (dk d_X5_badBy 37 rfl) 62 64 rfl (by decide) (fun c => ?_) (fun c => ?_)
          · have h := it_t h c
            refine Z_iinc hC (dk d_X5_badBy 40 rfl) 67 rfl rfl rfl [some (vr 5 0), some (vi (x1 + (1 : Int32))), some (vi q2.1)] rfl ?_
            refine Z_goto hC (dk d_X5_badBy 41 rfl) 2 (by decide) ?_
            refine Z_wk [true, true, false] [some (vr 5 0), some (vi (x1 + (1 : Int32))), none] rfl ?_
            exact ih (x1 + (1 : Int32)) q6.2 _ h kr ke
          · have h := it_f h c
            refine Z_iconst (v := 5) hC (dk d_X5_badBy 38 rfl) 63 rfl (by decide) ?_
            obtain rfl := Option.some.inj h
            exact Z_ireturn (st := []) hC hr (kr _ rfl) (dk d_X5_badBy 39 rfl)
      · have h := it_f h c
        refine Z_iload_n hC (dk d_X5_badBy 19 rfl) 32 rfl rfl rfl ?_
        obtain rfl := Option.some.inj h
        exact Z_ireturn (st := []) hC hr (kr _ rfl) (dk d_X5_badBy 20 rfl)
noncomputable def f_X5_badBy (N : Nat) (w : Wd) : Option (Int32 × Wd) :=
  (X5_badBy_L1 N N (0 : Int32) w).bind (Sum.elim some (fun q7 =>
    (f_X5_has N (gI (sI q7 520 0 (0 : Int32)) 511 0) (3 : Int32) (sI q7 520 0 (0 : Int32))).bind (fun q8 =>
      if q8.1 = 0 then
        some ((0 : Int32), q8.2)
      else
        (f_X5_ringsOf N q8.2).bind (fun q9 =>
          if q9.1 ≤ (1 : Int32) then
            some ((0 : Int32), q9.2)
          else
            some ((6 : Int32), q9.2)))))
set_option maxRecDepth 20000 in
set_option maxHeartbeats 4000000 in
theorem s_X5_badBy (G : GT) (l : Launch) (N : Nat) (w : Wd) (q : Int32 × Wd) (h : f_X5_badBy N w = some q) : Sp G l yX5_badBy cw_X5_badBy 2 [vr 5 0] w (some (vi q.1)) q.2 := by
  refine Sp_of (own := RX5) [some (vr 5 0), none, none] (by decide) rfl rfl (Nat.le_of_ble_eq_true rfl) ?_
  intro x hG hl hC hr hQ _ _
  subst hG
  subst hl
  unfold f_X5_badBy at h
  refine Z_iconst (v := 0) hC (dk d_X5_badBy 0 rfl) 1 rfl (by decide) ?_
  refine Z_istore_n hC (dk d_X5_badBy 1 rfl) 2 rfl rfl (Nat.le_of_ble_eq_true rfl) [some (vr 5 0), some (vi (0 : Int32)), none] rfl ?_
  obtain ⟨q7, hq7, h⟩ := bd_some h
  refine Z_wk [true, true, false] [some (vr 5 0), some (vi (0 : Int32)), none] rfl ?_
  refine z_X5_badBy_L1 hC hr N N (0 : Int32) w q7 hq7 (fun r e => ?_) (fun o e => ?_)
  · subst e
    obtain rfl := Option.some.inj h
    exact hQ
  · subst e
    obtain ⟨q7, rfl⟩ : ∃ z, z = o := ⟨_, rfl⟩
    refine Z_aload_n hC (dk d_X5_badBy 42 rfl) 71 rfl rfl rfl ?_
    refine Z_iconst (v := 0) hC (dk d_X5_badBy 43 rfl) 72 rfl (by decide) ?_
    refine P_X5_159 hC m_5 (dk d_X5_badBy 44 rfl) 75 rfl ?_
    refine Z_aload_n hC (dk d_X5_badBy 45 rfl) 76 rfl rfl rfl ?_
    refine G_X5_32 hC m_5 (dk d_X5_badBy 46 rfl) 79 rfl ?_
    refine Z_iconst (v := 3) hC (dk d_X5_badBy 47 rfl) 80 rfl (by decide) ?_
    obtain ⟨q8, hq8, h⟩ := bd_some h
    refine K_X5_147 [vi (gI (sI q7 520 0 (0 : Int32)) 511 0), vi (3 : Int32)] hC (s_X5_has (xG x) (xl x) N (gI (sI q7 520 0 (0 : Int32)) 511 0) (3 : Int32) (sI q7 520 0 (0 : Int32)) q8 hq8) (Nat.le_of_ble_eq_true rfl) rfl rfl rfl (Nat.le_of_ble_eq_true rfl) (dk d_X5_badBy 48 rfl) 83 rfl ?_
    refine Z_if_eq hC (dk d_X5_badBy 49 rfl) 86 99 rfl (by decide) (fun c => ?_) (fun c => ?_)
    · have h := it_t h c
      refine Z_iconst (v := 0) hC (dk d_X5_badBy 56 rfl) 100 rfl (by decide) ?_
      obtain rfl := Option.some.inj h
      exact Z_ireturn (st := []) hC hr hQ (dk d_X5_badBy 57 rfl)
    · have h := it_f h c
      refine Z_aload_n hC (dk d_X5_badBy 50 rfl) 87 rfl rfl rfl ?_
      obtain ⟨q9, hq9, h⟩ := bd_some h
      refine K_X5_165 [] hC m_5 (s_X5_ringsOf (xG x) (xl x) N q8.2 q9 hq9) (Nat.le_of_ble_eq_true rfl) rfl rfl rfl (Nat.le_of_ble_eq_true rfl) (dk d_X5_badBy 51 rfl) 90 rfl ?_
      refine Z_iconst (v := 1) hC (dk d_X5_badBy 52 rfl) 91 rfl (by decide) ?_
      refine Z_icmp_le hC (dk d_X5_badBy 53 rfl) 94 99 rfl (by decide) (fun c => ?_) (fun c => ?_)
      · have h := it_t h c
        refine Z_iconst (v := 0) hC (dk d_X5_badBy 56 rfl) 100 rfl (by decide) ?_
        obtain rfl := Option.some.inj h
        exact Z_ireturn (st := []) hC hr hQ (dk d_X5_badBy 57 rfl)
      · have h := it_f h c
        refine Z_bipush (v := 6) hC (dk d_X5_badBy 54 rfl) 96 rfl (by decide) ?_
        refine Z_goto hC (dk d_X5_badBy 55 rfl) 100 (by decide) ?_
        obtain rfl := Option.some.inj h
        exact Z_ireturn (st := []) hC hr hQ (dk d_X5_badBy 57 rfl)
def t_X5_judge : List (Nat × Instr × Nat) := [(0, .aload_n 0, 1), (1, .iload_n 1, 1), (2, .invokevirtual 169, 3), (5, .istore_n 2, 1), (6, .iload_n 2, 1), (7, .ifCond .ge 5, 3), (10, .iload_n 2, 1), (11, .ireturn, 1), (12, .aload_n 0, 1), (13, .invokevirtual 172, 3), (16, .istore_n 3, 1), (17, .aload_n 0, 1), (18, .iload_n 3, 1), (19, .iload_n 3, 1), (20, .ifCond .ne 10, 3), (23, .aload_n 0, 1), (24, .getfield 125, 3), (27, .goto 7, 3), (30, .aload_n 0, 1), (31, .getfield 159, 3), (34, .invokevirtual 98, 3), (37, .ireturn, 1)]
set_option maxRecDepth 20000 in
theorem d_X5_judge : ∀ q ∈ t_X5_judge, decode cX5_judge q.1 = .ok q.2 := by decide +kernel
noncomputable def f_X5_judge (N : Nat) (a1 : Int32) (w : Wd) : Option (Int32 × Wd) :=
  (f_X5_askedDrawing N a1 w).bind (fun q1 =>
    if 0 ≤ q1.1 then
      (f_X5_badBy N q1.2).bind (fun q2 =>
        if q2.1 = 0 then
          (f_X5_ask N q2.1 (gI q2.2 510 0) q2.2).bind (fun q4 =>
            some (q4.1, q4.2))
        else
          (f_X5_ask N q2.1 (gI q2.2 520 0) q2.2).bind (fun q3 =>
            some (q3.1, q3.2)))
    else
      some (q1.1, q1.2))
set_option maxRecDepth 20000 in
set_option maxHeartbeats 4000000 in
theorem s_X5_judge (G : GT) (l : Launch) (N : Nat) (a1 : Int32) (w : Wd) (q : Int32 × Wd) (h : f_X5_judge N a1 w = some q) : Sp G l yX5_judge cw_X5_judge 4 [vr 5 0, vi a1] w (some (vi q.1)) q.2 := by
  refine Sp_of (own := RX5) [some (vr 5 0), some (vi a1), none, none] (by decide) rfl rfl (Nat.le_of_ble_eq_true rfl) ?_
  intro x hG hl hC hr hQ _ _
  subst hG
  subst hl
  unfold f_X5_judge at h
  refine Z_aload_n hC (dk d_X5_judge 0 rfl) 1 rfl rfl rfl ?_
  refine Z_iload_n hC (dk d_X5_judge 1 rfl) 2 rfl rfl rfl ?_
  obtain ⟨q1, hq1, h⟩ := bd_some h
  refine K_X5_169 [vi a1] hC m_5 (s_X5_askedDrawing (xG x) (xl x) N a1 w q1 hq1) (Nat.le_of_ble_eq_true rfl) rfl rfl rfl (Nat.le_of_ble_eq_true rfl) (dk d_X5_judge 2 rfl) 5 rfl ?_
  refine Z_istore_n hC (dk d_X5_judge 3 rfl) 6 rfl rfl (Nat.le_of_ble_eq_true rfl) [some (vr 5 0), some (vi a1), some (vi q1.1), none] rfl ?_
  refine Z_iload_n hC (dk d_X5_judge 4 rfl) 7 rfl rfl rfl ?_
  refine Z_if_ge hC (dk d_X5_judge 5 rfl) 10 12 rfl (by decide) (fun c => ?_) (fun c => ?_)
  · have h := it_t h c
    refine Z_aload_n hC (dk d_X5_judge 8 rfl) 13 rfl rfl rfl ?_
    obtain ⟨q2, hq2, h⟩ := bd_some h
    refine K_X5_172 [] hC m_5 (s_X5_badBy (xG x) (xl x) N q1.2 q2 hq2) (Nat.le_of_ble_eq_true rfl) rfl rfl rfl (Nat.le_of_ble_eq_true rfl) (dk d_X5_judge 9 rfl) 16 rfl ?_
    refine Z_istore_n hC (dk d_X5_judge 10 rfl) 17 rfl rfl (Nat.le_of_ble_eq_true rfl) [some (vr 5 0), some (vi a1), some (vi q1.1), some (vi q2.1)] rfl ?_
    refine Z_aload_n hC (dk d_X5_judge 11 rfl) 18 rfl rfl rfl ?_
    refine Z_iload_n hC (dk d_X5_judge 12 rfl) 19 rfl rfl rfl ?_
    refine Z_iload_n hC (dk d_X5_judge 13 rfl) 20 rfl rfl rfl ?_
    refine Z_if_ne hC (dk d_X5_judge 14 rfl) 23 30 rfl (by decide) (fun c => ?_) (fun c => ?_)
    · have h := it_f h c
      refine Z_aload_n hC (dk d_X5_judge 18 rfl) 31 rfl rfl rfl ?_
      refine G_X5_159 hC m_5 (dk d_X5_judge 19 rfl) 34 rfl ?_
      obtain ⟨q3, hq3, h⟩ := bd_some h
      refine K_X5_98 [vi q2.1, vi (gI q2.2 520 0)] hC m_5 (s_X5_ask (xG x) (xl x) N q2.1 (gI q2.2 520 0) q2.2 q3 hq3) (Nat.le_of_ble_eq_true rfl) rfl rfl rfl (Nat.le_of_ble_eq_true rfl) (dk d_X5_judge 20 rfl) 37 rfl ?_
      obtain rfl := Option.some.inj h
      exact Z_ireturn (st := []) hC hr hQ (dk d_X5_judge 21 rfl)
    · have h := it_t h c
      refine Z_aload_n hC (dk d_X5_judge 15 rfl) 24 rfl rfl rfl ?_
      refine G_X5_125 hC m_5 (dk d_X5_judge 16 rfl) 27 rfl ?_
      refine Z_goto hC (dk d_X5_judge 17 rfl) 34 (by decide) ?_
      obtain ⟨q4, hq4, h⟩ := bd_some h
      refine K_X5_98 [vi q2.1, vi (gI q2.2 510 0)] hC m_5 (s_X5_ask (xG x) (xl x) N q2.1 (gI q2.2 510 0) q2.2 q4 hq4) (Nat.le_of_ble_eq_true rfl) rfl rfl rfl (Nat.le_of_ble_eq_true rfl) (dk d_X5_judge 20 rfl) 37 rfl ?_
      obtain rfl := Option.some.inj h
      exact Z_ireturn (st := []) hC hr hQ (dk d_X5_judge 21 rfl)
  · have h := it_f h c
    refine Z_iload_n hC (dk d_X5_judge 6 rfl) 11 rfl rfl rfl ?_
    obtain rfl := Option.some.inj h
    exact Z_ireturn (st := []) hC hr hQ (dk d_X5_judge 7 rfl)
