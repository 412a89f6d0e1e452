def t_X5_copy : List (Nat × Instr × Nat) := [(0, .iload_n 1, 1), (1, .invokestatic 76, 3), (4, .ifCond .eq 10, 3), (7, .iload_n 3, 1), (8, .invokestatic 76, 3), (11, .ifCond .ne 5, 3), (14, .iconst (-1), 1), (15, .ireturn, 1), (16, .iload 5, 2), (18, .ifCond .ge 9, 3), (21, .aload_n 0, 1), (22, .iconst 5, 1), (23, .invokevirtual 80, 3), (26, .ireturn, 1), (27, .aload_n 0, 1), (28, .getfield 17, 3), (31, .iload_n 1, 1), (32, .iaload, 1), (33, .ifCond .lt 12, 3), (36, .aload_n 0, 1), (37, .getfield 17, 3), (40, .iload_n 3, 1), (41, .iaload, 1), (42, .ifCond .ge 9, 3), (45, .aload_n 0, 1), (46, .iconst 1, 1), (47, .invokevirtual 80, 3), (50, .ireturn, 1), (51, .iload_n 2, 1), (52, .ifCond .lt 43, 3), (55, .iload 4, 2), (57, .ifCond .lt 38, 3), (60, .iload_n 2, 1), (61, .i2l, 1), (62, .iload 5, 2), (64, .i2l, 1), (65, .ladd, 1), (66, .aload_n 0, 1), (67, .getfield 17, 3), (70, .iload_n 1, 1), (71, .iaload, 1), (72, .i2l, 1), (73, .lcmp, 1), (74, .ifCond .gt 21, 3), (77, .iload 4, 2), (79, .i2l, 1), (80, .iload 5, 2), (82, .i2l, 1), (83, .ladd, 1), (84, .aload_n 0, 1), (85, .getfield 17, 3), (88, .iload_n 3, 1), (89, .iaload, 1), (90, .i2l, 1), (91, .lcmp, 1), (92, .ifCond .le 9, 3), (95, .aload_n 0, 1), (96, .iconst 2, 1), (97, .invokevirtual 80, 3), (100, .ireturn, 1), (101, .iconst 0, 1), (102, .istore 6, 2), (104, .iload 6, 2), (106, .iload 5, 2), (108, .if_icmp .ge 25, 3), (111, .aload_n 0, 1), (112, .getfield 23, 3), (115, .iload 6, 2), (117, .aload_n 0, 1), (118, .iload_n 1, 1), (119, .iload_n 2, 1), (120, .iload 6, 2), (122, .iadd, 1), (123, .invokevirtual 94, 3), (126, .iastore, 1), (127, .iinc 6 1, 3), (130, .goto (-26), 3), (133, .iconst 0, 1), (134, .istore 6, 2), (136, .iload 6, 2), (138, .iload 5, 2), (140, .if_icmp .ge 26, 3), (143, .aload_n 0, 1), (144, .iload_n 3, 1), (145, .iload 4, 2), (147, .iload 6, 2), (149, .iadd, 1), (150, .aload_n 0, 1), (151, .getfield 23, 3), (154, .iload 6, 2), (156, .iaload, 1), (157, .invokevirtual 87, 3), (160, .iinc 6 1, 3), (163, .goto (-27), 3), (166, .iconst 1, 1), (167, .ireturn, 1)]
set_option maxRecDepth 20000 in
theorem d_X5_copy : ∀ q ∈ t_X5_copy, decode cX5_copy q.1 = .ok q.2 := by decide +kernel
noncomputable def X5_copy_L1 (N : Nat) (x1 : Int32) (x2 : Int32) (x3 : Int32) (x4 : Int32) (x5 : Int32) : Nat → Int32 → Wd → Option (Wd)
  | 0, _, _ => none
  | n + 1, x6, w =>
  if x5 ≤ x6 then
    some w
  else
    (f_X5_rowAt N x1 (x2 + x6) w).bind (fun q11 =>
      gd (vp_in x6 40) (
      X5_copy_L1 N x1 x2 x3 x4 x5 n (x6 + (1 : Int32)) (sA q11.2 33 0 (upd (gA q11.2 33 0) x6.toNatClampNeg q11.1))))
set_option maxRecDepth 20000 in
set_option maxHeartbeats 4000000 in
theorem z_X5_copy_L1 {x : CX} (hC : Cx x RX5 cX5_copy 7 2) (hr : (xM x).sig.returnType = (some .int)) (N : Nat) (x1 : Int32) (x2 : Int32) (x3 : Int32) (x4 : Int32) (x5 : Int32) : ∀ (n : Nat) (x6 : Int32) (w : Wd) (q : (Wd)), X5_copy_L1 N x1 x2 x3 x4 x5 n x6 w = some q → Z x 133 [some (vr 5 0), none, none, some (vi x3), some (vi x4), some (vi x5), none] [] q → Z x 104 [some (vr 5 0), some (vi x1), some (vi x2), some (vi x3), some (vi x4), some (vi x5), some (vi x6)] [] w := by
  intro n
  induction n with
  | zero =>
    intro x6 w q h
    cases h
  | succ n ih =>
    intro x6 w q h ke
    rw [X5_copy_L1] at h
    refine Z_iload hC (dk d_X5_copy 62 rfl) 106 rfl rfl ?_
    refine Z_iload hC (dk d_X5_copy 63 rfl) 108 rfl rfl ?_
    refine Z_icmp_ge hC (dk d_X5_copy 64 rfl) 111 133 rfl (by decide) (fun c => ?_) (fun c => ?_)
    · have h := it_t h c
      obtain rfl := Option.some.inj h
      refine Z_wk [true, false, false, true, true, true, false] [some (vr 5 0), none, none, some (vi x3), some (vi x4), some (vi x5), none] rfl ?_
      exact ke
    · have h := it_f h c
      refine Z_aload_n hC (dk d_X5_copy 65 rfl) 112 rfl rfl rfl ?_
      refine G_X5_23 hC m_5 (dk d_X5_copy 66 rfl) 115 rfl ?_
      refine Z_iload hC (dk d_X5_copy 67 rfl) 117 rfl rfl ?_
      refine Z_aload_n hC (dk d_X5_copy 68 rfl) 118 rfl rfl rfl ?_
      refine Z_iload_n hC (dk d_X5_copy 69 rfl) 119 rfl rfl rfl ?_
      refine Z_iload_n hC (dk d_X5_copy 70 rfl) 120 rfl rfl rfl ?_
      refine Z_iload hC (dk d_X5_copy 71 rfl) 122 rfl rfl ?_
      refine Z_iadd hC (dk d_X5_copy 72 rfl) 123 rfl ?_
      obtain ⟨q11, hq11, h⟩ := bd_some h
      refine K_X5_94 [vi x1, vi (x2 + x6)] hC m_5 (s_X5_rowAt (xG x) (xl x) N x1 (x2 + x6) w q11 hq11) (Nat.le_of_ble_eq_true rfl) rfl rfl rfl (Nat.le_of_ble_eq_true rfl) (dk d_X5_copy 73 rfl) 126 rfl ?_
      obtain ⟨g12, h⟩ := gd_some h
      refine Z_iastore hC m_33 (by decide) rfl g12 (dk d_X5_copy 74 rfl) 127 rfl ?_
      refine Z_iinc hC (dk d_X5_copy 75 rfl) 130 rfl rfl rfl [some (vr 5 0), some (vi x1), some (vi x2), some (vi x3), some (vi x4), some (vi x5), some (vi (x6 + (1 : Int32)))] rfl ?_
      refine Z_goto hC (dk d_X5_copy 76 rfl) 104 (by decide) ?_
      refine Z_wk [true, true, true, true, true, true, true] [some (vr 5 0), some (vi x1), some (vi x2), some (vi x3), some (vi x4), some (vi x5), some (vi (x6 + (1 : Int32)))] rfl ?_
      exact ih (x6 + (1 : Int32)) (sA q11.2 33 0 (upd (gA q11.2 33 0) x6.toNatClampNeg q11.1)) _ h ke
noncomputable def X5_copy_L2 (N : Nat) (x3 : Int32) (x4 : Int32) (x5 : Int32) : Nat → Int32 → Wd → Option (Wd)
  | 0, _, _ => none
  | n + 1, x6, w =>
  if x5 ≤ x6 then
    some w
  else
    gd (vp_in x6 40) (
    (f_X5_setRow N x3 (x4 + x6) (gA w 33 0 x6.toNatClampNeg) w).bind (fun q15 =>
      X5_copy_L2 N x3 x4 x5 n (x6 + (1 : Int32)) q15))
set_option maxRecDepth 20000 in
set_option maxHeartbeats 4000000 in
theorem z_X5_copy_L2 {x : CX} (hC : Cx x RX5 cX5_copy 7 2) (hr : (xM x).sig.returnType = (some .int)) (N : Nat) (x3 : Int32) (x4 : Int32) (x5 : Int32) : ∀ (n : Nat) (x6 : Int32) (w : Wd) (q : (Wd)), X5_copy_L2 N x3 x4 x5 n x6 w = some q → Z x 166 [none, none, none, none, none, none, none] [] q → Z x 136 [some (vr 5 0), none, none, some (vi x3), some (vi x4), some (vi x5), some (vi x6)] [] w := by
  intro n
  induction n with
  | zero =>
    intro x6 w q h
    cases h
  | succ n ih =>
    intro x6 w q h ke
    rw [X5_copy_L2] at h
    refine Z_iload hC (dk d_X5_copy 79 rfl) 138 rfl rfl ?_
    refine Z_iload hC (dk d_X5_copy 80 rfl) 140 rfl rfl ?_
    refine Z_icmp_ge hC (dk d_X5_copy 81 rfl) 143 166 rfl (by decide) (fun c => ?_) (fun c => ?_)
    · have h := it_t h c
      obtain rfl := Option.some.inj h
      refine Z_wk [false, false, false, false, false, false, false] [none, none, none, none, none, none, none] rfl ?_
      exact ke
    · have h := it_f h c
      refine Z_aload_n hC (dk d_X5_copy 82 rfl) 144 rfl rfl rfl ?_
      refine Z_iload_n hC (dk d_X5_copy 83 rfl) 145 rfl rfl rfl ?_
      refine Z_iload hC (dk d_X5_copy 84 rfl) 147 rfl rfl ?_
      refine Z_iload hC (dk d_X5_copy 85 rfl) 149 rfl rfl ?_
      refine Z_iadd hC (dk d_X5_copy 86 rfl) 150 rfl ?_
      refine Z_aload_n hC (dk d_X5_copy 87 rfl) 151 rfl rfl rfl ?_
      refine G_X5_23 hC m_5 (dk d_X5_copy 88 rfl) 154 rfl ?_
      refine Z_iload hC (dk d_X5_copy 89 rfl) 156 rfl rfl ?_
      obtain ⟨g14, h⟩ := gd_some h
      refine Z_iaload hC m_33 (by decide) rfl g14 (dk d_X5_copy 90 rfl) 157 rfl ?_
      obtain ⟨q15, hq15, h⟩ := bd_some h
      refine K_X5_87 [vi x3, vi (x4 + x6), vi (gA w 33 0 x6.toNatClampNeg)] hC m_5 (s_X5_setRow (xG x) (xl x) N x3 (x4 + x6) (gA w 33 0 x6.toNatClampNeg) w q15 hq15) (Nat.le_of_ble_eq_true rfl) rfl rfl rfl (Nat.le_of_ble_eq_true rfl) (dk d_X5_copy 91 rfl) 160 rfl ?_
      refine Z_iinc hC (dk d_X5_copy 92 rfl) 163 rfl rfl rfl [some (vr 5 0), none, none, some (vi x3), some (vi x4), some (vi x5), some (vi (x6 + (1 : Int32)))] rfl ?_
      refine Z_goto hC (dk d_X5_copy 93 rfl) 136 (by decide) ?_
      refine Z_wk [true, false, false, true, true, true, true] [some (vr 5 0), none, none, some (vi x3), some (vi x4), some (vi x5), some (vi (x6 + (1 : Int32)))] rfl ?_
      exact ih (x6 + (1 : Int32)) q15 _ h ke
noncomputable def f_X5_copy (N : Nat) (a1 : Int32) (a2 : Int32) (a3 : Int32) (a4 : Int32) (a5 : Int32) (w : Wd) : Option (Int32 × Wd) :=
  (f_X5_isRow N a1 w).bind (fun q1 =>
    if q1.1 = 0 then
      some ((-1 : Int32), q1.2)
    else
      (f_X5_isRow N a3 q1.2).bind (fun q2 =>
        if q2.1 = 0 then
          some ((-1 : Int32), q2.2)
        else
          if 0 ≤ a5 then
            gd (vp_in a1 6) (
            if (gA q2.2 31 0 a1.toNatClampNeg) < 0 then
              (f_X5_meet N (1 : Int32) q2.2).bind (fun q4 =>
                some (q4.1, q4.2))
            else
              gd (vp_in a3 6) (
              if 0 ≤ (gA q2.2 31 0 a3.toNatClampNeg) then
                if a2 < 0 then
                  (f_X5_meet N (2 : Int32) q2.2).bind (fun q6 =>
                    some (q6.1, q6.2))
                else
                  if a4 < 0 then
                    (f_X5_meet N (2 : Int32) q2.2).bind (fun q7 =>
                      some (q7.1, q7.2))
                  else
                    gd (vp_in a1 6) (
                    if 0 < (lg_cmp (a2.toInt64 + a5.toInt64) ((gA q2.2 31 0 a1.toNatClampNeg).toInt64)) then
                      (f_X5_meet N (2 : Int32) q2.2).bind (fun q9 =>
                        some (q9.1, q9.2))
                    else
                      gd (vp_in a3 6) (
                      if (lg_cmp (a4.toInt64 + a5.toInt64) ((gA q2.2 31 0 a3.toNatClampNeg).toInt64)) ≤ 0 then
                        (X5_copy_L1 N a1 a2 a3 a4 a5 N (0 : Int32) q2.2).bind (fun q13 =>
                          (X5_copy_L2 N a3 a4 a5 N (0 : Int32) q13).bind (fun q16 =>
                            some ((1 : Int32), q16)))
                      else
                        (f_X5_meet N (2 : Int32) q2.2).bind (fun q17 =>
                          some (q17.1, q17.2))))
              else
                (f_X5_meet N (1 : Int32) q2.2).bind (fun q18 =>
                  some (q18.1, q18.2))))
          else
            (f_X5_meet N (5 : Int32) q2.2).bind (fun q19 =>
              some (q19.1, q19.2))))
set_option maxRecDepth 20000 in
set_option maxHeartbeats 4000000 in
theorem s_X5_copy (G : GT) (l : Launch) (N : Nat) (a1 : Int32) (a2 : Int32) (a3 : Int32) (a4 : Int32) (a5 : Int32) (w : Wd) (q : Int32 × Wd) (h : f_X5_copy N a1 a2 a3 a4 a5 w = some q) : Sp G l yX5_copy cw_X5_copy 2 [vr 5 0, vi a1, vi a2, vi a3, vi a4, vi a5] w (some (vi q.1)) q.2 := by
  refine Sp_of (own := RX5) [some (vr 5 0), some (vi a1), some (vi a2), some (vi a3), some (vi a4), some (vi a5), none] (by decide) rfl rfl (Nat.le_of_ble_eq_true rfl) ?_
  intro x hG hl hC hr hQ _ _
  subst hG
  subst hl
  unfold f_X5_copy at h
  refine Z_iload_n hC (dk d_X5_copy 0 rfl) 1 rfl rfl rfl ?_
  obtain ⟨q1, hq1, h⟩ := bd_some h
  refine K_X5_76 [vi a1] hC (s_X5_isRow (xG x) (xl x) N a1 w q1 hq1) (Nat.le_of_ble_eq_true rfl) rfl rfl rfl (Nat.le_of_ble_eq_true rfl) (dk d_X5_copy 1 rfl) 4 rfl ?_
  refine Z_if_eq hC (dk d_X5_copy 2 rfl) 7 14 rfl (by decide) (fun c => ?_) (fun c => ?_)
  · have h := it_t h c
    refine Z_iconst (v := -1) hC (dk d_X5_copy 6 rfl) 15 rfl (by decide) ?_
    obtain rfl := Option.some.inj h
    exact Z_ireturn (st := []) hC hr hQ (dk d_X5_copy 7 rfl)
  · have h := it_f h c
    refine Z_iload_n hC (dk d_X5_copy 3 rfl) 8 rfl rfl rfl ?_
    obtain ⟨q2, hq2, h⟩ := bd_some h
    refine K_X5_76 [vi a3] hC (s_X5_isRow (xG x) (xl x) N a3 q1.2 q2 hq2) (Nat.le_of_ble_eq_true rfl) rfl rfl rfl (Nat.le_of_ble_eq_true rfl) (dk d_X5_copy 4 rfl) 11 rfl ?_
    refine Z_if_ne hC (dk d_X5_copy 5 rfl) 14 16 rfl (by decide) (fun c => ?_) (fun c => ?_)
    · have h := it_f h c
      refine Z_iload hC (dk d_X5_copy 8 rfl) 18 rfl rfl ?_
      refine Z_if_ge hC (dk d_X5_copy 9 rfl) 21 27 rfl (by decide) (fun c => ?_) (fun c => ?_)
      · have h := it_t h c
        refine Z_aload_n hC (dk d_X5_copy 14 rfl) 28 rfl rfl rfl ?_
        refine G_X5_17 hC m_5 (dk d_X5_copy 15 rfl) 31 rfl ?_
        refine Z_iload_n hC (dk d_X5_copy 16 rfl) 32 rfl rfl rfl ?_
        obtain ⟨g3, h⟩ := gd_some h
        refine Z_iaload hC m_31 (by decide) rfl g3 (dk d_X5_copy 17 rfl) 33 rfl ?_
        refine Z_if_lt hC (dk d_X5_copy 18 rfl) 36 45 rfl (by decide) (fun c => ?_) (fun c => ?_)
        · have h := it_t h c
          refine Z_aload_n hC (dk d_X5_copy 24 rfl) 46 rfl rfl rfl ?_
          refine Z_iconst (v := 1) hC (dk d_X5_copy 25 rfl) 47 rfl (by decide) ?_
          obtain ⟨q4, hq4, h⟩ := bd_some h
          refine K_X5_80 [vi (1 : Int32)] hC m_5 (s_X5_meet (xG x) (xl x) N (1 : Int32) q2.2 q4 hq4) (Nat.le_of_ble_eq_true rfl) rfl rfl rfl (Nat.le_of_ble_eq_true rfl) (dk d_X5_copy 26 rfl) 50 rfl ?_
          obtain rfl := Option.some.inj h
          exact Z_ireturn (st := []) hC hr hQ (dk d_X5_copy 27 rfl)
        · have h := it_f h c
          refine Z_aload_n hC (dk d_X5_copy 19 rfl) 37 rfl rfl rfl ?_
          refine G_X5_17 hC m_5 (dk d_X5_copy 20 rfl) 40 rfl ?_
          refine Z_iload_n hC (dk d_X5_copy 21 rfl) 41 rfl rfl rfl ?_
          obtain ⟨g5, h⟩ := gd_some h
          refine Z_iaload hC m_31 (by decide) rfl g5 (dk d_X5_copy 22 rfl) 42 rfl ?_
          refine Z_if_ge hC (dk d_X5_copy 23 rfl) 45 51 rfl (by decide) (fun c => ?_) (fun c => ?_)
          · have h := it_t h c
            refine Z_iload_n hC (dk d_X5_copy 28 rfl) 52 rfl rfl rfl ?_
            refine Z_if_lt hC (dk d_X5_copy 29 rfl) 55 95 rfl (by decide) (fun c => ?_) (fun c => ?_)
            · have h := it_t h c
              refine Z_aload_n hC (dk d_X5_copy 56 rfl) 96 rfl rfl rfl ?_
              refine Z_iconst (v := 2) hC (dk d_X5_copy 57 rfl) 97 rfl (by decide) ?_
              obtain ⟨q6, hq6, h⟩ := bd_some h
              refine K_X5_80 [vi (2 : Int32)] hC m_5 (s_X5_meet (xG x) (xl x) N (2 : Int32) q2.2 q6 hq6) (Nat.le_of_ble_eq_true rfl) rfl rfl rfl (Nat.le_of_ble_eq_true rfl) (dk d_X5_copy 58 rfl) 100 rfl ?_
              obtain rfl := Option.some.inj h
              exact Z_ireturn (st := []) hC hr hQ (dk d_X5_copy 59 rfl)
            · have h := it_f h c
              refine Z_iload hC (dk d_X5_copy 30 rfl) 57 rfl rfl ?_
              refine Z_if_lt hC (dk d_X5_copy 31 rfl) 60 95 rfl (by decide) (fun c => ?_) (fun c => ?_)
              · have h := it_t h c
                refine Z_aload_n hC (dk d_X5_copy 56 rfl) 96 rfl rfl rfl ?_
                refine Z_iconst (v := 2) hC (dk d_X5_copy 57 rfl) 97 rfl (by decide) ?_
                obtain ⟨q7, hq7, h⟩ := bd_some h
                refine K_X5_80 [vi (2 : Int32)] hC m_5 (s_X5_meet (xG x) (xl x) N (2 : Int32) q2.2 q7 hq7) (Nat.le_of_ble_eq_true rfl) rfl rfl rfl (Nat.le_of_ble_eq_true rfl) (dk d_X5_copy 58 rfl) 100 rfl ?_
                obtain rfl := Option.some.inj h
                exact Z_ireturn (st := []) hC hr hQ (dk d_X5_copy 59 rfl)
              · have h := it_f h c
                refine Z_iload_n hC (dk d_X5_copy 32 rfl) 61 rfl rfl rfl ?_
                refine Z_i2l hC (dk d_X5_copy 33 rfl) 62 rfl ?_
                refine Z_iload hC (dk d_X5_copy 34 rfl) 64 rfl rfl ?_
                refine Z_i2l hC (dk d_X5_copy 35 rfl) 65 rfl ?_
                refine Z_ladd hC (dk d_X5_copy 36 rfl) 66 rfl ?_
                refine Z_aload_n hC (dk d_X5_copy 37 rfl) 67 rfl rfl rfl ?_
                refine G_X5_17 hC m_5 (dk d_X5_copy 38 rfl) 70 rfl ?_
                refine Z_iload_n hC (dk d_X5_copy 39 rfl) 71 rfl rfl rfl ?_
                obtain ⟨g8, h⟩ := gd_some h
                refine Z_iaload hC m_31 (by decide) rfl g8 (dk d_X5_copy 40 rfl) 72 rfl ?_
                refine Z_i2l hC (dk d_X5_copy 41 rfl) 73 rfl ?_
                refine Z_lcmp hC (dk d_X5_copy 42 rfl) 74 rfl ?_
                refine Z_if_gt hC (dk d_X5_copy 43 rfl) 77 95 rfl (by decide) (fun c => ?_) (fun c => ?_)
                · have h := it_t h c
                  refine Z_aload_n hC (dk d_X5_copy 56 rfl) 96 rfl rfl rfl ?_
                  refine Z_iconst (v := 2) hC (dk d_X5_copy 57 rfl) 97 rfl (by decide) ?_
                  obtain ⟨q9, hq9, h⟩ := bd_some h
                  refine K_X5_80 [vi (2 : Int32)] hC m_5 (s_X5_meet (xG x) (xl x) N (2 : Int32) q2.2 q9 hq9) (Nat.le_of_ble_eq_true rfl) rfl rfl rfl (Nat.le_of_ble_eq_true rfl) (dk d_X5_copy 58 rfl) 100 rfl ?_
                  obtain rfl := Option.some.inj h
                  exact Z_ireturn (st := []) hC hr hQ (dk d_X5_copy 59 rfl)
                · have h := it_f h c
                  refine Z_iload hC (dk d_X5_copy 44 rfl) 79 rfl rfl ?_
                  refine Z_i2l hC (dk d_X5_copy 45 rfl) 80 rfl ?_
                  refine Z_iload hC (dk d_X5_copy 46 rfl) 82 rfl rfl ?_
                  refine Z_i2l hC (dk d_X5_copy 47 rfl) 83 rfl ?_
                  refine Z_ladd hC (dk d_X5_copy 48 rfl) 84 rfl ?_
                  refine Z_aload_n hC (dk d_X5_copy 49 rfl) 85 rfl rfl rfl ?_
                  refine G_X5_17 hC m_5 (dk d_X5_copy 50 rfl) 88 rfl ?_
                  refine Z_iload_n hC (dk d_X5_copy 51 rfl) 89 rfl rfl rfl ?_
                  obtain ⟨g10, h⟩ := gd_some h
                  refine Z_iaload hC m_31 (by decide) rfl g10 (dk d_X5_copy 52 rfl) 90 rfl ?_
                  refine Z_i2l hC (dk d_X5_copy 53 rfl) 91 rfl ?_
                  refine Z_lcmp hC (dk d_X5_copy 54 rfl) 92 rfl ?_
                  refine Z_if_le hC (dk d_X5_copy 55 rfl) 95 101 rfl (by decide) (fun c => ?_) (fun c => ?_)
                  · have h := it_t h c
                    refine Z_iconst (v := 0) hC (dk d_X5_copy 60 rfl) 102 rfl (by decide) ?_
                    refine Z_istore hC (dk d_X5_copy 61 rfl) 104 rfl (Nat.le_of_ble_eq_true rfl) [some (vr 5 0), some (vi a1), some (vi a2), some (vi a3), some (vi a4), some (vi a5), some (vi (0 : Int32))] rfl ?_
                    obtain ⟨q13, hq13, h⟩ := bd_some h
                    refine Z_wk [true, true, true, true, true, true, true] [some (vr 5 0), some (vi a1), some (vi a2), some (vi a3), some (vi a4), some (vi a5), some (vi (0 : Int32))] rfl ?_
                    refine z_X5_copy_L1 hC hr N a1 a2 a3 a4 a5 N (0 : Int32) q2.2 q13 hq13 ?_
                    refine Z_iconst (v := 0) hC (dk d_X5_copy 77 rfl) 134 rfl (by decide) ?_
                    refine Z_istore hC (dk d_X5_copy 78 rfl) 136 rfl (Nat.le_of_ble_eq_true rfl) [some (vr 5 0), none, none, some (vi a3), some (vi a4), some (vi a5), some (vi (0 : Int32))] rfl ?_
                    obtain ⟨q16, hq16, h⟩ := bd_some h
                    refine Z_wk [true, false, false, true, true, true, true] [some (vr 5 0), none, none, some (vi a3), some (vi a4), some (vi a5), some (vi (0 : Int32))] rfl ?_
                    refine z_X5_copy_L2 hC hr N a3 a4 a5 N (0 : Int32) q13 q16 hq16 ?_
                    refine Z_iconst (v := 1) hC (dk d_X5_copy 94 rfl) 167 rfl (by decide) ?_
                    obtain rfl := Option.some.inj h
                    exact Z_ireturn (st := []) hC hr hQ (dk d_X5_copy 95 rfl)
                  · have h := it_f h c
                    refine Z_aload_n hC (dk d_X5_copy 56 rfl) 96 rfl rfl rfl ?_
                    refine Z_iconst (v := 2) hC (dk d_X5_copy 57 rfl) 97 rfl (by decide) ?_
                    obtain ⟨q17, hq17, h⟩ := bd_some h
                    refine K_X5_80 [vi (2 : Int32)] hC m_5 (s_X5_meet (xG x) (xl x) N (2 : Int32) q2.2 q17 hq17) (Nat.le_of_ble_eq_true rfl) rfl rfl rfl (Nat.le_of_ble_eq_true rfl) (dk d_X5_copy 58 rfl) 100 rfl ?_
                    obtain rfl := Option.some.inj h
                    exact Z_ireturn (st := []) hC hr hQ (dk d_X5_copy 59 rfl)
          · have h := it_f h c
            refine Z_aload_n hC (dk d_X5_copy 24 rfl) 46 rfl rfl rfl ?_
            refine Z_iconst (v := 1) hC (dk d_X5_copy 25 rfl) 47 rfl (by decide) ?_
            obtain ⟨q18, hq18, h⟩ := bd_some h
            refine K_X5_80 [vi (1 : Int32)] hC m_5 (s_X5_meet (xG x) (xl x) N (1 : Int32) q2.2 q18 hq18) (Nat.le_of_ble_eq_true rfl) rfl rfl rfl (Nat.le_of_ble_eq_true rfl) (dk d_X5_copy 26 rfl) 50 rfl ?_
            obtain rfl := Option.some.inj h
            exact Z_ireturn (st := []) hC hr hQ (dk d_X5_copy 27 rfl)
      · have h := it_f h c
        refine Z_aload_n hC (dk d_X5_copy 10 rfl) 22 rfl rfl rfl ?_
        refine Z_iconst (v := 5) hC (dk d_X5_copy 11 rfl) 23 rfl (by decide) ?_
        obtain ⟨q19, hq19, h⟩ := bd_some h
        refine K_X5_80 [vi (5 : Int32)] hC m_5 (s_X5_meet (xG x) (xl x) N (5 : Int32) q2.2 q19 hq19) (Nat.le_of_ble_eq_true rfl) rfl rfl rfl (Nat.le_of_ble_eq_true rfl) (dk d_X5_copy 12 rfl) 26 rfl ?_
        obtain rfl := Option.some.inj h
        exact Z_ireturn (st := []) hC hr hQ (dk d_X5_copy 13 rfl)
    · have h := it_t h c
      refine Z_iconst (v := -1) hC (dk d_X5_copy 6 rfl) 15 rfl (by decide) ?_
      obtain rfl := Option.some.inj h
      exact Z_ireturn (st := []) hC hr hQ (dk d_X5_copy 7 rfl)
def t_X5_mean : List (Nat × Instr × Nat) := [(0, .aload_n 0, 1), (1, .iload_n 1, 1), (2, .invokevirtual 91, 3), (5, .istore_n 2, 1), (6, .iload_n 2, 1), (7, .ifCond .ge 5, 3), (10, .iload_n 2, 1), (11, .ireturn, 1), (12, .lconst 0, 1), (13, .lstore_n 3, 1), (14, .iconst 0, 1), (15, .istore 5, 2), (17, .iload 5, 2), (19, .aload_n 0, 1), (20, .getfield 17, 3), (23, .iload_n 1, 1), (24, .iaload, 1), (25, .if_icmp .ge 20, 3), (28, .lload_n 3, 1), (29, .aload_n 0, 1), (30, .iload_n 1, 1), (31, .iload 5, 2), (33, .invokevirtual 94, 3), (36, .i2l, 1), (37, .ladd, 1), (38, .lstore_n 3, 1), (39, .iinc 5 1, 3), (42, .goto (-25), 3), (45, .aload_n 0, 1), (46, .getfield 17, 3), (49, .iload_n 1, 1), (50, .iaload, 1), (51, .ifCond .ne 11, 3), (54, .aload_n 0, 1), (55, .iconst 4, 1), (56, .invokevirtual 80, 3), (59, .goto 18, 3), (62, .aload_n 0, 1), (63, .lload_n 3, 1), (64, .aload_n 0, 1), (65, .getfield 17, 3), (68, .iload_n 1, 1), (69, .iaload, 1), (70, .i2l, 1), (71, .ldiv, 1), (72, .l2i, 1), (73, .iconst 1, 1), (74, .invokevirtual 98, 3), (77, .ireturn, 1)]
set_option maxRecDepth 20000 in
theorem d_X5_mean : ∀ q ∈ t_X5_mean, decode cX5_mean q.1 = .ok q.2 := by decide +kernel
noncomputable def X5_mean_L1 (N : Nat) (x1 : Int32) : Nat → Int64 → Int32 → Wd → Option (Int64 × Wd)
  | 0, _, _, _ => none
  | n + 1, x3, x5, w =>
  gd (vp_in x1 6) (
  if (gA w 31 0 x1.toNatClampNeg) ≤ x5 then
    some (x3, w)
  else
    (f_X5_rowAt N x1 x5 w).bind (fun q3 =>
      X5_mean_L1 N x1 n (x3 + q3.1.toInt64) (x5 + (1 : Int32)) q3.2))
set_option maxRecDepth 20000 in
set_option maxHeartbeats 4000000 in
theorem z_X5_mean_L1 {x : CX} (hC : Cx x RX5 cX5_mean 6 3) (hr : (xM x).sig.returnType = (some .int)) (N : Nat) (x1 : Int32) : ∀ (n : Nat) (x3 : Int64) (x5 : Int32) (w : Wd) (q : (Int64 × Wd)), X5_mean_L1 N x1 n x3 x5 w = some q → Z x 45 [some (vr 5 0), some (vi x1), none, some (vl q.1), none, none] [] q.2 → Z x 17 [some (vr 5 0), some (vi x1), none, some (vl x3), none, some (vi x5)] [] w := by
  intro n
  induction n with
  | zero =>
    intro x3 x5 w q h
    cases h
  | succ n ih =>
    intro x3 x5 w q h ke
    rw [X5_mean_L1] at h
    refine Z_iload hC (dk d_X5_mean 12 rfl) 19 rfl rfl ?_
    refine Z_aload_n hC (dk d_X5_mean 13 rfl) 20 rfl rfl rfl ?_
    refine G_X5_17 hC m_5 (dk d_X5_mean 14 rfl) 23 rfl ?_
    refine Z_iload_n hC (dk d_X5_mean 15 rfl) 24 rfl rfl rfl ?_
    obtain ⟨g2, h⟩ := gd_some h
    refine Z_iaload hC m_31 (by decide) rfl g2 (dk d_X5_mean 16 rfl) 25 rfl ?_
    refine Z_icmp_ge hC (dk d_X5_mean 17 rfl) 28 45 rfl (by decide) (fun c => ?_) (fun c => ?_)
    · have h := it_t h c
      obtain rfl := Option.some.inj h
      refine Z_wk [true, true, false, true, false, false] [some (vr 5 0), some (vi x1), none, some (vl x3), none, none] rfl ?_
      exact ke
    · have h := it_f h c
      refine Z_lload_n hC (dk d_X5_mean 18 rfl) 29 rfl rfl rfl ?_
      refine Z_aload_n hC (dk d_X5_mean 19 rfl) 30 rfl rfl rfl ?_
      refine Z_iload_n hC (dk d_X5_mean 20 rfl) 31 rfl rfl rfl ?_
      refine Z_iload hC (dk d_X5_mean 21 rfl) 33 rfl rfl ?_
      obtain ⟨q3, hq3, h⟩ := bd_some h
      refine K_X5_94 [vi x1, vi x5] hC m_5 (s_X5_rowAt (xG x) (xl x) N x1 x5 w q3 hq3) (Nat.le_of_ble_eq_true rfl) rfl rfl rfl (Nat.le_of_ble_eq_true rfl) (dk d_X5_mean 22 rfl) 36 rfl ?_
      refine Z_i2l hC (dk d_X5_mean 23 rfl) 37 rfl ?_
      refine Z_ladd hC (dk d_X5_mean 24 rfl) 38 rfl ?_
      refine Z_lstore_n hC (dk d_X5_mean 25 rfl) 39 rfl rfl (Nat.le_of_ble_eq_true rfl) [some (vr 5 0), some (vi x1), none, some (vl (x3 + q3.1.toInt64)), none, some (vi x5)] rfl ?_
      refine Z_iinc hC (dk d_X5_mean 26 rfl) 42 rfl rfl rfl [some (vr 5 0), some (vi x1), none, some (vl (x3 + q3.1.toInt64)), none, some (vi (x5 + (1 : Int32)))] rfl ?_
      refine Z_goto hC (dk d_X5_mean 27 rfl) 17 (by decide) ?_
      refine Z_wk [true, true, false, true, false, true] [some (vr 5 0), some (vi x1), none, some (vl (x3 + q3.1.toInt64)), none, some (vi (x5 + (1 : Int32)))] rfl ?_
      exact ih (x3 + q3.1.toInt64) (x5 + (1 : Int32)) q3.2 _ h ke
noncomputable def f_X5_mean (N : Nat) (a1 : Int32) (w : Wd) : Option (Int32 × Wd) :=
  (f_X5_askedRow N a1 w).bind (fun q1 =>
    if 0 ≤ q1.1 then
      (X5_mean_L1 N a1 N (0 : Int64) (0 : Int32) q1.2).bind (fun q4 =>
        gd (vp_in a1 6) (
        if (gA q4.2 31 0 a1.toNatClampNeg) = 0 then
          (f_X5_meet N (4 : Int32) q4.2).bind (fun q9 =>
            some (q9.1, q9.2))
        else
          gd (vp_in a1 6) (
          gd (¬ ((gA q4.2 31 0 a1.toNatClampNeg).toInt64) = 0) (
          (f_X5_ask N ((q4.1 / ((gA q4.2 31 0 a1.toNatClampNeg).toInt64)).toInt32) (1 : Int32) q4.2).bind (fun q8 =>
            some (q8.1, q8.2))))))
    else
      some (q1.1, q1.2))
set_option maxRecDepth 20000 in
set_option maxHeartbeats 4000000 in
theorem s_X5_mean (G : GT) (l : Launch) (N : Nat) (a1 : Int32) (w : Wd) (q : Int32 × Wd) (h : f_X5_mean N a1 w = some q) : Sp G l yX5_mean cw_X5_mean 3 [vr 5 0, vi a1] w (some (vi q.1)) q.2 := by
  refine Sp_of (own := RX5) [some (vr 5 0), some (vi a1), none, none, none, none] (by decide) rfl rfl (Nat.le_of_ble_eq_true rfl) ?_
  intro x hG hl hC hr hQ _ _
  subst hG
  subst hl
  unfold f_X5_mean at h
  refine Z_aload_n hC (dk d_X5_mean 0 rfl) 1 rfl rfl rfl ?_
  refine Z_iload_n hC (dk d_X5_mean 1 rfl) 2 rfl rfl rfl ?_
  obtain ⟨q1, hq1, h⟩ := bd_some h
  refine K_X5_91 [vi a1] hC m_5 (s_X5_askedRow (xG x) (xl x) N a1 w q1 hq1) (Nat.le_of_ble_eq_true rfl) rfl rfl rfl (Nat.le_of_ble_eq_true rfl) (dk d_X5_mean 2 rfl) 5 rfl ?_
  refine Z_istore_n hC (dk d_X5_mean 3 rfl) 6 rfl rfl (Nat.le_of_ble_eq_true rfl) [some (vr 5 0), some (vi a1), some (vi q1.1), none, none, none] rfl ?_
  refine Z_iload_n hC (dk d_X5_mean 4 rfl) 7 rfl rfl rfl ?_
  refine Z_if_ge hC (dk d_X5_mean 5 rfl) 10 12 rfl (by decide) (fun c => ?_) (fun c => ?_)
  · have h := it_t h c
    refine Z_lconst (v := 0) hC (dk d_X5_mean 8 rfl) 13 rfl (by decide) ?_
    refine Z_lstore_n hC (dk d_X5_mean 9 rfl) 14 rfl rfl (Nat.le_of_ble_eq_true rfl) [some (vr 5 0), some (vi a1), some (vi q1.1), some (vl (0 : Int64)), none, none] rfl ?_
    refine Z_iconst (v := 0) hC (dk d_X5_mean 10 rfl) 15 rfl (by decide) ?_
    refine Z_istore hC (dk d_X5_mean 11 rfl) 17 rfl (Nat.le_of_ble_eq_true rfl) [some (vr 5 0), some (vi a1), some (vi q1.1), some (vl (0 : Int64)), none, some (vi (0 : Int32))] rfl ?_
    obtain ⟨q4, hq4, h⟩ := bd_some h
    refine Z_wk [true, true, false, true, false, true] [some (vr 5 0), some (vi a1), none, some (vl (0 : Int64)), none, some (vi (0 : Int32))] rfl ?_
    refine z_X5_mean_L1 hC hr N a1 N (0 : Int64) (0 : Int32) q1.2 q4 hq4 ?_
    refine Z_aload_n hC (dk d_X5_mean 28 rfl) 46 rfl rfl rfl ?_
    refine G_X5_17 hC m_5 (dk d_X5_mean 29 rfl) 49 rfl ?_
    refine Z_iload_n hC (dk d_X5_mean 30 rfl) 50 rfl rfl rfl ?_
    obtain ⟨g5, h⟩ := gd_some h
    refine Z_iaload hC m_31 (by decide) rfl g5 (dk d_X5_mean 31 rfl) 51 rfl ?_
    refine Z_if_ne hC (dk d_X5_mean 32 rfl) 54 62 rfl (by decide) (fun c => ?_) (fun c => ?_)
    · have h := it_f h c
      refine Z_aload_n hC (dk d_X5_mean 37 rfl) 63 rfl rfl rfl ?_
      refine Z_lload_n hC (dk d_X5_mean 38 rfl) 64 rfl rfl rfl ?_
      refine Z_aload_n hC (dk d_X5_mean 39 rfl) 65 rfl rfl rfl ?_
      refine G_X5_17 hC m_5 (dk d_X5_mean 40 rfl) 68 rfl ?_
      refine Z_iload_n hC (dk d_X5_mean 41 rfl) 69 rfl rfl rfl ?_
      obtain ⟨g6, h⟩ := gd_some h
      refine Z_iaload hC m_31 (by decide) rfl g6 (dk d_X5_mean 42 rfl) 70 rfl ?_
      refine Z_i2l hC (dk d_X5_mean 43 rfl) 71 rfl ?_
      obtain ⟨g7, h⟩ := gd_some h
      refine Z_ldiv hC (dk d_X5_mean 44 rfl) 72 rfl g7 ?_
      refine Z_l2i hC (dk d_X5_mean 45 rfl) 73 rfl ?_
      refine Z_iconst (v := 1) hC (dk d_X5_mean 46 rfl) 74 rfl (by decide) ?_
      obtain ⟨q8, hq8, h⟩ := bd_some h
      refine K_X5_98 [vi ((q4.1 / ((gA q4.2 31 0 a1.toNatClampNeg).toInt64)).toInt32), vi (1 : Int32)] hC m_5 (s_X5_ask (xG x) (xl x) N ((q4.1 / ((gA q4.2 31 0 a1.toNatClampNeg).toInt64)).toInt32) (1 : Int32) q4.2 q8 hq8) (Nat.le_of_ble_eq_true rfl) rfl rfl rfl (Nat.le_of_ble_eq_true rfl) (dk d_X5_mean 47 rfl) 77 rfl ?_
      obtain rfl := Option.some.inj h
      exact Z_ireturn (st := []) hC hr hQ (dk d_X5_mean 48 rfl)
    · have h := it_t h c
      refine Z_aload_n hC (dk d_X5_mean 33 rfl) 55 rfl rfl rfl ?_
      refine Z_iconst (v := 4) hC (dk d_X5_mean 34 rfl) 56 rfl (by decide) ?_
      obtain ⟨q9, hq9, h⟩ := bd_some h
      refine K_X5_80 [vi (4 : Int32)] hC m_5 (s_X5_meet (xG x) (xl x) N (4 : Int32) q4.2 q9 hq9) (Nat.le_of_ble_eq_true rfl) rfl rfl rfl (Nat.le_of_ble_eq_true rfl) (dk d_X5_mean 35 rfl) 59 rfl ?_
      refine Z_goto hC (dk d_X5_mean 36 rfl) 77 (by decide) ?_
      obtain rfl := Option.some.inj h
      exact Z_ireturn (st := []) hC hr hQ (dk d_X5_mean 48 rfl)
  · have h := it_f h c
    refine Z_iload_n hC (dk d_X5_mean 6 rfl) 11 rfl rfl rfl ?_
    obtain rfl := Option.some.inj h
    exact Z_ireturn (st := []) hC hr hQ (dk d_X5_mean 7 rfl)
def t_X5_text : List (Nat × Instr × Nat) := [(0, .iload_n 1, 1), (1, .invokestatic 84, 3), (4, .ifCond .eq 9, 3), (7, .iload_n 2, 1), (8, .bipush 60, 2), (10, .if_icmp .le 5, 3), (13, .iconst (-1), 1), (14, .ireturn, 1), (15, .iload_n 2, 1), (16, .ifCond .ge 9, 3), (19, .aload_n 0, 1), (20, .iconst 5, 1), (21, .invokevirtual 80, 3), (24, .ireturn, 1), (25, .aload_n 0, 1), (26, .getfield 26, 3), (29, .iload_n 1, 1), (30, .iload_n 2, 1), (31, .iastore, 1), (32, .iconst 0, 1), (33, .istore_n 3, 1), (34, .iload_n 3, 1), (35, .bipush 60, 2), (37, .if_icmp .ge 22, 3), (40, .aload_n 0, 1), (41, .getfield 29, 3), (44, .bipush 60, 2), (46, .iload_n 1, 1), (47, .imul, 1), (48, .iload_n 3, 1), (49, .iadd, 1), (50, .bipush 32, 2), (52, .iastore, 1), (53, .iinc 3 1, 3), (56, .goto (-22), 3), (59, .iload_n 2, 1), (60, .ireturn, 1)]
set_option maxRecDepth 20000 in
theorem d_X5_text : ∀ q ∈ t_X5_text, decode cX5_text q.1 = .ok q.2 := by decide +kernel
noncomputable def X5_text_L1 (N : Nat) (x1 : Int32) (x2 : Int32) : Nat → Int32 → Wd → Option (Wd)
  | 0, _, _ => none
  | n + 1, x3, w =>
  if (60 : Int32) ≤ x3 then
    some w
  else
    gd (vp_in (((60 : Int32) * x1) + x3) 240) (
    X5_text_L1 N x1 x2 n (x3 + (1 : Int32)) (sA w 35 0 (upd (gA w 35 0) (((60 : Int32) * x1) + x3).toNatClampNeg (32 : Int32))))
set_option maxRecDepth 20000 in
set_option maxHeartbeats 4000000 in
theorem z_X5_text_L1 {x : CX} (hC : Cx x RX5 cX5_text 4 2) (hr : (xM x).sig.returnType = (some .int)) (N : Nat) (x1 : Int32) (x2 : Int32) : ∀ (n : Nat) (x3 : Int32) (w : Wd) (q : (Wd)), X5_text_L1 N x1 x2 n x3 w = some q → Z x 59 [none, none, some (vi x2), none] [] q → Z x 34 [some (vr 5 0), some (vi x1), some (vi x2), some (vi x3)] [] w := by
  intro n
  induction n with
  | zero =>
    intro x3 w q h
    cases h
  | succ n ih =>
    intro x3 w q h ke
    rw [X5_text_L1] at h
    refine Z_iload_n hC (dk d_X5_text 21 rfl) 35 rfl rfl rfl ?_
    refine Z_bipush (v := 60) hC (dk d_X5_text 22 rfl) 37 rfl (by decide) ?_
    refine Z_icmp_ge hC (dk d_X5_text 23 rfl) 40 59 rfl (by decide) (fun c => ?_) (fun c => ?_)
    · have h := it_t h c
      obtain rfl := Option.some.inj h
      refine Z_wk [false, false, true, false] [none, none, some (vi x2), none] rfl ?_
      exact ke
    · have h := it_f h c
      refine Z_aload_n hC (dk d_X5_text 24 rfl) 41 rfl rfl rfl ?_
      refine G_X5_29 hC m_5 (dk d_X5_text 25 rfl) 44 rfl ?_
      refine Z_bipush (v := 60) hC (dk d_X5_text 26 rfl) 46 rfl (by decide) ?_
      refine Z_iload_n hC (dk d_X5_text 27 rfl) 47 rfl rfl rfl ?_
      refine Z_imul hC (dk d_X5_text 28 rfl) 48 rfl ?_
      refine Z_iload_n hC (dk d_X5_text 29 rfl) 49 rfl rfl rfl ?_
      refine Z_iadd hC (dk d_X5_text 30 rfl) 50 rfl ?_
      refine Z_bipush (v := 32) hC (dk d_X5_text 31 rfl) 52 rfl (by decide) ?_
      obtain ⟨g3, h⟩ := gd_some h
      refine Z_iastore hC m_35 (by decide) rfl g3 (dk d_X5_text 32 rfl) 53 rfl ?_
      refine Z_iinc hC (dk d_X5_text 33 rfl) 56 rfl rfl rfl [some (vr 5 0), some (vi x1), some (vi x2), some (vi (x3 + (1 : Int32)))] rfl ?_
      refine Z_goto hC (dk d_X5_text 34 rfl) 34 (by decide) ?_
      refine Z_wk [true, true, true, true] [some (vr 5 0), some (vi x1), some (vi x2), some (vi (x3 + (1 : Int32)))] rfl ?_
      exact ih (x3 + (1 : Int32)) (sA w 35 0 (upd (gA w 35 0) (((60 : Int32) * x1) + x3).toNatClampNeg (32 : Int32))) _ h ke
noncomputable def f_X5_text (N : Nat) (a1 : Int32) (a2 : Int32) (w : Wd) : Option (Int32 × Wd) :=
  (f_X5_isText N a1 w).bind (fun q1 =>
    if q1.1 = 0 then
      some ((-1 : Int32), q1.2)
    else
      if a2 ≤ (60 : Int32) then
        if 0 ≤ a2 then
          gd (vp_in a1 4) (
          (X5_text_L1 N a1 a2 N (0 : Int32) (sA q1.2 34 0 (upd (gA q1.2 34 0) a1.toNatClampNeg a2))).bind (fun q4 =>
            some (a2, q4)))
        else
          (f_X5_meet N (5 : Int32) q1.2).bind (fun q5 =>
            some (q5.1, q5.2))
      else
        some ((-1 : Int32), q1.2))
set_option maxRecDepth 20000 in
set_option maxHeartbeats 4000000 in
theorem s_X5_text (G : GT) (l : Launch) (N : Nat) (a1 : Int32) (a2 : Int32) (w : Wd) (q : Int32 × Wd) (h : f_X5_text N a1 a2 w = some q) : Sp G l yX5_text cw_X5_text 2 [vr 5 0, vi a1, vi a2] w (some (vi q.1)) q.2 := by
  refine Sp_of (own := RX5) [some (vr 5 0), some (vi a1), some (vi a2), none] (by decide) rfl rfl (Nat.le_of_ble_eq_true rfl) ?_
  intro x hG hl hC hr hQ _ _
  subst hG
  subst hl
  unfold f_X5_text at h
  refine Z_iload_n hC (dk d_X5_text 0 rfl) 1 rfl rfl rfl ?_
  obtain ⟨q1, hq1, h⟩ := bd_some h
  refine K_X5_84 [vi a1] hC (s_X5_isText (xG x) (xl x) N a1 w q1 hq1) (Nat.le_of_ble_eq_true rfl) rfl rfl rfl (Nat.le_of_ble_eq_true rfl) (dk d_X5_text 1 rfl) 4 rfl ?_
  refine Z_if_eq hC (dk d_X5_text 2 rfl) 7 13 rfl (by decide) (fun c => ?_) (fun c => ?_)
  · have h := it_t h c
    refine Z_iconst (v := -1) hC (dk d_X5_text 6 rfl) 14 rfl (by decide) ?_
    obtain rfl := Option.some.inj h
    exact Z_ireturn (st := []) hC hr hQ (dk d_X5_text 7 rfl)
  · have h := it_f h c
    refine Z_iload_n hC (dk d_X5_text 3 rfl) 8 rfl rfl rfl ?_
    refine Z_bipush (v := 60) hC (dk d_X5_text 4 rfl) 10 rfl (by decide) ?_
    refine Z_icmp_le hC (dk d_X5_text 5 rfl) 13 15 rfl (by decide) (fun c => ?_) (fun c => ?_)
    · have h := it_t h c
      refine Z_iload_n hC (dk d_X5_text 8 rfl) 16 rfl rfl rfl ?_
      refine Z_if_ge hC (dk d_X5_text 9 rfl) 19 25 rfl (by decide) (fun c => ?_) (fun c => ?_)
      · have h := it_t h c
        refine Z_aload_n hC (dk d_X5_text 14 rfl) 26 rfl rfl rfl ?_
        refine G_X5_26 hC m_5 (dk d_X5_text 15 rfl) 29 rfl ?_
        refine Z_iload_n hC (dk d_X5_text 16 rfl) 30 rfl rfl rfl ?_
        refine Z_iload_n hC (dk d_X5_text 17 rfl) 31 rfl rfl rfl ?_
        obtain ⟨g2, h⟩ := gd_some h
        refine Z_iastore hC m_34 (by decide) rfl g2 (dk d_X5_text 18 rfl) 32 rfl ?_
        refine Z_iconst (v := 0) hC (dk d_X5_text 19 rfl) 33 rfl (by decide) ?_
        refine Z_istore_n hC (dk d_X5_text 20 rfl) 34 rfl rfl (Nat.le_of_ble_eq_true rfl) [some (vr 5 0), some (vi a1), some (vi a2), some (vi (0 : Int32))] rfl ?_
        obtain ⟨q4, hq4, h⟩ := bd_some h
        refine Z_wk [true, true, true, true] [some (vr 5 0), some (vi a1), some (vi a2), some (vi (0 : Int32))] rfl ?_
        refine z_X5_text_L1 hC hr N a1 a2 N (0 : Int32) (sA q1.2 34 0 (upd (gA q1.2 34 0) a1.toNatClampNeg a2)) q4 hq4 ?_
        refine Z_iload_n hC (dk d_X5_text 35 rfl) 60 rfl rfl rfl ?_
        obtain rfl := Option.some.inj h
        exact Z_ireturn (st := []) hC hr hQ (dk d_X5_text 36 rfl)
      · have h := it_f h c
        refine Z_aload_n hC (dk d_X5_text 10 rfl) 20 rfl rfl rfl ?_
        refine Z_iconst (v := 5) hC (dk d_X5_text 11 rfl) 21 rfl (by decide) ?_
        obtain ⟨q5, hq5, h⟩ := bd_some h
        refine K_X5_80 [vi (5 : Int32)] hC m_5 (s_X5_meet (xG x) (xl x) N (5 : Int32) q1.2 q5 hq5) (Nat.le_of_ble_eq_true rfl) rfl rfl rfl (Nat.le_of_ble_eq_true rfl) (dk d_X5_text 12 rfl) 24 rfl ?_
        obtain rfl := Option.some.inj h
        exact Z_ireturn (st := []) hC hr hQ (dk d_X5_text 13 rfl)
    · have h := it_f h c
      refine Z_iconst (v := -1) hC (dk d_X5_text 6 rfl) 14 rfl (by decide) ?_
      obtain rfl := Option.some.inj h
      exact Z_ireturn (st := []) hC hr hQ (dk d_X5_text 7 rfl)
def t_X5_put : List (Nat × Instr × Nat) := [(0, .aload_n 0, 1), (1, .iload_n 1, 1), (2, .invokevirtual 104, 3), (5, .istore 4, 2), (7, .iload 4, 2), (9, .ifCond .ge 6, 3), (12, .iload 4, 2), (14, .ireturn, 1), (15, .iload_n 2, 1), (16, .iconst 0, 1), (17, .aload_n 0, 1), (18, .getfield 26, 3), (21, .iload_n 1, 1), (22, .iaload, 1), (23, .iconst 1, 1), (24, .isub, 1), (25, .invokestatic 72, 3), (28, .ifCond .ne 9, 3), (31, .aload_n 0, 1), (32, .iconst 2, 1), (33, .invokevirtual 80, 3), (36, .ireturn, 1), (37, .aload_n 0, 1), (38, .getfield 29, 3), (41, .bipush 60, 2), (43, .iload_n 1, 1), (44, .imul, 1), (45, .iload_n 2, 1), (46, .iadd, 1), (47, .iaload, 1), (48, .istore 5, 2), (50, .aload_n 0, 1), (51, .getfield 29, 3), (54, .bipush 60, 2), (56, .iload_n 1, 1), (57, .imul, 1), (58, .iload_n 2, 1), (59, .iadd, 1), (60, .iload_n 3, 1), (61, .i2b, 1), (62, .iastore, 1), (63, .iload 5, 2), (65, .sipush 1000, 3), (68, .iadd, 1), (69, .ireturn, 1)]
set_option maxRecDepth 20000 in
theorem d_X5_put : ∀ q ∈ t_X5_put, decode cX5_put q.1 = .ok q.2 := by decide +kernel
noncomputable def f_X5_put (N : Nat) (a1 : Int32) (a2 : Int32) (a3 : Int32) (w : Wd) : Option (Int32 × Wd) :=
  (f_X5_askedText N a1 w).bind (fun q1 =>
    if 0 ≤ q1.1 then
      gd (vp_in a1 4) (
      (f_X5_in N a2 (0 : Int32) ((gA q1.2 34 0 a1.toNatClampNeg) - (1 : Int32)) q1.2).bind (fun q3 =>
        if q3.1 = 0 then
          (f_X5_meet N (2 : Int32) q3.2).bind (fun q6 =>
            some (q6.1, q6.2))
        else
          gd (vp_in (((60 : Int32) * a1) + a2) 240) (
          gd (vp_in (((60 : Int32) * a1) + a2) 240) (
          some ((gA q3.2 35 0 (((60 : Int32) * a1) + a2).toNatClampNeg) + (1000 : Int32), sA q3.2 35 0 (upd (gA q3.2 35 0) (((60 : Int32) * a1) + a2).toNatClampNeg a3.toInt8.toInt32))))))
    else
      some (q1.1, q1.2))
set_option maxRecDepth 20000 in
set_option maxHeartbeats 4000000 in
theorem s_X5_put (G : GT) (l : Launch) (N : Nat) (a1 : Int32) (a2 : Int32) (a3 : Int32) (w : Wd) (q : Int32 × Wd) (h : f_X5_put N a1 a2 a3 w = some q) : Sp G l yX5_put cw_X5_put 3 [vr 5 0, vi a1, vi a2, vi a3] w (some (vi q.1)) q.2 := by
  refine Sp_of (own := RX5) [some (vr 5 0), some (vi a1), some (vi a2), some (vi a3), none, none] (by decide) rfl rfl (Nat.le_of_ble_eq_true rfl) ?_
  intro x hG hl hC hr hQ _ _
  subst hG
  subst hl
  unfold f_X5_put at h
  refine Z_aload_n hC (dk d_X5_put 0 rfl) 1 rfl rfl rfl ?_
  refine Z_iload_n hC (dk d_X5_put 1 rfl) 2 rfl rfl rfl ?_
  obtain ⟨q1, hq1, h⟩ := bd_some h
  refine K_X5_104 [vi a1] hC m_5 (s_X5_askedText (xG x) (xl x) N a1 w q1 hq1) (Nat.le_of_ble_eq_true rfl) rfl rfl rfl (Nat.le_of_ble_eq_true rfl) (dk d_X5_put 2 rfl) 5 rfl ?_
  refine Z_istore hC (dk d_X5_put 3 rfl) 7 rfl (Nat.le_of_ble_eq_true rfl) [some (vr 5 0), some (vi a1), some (vi a2), some (vi a3), some (vi q1.1), none] rfl ?_
  refine Z_iload hC (dk d_X5_put 4 rfl) 9 rfl rfl ?_
  refine Z_if_ge hC (dk d_X5_put 5 rfl) 12 15 rfl (by decide) (fun c => ?_) (fun c => ?_)
  · have h := it_t h c
    refine Z_iload_n hC (dk d_X5_put 8 rfl) 16 rfl rfl rfl ?_
    refine Z_iconst (v := 0) hC (dk d_X5_put 9 rfl) 17 rfl (by decide) ?_
    refine Z_aload_n hC (dk d_X5_put 10 rfl) 18 rfl rfl rfl ?_
    refine G_X5_26 hC m_5 (dk d_X5_put 11 rfl) 21 rfl ?_
    refine Z_iload_n hC (dk d_X5_put 12 rfl) 22 rfl rfl rfl ?_
    obtain ⟨g2, h⟩ := gd_some h
    refine Z_iaload hC m_34 (by decide) rfl g2 (dk d_X5_put 13 rfl) 23 rfl ?_
    refine Z_iconst (v := 1) hC (dk d_X5_put 14 rfl) 24 rfl (by decide) ?_
    refine Z_isub hC (dk d_X5_put 15 rfl) 25 rfl ?_
    obtain ⟨q3, hq3, h⟩ := bd_some h
    refine K_X5_72 [vi a2, vi (0 : Int32), vi ((gA q1.2 34 0 a1.toNatClampNeg) - (1 : Int32))] hC (s_X5_in (xG x) (xl x) N a2 (0 : Int32) ((gA q1.2 34 0 a1.toNatClampNeg) - (1 : Int32)) q1.2 q3 hq3) (Nat.le_of_ble_eq_true rfl) rfl rfl rfl (Nat.le_of_ble_eq_true rfl) (dk d_X5_put 16 rfl) 28 rfl ?_
    refine Z_if_ne hC (dk d_X5_put 17 rfl) 31 37 rfl (by decide) (fun c => ?_) (fun c => ?_)
    · have h := it_f h c
      refine Z_aload_n hC (dk d_X5_put 22 rfl) 38 rfl rfl rfl ?_
      refine G_X5_29 hC m_5 (dk d_X5_put 23 rfl) 41 rfl ?_
      refine Z_bipush (v := 60) hC (dk d_X5_put 24 rfl) 43 rfl (by decide) ?_
      refine Z_iload_n hC (dk d_X5_put 25 rfl) 44 rfl rfl rfl ?_
      refine Z_imul hC (dk d_X5_put 26 rfl) 45 rfl ?_
      refine Z_iload_n hC (dk d_X5_put 27 rfl) 46 rfl rfl rfl ?_
      refine Z_iadd hC (dk d_X5_put 28 rfl) 47 rfl ?_
      obtain ⟨g4, h⟩ := gd_some h
      refine Z_iaload hC m_35 (by decide) rfl g4 (dk d_X5_put 29 rfl) 48 rfl ?_
      refine Z_istore hC (dk d_X5_put 30 rfl) 50 rfl (Nat.le_of_ble_eq_true rfl) [some (vr 5 0), some (vi a1), some (vi a2), some (vi a3), some (vi q1.1), some (vi (gA q3.2 35 0 (((60 : Int32) * a1) + a2).toNatClampNeg))] rfl ?_
      refine Z_aload_n hC (dk d_X5_put 31 rfl) 51 rfl rfl rfl ?_
      refine G_X5_29 hC m_5 (dk d_X5_put 32 rfl) 54 rfl ?_
      refine Z_bipush (v := 60) hC (dk d_X5_put 33 rfl) 56 rfl (by decide) ?_
      refine Z_iload_n hC (dk d_X5_put 34 rfl) 57 rfl rfl rfl ?_
      refine Z_imul hC (dk d_X5_put 35 rfl) 58 rfl ?_
      refine Z_iload_n hC (dk d_X5_put 36 rfl) 59 rfl rfl rfl ?_
      refine Z_iadd hC (dk d_X5_put 37 rfl) 60 rfl ?_
      refine Z_iload_n hC (dk d_X5_put 38 rfl) 61 rfl rfl rfl ?_
      refine Z_i2b hC (dk d_X5_put 39 rfl) 62 rfl ?_
      obtain ⟨g5, h⟩ := gd_some h
      refine Z_iastore hC m_35 (by decide) rfl g5 (dk d_X5_put 40 rfl) 63 rfl ?_
      refine Z_iload hC (dk d_X5_put 41 rfl) 65 rfl rfl ?_
      refine Z_sipush (v := 1000) hC (dk d_X5_put 42 rfl) 68 rfl (by decide) ?_
      refine Z_iadd hC (dk d_X5_put 43 rfl) 69 rfl ?_
      obtain rfl := Option.some.inj h
      exact Z_ireturn (st := []) hC hr hQ (dk d_X5_put 44 rfl)
    · have h := it_t h c
      refine Z_aload_n hC (dk d_X5_put 18 rfl) 32 rfl rfl rfl ?_
      refine Z_iconst (v := 2) hC (dk d_X5_put 19 rfl) 33 rfl (by decide) ?_
      obtain ⟨q6, hq6, h⟩ := bd_some h
      refine K_X5_80 [vi (2 : Int32)] hC m_5 (s_X5_meet (xG x) (xl x) N (2 : Int32) q3.2 q6 hq6) (Nat.le_of_ble_eq_true rfl) rfl rfl rfl (Nat.le_of_ble_eq_true rfl) (dk d_X5_put 20 rfl) 36 rfl ?_
      obtain rfl := Option.some.inj h
      exact Z_ireturn (st := []) hC hr hQ (dk d_X5_put 21 rfl)
  · have h := it_f h c
    refine Z_iload hC (dk d_X5_put 6 rfl) 14 rfl rfl ?_
    obtain rfl := Option.some.inj h
    exact Z_ireturn (st := []) hC hr hQ (dk d_X5_put 7 rfl)
def t_X5_here : List (Nat × Instr × Nat) := [(0, .aload_n 0, 1), (1, .getfield 107, 3), (4, .aload_n 0, 1), (5, .getfield 26, 3), (8, .iload_n 1, 1), (9, .iaload, 1), (10, .if_icmp .ge 20, 3), (13, .aload_n 0, 1), (14, .getfield 29, 3), (17, .bipush 60, 2), (19, .iload_n 1, 1), (20, .imul, 1), (21, .aload_n 0, 1), (22, .getfield 107, 3), (25, .iadd, 1), (26, .iaload, 1), (27, .goto 5, 3), (30, .bipush (-9), 2), (32, .ireturn, 1)]
set_option maxRecDepth 20000 in
theorem d_X5_here : ∀ q ∈ t_X5_here, decode cX5_here q.1 = .ok q.2 := by decide +kernel
noncomputable def f_X5_here (N : Nat) (a1 : Int32) (w : Wd) : Option (Int32 × Wd) :=
  gd (vp_in a1 4) (
  if (gA w 34 0 a1.toNatClampNeg) ≤ (gI w 515 0) then
    some ((-9 : Int32), w)
  else
    gd (vp_in (((60 : Int32) * a1) + (gI w 515 0)) 240) (
    some (gA w 35 0 (((60 : Int32) * a1) + (gI w 515 0)).toNatClampNeg, w)))
set_option maxRecDepth 20000 in
set_option maxHeartbeats 4000000 in
theorem s_X5_here (G : GT) (l : Launch) (N : Nat) (a1 : Int32) (w : Wd) (q : Int32 × Wd) (h : f_X5_here N a1 w = some q) : Sp G l yX5_here cw_X5_here 0 [vr 5 0, vi a1] w (some (vi q.1)) q.2 := by
  refine Sp_of (own := RX5) [some (vr 5 0), some (vi a1)] (by decide) rfl rfl (Nat.le_of_ble_eq_true rfl) ?_
  intro x hG hl hC hr hQ _ _
  subst hG
  subst hl
  unfold f_X5_here at h
  refine Z_aload_n hC (dk d_X5_here 0 rfl) 1 rfl rfl rfl ?_
  refine G_X5_107 hC m_5 (dk d_X5_here 1 rfl) 4 rfl ?_
  refine Z_aload_n hC (dk d_X5_here 2 rfl) 5 rfl rfl rfl ?_
  refine G_X5_26 hC m_5 (dk d_X5_here 3 rfl) 8 rfl ?_
  refine Z_iload_n hC (dk d_X5_here 4 rfl) 9 rfl rfl rfl ?_
  obtain ⟨g1, h⟩ := gd_some h
  refine Z_iaload hC m_34 (by decide) rfl g1 (dk d_X5_here 5 rfl) 10 rfl ?_
  refine Z_icmp_ge hC (dk d_X5_here 6 rfl) 13 30 rfl (by decide) (fun c => ?_) (fun c => ?_)
  · have h := it_t h c
    refine Z_bipush (v := -9) hC (dk d_X5_here 17 rfl) 32 rfl (by decide) ?_
    obtain rfl := Option.some.inj h
    exact Z_ireturn (st := []) hC hr hQ (dk d_X5_here 18 rfl)
  · have h := it_f h c
    refine Z_aload_n hC (dk d_X5_here 7 rfl) 14 rfl rfl rfl ?_
    refine G_X5_29 hC m_5 (dk d_X5_here 8 rfl) 17 rfl ?_
    refine Z_bipush (v := 60) hC (dk d_X5_here 9 rfl) 19 rfl (by decide) ?_
    refine Z_iload_n hC (dk d_X5_here 10 rfl) 20 rfl rfl rfl ?_
    refine Z_imul hC (dk d_X5_here 11 rfl) 21 rfl ?_
    refine Z_aload_n hC (dk d_X5_here 12 rfl) 22 rfl rfl rfl ?_
    refine G_X5_107 hC m_5 (dk d_X5_here 13 rfl) 25 rfl ?_
    refine Z_iadd hC (dk d_X5_here 14 rfl) 26 rfl ?_
    obtain ⟨g2, h⟩ := gd_some h
    refine Z_iaload hC m_35 (by decide) rfl g2 (dk d_X5_here 15 rfl) 27 rfl ?_
    refine Z_goto hC (dk d_X5_here 16 rfl) 32 (by decide) ?_
    obtain rfl := Option.some.inj h
    exact Z_ireturn (st := []) hC hr hQ (dk d_X5_here 18 rfl)
def t_X5_kindOf : List (Nat × Instr × Nat) := [(0, .iload_n 0, 1), (1, .bipush 109, 2), (3, .if_icmp .ne 7, 3), (6, .iconst 0, 1), (7, .goto 55, 3), (10, .iload_n 0, 1), (11, .bipush 98, 2), (13, .if_icmp .ne 7, 3), (16, .iconst 1, 1), (17, .goto 45, 3), (20, .iload_n 0, 1), (21, .bipush 110, 2), (23, .if_icmp .ne 7, 3), (26, .iconst 2, 1), (27, .goto 35, 3), (30, .iload_n 0, 1), (31, .bipush 115, 2), (33, .if_icmp .ne 7, 3), (36, .iconst 3, 1), (37, .goto 25, 3), (40, .iload_n 0, 1), (41, .bipush 99, 2), (43, .if_icmp .ne 7, 3), (46, .iconst 4, 1), (47, .goto 15, 3), (50, .iload_n 0, 1), (51, .bipush 112, 2), (53, .if_icmp .ne 7, 3), (56, .iconst 5, 1), (57, .goto 5, 3), (60, .bipush (-9), 2), (62, .ireturn, 1)]
set_option maxRecDepth 20000 in
theorem d_X5_kindOf : ∀ q ∈ t_X5_kindOf, decode cX5_kindOf q.1 = .ok q.2 := by decide +kernel
noncomputable def f_X5_kindOf (N : Nat) (a1 : Int32) (w : Wd) : Option (Int32 × Wd) :=
  if a1 = (109 : Int32) then
    some ((0 : Int32), w)
  else
    if a1 = (98 : Int32) then
      some ((1 : Int32), w)
    else
      if a1 = (110 : Int32) then
        some ((2 : Int32), w)
      else
        if a1 = (115 : Int32) then
          some ((3 : Int32), w)
        else
          if a1 = (99 : Int32) then
            some ((4 : Int32), w)
          else
            if a1 = (112 : Int32) then
              some ((5 : Int32), w)
            else
              some ((-9 : Int32), w)
set_option maxRecDepth 20000 in
set_option maxHeartbeats 4000000 in
theorem s_X5_kindOf (G : GT) (l : Launch) (N : Nat) (a1 : Int32) (w : Wd) (q : Int32 × Wd) (h : f_X5_kindOf N a1 w = some q) : Sp G l yX5_kindOf cw_X5_kindOf 0 [vi a1] w (some (vi q.1)) q.2 := by
  refine Sp_of (own := RX5) [some (vi a1)] (by decide) rfl rfl (Nat.le_of_ble_eq_true rfl) ?_
  intro x hG hl hC hr hQ _ _
  subst hG
  subst hl
  unfold f_X5_kindOf at h
  refine Z_iload_n hC (dk d_X5_kindOf 0 rfl) 1 rfl rfl rfl ?_
  refine Z_bipush (v := 109) hC (dk d_X5_kindOf 1 rfl) 3 rfl (by decide) ?_
  refine Z_icmp_ne hC (dk d_X5_kindOf 2 rfl) 6 10 rfl (by decide) (fun c => ?_) (fun c => ?_)
  · have h := it_f h c
    refine Z_iload_n hC (dk d_X5_kindOf 5 rfl) 11 rfl rfl rfl ?_
    refine Z_bipush (v := 98) hC (dk d_X5_kindOf 6 rfl) 13 rfl (by decide) ?_
    refine Z_icmp_ne hC (dk d_X5_kindOf 7 rfl) 16 20 rfl (by decide) (fun c => ?_) (fun c => ?_)
    · have h := it_f h c
      refine Z_iload_n hC (dk d_X5_kindOf 10 rfl) 21 rfl rfl rfl ?_
      refine Z_bipush (v := 110) hC (dk d_X5_kindOf 11 rfl) 23 rfl (by decide) ?_
      refine Z_icmp_ne hC (dk d_X5_kindOf 12 rfl) 26 30 rfl (by decide) (fun c => ?_) (fun c => ?_)
      · have h := it_f h c
        refine Z_iload_n hC (dk d_X5_kindOf 15 rfl) 31 rfl rfl rfl ?_
        refine Z_bipush (v := 115) hC (dk d_X5_kindOf 16 rfl) 33 rfl (by decide) ?_
        refine Z_icmp_ne hC (dk d_X5_kindOf 17 rfl) 36 40 rfl (by decide) (fun c => ?_) (fun c => ?_)
        · have h := it_f h c
          refine Z_iload_n hC (dk d_X5_kindOf 20 rfl) 41 rfl rfl rfl ?_
          refine Z_bipush (v := 99) hC (dk d_X5_kindOf 21 rfl) 43 rfl (by decide) ?_
          refine Z_icmp_ne hC (dk d_X5_kindOf 22 rfl) 46 50 rfl (by decide) (fun c => ?_) (fun c => ?_)
          · have h := it_f h c
            refine Z_iload_n hC (dk d_X5_kindOf 25 rfl) 51 rfl rfl rfl ?_
            refine Z_bipush (v := 112) hC (dk d_X5_kindOf 26 rfl) 53 rfl (by decide) ?_
            refine Z_icmp_ne hC (dk d_X5_kindOf 27 rfl) 56 60 rfl (by decide) (fun c => ?_) (fun c => ?_)
            · have h := it_f h c
              refine Z_bipush (v := -9) hC (dk d_X5_kindOf 30 rfl) 62 rfl (by decide) ?_
              obtain rfl := Option.some.inj h
              exact Z_ireturn (st := []) hC hr hQ (dk d_X5_kindOf 31 rfl)
            · have h := it_t h c
              refine Z_iconst (v := 5) hC (dk d_X5_kindOf 28 rfl) 57 rfl (by decide) ?_
              refine Z_goto hC (dk d_X5_kindOf 29 rfl) 62 (by decide) ?_
              obtain rfl := Option.some.inj h
              exact Z_ireturn (st := []) hC hr hQ (dk d_X5_kindOf 31 rfl)
          · have h := it_t h c
            refine Z_iconst (v := 4) hC (dk d_X5_kindOf 23 rfl) 47 rfl (by decide) ?_
            refine Z_goto hC (dk d_X5_kindOf 24 rfl) 62 (by decide) ?_
            obtain rfl := Option.some.inj h
            exact Z_ireturn (st := []) hC hr hQ (dk d_X5_kindOf 31 rfl)
        · have h := it_t h c
          refine Z_iconst (v := 3) hC (dk d_X5_kindOf 18 rfl) 37 rfl (by decide) ?_
          refine Z_goto hC (dk d_X5_kindOf 19 rfl) 62 (by decide) ?_
          obtain rfl := Option.some.inj h
          exact Z_ireturn (st := []) hC hr hQ (dk d_X5_kindOf 31 rfl)
      · have h := it_t h c
        refine Z_iconst (v := 2) hC (dk d_X5_kindOf 13 rfl) 27 rfl (by decide) ?_
        refine Z_goto hC (dk d_X5_kindOf 14 rfl) 62 (by decide) ?_
        obtain rfl := Option.some.inj h
        exact Z_ireturn (st := []) hC hr hQ (dk d_X5_kindOf 31 rfl)
    · have h := it_t h c
      refine Z_iconst (v := 1) hC (dk d_X5_kindOf 8 rfl) 17 rfl (by decide) ?_
      refine Z_goto hC (dk d_X5_kindOf 9 rfl) 62 (by decide) ?_
      obtain rfl := Option.some.inj h
      exact Z_ireturn (st := []) hC hr hQ (dk d_X5_kindOf 31 rfl)
  · have h := it_t h c
    refine Z_iconst (v := 0) hC (dk d_X5_kindOf 3 rfl) 7 rfl (by decide) ?_
    refine Z_goto hC (dk d_X5_kindOf 4 rfl) 62 (by decide) ?_
    obtain rfl := Option.some.inj h
    exact Z_ireturn (st := []) hC hr hQ (dk d_X5_kindOf 31 rfl)
def t_X5_readsMate : List (Nat × Instr × Nat) := [(0, .aload_n 0, 1), (1, .iload_n 1, 1), (2, .invokevirtual 110, 3), (5, .invokestatic 113, 3), (8, .istore_n 2, 1), (9, .iload_n 2, 1), (10, .bipush (-9), 2), (12, .if_icmp .eq 12, 3), (15, .aload_n 0, 1), (16, .getfield 116, 3), (19, .bipush 6, 2), (21, .if_icmp .ne 5, 3), (24, .iconst 0, 1), (25, .ireturn, 1), (26, .aload_n 0, 1), (27, .dup, 1), (28, .getfield 107, 3), (31, .iconst 1, 1), (32, .iadd, 1), (33, .putfield 107, 3), (36, .bipush 6, 2), (38, .aload_n 0, 1), (39, .getfield 116, 3), (42, .iadd, 1), (43, .istore_n 3, 1), (44, .aload_n 0, 1), (45, .getfield 36, 3), (48, .iload_n 3, 1), (49, .iload_n 2, 1), (50, .iastore, 1), (51, .aload_n 0, 1), (52, .iload_n 1, 1), (53, .invokevirtual 110, 3), (56, .bipush 48, 2), (58, .bipush 57, 2), (60, .invokestatic 72, 3), (63, .ifCond .ne 5, 3), (66, .iconst 0, 1), (67, .ireturn, 1), (68, .aload_n 0, 1), (69, .getfield 39, 3), (72, .iload_n 3, 1), (73, .aload_n 0, 1), (74, .iload_n 1, 1), (75, .invokevirtual 110, 3), (78, .bipush 48, 2), (80, .isub, 1), (81, .iastore, 1), (82, .aload_n 0, 1), (83, .dup, 1), (84, .getfield 107, 3), (87, .iconst 1, 1), (88, .iadd, 1), (89, .putfield 107, 3), (92, .aload_n 0, 1), (93, .iload_n 1, 1), (94, .invokevirtual 110, 3), (97, .bipush 48, 2), (99, .bipush 57, 2), (101, .invokestatic 72, 3), (104, .ifCond .ne 5, 3), (107, .iconst 0, 1), (108, .ireturn, 1), (109, .aload_n 0, 1), (110, .getfield 42, 3), (113, .iload_n 3, 1), (114, .aload_n 0, 1), (115, .iload_n 1, 1), (116, .invokevirtual 110, 3), (119, .bipush 48, 2), (121, .isub, 1), (122, .iastore, 1), (123, .aload_n 0, 1), (124, .dup, 1), (125, .getfield 107, 3), (128, .iconst 1, 1), (129, .iadd, 1), (130, .putfield 107, 3), (133, .aload_n 0, 1), (134, .dup, 1), (135, .getfield 116, 3), (138, .iconst 1, 1), (139, .iadd, 1), (140, .putfield 116, 3), (143, .iconst 1, 1), (144, .ireturn, 1)]
set_option maxRecDepth 20000 in
theorem d_X5_readsMate : ∀ q ∈ t_X5_readsMate, decode cX5_readsMate q.1 = .ok q.2 := by decide +kernel
noncomputable def f_X5_readsMate (N : Nat) (a1 : Int32) (w : Wd) : Option (Int32 × Wd) :=
  (f_X5_here N a1 w).bind (fun q1 =>
    (f_X5_kindOf N q1.1 q1.2).bind (fun q2 =>
      if q2.1 = (-9 : Int32) then
        some ((0 : Int32), q2.2)
      else
        if (gI q2.2 516 0) = (6 : Int32) then
          some ((0 : Int32), q2.2)
        else
          gd (vp_in ((6 : Int32) + (gI (sI q2.2 515 0 ((gI q2.2 515 0) + (1 : Int32))) 516 0)) 12) (
          (f_X5_here N a1 (sA (sI q2.2 515 0 ((gI q2.2 515 0) + (1 : Int32))) 36 0 (upd (gA (sI q2.2 515 0 ((gI q2.2 515 0) + (1 : Int32))) 36 0) ((6 : Int32) + (gI (sI q2.2 515 0 ((gI q2.2 515 0) + (1 : Int32))) 516 0)).toNatClampNeg q2.1))).bind (fun q4 =>
            (f_X5_in N q4.1 (48 : Int32) (57 : Int32) q4.2).bind (fun q5 =>
              if q5.1 = 0 then
                some ((0 : Int32), q5.2)
              else
                (f_X5_here N a1 q5.2).bind (fun q6 =>
                  gd (vp_in ((6 : Int32) + (gI (sI q2.2 515 0 ((gI q2.2 515 0) + (1 : Int32))) 516 0)) 12) (
                  (f_X5_here N a1 (sI (sA q6.2 37 0 (upd (gA q6.2 37 0) ((6 : Int32) + (gI (sI q2.2 515 0 ((gI q2.2 515 0) + (1 : Int32))) 516 0)).toNatClampNeg (q6.1 - (48 : Int32)))) 515 0 ((gI (sA q6.2 37 0 (upd (gA q6.2 37 0) ((6 : Int32) + (gI (sI q2.2 515 0 ((gI q2.2 515 0) + (1 : Int32))) 516 0)).toNatClampNeg (q6.1 - (48 : Int32)))) 515 0) + (1 : Int32)))).bind (fun q8 =>
                    (f_X5_in N q8.1 (48 : Int32) (57 : Int32) q8.2).bind (fun q9 =>
                      if q9.1 = 0 then
                        some ((0 : Int32), q9.2)
                      else
                        (f_X5_here N a1 q9.2).bind (fun q10 =>
                          gd (vp_in ((6 : Int32) + (gI (sI q2.2 515 0 ((gI q2.2 515 0) + (1 : Int32))) 516 0)) 12) (
                          some ((1 : Int32), sI (sI (sA q10.2 38 0 (upd (gA q10.2 38 0) ((6 : Int32) + (gI (sI q2.2 515 0 ((gI q2.2 515 0) + (1 : Int32))) 516 0)).toNatClampNeg (q10.1 - (48 : Int32)))) 515 0 ((gI (sA q10.2 38 0 (upd (gA q10.2 38 0) ((6 : Int32) + (gI (sI q2.2 515 0 ((gI q2.2 515 0) + (1 : Int32))) 516 0)).toNatClampNeg (q10.1 - (48 : Int32)))) 515 0) + (1 : Int32))) 516 0 ((gI (sI (sA q10.2 38 0 (upd (gA q10.2 38 0) ((6 : Int32) + (gI (sI q2.2 515 0 ((gI q2.2 515 0) + (1 : Int32))) 516 0)).toNatClampNeg (q10.1 - (48 : Int32)))) 515 0 ((gI (sA q10.2 38 0 (upd (gA q10.2 38 0) ((6 : Int32) + (gI (sI q2.2 515 0 ((gI q2.2 515 0) + (1 : Int32))) 516 0)).toNatClampNeg (q10.1 - (48 : Int32)))) 515 0) + (1 : Int32))) 516 0) + (1 : Int32))))))))))))))
set_option maxRecDepth 20000 in
set_option maxHeartbeats 4000000 in
theorem s_X5_readsMate (G : GT) (l : Launch) (N : Nat) (a1 : Int32) (w : Wd) (q : Int32 × Wd) (h : f_X5_readsMate N a1 w = some q) : Sp G l yX5_readsMate cw_X5_readsMate 1 [vr 5 0, vi a1] w (some (vi q.1)) q.2 := by
  refine Sp_of (own := RX5) [some (vr 5 0), some (vi a1), none, none] (by decide) rfl rfl (Nat.le_of_ble_eq_true rfl) ?_
  intro x hG hl hC hr hQ _ _
  subst hG
  subst hl
  unfold f_X5_readsMate at h
  refine Z_aload_n hC (dk d_X5_readsMate 0 rfl) 1 rfl rfl rfl ?_
  refine Z_iload_n hC (dk d_X5_readsMate 1 rfl) 2 rfl rfl rfl ?_
  obtain ⟨q1, hq1, h⟩ := bd_some h
  refine K_X5_110 [vi a1] hC m_5 (s_X5_here (xG x) (xl x) N a1 w q1 hq1) (Nat.le_of_ble_eq_true rfl) rfl rfl rfl (Nat.le_of_ble_eq_true rfl) (dk d_X5_readsMate 2 rfl) 5 rfl ?_
  obtain ⟨q2, hq2, h⟩ := bd_some h
  refine K_X5_113 [vi q1.1] hC (s_X5_kindOf (xG x) (xl x) N q1.1 q1.2 q2 hq2) (Nat.le_of_ble_eq_true rfl) rfl rfl rfl (Nat.le_of_ble_eq_true rfl) (dk d_X5_readsMate 3 rfl) 8 rfl ?_
  refine Z_istore_n hC (dk d_X5_readsMate 4 rfl) 9 rfl rfl (Nat.le_of_ble_eq_true rfl) [some (vr 5 0), some (vi a1), some (vi q2.1), none] rfl ?_
  refine Z_iload_n hC (dk d_X5_readsMate 5 rfl) 10 rfl rfl rfl ?_
  refine Z_bipush (v := -9) hC (dk d_X5_readsMate 6 rfl) 12 rfl (by decide) ?_
  refine Z_icmp_eq hC (dk d_X5_readsMate 7 rfl) 15 24 rfl (by decide) (fun c => ?_) (fun c => ?_)
  · have h := it_t h c
    refine Z_iconst (v := 0) hC (dk d_X5_readsMate 12 rfl) 25 rfl (by decide) ?_
    obtain rfl := Option.some.inj h
    exact Z_zreturn (st := []) hC hr rfl hQ (dk d_X5_readsMate 13 rfl)
  · have h := it_f h c
    refine Z_aload_n hC (dk d_X5_readsMate 8 rfl) 16 rfl rfl rfl ?_
    refine G_X5_116 hC m_5 (dk d_X5_readsMate 9 rfl) 19 rfl ?_
    refine Z_bipush (v := 6) hC (dk d_X5_readsMate 10 rfl) 21 rfl (by decide) ?_
    refine Z_icmp_ne hC (dk d_X5_readsMate 11 rfl) 24 26 rfl (by decide) (fun c => ?_) (fun c => ?_)
    · have h := it_f h c
      refine Z_aload_n hC (dk d_X5_readsMate 14 rfl) 27 rfl rfl rfl ?_
      refine Z_dup hC (dk d_X5_readsMate 15 rfl) 28 rfl rfl ?_
      refine G_X5_107 hC m_5 (dk d_X5_readsMate 16 rfl) 31 rfl ?_
      refine Z_iconst (v := 1) hC (dk d_X5_readsMate 17 rfl) 32 rfl (by decide) ?_
      refine Z_iadd hC (dk d_X5_readsMate 18 rfl) 33 rfl ?_
      refine P_X5_107 hC m_5 (dk d_X5_readsMate 19 rfl) 36 rfl ?_
      refine Z_bipush (v := 6) hC (dk d_X5_readsMate 20 rfl) 38 rfl (by decide) ?_
      refine Z_aload_n hC (dk d_X5_readsMate 21 rfl) 39 rfl rfl rfl ?_
      refine G_X5_116 hC m_5 (dk d_X5_readsMate 22 rfl) 42 rfl ?_
      refine Z_iadd hC (dk d_X5_readsMate 23 rfl) 43 rfl ?_
      refine Z_istore_n hC (dk d_X5_readsMate 24 rfl) 44 rfl rfl (Nat.le_of_ble_eq_true rfl) [some (vr 5 0), some (vi a1), some (vi q2.1), some (vi ((6 : Int32) + (gI (sI q2.2 515 0 ((gI q2.2 515 0) + (1 : Int32))) 516 0)))] rfl ?_
      refine Z_aload_n hC (dk d_X5_readsMate 25 rfl) 45 rfl rfl rfl ?_
      refine G_X5_36 hC m_5 (dk d_X5_readsMate 26 rfl) 48 rfl ?_
      refine Z_iload_n hC (dk d_X5_readsMate 27 rfl) 49 rfl rfl rfl ?_
      refine Z_iload_n hC (dk d_X5_readsMate 28 rfl) 50 rfl rfl rfl ?_
      obtain ⟨g3, h⟩ := gd_some h
      refine Z_iastore hC m_36 (by decide) rfl g3 (dk d_X5_readsMate 29 rfl) 51 rfl ?_
      refine Z_aload_n hC (dk d_X5_readsMate 30 rfl) 52 rfl rfl rfl ?_
      refine Z_iload_n hC (dk d_X5_readsMate 31 rfl) 53 rfl rfl rfl ?_
      obtain ⟨q4, hq4, h⟩ := bd_some h
      refine K_X5_110 [vi a1] hC m_5 (s_X5_here (xG x) (xl x) N a1 (sA (sI q2.2 515 0 ((gI q2.2 515 0) + (1 : Int32))) 36 0 (upd (gA (sI q2.2 515 0 ((gI q2.2 515 0) + (1 : Int32))) 36 0) ((6 : Int32) + (gI (sI q2.2 515 0 ((gI q2.2 515 0) + (1 : Int32))) 516 0)).toNatClampNeg q2.1)) q4 hq4) (Nat.le_of_ble_eq_true rfl) rfl rfl rfl (Nat.le_of_ble_eq_true rfl) (dk d_X5_readsMate 32 rfl) 56 rfl ?_
      refine Z_bipush (v := 48) hC (dk d_X5_readsMate 33 rfl) 58 rfl (by decide) ?_
      refine Z_bipush (v := 57) hC (dk d_X5_readsMate 34 rfl) 60 rfl (by decide) ?_
      obtain ⟨q5, hq5, h⟩ := bd_some h
      refine K_X5_72 [vi q4.1, vi (48 : Int32), vi (57 : Int32)] hC (s_X5_in (xG x) (xl x) N q4.1 (48 : Int32) (57 : Int32) q4.2 q5 hq5) (Nat.le_of_ble_eq_true rfl) rfl rfl rfl (Nat.le_of_ble_eq_true rfl) (dk d_X5_readsMate 35 rfl) 63 rfl ?_
      refine Z_if_ne hC (dk d_X5_readsMate 36 rfl) 66 68 rfl (by decide) (fun c => ?_) (fun c => ?_)
      · have h := it_f h c
        refine Z_aload_n hC (dk d_X5_readsMate 39 rfl) 69 rfl rfl rfl ?_
        refine G_X5_39 hC m_5 (dk d_X5_readsMate 40 rfl) 72 rfl ?_
        refine Z_iload_n hC (dk d_X5_readsMate 41 rfl) 73 rfl rfl rfl ?_
        refine Z_aload_n hC (dk d_X5_readsMate 42 rfl) 74 rfl rfl rfl ?_
        refine Z_iload_n hC (dk d_X5_readsMate 43 rfl) 75 rfl rfl rfl ?_
        obtain ⟨q6, hq6, h⟩ := bd_some h
        refine K_X5_110 [vi a1] hC m_5 (s_X5_here (xG x) (xl x) N a1 q5.2 q6 hq6) (Nat.le_of_ble_eq_true rfl) rfl rfl rfl (Nat.le_of_ble_eq_true rfl) (dk d_X5_readsMate 44 rfl) 78 rfl ?_
        refine Z_bipush (v := 48) hC (dk d_X5_readsMate 45 rfl) 80 rfl (by decide) ?_
        refine Z_isub hC (dk d_X5_readsMate 46 rfl) 81 rfl ?_
        obtain ⟨g7, h⟩ := gd_some h
        refine Z_iastore hC m_37 (by decide) rfl g7 (dk d_X5_readsMate 47 rfl) 82 rfl ?_
        refine Z_aload_n hC (dk d_X5_readsMate 48 rfl) 83 rfl rfl rfl ?_
        refine Z_dup hC (dk d_X5_readsMate 49 rfl) 84 rfl rfl ?_
        refine G_X5_107 hC m_5 (dk d_X5_readsMate 50 rfl) 87 rfl ?_
        refine Z_iconst (v := 1) hC (dk d_X5_readsMate 51 rfl) 88 rfl (by decide) ?_
        refine Z_iadd hC (dk d_X5_readsMate 52 rfl) 89 rfl ?_
        refine P_X5_107 hC m_5 (dk d_X5_readsMate 53 rfl) 92 rfl ?_
        refine Z_aload_n hC (dk d_X5_readsMate 54 rfl) 93 rfl rfl rfl ?_
        refine Z_iload_n hC (dk d_X5_readsMate 55 rfl) 94 rfl rfl rfl ?_
        obtain ⟨q8, hq8, h⟩ := bd_some h
        refine K_X5_110 [vi a1] hC m_5 (s_X5_here (xG x) (xl x) N a1 (sI (sA q6.2 37 0 (upd (gA q6.2 37 0) ((6 : Int32) + (gI (sI q2.2 515 0 ((gI q2.2 515 0) + (1 : Int32))) 516 0)).toNatClampNeg (q6.1 - (48 : Int32)))) 515 0 ((gI (sA q6.2 37 0 (upd (gA q6.2 37 0) ((6 : Int32) + (gI (sI q2.2 515 0 ((gI q2.2 515 0) + (1 : Int32))) 516 0)).toNatClampNeg (q6.1 - (48 : Int32)))) 515 0) + (1 : Int32))) q8 hq8) (Nat.le_of_ble_eq_true rfl) rfl rfl rfl (Nat.le_of_ble_eq_true rfl) (dk d_X5_readsMate 56 rfl) 97 rfl ?_
        refine Z_bipush (v := 48) hC (dk d_X5_readsMate 57 rfl) 99 rfl (by decide) ?_
        refine Z_bipush (v := 57) hC (dk d_X5_readsMate 58 rfl) 101 rfl (by decide) ?_
        obtain ⟨q9, hq9, h⟩ := bd_some h
        refine K_X5_72 [vi q8.1, vi (48 : Int32), vi (57 : Int32)] hC (s_X5_in (xG x) (xl x) N q8.1 (48 : Int32) (57 : Int32) q8.2 q9 hq9) (Nat.le_of_ble_eq_true rfl) rfl rfl rfl (Nat.le_of_ble_eq_true rfl) (dk d_X5_readsMate 59 rfl) 104 rfl ?_
        refine Z_if_ne hC (dk d_X5_readsMate 60 rfl) 107 109 rfl (by decide) (fun c => ?_) (fun c => ?_)
        · have h := it_f h c
          refine Z_aload_n hC (dk d_X5_readsMate 63 rfl) 110 rfl rfl rfl ?_
          refine G_X5_42 hC m_5 (dk d_X5_readsMate 64 rfl) 113 rfl ?_
          refine Z_iload_n hC (dk d_X5_readsMate 65 rfl) 114 rfl rfl rfl ?_
          refine Z_aload_n hC (dk d_X5_readsMate 66 rfl) 115 rfl rfl rfl ?_
          refine Z_iload_n hC (dk d_X5_readsMate 67 rfl) 116 rfl rfl rfl ?_
          obtain ⟨q10, hq10, h⟩ := bd_some h
          refine K_X5_110 [vi a1] hC m_5 (s_X5_here (xG x) (xl x) N a1 q9.2 q10 hq10) (Nat.le_of_ble_eq_true rfl) rfl rfl rfl (Nat.le_of_ble_eq_true rfl) (dk d_X5_readsMate 68 rfl) 119 rfl ?_
          refine Z_bipush (v := 48) hC (dk d_X5_readsMate 69 rfl) 121 rfl (by decide) ?_
          refine Z_isub hC (dk d_X5_readsMate 70 rfl) 122 rfl ?_
          obtain ⟨g11, h⟩ := gd_some h
          refine Z_iastore hC m_38 (by decide) rfl g11 (dk d_X5_readsMate 71 rfl) 123 rfl ?_
          refine Z_aload_n hC (dk d_X5_readsMate 72 rfl) 124 rfl rfl rfl ?_
          refine Z_dup hC (dk d_X5_readsMate 73 rfl) 125 rfl rfl ?_
          refine G_X5_107 hC m_5 (dk d_X5_readsMate 74 rfl) 128 rfl ?_
          refine Z_iconst (v := 1) hC (dk d_X5_readsMate 75 rfl) 129 rfl (by decide) ?_
          refine Z_iadd hC (dk d_X5_readsMate 76 rfl) 130 rfl ?_
          refine P_X5_107 hC m_5 (dk d_X5_readsMate 77 rfl) 133 rfl ?_
          refine Z_aload_n hC (dk d_X5_readsMate 78 rfl) 134 rfl rfl rfl ?_
          refine Z_dup hC (dk d_X5_readsMate 79 rfl) 135 rfl rfl ?_
          refine G_X5_116 hC m_5 (dk d_X5_readsMate 80 rfl) 138 rfl ?_
          refine Z_iconst (v := 1) hC (dk d_X5_readsMate 81 rfl) 139 rfl (by decide) ?_
          refine Z_iadd hC (dk d_X5_readsMate 82 rfl) 140 rfl ?_
          refine P_X5_116 hC m_5 (dk d_X5_readsMate 83 rfl) 143 rfl ?_
          refine Z_iconst (v := 1) hC (dk d_X5_readsMate 84 rfl) 144 rfl (by decide) ?_
          obtain rfl := Option.some.inj h
          exact Z_zreturn (st := []) hC hr rfl hQ (dk d_X5_readsMate 85 rfl)
        · have h := it_t h c
          refine Z_iconst (v := 0) hC (dk d_X5_readsMate 61 rfl) 108 rfl (by decide) ?_
          obtain rfl := Option.some.inj h
          exact Z_zreturn (st := []) hC hr rfl hQ (dk d_X5_readsMate 62 rfl)
      · have h := it_t h c
        refine Z_iconst (v := 0) hC (dk d_X5_readsMate 37 rfl) 67 rfl (by decide) ?_
        obtain rfl := Option.some.inj h
        exact Z_zreturn (st := []) hC hr rfl hQ (dk d_X5_readsMate 38 rfl)
    · have h := it_t h c
      refine Z_iconst (v := 0) hC (dk d_X5_readsMate 12 rfl) 25 rfl (by decide) ?_
      obtain rfl := Option.some.inj h
      exact Z_zreturn (st := []) hC hr rfl hQ (dk d_X5_readsMate 13 rfl)
def t_X5_goesOn : List (Nat × Instr × Nat) := [(0, .aload_n 0, 1), (1, .iconst 0, 1), (2, .putfield 107, 3), (5, .aload_n 0, 1), (6, .iconst 0, 1), (7, .putfield 116, 3), (10, .aload_n 0, 1), (11, .getfield 107, 3), (14, .aload_n 0, 1), (15, .getfield 26, 3), (18, .iload_n 1, 1), (19, .iaload, 1), (20, .if_icmp .ge 39, 3), (23, .aload_n 0, 1), (24, .iload_n 1, 1), (25, .invokevirtual 110, 3), (28, .bipush 32, 2), (30, .if_icmp .ne 16, 3), (33, .aload_n 0, 1), (34, .dup, 1), (35, .getfield 107, 3), (38, .iconst 1, 1), (39, .iadd, 1), (40, .putfield 107, 3), (43, .goto (-33), 3), (46, .aload_n 0, 1), (47, .iload_n 1, 1), (48, .invokevirtual 119, 3), (51, .ifCond .ne (-41), 3), (54, .aload_n 0, 1), (55, .getfield 107, 3), (58, .ireturn, 1), (59, .bipush (-9), 2), (61, .ireturn, 1)]
set_option maxRecDepth 20000 in
theorem d_X5_goesOn : ∀ q ∈ t_X5_goesOn, decode cX5_goesOn q.1 = .ok q.2 := by decide +kernel
noncomputable def X5_goesOn_L1 (N : Nat) (x1 : Int32) : Nat → Wd → Option ((Int32 × Wd) ⊕ (Wd))
  | 0, _ => none
  | n + 1, w =>
  gd (vp_in x1 4) (
  if (gA w 34 0 x1.toNatClampNeg) ≤ (gI w 515 0) then
    some (.inr w)
  else
    (f_X5_here N x1 w).bind (fun q2 =>
      if q2.1 = (32 : Int32) then
        X5_goesOn_L1 N x1 n (sI q2.2 515 0 ((gI q2.2 515 0) + (1 : Int32)))
      else
        (f_X5_readsMate N x1 q2.2).bind (fun q3 =>
          if q3.1 = 0 then
            some (.inl (gI q3.2 515 0, q3.2))
          else
            X5_goesOn_L1 N x1 n q3.2)))
set_option maxRecDepth 20000 in
set_option maxHeartbeats 4000000 in
theorem z_X5_goesOn_L1 {x : CX} (hC : Cx x RX5 cX5_goesOn 2 2) (hr : (xM x).sig.returnType = (some .int)) (N : Nat) (x1 : Int32) : ∀ (n : Nat)  (w : Wd) (q : ((Int32 × Wd) ⊕ (Wd))), X5_goesOn_L1 N x1 n w = some q → (∀ r : Int32 × Wd, q = .inl r → Rt x (some (vi r.1)) r.2) → (∀ o : Wd, q = .inr o → Z x 59 [none, none] [] o) → Z x 10 [some (vr 5 0), some (vi x1)] [] w := by
  intro n
  induction n with
  | zero =>
    intro w q h
    cases h
  | succ n ih =>
    intro w q h kr ke
    rw [X5_goesOn_L1] at h
    refine Z_aload_n hC (dk d_X5_goesOn 6 rfl) 11 rfl rfl rfl ?_
    refine G_X5_107 hC m_5 (dk d_X5_goesOn 7 rfl) 14 rfl ?_
    refine Z_aload_n hC (dk d_X5_goesOn 8 rfl) 15 rfl rfl rfl ?_
    refine G_X5_26 hC m_5 (dk d_X5_goesOn 9 rfl) 18 rfl ?_
    refine Z_iload_n hC (dk d_X5_goesOn 10 rfl) 19 rfl rfl rfl ?_
    obtain ⟨g1, h⟩ := gd_some h
    refine Z_iaload hC m_34 (by decide) rfl g1 (dk d_X5_goesOn 11 rfl) 20 rfl ?_
    refine Z_icmp_ge hC (dk d_X5_goesOn 12 rfl) 23 59 rfl (by decide) (fun c => ?_) (fun c => ?_)
    · have h := it_t h c
      obtain rfl := Option.some.inj h
      refine Z_wk [false, false] [none, none] rfl ?_
      exact ke _ rfl
    · have h := it_f h c
      refine Z_aload_n hC (dk d_X5_goesOn 13 rfl) 24 rfl rfl rfl ?_
      refine Z_iload_n hC (dk d_X5_goesOn 14 rfl) 25 rfl rfl rfl ?_
      obtain ⟨q2, hq2, h⟩ := bd_some h
      refine K_X5_110 [vi x1] hC m_5 (s_X5_here (xG x) (xl x) N x1 w q2 hq2) (Nat.le_of_ble_eq_true rfl) rfl rfl rfl (Nat.le_of_ble_eq_true rfl) (dk d_X5_goesOn 15 rfl) 28 rfl ?_
      refine Z_bipush (v := 32) hC (dk d_X5_goesOn 16 rfl) 30 rfl (by decide) ?_
      refine Z_icmp_ne hC (dk d_X5_goesOn 17 rfl) 33 46 rfl (by decide) (fun c => ?_) (fun c => ?_)
      · have h := it_f h c
        refine Z_aload_n hC (dk d_X5_goesOn 25 rfl) 47 rfl rfl rfl ?_
        refine Z_iload_n hC (dk d_X5_goesOn 26 rfl) 48 rfl rfl rfl ?_
        obtain ⟨q3, hq3, h⟩ := bd_some h
        refine K_X5_119 [vi x1] hC m_5 (s_X5_readsMate (xG x) (xl x) N x1 q2.2 q3 hq3) (Nat.le_of_ble_eq_true rfl) rfl rfl rfl (Nat.le_of_ble_eq_true rfl) (dk d_X5_goesOn 27 rfl) 51 rfl ?_
        refine Z_if_ne hC (dk d_X5_goesOn 28 rfl) 54 10 rfl (by decide) (fun c => ?_) (fun c => ?_)
        · have h := it_f h c
          refine Z_wk [true, true] [some (vr 5 0), some (vi x1)] rfl ?_
          exact ih q3.2 _ h kr ke
        · have h := it_t h c
          refine Z_aload_n hC (dk d_X5_goesOn 29 rfl) 55 rfl rfl rfl ?_
          refine G_X5_107 hC m_5 (dk d_X5_goesOn 30 rfl) 58 rfl ?_
          obtain rfl := Option.some.inj h
          exact Z_ireturn (st := []) hC hr (kr _ rfl) (dk d_X5_goesOn 31 rfl)
      · have h := it_t h c
        refine Z_aload_n hC (dk d_X5_goesOn 18 rfl) 34 rfl rfl rfl ?_
        refine Z_dup hC (dk d_X5_goesOn 19 rfl) 35 rfl rfl ?_
        refine G_X5_107 hC m_5 (dk d_X5_goesOn 20 rfl) 38 rfl ?_
        refine Z_iconst (v := 1) hC (dk d_X5_goesOn 21 rfl) 39 rfl (by decide) ?_
        refine Z_iadd hC (dk d_X5_goesOn 22 rfl) 40 rfl ?_
        refine P_X5_107 hC m_5 (dk d_X5_goesOn 23 rfl) 43 rfl ?_
        refine Z_goto hC (dk d_X5_goesOn 24 rfl) 10 (by decide) ?_
        refine Z_wk [true, true] [some (vr 5 0), some (vi x1)] rfl ?_
        exact ih (sI q2.2 515 0 ((gI q2.2 515 0) + (1 : Int32))) _ h kr ke
noncomputable def f_X5_goesOn (N : Nat) (a1 : Int32) (w : Wd) : Option (Int32 × Wd) :=
  (X5_goesOn_L1 N a1 N (sI (sI w 515 0 (0 : Int32)) 516 0 (0 : Int32))).bind (Sum.elim some (fun q4 =>
    some ((-9 : Int32), q4)))
set_option maxRecDepth 20000 in
set_option maxHeartbeats 4000000 in
theorem s_X5_goesOn (G : GT) (l : Launch) (N : Nat) (a1 : Int32) (w : Wd) (q : Int32 × Wd) (h : f_X5_goesOn N a1 w = some q) : Sp G l yX5_goesOn cw_X5_goesOn 2 [vr 5 0, vi a1] w (some (vi q.1)) q.2 := by
  refine Sp_of (own := RX5) [some (vr 5 0), some (vi a1)] (by decide) rfl rfl (Nat.le_of_ble_eq_true rfl) ?_
  intro x hG hl hC hr hQ _ _
  subst hG
  subst hl
  unfold f_X5_goesOn at h
  refine Z_aload_n hC (dk d_X5_goesOn 0 rfl) 1 rfl rfl rfl ?_
  refine Z_iconst (v := 0) hC (dk d_X5_goesOn 1 rfl) 2 rfl (by decide) ?_
  refine P_X5_107 hC m_5 (dk d_X5_goesOn 2 rfl) 5 rfl ?_
  refine Z_aload_n hC (dk d_X5_goesOn 3 rfl) 6 rfl rfl rfl ?_
  refine Z_iconst (v := 0) hC (dk d_X5_goesOn 4 rfl) 7 rfl (by decide) ?_
  refine P_X5_116 hC m_5 (dk d_X5_goesOn 5 rfl) 10 rfl ?_
  obtain ⟨q4, hq4, h⟩ := bd_some h
  refine Z_wk [true, true] [some (vr 5 0), some (vi a1)] rfl ?_
  refine z_X5_goesOn_L1 hC hr N a1 N (sI (sI w 515 0 (0 : Int32)) 516 0 (0 : Int32)) q4 hq4 (fun r e => ?_) (fun o e => ?_)
  · subst e
    obtain rfl := Option.some.inj h
    exact hQ
  · subst e
    obtain ⟨q4, rfl⟩ : ∃ z, z = o := ⟨_, rfl⟩
    refine Z_bipush (v := -9) hC (dk d_X5_goesOn 32 rfl) 61 rfl (by decide) ?_
    obtain rfl := Option.some.inj h
    exact Z_ireturn (st := []) hC hr hQ (dk d_X5_goesOn 33 rfl)
def t_X5_fault : List (Nat × Instr × Nat) := [(0, .aload_n 0, 1), (1, .iload_n 1, 1), (2, .invokevirtual 104, 3), (5, .istore_n 2, 1), (6, .iload_n 2, 1), (7, .ifCond .ge 7, 3), (10, .iload_n 2, 1), (11, .goto 8, 3), (14, .aload_n 0, 1), (15, .iload_n 1, 1), (16, .invokevirtual 122, 3), (19, .ireturn, 1)]
set_option maxRecDepth 20000 in
theorem d_X5_fault : ∀ q ∈ t_X5_fault, decode cX5_fault q.1 = .ok q.2 := by decide +kernel
noncomputable def f_X5_fault (N : Nat) (a1 : Int32) (w : Wd) : Option (Int32 × Wd) :=
  (f_X5_askedText N a1 w).bind (fun q1 =>
    if 0 ≤ q1.1 then
      (f_X5_goesOn N a1 q1.2).bind (fun q2 =>
        some (q2.1, q2.2))
    else
      some (q1.1, q1.2))
set_option maxRecDepth 20000 in
set_option maxHeartbeats 4000000 in
theorem s_X5_fault (G : GT) (l : Launch) (N : Nat) (a1 : Int32) (w : Wd) (q : Int32 × Wd) (h : f_X5_fault N a1 w = some q) : Sp G l yX5_fault cw_X5_fault 3 [vr 5 0, vi a1] w (some (vi q.1)) q.2 := by
  refine Sp_of (own := RX5) [some (vr 5 0), some (vi a1), none] (by decide) rfl rfl (Nat.le_of_ble_eq_true rfl) ?_
  intro x hG hl hC hr hQ _ _
  subst hG
  subst hl
  unfold f_X5_fault at h
  refine Z_aload_n hC (dk d_X5_fault 0 rfl) 1 rfl rfl rfl ?_
  refine Z_iload_n hC (dk d_X5_fault 1 rfl) 2 rfl rfl rfl ?_
  obtain ⟨q1, hq1, h⟩ := bd_some h
  refine K_X5_104 [vi a1] hC m_5 (s_X5_askedText (xG x) (xl x) N a1 w q1 hq1) (Nat.le_of_ble_eq_true rfl) rfl rfl rfl (Nat.le_of_ble_eq_true rfl) (dk d_X5_fault 2 rfl) 5 rfl ?_
  refine Z_istore_n hC (dk d_X5_fault 3 rfl) 6 rfl rfl (Nat.le_of_ble_eq_true rfl) [some (vr 5 0), some (vi a1), some (vi q1.1)] rfl ?_
  refine Z_iload_n hC (dk d_X5_fault 4 rfl) 7 rfl rfl rfl ?_
  refine Z_if_ge hC (dk d_X5_fault 5 rfl) 10 14 rfl (by decide) (fun c => ?_) (fun c => ?_)
  · have h := it_t h c
    refine Z_aload_n hC (dk d_X5_fault 8 rfl) 15 rfl rfl rfl ?_
    refine Z_iload_n hC (dk d_X5_fault 9 rfl) 16 rfl rfl rfl ?_
    obtain ⟨q2, hq2, h⟩ := bd_some h
    refine K_X5_122 [vi a1] hC m_5 (s_X5_goesOn (xG x) (xl x) N a1 q1.2 q2 hq2) (Nat.le_of_ble_eq_true rfl) rfl rfl rfl (Nat.le_of_ble_eq_true rfl) (dk d_X5_fault 10 rfl) 19 rfl ?_
    obtain rfl := Option.some.inj h
    exact Z_ireturn (st := []) hC hr hQ (dk d_X5_fault 11 rfl)
  · have h := it_f h c
    refine Z_iload_n hC (dk d_X5_fault 6 rfl) 11 rfl rfl rfl ?_
    refine Z_goto hC (dk d_X5_fault 7 rfl) 19 (by decide) ?_
    obtain rfl := Option.some.inj h
    exact Z_ireturn (st := []) hC hr hQ (dk d_X5_fault 11 rfl)
def t_X5_office : List (Nat × Instr × Nat) := [(0, .aload_n 0, 1), (1, .iload_n 1, 1), (2, .invokevirtual 104, 3), (5, .istore_n 2, 1), (6, .iload_n 2, 1), (7, .ifCond .ge 5, 3), (10, .iload_n 2, 1), (11, .ireturn, 1), (12, .aload_n 0, 1), (13, .iload_n 1, 1), (14, .invokevirtual 122, 3), (17, .bipush (-9), 2), (19, .if_icmp .eq 6, 3), (22, .bipush (-4), 2), (24, .ireturn, 1), (25, .aload_n 0, 1), (26, .aload_n 0, 1), (27, .getfield 116, 3), (30, .putfield 125, 3), (33, .iconst 0, 1), (34, .istore_n 3, 1), (35, .iload_n 3, 1), (36, .bipush 6, 2), (38, .if_icmp .ge 54, 3), (41, .aload_n 0, 1), (42, .getfield 36, 3), (45, .iload_n 3, 1), (46, .aload_n 0, 1), (47, .getfield 36, 3), (50, .bipush 6, 2), (52, .iload_n 3, 1), (53, .iadd, 1), (54, .iaload, 1), (55, .iastore, 1), (56, .aload_n 0, 1), (57, .getfield 39, 3), (60, .iload_n 3, 1), (61, .aload_n 0, 1), (62, .getfield 39, 3), (65, .bipush 6, 2), (67, .iload_n 3, 1), (68, .iadd, 1), (69, .iaload, 1), (70, .iastore, 1), (71, .aload_n 0, 1), (72, .getfield 42, 3), (75, .iload_n 3, 1), (76, .aload_n 0, 1), (77, .getfield 42, 3), (80, .bipush 6, 2), (82, .iload_n 3, 1), (83, .iadd, 1), (84, .iaload, 1), (85, .iastore, 1), (86, .iinc 3 1, 3), (89, .goto (-54), 3), (92, .aload_n 0, 1), (93, .iconst 0, 1), (94, .putfield 128, 3), (97, .aload_n 0, 1), (98, .iconst 0, 1), (99, .putfield 131, 3), (102, .iconst 0, 1), (103, .istore_n 3, 1), (104, .iload_n 3, 1), (105, .iconst 3, 1), (106, .if_icmp .ge 20, 3), (109, .aload_n 0, 1), (110, .getfield 60, 3), (113, .bipush 8, 2), (115, .iload_n 3, 1), (116, .imul, 1), (117, .bipush (-9), 2), (119, .iastore, 1), (120, .iinc 3 1, 3), (123, .goto (-19), 3), (126, .aload_n 0, 1), (127, .getfield 125, 3), (130, .ireturn, 1)]
set_option maxRecDepth 20000 in
theorem d_X5_office : ∀ q ∈ t_X5_office, decode cX5_office q.1 = .ok q.2 := by decide +kernel
noncomputable def X5_office_L1 (N : Nat) : Nat → Int32 → Wd → Option (Wd)
  | 0, _, _ => none
  | n + 1, x3, w =>
  if (6 : Int32) ≤ x3 then
    some w
  else
    gd (vp_in ((6 : Int32) + x3) 12) (
    gd (vp_in x3 12) (
    gd (vp_in ((6 : Int32) + x3) 12) (
    gd (vp_in x3 12) (
    gd (vp_in ((6 : Int32) + x3) 12) (
    gd (vp_in x3 12) (
    X5_office_L1 N n (x3 + (1 : Int32)) (sA (sA (sA w 36 0 (upd (gA w 36 0) x3.toNatClampNeg (gA w 36 0 ((6 : Int32) + x3).toNatClampNeg))) 37 0 (upd (gA (sA w 36 0 (upd (gA w 36 0) x3.toNatClampNeg (gA w 36 0 ((6 : Int32) + x3).toNatClampNeg))) 37 0) x3.toNatClampNeg (gA (sA w 36 0 (upd (gA w 36 0) x3.toNatClampNeg (gA w 36 0 ((6 : Int32) + x3).toNatClampNeg))) 37 0 ((6 : Int32) + x3).toNatClampNeg))) 38 0 (upd (gA (sA (sA w 36 0 (upd (gA w 36 0) x3.toNatClampNeg (gA w 36 0 ((6 : Int32) + x3).toNatClampNeg))) 37 0 (upd (gA (sA w 36 0 (upd (gA w 36 0) x3.toNatClampNeg (gA w 36 0 ((6 : Int32) + x3).toNatClampNeg))) 37 0) x3.toNatClampNeg (gA (sA w 36 0 (upd (gA w 36 0) x3.toNatClampNeg (gA w 36 0 ((6 : Int32) + x3).toNatClampNeg))) 37 0 ((6 : Int32) + x3).toNatClampNeg))) 38 0) x3.toNatClampNeg (gA (sA (sA w 36 0 (upd (gA w 36 0) x3.toNatClampNeg (gA w 36 0 ((6 : Int32) + x3).toNatClampNeg))) 37 0 (upd (gA (sA w 36 0 (upd (gA w 36 0) x3.toNatClampNeg (gA w 36 0 ((6 : Int32) + x3).toNatClampNeg))) 37 0) x3.toNatClampNeg (gA (sA w 36 0 (upd (gA w 36 0) x3.toNatClampNeg (gA w 36 0 ((6 : Int32) + x3).toNatClampNeg))) 37 0 ((6 : Int32) + x3).toNatClampNeg))) 38 0 ((6 : Int32) + x3).toNatClampNeg)))))))))
set_option maxRecDepth 20000 in
set_option maxHeartbeats 4000000 in
theorem z_X5_office_L1 {x : CX} (hC : Cx x RX5 cX5_office 4 3) (hr : (xM x).sig.returnType = (some .int)) (N : Nat) : ∀ (n : Nat) (x3 : Int32) (w : Wd) (q : (Wd)), X5_office_L1 N n x3 w = some q → Z x 92 [some (vr 5 0), none, none, none] [] q → Z x 35 [some (vr 5 0), none, none, some (vi x3)] [] w := by
  intro n
  induction n with
  | zero =>
    intro x3 w q h
    cases h
  | succ n ih =>
    intro x3 w q h ke
    rw [X5_office_L1] at h
    refine Z_iload_n hC (dk d_X5_office 21 rfl) 36 rfl rfl rfl ?_
    refine Z_bipush (v := 6) hC (dk d_X5_office 22 rfl) 38 rfl (by decide) ?_
    refine Z_icmp_ge hC (dk d_X5_office 23 rfl) 41 92 rfl (by decide) (fun c => ?_) (fun c => ?_)
    · have h := it_t h c
      obtain rfl := Option.some.inj h
      refine Z_wk [true, false, false, false] [some (vr 5 0), none, none, none] rfl ?_
      exact ke
    · have h := it_f h c
      refine Z_aload_n hC (dk d_X5_office 24 rfl) 42 rfl rfl rfl ?_
      refine G_X5_36 hC m_5 (dk d_X5_office 25 rfl) 45 rfl ?_
      refine Z_iload_n hC (dk d_X5_office 26 rfl) 46 rfl rfl rfl ?_
      refine Z_aload_n hC (dk d_X5_office 27 rfl) 47 rfl rfl rfl ?_
      refine G_X5_36 hC m_5 (dk d_X5_office 28 rfl) 50 rfl ?_
      refine Z_bipush (v := 6) hC (dk d_X5_office 29 rfl) 52 rfl (by decide) ?_
      refine Z_iload_n hC (dk d_X5_office 30 rfl) 53 rfl rfl rfl ?_
      refine Z_iadd hC (dk d_X5_office 31 rfl) 54 rfl ?_
      obtain ⟨g3, h⟩ := gd_some h
      refine Z_iaload hC m_36 (by decide) rfl g3 (dk d_X5_office 32 rfl) 55 rfl ?_
      obtain ⟨g4, h⟩ := gd_some h
      refine Z_iastore hC m_36 (by decide) rfl g4 (dk d_X5_office 33 rfl) 56 rfl ?_
      refine Z_aload_n hC (dk d_X5_office 34 rfl) 57 rfl rfl rfl ?_
      refine G_X5_39 hC m_5 (dk d_X5_office 35 rfl) 60 rfl ?_
      refine Z_iload_n hC (dk d_X5_office 36 rfl) 61 rfl rfl rfl ?_
      refine Z_aload_n hC (dk d_X5_office 37 rfl) 62 rfl rfl rfl ?_
      refine G_X5_39 hC m_5 (dk d_X5_office 38 rfl) 65 rfl ?_
      refine Z_bipush (v := 6) hC (dk d_X5_office 39 rfl) 67 rfl (by decide) ?_
      refine Z_iload_n hC (dk d_X5_office 40 rfl) 68 rfl rfl rfl ?_
      refine Z_iadd hC (dk d_X5_office 41 rfl) 69 rfl ?_
      obtain ⟨g5, h⟩ := gd_some h
      refine Z_iaload hC m_37 (by decide) rfl g5 (dk d_X5_office 42 rfl) 70 rfl ?_
      obtain ⟨g6, h⟩ := gd_some h
      refine Z_iastore hC m_37 (by decide) rfl g6 (dk d_X5_office 43 rfl) 71 rfl ?_
      refine Z_aload_n hC (dk d_X5_office 44 rfl) 72 rfl rfl rfl ?_
      refine G_X5_42 hC m_5 (dk d_X5_office 45 rfl) 75 rfl ?_
      refine Z_iload_n hC (dk d_X5_office 46 rfl) 76 rfl rfl rfl ?_
      refine Z_aload_n hC (dk d_X5_office 47 rfl) 77 rfl rfl rfl ?_
      refine G_X5_42 hC m_5 (dk d_X5_office 48 rfl) 80 rfl ?_
      refine Z_bipush (v := 6) hC (dk d_X5_office 49 rfl) 82 rfl (by decide) ?_
      refine Z_iload_n hC (dk d_X5_office 50 rfl) 83 rfl rfl rfl ?_
      refine Z_iadd hC (dk d_X5_office 51 rfl) 84 rfl ?_
      obtain ⟨g7, h⟩ := gd_some h
      refine Z_iaload hC m_38 (by decide) rfl g7 (dk d_X5_office 52 rfl) 85 rfl ?_
      obtain ⟨g8, h⟩ := gd_some h
      refine Z_iastore hC m_38 (by decide) rfl g8 (dk d_X5_office 53 rfl) 86 rfl ?_
      refine Z_iinc hC (dk d_X5_office 54 rfl) 89 rfl rfl rfl [some (vr 5 0), none, none, some (vi (x3 + (1 : Int32)))] rfl ?_
      refine Z_goto hC (dk d_X5_office 55 rfl) 35 (by decide) ?_
      refine Z_wk [true, false, false, true] [some (vr 5 0), none, none, some (vi (x3 + (1 : Int32)))] rfl ?_
      exact ih (x3 + (1 : Int32)) (sA (sA (sA w 36 0 (upd (gA w 36 0) x3.toNatClampNeg (gA w 36 0 ((6 : Int32) + x3).toNatClampNeg))) 37 0 (upd (gA (sA w 36 0 (upd (gA w 36 0) x3.toNatClampNeg (gA w 36 0 ((6 : Int32) + x3).toNatClampNeg))) 37 0) x3.toNatClampNeg (gA (sA w 36 0 (upd (gA w 36 0) x3.toNatClampNeg (gA w 36 0 ((6 : Int32) + x3).toNatClampNeg))) 37 0 ((6 : Int32) + x3).toNatClampNeg))) 38 0 (upd (gA (sA (sA w 36 0 (upd (gA w 36 0) x3.toNatClampNeg (gA w 36 0 ((6 : Int32) + x3).toNatClampNeg))) 37 0 (upd (gA (sA w 36 0 (upd (gA w 36 0) x3.toNatClampNeg (gA w 36 0 ((6 : Int32) + x3).toNatClampNeg))) 37 0) x3.toNatClampNeg (gA (sA w 36 0 (upd (gA w 36 0) x3.toNatClampNeg (gA w 36 0 ((6 : Int32) + x3).toNatClampNeg))) 37 0 ((6 : Int32) + x3).toNatClampNeg))) 38 0) x3.toNatClampNeg (gA (sA (sA w 36 0 (upd (gA w 36 0) x3.toNatClampNeg (gA w 36 0 ((6 : Int32) + x3).toNatClampNeg))) 37 0 (upd (gA (sA w 36 0 (upd (gA w 36 0) x3.toNatClampNeg (gA w 36 0 ((6 : Int32) + x3).toNatClampNeg))) 37 0) x3.toNatClampNeg (gA (sA w 36 0 (upd (gA w 36 0) x3.toNatClampNeg (gA w 36 0 ((6 : Int32) + x3).toNatClampNeg))) 37 0 ((6 : Int32) + x3).toNatClampNeg))) 38 0 ((6 : Int32) + x3).toNatClampNeg))) _ h ke
noncomputable def X5_office_L2 (N : Nat) : Nat → Int32 → Wd → Option (Wd)
  | 0, _, _ => none
  | n + 1, x3, w =>
  if (3 : Int32) ≤ x3 then
    some w
  else
    gd (vp_in ((8 : Int32) * x3) 24) (
    X5_office_L2 N n (x3 + (1 : Int32)) (sA w 44 0 (upd (gA w 44 0) ((8 : Int32) * x3).toNatClampNeg (-9 : Int32))))
set_option maxRecDepth 20000 in
set_option maxHeartbeats 4000000 in
theorem z_X5_office_L2 {x : CX} (hC : Cx x RX5 cX5_office 4 3) (hr : (xM x).sig.returnType = (some .int)) (N : Nat) : ∀ (n : Nat) (x3 : Int32) (w : Wd) (q : (Wd)), X5_office_L2 N n x3 w = some q → Z x 126 [some (vr 5 0), none, none, none] [] q → Z x 104 [some (vr 5 0), none, none, some (vi x3)] [] w := by
  intro n
  induction n with
  | zero =>
    intro x3 w q h
    cases h
  | succ n ih =>
    intro x3 w q h ke
    rw [X5_office_L2] at h
    refine Z_iload_n hC (dk d_X5_office 64 rfl) 105 rfl rfl rfl ?_
    refine Z_iconst (v := 3) hC (dk d_X5_office 65 rfl) 106 rfl (by decide) ?_
    refine Z_icmp_ge hC (dk d_X5_office 66 rfl) 109 126 rfl (by decide) (fun c => ?_) (fun c => ?_)
    · have h := it_t h c
      obtain rfl := Option.some.inj h
      refine Z_wk [true, false, false, false] [some (vr 5 0), none, none, none] rfl ?_
      exact ke
    · have h := it_f h c
      refine Z_aload_n hC (dk d_X5_office 67 rfl) 110 rfl rfl rfl ?_
      refine G_X5_60 hC m_5 (dk d_X5_office 68 rfl) 113 rfl ?_
      refine Z_bipush (v := 8) hC (dk d_X5_office 69 rfl) 115 rfl (by decide) ?_
      refine Z_iload_n hC (dk d_X5_office 70 rfl) 116 rfl rfl rfl ?_
      refine Z_imul hC (dk d_X5_office 71 rfl) 117 rfl ?_
      refine Z_bipush (v := -9) hC (dk d_X5_office 72 rfl) 119 rfl (by decide) ?_
      obtain ⟨g10, h⟩ := gd_some h
      refine Z_iastore hC m_44 (by decide) rfl g10 (dk d_X5_office 73 rfl) 120 rfl ?_
      refine Z_iinc hC (dk d_X5_office 74 rfl) 123 rfl rfl rfl [some (vr 5 0), none, none, some (vi (x3 + (1 : Int32)))] rfl ?_
      refine Z_goto hC (dk d_X5_office 75 rfl) 104 (by decide) ?_
      refine Z_wk [true, false, false, true] [some (vr 5 0), none, none, some (vi (x3 + (1 : Int32)))] rfl ?_
      exact ih (x3 + (1 : Int32)) (sA w 44 0 (upd (gA w 44 0) ((8 : Int32) * x3).toNatClampNeg (-9 : Int32))) _ h ke
noncomputable def f_X5_office (N : Nat) (a1 : Int32) (w : Wd) : Option (Int32 × Wd) :=
  (f_X5_askedText N a1 w).bind (fun q1 =>
    if 0 ≤ q1.1 then
      (f_X5_goesOn N a1 q1.2).bind (fun q2 =>
        if q2.1 = (-9 : Int32) then
          (X5_office_L1 N N (0 : Int32) (sI q2.2 510 0 (gI q2.2 516 0))).bind (fun q9 =>
            (X5_office_L2 N N (0 : Int32) (sI (sI q9 524 0 (0 : Int32)) 518 0 (0 : Int32))).bind (fun q11 =>
              some (gI q11 510 0, q11)))
        else
          some ((-4 : Int32), q2.2))
    else
      some (q1.1, q1.2))
set_option maxRecDepth 20000 in
set_option maxHeartbeats 4000000 in
theorem s_X5_office (G : GT) (l : Launch) (N : Nat) (a1 : Int32) (w : Wd) (q : Int32 × Wd) (h : f_X5_office N a1 w = some q) : Sp G l yX5_office cw_X5_office 3 [vr 5 0, vi a1] w (some (vi q.1)) q.2 := by
  refine Sp_of (own := RX5) [some (vr 5 0), some (vi a1), none, none] (by decide) rfl rfl (Nat.le_of_ble_eq_true rfl) ?_
  intro x hG hl hC hr hQ _ _
  subst hG
  subst hl
  unfold f_X5_office at h
  refine Z_aload_n hC (dk d_X5_office 0 rfl) 1 rfl rfl rfl ?_
  refine Z_iload_n hC (dk d_X5_office 1 rfl) 2 rfl rfl rfl ?_
  obtain ⟨q1, hq1, h⟩ := bd_some h
  refine K_X5_104 [vi a1] hC m_5 (s_X5_askedText (xG x) (xl x) N a1 w q1 hq1) (Nat.le_of_ble_eq_true rfl) rfl rfl rfl (Nat.le_of_ble_eq_true rfl) (dk d_X5_office 2 rfl) 5 rfl ?_
  refine Z_istore_n hC (dk d_X5_office 3 rfl) 6 rfl rfl (Nat.le_of_ble_eq_true rfl) [some (vr 5 0), some (vi a1), some (vi q1.1), none] rfl ?_
  refine Z_iload_n hC (dk d_X5_office 4 rfl) 7 rfl rfl rfl ?_
  refine Z_if_ge hC (dk d_X5_office 5 rfl) 10 12 rfl (by decide) (fun c => ?_) (fun c => ?_)
  · have h := it_t h c
    refine Z_aload_n hC (dk d_X5_office 8 rfl) 13 rfl rfl rfl ?_
    refine Z_iload_n hC (dk d_X5_office 9 rfl) 14 rfl rfl rfl ?_
    obtain ⟨q2, hq2, h⟩ := bd_some h
    refine K_X5_122 [vi a1] hC m_5 (s_X5_goesOn (xG x) (xl x) N a1 q1.2 q2 hq2) (Nat.le_of_ble_eq_true rfl) rfl rfl rfl (Nat.le_of_ble_eq_true rfl) (dk d_X5_office 10 rfl) 17 rfl ?_
    refine Z_bipush (v := -9) hC (dk d_X5_office 11 rfl) 19 rfl (by decide) ?_
    refine Z_icmp_eq hC (dk d_X5_office 12 rfl) 22 25 rfl (by decide) (fun c => ?_) (fun c => ?_)
    · have h := it_t h c
      refine Z_aload_n hC (dk d_X5_office 15 rfl) 26 rfl rfl rfl ?_
      refine Z_aload_n hC (dk d_X5_office 16 rfl) 27 rfl rfl rfl ?_
      refine G_X5_116 hC m_5 (dk d_X5_office 17 rfl) 30 rfl ?_
      refine P_X5_125 hC m_5 (dk d_X5_office 18 rfl) 33 rfl ?_
      refine Z_iconst (v := 0) hC (dk d_X5_office 19 rfl) 34 rfl (by decide) ?_
      refine Z_istore_n hC (dk d_X5_office 20 rfl) 35 rfl rfl (Nat.le_of_ble_eq_true rfl) [some (vr 5 0), some (vi a1), some (vi q1.1), some (vi (0 : Int32))] rfl ?_
      obtain ⟨q9, hq9, h⟩ := bd_some h
      refine Z_wk [true, false, false, true] [some (vr 5 0), none, none, some (vi (0 : Int32))] rfl ?_
      refine z_X5_office_L1 hC hr N N (0 : Int32) (sI q2.2 510 0 (gI q2.2 516 0)) q9 hq9 ?_
      refine Z_aload_n hC (dk d_X5_office 56 rfl) 93 rfl rfl rfl ?_
      refine Z_iconst (v := 0) hC (dk d_X5_office 57 rfl) 94 rfl (by decide) ?_
      refine P_X5_128 hC m_5 (dk d_X5_office 58 rfl) 97 rfl ?_
      refine Z_aload_n hC (dk d_X5_office 59 rfl) 98 rfl rfl rfl ?_
      refine Z_iconst (v := 0) hC (dk d_X5_office 60 rfl) 99 rfl (by decide) ?_
      refine P_X5_131 hC m_5 (dk d_X5_office 61 rfl) 102 rfl ?_
      refine Z_iconst (v := 0) hC (dk d_X5_office 62 rfl) 103 rfl (by decide) ?_
      refine Z_istore_n hC (dk d_X5_office 63 rfl) 104 rfl rfl (Nat.le_of_ble_eq_true rfl) [some (vr 5 0), none, none, some (vi (0 : Int32))] rfl ?_
      obtain ⟨q11, hq11, h⟩ := bd_some h
      refine Z_wk [true, false, false, true] [some (vr 5 0), none, none, some (vi (0 : Int32))] rfl ?_
      refine z_X5_office_L2 hC hr N N (0 : Int32) (sI (sI q9 524 0 (0 : Int32)) 518 0 (0 : Int32)) q11 hq11 ?_
      refine Z_aload_n hC (dk d_X5_office 76 rfl) 127 rfl rfl rfl ?_
      refine G_X5_125 hC m_5 (dk d_X5_office 77 rfl) 130 rfl ?_
      obtain rfl := Option.some.inj h
      exact Z_ireturn (st := []) hC hr hQ (dk d_X5_office 78 rfl)
    · have h := it_f h c
      refine Z_bipush (v := -4) hC (dk d_X5_office 13 rfl) 24 rfl (by decide) ?_
      obtain rfl := Option.some.inj h
      exact Z_ireturn (st := []) hC hr hQ (dk d_X5_office 14 rfl)
  · have h := it_f h c
    refine Z_iload_n hC (dk d_X5_office 6 rfl) 11 rfl rfl rfl ?_
    obtain rfl := Option.some.inj h
    exact Z_ireturn (st := []) hC hr hQ (dk d_X5_office 7 rfl)
def t_X5_isMate : List (Nat × Instr × Nat) := [(0, .iload_n 1, 1), (1, .iconst 0, 1), (2, .aload_n 0, 1), (3, .getfield 125, 3), (6, .iconst 1, 1), (7, .isub, 1), (8, .invokestatic 72, 3), (11, .ireturn, 1)]
set_option maxRecDepth 20000 in
theorem d_X5_isMate : ∀ q ∈ t_X5_isMate, decode cX5_isMate q.1 = .ok q.2 := by decide +kernel
noncomputable def f_X5_isMate (N : Nat) (a1 : Int32) (w : Wd) : Option (Int32 × Wd) :=
  (f_X5_in N a1 (0 : Int32) ((gI w 510 0) - (1 : Int32)) w).bind (fun q1 =>
    gd (q1.1 = 0 ∨ q1.1 = 1) (some (q1.1, q1.2)))
set_option maxRecDepth 20000 in
set_option maxHeartbeats 4000000 in
theorem s_X5_isMate (G : GT) (l : Launch) (N : Nat) (a1 : Int32) (w : Wd) (q : Int32 × Wd) (h : f_X5_isMate N a1 w = some q) : Sp G l yX5_isMate cw_X5_isMate 1 [vr 5 0, vi a1] w (some (vi q.1)) q.2 := by
  refine Sp_of (own := RX5) [some (vr 5 0), some (vi a1)] (by decide) rfl rfl (Nat.le_of_ble_eq_true rfl) ?_
  intro x hG hl hC hr hQ _ _
  subst hG
  subst hl
  unfold f_X5_isMate at h
  refine Z_iload_n hC (dk d_X5_isMate 0 rfl) 1 rfl rfl rfl ?_
  refine Z_iconst (v := 0) hC (dk d_X5_isMate 1 rfl) 2 rfl (by decide) ?_
  refine Z_aload_n hC (dk d_X5_isMate 2 rfl) 3 rfl rfl rfl ?_
  refine G_X5_125 hC m_5 (dk d_X5_isMate 3 rfl) 6 rfl ?_
  refine Z_iconst (v := 1) hC (dk d_X5_isMate 4 rfl) 7 rfl (by decide) ?_
  refine Z_isub hC (dk d_X5_isMate 5 rfl) 8 rfl ?_
  obtain ⟨q1, hq1, h⟩ := bd_some h
  refine K_X5_72 [vi a1, vi (0 : Int32), vi ((gI w 510 0) - (1 : Int32))] hC (s_X5_in (xG x) (xl x) N a1 (0 : Int32) ((gI w 510 0) - (1 : Int32)) w q1 hq1) (Nat.le_of_ble_eq_true rfl) rfl rfl rfl (Nat.le_of_ble_eq_true rfl) (dk d_X5_isMate 6 rfl) 11 rfl ?_
  obtain ⟨g2, h⟩ := gd_some h
  obtain rfl := Option.some.inj h
  exact Z_zreturn (st := []) hC hr (nz g2) hQ (dk d_X5_isMate 7 rfl)
def t_X5_isSet : List (Nat × Instr × Nat) := [(0, .iload_n 1, 1), (1, .iconst 0, 1), (2, .iconst 1, 1), (3, .aload_n 0, 1), (4, .getfield 125, 3), (7, .ishl, 1), (8, .iconst 1, 1), (9, .isub, 1), (10, .invokestatic 72, 3), (13, .ireturn, 1)]
set_option maxRecDepth 20000 in
theorem d_X5_isSet : ∀ q ∈ t_X5_isSet, decode cX5_isSet q.1 = .ok q.2 := by decide +kernel
noncomputable def f_X5_isSet (N : Nat) (a1 : Int32) (w : Wd) : Option (Int32 × Wd) :=
  (f_X5_in N a1 (0 : Int32) (((1 : Int32) <<< ((gI w 510 0) &&& (31 : Int32))) - (1 : Int32)) w).bind (fun q1 =>
    gd (q1.1 = 0 ∨ q1.1 = 1) (some (q1.1, q1.2)))
set_option maxRecDepth 20000 in
set_option maxHeartbeats 4000000 in
theorem s_X5_isSet (G : GT) (l : Launch) (N : Nat) (a1 : Int32) (w : Wd) (q : Int32 × Wd) (h : f_X5_isSet N a1 w = some q) : Sp G l yX5_isSet cw_X5_isSet 1 [vr 5 0, vi a1] w (some (vi q.1)) q.2 := by
  refine Sp_of (own := RX5) [some (vr 5 0), some (vi a1)] (by decide) rfl rfl (Nat.le_of_ble_eq_true rfl) ?_
  intro x hG hl hC hr hQ _ _
  subst hG
  subst hl
  unfold f_X5_isSet at h
  refine Z_iload_n hC (dk d_X5_isSet 0 rfl) 1 rfl rfl rfl ?_
  refine Z_iconst (v := 0) hC (dk d_X5_isSet 1 rfl) 2 rfl (by decide) ?_
  refine Z_iconst (v := 1) hC (dk d_X5_isSet 2 rfl) 3 rfl (by decide) ?_
  refine Z_aload_n hC (dk d_X5_isSet 3 rfl) 4 rfl rfl rfl ?_
  refine G_X5_125 hC m_5 (dk d_X5_isSet 4 rfl) 7 rfl ?_
  refine Z_ishl hC (dk d_X5_isSet 5 rfl) 8 rfl ?_
  refine Z_iconst (v := 1) hC (dk d_X5_isSet 6 rfl) 9 rfl (by decide) ?_
  refine Z_isub hC (dk d_X5_isSet 7 rfl) 10 rfl ?_
  obtain ⟨q1, hq1, h⟩ := bd_some h
  refine K_X5_72 [vi a1, vi (0 : Int32), vi (((1 : Int32) <<< ((gI w 510 0) &&& (31 : Int32))) - (1 : Int32))] hC (s_X5_in (xG x) (xl x) N a1 (0 : Int32) (((1 : Int32) <<< ((gI w 510 0) &&& (31 : Int32))) - (1 : Int32)) w q1 hq1) (Nat.le_of_ble_eq_true rfl) rfl rfl rfl (Nat.le_of_ble_eq_true rfl) (dk d_X5_isSet 8 rfl) 13 rfl ?_
  obtain ⟨g2, h⟩ := gd_some h
  obtain rfl := Option.some.inj h
  exact Z_zreturn (st := []) hC hr (nz g2) hQ (dk d_X5_isSet 9 rfl)
def t_X5_isA : List (Nat × Instr × Nat) := [(0, .aload_n 0, 1), (1, .getfield 36, 3), (4, .iload_n 1, 1), (5, .iaload, 1), (6, .iload_n 2, 1), (7, .if_icmp .eq 33, 3), (10, .iload_n 2, 1), (11, .iconst 1, 1), (12, .if_icmp .ne 13, 3), (15, .aload_n 0, 1), (16, .getfield 36, 3), (19, .iload_n 1, 1), (20, .iaload, 1), (21, .iconst 5, 1), (22, .if_icmp .eq 18, 3), (25, .iload_n 2, 1), (26, .iconst 2, 1), (27, .if_icmp .ne 17, 3), (30, .aload_n 0, 1), (31, .getfield 36, 3), (34, .iload_n 1, 1), (35, .iaload, 1), (36, .iconst 4, 1), (37, .if_icmp .ne 7, 3), (40, .iconst 1, 1), (41, .goto 4, 3), (44, .iconst 0, 1), (45, .ireturn, 1)]
set_option maxRecDepth 20000 in
theorem d_X5_isA : ∀ q ∈ t_X5_isA, decode cX5_isA q.1 = .ok q.2 := by decide +kernel
noncomputable def X5_isA_J25 (N : Nat) (x1 : Int32) (x2 : Int32) (w : Wd) : Option (Int32 × Wd) :=
  if x2 = (2 : Int32) then
    gd (vp_in x1 12) (
    if (gA w 36 0 x1.toNatClampNeg) = (4 : Int32) then
      some ((1 : Int32), w)
    else
      some ((0 : Int32), w))
  else
    some ((0 : Int32), w)
set_option maxRecDepth 20000 in
set_option maxHeartbeats 4000000 in
theorem z_X5_isA_J25 {x : CX} (hC : Cx x RX5 cX5_isA 3 0) (hr : (xM x).sig.returnType = (some .boolean)) (N : Nat) (x1 : Int32) (x2 : Int32) (w : Wd) (q : (Int32 × Wd)) (h : X5_isA_J25 N x1 x2 w = some q) (hQ : Rt x (some (vi q.1)) q.2) : Z x 25 [some (vr 5 0), some (vi x1), some (vi x2)] [] w := by
  unfold X5_isA_J25 at h
  refine Z_iload_n hC (dk d_X5_isA 15 rfl) 26 rfl rfl rfl ?_
  refine Z_iconst (v := 2) hC (dk d_X5_isA 16 rfl) 27 rfl (by decide) ?_
  refine Z_icmp_ne hC (dk d_X5_isA 17 rfl) 30 44 rfl (by decide) (fun c => ?_) (fun c => ?_)
  · have h := it_f h c
    refine Z_iconst (v := 0) hC (dk d_X5_isA 26 rfl) 45 rfl (by decide) ?_
    obtain rfl := Option.some.inj h
    exact Z_zreturn (st := []) hC hr rfl hQ (dk d_X5_isA 27 rfl)
  · have h := it_t h c
    refine Z_aload_n hC (dk d_X5_isA 18 rfl) 31 rfl rfl rfl ?_
    refine G_X5_36 hC m_5 (dk d_X5_isA 19 rfl) 34 rfl ?_
    refine Z_iload_n hC (dk d_X5_isA 20 rfl) 35 rfl rfl rfl ?_
    obtain ⟨g2, h⟩ := gd_some h
    refine Z_iaload hC m_36 (by decide) rfl g2 (dk d_X5_isA 21 rfl) 36 rfl ?_
    refine Z_iconst (v := 4) hC (dk d_X5_isA 22 rfl) 37 rfl (by decide) ?_
    refine Z_icmp_ne hC (dk d_X5_isA 23 rfl) 40 44 rfl (by decide) (fun c => ?_) (fun c => ?_)
    · have h := it_f h c
      refine Z_iconst (v := 0) hC (dk d_X5_isA 26 rfl) 45 rfl (by decide) ?_
      obtain rfl := Option.some.inj h
      exact Z_zreturn (st := []) hC hr rfl hQ (dk d_X5_isA 27 rfl)
    · have h := it_t h c
      refine Z_iconst (v := 1) hC (dk d_X5_isA 24 rfl) 41 rfl (by decide) ?_
      refine Z_goto hC (dk d_X5_isA 25 rfl) 45 (by decide) ?_
      obtain rfl := Option.some.inj h
      exact Z_zreturn (st := []) hC hr rfl hQ (dk d_X5_isA 27 rfl)
noncomputable def f_X5_isA (N : Nat) (a1 : Int32) (a2 : Int32) (w : Wd) : Option (Int32 × Wd) :=
  gd (vp_in a1 12) (
  if (gA w 36 0 a1.toNatClampNeg) = a2 then
    some ((1 : Int32), w)
  else
    if a2 = (1 : Int32) then
      gd (vp_in a1 12) (
      if (gA w 36 0 a1.toNatClampNeg) = (5 : Int32) then
        some ((1 : Int32), w)
      else
        X5_isA_J25 N a1 a2 w)
    else
      X5_isA_J25 N a1 a2 w)
set_option maxRecDepth 20000 in
set_option maxHeartbeats 4000000 in
theorem s_X5_isA (G : GT) (l : Launch) (N : Nat) (a1 : Int32) (a2 : Int32) (w : Wd) (q : Int32 × Wd) (h : f_X5_isA N a1 a2 w = some q) : Sp G l yX5_isA cw_X5_isA 0 [vr 5 0, vi a1, vi a2] w (some (vi q.1)) q.2 := by
  refine Sp_of (own := RX5) [some (vr 5 0), some (vi a1), some (vi a2)] (by decide) rfl rfl (Nat.le_of_ble_eq_true rfl) ?_
  intro x hG hl hC hr hQ _ _
  subst hG
  subst hl
  unfold f_X5_isA at h
  refine Z_aload_n hC (dk d_X5_isA 0 rfl) 1 rfl rfl rfl ?_
  refine G_X5_36 hC m_5 (dk d_X5_isA 1 rfl) 4 rfl ?_
  refine Z_iload_n hC (dk d_X5_isA 2 rfl) 5 rfl rfl rfl ?_
  obtain ⟨g1, h⟩ := gd_some h
  refine Z_iaload hC m_36 (by decide) rfl g1 (dk d_X5_isA 3 rfl) 6 rfl ?_
  refine Z_iload_n hC (dk d_X5_isA 4 rfl) 7 rfl rfl rfl ?_
  refine Z_icmp_eq hC (dk d_X5_isA 5 rfl) 10 40 rfl (by decide) (fun c => ?_) (fun c => ?_)
  · have h := it_t h c
    refine Z_iconst (v := 1) hC (dk d_X5_isA 24 rfl) 41 rfl (by decide) ?_
    refine Z_goto hC (dk d_X5_isA 25 rfl) 45 (by decide) ?_
    obtain rfl := Option.some.inj h
    exact Z_zreturn (st := []) hC hr rfl hQ (dk d_X5_isA 27 rfl)
  · have h := it_f h c
    refine Z_iload_n hC (dk d_X5_isA 6 rfl) 11 rfl rfl rfl ?_
    refine Z_iconst (v := 1) hC (dk d_X5_isA 7 rfl) 12 rfl (by decide) ?_
    refine Z_icmp_ne hC (dk d_X5_isA 8 rfl) 15 25 rfl (by decide) (fun c => ?_) (fun c => ?_)
    · have h := it_f h c
      refine Z_wk [true, true, true] [some (vr 5 0), some (vi a1), some (vi a2)] rfl ?_
      exact z_X5_isA_J25 hC hr N a1 a2 w _ h hQ
    · have h := it_t h c
      refine Z_aload_n hC (dk d_X5_isA 9 rfl) 16 rfl rfl rfl ?_
      refine G_X5_36 hC m_5 (dk d_X5_isA 10 rfl) 19 rfl ?_
      refine Z_iload_n hC (dk d_X5_isA 11 rfl) 20 rfl rfl rfl ?_
      obtain ⟨g3, h⟩ := gd_some h
      refine Z_iaload hC m_36 (by decide) rfl g3 (dk d_X5_isA 12 rfl) 21 rfl ?_
      refine Z_iconst (v := 5) hC (dk d_X5_isA 13 rfl) 22 rfl (by decide) ?_
      refine Z_icmp_eq hC (dk d_X5_isA 14 rfl) 25 40 rfl (by decide) (fun c => ?_) (fun c => ?_)
      · have h := it_t h c
        refine Z_iconst (v := 1) hC (dk d_X5_isA 24 rfl) 41 rfl (by decide) ?_
        refine Z_goto hC (dk d_X5_isA 25 rfl) 45 (by decide) ?_
        obtain rfl := Option.some.inj h
        exact Z_zreturn (st := []) hC hr rfl hQ (dk d_X5_isA 27 rfl)
      · have h := it_f h c
        refine Z_wk [true, true, true] [some (vr 5 0), some (vi a1), some (vi a2)] rfl ?_
        exact z_X5_isA_J25 hC hr N a1 a2 w _ h hQ
def t_X5_lastOf : List (Nat × Instr × Nat) := [(0, .aload_n 0, 1), (1, .getfield 131, 3), (4, .ifCond .ne 8, 3), (7, .bipush (-9), 2), (9, .goto 19, 3), (12, .aload_n 0, 1), (13, .getfield 45, 3), (16, .bipush 6, 2), (18, .aload_n 0, 1), (19, .getfield 131, 3), (22, .iconst 1, 1), (23, .isub, 1), (24, .imul, 1), (25, .iload_n 1, 1), (26, .iadd, 1), (27, .iaload, 1), (28, .ireturn, 1)]
set_option maxRecDepth 20000 in
theorem d_X5_lastOf : ∀ q ∈ t_X5_lastOf, decode cX5_lastOf q.1 = .ok q.2 := by decide +kernel
noncomputable def f_X5_lastOf (N : Nat) (a1 : Int32) (w : Wd) : Option (Int32 × Wd) :=
  if (gI w 518 0) = 0 then
    some ((-9 : Int32), w)
  else
    gd (vp_in (((6 : Int32) * ((gI w 518 0) - (1 : Int32))) + a1) 252) (
    some (gA w 39 0 (((6 : Int32) * ((gI w 518 0) - (1 : Int32))) + a1).toNatClampNeg, w))
set_option maxRecDepth 20000 in
set_option maxHeartbeats 4000000 in
theorem s_X5_lastOf (G : GT) (l : Launch) (N : Nat) (a1 : Int32) (w : Wd) (q : Int32 × Wd) (h : f_X5_lastOf N a1 w = some q) : Sp G l yX5_lastOf cw_X5_lastOf 0 [vr 5 0, vi a1] w (some (vi q.1)) q.2 := by
  refine Sp_of (own := RX5) [some (vr 5 0), some (vi a1)] (by decide) rfl rfl (Nat.le_of_ble_eq_true rfl) ?_
  intro x hG hl hC hr hQ _ _
  subst hG
  subst hl
  unfold f_X5_lastOf at h
  refine Z_aload_n hC (dk d_X5_lastOf 0 rfl) 1 rfl rfl rfl ?_
  refine G_X5_131 hC m_5 (dk d_X5_lastOf 1 rfl) 4 rfl ?_
  refine Z_if_ne hC (dk d_X5_lastOf 2 rfl) 7 12 rfl (by decide) (fun c => ?_) (fun c => ?_)
  · have h := it_f h c
    refine Z_aload_n hC (dk d_X5_lastOf 5 rfl) 13 rfl rfl rfl ?_
    refine G_X5_45 hC m_5 (dk d_X5_lastOf 6 rfl) 16 rfl ?_
    refine Z_bipush (v := 6) hC (dk d_X5_lastOf 7 rfl) 18 rfl (by decide) ?_
    refine Z_aload_n hC (dk d_X5_lastOf 8 rfl) 19 rfl rfl rfl ?_
    refine G_X5_131 hC m_5 (dk d_X5_lastOf 9 rfl) 22 rfl ?_
    refine Z_iconst (v := 1) hC (dk d_X5_lastOf 10 rfl) 23 rfl (by decide) ?_
    refine Z_isub hC (dk d_X5_lastOf 11 rfl) 24 rfl ?_
    refine Z_imul hC (dk d_X5_lastOf 12 rfl) 25 rfl ?_
    refine Z_iload_n hC (dk d_X5_lastOf 13 rfl) 26 rfl rfl rfl ?_
    refine Z_iadd hC (dk d_X5_lastOf 14 rfl) 27 rfl ?_
    obtain ⟨g1, h⟩ := gd_some h
    refine Z_iaload hC m_39 (by decide) rfl g1 (dk d_X5_lastOf 15 rfl) 28 rfl ?_
    obtain rfl := Option.some.inj h
    exact Z_ireturn (st := []) hC hr hQ (dk d_X5_lastOf 16 rfl)
  · have h := it_t h c
    refine Z_bipush (v := -9) hC (dk d_X5_lastOf 3 rfl) 9 rfl (by decide) ?_
    refine Z_goto hC (dk d_X5_lastOf 4 rfl) 28 (by decide) ?_
    obtain rfl := Option.some.inj h
    exact Z_ireturn (st := []) hC hr hQ (dk d_X5_lastOf 16 rfl)
def t_X5_mateOf : List (Nat × Instr × Nat) := [(0, .iload_n 2, 1), (1, .ifCond .ne 12, 3), (4, .aload_n 0, 1), (5, .getfield 36, 3), (8, .iload_n 1, 1), (9, .iaload, 1), (10, .goto 36, 3), (13, .iload_n 2, 1), (14, .iconst 1, 1), (15, .if_icmp .ne 12, 3), (18, .aload_n 0, 1), (19, .getfield 39, 3), (22, .iload_n 1, 1), (23, .iaload, 1), (24, .goto 22, 3), (27, .iload_n 2, 1), (28, .iconst 2, 1), (29, .if_icmp .ne 12, 3), (32, .aload_n 0, 1), (33, .getfield 42, 3), (36, .iload_n 1, 1), (37, .iaload, 1), (38, .goto 8, 3), (41, .aload_n 0, 1), (42, .iload_n 1, 1), (43, .invokevirtual 134, 3), (46, .ireturn, 1)]
set_option maxRecDepth 20000 in
theorem d_X5_mateOf : ∀ q ∈ t_X5_mateOf, decode cX5_mateOf q.1 = .ok q.2 := by decide +kernel
noncomputable def f_X5_mateOf (N : Nat) (a1 : Int32) (a2 : Int32) (w : Wd) : Option (Int32 × Wd) :=
  if a2 = 0 then
    gd (vp_in a1 12) (
    some (gA w 36 0 a1.toNatClampNeg, w))
  else
    if a2 = (1 : Int32) then
      gd (vp_in a1 12) (
      some (gA w 37 0 a1.toNatClampNeg, w))
    else
      if a2 = (2 : Int32) then
        gd (vp_in a1 12) (
        some (gA w 38 0 a1.toNatClampNeg, w))
      else
        (f_X5_lastOf N a1 w).bind (fun q1 =>
          some (q1.1, q1.2))
set_option maxRecDepth 20000 in
set_option maxHeartbeats 4000000 in
theorem s_X5_mateOf (G : GT) (l : Launch) (N : Nat) (a1 : Int32) (a2 : Int32) (w : Wd) (q : Int32 × Wd) (h : f_X5_mateOf N a1 a2 w = some q) : Sp G l yX5_mateOf cw_X5_mateOf 1 [vr 5 0, vi a1, vi a2] w (some (vi q.1)) q.2 := by
  refine Sp_of (own := RX5) [some (vr 5 0), some (vi a1), some (vi a2)] (by decide) rfl rfl (Nat.le_of_ble_eq_true rfl) ?_
  intro x hG hl hC hr hQ _ _
  subst hG
  subst hl
  unfold f_X5_mateOf at h
  refine Z_iload_n hC (dk d_X5_mateOf 0 rfl) 1 rfl rfl rfl ?_
  refine Z_if_ne hC (dk d_X5_mateOf 1 rfl) 4 13 rfl (by decide) (fun c => ?_) (fun c => ?_)
  · have h := it_f h c
    refine Z_iload_n hC (dk d_X5_mateOf 7 rfl) 14 rfl rfl rfl ?_
    refine Z_iconst (v := 1) hC (dk d_X5_mateOf 8 rfl) 15 rfl (by decide) ?_
    refine Z_icmp_ne hC (dk d_X5_mateOf 9 rfl) 18 27 rfl (by decide) (fun c => ?_) (fun c => ?_)
    · have h := it_f h c
      refine Z_iload_n hC (dk d_X5_mateOf 15 rfl) 28 rfl rfl rfl ?_
      refine Z_iconst (v := 2) hC (dk d_X5_mateOf 16 rfl) 29 rfl (by decide) ?_
      refine Z_icmp_ne hC (dk d_X5_mateOf 17 rfl) 32 41 rfl (by decide) (fun c => ?_) (fun c => ?_)
      · have h := it_f h c
        refine Z_aload_n hC (dk d_X5_mateOf 23 rfl) 42 rfl rfl rfl ?_
        refine Z_iload_n hC (dk d_X5_mateOf 24 rfl) 43 rfl rfl rfl ?_
        obtain ⟨q1, hq1, h⟩ := bd_some h
        refine K_X5_134 [vi a1] hC m_5 (s_X5_lastOf (xG x) (xl x) N a1 w q1 hq1) (Nat.le_of_ble_eq_true rfl) rfl rfl rfl (Nat.le_of_ble_eq_true rfl) (dk d_X5_mateOf 25 rfl) 46 rfl ?_
        obtain rfl := Option.some.inj h
        exact Z_ireturn (st := []) hC hr hQ (dk d_X5_mateOf 26 rfl)
      · have h := it_t h c
        refine Z_aload_n hC (dk d_X5_mateOf 18 rfl) 33 rfl rfl rfl ?_
        refine G_X5_42 hC m_5 (dk d_X5_mateOf 19 rfl) 36 rfl ?_
        refine Z_iload_n hC (dk d_X5_mateOf 20 rfl) 37 rfl rfl rfl ?_
        obtain ⟨g2, h⟩ := gd_some h
        refine Z_iaload hC m_38 (by decide) rfl g2 (dk d_X5_mateOf 21 rfl) 38 rfl ?_
        refine Z_goto hC (dk d_X5_mateOf 22 rfl) 46 (by decide) ?_
        obtain rfl := Option.some.inj h
        exact Z_ireturn (st := []) hC hr hQ (dk d_X5_mateOf 26 rfl)
    · have h := it_t h c
      refine Z_aload_n hC (dk d_X5_mateOf 10 rfl) 19 rfl rfl rfl ?_
      refine G_X5_39 hC m_5 (dk d_X5_mateOf 11 rfl) 22 rfl ?_
      refine Z_iload_n hC (dk d_X5_mateOf 12 rfl) 23 rfl rfl rfl ?_
      obtain ⟨g3, h⟩ := gd_some h
      refine Z_iaload hC m_37 (by decide) rfl g3 (dk d_X5_mateOf 13 rfl) 24 rfl ?_
      refine Z_goto hC (dk d_X5_mateOf 14 rfl) 46 (by decide) ?_
      obtain rfl := Option.some.inj h
      exact Z_ireturn (st := []) hC hr hQ (dk d_X5_mateOf 26 rfl)
  · have h := it_t h c
    refine Z_aload_n hC (dk d_X5_mateOf 2 rfl) 5 rfl rfl rfl ?_
    refine G_X5_36 hC m_5 (dk d_X5_mateOf 3 rfl) 8 rfl ?_
    refine Z_iload_n hC (dk d_X5_mateOf 4 rfl) 9 rfl rfl rfl ?_
    obtain ⟨g4, h⟩ := gd_some h
    refine Z_iaload hC m_36 (by decide) rfl g4 (dk d_X5_mateOf 5 rfl) 10 rfl ?_
    refine Z_goto hC (dk d_X5_mateOf 6 rfl) 46 (by decide) ?_
    obtain rfl := Option.some.inj h
    exact Z_ireturn (st := []) hC hr hQ (dk d_X5_mateOf 26 rfl)
def t_X5_mate : List (Nat × Instr × Nat) := [(0, .aload_n 0, 1), (1, .iload_n 1, 1), (2, .invokevirtual 137, 3), (5, .ifCond .eq 26, 3), (8, .iload_n 2, 1), (9, .iconst 0, 1), (10, .iconst 3, 1), (11, .invokestatic 72, 3), (14, .ifCond .eq 17, 3), (17, .aload_n 0, 1), (18, .aload_n 0, 1), (19, .iload_n 1, 1), (20, .iload_n 2, 1), (21, .invokevirtual 140, 3), (24, .iconst 1, 1), (25, .invokevirtual 98, 3), (28, .goto 4, 3), (31, .iconst (-1), 1), (32, .ireturn, 1)]
set_option maxRecDepth 20000 in
theorem d_X5_mate : ∀ q ∈ t_X5_mate, decode cX5_mate q.1 = .ok q.2 := by decide +kernel
noncomputable def f_X5_mate (N : Nat) (a1 : Int32) (a2 : Int32) (w : Wd) : Option (Int32 × Wd) :=
  (f_X5_isMate N a1 w).bind (fun q1 =>
    if q1.1 = 0 then
      some ((-1 : Int32), q1.2)
    else
      (f_X5_in N a2 (0 : Int32) (3 : Int32) q1.2).bind (fun q2 =>
        if q2.1 = 0 then
          some ((-1 : Int32), q2.2)
        else
          (f_X5_mateOf N a1 a2 q2.2).bind (fun q3 =>
            (f_X5_ask N q3.1 (1 : Int32) q3.2).bind (fun q4 =>
              some (q4.1, q4.2)))))
set_option maxRecDepth 20000 in
set_option maxHeartbeats 4000000 in
theorem s_X5_mate (G : GT) (l : Launch) (N : Nat) (a1 : Int32) (a2 : Int32) (w : Wd) (q : Int32 × Wd) (h : f_X5_mate N a1 a2 w = some q) : Sp G l yX5_mate cw_X5_mate 2 [vr 5 0, vi a1, vi a2] w (some (vi q.1)) q.2 := by
  refine Sp_of (own := RX5) [some (vr 5 0), some (vi a1), some (vi a2)] (by decide) rfl rfl (Nat.le_of_ble_eq_true rfl) ?_
  intro x hG hl hC hr hQ _ _
  subst hG
  subst hl
  unfold f_X5_mate at h
  refine Z_aload_n hC (dk d_X5_mate 0 rfl) 1 rfl rfl rfl ?_
  refine Z_iload_n hC (dk d_X5_mate 1 rfl) 2 rfl rfl rfl ?_
  obtain ⟨q1, hq1, h⟩ := bd_some h
  refine K_X5_137 [vi a1] hC m_5 (s_X5_isMate (xG x) (xl x) N a1 w q1 hq1) (Nat.le_of_ble_eq_true rfl) rfl rfl rfl (Nat.le_of_ble_eq_true rfl) (dk d_X5_mate 2 rfl) 5 rfl ?_
  refine Z_if_eq hC (dk d_X5_mate 3 rfl) 8 31 rfl (by decide) (fun c => ?_) (fun c => ?_)
  · have h := it_t h c
    refine Z_iconst (v := -1) hC (dk d_X5_mate 17 rfl) 32 rfl (by decide) ?_
    obtain rfl := Option.some.inj h
    exact Z_ireturn (st := []) hC hr hQ (dk d_X5_mate 18 rfl)
  · have h := it_f h c
    refine Z_iload_n hC (dk d_X5_mate 4 rfl) 9 rfl rfl rfl ?_
    refine Z_iconst (v := 0) hC (dk d_X5_mate 5 rfl) 10 rfl (by decide) ?_
    refine Z_iconst (v := 3) hC (dk d_X5_mate 6 rfl) 11 rfl (by decide) ?_
    obtain ⟨q2, hq2, h⟩ := bd_some h
    refine K_X5_72 [vi a2, vi (0 : Int32), vi (3 : Int32)] hC (s_X5_in (xG x) (xl x) N a2 (0 : Int32) (3 : Int32) q1.2 q2 hq2) (Nat.le_of_ble_eq_true rfl) rfl rfl rfl (Nat.le_of_ble_eq_true rfl) (dk d_X5_mate 7 rfl) 14 rfl ?_
    refine Z_if_eq hC (dk d_X5_mate 8 rfl) 17 31 rfl (by decide) (fun c => ?_) (fun c => ?_)
    · have h := it_t h c
      refine Z_iconst (v := -1) hC (dk d_X5_mate 17 rfl) 32 rfl (by decide) ?_
      obtain rfl := Option.some.inj h
      exact Z_ireturn (st := []) hC hr hQ (dk d_X5_mate 18 rfl)
    · have h := it_f h c
      refine Z_aload_n hC (dk d_X5_mate 9 rfl) 18 rfl rfl rfl ?_
      refine Z_aload_n hC (dk d_X5_mate 10 rfl) 19 rfl rfl rfl ?_
      refine Z_iload_n hC (dk d_X5_mate 11 rfl) 20 rfl rfl rfl ?_
      refine Z_iload_n hC (dk d_X5_mate 12 rfl) 21 rfl rfl rfl ?_
      obtain ⟨q3, hq3, h⟩ := bd_some h
      refine K_X5_140 [vi a1, vi a2] hC m_5 (s_X5_mateOf (xG x) (xl x) N a1 a2 q2.2 q3 hq3) (Nat.le_of_ble_eq_true rfl) rfl rfl rfl (Nat.le_of_ble_eq_true rfl) (dk d_X5_mate 13 rfl) 24 rfl ?_
      refine Z_iconst (v := 1) hC (dk d_X5_mate 14 rfl) 25 rfl (by decide) ?_
      obtain ⟨q4, hq4, h⟩ := bd_some h
      refine K_X5_98 [vi q3.1, vi (1 : Int32)] hC m_5 (s_X5_ask (xG x) (xl x) N q3.1 (1 : Int32) q3.2 q4 hq4) (Nat.le_of_ble_eq_true rfl) rfl rfl rfl (Nat.le_of_ble_eq_true rfl) (dk d_X5_mate 15 rfl) 28 rfl ?_
      refine Z_goto hC (dk d_X5_mate 16 rfl) 32 (by decide) ?_
      obtain rfl := Option.some.inj h
      exact Z_ireturn (st := []) hC hr hQ (dk d_X5_mate 18 rfl)
