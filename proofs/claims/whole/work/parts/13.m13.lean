def t_X4_copy : List (Nat × Instr × Nat) := [(0, .iload_n 1, 1), (1, .invokestatic 70, 3), (4, .ifCond .eq 10, 3), (7, .iload_n 3, 1), (8, .invokestatic 70, 3), (11, .ifCond .ne 5, 3), (14, .iconst (-1), 1), (15, .ireturn, 1), (16, .iload 5, 2), (18, .ifCond .ge 9, 3), (21, .aload_n 0, 1), (22, .iconst 5, 1), (23, .invokevirtual 74, 3), (26, .ireturn, 1), (27, .aload_n 0, 1), (28, .getfield 10, 3), (31, .iload_n 1, 1), (32, .invokevirtual 94, 3), (35, .ifCond .ne 14, 3), (38, .aload_n 0, 1), (39, .getfield 10, 3), (42, .iload_n 3, 1), (43, .invokevirtual 94, 3), (46, .ifCond .eq 9, 3), (49, .aload_n 0, 1), (50, .iconst 1, 1), (51, .invokevirtual 74, 3), (54, .ireturn, 1), (55, .aload_n 0, 1), (56, .getfield 10, 3), (59, .iload_n 1, 1), (60, .iload_n 2, 1), (61, .iload 5, 2), (63, .invokevirtual 100, 3), (66, .ifCond .eq 18, 3), (69, .aload_n 0, 1), (70, .getfield 10, 3), (73, .iload_n 3, 1), (74, .iload 4, 2), (76, .iload 5, 2), (78, .invokevirtual 100, 3), (81, .ifCond .ne 9, 3), (84, .aload_n 0, 1), (85, .iconst 2, 1), (86, .invokevirtual 74, 3), (89, .ireturn, 1), (90, .aload_n 0, 1), (91, .getfield 10, 3), (94, .getfield 86, 3), (97, .iload_n 1, 1), (98, .aaload, 1), (99, .iload_n 2, 1), (100, .aload_n 0, 1), (101, .getfield 10, 3), (104, .getfield 86, 3), (107, .iload_n 3, 1), (108, .aaload, 1), (109, .iload 4, 2), (111, .iload 5, 2), (113, .invokestatic 104, 3), (116, .iconst 1, 1), (117, .ireturn, 1)]
set_option maxRecDepth 20000 in
theorem d_X4_copy : ∀ q ∈ t_X4_copy, decode cX4_copy q.1 = .ok q.2 := by decide +kernel
noncomputable def f_X4_copy (N : Nat) (a1 : Int32) (a2 : Int32) (a3 : Int32) (a4 : Int32) (a5 : Int32) (w : Wd) : Option (Int32 × Wd) :=
  (f_X4_isRow N a1 w).bind (fun q1 =>
    if q1.1 = 0 then
      some ((-1 : Int32), q1.2)
    else
      (f_X4_isRow N a3 q1.2).bind (fun q2 =>
        if q2.1 = 0 then
          some ((-1 : Int32), q2.2)
        else
          if 0 ≤ a5 then
            (f_X1_isMissing N a1 q2.2).bind (fun q3 =>
              if q3.1 = 0 then
                (f_X1_isMissing N a3 q3.2).bind (fun q5 =>
                  if q5.1 = 0 then
                    (f_X1_hasPlaces N a1 a2 a5 q5.2).bind (fun q6 =>
                      if q6.1 = 0 then
                        (f_X4_refuse N (2 : Int32) q6.2).bind (fun q7 =>
                          some (q7.1, q7.2))
                      else
                        (f_X1_hasPlaces N a3 a4 a5 q6.2).bind (fun q8 =>
                          if q8.1 = 0 then
                            (f_X4_refuse N (2 : Int32) q8.2).bind (fun q12 =>
                              some (q12.1, q12.2))
                          else
                            gd (vp_in a1 6) (
                            gd (vp_in a3 6) (
                            gd (¬ a2 < 0 ∧ ¬ a4 < 0 ∧ ¬ a5 < 0 ∧ a2.toNatClampNeg + a5.toNatClampNeg ≤ 40 ∧ a4.toNatClampNeg + a5.toNatClampNeg ≤ 40) (
                            some ((1 : Int32), sA q8.2 11 a3.toNatClampNeg (va_cpy (gA q8.2 11 a1.toNatClampNeg) (gA q8.2 11 a3.toNatClampNeg) a2.toNatClampNeg a4.toNatClampNeg a5.toNatClampNeg)))))))
                  else
                    (f_X4_refuse N (1 : Int32) q5.2).bind (fun q13 =>
                      some (q13.1, q13.2)))
              else
                (f_X4_refuse N (1 : Int32) q3.2).bind (fun q4 =>
                  some (q4.1, q4.2)))
          else
            (f_X4_refuse N (5 : Int32) q2.2).bind (fun q14 =>
              some (q14.1, q14.2))))
set_option maxRecDepth 20000 in
set_option maxHeartbeats 4000000 in
theorem s_X4_copy (G : GT) (l : Launch) (N : Nat) (a1 : Int32) (a2 : Int32) (a3 : Int32) (a4 : Int32) (a5 : Int32) (w : Wd) (q : Int32 × Wd) (h : f_X4_copy N a1 a2 a3 a4 a5 w = some q) : Sp G l yX4_copy cw_X4_copy 1 [vr 0 0, vi a1, vi a2, vi a3, vi a4, vi a5] w (some (vi q.1)) q.2 := by
  refine Sp_of (own := RX4) [some (vr 0 0), some (vi a1), some (vi a2), some (vi a3), some (vi a4), some (vi a5)] (by decide) rfl rfl (Nat.le_of_ble_eq_true rfl) ?_
  intro x hG hl hC hr hQ _ _
  subst hG
  subst hl
  unfold f_X4_copy at h
  refine Z_iload_n hC (dk d_X4_copy 0 rfl) 1 rfl rfl rfl ?_
  obtain ⟨q1, hq1, h⟩ := bd_some h
  refine K_X4_70 [vi a1] hC (s_X4_isRow (xG x) (xl x) N a1 w q1 hq1) (Nat.le_of_ble_eq_true rfl) rfl rfl rfl (Nat.le_of_ble_eq_true rfl) (dk d_X4_copy 1 rfl) 4 rfl ?_
  refine Z_if_eq hC (dk d_X4_copy 2 rfl) 7 14 rfl (by decide) (fun c => ?_) (fun c => ?_)
  · have h := it_t h c
    refine Z_iconst (v := -1) hC (dk d_X4_copy 6 rfl) 15 rfl (by decide) ?_
    obtain rfl := Option.some.inj h
    exact Z_ireturn (st := []) hC hr hQ (dk d_X4_copy 7 rfl)
  · have h := it_f h c
    refine Z_iload_n hC (dk d_X4_copy 3 rfl) 8 rfl rfl rfl ?_
    obtain ⟨q2, hq2, h⟩ := bd_some h
    refine K_X4_70 [vi a3] hC (s_X4_isRow (xG x) (xl x) N a3 q1.2 q2 hq2) (Nat.le_of_ble_eq_true rfl) rfl rfl rfl (Nat.le_of_ble_eq_true rfl) (dk d_X4_copy 4 rfl) 11 rfl ?_
    refine Z_if_ne hC (dk d_X4_copy 5 rfl) 14 16 rfl (by decide) (fun c => ?_) (fun c => ?_)
    · have h := it_f h c
      refine Z_iload hC (dk d_X4_copy 8 rfl) 18 rfl rfl ?_
      refine Z_if_ge hC (dk d_X4_copy 9 rfl) 21 27 rfl (by decide) (fun c => ?_) (fun c => ?_)
      · have h := it_t h c
        refine Z_aload_n hC (dk d_X4_copy 14 rfl) 28 rfl rfl rfl ?_
        refine G_X4_10 hC m_0 (dk d_X4_copy 15 rfl) 31 rfl ?_
        refine Z_iload_n hC (dk d_X4_copy 16 rfl) 32 rfl rfl rfl ?_
        obtain ⟨q3, hq3, h⟩ := bd_some h
        refine K_X4_94 [vi a1] hC m_1 (s_X1_isMissing (xG x) (xl x) N a1 q2.2 q3 hq3) (Nat.le_of_ble_eq_true rfl) rfl rfl rfl (Nat.le_of_ble_eq_true rfl) (dk d_X4_copy 17 rfl) 35 rfl ?_
        refine Z_if_ne hC (dk d_X4_copy 18 rfl) 38 49 rfl (by decide) (fun c => ?_) (fun c => ?_)
        · have h := it_f h c
          refine Z_aload_n hC (dk d_X4_copy 24 rfl) 50 rfl rfl rfl ?_
          refine Z_iconst (v := 1) hC (dk d_X4_copy 25 rfl) 51 rfl (by decide) ?_
          obtain ⟨q4, hq4, h⟩ := bd_some h
          refine K_X4_74 [vi (1 : Int32)] hC m_0 (s_X4_refuse (xG x) (xl x) N (1 : Int32) q3.2 q4 hq4) (Nat.le_of_ble_eq_true rfl) rfl rfl rfl (Nat.le_of_ble_eq_true rfl) (dk d_X4_copy 26 rfl) 54 rfl ?_
          obtain rfl := Option.some.inj h
          exact Z_ireturn (st := []) hC hr hQ (dk d_X4_copy 27 rfl)
        · have h := it_t h c
          refine Z_aload_n hC (dk d_X4_copy 19 rfl) 39 rfl rfl rfl ?_
          refine G_X4_10 hC m_0 (dk d_X4_copy 20 rfl) 42 rfl ?_
          refine Z_iload_n hC (dk d_X4_copy 21 rfl) 43 rfl rfl rfl ?_
          obtain ⟨q5, hq5, h⟩ := bd_some h
          refine K_X4_94 [vi a3] hC m_1 (s_X1_isMissing (xG x) (xl x) N a3 q3.2 q5 hq5) (Nat.le_of_ble_eq_true rfl) rfl rfl rfl (Nat.le_of_ble_eq_true rfl) (dk d_X4_copy 22 rfl) 46 rfl ?_
          refine Z_if_eq hC (dk d_X4_copy 23 rfl) 49 55 rfl (by decide) (fun c => ?_) (fun c => ?_)
          · have h := it_t h c
            refine Z_aload_n hC (dk d_X4_copy 28 rfl) 56 rfl rfl rfl ?_
            refine G_X4_10 hC m_0 (dk d_X4_copy 29 rfl) 59 rfl ?_
            refine Z_iload_n hC (dk d_X4_copy 30 rfl) 60 rfl rfl rfl ?_
            refine Z_iload_n hC (dk d_X4_copy 31 rfl) 61 rfl rfl rfl ?_
            refine Z_iload hC (dk d_X4_copy 32 rfl) 63 rfl rfl ?_
            obtain ⟨q6, hq6, h⟩ := bd_some h
            refine K_X4_100 [vi a1, vi a2, vi a5] hC m_1 (s_X1_hasPlaces (xG x) (xl x) N a1 a2 a5 q5.2 q6 hq6) (Nat.le_of_ble_eq_true rfl) rfl rfl rfl (Nat.le_of_ble_eq_true rfl) (dk d_X4_copy 33 rfl) 66 rfl ?_
            refine Z_if_eq hC (dk d_X4_copy 34 rfl) 69 84 rfl (by decide) (fun c => ?_) (fun c => ?_)
            · have h := it_t h c
              refine Z_aload_n hC (dk d_X4_copy 42 rfl) 85 rfl rfl rfl ?_
              refine Z_iconst (v := 2) hC (dk d_X4_copy 43 rfl) 86 rfl (by decide) ?_
              obtain ⟨q7, hq7, h⟩ := bd_some h
              refine K_X4_74 [vi (2 : Int32)] hC m_0 (s_X4_refuse (xG x) (xl x) N (2 : Int32) q6.2 q7 hq7) (Nat.le_of_ble_eq_true rfl) rfl rfl rfl (Nat.le_of_ble_eq_true rfl) (dk d_X4_copy 44 rfl) 89 rfl ?_
              obtain rfl := Option.some.inj h
              exact Z_ireturn (st := []) hC hr hQ (dk d_X4_copy 45 rfl)
            · have h := it_f h c
              refine Z_aload_n hC (dk d_X4_copy 35 rfl) 70 rfl rfl rfl ?_
              refine G_X4_10 hC m_0 (dk d_X4_copy 36 rfl) 73 rfl ?_
              refine Z_iload_n hC (dk d_X4_copy 37 rfl) 74 rfl rfl rfl ?_
              refine Z_iload hC (dk d_X4_copy 38 rfl) 76 rfl rfl ?_
              refine Z_iload hC (dk d_X4_copy 39 rfl) 78 rfl rfl ?_
              obtain ⟨q8, hq8, h⟩ := bd_some h
              refine K_X4_100 [vi a3, vi a4, vi a5] hC m_1 (s_X1_hasPlaces (xG x) (xl x) N a3 a4 a5 q6.2 q8 hq8) (Nat.le_of_ble_eq_true rfl) rfl rfl rfl (Nat.le_of_ble_eq_true rfl) (dk d_X4_copy 40 rfl) 81 rfl ?_
              refine Z_if_ne hC (dk d_X4_copy 41 rfl) 84 90 rfl (by decide) (fun c => ?_) (fun c => ?_)
              · have h := it_f h c
                refine Z_aload_n hC (dk d_X4_copy 46 rfl) 91 rfl rfl rfl ?_
                refine G_X4_10 hC m_0 (dk d_X4_copy 47 rfl) 94 rfl ?_
                refine G_X4_86 hC m_1 (dk d_X4_copy 48 rfl) 97 rfl ?_
                refine Z_iload_n hC (dk d_X4_copy 49 rfl) 98 rfl rfl rfl ?_
                obtain ⟨g9, h⟩ := gd_some h
                refine Z_aaload hC m_10 (by decide) (by decide) g9 (dk d_X4_copy 50 rfl) 99 rfl ?_
                refine Z_iload_n hC (dk d_X4_copy 51 rfl) 100 rfl rfl rfl ?_
                refine Z_aload_n hC (dk d_X4_copy 52 rfl) 101 rfl rfl rfl ?_
                refine G_X4_10 hC m_0 (dk d_X4_copy 53 rfl) 104 rfl ?_
                refine G_X4_86 hC m_1 (dk d_X4_copy 54 rfl) 107 rfl ?_
                refine Z_iload_n hC (dk d_X4_copy 55 rfl) 108 rfl rfl rfl ?_
                obtain ⟨g10, h⟩ := gd_some h
                refine Z_aaload hC m_10 (by decide) (by decide) g10 (dk d_X4_copy 56 rfl) 109 rfl ?_
                refine Z_iload hC (dk d_X4_copy 57 rfl) 111 rfl rfl ?_
                refine Z_iload hC (dk d_X4_copy 58 rfl) 113 rfl rfl ?_
                obtain ⟨g11, h⟩ := gd_some h
                refine Z_copy hC (m_11 (vp_lt g9)) (m_11 (vp_lt g10)) (by decide) (by decide) rfl rfl ml_X4_104 wac_native wac_static wini_J10 g11.1 g11.2.1 g11.2.2.1 g11.2.2.2.1 g11.2.2.2.2 (by decide) rfl (Nat.le_of_ble_eq_true rfl) (dk d_X4_copy 59 rfl) 116 rfl ?_
                refine Z_iconst (v := 1) hC (dk d_X4_copy 60 rfl) 117 rfl (by decide) ?_
                obtain rfl := Option.some.inj h
                exact Z_ireturn (st := []) hC hr hQ (dk d_X4_copy 61 rfl)
              · have h := it_t h c
                refine Z_aload_n hC (dk d_X4_copy 42 rfl) 85 rfl rfl rfl ?_
                refine Z_iconst (v := 2) hC (dk d_X4_copy 43 rfl) 86 rfl (by decide) ?_
                obtain ⟨q12, hq12, h⟩ := bd_some h
                refine K_X4_74 [vi (2 : Int32)] hC m_0 (s_X4_refuse (xG x) (xl x) N (2 : Int32) q8.2 q12 hq12) (Nat.le_of_ble_eq_true rfl) rfl rfl rfl (Nat.le_of_ble_eq_true rfl) (dk d_X4_copy 44 rfl) 89 rfl ?_
                obtain rfl := Option.some.inj h
                exact Z_ireturn (st := []) hC hr hQ (dk d_X4_copy 45 rfl)
          · have h := it_f h c
            refine Z_aload_n hC (dk d_X4_copy 24 rfl) 50 rfl rfl rfl ?_
            refine Z_iconst (v := 1) hC (dk d_X4_copy 25 rfl) 51 rfl (by decide) ?_
            obtain ⟨q13, hq13, h⟩ := bd_some h
            refine K_X4_74 [vi (1 : Int32)] hC m_0 (s_X4_refuse (xG x) (xl x) N (1 : Int32) q5.2 q13 hq13) (Nat.le_of_ble_eq_true rfl) rfl rfl rfl (Nat.le_of_ble_eq_true rfl) (dk d_X4_copy 26 rfl) 54 rfl ?_
            obtain rfl := Option.some.inj h
            exact Z_ireturn (st := []) hC hr hQ (dk d_X4_copy 27 rfl)
      · have h := it_f h c
        refine Z_aload_n hC (dk d_X4_copy 10 rfl) 22 rfl rfl rfl ?_
        refine Z_iconst (v := 5) hC (dk d_X4_copy 11 rfl) 23 rfl (by decide) ?_
        obtain ⟨q14, hq14, h⟩ := bd_some h
        refine K_X4_74 [vi (5 : Int32)] hC m_0 (s_X4_refuse (xG x) (xl x) N (5 : Int32) q2.2 q14 hq14) (Nat.le_of_ble_eq_true rfl) rfl rfl rfl (Nat.le_of_ble_eq_true rfl) (dk d_X4_copy 12 rfl) 26 rfl ?_
        obtain rfl := Option.some.inj h
        exact Z_ireturn (st := []) hC hr hQ (dk d_X4_copy 13 rfl)
    · have h := it_t h c
      refine Z_iconst (v := -1) hC (dk d_X4_copy 6 rfl) 15 rfl (by decide) ?_
      obtain rfl := Option.some.inj h
      exact Z_ireturn (st := []) hC hr hQ (dk d_X4_copy 7 rfl)
def t_X4_mean : List (Nat × Instr × Nat) := [(0, .iload_n 1, 1), (1, .invokestatic 70, 3), (4, .ifCond .ne 5, 3), (7, .iconst (-1), 1), (8, .ireturn, 1), (9, .aload_n 0, 1), (10, .getfield 10, 3), (13, .iload_n 1, 1), (14, .invokevirtual 94, 3), (17, .ifCond .eq 9, 3), (20, .aload_n 0, 1), (21, .iconst 1, 1), (22, .invokevirtual 74, 3), (25, .ireturn, 1), (26, .aload_n 0, 1), (27, .getfield 10, 3), (30, .getfield 97, 3), (33, .iload_n 1, 1), (34, .iaload, 1), (35, .istore_n 2, 1), (36, .iload_n 2, 1), (37, .ifCond .ne 9, 3), (40, .aload_n 0, 1), (41, .iconst 4, 1), (42, .invokevirtual 74, 3), (45, .ireturn, 1), (46, .lconst 0, 1), (47, .lstore_n 3, 1), (48, .iconst 0, 1), (49, .istore 5, 2), (51, .iload 5, 2), (53, .iload_n 2, 1), (54, .if_icmp .ge 25, 3), (57, .lload_n 3, 1), (58, .aload_n 0, 1), (59, .getfield 10, 3), (62, .getfield 86, 3), (65, .iload_n 1, 1), (66, .aaload, 1), (67, .iload 5, 2), (69, .iaload, 1), (70, .i2l, 1), (71, .ladd, 1), (72, .lstore_n 3, 1), (73, .iinc 5 1, 3), (76, .goto (-25), 3), (79, .aload_n 0, 1), (80, .lload_n 3, 1), (81, .iload_n 2, 1), (82, .i2l, 1), (83, .ldiv, 1), (84, .l2i, 1), (85, .putfield 90, 3), (88, .iconst 1, 1), (89, .ireturn, 1)]
set_option maxRecDepth 20000 in
theorem d_X4_mean : ∀ q ∈ t_X4_mean, decode cX4_mean q.1 = .ok q.2 := by decide +kernel
noncomputable def X4_mean_L1 (N : Nat) (x1 : Int32) (x2 : Int32) : Nat → Int64 → Int32 → Wd → Option (Int64 × Wd)
  | 0, _, _, _ => none
  | n + 1, x3, x5, w =>
  if x2 ≤ x5 then
    some (x3, w)
  else
    gd (vp_in x1 6) (
    gd (vp_in x5 40) (
    X4_mean_L1 N x1 x2 n (x3 + ((gA w 11 x1.toNatClampNeg x5.toNatClampNeg).toInt64)) (x5 + (1 : Int32)) w))
set_option maxRecDepth 20000 in
set_option maxHeartbeats 4000000 in
theorem z_X4_mean_L1 {x : CX} (hC : Cx x RX4 cX4_mean 6 1) (hr : (xM x).sig.returnType = (some .int)) (N : Nat) (x1 : Int32) (x2 : Int32) : ∀ (n : Nat) (x3 : Int64) (x5 : Int32) (w : Wd) (q : (Int64 × Wd)), X4_mean_L1 N x1 x2 n x3 x5 w = some q → Z x 79 [some (vr 0 0), none, some (vi x2), some (vl q.1), none, none] [] q.2 → Z x 51 [some (vr 0 0), some (vi x1), some (vi x2), some (vl x3), none, some (vi x5)] [] w := by
  intro n
  induction n with
  | zero =>
    intro x3 x5 w q h
    cases h
  | succ n ih =>
    intro x3 x5 w q h ke
    rw [X4_mean_L1] at h
    refine Z_iload hC (dk d_X4_mean 30 rfl) 53 rfl rfl ?_
    refine Z_iload_n hC (dk d_X4_mean 31 rfl) 54 rfl rfl rfl ?_
    refine Z_icmp_ge hC (dk d_X4_mean 32 rfl) 57 79 rfl (by decide) (fun c => ?_) (fun c => ?_)
    · have h := it_t h c
      obtain rfl := Option.some.inj h
      refine Z_wk [true, false, true, true, false, false] [some (vr 0 0), none, some (vi x2), some (vl x3), none, none] rfl ?_
      exact ke
    · have h := it_f h c
      refine Z_lload_n hC (dk d_X4_mean 33 rfl) 58 rfl rfl rfl ?_
      refine Z_aload_n hC (dk d_X4_mean 34 rfl) 59 rfl rfl rfl ?_
      refine G_X4_10 hC m_0 (dk d_X4_mean 35 rfl) 62 rfl ?_
      refine G_X4_86 hC m_1 (dk d_X4_mean 36 rfl) 65 rfl ?_
      refine Z_iload_n hC (dk d_X4_mean 37 rfl) 66 rfl rfl rfl ?_
      obtain ⟨g4, h⟩ := gd_some h
      refine Z_aaload hC m_10 (by decide) (by decide) g4 (dk d_X4_mean 38 rfl) 67 rfl ?_
      refine Z_iload hC (dk d_X4_mean 39 rfl) 69 rfl rfl ?_
      obtain ⟨g5, h⟩ := gd_some h
      refine Z_iaload hC (m_11 (vp_lt g4)) (by decide) rfl g5 (dk d_X4_mean 40 rfl) 70 rfl ?_
      refine Z_i2l hC (dk d_X4_mean 41 rfl) 71 rfl ?_
      refine Z_ladd hC (dk d_X4_mean 42 rfl) 72 rfl ?_
      refine Z_lstore_n hC (dk d_X4_mean 43 rfl) 73 rfl rfl (Nat.le_of_ble_eq_true rfl) [some (vr 0 0), some (vi x1), some (vi x2), some (vl (x3 + ((gA w 11 x1.toNatClampNeg x5.toNatClampNeg).toInt64))), none, some (vi x5)] rfl ?_
      refine Z_iinc hC (dk d_X4_mean 44 rfl) 76 rfl rfl rfl [some (vr 0 0), some (vi x1), some (vi x2), some (vl (x3 + ((gA w 11 x1.toNatClampNeg x5.toNatClampNeg).toInt64))), none, some (vi (x5 + (1 : Int32)))] rfl ?_
      refine Z_goto hC (dk d_X4_mean 45 rfl) 51 (by decide) ?_
      refine Z_wk [true, true, true, true, false, true] [some (vr 0 0), some (vi x1), some (vi x2), some (vl (x3 + ((gA w 11 x1.toNatClampNeg x5.toNatClampNeg).toInt64))), none, some (vi (x5 + (1 : Int32)))] rfl ?_
      exact ih (x3 + ((gA w 11 x1.toNatClampNeg x5.toNatClampNeg).toInt64)) (x5 + (1 : Int32)) w _ h ke
noncomputable def f_X4_mean (N : Nat) (a1 : Int32) (w : Wd) : Option (Int32 × Wd) :=
  (f_X4_isRow N a1 w).bind (fun q1 =>
    if q1.1 = 0 then
      some ((-1 : Int32), q1.2)
    else
      (f_X1_isMissing N a1 q1.2).bind (fun q2 =>
        if q2.1 = 0 then
          gd (vp_in a1 6) (
          if (gA q2.2 12 0 a1.toNatClampNeg) = 0 then
            (f_X4_refuse N (4 : Int32) q2.2).bind (fun q8 =>
              some (q8.1, q8.2))
          else
            (X4_mean_L1 N a1 (gA q2.2 12 0 a1.toNatClampNeg) N (0 : Int64) (0 : Int32) q2.2).bind (fun q6 =>
              gd (¬ ((gA q2.2 12 0 a1.toNatClampNeg).toInt64) = 0) (
              some ((1 : Int32), sI q6.2 412 0 ((q6.1 / ((gA q2.2 12 0 a1.toNatClampNeg).toInt64)).toInt32)))))
        else
          (f_X4_refuse N (1 : Int32) q2.2).bind (fun q9 =>
            some (q9.1, q9.2))))
set_option maxRecDepth 20000 in
set_option maxHeartbeats 4000000 in
theorem s_X4_mean (G : GT) (l : Launch) (N : Nat) (a1 : Int32) (w : Wd) (q : Int32 × Wd) (h : f_X4_mean N a1 w = some q) : Sp G l yX4_mean cw_X4_mean 1 [vr 0 0, vi a1] w (some (vi q.1)) q.2 := by
  refine Sp_of (own := RX4) [some (vr 0 0), some (vi a1), none, none, none, none] (by decide) rfl rfl (Nat.le_of_ble_eq_true rfl) ?_
  intro x hG hl hC hr hQ _ _
  subst hG
  subst hl
  unfold f_X4_mean at h
  refine Z_iload_n hC (dk d_X4_mean 0 rfl) 1 rfl rfl rfl ?_
  obtain ⟨q1, hq1, h⟩ := bd_some h
  refine K_X4_70 [vi a1] hC (s_X4_isRow (xG x) (xl x) N a1 w q1 hq1) (Nat.le_of_ble_eq_true rfl) rfl rfl rfl (Nat.le_of_ble_eq_true rfl) (dk d_X4_mean 1 rfl) 4 rfl ?_
  refine Z_if_ne hC (dk d_X4_mean 2 rfl) 7 9 rfl (by decide) (fun c => ?_) (fun c => ?_)
  · have h := it_f h c
    refine Z_aload_n hC (dk d_X4_mean 5 rfl) 10 rfl rfl rfl ?_
    refine G_X4_10 hC m_0 (dk d_X4_mean 6 rfl) 13 rfl ?_
    refine Z_iload_n hC (dk d_X4_mean 7 rfl) 14 rfl rfl rfl ?_
    obtain ⟨q2, hq2, h⟩ := bd_some h
    refine K_X4_94 [vi a1] hC m_1 (s_X1_isMissing (xG x) (xl x) N a1 q1.2 q2 hq2) (Nat.le_of_ble_eq_true rfl) rfl rfl rfl (Nat.le_of_ble_eq_true rfl) (dk d_X4_mean 8 rfl) 17 rfl ?_
    refine Z_if_eq hC (dk d_X4_mean 9 rfl) 20 26 rfl (by decide) (fun c => ?_) (fun c => ?_)
    · have h := it_t h c
      refine Z_aload_n hC (dk d_X4_mean 14 rfl) 27 rfl rfl rfl ?_
      refine G_X4_10 hC m_0 (dk d_X4_mean 15 rfl) 30 rfl ?_
      refine G_X4_97 hC m_1 (dk d_X4_mean 16 rfl) 33 rfl ?_
      refine Z_iload_n hC (dk d_X4_mean 17 rfl) 34 rfl rfl rfl ?_
      obtain ⟨g3, h⟩ := gd_some h
      refine Z_iaload hC m_12 (by decide) rfl g3 (dk d_X4_mean 18 rfl) 35 rfl ?_
      refine Z_istore_n hC (dk d_X4_mean 19 rfl) 36 rfl rfl (Nat.le_of_ble_eq_true rfl) [some (vr 0 0), some (vi a1), some (vi (gA q2.2 12 0 a1.toNatClampNeg)), none, none, none] rfl ?_
      refine Z_iload_n hC (dk d_X4_mean 20 rfl) 37 rfl rfl rfl ?_
      refine Z_if_ne hC (dk d_X4_mean 21 rfl) 40 46 rfl (by decide) (fun c => ?_) (fun c => ?_)
      · have h := it_f h c
        refine Z_lconst (v := 0) hC (dk d_X4_mean 26 rfl) 47 rfl (by decide) ?_
        refine Z_lstore_n hC (dk d_X4_mean 27 rfl) 48 rfl rfl (Nat.le_of_ble_eq_true rfl) [some (vr 0 0), some (vi a1), some (vi (gA q2.2 12 0 a1.toNatClampNeg)), some (vl (0 : Int64)), none, none] rfl ?_
        refine Z_iconst (v := 0) hC (dk d_X4_mean 28 rfl) 49 rfl (by decide) ?_
        refine Z_istore hC (dk d_X4_mean 29 rfl) 51 rfl (Nat.le_of_ble_eq_true rfl) [some (vr 0 0), some (vi a1), some (vi (gA q2.2 12 0 a1.toNatClampNeg)), some (vl (0 : Int64)), none, some (vi (0 : Int32))] rfl ?_
        obtain ⟨q6, hq6, h⟩ := bd_some h
        refine Z_wk [true, true, true, true, false, true] [some (vr 0 0), some (vi a1), some (vi (gA q2.2 12 0 a1.toNatClampNeg)), some (vl (0 : Int64)), none, some (vi (0 : Int32))] rfl ?_
        refine z_X4_mean_L1 hC hr N a1 (gA q2.2 12 0 a1.toNatClampNeg) N (0 : Int64) (0 : Int32) q2.2 q6 hq6 ?_
        refine Z_aload_n hC (dk d_X4_mean 46 rfl) 80 rfl rfl rfl ?_
        refine Z_lload_n hC (dk d_X4_mean 47 rfl) 81 rfl rfl rfl ?_
        refine Z_iload_n hC (dk d_X4_mean 48 rfl) 82 rfl rfl rfl ?_
        refine Z_i2l hC (dk d_X4_mean 49 rfl) 83 rfl ?_
        obtain ⟨g7, h⟩ := gd_some h
        refine Z_ldiv hC (dk d_X4_mean 50 rfl) 84 rfl g7 ?_
        refine Z_l2i hC (dk d_X4_mean 51 rfl) 85 rfl ?_
        refine P_X4_90 hC m_0 (dk d_X4_mean 52 rfl) 88 rfl ?_
        refine Z_iconst (v := 1) hC (dk d_X4_mean 53 rfl) 89 rfl (by decide) ?_
        obtain rfl := Option.some.inj h
        exact Z_ireturn (st := []) hC hr hQ (dk d_X4_mean 54 rfl)
      · have h := it_t h c
        refine Z_aload_n hC (dk d_X4_mean 22 rfl) 41 rfl rfl rfl ?_
        refine Z_iconst (v := 4) hC (dk d_X4_mean 23 rfl) 42 rfl (by decide) ?_
        obtain ⟨q8, hq8, h⟩ := bd_some h
        refine K_X4_74 [vi (4 : Int32)] hC m_0 (s_X4_refuse (xG x) (xl x) N (4 : Int32) q2.2 q8 hq8) (Nat.le_of_ble_eq_true rfl) rfl rfl rfl (Nat.le_of_ble_eq_true rfl) (dk d_X4_mean 24 rfl) 45 rfl ?_
        obtain rfl := Option.some.inj h
        exact Z_ireturn (st := []) hC hr hQ (dk d_X4_mean 25 rfl)
    · have h := it_f h c
      refine Z_aload_n hC (dk d_X4_mean 10 rfl) 21 rfl rfl rfl ?_
      refine Z_iconst (v := 1) hC (dk d_X4_mean 11 rfl) 22 rfl (by decide) ?_
      obtain ⟨q9, hq9, h⟩ := bd_some h
      refine K_X4_74 [vi (1 : Int32)] hC m_0 (s_X4_refuse (xG x) (xl x) N (1 : Int32) q2.2 q9 hq9) (Nat.le_of_ble_eq_true rfl) rfl rfl rfl (Nat.le_of_ble_eq_true rfl) (dk d_X4_mean 12 rfl) 25 rfl ?_
      obtain rfl := Option.some.inj h
      exact Z_ireturn (st := []) hC hr hQ (dk d_X4_mean 13 rfl)
  · have h := it_t h c
    refine Z_iconst (v := -1) hC (dk d_X4_mean 3 rfl) 8 rfl (by decide) ?_
    obtain rfl := Option.some.inj h
    exact Z_ireturn (st := []) hC hr hQ (dk d_X4_mean 4 rfl)
def t_X4_isText : List (Nat × Instr × Nat) := [(0, .iload_n 0, 1), (1, .ifCond .lt 12, 3), (4, .iload_n 0, 1), (5, .iconst 4, 1), (6, .if_icmp .ge 7, 3), (9, .iconst 1, 1), (10, .goto 4, 3), (13, .iconst 0, 1), (14, .ireturn, 1)]
set_option maxRecDepth 20000 in
theorem d_X4_isText : ∀ q ∈ t_X4_isText, decode cX4_isText q.1 = .ok q.2 := by decide +kernel
noncomputable def f_X4_isText (N : Nat) (a1 : Int32) (w : Wd) : Option (Int32 × Wd) :=
  if a1 < 0 then
    some ((0 : Int32), w)
  else
    if (4 : Int32) ≤ a1 then
      some ((0 : Int32), w)
    else
      some ((1 : Int32), w)
set_option maxRecDepth 20000 in
set_option maxHeartbeats 4000000 in
theorem s_X4_isText (G : GT) (l : Launch) (N : Nat) (a1 : Int32) (w : Wd) (q : Int32 × Wd) (h : f_X4_isText N a1 w = some q) : Sp G l yX4_isText cw_X4_isText 0 [vi a1] w (some (vi q.1)) q.2 := by
  refine Sp_of (own := RX4) [some (vi a1)] (by decide) rfl rfl (Nat.le_of_ble_eq_true rfl) ?_
  intro x hG hl hC hr hQ _ _
  subst hG
  subst hl
  unfold f_X4_isText at h
  refine Z_iload_n hC (dk d_X4_isText 0 rfl) 1 rfl rfl rfl ?_
  refine Z_if_lt hC (dk d_X4_isText 1 rfl) 4 13 rfl (by decide) (fun c => ?_) (fun c => ?_)
  · have h := it_t h c
    refine Z_iconst (v := 0) hC (dk d_X4_isText 7 rfl) 14 rfl (by decide) ?_
    obtain rfl := Option.some.inj h
    exact Z_zreturn (st := []) hC hr rfl hQ (dk d_X4_isText 8 rfl)
  · have h := it_f h c
    refine Z_iload_n hC (dk d_X4_isText 2 rfl) 5 rfl rfl rfl ?_
    refine Z_iconst (v := 4) hC (dk d_X4_isText 3 rfl) 6 rfl (by decide) ?_
    refine Z_icmp_ge hC (dk d_X4_isText 4 rfl) 9 13 rfl (by decide) (fun c => ?_) (fun c => ?_)
    · have h := it_t h c
      refine Z_iconst (v := 0) hC (dk d_X4_isText 7 rfl) 14 rfl (by decide) ?_
      obtain rfl := Option.some.inj h
      exact Z_zreturn (st := []) hC hr rfl hQ (dk d_X4_isText 8 rfl)
    · have h := it_f h c
      refine Z_iconst (v := 1) hC (dk d_X4_isText 5 rfl) 10 rfl (by decide) ?_
      refine Z_goto hC (dk d_X4_isText 6 rfl) 14 (by decide) ?_
      obtain rfl := Option.some.inj h
      exact Z_zreturn (st := []) hC hr rfl hQ (dk d_X4_isText 8 rfl)
def t_X4_text : List (Nat × Instr × Nat) := [(0, .iload_n 1, 1), (1, .invokestatic 110, 3), (4, .ifCond .eq 9, 3), (7, .iload_n 2, 1), (8, .bipush 60, 2), (10, .if_icmp .le 5, 3), (13, .iconst (-1), 1), (14, .ireturn, 1), (15, .iload_n 2, 1), (16, .ifCond .ge 9, 3), (19, .aload_n 0, 1), (20, .iconst 5, 1), (21, .invokevirtual 74, 3), (24, .ireturn, 1), (25, .aload_n 0, 1), (26, .getfield 19, 3), (29, .iload_n 1, 1), (30, .iload_n 2, 1), (31, .invokevirtual 113, 3), (34, .iload_n 2, 1), (35, .ireturn, 1)]
set_option maxRecDepth 20000 in
theorem d_X4_text : ∀ q ∈ t_X4_text, decode cX4_text q.1 = .ok q.2 := by decide +kernel
noncomputable def f_X4_text (N : Nat) (a1 : Int32) (a2 : Int32) (w : Wd) : Option (Int32 × Wd) :=
  (f_X4_isText N a1 w).bind (fun q1 =>
    if q1.1 = 0 then
      some ((-1 : Int32), q1.2)
    else
      if a2 ≤ (60 : Int32) then
        if 0 ≤ a2 then
          (f_X3_renew N a1 a2 q1.2).bind (fun q2 =>
            some (a2, q2))
        else
          (f_X4_refuse N (5 : Int32) q1.2).bind (fun q3 =>
            some (q3.1, q3.2))
      else
        some ((-1 : Int32), q1.2))
set_option maxRecDepth 20000 in
set_option maxHeartbeats 4000000 in
theorem s_X4_text (G : GT) (l : Launch) (N : Nat) (a1 : Int32) (a2 : Int32) (w : Wd) (q : Int32 × Wd) (h : f_X4_text N a1 a2 w = some q) : Sp G l yX4_text cw_X4_text 2 [vr 0 0, vi a1, vi a2] w (some (vi q.1)) q.2 := by
  refine Sp_of (own := RX4) [some (vr 0 0), some (vi a1), some (vi a2)] (by decide) rfl rfl (Nat.le_of_ble_eq_true rfl) ?_
  intro x hG hl hC hr hQ _ _
  subst hG
  subst hl
  unfold f_X4_text at h
  refine Z_iload_n hC (dk d_X4_text 0 rfl) 1 rfl rfl rfl ?_
  obtain ⟨q1, hq1, h⟩ := bd_some h
  refine K_X4_110 [vi a1] hC (s_X4_isText (xG x) (xl x) N a1 w q1 hq1) (Nat.le_of_ble_eq_true rfl) rfl rfl rfl (Nat.le_of_ble_eq_true rfl) (dk d_X4_text 1 rfl) 4 rfl ?_
  refine Z_if_eq hC (dk d_X4_text 2 rfl) 7 13 rfl (by decide) (fun c => ?_) (fun c => ?_)
  · have h := it_t h c
    refine Z_iconst (v := -1) hC (dk d_X4_text 6 rfl) 14 rfl (by decide) ?_
    obtain rfl := Option.some.inj h
    exact Z_ireturn (st := []) hC hr hQ (dk d_X4_text 7 rfl)
  · have h := it_f h c
    refine Z_iload_n hC (dk d_X4_text 3 rfl) 8 rfl rfl rfl ?_
    refine Z_bipush (v := 60) hC (dk d_X4_text 4 rfl) 10 rfl (by decide) ?_
    refine Z_icmp_le hC (dk d_X4_text 5 rfl) 13 15 rfl (by decide) (fun c => ?_) (fun c => ?_)
    · have h := it_t h c
      refine Z_iload_n hC (dk d_X4_text 8 rfl) 16 rfl rfl rfl ?_
      refine Z_if_ge hC (dk d_X4_text 9 rfl) 19 25 rfl (by decide) (fun c => ?_) (fun c => ?_)
      · have h := it_t h c
        refine Z_aload_n hC (dk d_X4_text 14 rfl) 26 rfl rfl rfl ?_
        refine G_X4_19 hC m_0 (dk d_X4_text 15 rfl) 29 rfl ?_
        refine Z_iload_n hC (dk d_X4_text 16 rfl) 30 rfl rfl rfl ?_
        refine Z_iload_n hC (dk d_X4_text 17 rfl) 31 rfl rfl rfl ?_
        obtain ⟨q2, hq2, h⟩ := bd_some h
        refine K_X4_113 [vi a1, vi a2] hC m_2 (s_X3_renew (xG x) (xl x) N a1 a2 q1.2 q2 hq2) (Nat.le_of_ble_eq_true rfl) rfl rfl rfl (Nat.le_of_ble_eq_true rfl) (dk d_X4_text 18 rfl) 34 rfl ?_
        refine Z_iload_n hC (dk d_X4_text 19 rfl) 35 rfl rfl rfl ?_
        obtain rfl := Option.some.inj h
        exact Z_ireturn (st := []) hC hr hQ (dk d_X4_text 20 rfl)
      · have h := it_f h c
        refine Z_aload_n hC (dk d_X4_text 10 rfl) 20 rfl rfl rfl ?_
        refine Z_iconst (v := 5) hC (dk d_X4_text 11 rfl) 21 rfl (by decide) ?_
        obtain ⟨q3, hq3, h⟩ := bd_some h
        refine K_X4_74 [vi (5 : Int32)] hC m_0 (s_X4_refuse (xG x) (xl x) N (5 : Int32) q1.2 q3 hq3) (Nat.le_of_ble_eq_true rfl) rfl rfl rfl (Nat.le_of_ble_eq_true rfl) (dk d_X4_text 12 rfl) 24 rfl ?_
        obtain rfl := Option.some.inj h
        exact Z_ireturn (st := []) hC hr hQ (dk d_X4_text 13 rfl)
    · have h := it_f h c
      refine Z_iconst (v := -1) hC (dk d_X4_text 6 rfl) 14 rfl (by decide) ?_
      obtain rfl := Option.some.inj h
      exact Z_ireturn (st := []) hC hr hQ (dk d_X4_text 7 rfl)
def t_X4_put : List (Nat × Instr × Nat) := [(0, .iload_n 1, 1), (1, .invokestatic 110, 3), (4, .ifCond .ne 5, 3), (7, .iconst (-1), 1), (8, .ireturn, 1), (9, .aload_n 0, 1), (10, .getfield 19, 3), (13, .iload_n 1, 1), (14, .invokevirtual 114, 3), (17, .ifCond .eq 9, 3), (20, .aload_n 0, 1), (21, .iconst 1, 1), (22, .invokevirtual 74, 3), (25, .ireturn, 1), (26, .iload_n 2, 1), (27, .ifCond .lt 16, 3), (30, .iload_n 2, 1), (31, .aload_n 0, 1), (32, .getfield 19, 3), (35, .getfield 115, 3), (38, .iload_n 1, 1), (39, .iaload, 1), (40, .if_icmp .lt 9, 3), (43, .aload_n 0, 1), (44, .iconst 2, 1), (45, .invokevirtual 74, 3), (48, .ireturn, 1), (49, .aload_n 0, 1), (50, .getfield 19, 3), (53, .getfield 116, 3), (56, .iload_n 1, 1), (57, .aaload, 1), (58, .iload_n 2, 1), (59, .baload, 1), (60, .istore 4, 2), (62, .aload_n 0, 1), (63, .getfield 19, 3), (66, .getfield 116, 3), (69, .iload_n 1, 1), (70, .aaload, 1), (71, .iload_n 2, 1), (72, .iload_n 3, 1), (73, .i2b, 1), (74, .bastore, 1), (75, .iload 4, 2), (77, .sipush 1000, 3), (80, .iadd, 1), (81, .ireturn, 1)]
set_option maxRecDepth 20000 in
theorem d_X4_put : ∀ q ∈ t_X4_put, decode cX4_put q.1 = .ok q.2 := by decide +kernel
noncomputable def f_X4_put (N : Nat) (a1 : Int32) (a2 : Int32) (a3 : Int32) (w : Wd) : Option (Int32 × Wd) :=
  (f_X4_isText N a1 w).bind (fun q1 =>
    if q1.1 = 0 then
      some ((-1 : Int32), q1.2)
    else
      (f_X3_isMissing N a1 q1.2).bind (fun q2 =>
        if q2.1 = 0 then
          if a2 < 0 then
            (f_X4_refuse N (2 : Int32) q2.2).bind (fun q3 =>
              some (q3.1, q3.2))
          else
            gd (vp_in a1 4) (
            if a2 < (gA q2.2 15 0 a1.toNatClampNeg) then
              gd (vp_in a1 4) (
              gd (vp_in a2 60) (
              gd (vp_in a1 4) (
              gd (vp_in a2 60) (
              some ((gA q2.2 14 a1.toNatClampNeg a2.toNatClampNeg) + (1000 : Int32), sA q2.2 14 a1.toNatClampNeg (upd (gA q2.2 14 a1.toNatClampNeg) a2.toNatClampNeg (vp_nar .byte a3.toInt8.toInt32)))))))
            else
              (f_X4_refuse N (2 : Int32) q2.2).bind (fun q9 =>
                some (q9.1, q9.2)))
        else
          (f_X4_refuse N (1 : Int32) q2.2).bind (fun q10 =>
            some (q10.1, q10.2))))
set_option maxRecDepth 20000 in
set_option maxHeartbeats 4000000 in
theorem s_X4_put (G : GT) (l : Launch) (N : Nat) (a1 : Int32) (a2 : Int32) (a3 : Int32) (w : Wd) (q : Int32 × Wd) (h : f_X4_put N a1 a2 a3 w = some q) : Sp G l yX4_put cw_X4_put 1 [vr 0 0, vi a1, vi a2, vi a3] w (some (vi q.1)) q.2 := by
  refine Sp_of (own := RX4) [some (vr 0 0), some (vi a1), some (vi a2), some (vi a3), none] (by decide) rfl rfl (Nat.le_of_ble_eq_true rfl) ?_
  intro x hG hl hC hr hQ _ _
  subst hG
  subst hl
  unfold f_X4_put at h
  refine Z_iload_n hC (dk d_X4_put 0 rfl) 1 rfl rfl rfl ?_
  obtain ⟨q1, hq1, h⟩ := bd_some h
  refine K_X4_110 [vi a1] hC (s_X4_isText (xG x) (xl x) N a1 w q1 hq1) (Nat.le_of_ble_eq_true rfl) rfl rfl rfl (Nat.le_of_ble_eq_true rfl) (dk d_X4_put 1 rfl) 4 rfl ?_
  refine Z_if_ne hC (dk d_X4_put 2 rfl) 7 9 rfl (by decide) (fun c => ?_) (fun c => ?_)
  · have h := it_f h c
    refine Z_aload_n hC (dk d_X4_put 5 rfl) 10 rfl rfl rfl ?_
    refine G_X4_19 hC m_0 (dk d_X4_put 6 rfl) 13 rfl ?_
    refine Z_iload_n hC (dk d_X4_put 7 rfl) 14 rfl rfl rfl ?_
    obtain ⟨q2, hq2, h⟩ := bd_some h
    refine K_X4_114 [vi a1] hC m_2 (s_X3_isMissing (xG x) (xl x) N a1 q1.2 q2 hq2) (Nat.le_of_ble_eq_true rfl) rfl rfl rfl (Nat.le_of_ble_eq_true rfl) (dk d_X4_put 8 rfl) 17 rfl ?_
    refine Z_if_eq hC (dk d_X4_put 9 rfl) 20 26 rfl (by decide) (fun c => ?_) (fun c => ?_)
    · have h := it_t h c
      refine Z_iload_n hC (dk d_X4_put 14 rfl) 27 rfl rfl rfl ?_
      refine Z_if_lt hC (dk d_X4_put 15 rfl) 30 43 rfl (by decide) (fun c => ?_) (fun c => ?_)
      · have h := it_t h c
        refine Z_aload_n hC (dk d_X4_put 23 rfl) 44 rfl rfl rfl ?_
        refine Z_iconst (v := 2) hC (dk d_X4_put 24 rfl) 45 rfl (by decide) ?_
        obtain ⟨q3, hq3, h⟩ := bd_some h
        refine K_X4_74 [vi (2 : Int32)] hC m_0 (s_X4_refuse (xG x) (xl x) N (2 : Int32) q2.2 q3 hq3) (Nat.le_of_ble_eq_true rfl) rfl rfl rfl (Nat.le_of_ble_eq_true rfl) (dk d_X4_put 25 rfl) 48 rfl ?_
        obtain rfl := Option.some.inj h
        exact Z_ireturn (st := []) hC hr hQ (dk d_X4_put 26 rfl)
      · have h := it_f h c
        refine Z_iload_n hC (dk d_X4_put 16 rfl) 31 rfl rfl rfl ?_
        refine Z_aload_n hC (dk d_X4_put 17 rfl) 32 rfl rfl rfl ?_
        refine G_X4_19 hC m_0 (dk d_X4_put 18 rfl) 35 rfl ?_
        refine G_X4_115 hC m_2 (dk d_X4_put 19 rfl) 38 rfl ?_
        refine Z_iload_n hC (dk d_X4_put 20 rfl) 39 rfl rfl rfl ?_
        obtain ⟨g4, h⟩ := gd_some h
        refine Z_iaload hC m_15 (by decide) rfl g4 (dk d_X4_put 21 rfl) 40 rfl ?_
        refine Z_icmp_lt hC (dk d_X4_put 22 rfl) 43 49 rfl (by decide) (fun c => ?_) (fun c => ?_)
        · have h := it_t h c
          refine Z_aload_n hC (dk d_X4_put 27 rfl) 50 rfl rfl rfl ?_
          refine G_X4_19 hC m_0 (dk d_X4_put 28 rfl) 53 rfl ?_
          refine G_X4_116 hC m_2 (dk d_X4_put 29 rfl) 56 rfl ?_
          refine Z_iload_n hC (dk d_X4_put 30 rfl) 57 rfl rfl rfl ?_
          obtain ⟨g5, h⟩ := gd_some h
          refine Z_aaload hC m_13 (by decide) (by decide) g5 (dk d_X4_put 31 rfl) 58 rfl ?_
          refine Z_iload_n hC (dk d_X4_put 32 rfl) 59 rfl rfl rfl ?_
          obtain ⟨g6, h⟩ := gd_some h
          refine Z_baload hC (m_14 (vp_lt g5)) (by decide) rfl g6 (dk d_X4_put 33 rfl) 60 rfl ?_
          refine Z_istore hC (dk d_X4_put 34 rfl) 62 rfl (Nat.le_of_ble_eq_true rfl) [some (vr 0 0), some (vi a1), some (vi a2), some (vi a3), some (vi (gA q2.2 14 a1.toNatClampNeg a2.toNatClampNeg))] rfl ?_
          refine Z_aload_n hC (dk d_X4_put 35 rfl) 63 rfl rfl rfl ?_
          refine G_X4_19 hC m_0 (dk d_X4_put 36 rfl) 66 rfl ?_
          refine G_X4_116 hC m_2 (dk d_X4_put 37 rfl) 69 rfl ?_
          refine Z_iload_n hC (dk d_X4_put 38 rfl) 70 rfl rfl rfl ?_
          obtain ⟨g7, h⟩ := gd_some h
          refine Z_aaload hC m_13 (by decide) (by decide) g7 (dk d_X4_put 39 rfl) 71 rfl ?_
          refine Z_iload_n hC (dk d_X4_put 40 rfl) 72 rfl rfl rfl ?_
          refine Z_iload_n hC (dk d_X4_put 41 rfl) 73 rfl rfl rfl ?_
          refine Z_i2b hC (dk d_X4_put 42 rfl) 74 rfl ?_
          obtain ⟨g8, h⟩ := gd_some h
          refine Z_bastore hC (m_14 (vp_lt g7)) (by decide) rfl g8 (dk d_X4_put 43 rfl) 75 rfl ?_
          refine Z_iload hC (dk d_X4_put 44 rfl) 77 rfl rfl ?_
          refine Z_sipush (v := 1000) hC (dk d_X4_put 45 rfl) 80 rfl (by decide) ?_
          refine Z_iadd hC (dk d_X4_put 46 rfl) 81 rfl ?_
          obtain rfl := Option.some.inj h
          exact Z_ireturn (st := []) hC hr hQ (dk d_X4_put 47 rfl)
        · have h := it_f h c
          refine Z_aload_n hC (dk d_X4_put 23 rfl) 44 rfl rfl rfl ?_
          refine Z_iconst (v := 2) hC (dk d_X4_put 24 rfl) 45 rfl (by decide) ?_
          obtain ⟨q9, hq9, h⟩ := bd_some h
          refine K_X4_74 [vi (2 : Int32)] hC m_0 (s_X4_refuse (xG x) (xl x) N (2 : Int32) q2.2 q9 hq9) (Nat.le_of_ble_eq_true rfl) rfl rfl rfl (Nat.le_of_ble_eq_true rfl) (dk d_X4_put 25 rfl) 48 rfl ?_
          obtain rfl := Option.some.inj h
          exact Z_ireturn (st := []) hC hr hQ (dk d_X4_put 26 rfl)
    · have h := it_f h c
      refine Z_aload_n hC (dk d_X4_put 10 rfl) 21 rfl rfl rfl ?_
      refine Z_iconst (v := 1) hC (dk d_X4_put 11 rfl) 22 rfl (by decide) ?_
      obtain ⟨q10, hq10, h⟩ := bd_some h
      refine K_X4_74 [vi (1 : Int32)] hC m_0 (s_X4_refuse (xG x) (xl x) N (1 : Int32) q2.2 q10 hq10) (Nat.le_of_ble_eq_true rfl) rfl rfl rfl (Nat.le_of_ble_eq_true rfl) (dk d_X4_put 12 rfl) 25 rfl ?_
      obtain rfl := Option.some.inj h
      exact Z_ireturn (st := []) hC hr hQ (dk d_X4_put 13 rfl)
  · have h := it_t h c
    refine Z_iconst (v := -1) hC (dk d_X4_put 3 rfl) 8 rfl (by decide) ?_
    obtain rfl := Option.some.inj h
    exact Z_ireturn (st := []) hC hr hQ (dk d_X4_put 4 rfl)
def t_X4_fault : List (Nat × Instr × Nat) := [(0, .iload_n 1, 1), (1, .invokestatic 110, 3), (4, .ifCond .ne 5, 3), (7, .iconst (-1), 1), (8, .ireturn, 1), (9, .aload_n 0, 1), (10, .getfield 19, 3), (13, .iload_n 1, 1), (14, .invokevirtual 114, 3), (17, .ifCond .eq 9, 3), (20, .aload_n 0, 1), (21, .iconst 1, 1), (22, .invokevirtual 74, 3), (25, .ireturn, 1), (26, .aload_n 0, 1), (27, .getfield 19, 3), (30, .iload_n 1, 1), (31, .invokevirtual 119, 3), (34, .ireturn, 1)]
set_option maxRecDepth 20000 in
theorem d_X4_fault : ∀ q ∈ t_X4_fault, decode cX4_fault q.1 = .ok q.2 := by decide +kernel
noncomputable def f_X4_fault (N : Nat) (a1 : Int32) (w : Wd) : Option (Int32 × Wd) :=
  (f_X4_isText N a1 w).bind (fun q1 =>
    if q1.1 = 0 then
      some ((-1 : Int32), q1.2)
    else
      (f_X3_isMissing N a1 q1.2).bind (fun q2 =>
        if q2.1 = 0 then
          (f_X3_firstFault N a1 q2.2).bind (fun q3 =>
            some (q3.1, q3.2))
        else
          (f_X4_refuse N (1 : Int32) q2.2).bind (fun q4 =>
            some (q4.1, q4.2))))
set_option maxRecDepth 20000 in
set_option maxHeartbeats 4000000 in
theorem s_X4_fault (G : GT) (l : Launch) (N : Nat) (a1 : Int32) (w : Wd) (q : Int32 × Wd) (h : f_X4_fault N a1 w = some q) : Sp G l yX4_fault cw_X4_fault 2 [vr 0 0, vi a1] w (some (vi q.1)) q.2 := by
  refine Sp_of (own := RX4) [some (vr 0 0), some (vi a1)] (by decide) rfl rfl (Nat.le_of_ble_eq_true rfl) ?_
  intro x hG hl hC hr hQ _ _
  subst hG
  subst hl
  unfold f_X4_fault at h
  refine Z_iload_n hC (dk d_X4_fault 0 rfl) 1 rfl rfl rfl ?_
  obtain ⟨q1, hq1, h⟩ := bd_some h
  refine K_X4_110 [vi a1] hC (s_X4_isText (xG x) (xl x) N a1 w q1 hq1) (Nat.le_of_ble_eq_true rfl) rfl rfl rfl (Nat.le_of_ble_eq_true rfl) (dk d_X4_fault 1 rfl) 4 rfl ?_
  refine Z_if_ne hC (dk d_X4_fault 2 rfl) 7 9 rfl (by decide) (fun c => ?_) (fun c => ?_)
  · have h := it_f h c
    refine Z_aload_n hC (dk d_X4_fault 5 rfl) 10 rfl rfl rfl ?_
    refine G_X4_19 hC m_0 (dk d_X4_fault 6 rfl) 13 rfl ?_
    refine Z_iload_n hC (dk d_X4_fault 7 rfl) 14 rfl rfl rfl ?_
    obtain ⟨q2, hq2, h⟩ := bd_some h
    refine K_X4_114 [vi a1] hC m_2 (s_X3_isMissing (xG x) (xl x) N a1 q1.2 q2 hq2) (Nat.le_of_ble_eq_true rfl) rfl rfl rfl (Nat.le_of_ble_eq_true rfl) (dk d_X4_fault 8 rfl) 17 rfl ?_
    refine Z_if_eq hC (dk d_X4_fault 9 rfl) 20 26 rfl (by decide) (fun c => ?_) (fun c => ?_)
    · have h := it_t h c
      refine Z_aload_n hC (dk d_X4_fault 14 rfl) 27 rfl rfl rfl ?_
      refine G_X4_19 hC m_0 (dk d_X4_fault 15 rfl) 30 rfl ?_
      refine Z_iload_n hC (dk d_X4_fault 16 rfl) 31 rfl rfl rfl ?_
      obtain ⟨q3, hq3, h⟩ := bd_some h
      refine K_X4_119 [vi a1] hC m_2 (s_X3_firstFault (xG x) (xl x) N a1 q2.2 q3 hq3) (Nat.le_of_ble_eq_true rfl) rfl rfl rfl (Nat.le_of_ble_eq_true rfl) (dk d_X4_fault 17 rfl) 34 rfl ?_
      obtain rfl := Option.some.inj h
      exact Z_ireturn (st := []) hC hr hQ (dk d_X4_fault 18 rfl)
    · have h := it_f h c
      refine Z_aload_n hC (dk d_X4_fault 10 rfl) 21 rfl rfl rfl ?_
      refine Z_iconst (v := 1) hC (dk d_X4_fault 11 rfl) 22 rfl (by decide) ?_
      obtain ⟨q4, hq4, h⟩ := bd_some h
      refine K_X4_74 [vi (1 : Int32)] hC m_0 (s_X4_refuse (xG x) (xl x) N (1 : Int32) q2.2 q4 hq4) (Nat.le_of_ble_eq_true rfl) rfl rfl rfl (Nat.le_of_ble_eq_true rfl) (dk d_X4_fault 12 rfl) 25 rfl ?_
      obtain rfl := Option.some.inj h
      exact Z_ireturn (st := []) hC hr hQ (dk d_X4_fault 13 rfl)
  · have h := it_t h c
    refine Z_iconst (v := -1) hC (dk d_X4_fault 3 rfl) 8 rfl (by decide) ?_
    obtain rfl := Option.some.inj h
    exact Z_ireturn (st := []) hC hr hQ (dk d_X4_fault 4 rfl)
def t_X4_office : List (Nat × Instr × Nat) := [(0, .iload_n 1, 1), (1, .invokestatic 110, 3), (4, .ifCond .ne 5, 3), (7, .iconst (-1), 1), (8, .ireturn, 1), (9, .aload_n 0, 1), (10, .getfield 19, 3), (13, .iload_n 1, 1), (14, .invokevirtual 114, 3), (17, .ifCond .eq 9, 3), (20, .aload_n 0, 1), (21, .iconst 1, 1), (22, .invokevirtual 74, 3), (25, .ireturn, 1), (26, .aload_n 0, 1), (27, .getfield 19, 3), (30, .iload_n 1, 1), (31, .invokevirtual 119, 3), (34, .bipush (-9), 2), (36, .if_icmp .eq 6, 3), (39, .bipush (-4), 2), (41, .ireturn, 1), (42, .aload_n 0, 1), (43, .getfield 26, 3), (46, .aload_n 0, 1), (47, .getfield 19, 3), (50, .getfield 116, 3), (53, .iload_n 1, 1), (54, .aaload, 1), (55, .aload_n 0, 1), (56, .getfield 19, 3), (59, .getfield 115, 3), (62, .iload_n 1, 1), (63, .iaload, 1), (64, .invokevirtual 122, 3), (67, .aload_n 0, 1), (68, .iconst 0, 1), (69, .putfield 126, 3), (72, .aload_n 0, 1), (73, .iconst 0, 1), (74, .putfield 129, 3), (77, .aload_n 0, 1), (78, .getfield 47, 3), (81, .iconst (-1), 1), (82, .invokestatic 56, 3), (85, .aload_n 0, 1), (86, .iconst 1, 1), (87, .putfield 66, 3), (90, .aload_n 0, 1), (91, .getfield 26, 3), (94, .getfield 132, 3), (97, .ireturn, 1)]
set_option maxRecDepth 20000 in
theorem d_X4_office : ∀ q ∈ t_X4_office, decode cX4_office q.1 = .ok q.2 := by decide +kernel
noncomputable def f_X4_office (N : Nat) (a1 : Int32) (w : Wd) : Option (Int32 × Wd) :=
  (f_X4_isText N a1 w).bind (fun q1 =>
    if q1.1 = 0 then
      some ((-1 : Int32), q1.2)
    else
      (f_X3_isMissing N a1 q1.2).bind (fun q2 =>
        if q2.1 = 0 then
          (f_X3_firstFault N a1 q2.2).bind (fun q3 =>
            if q3.1 = (-9 : Int32) then
              gd (vp_in a1 4) (
              gd (vp_in a1 4) (
              (f_X0_settle N 0 a1.toNatClampNeg (gA q3.2 15 0 a1.toNatClampNeg) q3.2).bind (fun q6 =>
                (f_J7_fill_53178 N 23 0 (-1 : Int32) (sI (sI q6 406 0 (0 : Int32)) 407 0 (0 : Int32))).bind (fun q7 =>
                  some (gI (sI q7 411 0 (1 : Int32)) 4 0, sI q7 411 0 (1 : Int32))))))
            else
              some ((-4 : Int32), q3.2))
        else
          (f_X4_refuse N (1 : Int32) q2.2).bind (fun q8 =>
            some (q8.1, q8.2))))
set_option maxRecDepth 20000 in
set_option maxHeartbeats 4000000 in
theorem s_X4_office (G : GT) (l : Launch) (N : Nat) (a1 : Int32) (w : Wd) (q : Int32 × Wd) (h : f_X4_office N a1 w = some q) : Sp G l yX4_office cw_X4_office 2 [vr 0 0, vi a1] w (some (vi q.1)) q.2 := by
  refine Sp_of (own := RX4) [some (vr 0 0), some (vi a1)] (by decide) rfl rfl (Nat.le_of_ble_eq_true rfl) ?_
  intro x hG hl hC hr hQ _ _
  subst hG
  subst hl
  unfold f_X4_office at h
  refine Z_iload_n hC (dk d_X4_office 0 rfl) 1 rfl rfl rfl ?_
  obtain ⟨q1, hq1, h⟩ := bd_some h
  refine K_X4_110 [vi a1] hC (s_X4_isText (xG x) (xl x) N a1 w q1 hq1) (Nat.le_of_ble_eq_true rfl) rfl rfl rfl (Nat.le_of_ble_eq_true rfl) (dk d_X4_office 1 rfl) 4 rfl ?_
  refine Z_if_ne hC (dk d_X4_office 2 rfl) 7 9 rfl (by decide) (fun c => ?_) (fun c => ?_)
  · have h := it_f h c
    refine Z_aload_n hC (dk d_X4_office 5 rfl) 10 rfl rfl rfl ?_
    refine G_X4_19 hC m_0 (dk d_X4_office 6 rfl) 13 rfl ?_
    refine Z_iload_n hC (dk d_X4_office 7 rfl) 14 rfl rfl rfl ?_
    obtain ⟨q2, hq2, h⟩ := bd_some h
    refine K_X4_114 [vi a1] hC m_2 (s_X3_isMissing (xG x) (xl x) N a1 q1.2 q2 hq2) (Nat.le_of_ble_eq_true rfl) rfl rfl rfl (Nat.le_of_ble_eq_true rfl) (dk d_X4_office 8 rfl) 17 rfl ?_
    refine Z_if_eq hC (dk d_X4_office 9 rfl) 20 26 rfl (by decide) (fun c => ?_) (fun c => ?_)
    · have h := it_t h c
      refine Z_aload_n hC (dk d_X4_office 14 rfl) 27 rfl rfl rfl ?_
      refine G_X4_19 hC m_0 (dk d_X4_office 15 rfl) 30 rfl ?_
      refine Z_iload_n hC (dk d_X4_office 16 rfl) 31 rfl rfl rfl ?_
      obtain ⟨q3, hq3, h⟩ := bd_some h
      refine K_X4_119 [vi a1] hC m_2 (s_X3_firstFault (xG x) (xl x) N a1 q2.2 q3 hq3) (Nat.le_of_ble_eq_true rfl) rfl rfl rfl (Nat.le_of_ble_eq_true rfl) (dk d_X4_office 17 rfl) 34 rfl ?_
      refine Z_bipush (v := -9) hC (dk d_X4_office 18 rfl) 36 rfl (by decide) ?_
      refine Z_icmp_eq hC (dk d_X4_office 19 rfl) 39 42 rfl (by decide) (fun c => ?_) (fun c => ?_)
      · have h := it_t h c
        refine Z_aload_n hC (dk d_X4_office 22 rfl) 43 rfl rfl rfl ?_
        refine G_X4_26 hC m_0 (dk d_X4_office 23 rfl) 46 rfl ?_
        refine Z_aload_n hC (dk d_X4_office 24 rfl) 47 rfl rfl rfl ?_
        refine G_X4_19 hC m_0 (dk d_X4_office 25 rfl) 50 rfl ?_
        refine G_X4_116 hC m_2 (dk d_X4_office 26 rfl) 53 rfl ?_
        refine Z_iload_n hC (dk d_X4_office 27 rfl) 54 rfl rfl rfl ?_
        obtain ⟨g4, h⟩ := gd_some h
        refine Z_aaload hC m_13 (by decide) (by decide) g4 (dk d_X4_office 28 rfl) 55 rfl ?_
        refine Z_aload_n hC (dk d_X4_office 29 rfl) 56 rfl rfl rfl ?_
        refine G_X4_19 hC m_0 (dk d_X4_office 30 rfl) 59 rfl ?_
        refine G_X4_115 hC m_2 (dk d_X4_office 31 rfl) 62 rfl ?_
        refine Z_iload_n hC (dk d_X4_office 32 rfl) 63 rfl rfl rfl ?_
        obtain ⟨g5, h⟩ := gd_some h
        refine Z_iaload hC m_15 (by decide) rfl g5 (dk d_X4_office 33 rfl) 64 rfl ?_
        obtain ⟨q6, hq6, h⟩ := bd_some h
        refine K_X4_122 [vr 14 a1.toNatClampNeg, vi (gA q3.2 15 0 a1.toNatClampNeg)] hC (m_3 (by decide)) (s_X0_settle (xG x) (xl x) N 0 a1.toNatClampNeg (by decide) (vp_lt g4) (gA q3.2 15 0 a1.toNatClampNeg) q3.2 q6 hq6) (Nat.le_of_ble_eq_true rfl) rfl rfl rfl (Nat.le_of_ble_eq_true rfl) (dk d_X4_office 34 rfl) 67 rfl ?_
        refine Z_aload_n hC (dk d_X4_office 35 rfl) 68 rfl rfl rfl ?_
        refine Z_iconst (v := 0) hC (dk d_X4_office 36 rfl) 69 rfl (by decide) ?_
        refine P_X4_126 hC m_0 (dk d_X4_office 37 rfl) 72 rfl ?_
        refine Z_aload_n hC (dk d_X4_office 38 rfl) 73 rfl rfl rfl ?_
        refine Z_iconst (v := 0) hC (dk d_X4_office 39 rfl) 74 rfl (by decide) ?_
        refine P_X4_129 hC m_0 (dk d_X4_office 40 rfl) 77 rfl ?_
        refine Z_aload_n hC (dk d_X4_office 41 rfl) 78 rfl rfl rfl ?_
        refine G_X4_47 hC m_0 (dk d_X4_office 42 rfl) 81 rfl ?_
        refine Z_iconst (v := -1) hC (dk d_X4_office 43 rfl) 82 rfl (by decide) ?_
        obtain ⟨q7, hq7, h⟩ := bd_some h
        refine K_X4_56 [vr 23 0, vi (-1 : Int32)] hC (s_J7_fill_53178 (xG x) (xl x) N 23 0 m_23 (by decide) rfl (-1 : Int32) (sI (sI q6 406 0 (0 : Int32)) 407 0 (0 : Int32)) q7 hq7) (Nat.le_of_ble_eq_true rfl) rfl rfl rfl (Nat.le_of_ble_eq_true rfl) (dk d_X4_office 44 rfl) 85 rfl ?_
        refine Z_aload_n hC (dk d_X4_office 45 rfl) 86 rfl rfl rfl ?_
        refine Z_iconst (v := 1) hC (dk d_X4_office 46 rfl) 87 rfl (by decide) ?_
        refine P_X4_66 hC m_0 (by decide) (dk d_X4_office 47 rfl) 90 rfl ?_
        refine Z_aload_n hC (dk d_X4_office 48 rfl) 91 rfl rfl rfl ?_
        refine G_X4_26 hC m_0 (dk d_X4_office 49 rfl) 94 rfl ?_
        refine G_X4_132 hC (m_3 (by decide)) (dk d_X4_office 50 rfl) 97 rfl ?_
        obtain rfl := Option.some.inj h
        exact Z_ireturn (st := []) hC hr hQ (dk d_X4_office 51 rfl)
      · have h := it_f h c
        refine Z_bipush (v := -4) hC (dk d_X4_office 20 rfl) 41 rfl (by decide) ?_
        obtain rfl := Option.some.inj h
        exact Z_ireturn (st := []) hC hr hQ (dk d_X4_office 21 rfl)
    · have h := it_f h c
      refine Z_aload_n hC (dk d_X4_office 10 rfl) 21 rfl rfl rfl ?_
      refine Z_iconst (v := 1) hC (dk d_X4_office 11 rfl) 22 rfl (by decide) ?_
      obtain ⟨q8, hq8, h⟩ := bd_some h
      refine K_X4_74 [vi (1 : Int32)] hC m_0 (s_X4_refuse (xG x) (xl x) N (1 : Int32) q2.2 q8 hq8) (Nat.le_of_ble_eq_true rfl) rfl rfl rfl (Nat.le_of_ble_eq_true rfl) (dk d_X4_office 12 rfl) 25 rfl ?_
      obtain rfl := Option.some.inj h
      exact Z_ireturn (st := []) hC hr hQ (dk d_X4_office 13 rfl)
  · have h := it_t h c
    refine Z_iconst (v := -1) hC (dk d_X4_office 3 rfl) 8 rfl (by decide) ?_
    obtain rfl := Option.some.inj h
    exact Z_ireturn (st := []) hC hr hQ (dk d_X4_office 4 rfl)
def t_X4_isMate : List (Nat × Instr × Nat) := [(0, .iload_n 1, 1), (1, .ifCond .lt 18, 3), (4, .iload_n 1, 1), (5, .aload_n 0, 1), (6, .getfield 26, 3), (9, .getfield 132, 3), (12, .if_icmp .ge 7, 3), (15, .iconst 1, 1), (16, .goto 4, 3), (19, .iconst 0, 1), (20, .ireturn, 1)]
set_option maxRecDepth 20000 in
theorem d_X4_isMate : ∀ q ∈ t_X4_isMate, decode cX4_isMate q.1 = .ok q.2 := by decide +kernel
noncomputable def f_X4_isMate (N : Nat) (a1 : Int32) (w : Wd) : Option (Int32 × Wd) :=
  if a1 < 0 then
    some ((0 : Int32), w)
  else
    if (gI w 4 0) ≤ a1 then
      some ((0 : Int32), w)
    else
      some ((1 : Int32), w)
set_option maxRecDepth 20000 in
set_option maxHeartbeats 4000000 in
theorem s_X4_isMate (G : GT) (l : Launch) (N : Nat) (a1 : Int32) (w : Wd) (q : Int32 × Wd) (h : f_X4_isMate N a1 w = some q) : Sp G l yX4_isMate cw_X4_isMate 0 [vr 0 0, vi a1] w (some (vi q.1)) q.2 := by
  refine Sp_of (own := RX4) [some (vr 0 0), some (vi a1)] (by decide) rfl rfl (Nat.le_of_ble_eq_true rfl) ?_
  intro x hG hl hC hr hQ _ _
  subst hG
  subst hl
  unfold f_X4_isMate at h
  refine Z_iload_n hC (dk d_X4_isMate 0 rfl) 1 rfl rfl rfl ?_
  refine Z_if_lt hC (dk d_X4_isMate 1 rfl) 4 19 rfl (by decide) (fun c => ?_) (fun c => ?_)
  · have h := it_t h c
    refine Z_iconst (v := 0) hC (dk d_X4_isMate 9 rfl) 20 rfl (by decide) ?_
    obtain rfl := Option.some.inj h
    exact Z_zreturn (st := []) hC hr rfl hQ (dk d_X4_isMate 10 rfl)
  · have h := it_f h c
    refine Z_iload_n hC (dk d_X4_isMate 2 rfl) 5 rfl rfl rfl ?_
    refine Z_aload_n hC (dk d_X4_isMate 3 rfl) 6 rfl rfl rfl ?_
    refine G_X4_26 hC m_0 (dk d_X4_isMate 4 rfl) 9 rfl ?_
    refine G_X4_132 hC (m_3 (by decide)) (dk d_X4_isMate 5 rfl) 12 rfl ?_
    refine Z_icmp_ge hC (dk d_X4_isMate 6 rfl) 15 19 rfl (by decide) (fun c => ?_) (fun c => ?_)
    · have h := it_t h c
      refine Z_iconst (v := 0) hC (dk d_X4_isMate 9 rfl) 20 rfl (by decide) ?_
      obtain rfl := Option.some.inj h
      exact Z_zreturn (st := []) hC hr rfl hQ (dk d_X4_isMate 10 rfl)
    · have h := it_f h c
      refine Z_iconst (v := 1) hC (dk d_X4_isMate 7 rfl) 16 rfl (by decide) ?_
      refine Z_goto hC (dk d_X4_isMate 8 rfl) 20 (by decide) ?_
      obtain rfl := Option.some.inj h
      exact Z_zreturn (st := []) hC hr rfl hQ (dk d_X4_isMate 10 rfl)
def t_X4_mate : List (Nat × Instr × Nat) := [(0, .aload_n 0, 1), (1, .iload_n 1, 1), (2, .invokevirtual 135, 3), (5, .ifCond .eq 12, 3), (8, .iload_n 2, 1), (9, .ifCond .lt 8, 3), (12, .iload_n 2, 1), (13, .iconst 3, 1), (14, .if_icmp .le 5, 3), (17, .iconst (-1), 1), (18, .ireturn, 1), (19, .aload_n 0, 1), (20, .aload_n 0, 1), (21, .getfield 26, 3), (24, .iload_n 1, 1), (25, .iload_n 2, 1), (26, .invokevirtual 138, 3), (29, .putfield 90, 3), (32, .iconst 1, 1), (33, .ireturn, 1)]
set_option maxRecDepth 20000 in
theorem d_X4_mate : ∀ q ∈ t_X4_mate, decode cX4_mate q.1 = .ok q.2 := by decide +kernel
noncomputable def f_X4_mate (N : Nat) (a1 : Int32) (a2 : Int32) (w : Wd) : Option (Int32 × Wd) :=
  (f_X4_isMate N a1 w).bind (fun q1 =>
    if q1.1 = 0 then
      some ((-1 : Int32), q1.2)
    else
      if a2 < 0 then
        some ((-1 : Int32), q1.2)
      else
        if a2 ≤ (3 : Int32) then
          (f_X0_fact N 0 a1 a2 q1.2).bind (fun q2 =>
            some ((1 : Int32), sI q2.2 412 0 q2.1))
        else
          some ((-1 : Int32), q1.2))
set_option maxRecDepth 20000 in
set_option maxHeartbeats 4000000 in
theorem s_X4_mate (G : GT) (l : Launch) (N : Nat) (a1 : Int32) (a2 : Int32) (w : Wd) (q : Int32 × Wd) (h : f_X4_mate N a1 a2 w = some q) : Sp G l yX4_mate cw_X4_mate 3 [vr 0 0, vi a1, vi a2] w (some (vi q.1)) q.2 := by
  refine Sp_of (own := RX4) [some (vr 0 0), some (vi a1), some (vi a2)] (by decide) rfl rfl (Nat.le_of_ble_eq_true rfl) ?_
  intro x hG hl hC hr hQ _ _
  subst hG
  subst hl
  unfold f_X4_mate at h
  refine Z_aload_n hC (dk d_X4_mate 0 rfl) 1 rfl rfl rfl ?_
  refine Z_iload_n hC (dk d_X4_mate 1 rfl) 2 rfl rfl rfl ?_
  obtain ⟨q1, hq1, h⟩ := bd_some h
  refine K_X4_135 [vi a1] hC m_0 (s_X4_isMate (xG x) (xl x) N a1 w q1 hq1) (Nat.le_of_ble_eq_true rfl) rfl rfl rfl (Nat.le_of_ble_eq_true rfl) (dk d_X4_mate 2 rfl) 5 rfl ?_
  refine Z_if_eq hC (dk d_X4_mate 3 rfl) 8 17 rfl (by decide) (fun c => ?_) (fun c => ?_)
  · have h := it_t h c
    refine Z_iconst (v := -1) hC (dk d_X4_mate 9 rfl) 18 rfl (by decide) ?_
    obtain rfl := Option.some.inj h
    exact Z_ireturn (st := []) hC hr hQ (dk d_X4_mate 10 rfl)
  · have h := it_f h c
    refine Z_iload_n hC (dk d_X4_mate 4 rfl) 9 rfl rfl rfl ?_
    refine Z_if_lt hC (dk d_X4_mate 5 rfl) 12 17 rfl (by decide) (fun c => ?_) (fun c => ?_)
    · have h := it_t h c
      refine Z_iconst (v := -1) hC (dk d_X4_mate 9 rfl) 18 rfl (by decide) ?_
      obtain rfl := Option.some.inj h
      exact Z_ireturn (st := []) hC hr hQ (dk d_X4_mate 10 rfl)
    · have h := it_f h c
      refine Z_iload_n hC (dk d_X4_mate 6 rfl) 13 rfl rfl rfl ?_
      refine Z_iconst (v := 3) hC (dk d_X4_mate 7 rfl) 14 rfl (by decide) ?_
      refine Z_icmp_le hC (dk d_X4_mate 8 rfl) 17 19 rfl (by decide) (fun c => ?_) (fun c => ?_)
      · have h := it_t h c
        refine Z_aload_n hC (dk d_X4_mate 11 rfl) 20 rfl rfl rfl ?_
        refine Z_aload_n hC (dk d_X4_mate 12 rfl) 21 rfl rfl rfl ?_
        refine G_X4_26 hC m_0 (dk d_X4_mate 13 rfl) 24 rfl ?_
        refine Z_iload_n hC (dk d_X4_mate 14 rfl) 25 rfl rfl rfl ?_
        refine Z_iload_n hC (dk d_X4_mate 15 rfl) 26 rfl rfl rfl ?_
        obtain ⟨q2, hq2, h⟩ := bd_some h
        refine K_X4_138 [vi a1, vi a2] hC (m_3 (by decide)) (s_X0_fact (xG x) (xl x) N 0 (by decide) a1 a2 q1.2 q2 hq2) (Nat.le_of_ble_eq_true rfl) rfl rfl rfl (Nat.le_of_ble_eq_true rfl) (dk d_X4_mate 16 rfl) 29 rfl ?_
        refine P_X4_90 hC m_0 (dk d_X4_mate 17 rfl) 32 rfl ?_
        refine Z_iconst (v := 1) hC (dk d_X4_mate 18 rfl) 33 rfl (by decide) ?_
        obtain rfl := Option.some.inj h
        exact Z_ireturn (st := []) hC hr hQ (dk d_X4_mate 19 rfl)
      · have h := it_f h c
        refine Z_iconst (v := -1) hC (dk d_X4_mate 9 rfl) 18 rfl (by decide) ?_
        obtain rfl := Option.some.inj h
        exact Z_ireturn (st := []) hC hr hQ (dk d_X4_mate 10 rfl)
def t_X4_mark : List (Nat × Instr × Nat) := [(0, .aload_n 0, 1), (1, .iload_n 1, 1), (2, .invokevirtual 135, 3), (5, .ifCond .eq 12, 3), (8, .iload_n 2, 1), (9, .ifCond .le 8, 3), (12, .iload_n 2, 1), (13, .iconst 5, 1), (14, .if_icmp .le 5, 3), (17, .iconst (-1), 1), (18, .ireturn, 1), (19, .aload_n 0, 1), (20, .getfield 26, 3), (23, .getfield 141, 3), (26, .iload_n 1, 1), (27, .iaload, 1), (28, .iload_n 2, 1), (29, .invokestatic 144, 3), (32, .ifCond .ne 9, 3), (35, .aload_n 0, 1), (36, .iconst 3, 1), (37, .invokevirtual 74, 3), (40, .ireturn, 1), (41, .iload_n 2, 1), (42, .tableswitch 69 1 4 #[30, 39, 48, 57], 30), (72, .aload_n 0, 1), (73, .getfield 26, 3), (76, .iload_n 1, 1), (77, .invokevirtual 148, 3), (80, .ireturn, 1), (81, .aload_n 0, 1), (82, .getfield 26, 3), (85, .iload_n 1, 1), (86, .invokevirtual 151, 3), (89, .ireturn, 1), (90, .aload_n 0, 1), (91, .getfield 26, 3), (94, .iload_n 1, 1), (95, .invokevirtual 154, 3), (98, .ireturn, 1), (99, .aload_n 0, 1), (100, .getfield 26, 3), (103, .iload_n 1, 1), (104, .invokevirtual 157, 3), (107, .invokestatic 160, 3), (110, .ireturn, 1), (111, .aload_n 0, 1), (112, .getfield 26, 3), (115, .iload_n 1, 1), (116, .invokevirtual 165, 3), (119, .ireturn, 1)]
set_option maxRecDepth 20000 in
theorem d_X4_mark : ∀ q ∈ t_X4_mark, decode cX4_mark q.1 = .ok q.2 := by decide +kernel
noncomputable def f_X4_mark (N : Nat) (a1 : Int32) (a2 : Int32) (w : Wd) : Option (Int32 × Wd) :=
  (f_X4_isMate N a1 w).bind (fun q1 =>
    if q1.1 = 0 then
      some ((-1 : Int32), q1.2)
    else
      if a2 ≤ 0 then
        some ((-1 : Int32), q1.2)
      else
        if a2 ≤ (5 : Int32) then
          gd (vp_in a1 6) (
          (f_X4_isOf N (gA q1.2 16 0 a1.toNatClampNeg) a2 q1.2).bind (fun q3 =>
            if q3.1 = 0 then
              (f_X4_refuse N (3 : Int32) q3.2).bind (fun q10 =>
                some (q10.1, q10.2))
            else
              if a2 = (1 : Int32) then
                (f_X0_othersAtTable N 0 a1 q3.2).bind (fun q4 =>
                  some (q4.1, q4.2))
              else
              if a2 = (2 : Int32) then
                (f_X0_yearsPaired N 0 a1 q3.2).bind (fun q5 =>
                  some (q5.1, q5.2))
              else
              if a2 = (3 : Int32) then
                (f_X0_worthier N 0 a1 q3.2).bind (fun q6 =>
                  some (q6.1, q6.2))
              else
              if a2 = (4 : Int32) then
                (f_X0_open N 0 a1 q3.2).bind (fun q7 =>
                  (f_J6_bitCount_0f7a4 N q7.1 q7.2).bind (fun q8 =>
                    some (q8.1, q8.2)))
              else
                (f_X0_othersBarredFrom N 0 a1 q3.2).bind (fun q9 =>
                  some (q9.1, q9.2))))
        else
          some ((-1 : Int32), q1.2))
set_option maxRecDepth 20000 in
set_option maxHeartbeats 4000000 in
theorem s_X4_mark (G : GT) (l : Launch) (N : Nat) (a1 : Int32) (a2 : Int32) (w : Wd) (q : Int32 × Wd) (h : f_X4_mark N a1 a2 w = some q) : Sp G l yX4_mark cw_X4_mark 4 [vr 0 0, vi a1, vi a2] w (some (vi q.1)) q.2 := by
  refine Sp_of (own := RX4) [some (vr 0 0), some (vi a1), some (vi a2)] (by decide) rfl rfl (Nat.le_of_ble_eq_true rfl) ?_
  intro x hG hl hC hr hQ _ _
  subst hG
  subst hl
  unfold f_X4_mark at h
  refine Z_aload_n hC (dk d_X4_mark 0 rfl) 1 rfl rfl rfl ?_
  refine Z_iload_n hC (dk d_X4_mark 1 rfl) 2 rfl rfl rfl ?_
  obtain ⟨q1, hq1, h⟩ := bd_some h
  refine K_X4_135 [vi a1] hC m_0 (s_X4_isMate (xG x) (xl x) N a1 w q1 hq1) (Nat.le_of_ble_eq_true rfl) rfl rfl rfl (Nat.le_of_ble_eq_true rfl) (dk d_X4_mark 2 rfl) 5 rfl ?_
  refine Z_if_eq hC (dk d_X4_mark 3 rfl) 8 17 rfl (by decide) (fun c => ?_) (fun c => ?_)
  · have h := it_t h c
    refine Z_iconst (v := -1) hC (dk d_X4_mark 9 rfl) 18 rfl (by decide) ?_
    obtain rfl := Option.some.inj h
    exact Z_ireturn (st := []) hC hr hQ (dk d_X4_mark 10 rfl)
  · have h := it_f h c
    refine Z_iload_n hC (dk d_X4_mark 4 rfl) 9 rfl rfl rfl ?_
    refine Z_if_le hC (dk d_X4_mark 5 rfl) 12 17 rfl (by decide) (fun c => ?_) (fun c => ?_)
    · have h := it_t h c
      refine Z_iconst (v := -1) hC (dk d_X4_mark 9 rfl) 18 rfl (by decide) ?_
      obtain rfl := Option.some.inj h
      exact Z_ireturn (st := []) hC hr hQ (dk d_X4_mark 10 rfl)
    · have h := it_f h c
      refine Z_iload_n hC (dk d_X4_mark 6 rfl) 13 rfl rfl rfl ?_
      refine Z_iconst (v := 5) hC (dk d_X4_mark 7 rfl) 14 rfl (by decide) ?_
      refine Z_icmp_le hC (dk d_X4_mark 8 rfl) 17 19 rfl (by decide) (fun c => ?_) (fun c => ?_)
      · have h := it_t h c
        refine Z_aload_n hC (dk d_X4_mark 11 rfl) 20 rfl rfl rfl ?_
        refine G_X4_26 hC m_0 (dk d_X4_mark 12 rfl) 23 rfl ?_
        refine G_X4_141 hC (m_3 (by decide)) (dk d_X4_mark 13 rfl) 26 rfl ?_
        refine Z_iload_n hC (dk d_X4_mark 14 rfl) 27 rfl rfl rfl ?_
        obtain ⟨g2, h⟩ := gd_some h
        refine Z_iaload hC (m_16 (by decide)) (by decide) rfl g2 (dk d_X4_mark 15 rfl) 28 rfl ?_
        refine Z_iload_n hC (dk d_X4_mark 16 rfl) 29 rfl rfl rfl ?_
        obtain ⟨q3, hq3, h⟩ := bd_some h
        refine K_X4_144 [vi (gA q1.2 16 0 a1.toNatClampNeg), vi a2] hC (s_X4_isOf (xG x) (xl x) N (gA q1.2 16 0 a1.toNatClampNeg) a2 q1.2 q3 hq3) (Nat.le_of_ble_eq_true rfl) rfl rfl rfl (Nat.le_of_ble_eq_true rfl) (dk d_X4_mark 17 rfl) 32 rfl ?_
        refine Z_if_ne hC (dk d_X4_mark 18 rfl) 35 41 rfl (by decide) (fun c => ?_) (fun c => ?_)
        · have h := it_f h c
          refine Z_iload_n hC (dk d_X4_mark 23 rfl) 42 rfl rfl rfl ?_
          by_cases c1 : a2 = (1 : Int32)
          · have h := it_t h c1
            refine Z_swIn hC (dk d_X4_mark 24 rfl) (m := 1) (by rw [c1]; rfl) (by decide) (by decide) rfl 72 (by decide) ?_
            refine Z_aload_n hC (dk d_X4_mark 25 rfl) 73 rfl rfl rfl ?_
            refine G_X4_26 hC m_0 (dk d_X4_mark 26 rfl) 76 rfl ?_
            refine Z_iload_n hC (dk d_X4_mark 27 rfl) 77 rfl rfl rfl ?_
            obtain ⟨q4, hq4, h⟩ := bd_some h
            refine K_X4_148 [vi a1] hC (m_3 (by decide)) (s_X0_othersAtTable (xG x) (xl x) N 0 (by decide) a1 q3.2 q4 hq4) (Nat.le_of_ble_eq_true rfl) rfl rfl rfl (Nat.le_of_ble_eq_true rfl) (dk d_X4_mark 28 rfl) 80 rfl ?_
            obtain rfl := Option.some.inj h
            exact Z_ireturn (st := []) hC hr hQ (dk d_X4_mark 29 rfl)
          have h := it_f h c1
          by_cases c2 : a2 = (2 : Int32)
          · have h := it_t h c2
            refine Z_swIn hC (dk d_X4_mark 24 rfl) (m := 2) (by rw [c2]; rfl) (by decide) (by decide) rfl 81 (by decide) ?_
            refine Z_aload_n hC (dk d_X4_mark 30 rfl) 82 rfl rfl rfl ?_
            refine G_X4_26 hC m_0 (dk d_X4_mark 31 rfl) 85 rfl ?_
            refine Z_iload_n hC (dk d_X4_mark 32 rfl) 86 rfl rfl rfl ?_
            obtain ⟨q5, hq5, h⟩ := bd_some h
            refine K_X4_151 [vi a1] hC (m_3 (by decide)) (s_X0_yearsPaired (xG x) (xl x) N 0 (by decide) a1 q3.2 q5 hq5) (Nat.le_of_ble_eq_true rfl) rfl rfl rfl (Nat.le_of_ble_eq_true rfl) (dk d_X4_mark 33 rfl) 89 rfl ?_
            obtain rfl := Option.some.inj h
            exact Z_ireturn (st := []) hC hr hQ (dk d_X4_mark 34 rfl)
          have h := it_f h c2
          by_cases c3 : a2 = (3 : Int32)
          · have h := it_t h c3
            refine Z_swIn hC (dk d_X4_mark 24 rfl) (m := 3) (by rw [c3]; rfl) (by decide) (by decide) rfl 90 (by decide) ?_
            refine Z_aload_n hC (dk d_X4_mark 35 rfl) 91 rfl rfl rfl ?_
            refine G_X4_26 hC m_0 (dk d_X4_mark 36 rfl) 94 rfl ?_
            refine Z_iload_n hC (dk d_X4_mark 37 rfl) 95 rfl rfl rfl ?_
            obtain ⟨q6, hq6, h⟩ := bd_some h
            refine K_X4_154 [vi a1] hC (m_3 (by decide)) (s_X0_worthier (xG x) (xl x) N 0 (by decide) a1 q3.2 q6 hq6) (Nat.le_of_ble_eq_true rfl) rfl rfl rfl (Nat.le_of_ble_eq_true rfl) (dk d_X4_mark 38 rfl) 98 rfl ?_
            obtain rfl := Option.some.inj h
            exact Z_ireturn (st := []) hC hr hQ (dk d_X4_mark 39 rfl)
          have h := it_f h c3
          by_cases c4 : a2 = (4 : Int32)
          · have h := it_t h c4
            refine Z_swIn hC (dk d_X4_mark 24 rfl) (m := 4) (by rw [c4]; rfl) (by decide) (by decide) rfl 99 (by decide) ?_
            refine Z_aload_n hC (dk d_X4_mark 40 rfl) 100 rfl rfl rfl ?_
            refine G_X4_26 hC m_0 (dk d_X4_mark 41 rfl) 103 rfl ?_
            refine Z_iload_n hC (dk d_X4_mark 42 rfl) 104 rfl rfl rfl ?_
            obtain ⟨q7, hq7, h⟩ := bd_some h
            refine K_X4_157 [vi a1] hC (m_3 (by decide)) (s_X0_open (xG x) (xl x) N 0 (by decide) a1 q3.2 q7 hq7) (Nat.le_of_ble_eq_true rfl) rfl rfl rfl (Nat.le_of_ble_eq_true rfl) (dk d_X4_mark 43 rfl) 107 rfl ?_
            obtain ⟨q8, hq8, h⟩ := bd_some h
            refine K_X4_160 [vi q7.1] hC (s_J6_bitCount_0f7a4 (xG x) (xl x) N q7.1 q7.2 q8 hq8) (Nat.le_of_ble_eq_true rfl) rfl rfl rfl (Nat.le_of_ble_eq_true rfl) (dk d_X4_mark 44 rfl) 110 rfl ?_
            obtain rfl := Option.some.inj h
            exact Z_ireturn (st := []) hC hr hQ (dk d_X4_mark 45 rfl)
          have h := it_f h c4
          refine Z_swOut hC (dk d_X4_mark 24 rfl) 111 (by decide) (by have e1 := ne_toInt (m := 1) rfl c1; have e2 := ne_toInt (m := 2) rfl c2; have e3 := ne_toInt (m := 3) rfl c3; have e4 := ne_toInt (m := 4) rfl c4; omega) ?_
          refine Z_aload_n hC (dk d_X4_mark 46 rfl) 112 rfl rfl rfl ?_
          refine G_X4_26 hC m_0 (dk d_X4_mark 47 rfl) 115 rfl ?_
          refine Z_iload_n hC (dk d_X4_mark 48 rfl) 116 rfl rfl rfl ?_
          obtain ⟨q9, hq9, h⟩ := bd_some h
          refine K_X4_165 [vi a1] hC (m_3 (by decide)) (s_X0_othersBarredFrom (xG x) (xl x) N 0 (by decide) a1 q3.2 q9 hq9) (Nat.le_of_ble_eq_true rfl) rfl rfl rfl (Nat.le_of_ble_eq_true rfl) (dk d_X4_mark 49 rfl) 119 rfl ?_
          obtain rfl := Option.some.inj h
          exact Z_ireturn (st := []) hC hr hQ (dk d_X4_mark 50 rfl)
        · have h := it_t h c
          refine Z_aload_n hC (dk d_X4_mark 19 rfl) 36 rfl rfl rfl ?_
          refine Z_iconst (v := 3) hC (dk d_X4_mark 20 rfl) 37 rfl (by decide) ?_
          obtain ⟨q10, hq10, h⟩ := bd_some h
          refine K_X4_74 [vi (3 : Int32)] hC m_0 (s_X4_refuse (xG x) (xl x) N (3 : Int32) q3.2 q10 hq10) (Nat.le_of_ble_eq_true rfl) rfl rfl rfl (Nat.le_of_ble_eq_true rfl) (dk d_X4_mark 21 rfl) 40 rfl ?_
          obtain rfl := Option.some.inj h
          exact Z_ireturn (st := []) hC hr hQ (dk d_X4_mark 22 rfl)
      · have h := it_f h c
        refine Z_iconst (v := -1) hC (dk d_X4_mark 9 rfl) 18 rfl (by decide) ?_
        obtain rfl := Option.some.inj h
        exact Z_ireturn (st := []) hC hr hQ (dk d_X4_mark 10 rfl)
def t_X4_rules : List (Nat × Instr × Nat) := [(0, .iload_n 1, 1), (1, .ifCond .lt 9, 3), (4, .iload_n 1, 1), (5, .bipush 15, 2), (7, .if_icmp .le 5, 3), (10, .iconst (-1), 1), (11, .ireturn, 1), (12, .aload_n 0, 1), (13, .getfield 26, 3), (16, .getfield 168, 3), (19, .istore_n 2, 1), (20, .aload_n 0, 1), (21, .getfield 26, 3), (24, .iload_n 1, 1), (25, .putfield 168, 3), (28, .aload_n 0, 1), (29, .iconst 1, 1), (30, .putfield 66, 3), (33, .iload_n 2, 1), (34, .ireturn, 1)]
set_option maxRecDepth 20000 in
theorem d_X4_rules : ∀ q ∈ t_X4_rules, decode cX4_rules q.1 = .ok q.2 := by decide +kernel
noncomputable def f_X4_rules (N : Nat) (a1 : Int32) (w : Wd) : Option (Int32 × Wd) :=
  if a1 < 0 then
    some ((-1 : Int32), w)
  else
    if a1 ≤ (15 : Int32) then
      some (gI w 6 0, sI (sI w 6 0 a1) 411 0 (1 : Int32))
    else
      some ((-1 : Int32), w)
set_option maxRecDepth 20000 in
set_option maxHeartbeats 4000000 in
theorem s_X4_rules (G : GT) (l : Launch) (N : Nat) (a1 : Int32) (w : Wd) (q : Int32 × Wd) (h : f_X4_rules N a1 w = some q) : Sp G l yX4_rules cw_X4_rules 0 [vr 0 0, vi a1] w (some (vi q.1)) q.2 := by
  refine Sp_of (own := RX4) [some (vr 0 0), some (vi a1), none] (by decide) rfl rfl (Nat.le_of_ble_eq_true rfl) ?_
  intro x hG hl hC hr hQ _ _
  subst hG
  subst hl
  unfold f_X4_rules at h
  refine Z_iload_n hC (dk d_X4_rules 0 rfl) 1 rfl rfl rfl ?_
  refine Z_if_lt hC (dk d_X4_rules 1 rfl) 4 10 rfl (by decide) (fun c => ?_) (fun c => ?_)
  · have h := it_t h c
    refine Z_iconst (v := -1) hC (dk d_X4_rules 5 rfl) 11 rfl (by decide) ?_
    obtain rfl := Option.some.inj h
    exact Z_ireturn (st := []) hC hr hQ (dk d_X4_rules 6 rfl)
  · have h := it_f h c
    refine Z_iload_n hC (dk d_X4_rules 2 rfl) 5 rfl rfl rfl ?_
    refine Z_bipush (v := 15) hC (dk d_X4_rules 3 rfl) 7 rfl (by decide) ?_
    refine Z_icmp_le hC (dk d_X4_rules 4 rfl) 10 12 rfl (by decide) (fun c => ?_) (fun c => ?_)
    · have h := it_t h c
      refine Z_aload_n hC (dk d_X4_rules 7 rfl) 13 rfl rfl rfl ?_
      refine G_X4_26 hC m_0 (dk d_X4_rules 8 rfl) 16 rfl ?_
      refine G_X4_168 hC (m_3 (by decide)) (dk d_X4_rules 9 rfl) 19 rfl ?_
      refine Z_istore_n hC (dk d_X4_rules 10 rfl) 20 rfl rfl (Nat.le_of_ble_eq_true rfl) [some (vr 0 0), some (vi a1), some (vi (gI w 6 0))] rfl ?_
      refine Z_aload_n hC (dk d_X4_rules 11 rfl) 21 rfl rfl rfl ?_
      refine G_X4_26 hC m_0 (dk d_X4_rules 12 rfl) 24 rfl ?_
      refine Z_iload_n hC (dk d_X4_rules 13 rfl) 25 rfl rfl rfl ?_
      refine P_X4_168 hC (m_3 (by decide)) (dk d_X4_rules 14 rfl) 28 rfl ?_
      refine Z_aload_n hC (dk d_X4_rules 15 rfl) 29 rfl rfl rfl ?_
      refine Z_iconst (v := 1) hC (dk d_X4_rules 16 rfl) 30 rfl (by decide) ?_
      refine P_X4_66 hC m_0 (by decide) (dk d_X4_rules 17 rfl) 33 rfl ?_
      refine Z_iload_n hC (dk d_X4_rules 18 rfl) 34 rfl rfl rfl ?_
      obtain rfl := Option.some.inj h
      exact Z_ireturn (st := []) hC hr hQ (dk d_X4_rules 19 rfl)
    · have h := it_f h c
      refine Z_iconst (v := -1) hC (dk d_X4_rules 5 rfl) 11 rfl (by decide) ?_
      obtain rfl := Option.some.inj h
      exact Z_ireturn (st := []) hC hr hQ (dk d_X4_rules 6 rfl)
def t_X4_move : List (Nat × Instr × Nat) := [(0, .aload_n 0, 1), (1, .iload_n 1, 1), (2, .invokevirtual 135, 3), (5, .ifCond .eq 13, 3), (8, .iload_n 2, 1), (9, .ifCond .lt 9, 3), (12, .iload_n 2, 1), (13, .bipush 9, 2), (15, .if_icmp .le 5, 3), (18, .iconst (-1), 1), (19, .ireturn, 1), (20, .aload_n 0, 1), (21, .getfield 26, 3), (24, .getfield 171, 3), (27, .iload_n 1, 1), (28, .iaload, 1), (29, .istore_n 3, 1), (30, .aload_n 0, 1), (31, .getfield 26, 3), (34, .getfield 171, 3), (37, .iload_n 1, 1), (38, .iload_n 2, 1), (39, .iastore, 1), (40, .aload_n 0, 1), (41, .iconst 1, 1), (42, .putfield 66, 3), (45, .iload_n 3, 1), (46, .ireturn, 1)]
set_option maxRecDepth 20000 in
theorem d_X4_move : ∀ q ∈ t_X4_move, decode cX4_move q.1 = .ok q.2 := by decide +kernel
noncomputable def f_X4_move (N : Nat) (a1 : Int32) (a2 : Int32) (w : Wd) : Option (Int32 × Wd) :=
  (f_X4_isMate N a1 w).bind (fun q1 =>
    if q1.1 = 0 then
      some ((-1 : Int32), q1.2)
    else
      if a2 < 0 then
        some ((-1 : Int32), q1.2)
      else
        if a2 ≤ (9 : Int32) then
          gd (vp_in a1 6) (
          gd (vp_in a1 6) (
          some (gA q1.2 17 0 a1.toNatClampNeg, sI (sA q1.2 17 0 (upd (gA q1.2 17 0) a1.toNatClampNeg a2)) 411 0 (1 : Int32))))
        else
          some ((-1 : Int32), q1.2))
set_option maxRecDepth 20000 in
set_option maxHeartbeats 4000000 in
theorem s_X4_move (G : GT) (l : Launch) (N : Nat) (a1 : Int32) (a2 : Int32) (w : Wd) (q : Int32 × Wd) (h : f_X4_move N a1 a2 w = some q) : Sp G l yX4_move cw_X4_move 1 [vr 0 0, vi a1, vi a2] w (some (vi q.1)) q.2 := by
  refine Sp_of (own := RX4) [some (vr 0 0), some (vi a1), some (vi a2), none] (by decide) rfl rfl (Nat.le_of_ble_eq_true rfl) ?_
  intro x hG hl hC hr hQ _ _
  subst hG
  subst hl
  unfold f_X4_move at h
  refine Z_aload_n hC (dk d_X4_move 0 rfl) 1 rfl rfl rfl ?_
  refine Z_iload_n hC (dk d_X4_move 1 rfl) 2 rfl rfl rfl ?_
  obtain ⟨q1, hq1, h⟩ := bd_some h
  refine K_X4_135 [vi a1] hC m_0 (s_X4_isMate (xG x) (xl x) N a1 w q1 hq1) (Nat.le_of_ble_eq_true rfl) rfl rfl rfl (Nat.le_of_ble_eq_true rfl) (dk d_X4_move 2 rfl) 5 rfl ?_
  refine Z_if_eq hC (dk d_X4_move 3 rfl) 8 18 rfl (by decide) (fun c => ?_) (fun c => ?_)
  · have h := it_t h c
    refine Z_iconst (v := -1) hC (dk d_X4_move 9 rfl) 19 rfl (by decide) ?_
    obtain rfl := Option.some.inj h
    exact Z_ireturn (st := []) hC hr hQ (dk d_X4_move 10 rfl)
  · have h := it_f h c
    refine Z_iload_n hC (dk d_X4_move 4 rfl) 9 rfl rfl rfl ?_
    refine Z_if_lt hC (dk d_X4_move 5 rfl) 12 18 rfl (by decide) (fun c => ?_) (fun c => ?_)
    · have h := it_t h c
      refine Z_iconst (v := -1) hC (dk d_X4_move 9 rfl) 19 rfl (by decide) ?_
      obtain rfl := Option.some.inj h
      exact Z_ireturn (st := []) hC hr hQ (dk d_X4_move 10 rfl)
    · have h := it_f h c
      refine Z_iload_n hC (dk d_X4_move 6 rfl) 13 rfl rfl rfl ?_
      refine Z_bipush (v := 9) hC (dk d_X4_move 7 rfl) 15 rfl (by decide) ?_
      refine Z_icmp_le hC (dk d_X4_move 8 rfl) 18 20 rfl (by decide) (fun c => ?_) (fun c => ?_)
      · have h := it_t h c
        refine Z_aload_n hC (dk d_X4_move 11 rfl) 21 rfl rfl rfl ?_
        refine G_X4_26 hC m_0 (dk d_X4_move 12 rfl) 24 rfl ?_
        refine G_X4_171 hC (m_3 (by decide)) (dk d_X4_move 13 rfl) 27 rfl ?_
        refine Z_iload_n hC (dk d_X4_move 14 rfl) 28 rfl rfl rfl ?_
        obtain ⟨g2, h⟩ := gd_some h
        refine Z_iaload hC (m_17 (by decide)) (by decide) rfl g2 (dk d_X4_move 15 rfl) 29 rfl ?_
        refine Z_istore_n hC (dk d_X4_move 16 rfl) 30 rfl rfl (Nat.le_of_ble_eq_true rfl) [some (vr 0 0), some (vi a1), some (vi a2), some (vi (gA q1.2 17 0 a1.toNatClampNeg))] rfl ?_
        refine Z_aload_n hC (dk d_X4_move 17 rfl) 31 rfl rfl rfl ?_
        refine G_X4_26 hC m_0 (dk d_X4_move 18 rfl) 34 rfl ?_
        refine G_X4_171 hC (m_3 (by decide)) (dk d_X4_move 19 rfl) 37 rfl ?_
        refine Z_iload_n hC (dk d_X4_move 20 rfl) 38 rfl rfl rfl ?_
        refine Z_iload_n hC (dk d_X4_move 21 rfl) 39 rfl rfl rfl ?_
        obtain ⟨g3, h⟩ := gd_some h
        refine Z_iastore hC (m_17 (by decide)) (by decide) rfl g3 (dk d_X4_move 22 rfl) 40 rfl ?_
        refine Z_aload_n hC (dk d_X4_move 23 rfl) 41 rfl rfl rfl ?_
        refine Z_iconst (v := 1) hC (dk d_X4_move 24 rfl) 42 rfl (by decide) ?_
        refine P_X4_66 hC m_0 (by decide) (dk d_X4_move 25 rfl) 45 rfl ?_
        refine Z_iload_n hC (dk d_X4_move 26 rfl) 46 rfl rfl rfl ?_
        obtain rfl := Option.some.inj h
        exact Z_ireturn (st := []) hC hr hQ (dk d_X4_move 27 rfl)
      · have h := it_f h c
        refine Z_iconst (v := -1) hC (dk d_X4_move 9 rfl) 19 rfl (by decide) ?_
        obtain rfl := Option.some.inj h
        exact Z_ireturn (st := []) hC hr hQ (dk d_X4_move 10 rfl)
def t_X4_may : List (Nat × Instr × Nat) := [(0, .aload_n 0, 1), (1, .iload_n 1, 1), (2, .invokevirtual 135, 3), (5, .ifCond .ne 5, 3), (8, .iconst (-1), 1), (9, .ireturn, 1), (10, .aload_n 0, 1), (11, .getfield 26, 3), (14, .iload_n 1, 1), (15, .invokevirtual 157, 3), (18, .ireturn, 1)]
set_option maxRecDepth 20000 in
theorem d_X4_may : ∀ q ∈ t_X4_may, decode cX4_may q.1 = .ok q.2 := by decide +kernel
noncomputable def f_X4_may (N : Nat) (a1 : Int32) (w : Wd) : Option (Int32 × Wd) :=
  (f_X4_isMate N a1 w).bind (fun q1 =>
    if q1.1 = 0 then
      some ((-1 : Int32), q1.2)
    else
      (f_X0_open N 0 a1 q1.2).bind (fun q2 =>
        some (q2.1, q2.2)))
set_option maxRecDepth 20000 in
set_option maxHeartbeats 4000000 in
theorem s_X4_may (G : GT) (l : Launch) (N : Nat) (a1 : Int32) (w : Wd) (q : Int32 × Wd) (h : f_X4_may N a1 w = some q) : Sp G l yX4_may cw_X4_may 4 [vr 0 0, vi a1] w (some (vi q.1)) q.2 := by
  refine Sp_of (own := RX4) [some (vr 0 0), some (vi a1)] (by decide) rfl rfl (Nat.le_of_ble_eq_true rfl) ?_
  intro x hG hl hC hr hQ _ _
  subst hG
  subst hl
  unfold f_X4_may at h
  refine Z_aload_n hC (dk d_X4_may 0 rfl) 1 rfl rfl rfl ?_
  refine Z_iload_n hC (dk d_X4_may 1 rfl) 2 rfl rfl rfl ?_
  obtain ⟨q1, hq1, h⟩ := bd_some h
  refine K_X4_135 [vi a1] hC m_0 (s_X4_isMate (xG x) (xl x) N a1 w q1 hq1) (Nat.le_of_ble_eq_true rfl) rfl rfl rfl (Nat.le_of_ble_eq_true rfl) (dk d_X4_may 2 rfl) 5 rfl ?_
  refine Z_if_ne hC (dk d_X4_may 3 rfl) 8 10 rfl (by decide) (fun c => ?_) (fun c => ?_)
  · have h := it_f h c
    refine Z_aload_n hC (dk d_X4_may 6 rfl) 11 rfl rfl rfl ?_
    refine G_X4_26 hC m_0 (dk d_X4_may 7 rfl) 14 rfl ?_
    refine Z_iload_n hC (dk d_X4_may 8 rfl) 15 rfl rfl rfl ?_
    obtain ⟨q2, hq2, h⟩ := bd_some h
    refine K_X4_157 [vi a1] hC (m_3 (by decide)) (s_X0_open (xG x) (xl x) N 0 (by decide) a1 q1.2 q2 hq2) (Nat.le_of_ble_eq_true rfl) rfl rfl rfl (Nat.le_of_ble_eq_true rfl) (dk d_X4_may 9 rfl) 18 rfl ?_
    obtain rfl := Option.some.inj h
    exact Z_ireturn (st := []) hC hr hQ (dk d_X4_may 10 rfl)
  · have h := it_t h c
    refine Z_iconst (v := -1) hC (dk d_X4_may 4 rfl) 9 rfl (by decide) ?_
    obtain rfl := Option.some.inj h
    exact Z_ireturn (st := []) hC hr hQ (dk d_X4_may 5 rfl)
def t_X4_drawingIn : List (Nat × Instr × Nat) := [(0, .aload_n 0, 1), (1, .getfield 10, 3), (4, .iload_n 1, 1), (5, .invokevirtual 94, 3), (8, .ifCond .eq 5, 3), (11, .iconst (-1), 1), (12, .ireturn, 1), (13, .aload_n 0, 1), (14, .getfield 10, 3), (17, .getfield 97, 3), (20, .iload_n 1, 1), (21, .iaload, 1), (22, .aload_n 0, 1), (23, .getfield 26, 3), (26, .getfield 132, 3), (29, .if_icmp .eq 6, 3), (32, .bipush (-5), 2), (34, .ireturn, 1), (35, .iconst 0, 1), (36, .istore_n 2, 1), (37, .iconst 0, 1), (38, .istore_n 3, 1), (39, .iconst 0, 1), (40, .istore 4, 2), (42, .iload 4, 2), (44, .aload_n 0, 1), (45, .getfield 26, 3), (48, .getfield 132, 3), (51, .if_icmp .ge 61, 3), (54, .aload_n 0, 1), (55, .getfield 10, 3), (58, .getfield 86, 3), (61, .iload_n 1, 1), (62, .aaload, 1), (63, .iload 4, 2), (65, .iaload, 1), (66, .istore 5, 2), (68, .aload_n 0, 1), (69, .iload 5, 2), (71, .invokevirtual 135, 3), (74, .ifCond .eq 12, 3), (77, .iload_n 3, 1), (78, .iload 5, 2), (80, .ishr, 1), (81, .iconst 1, 1), (82, .iand, 1), (83, .ifCond .eq 6, 3), (86, .bipush (-3), 2), (88, .ireturn, 1), (89, .iload_n 3, 1), (90, .iconst 1, 1), (91, .iload 5, 2), (93, .ishl, 1), (94, .ior, 1), (95, .istore_n 3, 1), (96, .iload_n 2, 1), (97, .iload 5, 2), (99, .iconst 3, 1), (100, .iload 4, 2), (102, .imul, 1), (103, .ishl, 1), (104, .ior, 1), (105, .istore_n 2, 1), (106, .iinc 4 1, 3), (109, .goto (-67), 3), (112, .iload_n 2, 1), (113, .ireturn, 1)]
set_option maxRecDepth 20000 in
theorem d_X4_drawingIn : ∀ q ∈ t_X4_drawingIn, decode cX4_drawingIn q.1 = .ok q.2 := by decide +kernel
noncomputable def X4_drawingIn_L1 (N : Nat) (x1 : Int32) : Nat → Int32 → Int32 → Int32 → Wd → Option ((Int32 × Wd) ⊕ (Int32 × Wd))
  | 0, _, _, _, _ => none
  | n + 1, x2, x3, x4, w =>
  if (gI w 4 0) ≤ x4 then
    some (.inr (x2, w))
  else
    gd (vp_in x1 6) (
    gd (vp_in x4 40) (
    (f_X4_isMate N (gA w 11 x1.toNatClampNeg x4.toNatClampNeg) w).bind (fun q5 =>
      if q5.1 = 0 then
        some (.inl ((-3 : Int32), q5.2))
      else
        if ((x3 >>> ((gA w 11 x1.toNatClampNeg x4.toNatClampNeg) &&& (31 : Int32))) &&& (1 : Int32)) = 0 then
          X4_drawingIn_L1 N x1 n (x2 ||| ((gA w 11 x1.toNatClampNeg x4.toNatClampNeg) <<< (((3 : Int32) * x4) &&& (31 : Int32)))) (x3 ||| ((1 : Int32) <<< ((gA w 11 x1.toNatClampNeg x4.toNatClampNeg) &&& (31 : Int32)))) (x4 + (1 : Int32)) q5.2
        else
          some (.inl ((-3 : Int32), q5.2)))))
set_option maxRecDepth 20000 in
set_option maxHeartbeats 4000000 in
theorem z_X4_drawingIn_L1 {x : CX} (hC : Cx x RX4 cX4_drawingIn 6 1) (hr : (xM x).sig.returnType = (some .int)) (N : Nat) (x1 : Int32) : ∀ (n : Nat) (x2 : Int32) (x3 : Int32) (x4 : Int32) (w : Wd) (q : ((Int32 × Wd) ⊕ (Int32 × Wd))), X4_drawingIn_L1 N x1 n x2 x3 x4 w = some q → (∀ r : Int32 × Wd, q = .inl r → Rt x (some (vi r.1)) r.2) → (∀ o : Int32 × Wd, q = .inr o → Z x 112 [none, none, some (vi o.1), none, none, none] [] o.2) → Z x 42 [some (vr 0 0), some (vi x1), some (vi x2), some (vi x3), some (vi x4), none] [] w := by
  intro n
  induction n with
  | zero =>
    intro x2 x3 x4 w q h
    cases h
  | succ n ih =>
    intro x2 x3 x4 w q h kr ke
    rw [X4_drawingIn_L1] at h
    refine Z_iload hC (dk d_X4_drawingIn 24 rfl) 44 rfl rfl ?_
    refine Z_aload_n hC (dk d_X4_drawingIn 25 rfl) 45 rfl rfl rfl ?_
    refine G_X4_26 hC m_0 (dk d_X4_drawingIn 26 rfl) 48 rfl ?_
    refine G_X4_132 hC (m_3 (by decide)) (dk d_X4_drawingIn 27 rfl) 51 rfl ?_
    refine Z_icmp_ge hC (dk d_X4_drawingIn 28 rfl) 54 112 rfl (by decide) (fun c => ?_) (fun c => ?_)
    · have h := it_t h c
      obtain rfl := Option.some.inj h
      refine Z_wk [false, false, true, false, false, false] [none, none, some (vi x2), none, none, none] rfl ?_
      exact ke _ rfl
    · have h := it_f h c
      refine Z_aload_n hC (dk d_X4_drawingIn 29 rfl) 55 rfl rfl rfl ?_
      refine G_X4_10 hC m_0 (dk d_X4_drawingIn 30 rfl) 58 rfl ?_
      refine G_X4_86 hC m_1 (dk d_X4_drawingIn 31 rfl) 61 rfl ?_
      refine Z_iload_n hC (dk d_X4_drawingIn 32 rfl) 62 rfl rfl rfl ?_
      obtain ⟨g3, h⟩ := gd_some h
      refine Z_aaload hC m_10 (by decide) (by decide) g3 (dk d_X4_drawingIn 33 rfl) 63 rfl ?_
      refine Z_iload hC (dk d_X4_drawingIn 34 rfl) 65 rfl rfl ?_
      obtain ⟨g4, h⟩ := gd_some h
      refine Z_iaload hC (m_11 (vp_lt g3)) (by decide) rfl g4 (dk d_X4_drawingIn 35 rfl) 66 rfl ?_
      refine Z_istore hC (dk d_X4_drawingIn 36 rfl) 68 rfl (Nat.le_of_ble_eq_true rfl) [some (vr 0 0), some (vi x1), some (vi x2), some (vi x3), some (vi x4), some (vi (gA w 11 x1.toNatClampNeg x4.toNatClampNeg))] rfl ?_
      refine Z_aload_n hC (dk d_X4_drawingIn 37 rfl) 69 rfl rfl rfl ?_
      refine Z_iload hC (dk d_X4_drawingIn 38 rfl) 71 rfl rfl ?_
      obtain ⟨q5, hq5, h⟩ := bd_some h
      refine K_X4_135 [vi (gA w 11 x1.toNatClampNeg x4.toNatClampNeg)] hC m_0 (s_X4_isMate (xG x) (xl x) N (gA w 11 x1.toNatClampNeg x4.toNatClampNeg) w q5 hq5) (Nat.le_of_ble_eq_true rfl) rfl rfl rfl (Nat.le_of_ble_eq_true rfl) (dk d_X4_drawingIn 39 rfl) 74 rfl ?_
      refine Z_if_eq hC (dk d_X4_drawingIn 40 rfl) 77 86 rfl (by decide) (fun c => ?_) (fun c => ?_)
      · have h := it_t h c
        refine Z_bipush (v := -3) hC (dk d_X4_drawingIn 47 rfl) 88 rfl (by decide) ?_
        obtain rfl := Option.some.inj h
        exact Z_ireturn (st := []) hC hr (kr _ rfl) (dk d_X4_drawingIn 48 rfl)
      · have h := it_f h c
        refine Z_iload_n hC (dk d_X4_drawingIn 41 rfl) 78 rfl rfl rfl ?_
        refine Z_iload hC (dk d_X4_drawingIn 42 rfl) 80 rfl rfl ?_
        refine Z_ishr hC (dk d_X4_drawingIn 43 rfl) 81 rfl ?_
        refine Z_iconst (v := 1) hC (dk d_X4_drawingIn 44 rfl) 82 rfl (by decide) ?_
        refine Z_iand hC (dk d_X4_drawingIn 45 rfl) 83 rfl ?_
        refine Z_if_eq hC (dk d_X4_drawingIn 46 rfl) 86 89 rfl (by decide) (fun c => ?_) (fun c => ?_)
        · have h := it_t h c
          refine Z_iload_n hC (dk d_X4_drawingIn 49 rfl) 90 rfl rfl rfl ?_
          refine Z_iconst (v := 1) hC (dk d_X4_drawingIn 50 rfl) 91 rfl (by decide) ?_
          refine Z_iload hC (dk d_X4_drawingIn 51 rfl) 93 rfl rfl ?_
          refine Z_ishl hC (dk d_X4_drawingIn 52 rfl) 94 rfl ?_
          refine Z_ior hC (dk d_X4_drawingIn 53 rfl) 95 rfl ?_
          refine Z_istore_n hC (dk d_X4_drawingIn 54 rfl) 96 rfl rfl (Nat.le_of_ble_eq_true rfl) [some (vr 0 0), some (vi x1), some (vi x2), some (vi (x3 ||| ((1 : Int32) <<< ((gA w 11 x1.toNatClampNeg x4.toNatClampNeg) &&& (31 : Int32))))), some (vi x4), some (vi (gA w 11 x1.toNatClampNeg x4.toNatClampNeg))] rfl ?_
          refine Z_iload_n hC (dk d_X4_drawingIn 55 rfl) 97 rfl rfl rfl ?_
          refine Z_iload hC (dk d_X4_drawingIn 56 rfl) 99 rfl rfl ?_
          refine Z_iconst (v := 3) hC (dk d_X4_drawingIn 57 rfl) 100 rfl (by decide) ?_
          refine Z_iload hC (dk d_X4_drawingIn 58 rfl) 102 rfl rfl ?_
          refine Z_imul hC (dk d_X4_drawingIn 59 rfl) 103 rfl ?_
          refine Z_ishl hC (dk d_X4_drawingIn 60 rfl) 104 rfl ?_
          refine Z_ior hC (dk d_X4_drawingIn 61 rfl) 105 rfl ?_
          refine Z_istore_n hC (dk d_X4_drawingIn 62 rfl) 106 rfl rfl (Nat.le_of_ble_eq_true rfl) [some (vr 0 0), some (vi x1), some (vi (x2 ||| ((gA w 11 x1.toNatClampNeg x4.toNatClampNeg) <<< (((3 : Int32) * x4) &&& (31 : Int32))))), some (vi (x3 ||| ((1 : Int32) <<< ((gA w 11 x1.toNatClampNeg x4.toNatClampNeg) &&& (31 : Int32))))), some (vi x4), some (vi (gA w 11 x1.toNatClampNeg x4.toNatClampNeg))] rfl ?_
          refine Z_iinc hC (dk d_X4_drawingIn 63 rfl) 109 rfl rfl rfl [some (vr 0 0), some (vi x1), some (vi (x2 ||| ((gA w 11 x1.toNatClampNeg x4.toNatClampNeg) <<< (((3 : Int32) * x4) &&& (31 : Int32))))), some (vi (x3 ||| ((1 : Int32) <<< ((gA w 11 x1.toNatClampNeg x4.toNatClampNeg) &&& (31 : Int32))))), some (vi (x4 + (1 : Int32))), some (vi (gA w 11 x1.toNatClampNeg x4.toNatClampNeg))] rfl ?_
          refine Z_goto hC (dk d_X4_drawingIn 64 rfl) 42 (by decide) ?_
          refine Z_wk [true, true, true, true, true, false] [some (vr 0 0), some (vi x1), some (vi (x2 ||| ((gA w 11 x1.toNatClampNeg x4.toNatClampNeg) <<< (((3 : Int32) * x4) &&& (31 : Int32))))), some (vi (x3 ||| ((1 : Int32) <<< ((gA w 11 x1.toNatClampNeg x4.toNatClampNeg) &&& (31 : Int32))))), some (vi (x4 + (1 : Int32))), none] rfl ?_
          exact ih (x2 ||| ((gA w 11 x1.toNatClampNeg x4.toNatClampNeg) <<< (((3 : Int32) * x4) &&& (31 : Int32)))) (x3 ||| ((1 : Int32) <<< ((gA w 11 x1.toNatClampNeg x4.toNatClampNeg) &&& (31 : Int32)))) (x4 + (1 : Int32)) q5.2 _ h kr ke
        · have h := it_f h c
          refine Z_bipush (v := -3) hC (dk d_X4_drawingIn 47 rfl) 88 rfl (by decide) ?_
          obtain rfl := Option.some.inj h
          exact Z_ireturn (st := []) hC hr (kr _ rfl) (dk d_X4_drawingIn 48 rfl)
noncomputable def f_X4_drawingIn (N : Nat) (a1 : Int32) (w : Wd) : Option (Int32 × Wd) :=
  (f_X1_isMissing N a1 w).bind (fun q1 =>
    if q1.1 = 0 then
      gd (vp_in a1 6) (
      if (gA q1.2 12 0 a1.toNatClampNeg) = (gI q1.2 4 0) then
        (X4_drawingIn_L1 N a1 N (0 : Int32) (0 : Int32) (0 : Int32) q1.2).bind (Sum.elim some (fun q6 =>
          some (q6.1, q6.2)))
      else
        some ((-5 : Int32), q1.2))
    else
      some ((-1 : Int32), q1.2))
set_option maxRecDepth 20000 in
set_option maxHeartbeats 4000000 in
theorem s_X4_drawingIn (G : GT) (l : Launch) (N : Nat) (a1 : Int32) (w : Wd) (q : Int32 × Wd) (h : f_X4_drawingIn N a1 w = some q) : Sp G l yX4_drawingIn cw_X4_drawingIn 1 [vr 0 0, vi a1] w (some (vi q.1)) q.2 := by
  refine Sp_of (own := RX4) [some (vr 0 0), some (vi a1), none, none, none, none] (by decide) rfl rfl (Nat.le_of_ble_eq_true rfl) ?_
  intro x hG hl hC hr hQ _ _
  subst hG
  subst hl
  unfold f_X4_drawingIn at h
  refine Z_aload_n hC (dk d_X4_drawingIn 0 rfl) 1 rfl rfl rfl ?_
  refine G_X4_10 hC m_0 (dk d_X4_drawingIn 1 rfl) 4 rfl ?_
  refine Z_iload_n hC (dk d_X4_drawingIn 2 rfl) 5 rfl rfl rfl ?_
  obtain ⟨q1, hq1, h⟩ := bd_some h
  refine K_X4_94 [vi a1] hC m_1 (s_X1_isMissing (xG x) (xl x) N a1 w q1 hq1) (Nat.le_of_ble_eq_true rfl) rfl rfl rfl (Nat.le_of_ble_eq_true rfl) (dk d_X4_drawingIn 3 rfl) 8 rfl ?_
  refine Z_if_eq hC (dk d_X4_drawingIn 4 rfl) 11 13 rfl (by decide) (fun c => ?_) (fun c => ?_)
  · have h := it_t h c
    refine Z_aload_n hC (dk d_X4_drawingIn 7 rfl) 14 rfl rfl rfl ?_
    refine G_X4_10 hC m_0 (dk d_X4_drawingIn 8 rfl) 17 rfl ?_
    refine G_X4_97 hC m_1 (dk d_X4_drawingIn 9 rfl) 20 rfl ?_
    refine Z_iload_n hC (dk d_X4_drawingIn 10 rfl) 21 rfl rfl rfl ?_
    obtain ⟨g2, h⟩ := gd_some h
    refine Z_iaload hC m_12 (by decide) rfl g2 (dk d_X4_drawingIn 11 rfl) 22 rfl ?_
    refine Z_aload_n hC (dk d_X4_drawingIn 12 rfl) 23 rfl rfl rfl ?_
    refine G_X4_26 hC m_0 (dk d_X4_drawingIn 13 rfl) 26 rfl ?_
    refine G_X4_132 hC (m_3 (by decide)) (dk d_X4_drawingIn 14 rfl) 29 rfl ?_
    refine Z_icmp_eq hC (dk d_X4_drawingIn 15 rfl) 32 35 rfl (by decide) (fun c => ?_) (fun c => ?_)
    · have h := it_t h c
      refine Z_iconst (v := 0) hC (dk d_X4_drawingIn 18 rfl) 36 rfl (by decide) ?_
      refine Z_istore_n hC (dk d_X4_drawingIn 19 rfl) 37 rfl rfl (Nat.le_of_ble_eq_true rfl) [some (vr 0 0), some (vi a1), some (vi (0 : Int32)), none, none, none] rfl ?_
      refine Z_iconst (v := 0) hC (dk d_X4_drawingIn 20 rfl) 38 rfl (by decide) ?_
      refine Z_istore_n hC (dk d_X4_drawingIn 21 rfl) 39 rfl rfl (Nat.le_of_ble_eq_true rfl) [some (vr 0 0), some (vi a1), some (vi (0 : Int32)), some (vi (0 : Int32)), none, none] rfl ?_
      refine Z_iconst (v := 0) hC (dk d_X4_drawingIn 22 rfl) 40 rfl (by decide) ?_
      refine Z_istore hC (dk d_X4_drawingIn 23 rfl) 42 rfl (Nat.le_of_ble_eq_true rfl) [some (vr 0 0), some (vi a1), some (vi (0 : Int32)), some (vi (0 : Int32)), some (vi (0 : Int32)), none] rfl ?_
      obtain ⟨q6, hq6, h⟩ := bd_some h
      refine Z_wk [true, true, true, true, true, false] [some (vr 0 0), some (vi a1), some (vi (0 : Int32)), some (vi (0 : Int32)), some (vi (0 : Int32)), none] rfl ?_
      refine z_X4_drawingIn_L1 hC hr N a1 N (0 : Int32) (0 : Int32) (0 : Int32) q1.2 q6 hq6 (fun r e => ?_) (fun o e => ?_)
      · subst e
        obtain rfl := Option.some.inj h
        exact hQ
      · subst e
        obtain ⟨q6, rfl⟩ : ∃ z, z = o := ⟨_, rfl⟩
        refine Z_iload_n hC (dk d_X4_drawingIn 65 rfl) 113 rfl rfl rfl ?_
        obtain rfl := Option.some.inj h
        exact Z_ireturn (st := []) hC hr hQ (dk d_X4_drawingIn 66 rfl)
    · have h := it_f h c
      refine Z_bipush (v := -5) hC (dk d_X4_drawingIn 16 rfl) 34 rfl (by decide) ?_
      obtain rfl := Option.some.inj h
      exact Z_ireturn (st := []) hC hr hQ (dk d_X4_drawingIn 17 rfl)
  · have h := it_f h c
    refine Z_iconst (v := -1) hC (dk d_X4_drawingIn 5 rfl) 12 rfl (by decide) ?_
    obtain rfl := Option.some.inj h
    exact Z_ireturn (st := []) hC hr hQ (dk d_X4_drawingIn 6 rfl)
def t_X4_judge : List (Nat × Instr × Nat) := [(0, .iload_n 1, 1), (1, .invokestatic 70, 3), (4, .ifCond .ne 5, 3), (7, .iconst (-1), 1), (8, .ireturn, 1), (9, .aload_n 0, 1), (10, .iload_n 1, 1), (11, .invokevirtual 174, 3), (14, .istore_n 2, 1), (15, .iload_n 2, 1), (16, .ifCond .ge 10, 3), (19, .aload_n 0, 1), (20, .iload_n 2, 1), (21, .ineg, 1), (22, .invokevirtual 74, 3), (25, .ireturn, 1), (26, .iconst 0, 1), (27, .istore_n 3, 1), (28, .iload_n 3, 1), (29, .aload_n 0, 1), (30, .getfield 26, 3), (33, .getfield 132, 3), (36, .if_icmp .ge 33, 3), (39, .aload_n 0, 1), (40, .getfield 26, 3), (43, .iload_n 3, 1), (44, .iload_n 2, 1), (45, .invokevirtual 177, 3), (48, .istore 4, 2), (50, .iload 4, 2), (52, .ifCond .eq 11, 3), (55, .aload_n 0, 1), (56, .iload 4, 2), (58, .putfield 90, 3), (61, .iload_n 3, 1), (62, .ireturn, 1), (63, .iinc 3 1, 3), (66, .goto (-38), 3), (69, .aload_n 0, 1), (70, .getfield 26, 3), (73, .iload_n 2, 1), (74, .invokevirtual 180, 3), (77, .ifCond .eq 11, 3), (80, .aload_n 0, 1), (81, .bipush 6, 2), (83, .putfield 90, 3), (86, .iconst 0, 1), (87, .ireturn, 1), (88, .aload_n 0, 1), (89, .iconst 0, 1), (90, .putfield 90, 3), (93, .aload_n 0, 1), (94, .getfield 26, 3), (97, .getfield 132, 3), (100, .ireturn, 1)]
set_option maxRecDepth 20000 in
theorem d_X4_judge : ∀ q ∈ t_X4_judge, decode cX4_judge q.1 = .ok q.2 := by decide +kernel
noncomputable def X4_judge_L1 (N : Nat) (x2 : Int32) : Nat → Int32 → Wd → Option ((Int32 × Wd) ⊕ (Wd))
  | 0, _, _ => none
  | n + 1, x3, w =>
  if (gI w 4 0) ≤ x3 then
    some (.inr w)
  else
    (f_X0_against N 0 x3 x2 w).bind (fun q3 =>
      if q3.1 = 0 then
        X4_judge_L1 N x2 n (x3 + (1 : Int32)) q3.2
      else
        some (.inl (x3, sI q3.2 412 0 q3.1)))
set_option maxRecDepth 20000 in
set_option maxHeartbeats 4000000 in
theorem z_X4_judge_L1 {x : CX} (hC : Cx x RX4 cX4_judge 5 4) (hr : (xM x).sig.returnType = (some .int)) (N : Nat) (x2 : Int32) : ∀ (n : Nat) (x3 : Int32) (w : Wd) (q : ((Int32 × Wd) ⊕ (Wd))), X4_judge_L1 N x2 n x3 w = some q → (∀ r : Int32 × Wd, q = .inl r → Rt x (some (vi r.1)) r.2) → (∀ o : Wd, q = .inr o → Z x 69 [some (vr 0 0), none, some (vi x2), none, none] [] o) → Z x 28 [some (vr 0 0), none, some (vi x2), some (vi x3), none] [] w := by
  intro n
  induction n with
  | zero =>
    intro x3 w q h
    cases h
  | succ n ih =>
    intro x3 w q h kr ke
    rw [X4_judge_L1] at h
    refine Z_iload_n hC (dk d_X4_judge 18 rfl) 29 rfl rfl rfl ?_
    refine Z_aload_n hC (dk d_X4_judge 19 rfl) 30 rfl rfl rfl ?_
    refine G_X4_26 hC m_0 (dk d_X4_judge 20 rfl) 33 rfl ?_
    refine G_X4_132 hC (m_3 (by decide)) (dk d_X4_judge 21 rfl) 36 rfl ?_
    refine Z_icmp_ge hC (dk d_X4_judge 22 rfl) 39 69 rfl (by decide) (fun c => ?_) (fun c => ?_)
    · have h := it_t h c
      obtain rfl := Option.some.inj h
      refine Z_wk [true, false, true, false, false] [some (vr 0 0), none, some (vi x2), none, none] rfl ?_
      exact ke _ rfl
    · have h := it_f h c
      refine Z_aload_n hC (dk d_X4_judge 23 rfl) 40 rfl rfl rfl ?_
      refine G_X4_26 hC m_0 (dk d_X4_judge 24 rfl) 43 rfl ?_
      refine Z_iload_n hC (dk d_X4_judge 25 rfl) 44 rfl rfl rfl ?_
      refine Z_iload_n hC (dk d_X4_judge 26 rfl) 45 rfl rfl rfl ?_
      obtain ⟨q3, hq3, h⟩ := bd_some h
      refine K_X4_177 [vi x3, vi x2] hC (m_3 (by decide)) (s_X0_against (xG x) (xl x) N 0 (by decide) x3 x2 w q3 hq3) (Nat.le_of_ble_eq_true rfl) rfl rfl rfl (Nat.le_of_ble_eq_true rfl) (dk d_X4_judge 27 rfl) 48 rfl ?_
      refine Z_istore hC (dk d_X4_judge 28 rfl) 50 rfl (Nat.le_of_ble_eq_true rfl) [some (vr 0 0), none, some (vi x2), some (vi x3), some (vi q3.1)] rfl ?_
      refine Z_iload hC (dk d_X4_judge 29 rfl) 52 rfl rfl ?_
      refine Z_if_eq hC (dk d_X4_judge 30 rfl) 55 63 rfl (by decide) (fun c => ?_) (fun c => ?_)
      · have h := it_t h c
        refine Z_iinc hC (dk d_X4_judge 36 rfl) 66 rfl rfl rfl [some (vr 0 0), none, some (vi x2), some (vi (x3 + (1 : Int32))), some (vi q3.1)] rfl ?_
        refine Z_goto hC (dk d_X4_judge 37 rfl) 28 (by decide) ?_
        refine Z_wk [true, false, true, true, false] [some (vr 0 0), none, some (vi x2), some (vi (x3 + (1 : Int32))), none] rfl ?_
        exact ih (x3 + (1 : Int32)) q3.2 _ h kr ke
      · have h := it_f h c
        refine Z_aload_n hC (dk d_X4_judge 31 rfl) 56 rfl rfl rfl ?_
        refine Z_iload hC (dk d_X4_judge 32 rfl) 58 rfl rfl ?_
        refine P_X4_90 hC m_0 (dk d_X4_judge 33 rfl) 61 rfl ?_
        refine Z_iload_n hC (dk d_X4_judge 34 rfl) 62 rfl rfl rfl ?_
        obtain rfl := Option.some.inj h
        exact Z_ireturn (st := []) hC hr (kr _ rfl) (dk d_X4_judge 35 rfl)
noncomputable def f_X4_judge (N : Nat) (a1 : Int32) (w : Wd) : Option (Int32 × Wd) :=
  (f_X4_isRow N a1 w).bind (fun q1 =>
    if q1.1 = 0 then
      some ((-1 : Int32), q1.2)
    else
      (f_X4_drawingIn N a1 q1.2).bind (fun q2 =>
        if 0 ≤ q2.1 then
          (X4_judge_L1 N q2.1 N (0 : Int32) q2.2).bind (Sum.elim some (fun q4 =>
            (f_X0_breaksRing N 0 q2.1 q4).bind (fun q5 =>
              if q5.1 = 0 then
                some (gI (sI q5.2 412 0 (0 : Int32)) 4 0, sI q5.2 412 0 (0 : Int32))
              else
                some ((0 : Int32), sI q5.2 412 0 (6 : Int32)))))
        else
          (f_X4_refuse N (-q2.1) q2.2).bind (fun q6 =>
            some (q6.1, q6.2))))
set_option maxRecDepth 20000 in
set_option maxHeartbeats 4000000 in
theorem s_X4_judge (G : GT) (l : Launch) (N : Nat) (a1 : Int32) (w : Wd) (q : Int32 × Wd) (h : f_X4_judge N a1 w = some q) : Sp G l yX4_judge cw_X4_judge 4 [vr 0 0, vi a1] w (some (vi q.1)) q.2 := by
  refine Sp_of (own := RX4) [some (vr 0 0), some (vi a1), none, none, none] (by decide) rfl rfl (Nat.le_of_ble_eq_true rfl) ?_
  intro x hG hl hC hr hQ _ _
  subst hG
  subst hl
  unfold f_X4_judge at h
  refine Z_iload_n hC (dk d_X4_judge 0 rfl) 1 rfl rfl rfl ?_
  obtain ⟨q1, hq1, h⟩ := bd_some h
  refine K_X4_70 [vi a1] hC (s_X4_isRow (xG x) (xl x) N a1 w q1 hq1) (Nat.le_of_ble_eq_true rfl) rfl rfl rfl (Nat.le_of_ble_eq_true rfl) (dk d_X4_judge 1 rfl) 4 rfl ?_
  refine Z_if_ne hC (dk d_X4_judge 2 rfl) 7 9 rfl (by decide) (fun c => ?_) (fun c => ?_)
  · have h := it_f h c
    refine Z_aload_n hC (dk d_X4_judge 5 rfl) 10 rfl rfl rfl ?_
    refine Z_iload_n hC (dk d_X4_judge 6 rfl) 11 rfl rfl rfl ?_
    obtain ⟨q2, hq2, h⟩ := bd_some h
    refine K_X4_174 [vi a1] hC m_0 (s_X4_drawingIn (xG x) (xl x) N a1 q1.2 q2 hq2) (Nat.le_of_ble_eq_true rfl) rfl rfl rfl (Nat.le_of_ble_eq_true rfl) (dk d_X4_judge 7 rfl) 14 rfl ?_
    refine Z_istore_n hC (dk d_X4_judge 8 rfl) 15 rfl rfl (Nat.le_of_ble_eq_true rfl) [some (vr 0 0), some (vi a1), some (vi q2.1), none, none] rfl ?_
    refine Z_iload_n hC (dk d_X4_judge 9 rfl) 16 rfl rfl rfl ?_
    refine Z_if_ge hC (dk d_X4_judge 10 rfl) 19 26 rfl (by decide) (fun c => ?_) (fun c => ?_)
    · have h := it_t h c
      refine Z_iconst (v := 0) hC (dk d_X4_judge 16 rfl) 27 rfl (by decide) ?_
      refine Z_istore_n hC (dk d_X4_judge 17 rfl) 28 rfl rfl (Nat.le_of_ble_eq_true rfl) [some (vr 0 0), some (vi a1), some (vi q2.1), some (vi (0 : Int32)), none] rfl ?_
      obtain ⟨q4, hq4, h⟩ := bd_some h
      refine Z_wk [true, false, true, true, false] [some (vr 0 0), none, some (vi q2.1), some (vi (0 : Int32)), none] rfl ?_
      refine z_X4_judge_L1 hC hr N q2.1 N (0 : Int32) q2.2 q4 hq4 (fun r e => ?_) (fun o e => ?_)
      · subst e
        obtain rfl := Option.some.inj h
        exact hQ
      · subst e
        obtain ⟨q4, rfl⟩ : ∃ z, z = o := ⟨_, rfl⟩
        refine Z_aload_n hC (dk d_X4_judge 38 rfl) 70 rfl rfl rfl ?_
        refine G_X4_26 hC m_0 (dk d_X4_judge 39 rfl) 73 rfl ?_
        refine Z_iload_n hC (dk d_X4_judge 40 rfl) 74 rfl rfl rfl ?_
        obtain ⟨q5, hq5, h⟩ := bd_some h
        refine K_X4_180 [vi q2.1] hC (m_3 (by decide)) (s_X0_breaksRing (xG x) (xl x) N 0 (by decide) q2.1 q4 q5 hq5) (Nat.le_of_ble_eq_true rfl) rfl rfl rfl (Nat.le_of_ble_eq_true rfl) (dk d_X4_judge 41 rfl) 77 rfl ?_
        refine Z_if_eq hC (dk d_X4_judge 42 rfl) 80 88 rfl (by decide) (fun c => ?_) (fun c => ?_)
        · have h := it_t h c
          refine Z_aload_n hC (dk d_X4_judge 48 rfl) 89 rfl rfl rfl ?_
          refine Z_iconst (v := 0) hC (dk d_X4_judge 49 rfl) 90 rfl (by decide) ?_
          refine P_X4_90 hC m_0 (dk d_X4_judge 50 rfl) 93 rfl ?_
          refine Z_aload_n hC (dk d_X4_judge 51 rfl) 94 rfl rfl rfl ?_
          refine G_X4_26 hC m_0 (dk d_X4_judge 52 rfl) 97 rfl ?_
          refine G_X4_132 hC (m_3 (by decide)) (dk d_X4_judge 53 rfl) 100 rfl ?_
          obtain rfl := Option.some.inj h
          exact Z_ireturn (st := []) hC hr hQ (dk d_X4_judge 54 rfl)
        · have h := it_f h c
          refine Z_aload_n hC (dk d_X4_judge 43 rfl) 81 rfl rfl rfl ?_
          refine Z_bipush (v := 6) hC (dk d_X4_judge 44 rfl) 83 rfl (by decide) ?_
          refine P_X4_90 hC m_0 (dk d_X4_judge 45 rfl) 86 rfl ?_
          refine Z_iconst (v := 0) hC (dk d_X4_judge 46 rfl) 87 rfl (by decide) ?_
          obtain rfl := Option.some.inj h
          exact Z_ireturn (st := []) hC hr hQ (dk d_X4_judge 47 rfl)
    · have h := it_f h c
      refine Z_aload_n hC (dk d_X4_judge 11 rfl) 20 rfl rfl rfl ?_
      refine Z_iload_n hC (dk d_X4_judge 12 rfl) 21 rfl rfl rfl ?_
      refine Z_ineg hC (dk d_X4_judge 13 rfl) 22 rfl ?_
      obtain ⟨q6, hq6, h⟩ := bd_some h
      refine K_X4_74 [vi (-q2.1)] hC m_0 (s_X4_refuse (xG x) (xl x) N (-q2.1) q2.2 q6 hq6) (Nat.le_of_ble_eq_true rfl) rfl rfl rfl (Nat.le_of_ble_eq_true rfl) (dk d_X4_judge 14 rfl) 25 rfl ?_
      obtain rfl := Option.some.inj h
      exact Z_ireturn (st := []) hC hr hQ (dk d_X4_judge 15 rfl)
  · have h := it_t h c
    refine Z_iconst (v := -1) hC (dk d_X4_judge 3 rfl) 8 rfl (by decide) ?_
    obtain rfl := Option.some.inj h
    exact Z_ireturn (st := []) hC hr hQ (dk d_X4_judge 4 rfl)
def t_X4_listRight : List (Nat × Instr × Nat) := [(0, .aload_n 0, 1), (1, .getfield 66, 3), (4, .ifCond .eq 24, 3), (7, .aload_n 0, 1), (8, .getfield 36, 3), (11, .aload_n 0, 1), (12, .getfield 26, 3), (15, .sipush 265, 3), (18, .iconst 0, 1), (19, .invokevirtual 257, 3), (22, .pop, 1), (23, .aload_n 0, 1), (24, .iconst 0, 1), (25, .putfield 66, 3), (28, .return_, 1)]
set_option maxRecDepth 20000 in
theorem d_X4_listRight : ∀ q ∈ t_X4_listRight, decode cX4_listRight q.1 = .ok q.2 := by decide +kernel
noncomputable def f_X4_listRight (N : Nat) (w : Wd) : Option (Wd) :=
  if (gI w 411 0) = 0 then
    some w
  else
    (f_X2_list N 0 (265 : Int32) (0 : Int32) w).bind (fun q1 =>
      some (sI q1.2 411 0 (0 : Int32)))
set_option maxRecDepth 20000 in
set_option maxHeartbeats 4000000 in
theorem s_X4_listRight (G : GT) (l : Launch) (N : Nat) (w : Wd) (q : Wd) (h : f_X4_listRight N w = some q) : Sp G l yX4_listRight cw_X4_listRight 13 [vr 0 0] w none q := by
  refine Sp_of (own := RX4) [some (vr 0 0)] (by decide) rfl rfl (Nat.le_of_ble_eq_true rfl) ?_
  intro x hG hl hC hr hQ _ _
  subst hG
  subst hl
  unfold f_X4_listRight at h
  refine Z_aload_n hC (dk d_X4_listRight 0 rfl) 1 rfl rfl rfl ?_
  refine G_X4_66 hC m_0 (dk d_X4_listRight 1 rfl) 4 rfl ?_
  refine Z_if_eq hC (dk d_X4_listRight 2 rfl) 7 28 rfl (by decide) (fun c => ?_) (fun c => ?_)
  · have h := it_t h c
    obtain rfl := Option.some.inj h
    exact Z_return (st := []) hC hr hQ (dk d_X4_listRight 14 rfl)
  · have h := it_f h c
    refine Z_aload_n hC (dk d_X4_listRight 3 rfl) 8 rfl rfl rfl ?_
    refine G_X4_36 hC m_0 (dk d_X4_listRight 4 rfl) 11 rfl ?_
    refine Z_aload_n hC (dk d_X4_listRight 5 rfl) 12 rfl rfl rfl ?_
    refine G_X4_26 hC m_0 (dk d_X4_listRight 6 rfl) 15 rfl ?_
    refine Z_sipush (v := 265) hC (dk d_X4_listRight 7 rfl) 18 rfl (by decide) ?_
    refine Z_iconst (v := 0) hC (dk d_X4_listRight 8 rfl) 19 rfl (by decide) ?_
    obtain ⟨q1, hq1, h⟩ := bd_some h
    refine K_X4_257 [vr 3 0, vi (265 : Int32), vi (0 : Int32)] hC (m_4 (by decide)) (s_X2_list (xG x) (xl x) N 0 (by decide) (265 : Int32) (0 : Int32) w q1 hq1) (Nat.le_of_ble_eq_true rfl) rfl rfl rfl (Nat.le_of_ble_eq_true rfl) (dk d_X4_listRight 9 rfl) 22 rfl ?_
    refine Z_pop hC (dk d_X4_listRight 10 rfl) 23 rfl rfl ?_
    refine Z_aload_n hC (dk d_X4_listRight 11 rfl) 24 rfl rfl rfl ?_
    refine Z_iconst (v := 0) hC (dk d_X4_listRight 12 rfl) 25 rfl (by decide) ?_
    refine P_X4_66 hC m_0 (by decide) (dk d_X4_listRight 13 rfl) 28 rfl ?_
    obtain rfl := Option.some.inj h
    exact Z_return (st := []) hC hr hQ (dk d_X4_listRight 14 rfl)
def t_X4_ways : List (Nat × Instr × Nat) := [(0, .aload_n 0, 1), (1, .invokevirtual 183, 3), (4, .aload_n 0, 1), (5, .getfield 36, 3), (8, .getfield 186, 3), (11, .ireturn, 1)]
set_option maxRecDepth 20000 in
theorem d_X4_ways : ∀ q ∈ t_X4_ways, decode cX4_ways q.1 = .ok q.2 := by decide +kernel
noncomputable def f_X4_ways (N : Nat) (w : Wd) : Option (Int32 × Wd) :=
  (f_X4_listRight N w).bind (fun q1 =>
    some (gI q1 201 0, q1))
set_option maxRecDepth 20000 in
set_option maxHeartbeats 4000000 in
theorem s_X4_ways (G : GT) (l : Launch) (N : Nat) (w : Wd) (q : Int32 × Wd) (h : f_X4_ways N w = some q) : Sp G l yX4_ways cw_X4_ways 14 [vr 0 0] w (some (vi q.1)) q.2 := by
  refine Sp_of (own := RX4) [some (vr 0 0)] (by decide) rfl rfl (Nat.le_of_ble_eq_true rfl) ?_
  intro x hG hl hC hr hQ _ _
  subst hG
  subst hl
  unfold f_X4_ways at h
  refine Z_aload_n hC (dk d_X4_ways 0 rfl) 1 rfl rfl rfl ?_
  obtain ⟨q1, hq1, h⟩ := bd_some h
  refine K_X4_183 [] hC m_0 (s_X4_listRight (xG x) (xl x) N w q1 hq1) (Nat.le_of_ble_eq_true rfl) rfl rfl rfl (Nat.le_of_ble_eq_true rfl) (dk d_X4_ways 1 rfl) 4 rfl ?_
  refine Z_aload_n hC (dk d_X4_ways 2 rfl) 5 rfl rfl rfl ?_
  refine G_X4_36 hC m_0 (dk d_X4_ways 3 rfl) 8 rfl ?_
  refine G_X4_186 hC (m_4 (by decide)) (dk d_X4_ways 4 rfl) 11 rfl ?_
  obtain rfl := Option.some.inj h
  exact Z_ireturn (st := []) hC hr hQ (dk d_X4_ways 5 rfl)
def t_X4_layDrawing : List (Nat × Instr × Nat) := [(0, .aload_n 0, 1), (1, .getfield 10, 3), (4, .iload_n 1, 1), (5, .aload_n 0, 1), (6, .getfield 26, 3), (9, .getfield 132, 3), (12, .invokevirtual 78, 3), (15, .iconst 0, 1), (16, .istore_n 3, 1), (17, .iload_n 3, 1), (18, .aload_n 0, 1), (19, .getfield 26, 3), (22, .getfield 132, 3), (25, .if_icmp .ge 25, 3), (28, .aload_n 0, 1), (29, .getfield 10, 3), (32, .getfield 86, 3), (35, .iload_n 1, 1), (36, .aaload, 1), (37, .iload_n 3, 1), (38, .iload_n 2, 1), (39, .iload_n 3, 1), (40, .invokestatic 220, 3), (43, .iastore, 1), (44, .iinc 3 1, 3), (47, .goto (-30), 3), (50, .return_, 1)]
set_option maxRecDepth 20000 in
theorem d_X4_layDrawing : ∀ q ∈ t_X4_layDrawing, decode cX4_layDrawing q.1 = .ok q.2 := by decide +kernel
noncomputable def X4_layDrawing_L1 (N : Nat) (x1 : Int32) (x2 : Int32) : Nat → Int32 → Wd → Option (Wd)
  | 0, _, _ => none
  | n + 1, x3, w =>
  if (gI w 4 0) ≤ x3 then
    some w
  else
    gd (vp_in x1 6) (
    (f_X4_paper N x2 x3 w).bind (fun q3 =>
      gd (vp_in x3 40) (
      X4_layDrawing_L1 N x1 x2 n (x3 + (1 : Int32)) (sA q3.2 11 x1.toNatClampNeg (upd (gA q3.2 11 x1.toNatClampNeg) x3.toNatClampNeg q3.1)))))
set_option maxRecDepth 20000 in
set_option maxHeartbeats 4000000 in
theorem z_X4_layDrawing_L1 {x : CX} (hC : Cx x RX4 cX4_layDrawing 4 2) (hr : (xM x).sig.returnType = none) (N : Nat) (x1 : Int32) (x2 : Int32) : ∀ (n : Nat) (x3 : Int32) (w : Wd) (q : (Wd)), X4_layDrawing_L1 N x1 x2 n x3 w = some q → Z x 50 [none, none, none, none] [] q → Z x 17 [some (vr 0 0), some (vi x1), some (vi x2), some (vi x3)] [] w := by
  intro n
  induction n with
  | zero =>
    intro x3 w q h
    cases h
  | succ n ih =>
    intro x3 w q h ke
    rw [X4_layDrawing_L1] at h
    refine Z_iload_n hC (dk d_X4_layDrawing 9 rfl) 18 rfl rfl rfl ?_
    refine Z_aload_n hC (dk d_X4_layDrawing 10 rfl) 19 rfl rfl rfl ?_
    refine G_X4_26 hC m_0 (dk d_X4_layDrawing 11 rfl) 22 rfl ?_
    refine G_X4_132 hC (m_3 (by decide)) (dk d_X4_layDrawing 12 rfl) 25 rfl ?_
    refine Z_icmp_ge hC (dk d_X4_layDrawing 13 rfl) 28 50 rfl (by decide) (fun c => ?_) (fun c => ?_)
    · have h := it_t h c
      obtain rfl := Option.some.inj h
      refine Z_wk [false, false, false, false] [none, none, none, none] rfl ?_
      exact ke
    · have h := it_f h c
      refine Z_aload_n hC (dk d_X4_layDrawing 14 rfl) 29 rfl rfl rfl ?_
      refine G_X4_10 hC m_0 (dk d_X4_layDrawing 15 rfl) 32 rfl ?_
      refine G_X4_86 hC m_1 (dk d_X4_layDrawing 16 rfl) 35 rfl ?_
      refine Z_iload_n hC (dk d_X4_layDrawing 17 rfl) 36 rfl rfl rfl ?_
      obtain ⟨g2, h⟩ := gd_some h
      refine Z_aaload hC m_10 (by decide) (by decide) g2 (dk d_X4_layDrawing 18 rfl) 37 rfl ?_
      refine Z_iload_n hC (dk d_X4_layDrawing 19 rfl) 38 rfl rfl rfl ?_
      refine Z_iload_n hC (dk d_X4_layDrawing 20 rfl) 39 rfl rfl rfl ?_
      refine Z_iload_n hC (dk d_X4_layDrawing 21 rfl) 40 rfl rfl rfl ?_
      obtain ⟨q3, hq3, h⟩ := bd_some h
      refine K_X4_220 [vi x2, vi x3] hC (s_X4_paper (xG x) (xl x) N x2 x3 w q3 hq3) (Nat.le_of_ble_eq_true rfl) rfl rfl rfl (Nat.le_of_ble_eq_true rfl) (dk d_X4_layDrawing 22 rfl) 43 rfl ?_
      obtain ⟨g4, h⟩ := gd_some h
      refine Z_iastore hC (m_11 (vp_lt g2)) (by decide) rfl g4 (dk d_X4_layDrawing 23 rfl) 44 rfl ?_
      refine Z_iinc hC (dk d_X4_layDrawing 24 rfl) 47 rfl rfl rfl [some (vr 0 0), some (vi x1), some (vi x2), some (vi (x3 + (1 : Int32)))] rfl ?_
      refine Z_goto hC (dk d_X4_layDrawing 25 rfl) 17 (by decide) ?_
      refine Z_wk [true, true, true, true] [some (vr 0 0), some (vi x1), some (vi x2), some (vi (x3 + (1 : Int32)))] rfl ?_
      exact ih (x3 + (1 : Int32)) (sA q3.2 11 x1.toNatClampNeg (upd (gA q3.2 11 x1.toNatClampNeg) x3.toNatClampNeg q3.1)) _ h ke
noncomputable def f_X4_layDrawing (N : Nat) (a1 : Int32) (a2 : Int32) (w : Wd) : Option (Wd) :=
  (f_X1_renew N a1 (gI w 4 0) w).bind (fun q1 =>
    (X4_layDrawing_L1 N a1 a2 N (0 : Int32) q1).bind (fun q5 =>
      some q5))
set_option maxRecDepth 20000 in
set_option maxHeartbeats 4000000 in
theorem s_X4_layDrawing (G : GT) (l : Launch) (N : Nat) (a1 : Int32) (a2 : Int32) (w : Wd) (q : Wd) (h : f_X4_layDrawing N a1 a2 w = some q) : Sp G l yX4_layDrawing cw_X4_layDrawing 2 [vr 0 0, vi a1, vi a2] w none q := by
  refine Sp_of (own := RX4) [some (vr 0 0), some (vi a1), some (vi a2), none] (by decide) rfl rfl (Nat.le_of_ble_eq_true rfl) ?_
  intro x hG hl hC hr hQ _ _
  subst hG
  subst hl
  unfold f_X4_layDrawing at h
  refine Z_aload_n hC (dk d_X4_layDrawing 0 rfl) 1 rfl rfl rfl ?_
  refine G_X4_10 hC m_0 (dk d_X4_layDrawing 1 rfl) 4 rfl ?_
  refine Z_iload_n hC (dk d_X4_layDrawing 2 rfl) 5 rfl rfl rfl ?_
  refine Z_aload_n hC (dk d_X4_layDrawing 3 rfl) 6 rfl rfl rfl ?_
  refine G_X4_26 hC m_0 (dk d_X4_layDrawing 4 rfl) 9 rfl ?_
  refine G_X4_132 hC (m_3 (by decide)) (dk d_X4_layDrawing 5 rfl) 12 rfl ?_
  obtain ⟨q1, hq1, h⟩ := bd_some h
  refine K_X4_78 [vi a1, vi (gI w 4 0)] hC m_1 (s_X1_renew (xG x) (xl x) N a1 (gI w 4 0) w q1 hq1) (Nat.le_of_ble_eq_true rfl) rfl rfl rfl (Nat.le_of_ble_eq_true rfl) (dk d_X4_layDrawing 6 rfl) 15 rfl ?_
  refine Z_iconst (v := 0) hC (dk d_X4_layDrawing 7 rfl) 16 rfl (by decide) ?_
  refine Z_istore_n hC (dk d_X4_layDrawing 8 rfl) 17 rfl rfl (Nat.le_of_ble_eq_true rfl) [some (vr 0 0), some (vi a1), some (vi a2), some (vi (0 : Int32))] rfl ?_
  obtain ⟨q5, hq5, h⟩ := bd_some h
  refine Z_wk [true, true, true, true] [some (vr 0 0), some (vi a1), some (vi a2), some (vi (0 : Int32))] rfl ?_
  refine z_X4_layDrawing_L1 hC hr N a1 a2 N (0 : Int32) q1 q5 hq5 ?_
  obtain rfl := Option.some.inj h
  exact Z_return (st := []) hC hr hQ (dk d_X4_layDrawing 26 rfl)
def t_X4_nth : List (Nat × Instr × Nat) := [(0, .iload_n 1, 1), (1, .ifCond .lt 10, 3), (4, .iload_n 2, 1), (5, .invokestatic 70, 3), (8, .ifCond .ne 5, 3), (11, .iconst (-1), 1), (12, .ireturn, 1), (13, .aload_n 0, 1), (14, .invokevirtual 183, 3), (17, .iload_n 1, 1), (18, .aload_n 0, 1), (19, .getfield 36, 3), (22, .getfield 186, 3), (25, .if_icmp .lt 9, 3), (28, .aload_n 0, 1), (29, .iconst 4, 1), (30, .invokevirtual 74, 3), (33, .ireturn, 1), (34, .aload_n 0, 1), (35, .iload_n 2, 1), (36, .aload_n 0, 1), (37, .getfield 36, 3), (40, .getfield 189, 3), (43, .iload_n 1, 1), (44, .iaload, 1), (45, .invokevirtual 192, 3), (48, .iconst 1, 1), (49, .ireturn, 1)]
set_option maxRecDepth 20000 in
theorem d_X4_nth : ∀ q ∈ t_X4_nth, decode cX4_nth q.1 = .ok q.2 := by decide +kernel
noncomputable def f_X4_nth (N : Nat) (a1 : Int32) (a2 : Int32) (w : Wd) : Option (Int32 × Wd) :=
  if a1 < 0 then
    some ((-1 : Int32), w)
  else
    (f_X4_isRow N a2 w).bind (fun q1 =>
      if q1.1 = 0 then
        some ((-1 : Int32), q1.2)
      else
        (f_X4_listRight N q1.2).bind (fun q2 =>
          if a1 < (gI q2 201 0) then
            gd (vp_in a1 265) (
            (f_X4_layDrawing N a2 (gA q2 20 0 a1.toNatClampNeg) q2).bind (fun q4 =>
              some ((1 : Int32), q4)))
          else
            (f_X4_refuse N (4 : Int32) q2).bind (fun q5 =>
              some (q5.1, q5.2))))
set_option maxRecDepth 20000 in
set_option maxHeartbeats 4000000 in
theorem s_X4_nth (G : GT) (l : Launch) (N : Nat) (a1 : Int32) (a2 : Int32) (w : Wd) (q : Int32 × Wd) (h : f_X4_nth N a1 a2 w = some q) : Sp G l yX4_nth cw_X4_nth 14 [vr 0 0, vi a1, vi a2] w (some (vi q.1)) q.2 := by
  refine Sp_of (own := RX4) [some (vr 0 0), some (vi a1), some (vi a2)] (by decide) rfl rfl (Nat.le_of_ble_eq_true rfl) ?_
  intro x hG hl hC hr hQ _ _
  subst hG
  subst hl
  unfold f_X4_nth at h
  refine Z_iload_n hC (dk d_X4_nth 0 rfl) 1 rfl rfl rfl ?_
  refine Z_if_lt hC (dk d_X4_nth 1 rfl) 4 11 rfl (by decide) (fun c => ?_) (fun c => ?_)
  · have h := it_t h c
    refine Z_iconst (v := -1) hC (dk d_X4_nth 5 rfl) 12 rfl (by decide) ?_
    obtain rfl := Option.some.inj h
    exact Z_ireturn (st := []) hC hr hQ (dk d_X4_nth 6 rfl)
  · have h := it_f h c
    refine Z_iload_n hC (dk d_X4_nth 2 rfl) 5 rfl rfl rfl ?_
    obtain ⟨q1, hq1, h⟩ := bd_some h
    refine K_X4_70 [vi a2] hC (s_X4_isRow (xG x) (xl x) N a2 w q1 hq1) (Nat.le_of_ble_eq_true rfl) rfl rfl rfl (Nat.le_of_ble_eq_true rfl) (dk d_X4_nth 3 rfl) 8 rfl ?_
    refine Z_if_ne hC (dk d_X4_nth 4 rfl) 11 13 rfl (by decide) (fun c => ?_) (fun c => ?_)
    · have h := it_f h c
      refine Z_aload_n hC (dk d_X4_nth 7 rfl) 14 rfl rfl rfl ?_
      obtain ⟨q2, hq2, h⟩ := bd_some h
      refine K_X4_183 [] hC m_0 (s_X4_listRight (xG x) (xl x) N q1.2 q2 hq2) (Nat.le_of_ble_eq_true rfl) rfl rfl rfl (Nat.le_of_ble_eq_true rfl) (dk d_X4_nth 8 rfl) 17 rfl ?_
      refine Z_iload_n hC (dk d_X4_nth 9 rfl) 18 rfl rfl rfl ?_
      refine Z_aload_n hC (dk d_X4_nth 10 rfl) 19 rfl rfl rfl ?_
      refine G_X4_36 hC m_0 (dk d_X4_nth 11 rfl) 22 rfl ?_
      refine G_X4_186 hC (m_4 (by decide)) (dk d_X4_nth 12 rfl) 25 rfl ?_
      refine Z_icmp_lt hC (dk d_X4_nth 13 rfl) 28 34 rfl (by decide) (fun c => ?_) (fun c => ?_)
      · have h := it_t h c
        refine Z_aload_n hC (dk d_X4_nth 18 rfl) 35 rfl rfl rfl ?_
        refine Z_iload_n hC (dk d_X4_nth 19 rfl) 36 rfl rfl rfl ?_
        refine Z_aload_n hC (dk d_X4_nth 20 rfl) 37 rfl rfl rfl ?_
        refine G_X4_36 hC m_0 (dk d_X4_nth 21 rfl) 40 rfl ?_
        refine G_X4_189 hC (m_4 (by decide)) (dk d_X4_nth 22 rfl) 43 rfl ?_
        refine Z_iload_n hC (dk d_X4_nth 23 rfl) 44 rfl rfl rfl ?_
        obtain ⟨g3, h⟩ := gd_some h
        refine Z_iaload hC (m_20 (by decide)) (by decide) rfl g3 (dk d_X4_nth 24 rfl) 45 rfl ?_
        obtain ⟨q4, hq4, h⟩ := bd_some h
        refine K_X4_192 [vi a2, vi (gA q2 20 0 a1.toNatClampNeg)] hC m_0 (s_X4_layDrawing (xG x) (xl x) N a2 (gA q2 20 0 a1.toNatClampNeg) q2 q4 hq4) (Nat.le_of_ble_eq_true rfl) rfl rfl rfl (Nat.le_of_ble_eq_true rfl) (dk d_X4_nth 25 rfl) 48 rfl ?_
        refine Z_iconst (v := 1) hC (dk d_X4_nth 26 rfl) 49 rfl (by decide) ?_
        obtain rfl := Option.some.inj h
        exact Z_ireturn (st := []) hC hr hQ (dk d_X4_nth 27 rfl)
      · have h := it_f h c
        refine Z_aload_n hC (dk d_X4_nth 14 rfl) 29 rfl rfl rfl ?_
        refine Z_iconst (v := 4) hC (dk d_X4_nth 15 rfl) 30 rfl (by decide) ?_
        obtain ⟨q5, hq5, h⟩ := bd_some h
        refine K_X4_74 [vi (4 : Int32)] hC m_0 (s_X4_refuse (xG x) (xl x) N (4 : Int32) q2 q5 hq5) (Nat.le_of_ble_eq_true rfl) rfl rfl rfl (Nat.le_of_ble_eq_true rfl) (dk d_X4_nth 16 rfl) 33 rfl ?_
        obtain rfl := Option.some.inj h
        exact Z_ireturn (st := []) hC hr hQ (dk d_X4_nth 17 rfl)
    · have h := it_t h c
      refine Z_iconst (v := -1) hC (dk d_X4_nth 5 rfl) 12 rfl (by decide) ?_
      obtain rfl := Option.some.inj h
      exact Z_ireturn (st := []) hC hr hQ (dk d_X4_nth 6 rfl)
def t_X4_number : List (Nat × Instr × Nat) := [(0, .iload_n 1, 1), (1, .invokestatic 70, 3), (4, .ifCond .ne 5, 3), (7, .iconst (-1), 1), (8, .ireturn, 1), (9, .aload_n 0, 1), (10, .iload_n 1, 1), (11, .invokevirtual 174, 3), (14, .istore_n 2, 1), (15, .iload_n 2, 1), (16, .ifCond .ge 10, 3), (19, .aload_n 0, 1), (20, .iload_n 2, 1), (21, .ineg, 1), (22, .invokevirtual 74, 3), (25, .ireturn, 1), (26, .aload_n 0, 1), (27, .invokevirtual 183, 3), (30, .aload_n 0, 1), (31, .getfield 36, 3), (34, .iload_n 2, 1), (35, .iconst (-1), 1), (36, .invokevirtual 195, 3), (39, .ireturn, 1)]
set_option maxRecDepth 20000 in
theorem d_X4_number : ∀ q ∈ t_X4_number, decode cX4_number q.1 = .ok q.2 := by decide +kernel
noncomputable def f_X4_number (N : Nat) (a1 : Int32) (w : Wd) : Option (Int32 × Wd) :=
  (f_X4_isRow N a1 w).bind (fun q1 =>
    if q1.1 = 0 then
      some ((-1 : Int32), q1.2)
    else
      (f_X4_drawingIn N a1 q1.2).bind (fun q2 =>
        if 0 ≤ q2.1 then
          (f_X4_listRight N q2.2).bind (fun q3 =>
            (f_X2_placeOf N 0 q2.1 (-1 : Int32) q3).bind (fun q4 =>
              some (q4.1, q4.2)))
        else
          (f_X4_refuse N (-q2.1) q2.2).bind (fun q5 =>
            some (q5.1, q5.2))))
set_option maxRecDepth 20000 in
set_option maxHeartbeats 4000000 in
theorem s_X4_number (G : GT) (l : Launch) (N : Nat) (a1 : Int32) (w : Wd) (q : Int32 × Wd) (h : f_X4_number N a1 w = some q) : Sp G l yX4_number cw_X4_number 14 [vr 0 0, vi a1] w (some (vi q.1)) q.2 := by
  refine Sp_of (own := RX4) [some (vr 0 0), some (vi a1), none] (by decide) rfl rfl (Nat.le_of_ble_eq_true rfl) ?_
  intro x hG hl hC hr hQ _ _
  subst hG
  subst hl
  unfold f_X4_number at h
  refine Z_iload_n hC (dk d_X4_number 0 rfl) 1 rfl rfl rfl ?_
  obtain ⟨q1, hq1, h⟩ := bd_some h
  refine K_X4_70 [vi a1] hC (s_X4_isRow (xG x) (xl x) N a1 w q1 hq1) (Nat.le_of_ble_eq_true rfl) rfl rfl rfl (Nat.le_of_ble_eq_true rfl) (dk d_X4_number 1 rfl) 4 rfl ?_
  refine Z_if_ne hC (dk d_X4_number 2 rfl) 7 9 rfl (by decide) (fun c => ?_) (fun c => ?_)
  · have h := it_f h c
    refine Z_aload_n hC (dk d_X4_number 5 rfl) 10 rfl rfl rfl ?_
    refine Z_iload_n hC (dk d_X4_number 6 rfl) 11 rfl rfl rfl ?_
    obtain ⟨q2, hq2, h⟩ := bd_some h
    refine K_X4_174 [vi a1] hC m_0 (s_X4_drawingIn (xG x) (xl x) N a1 q1.2 q2 hq2) (Nat.le_of_ble_eq_true rfl) rfl rfl rfl (Nat.le_of_ble_eq_true rfl) (dk d_X4_number 7 rfl) 14 rfl ?_
    refine Z_istore_n hC (dk d_X4_number 8 rfl) 15 rfl rfl (Nat.le_of_ble_eq_true rfl) [some (vr 0 0), some (vi a1), some (vi q2.1)] rfl ?_
    refine Z_iload_n hC (dk d_X4_number 9 rfl) 16 rfl rfl rfl ?_
    refine Z_if_ge hC (dk d_X4_number 10 rfl) 19 26 rfl (by decide) (fun c => ?_) (fun c => ?_)
    · have h := it_t h c
      refine Z_aload_n hC (dk d_X4_number 16 rfl) 27 rfl rfl rfl ?_
      obtain ⟨q3, hq3, h⟩ := bd_some h
      refine K_X4_183 [] hC m_0 (s_X4_listRight (xG x) (xl x) N q2.2 q3 hq3) (Nat.le_of_ble_eq_true rfl) rfl rfl rfl (Nat.le_of_ble_eq_true rfl) (dk d_X4_number 17 rfl) 30 rfl ?_
      refine Z_aload_n hC (dk d_X4_number 18 rfl) 31 rfl rfl rfl ?_
      refine G_X4_36 hC m_0 (dk d_X4_number 19 rfl) 34 rfl ?_
      refine Z_iload_n hC (dk d_X4_number 20 rfl) 35 rfl rfl rfl ?_
      refine Z_iconst (v := -1) hC (dk d_X4_number 21 rfl) 36 rfl (by decide) ?_
      obtain ⟨q4, hq4, h⟩ := bd_some h
      refine K_X4_195 [vi q2.1, vi (-1 : Int32)] hC (m_4 (by decide)) (s_X2_placeOf (xG x) (xl x) N 0 (by decide) q2.1 (-1 : Int32) q3 q4 hq4) (Nat.le_of_ble_eq_true rfl) rfl rfl rfl (Nat.le_of_ble_eq_true rfl) (dk d_X4_number 22 rfl) 39 rfl ?_
      obtain rfl := Option.some.inj h
      exact Z_ireturn (st := []) hC hr hQ (dk d_X4_number 23 rfl)
    · have h := it_f h c
      refine Z_aload_n hC (dk d_X4_number 11 rfl) 20 rfl rfl rfl ?_
      refine Z_iload_n hC (dk d_X4_number 12 rfl) 21 rfl rfl rfl ?_
      refine Z_ineg hC (dk d_X4_number 13 rfl) 22 rfl ?_
      obtain ⟨q5, hq5, h⟩ := bd_some h
      refine K_X4_74 [vi (-q2.1)] hC m_0 (s_X4_refuse (xG x) (xl x) N (-q2.1) q2.2 q5 hq5) (Nat.le_of_ble_eq_true rfl) rfl rfl rfl (Nat.le_of_ble_eq_true rfl) (dk d_X4_number 14 rfl) 25 rfl ?_
      obtain rfl := Option.some.inj h
      exact Z_ireturn (st := []) hC hr hQ (dk d_X4_number 15 rfl)
  · have h := it_t h c
    refine Z_iconst (v := -1) hC (dk d_X4_number 3 rfl) 8 rfl (by decide) ?_
    obtain rfl := Option.some.inj h
    exact Z_ireturn (st := []) hC hr hQ (dk d_X4_number 4 rfl)
def t_X4_isSeed : List (Nat × Instr × Nat) := [(0, .iload_n 0, 1), (1, .iconst 1, 1), (2, .if_icmp .lt 16, 3), (5, .iload_n 0, 1), (6, .i2l, 1), (7, .ldc2_w 317, 3), (10, .lcmp, 1), (11, .ifCond .ge 7, 3), (14, .iconst 1, 1), (15, .goto 4, 3), (18, .iconst 0, 1), (19, .ireturn, 1)]
set_option maxRecDepth 20000 in
theorem d_X4_isSeed : ∀ q ∈ t_X4_isSeed, decode cX4_isSeed q.1 = .ok q.2 := by decide +kernel
noncomputable def f_X4_isSeed (N : Nat) (a1 : Int32) (w : Wd) : Option (Int32 × Wd) :=
  if a1 < (1 : Int32) then
    some ((0 : Int32), w)
  else
    if 0 ≤ (lg_cmp a1.toInt64 (2147483647 : Int64)) then
      some ((0 : Int32), w)
    else
      some ((1 : Int32), w)
set_option maxRecDepth 20000 in
set_option maxHeartbeats 4000000 in
theorem s_X4_isSeed (G : GT) (l : Launch) (N : Nat) (a1 : Int32) (w : Wd) (q : Int32 × Wd) (h : f_X4_isSeed N a1 w = some q) : Sp G l yX4_isSeed cw_X4_isSeed 0 [vi a1] w (some (vi q.1)) q.2 := by
  refine Sp_of (own := RX4) [some (vi a1)] (by decide) rfl rfl (Nat.le_of_ble_eq_true rfl) ?_
  intro x hG hl hC hr hQ _ _
  subst hG
  subst hl
  unfold f_X4_isSeed at h
  refine Z_iload_n hC (dk d_X4_isSeed 0 rfl) 1 rfl rfl rfl ?_
  refine Z_iconst (v := 1) hC (dk d_X4_isSeed 1 rfl) 2 rfl (by decide) ?_
  refine Z_icmp_lt hC (dk d_X4_isSeed 2 rfl) 5 18 rfl (by decide) (fun c => ?_) (fun c => ?_)
  · have h := it_t h c
    refine Z_iconst (v := 0) hC (dk d_X4_isSeed 10 rfl) 19 rfl (by decide) ?_
    obtain rfl := Option.some.inj h
    exact Z_zreturn (st := []) hC hr rfl hQ (dk d_X4_isSeed 11 rfl)
  · have h := it_f h c
    refine Z_iload_n hC (dk d_X4_isSeed 3 rfl) 6 rfl rfl rfl ?_
    refine Z_i2l hC (dk d_X4_isSeed 4 rfl) 7 rfl ?_
    refine Z_ldc2 hC kc_X4_317 (dk d_X4_isSeed 5 rfl) 10 rfl ?_
    refine Z_lcmp hC (dk d_X4_isSeed 6 rfl) 11 rfl ?_
    refine Z_if_ge hC (dk d_X4_isSeed 7 rfl) 14 18 rfl (by decide) (fun c => ?_) (fun c => ?_)
    · have h := it_t h c
      refine Z_iconst (v := 0) hC (dk d_X4_isSeed 10 rfl) 19 rfl (by decide) ?_
      obtain rfl := Option.some.inj h
      exact Z_zreturn (st := []) hC hr rfl hQ (dk d_X4_isSeed 11 rfl)
    · have h := it_f h c
      refine Z_iconst (v := 1) hC (dk d_X4_isSeed 8 rfl) 15 rfl (by decide) ?_
      refine Z_goto hC (dk d_X4_isSeed 9 rfl) 19 (by decide) ?_
      obtain rfl := Option.some.inj h
      exact Z_zreturn (st := []) hC hr rfl hQ (dk d_X4_isSeed 11 rfl)
