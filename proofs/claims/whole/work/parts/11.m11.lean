def t_X0_against : List (Nat × Instr × Nat) := [(0, .iload_n 2, 1), (1, .iload_n 1, 1), (2, .invokestatic 44, 3), (5, .istore_n 3, 1), (6, .aload_n 0, 1), (7, .iload_n 1, 1), (8, .iload_n 3, 1), (9, .invokevirtual 59, 3), (12, .istore 4, 2), (14, .iload 4, 2), (16, .ifCond .ne 23, 3), (19, .iload_n 2, 1), (20, .iload_n 3, 1), (21, .invokestatic 44, 3), (24, .iload_n 1, 1), (25, .if_icmp .ne 14, 3), (28, .aload_n 0, 1), (29, .iload_n 1, 1), (30, .iload_n 3, 1), (31, .invokevirtual 62, 3), (34, .ifCond .eq 5, 3), (37, .iconst 5, 1), (38, .ireturn, 1), (39, .iload 4, 2), (41, .ireturn, 1)]
set_option maxRecDepth 20000 in
theorem d_X0_against : ∀ q ∈ t_X0_against, decode cX0_against q.1 = .ok q.2 := by decide +kernel
noncomputable def f_X0_against (N : Nat) (i : Nat) (a1 : Int32) (a2 : Int32) (w : Wd) : Option (Int32 × Wd) :=
  (f_X4_paper N a2 a1 w).bind (fun q1 =>
    (f_X0_barrier N i a1 q1.1 q1.2).bind (fun q2 =>
      if q2.1 = 0 then
        (f_X4_paper N a2 q1.1 q2.2).bind (fun q3 =>
          if q3.1 = a1 then
            (f_X0_minds N i a1 q1.1 q3.2).bind (fun q4 =>
              if q4.1 = 0 then
                some (q2.1, q4.2)
              else
                some ((5 : Int32), q4.2))
          else
            some (q2.1, q3.2))
      else
        some (q2.1, q2.2)))
set_option maxRecDepth 20000 in
set_option maxHeartbeats 4000000 in
theorem s_X0_against (G : GT) (l : Launch) (N : Nat) (i : Nat) (hi : i < 2) (a1 : Int32) (a2 : Int32) (w : Wd) (q : Int32 × Wd) (h : f_X0_against N i a1 a2 w = some q) : Sp G l yX0_against cw_X0_against 3 [vr 3 i, vi a1, vi a2] w (some (vi q.1)) q.2 := by
  refine Sp_of (own := RX0) [some (vr 3 i), some (vi a1), some (vi a2), none, none] (by decide) rfl rfl (Nat.le_of_ble_eq_true rfl) ?_
  intro x hG hl hC hr hQ _ _
  subst hG
  subst hl
  unfold f_X0_against at h
  refine Z_iload_n hC (dk d_X0_against 0 rfl) 1 rfl rfl rfl ?_
  refine Z_iload_n hC (dk d_X0_against 1 rfl) 2 rfl rfl rfl ?_
  obtain ⟨q1, hq1, h⟩ := bd_some h
  refine K_X0_44 [vi a2, vi a1] hC (s_X4_paper (xG x) (xl x) N a2 a1 w q1 hq1) (Nat.le_of_ble_eq_true rfl) rfl rfl rfl (Nat.le_of_ble_eq_true rfl) (dk d_X0_against 2 rfl) 5 rfl ?_
  refine Z_istore_n hC (dk d_X0_against 3 rfl) 6 rfl rfl (Nat.le_of_ble_eq_true rfl) [some (vr 3 i), some (vi a1), some (vi a2), some (vi q1.1), none] rfl ?_
  refine Z_aload_n hC (dk d_X0_against 4 rfl) 7 rfl rfl rfl ?_
  refine Z_iload_n hC (dk d_X0_against 5 rfl) 8 rfl rfl rfl ?_
  refine Z_iload_n hC (dk d_X0_against 6 rfl) 9 rfl rfl rfl ?_
  obtain ⟨q2, hq2, h⟩ := bd_some h
  refine K_X0_59 [vi a1, vi q1.1] hC (m_3 hi) (s_X0_barrier (xG x) (xl x) N i hi a1 q1.1 q1.2 q2 hq2) (Nat.le_of_ble_eq_true rfl) rfl rfl rfl (Nat.le_of_ble_eq_true rfl) (dk d_X0_against 7 rfl) 12 rfl ?_
  refine Z_istore hC (dk d_X0_against 8 rfl) 14 rfl (Nat.le_of_ble_eq_true rfl) [some (vr 3 i), some (vi a1), some (vi a2), some (vi q1.1), some (vi q2.1)] rfl ?_
  refine Z_iload hC (dk d_X0_against 9 rfl) 16 rfl rfl ?_
  refine Z_if_ne hC (dk d_X0_against 10 rfl) 19 39 rfl (by decide) (fun c => ?_) (fun c => ?_)
  · have h := it_f h c
    refine Z_iload hC (dk d_X0_against 23 rfl) 41 rfl rfl ?_
    obtain rfl := Option.some.inj h
    exact Z_ireturn (st := []) hC hr hQ (dk d_X0_against 24 rfl)
  · have h := it_t h c
    refine Z_iload_n hC (dk d_X0_against 11 rfl) 20 rfl rfl rfl ?_
    refine Z_iload_n hC (dk d_X0_against 12 rfl) 21 rfl rfl rfl ?_
    obtain ⟨q3, hq3, h⟩ := bd_some h
    refine K_X0_44 [vi a2, vi q1.1] hC (s_X4_paper (xG x) (xl x) N a2 q1.1 q2.2 q3 hq3) (Nat.le_of_ble_eq_true rfl) rfl rfl rfl (Nat.le_of_ble_eq_true rfl) (dk d_X0_against 13 rfl) 24 rfl ?_
    refine Z_iload_n hC (dk d_X0_against 14 rfl) 25 rfl rfl rfl ?_
    refine Z_icmp_ne hC (dk d_X0_against 15 rfl) 28 39 rfl (by decide) (fun c => ?_) (fun c => ?_)
    · have h := it_f h c
      refine Z_iload hC (dk d_X0_against 23 rfl) 41 rfl rfl ?_
      obtain rfl := Option.some.inj h
      exact Z_ireturn (st := []) hC hr hQ (dk d_X0_against 24 rfl)
    · have h := it_t h c
      refine Z_aload_n hC (dk d_X0_against 16 rfl) 29 rfl rfl rfl ?_
      refine Z_iload_n hC (dk d_X0_against 17 rfl) 30 rfl rfl rfl ?_
      refine Z_iload_n hC (dk d_X0_against 18 rfl) 31 rfl rfl rfl ?_
      obtain ⟨q4, hq4, h⟩ := bd_some h
      refine K_X0_62 [vi a1, vi q1.1] hC (m_3 hi) (s_X0_minds (xG x) (xl x) N i hi a1 q1.1 q3.2 q4 hq4) (Nat.le_of_ble_eq_true rfl) rfl rfl rfl (Nat.le_of_ble_eq_true rfl) (dk d_X0_against 19 rfl) 34 rfl ?_
      refine Z_if_eq hC (dk d_X0_against 20 rfl) 37 39 rfl (by decide) (fun c => ?_) (fun c => ?_)
      · have h := it_t h c
        refine Z_iload hC (dk d_X0_against 23 rfl) 41 rfl rfl ?_
        obtain rfl := Option.some.inj h
        exact Z_ireturn (st := []) hC hr hQ (dk d_X0_against 24 rfl)
      · have h := it_f h c
        refine Z_iconst (v := 5) hC (dk d_X0_against 21 rfl) 38 rfl (by decide) ?_
        obtain rfl := Option.some.inj h
        exact Z_ireturn (st := []) hC hr hQ (dk d_X0_against 22 rfl)
def t_J6_bitCount_0f7a4 : List (Nat × Instr × Nat) := [(0, .iload_n 0, 1), (1, .iload_n 0, 1), (2, .iconst 1, 1), (3, .iushr, 1), (4, .ldc_w 265, 3), (7, .iand, 1), (8, .isub, 1), (9, .istore_n 0, 1), (10, .iload_n 0, 1), (11, .ldc_w 266, 3), (14, .iand, 1), (15, .iload_n 0, 1), (16, .iconst 2, 1), (17, .iushr, 1), (18, .ldc_w 266, 3), (21, .iand, 1), (22, .iadd, 1), (23, .istore_n 0, 1), (24, .iload_n 0, 1), (25, .iload_n 0, 1), (26, .iconst 4, 1), (27, .iushr, 1), (28, .iadd, 1), (29, .ldc_w 267, 3), (32, .iand, 1), (33, .istore_n 0, 1), (34, .iload_n 0, 1), (35, .iload_n 0, 1), (36, .bipush 8, 2), (38, .iushr, 1), (39, .iadd, 1), (40, .istore_n 0, 1), (41, .iload_n 0, 1), (42, .iload_n 0, 1), (43, .bipush 16, 2), (45, .iushr, 1), (46, .iadd, 1), (47, .istore_n 0, 1), (48, .iload_n 0, 1), (49, .bipush 63, 2), (51, .iand, 1), (52, .ireturn, 1)]
set_option maxRecDepth 20000 in
theorem d_J6_bitCount_0f7a4 : ∀ q ∈ t_J6_bitCount_0f7a4, decode cJ6_bitCount_0f7a4 q.1 = .ok q.2 := by decide +kernel
noncomputable def f_J6_bitCount_0f7a4 (N : Nat) (a1 : Int32) (w : Wd) : Option (Int32 × Wd) :=
  some ((((((((a1 - (((a1.toUInt32 >>> ((1 : Int32).toUInt32 &&& Int32.toUInt32 31)).toInt32) &&& (1431655765 : Int32))) &&& (858993459 : Int32)) + ((((a1 - (((a1.toUInt32 >>> ((1 : Int32).toUInt32 &&& Int32.toUInt32 31)).toInt32) &&& (1431655765 : Int32))).toUInt32 >>> ((2 : Int32).toUInt32 &&& Int32.toUInt32 31)).toInt32) &&& (858993459 : Int32))) + (((((a1 - (((a1.toUInt32 >>> ((1 : Int32).toUInt32 &&& Int32.toUInt32 31)).toInt32) &&& (1431655765 : Int32))) &&& (858993459 : Int32)) + ((((a1 - (((a1.toUInt32 >>> ((1 : Int32).toUInt32 &&& Int32.toUInt32 31)).toInt32) &&& (1431655765 : Int32))).toUInt32 >>> ((2 : Int32).toUInt32 &&& Int32.toUInt32 31)).toInt32) &&& (858993459 : Int32))).toUInt32 >>> ((4 : Int32).toUInt32 &&& Int32.toUInt32 31)).toInt32)) &&& (252645135 : Int32)) + (((((((a1 - (((a1.toUInt32 >>> ((1 : Int32).toUInt32 &&& Int32.toUInt32 31)).toInt32) &&& (1431655765 : Int32))) &&& (858993459 : Int32)) + ((((a1 - (((a1.toUInt32 >>> ((1 : Int32).toUInt32 &&& Int32.toUInt32 31)).toInt32) &&& (1431655765 : Int32))).toUInt32 >>> ((2 : Int32).toUInt32 &&& Int32.toUInt32 31)).toInt32) &&& (858993459 : Int32))) + (((((a1 - (((a1.toUInt32 >>> ((1 : Int32).toUInt32 &&& Int32.toUInt32 31)).toInt32) &&& (1431655765 : Int32))) &&& (858993459 : Int32)) + ((((a1 - (((a1.toUInt32 >>> ((1 : Int32).toUInt32 &&& Int32.toUInt32 31)).toInt32) &&& (1431655765 : Int32))).toUInt32 >>> ((2 : Int32).toUInt32 &&& Int32.toUInt32 31)).toInt32) &&& (858993459 : Int32))).toUInt32 >>> ((4 : Int32).toUInt32 &&& Int32.toUInt32 31)).toInt32)) &&& (252645135 : Int32)).toUInt32 >>> ((8 : Int32).toUInt32 &&& Int32.toUInt32 31)).toInt32)) + ((((((((a1 - (((a1.toUInt32 >>> ((1 : Int32).toUInt32 &&& Int32.toUInt32 31)).toInt32) &&& (1431655765 : Int32))) &&& (858993459 : Int32)) + ((((a1 - (((a1.toUInt32 >>> ((1 : Int32).toUInt32 &&& Int32.toUInt32 31)).toInt32) &&& (1431655765 : Int32))).toUInt32 >>> ((2 : Int32).toUInt32 &&& Int32.toUInt32 31)).toInt32) &&& (858993459 : Int32))) + (((((a1 - (((a1.toUInt32 >>> ((1 : Int32).toUInt32 &&& Int32.toUInt32 31)).toInt32) &&& (1431655765 : Int32))) &&& (858993459 : Int32)) + ((((a1 - (((a1.toUInt32 >>> ((1 : Int32).toUInt32 &&& Int32.toUInt32 31)).toInt32) &&& (1431655765 : Int32))).toUInt32 >>> ((2 : Int32).toUInt32 &&& Int32.toUInt32 31)).toInt32) &&& (858993459 : Int32))).toUInt32 >>> ((4 : Int32).toUInt32 &&& Int32.toUInt32 31)).toInt32)) &&& (252645135 : Int32)) + (((((((a1 - (((a1.toUInt32 >>> ((1 : Int32).toUInt32 &&& Int32.toUInt32 31)).toInt32) &&& (1431655765 : Int32))) &&& (858993459 : Int32)) + ((((a1 - (((a1.toUInt32 >>> ((1 : Int32).toUInt32 &&& Int32.toUInt32 31)).toInt32) &&& (1431655765 : Int32))).toUInt32 >>> ((2 : Int32).toUInt32 &&& Int32.toUInt32 31)).toInt32) &&& (858993459 : Int32))) + (((((a1 - (((a1.toUInt32 >>> ((1 : Int32).toUInt32 &&& Int32.toUInt32 31)).toInt32) &&& (1431655765 : Int32))) &&& (858993459 : Int32)) + ((((a1 - (((a1.toUInt32 >>> ((1 : Int32).toUInt32 &&& Int32.toUInt32 31)).toInt32) &&& (1431655765 : Int32))).toUInt32 >>> ((2 : Int32).toUInt32 &&& Int32.toUInt32 31)).toInt32) &&& (858993459 : Int32))).toUInt32 >>> ((4 : Int32).toUInt32 &&& Int32.toUInt32 31)).toInt32)) &&& (252645135 : Int32)).toUInt32 >>> ((8 : Int32).toUInt32 &&& Int32.toUInt32 31)).toInt32)).toUInt32 >>> ((16 : Int32).toUInt32 &&& Int32.toUInt32 31)).toInt32)) &&& (63 : Int32), w)
set_option maxRecDepth 20000 in
set_option maxHeartbeats 4000000 in
theorem s_J6_bitCount_0f7a4 (G : GT) (l : Launch) (N : Nat) (a1 : Int32) (w : Wd) (q : Int32 × Wd) (h : f_J6_bitCount_0f7a4 N a1 w = some q) : Sp G l yJ6_bitCount_0f7a4 cw_J6_bitCount_0f7a4 0 [vi a1] w (some (vi q.1)) q.2 := by
  refine Sp_of (own := RJ6) [some (vi a1)] (by decide) rfl rfl (Nat.le_of_ble_eq_true rfl) ?_
  intro x hG hl hC hr hQ _ _
  subst hG
  subst hl
  unfold f_J6_bitCount_0f7a4 at h
  refine Z_iload_n hC (dk d_J6_bitCount_0f7a4 0 rfl) 1 rfl rfl rfl ?_
  refine Z_iload_n hC (dk d_J6_bitCount_0f7a4 1 rfl) 2 rfl rfl rfl ?_
  refine Z_iconst (v := 1) hC (dk d_J6_bitCount_0f7a4 2 rfl) 3 rfl (by decide) ?_
  refine Z_iushr hC (dk d_J6_bitCount_0f7a4 3 rfl) 4 rfl ?_
  refine Z_ldcw hC kc_J6_265 (dk d_J6_bitCount_0f7a4 4 rfl) 7 rfl ?_
  refine Z_iand hC (dk d_J6_bitCount_0f7a4 5 rfl) 8 rfl ?_
  refine Z_isub hC (dk d_J6_bitCount_0f7a4 6 rfl) 9 rfl ?_
  refine Z_istore_n hC (dk d_J6_bitCount_0f7a4 7 rfl) 10 rfl rfl (Nat.le_of_ble_eq_true rfl) [some (vi (a1 - (((a1.toUInt32 >>> ((1 : Int32).toUInt32 &&& Int32.toUInt32 31)).toInt32) &&& (1431655765 : Int32))))] rfl ?_
  refine Z_iload_n hC (dk d_J6_bitCount_0f7a4 8 rfl) 11 rfl rfl rfl ?_
  refine Z_ldcw hC kc_J6_266 (dk d_J6_bitCount_0f7a4 9 rfl) 14 rfl ?_
  refine Z_iand hC (dk d_J6_bitCount_0f7a4 10 rfl) 15 rfl ?_
  refine Z_iload_n hC (dk d_J6_bitCount_0f7a4 11 rfl) 16 rfl rfl rfl ?_
  refine Z_iconst (v := 2) hC (dk d_J6_bitCount_0f7a4 12 rfl) 17 rfl (by decide) ?_
  refine Z_iushr hC (dk d_J6_bitCount_0f7a4 13 rfl) 18 rfl ?_
  refine Z_ldcw hC kc_J6_266 (dk d_J6_bitCount_0f7a4 14 rfl) 21 rfl ?_
  refine Z_iand hC (dk d_J6_bitCount_0f7a4 15 rfl) 22 rfl ?_
  refine Z_iadd hC (dk d_J6_bitCount_0f7a4 16 rfl) 23 rfl ?_
  refine Z_istore_n hC (dk d_J6_bitCount_0f7a4 17 rfl) 24 rfl rfl (Nat.le_of_ble_eq_true rfl) [some (vi (((a1 - (((a1.toUInt32 >>> ((1 : Int32).toUInt32 &&& Int32.toUInt32 31)).toInt32) &&& (1431655765 : Int32))) &&& (858993459 : Int32)) + ((((a1 - (((a1.toUInt32 >>> ((1 : Int32).toUInt32 &&& Int32.toUInt32 31)).toInt32) &&& (1431655765 : Int32))).toUInt32 >>> ((2 : Int32).toUInt32 &&& Int32.toUInt32 31)).toInt32) &&& (858993459 : Int32))))] rfl ?_
  refine Z_iload_n hC (dk d_J6_bitCount_0f7a4 18 rfl) 25 rfl rfl rfl ?_
  refine Z_iload_n hC (dk d_J6_bitCount_0f7a4 19 rfl) 26 rfl rfl rfl ?_
  refine Z_iconst (v := 4) hC (dk d_J6_bitCount_0f7a4 20 rfl) 27 rfl (by decide) ?_
  refine Z_iushr hC (dk d_J6_bitCount_0f7a4 21 rfl) 28 rfl ?_
  refine Z_iadd hC (dk d_J6_bitCount_0f7a4 22 rfl) 29 rfl ?_
  refine Z_ldcw hC kc_J6_267 (dk d_J6_bitCount_0f7a4 23 rfl) 32 rfl ?_
  refine Z_iand hC (dk d_J6_bitCount_0f7a4 24 rfl) 33 rfl ?_
  refine Z_istore_n hC (dk d_J6_bitCount_0f7a4 25 rfl) 34 rfl rfl (Nat.le_of_ble_eq_true rfl) [some (vi (((((a1 - (((a1.toUInt32 >>> ((1 : Int32).toUInt32 &&& Int32.toUInt32 31)).toInt32) &&& (1431655765 : Int32))) &&& (858993459 : Int32)) + ((((a1 - (((a1.toUInt32 >>> ((1 : Int32).toUInt32 &&& Int32.toUInt32 31)).toInt32) &&& (1431655765 : Int32))).toUInt32 >>> ((2 : Int32).toUInt32 &&& Int32.toUInt32 31)).toInt32) &&& (858993459 : Int32))) + (((((a1 - (((a1.toUInt32 >>> ((1 : Int32).toUInt32 &&& Int32.toUInt32 31)).toInt32) &&& (1431655765 : Int32))) &&& (858993459 : Int32)) + ((((a1 - (((a1.toUInt32 >>> ((1 : Int32).toUInt32 &&& Int32.toUInt32 31)).toInt32) &&& (1431655765 : Int32))).toUInt32 >>> ((2 : Int32).toUInt32 &&& Int32.toUInt32 31)).toInt32) &&& (858993459 : Int32))).toUInt32 >>> ((4 : Int32).toUInt32 &&& Int32.toUInt32 31)).toInt32)) &&& (252645135 : Int32)))] rfl ?_
  refine Z_iload_n hC (dk d_J6_bitCount_0f7a4 26 rfl) 35 rfl rfl rfl ?_
  refine Z_iload_n hC (dk d_J6_bitCount_0f7a4 27 rfl) 36 rfl rfl rfl ?_
  refine Z_bipush (v := 8) hC (dk d_J6_bitCount_0f7a4 28 rfl) 38 rfl (by decide) ?_
  refine Z_iushr hC (dk d_J6_bitCount_0f7a4 29 rfl) 39 rfl ?_
  refine Z_iadd hC (dk d_J6_bitCount_0f7a4 30 rfl) 40 rfl ?_
  refine Z_istore_n hC (dk d_J6_bitCount_0f7a4 31 rfl) 41 rfl rfl (Nat.le_of_ble_eq_true rfl) [some (vi ((((((a1 - (((a1.toUInt32 >>> ((1 : Int32).toUInt32 &&& Int32.toUInt32 31)).toInt32) &&& (1431655765 : Int32))) &&& (858993459 : Int32)) + ((((a1 - (((a1.toUInt32 >>> ((1 : Int32).toUInt32 &&& Int32.toUInt32 31)).toInt32) &&& (1431655765 : Int32))).toUInt32 >>> ((2 : Int32).toUInt32 &&& Int32.toUInt32 31)).toInt32) &&& (858993459 : Int32))) + (((((a1 - (((a1.toUInt32 >>> ((1 : Int32).toUInt32 &&& Int32.toUInt32 31)).toInt32) &&& (1431655765 : Int32))) &&& (858993459 : Int32)) + ((((a1 - (((a1.toUInt32 >>> ((1 : Int32).toUInt32 &&& Int32.toUInt32 31)).toInt32) &&& (1431655765 : Int32))).toUInt32 >>> ((2 : Int32).toUInt32 &&& Int32.toUInt32 31)).toInt32) &&& (858993459 : Int32))).toUInt32 >>> ((4 : Int32).toUInt32 &&& Int32.toUInt32 31)).toInt32)) &&& (252645135 : Int32)) + (((((((a1 - (((a1.toUInt32 >>> ((1 : Int32).toUInt32 &&& Int32.toUInt32 31)).toInt32) &&& (1431655765 : Int32))) &&& (858993459 : Int32)) + ((((a1 - (((a1.toUInt32 >>> ((1 : Int32).toUInt32 &&& Int32.toUInt32 31)).toInt32) &&& (1431655765 : Int32))).toUInt32 >>> ((2 : Int32).toUInt32 &&& Int32.toUInt32 31)).toInt32) &&& (858993459 : Int32))) + (((((a1 - (((a1.toUInt32 >>> ((1 : Int32).toUInt32 &&& Int32.toUInt32 31)).toInt32) &&& (1431655765 : Int32))) &&& (858993459 : Int32)) + ((((a1 - (((a1.toUInt32 >>> ((1 : Int32).toUInt32 &&& Int32.toUInt32 31)).toInt32) &&& (1431655765 : Int32))).toUInt32 >>> ((2 : Int32).toUInt32 &&& Int32.toUInt32 31)).toInt32) &&& (858993459 : Int32))).toUInt32 >>> ((4 : Int32).toUInt32 &&& Int32.toUInt32 31)).toInt32)) &&& (252645135 : Int32)).toUInt32 >>> ((8 : Int32).toUInt32 &&& Int32.toUInt32 31)).toInt32)))] rfl ?_
  refine Z_iload_n hC (dk d_J6_bitCount_0f7a4 32 rfl) 42 rfl rfl rfl ?_
  refine Z_iload_n hC (dk d_J6_bitCount_0f7a4 33 rfl) 43 rfl rfl rfl ?_
  refine Z_bipush (v := 16) hC (dk d_J6_bitCount_0f7a4 34 rfl) 45 rfl (by decide) ?_
  refine Z_iushr hC (dk d_J6_bitCount_0f7a4 35 rfl) 46 rfl ?_
  refine Z_iadd hC (dk d_J6_bitCount_0f7a4 36 rfl) 47 rfl ?_
  refine Z_istore_n hC (dk d_J6_bitCount_0f7a4 37 rfl) 48 rfl rfl (Nat.le_of_ble_eq_true rfl) [some (vi (((((((a1 - (((a1.toUInt32 >>> ((1 : Int32).toUInt32 &&& Int32.toUInt32 31)).toInt32) &&& (1431655765 : Int32))) &&& (858993459 : Int32)) + ((((a1 - (((a1.toUInt32 >>> ((1 : Int32).toUInt32 &&& Int32.toUInt32 31)).toInt32) &&& (1431655765 : Int32))).toUInt32 >>> ((2 : Int32).toUInt32 &&& Int32.toUInt32 31)).toInt32) &&& (858993459 : Int32))) + (((((a1 - (((a1.toUInt32 >>> ((1 : Int32).toUInt32 &&& Int32.toUInt32 31)).toInt32) &&& (1431655765 : Int32))) &&& (858993459 : Int32)) + ((((a1 - (((a1.toUInt32 >>> ((1 : Int32).toUInt32 &&& Int32.toUInt32 31)).toInt32) &&& (1431655765 : Int32))).toUInt32 >>> ((2 : Int32).toUInt32 &&& Int32.toUInt32 31)).toInt32) &&& (858993459 : Int32))).toUInt32 >>> ((4 : Int32).toUInt32 &&& Int32.toUInt32 31)).toInt32)) &&& (252645135 : Int32)) + (((((((a1 - (((a1.toUInt32 >>> ((1 : Int32).toUInt32 &&& Int32.toUInt32 31)).toInt32) &&& (1431655765 : Int32))) &&& (858993459 : Int32)) + ((((a1 - (((a1.toUInt32 >>> ((1 : Int32).toUInt32 &&& Int32.toUInt32 31)).toInt32) &&& (1431655765 : Int32))).toUInt32 >>> ((2 : Int32).toUInt32 &&& Int32.toUInt32 31)).toInt32) &&& (858993459 : Int32))) + (((((a1 - (((a1.toUInt32 >>> ((1 : Int32).toUInt32 &&& Int32.toUInt32 31)).toInt32) &&& (1431655765 : Int32))) &&& (858993459 : Int32)) + ((((a1 - (((a1.toUInt32 >>> ((1 : Int32).toUInt32 &&& Int32.toUInt32 31)).toInt32) &&& (1431655765 : Int32))).toUInt32 >>> ((2 : Int32).toUInt32 &&& Int32.toUInt32 31)).toInt32) &&& (858993459 : Int32))).toUInt32 >>> ((4 : Int32).toUInt32 &&& Int32.toUInt32 31)).toInt32)) &&& (252645135 : Int32)).toUInt32 >>> ((8 : Int32).toUInt32 &&& Int32.toUInt32 31)).toInt32)) + ((((((((a1 - (((a1.toUInt32 >>> ((1 : Int32).toUInt32 &&& Int32.toUInt32 31)).toInt32) &&& (1431655765 : Int32))) &&& (858993459 : Int32)) + ((((a1 - (((a1.toUInt32 >>> ((1 : Int32).toUInt32 &&& Int32.toUInt32 31)).toInt32) &&& (1431655765 : Int32))).toUInt32 >>> ((2 : Int32).toUInt32 &&& Int32.toUInt32 31)).toInt32) &&& (858993459 : Int32))) + (((((a1 - (((a1.toUInt32 >>> ((1 : Int32).toUInt32 &&& Int32.toUInt32 31)).toInt32) &&& (1431655765 : Int32))) &&& (858993459 : Int32)) + ((((a1 - (((a1.toUInt32 >>> ((1 : Int32).toUInt32 &&& Int32.toUInt32 31)).toInt32) &&& (1431655765 : Int32))).toUInt32 >>> ((2 : Int32).toUInt32 &&& Int32.toUInt32 31)).toInt32) &&& (858993459 : Int32))).toUInt32 >>> ((4 : Int32).toUInt32 &&& Int32.toUInt32 31)).toInt32)) &&& (252645135 : Int32)) + (((((((a1 - (((a1.toUInt32 >>> ((1 : Int32).toUInt32 &&& Int32.toUInt32 31)).toInt32) &&& (1431655765 : Int32))) &&& (858993459 : Int32)) + ((((a1 - (((a1.toUInt32 >>> ((1 : Int32).toUInt32 &&& Int32.toUInt32 31)).toInt32) &&& (1431655765 : Int32))).toUInt32 >>> ((2 : Int32).toUInt32 &&& Int32.toUInt32 31)).toInt32) &&& (858993459 : Int32))) + (((((a1 - (((a1.toUInt32 >>> ((1 : Int32).toUInt32 &&& Int32.toUInt32 31)).toInt32) &&& (1431655765 : Int32))) &&& (858993459 : Int32)) + ((((a1 - (((a1.toUInt32 >>> ((1 : Int32).toUInt32 &&& Int32.toUInt32 31)).toInt32) &&& (1431655765 : Int32))).toUInt32 >>> ((2 : Int32).toUInt32 &&& Int32.toUInt32 31)).toInt32) &&& (858993459 : Int32))).toUInt32 >>> ((4 : Int32).toUInt32 &&& Int32.toUInt32 31)).toInt32)) &&& (252645135 : Int32)).toUInt32 >>> ((8 : Int32).toUInt32 &&& Int32.toUInt32 31)).toInt32)).toUInt32 >>> ((16 : Int32).toUInt32 &&& Int32.toUInt32 31)).toInt32)))] rfl ?_
  refine Z_iload_n hC (dk d_J6_bitCount_0f7a4 38 rfl) 49 rfl rfl rfl ?_
  refine Z_bipush (v := 63) hC (dk d_J6_bitCount_0f7a4 39 rfl) 51 rfl (by decide) ?_
  refine Z_iand hC (dk d_J6_bitCount_0f7a4 40 rfl) 52 rfl ?_
  obtain rfl := Option.some.inj h
  exact Z_ireturn (st := []) hC hr hQ (dk d_J6_bitCount_0f7a4 41 rfl)
def t_X4_ringOf : List (Nat × Instr × Nat) := [(0, .iconst 0, 1), (1, .istore_n 2, 1), (2, .iload_n 1, 1), (3, .istore_n 3, 1), (4, .iconst 0, 1), (5, .istore 4, 2), (7, .iload 4, 2), (9, .bipush 6, 2), (11, .if_icmp .ge 21, 3), (14, .iload_n 2, 1), (15, .iconst 1, 1), (16, .iload_n 3, 1), (17, .ishl, 1), (18, .ior, 1), (19, .istore_n 2, 1), (20, .iload_n 0, 1), (21, .iload_n 3, 1), (22, .invokestatic 220, 3), (25, .istore_n 3, 1), (26, .iinc 4 1, 3), (29, .goto (-22), 3), (32, .iload_n 2, 1), (33, .ireturn, 1)]
set_option maxRecDepth 20000 in
theorem d_X4_ringOf : ∀ q ∈ t_X4_ringOf, decode cX4_ringOf q.1 = .ok q.2 := by decide +kernel
noncomputable def X4_ringOf_L1 (N : Nat) (x0 : Int32) : Nat → Int32 → Int32 → Int32 → Wd → Option (Int32 × Wd)
  | 0, _, _, _, _ => none
  | n + 1, x2, x3, x4, w =>
  if (6 : Int32) ≤ x4 then
    some (x2, w)
  else
    (f_X4_paper N x0 x3 w).bind (fun q1 =>
      X4_ringOf_L1 N x0 n (x2 ||| ((1 : Int32) <<< (x3 &&& (31 : Int32)))) q1.1 (x4 + (1 : Int32)) q1.2)
set_option maxRecDepth 20000 in
set_option maxHeartbeats 4000000 in
theorem z_X4_ringOf_L1 {x : CX} (hC : Cx x RX4 cX4_ringOf 5 1) (hr : (xM x).sig.returnType = (some .int)) (N : Nat) (x0 : Int32) : ∀ (n : Nat) (x2 : Int32) (x3 : Int32) (x4 : Int32) (w : Wd) (q : (Int32 × Wd)), X4_ringOf_L1 N x0 n x2 x3 x4 w = some q → Z x 32 [none, none, some (vi q.1), none, none] [] q.2 → Z x 7 [some (vi x0), none, some (vi x2), some (vi x3), some (vi x4)] [] w := by
  intro n
  induction n with
  | zero =>
    intro x2 x3 x4 w q h
    cases h
  | succ n ih =>
    intro x2 x3 x4 w q h ke
    rw [X4_ringOf_L1] at h
    refine Z_iload hC (dk d_X4_ringOf 6 rfl) 9 rfl rfl ?_
    refine Z_bipush (v := 6) hC (dk d_X4_ringOf 7 rfl) 11 rfl (by decide) ?_
    refine Z_icmp_ge hC (dk d_X4_ringOf 8 rfl) 14 32 rfl (by decide) (fun c => ?_) (fun c => ?_)
    · have h := it_t h c
      obtain rfl := Option.some.inj h
      refine Z_wk [false, false, true, false, false] [none, none, some (vi x2), none, none] rfl ?_
      exact ke
    · have h := it_f h c
      refine Z_iload_n hC (dk d_X4_ringOf 9 rfl) 15 rfl rfl rfl ?_
      refine Z_iconst (v := 1) hC (dk d_X4_ringOf 10 rfl) 16 rfl (by decide) ?_
      refine Z_iload_n hC (dk d_X4_ringOf 11 rfl) 17 rfl rfl rfl ?_
      refine Z_ishl hC (dk d_X4_ringOf 12 rfl) 18 rfl ?_
      refine Z_ior hC (dk d_X4_ringOf 13 rfl) 19 rfl ?_
      refine Z_istore_n hC (dk d_X4_ringOf 14 rfl) 20 rfl rfl (Nat.le_of_ble_eq_true rfl) [some (vi x0), none, some (vi (x2 ||| ((1 : Int32) <<< (x3 &&& (31 : Int32))))), some (vi x3), some (vi x4)] rfl ?_
      refine Z_iload_n hC (dk d_X4_ringOf 15 rfl) 21 rfl rfl rfl ?_
      refine Z_iload_n hC (dk d_X4_ringOf 16 rfl) 22 rfl rfl rfl ?_
      obtain ⟨q1, hq1, h⟩ := bd_some h
      refine K_X4_220 [vi x0, vi x3] hC (s_X4_paper (xG x) (xl x) N x0 x3 w q1 hq1) (Nat.le_of_ble_eq_true rfl) rfl rfl rfl (Nat.le_of_ble_eq_true rfl) (dk d_X4_ringOf 17 rfl) 25 rfl ?_
      refine Z_istore_n hC (dk d_X4_ringOf 18 rfl) 26 rfl rfl (Nat.le_of_ble_eq_true rfl) [some (vi x0), none, some (vi (x2 ||| ((1 : Int32) <<< (x3 &&& (31 : Int32))))), some (vi q1.1), some (vi x4)] rfl ?_
      refine Z_iinc hC (dk d_X4_ringOf 19 rfl) 29 rfl rfl rfl [some (vi x0), none, some (vi (x2 ||| ((1 : Int32) <<< (x3 &&& (31 : Int32))))), some (vi q1.1), some (vi (x4 + (1 : Int32)))] rfl ?_
      refine Z_goto hC (dk d_X4_ringOf 20 rfl) 7 (by decide) ?_
      refine Z_wk [true, false, true, true, true] [some (vi x0), none, some (vi (x2 ||| ((1 : Int32) <<< (x3 &&& (31 : Int32))))), some (vi q1.1), some (vi (x4 + (1 : Int32)))] rfl ?_
      exact ih (x2 ||| ((1 : Int32) <<< (x3 &&& (31 : Int32)))) q1.1 (x4 + (1 : Int32)) q1.2 _ h ke
noncomputable def f_X4_ringOf (N : Nat) (a1 : Int32) (a2 : Int32) (w : Wd) : Option (Int32 × Wd) :=
  (X4_ringOf_L1 N a1 N (0 : Int32) a2 (0 : Int32) w).bind (fun q2 =>
    some (q2.1, q2.2))
set_option maxRecDepth 20000 in
set_option maxHeartbeats 4000000 in
theorem s_X4_ringOf (G : GT) (l : Launch) (N : Nat) (a1 : Int32) (a2 : Int32) (w : Wd) (q : Int32 × Wd) (h : f_X4_ringOf N a1 a2 w = some q) : Sp G l yX4_ringOf cw_X4_ringOf 1 [vi a1, vi a2] w (some (vi q.1)) q.2 := by
  refine Sp_of (own := RX4) [some (vi a1), some (vi a2), none, none, none] (by decide) rfl rfl (Nat.le_of_ble_eq_true rfl) ?_
  intro x hG hl hC hr hQ _ _
  subst hG
  subst hl
  unfold f_X4_ringOf at h
  refine Z_iconst (v := 0) hC (dk d_X4_ringOf 0 rfl) 1 rfl (by decide) ?_
  refine Z_istore_n hC (dk d_X4_ringOf 1 rfl) 2 rfl rfl (Nat.le_of_ble_eq_true rfl) [some (vi a1), some (vi a2), some (vi (0 : Int32)), none, none] rfl ?_
  refine Z_iload_n hC (dk d_X4_ringOf 2 rfl) 3 rfl rfl rfl ?_
  refine Z_istore_n hC (dk d_X4_ringOf 3 rfl) 4 rfl rfl (Nat.le_of_ble_eq_true rfl) [some (vi a1), some (vi a2), some (vi (0 : Int32)), some (vi a2), none] rfl ?_
  refine Z_iconst (v := 0) hC (dk d_X4_ringOf 4 rfl) 5 rfl (by decide) ?_
  refine Z_istore hC (dk d_X4_ringOf 5 rfl) 7 rfl (Nat.le_of_ble_eq_true rfl) [some (vi a1), some (vi a2), some (vi (0 : Int32)), some (vi a2), some (vi (0 : Int32))] rfl ?_
  obtain ⟨q2, hq2, h⟩ := bd_some h
  refine Z_wk [true, false, true, true, true] [some (vi a1), none, some (vi (0 : Int32)), some (vi a2), some (vi (0 : Int32))] rfl ?_
  refine z_X4_ringOf_L1 hC hr N a1 N (0 : Int32) a2 (0 : Int32) w q2 hq2 ?_
  refine Z_iload_n hC (dk d_X4_ringOf 21 rfl) 33 rfl rfl rfl ?_
  obtain rfl := Option.some.inj h
  exact Z_ireturn (st := []) hC hr hQ (dk d_X4_ringOf 22 rfl)
def t_X0_breaksRing : List (Nat × Instr × Nat) := [(0, .aload_n 0, 1), (1, .bipush 8, 2), (3, .invokevirtual 55, 3), (6, .ifCond .eq 29, 3), (9, .aload_n 0, 1), (10, .getfield 28, 3), (13, .ifCond .le 22, 3), (16, .iload_n 1, 1), (17, .iconst 0, 1), (18, .invokestatic 65, 3), (21, .invokestatic 68, 3), (24, .aload_n 0, 1), (25, .getfield 28, 3), (28, .if_icmp .ge 7, 3), (31, .iconst 1, 1), (32, .goto 4, 3), (35, .iconst 0, 1), (36, .ireturn, 1)]
set_option maxRecDepth 20000 in
theorem d_X0_breaksRing : ∀ q ∈ t_X0_breaksRing, decode cX0_breaksRing q.1 = .ok q.2 := by decide +kernel
noncomputable def f_X0_breaksRing (N : Nat) (i : Nat) (a1 : Int32) (w : Wd) : Option (Int32 × Wd) :=
  (f_X0_isFor N i (8 : Int32) w).bind (fun q1 =>
    if q1.1 = 0 then
      some ((0 : Int32), q1.2)
    else
      if (gI q1.2 4 i) ≤ 0 then
        some ((0 : Int32), q1.2)
      else
        (f_X4_ringOf N a1 (0 : Int32) q1.2).bind (fun q2 =>
          (f_J6_bitCount_0f7a4 N q2.1 q2.2).bind (fun q3 =>
            if (gI q3.2 4 i) ≤ q3.1 then
              some ((0 : Int32), q3.2)
            else
              some ((1 : Int32), q3.2))))
set_option maxRecDepth 20000 in
set_option maxHeartbeats 4000000 in
theorem s_X0_breaksRing (G : GT) (l : Launch) (N : Nat) (i : Nat) (hi : i < 2) (a1 : Int32) (w : Wd) (q : Int32 × Wd) (h : f_X0_breaksRing N i a1 w = some q) : Sp G l yX0_breaksRing cw_X0_breaksRing 2 [vr 3 i, vi a1] w (some (vi q.1)) q.2 := by
  refine Sp_of (own := RX0) [some (vr 3 i), some (vi a1)] (by decide) rfl rfl (Nat.le_of_ble_eq_true rfl) ?_
  intro x hG hl hC hr hQ _ _
  subst hG
  subst hl
  unfold f_X0_breaksRing at h
  refine Z_aload_n hC (dk d_X0_breaksRing 0 rfl) 1 rfl rfl rfl ?_
  refine Z_bipush (v := 8) hC (dk d_X0_breaksRing 1 rfl) 3 rfl (by decide) ?_
  obtain ⟨q1, hq1, h⟩ := bd_some h
  refine K_X0_55 [vi (8 : Int32)] hC (m_3 hi) (s_X0_isFor (xG x) (xl x) N i hi (8 : Int32) w q1 hq1) (Nat.le_of_ble_eq_true rfl) rfl rfl rfl (Nat.le_of_ble_eq_true rfl) (dk d_X0_breaksRing 2 rfl) 6 rfl ?_
  refine Z_if_eq hC (dk d_X0_breaksRing 3 rfl) 9 35 rfl (by decide) (fun c => ?_) (fun c => ?_)
  · have h := it_t h c
    refine Z_iconst (v := 0) hC (dk d_X0_breaksRing 16 rfl) 36 rfl (by decide) ?_
    obtain rfl := Option.some.inj h
    exact Z_zreturn (st := []) hC hr rfl hQ (dk d_X0_breaksRing 17 rfl)
  · have h := it_f h c
    refine Z_aload_n hC (dk d_X0_breaksRing 4 rfl) 10 rfl rfl rfl ?_
    refine G_X0_28 hC (m_3 hi) (dk d_X0_breaksRing 5 rfl) 13 rfl ?_
    refine Z_if_le hC (dk d_X0_breaksRing 6 rfl) 16 35 rfl (by decide) (fun c => ?_) (fun c => ?_)
    · have h := it_t h c
      refine Z_iconst (v := 0) hC (dk d_X0_breaksRing 16 rfl) 36 rfl (by decide) ?_
      obtain rfl := Option.some.inj h
      exact Z_zreturn (st := []) hC hr rfl hQ (dk d_X0_breaksRing 17 rfl)
    · have h := it_f h c
      refine Z_iload_n hC (dk d_X0_breaksRing 7 rfl) 17 rfl rfl rfl ?_
      refine Z_iconst (v := 0) hC (dk d_X0_breaksRing 8 rfl) 18 rfl (by decide) ?_
      obtain ⟨q2, hq2, h⟩ := bd_some h
      refine K_X0_65 [vi a1, vi (0 : Int32)] hC (s_X4_ringOf (xG x) (xl x) N a1 (0 : Int32) q1.2 q2 hq2) (Nat.le_of_ble_eq_true rfl) rfl rfl rfl (Nat.le_of_ble_eq_true rfl) (dk d_X0_breaksRing 9 rfl) 21 rfl ?_
      obtain ⟨q3, hq3, h⟩ := bd_some h
      refine K_X0_68 [vi q2.1] hC (s_J6_bitCount_0f7a4 (xG x) (xl x) N q2.1 q2.2 q3 hq3) (Nat.le_of_ble_eq_true rfl) rfl rfl rfl (Nat.le_of_ble_eq_true rfl) (dk d_X0_breaksRing 10 rfl) 24 rfl ?_
      refine Z_aload_n hC (dk d_X0_breaksRing 11 rfl) 25 rfl rfl rfl ?_
      refine G_X0_28 hC (m_3 hi) (dk d_X0_breaksRing 12 rfl) 28 rfl ?_
      refine Z_icmp_ge hC (dk d_X0_breaksRing 13 rfl) 31 35 rfl (by decide) (fun c => ?_) (fun c => ?_)
      · have h := it_t h c
        refine Z_iconst (v := 0) hC (dk d_X0_breaksRing 16 rfl) 36 rfl (by decide) ?_
        obtain rfl := Option.some.inj h
        exact Z_zreturn (st := []) hC hr rfl hQ (dk d_X0_breaksRing 17 rfl)
      · have h := it_f h c
        refine Z_iconst (v := 1) hC (dk d_X0_breaksRing 14 rfl) 32 rfl (by decide) ?_
        refine Z_goto hC (dk d_X0_breaksRing 15 rfl) 36 (by decide) ?_
        obtain rfl := Option.some.inj h
        exact Z_zreturn (st := []) hC hr rfl hQ (dk d_X0_breaksRing 17 rfl)
def t_X0_othersAtTable : List (Nat × Instr × Nat) := [(0, .iconst 0, 1), (1, .istore_n 2, 1), (2, .iconst 0, 1), (3, .istore_n 3, 1), (4, .iload_n 3, 1), (5, .aload_n 0, 1), (6, .getfield 28, 3), (9, .if_icmp .ge 32, 3), (12, .iload_n 3, 1), (13, .iload_n 1, 1), (14, .if_icmp .eq 21, 3), (17, .aload_n 0, 1), (18, .getfield 15, 3), (21, .iload_n 3, 1), (22, .iaload, 1), (23, .aload_n 0, 1), (24, .getfield 15, 3), (27, .iload_n 1, 1), (28, .iaload, 1), (29, .if_icmp .ne 6, 3), (32, .iinc 2 1, 3), (35, .iinc 3 1, 3), (38, .goto (-34), 3), (41, .iload_n 2, 1), (42, .ireturn, 1)]
set_option maxRecDepth 20000 in
theorem d_X0_othersAtTable : ∀ q ∈ t_X0_othersAtTable, decode cX0_othersAtTable q.1 = .ok q.2 := by decide +kernel
noncomputable def X0_othersAtTable_L1 (N : Nat) (i : Nat) (x1 : Int32) : Nat → Int32 → Int32 → Wd → Option (Int32 × Wd)
  | 0, _, _, _ => none
  | n + 1, x2, x3, w =>
  if (gI w 4 i) ≤ x3 then
    some (x2, w)
  else
    if x3 = x1 then
      X0_othersAtTable_L1 N i x1 n x2 (x3 + (1 : Int32)) w
    else
      gd (vp_in x3 6) (
      gd (vp_in x1 6) (
      if (gA w 17 i x3.toNatClampNeg) = (gA w 17 i x1.toNatClampNeg) then
        X0_othersAtTable_L1 N i x1 n (x2 + (1 : Int32)) (x3 + (1 : Int32)) w
      else
        X0_othersAtTable_L1 N i x1 n x2 (x3 + (1 : Int32)) w))
set_option maxRecDepth 20000 in
set_option maxHeartbeats 4000000 in
theorem z_X0_othersAtTable_L1 {x : CX} (hC : Cx x RX0 cX0_othersAtTable 4 0) (hr : (xM x).sig.returnType = (some .int)) (N : Nat) (i : Nat) (hi : i < 2) (x1 : Int32) : ∀ (n : Nat) (x2 : Int32) (x3 : Int32) (w : Wd) (q : (Int32 × Wd)), X0_othersAtTable_L1 N i x1 n x2 x3 w = some q → Z x 41 [none, none, some (vi q.1), none] [] q.2 → Z x 4 [some (vr 3 i), some (vi x1), some (vi x2), some (vi x3)] [] w := by
  intro n
  induction n with
  | zero =>
    intro x2 x3 w q h
    cases h
  | succ n ih =>
    intro x2 x3 w q h ke
    rw [X0_othersAtTable_L1] at h
    refine Z_iload_n hC (dk d_X0_othersAtTable 4 rfl) 5 rfl rfl rfl ?_
    refine Z_aload_n hC (dk d_X0_othersAtTable 5 rfl) 6 rfl rfl rfl ?_
    refine G_X0_28 hC (m_3 hi) (dk d_X0_othersAtTable 6 rfl) 9 rfl ?_
    refine Z_icmp_ge hC (dk d_X0_othersAtTable 7 rfl) 12 41 rfl (by decide) (fun c => ?_) (fun c => ?_)
    · have h := it_t h c
      obtain rfl := Option.some.inj h
      refine Z_wk [false, false, true, false] [none, none, some (vi x2), none] rfl ?_
      exact ke
    · have h := it_f h c
      refine Z_iload_n hC (dk d_X0_othersAtTable 8 rfl) 13 rfl rfl rfl ?_
      refine Z_iload_n hC (dk d_X0_othersAtTable 9 rfl) 14 rfl rfl rfl ?_
      refine Z_icmp_eq hC (dk d_X0_othersAtTable 10 rfl) 17 35 rfl (by decide) (fun c => ?_) (fun c => ?_)
      · have h := it_t h c
        refine Z_iinc hC (dk d_X0_othersAtTable 21 rfl) 38 rfl rfl rfl [some (vr 3 i), some (vi x1), some (vi x2), some (vi (x3 + (1 : Int32)))] rfl ?_
        refine Z_goto hC (dk d_X0_othersAtTable 22 rfl) 4 (by decide) ?_
        refine Z_wk [true, true, true, true] [some (vr 3 i), some (vi x1), some (vi x2), some (vi (x3 + (1 : Int32)))] rfl ?_
        exact ih x2 (x3 + (1 : Int32)) w _ h ke
      · have h := it_f h c
        refine Z_aload_n hC (dk d_X0_othersAtTable 11 rfl) 18 rfl rfl rfl ?_
        refine G_X0_15 hC (m_3 hi) (dk d_X0_othersAtTable 12 rfl) 21 rfl ?_
        refine Z_iload_n hC (dk d_X0_othersAtTable 13 rfl) 22 rfl rfl rfl ?_
        obtain ⟨g1, h⟩ := gd_some h
        refine Z_iaload hC (m_17 hi) (by decide) rfl g1 (dk d_X0_othersAtTable 14 rfl) 23 rfl ?_
        refine Z_aload_n hC (dk d_X0_othersAtTable 15 rfl) 24 rfl rfl rfl ?_
        refine G_X0_15 hC (m_3 hi) (dk d_X0_othersAtTable 16 rfl) 27 rfl ?_
        refine Z_iload_n hC (dk d_X0_othersAtTable 17 rfl) 28 rfl rfl rfl ?_
        obtain ⟨g2, h⟩ := gd_some h
        refine Z_iaload hC (m_17 hi) (by decide) rfl g2 (dk d_X0_othersAtTable 18 rfl) 29 rfl ?_
        refine Z_icmp_ne hC (dk d_X0_othersAtTable 19 rfl) 32 35 rfl (by decide) (fun c => ?_) (fun c => ?_)
        · have h := it_f h c
          refine Z_iinc hC (dk d_X0_othersAtTable 21 rfl) 38 rfl rfl rfl [some (vr 3 i), some (vi x1), some (vi x2), some (vi (x3 + (1 : Int32)))] rfl ?_
          refine Z_goto hC (dk d_X0_othersAtTable 22 rfl) 4 (by decide) ?_
          refine Z_wk [true, true, true, true] [some (vr 3 i), some (vi x1), some (vi x2), some (vi (x3 + (1 : Int32)))] rfl ?_
          exact ih x2 (x3 + (1 : Int32)) w _ h ke
        · have h := it_t h c
          refine Z_iinc hC (dk d_X0_othersAtTable 20 rfl) 35 rfl rfl rfl [some (vr 3 i), some (vi x1), some (vi (x2 + (1 : Int32))), some (vi x3)] rfl ?_
          refine Z_iinc hC (dk d_X0_othersAtTable 21 rfl) 38 rfl rfl rfl [some (vr 3 i), some (vi x1), some (vi (x2 + (1 : Int32))), some (vi (x3 + (1 : Int32)))] rfl ?_
          refine Z_goto hC (dk d_X0_othersAtTable 22 rfl) 4 (by decide) ?_
          refine Z_wk [true, true, true, true] [some (vr 3 i), some (vi x1), some (vi (x2 + (1 : Int32))), some (vi (x3 + (1 : Int32)))] rfl ?_
          exact ih (x2 + (1 : Int32)) (x3 + (1 : Int32)) w _ h ke
noncomputable def f_X0_othersAtTable (N : Nat) (i : Nat) (a1 : Int32) (w : Wd) : Option (Int32 × Wd) :=
  (X0_othersAtTable_L1 N i a1 N (0 : Int32) (0 : Int32) w).bind (fun q3 =>
    some (q3.1, q3.2))
set_option maxRecDepth 20000 in
set_option maxHeartbeats 4000000 in
theorem s_X0_othersAtTable (G : GT) (l : Launch) (N : Nat) (i : Nat) (hi : i < 2) (a1 : Int32) (w : Wd) (q : Int32 × Wd) (h : f_X0_othersAtTable N i a1 w = some q) : Sp G l yX0_othersAtTable cw_X0_othersAtTable 0 [vr 3 i, vi a1] w (some (vi q.1)) q.2 := by
  refine Sp_of (own := RX0) [some (vr 3 i), some (vi a1), none, none] (by decide) rfl rfl (Nat.le_of_ble_eq_true rfl) ?_
  intro x hG hl hC hr hQ _ _
  subst hG
  subst hl
  unfold f_X0_othersAtTable at h
  refine Z_iconst (v := 0) hC (dk d_X0_othersAtTable 0 rfl) 1 rfl (by decide) ?_
  refine Z_istore_n hC (dk d_X0_othersAtTable 1 rfl) 2 rfl rfl (Nat.le_of_ble_eq_true rfl) [some (vr 3 i), some (vi a1), some (vi (0 : Int32)), none] rfl ?_
  refine Z_iconst (v := 0) hC (dk d_X0_othersAtTable 2 rfl) 3 rfl (by decide) ?_
  refine Z_istore_n hC (dk d_X0_othersAtTable 3 rfl) 4 rfl rfl (Nat.le_of_ble_eq_true rfl) [some (vr 3 i), some (vi a1), some (vi (0 : Int32)), some (vi (0 : Int32))] rfl ?_
  obtain ⟨q3, hq3, h⟩ := bd_some h
  refine Z_wk [true, true, true, true] [some (vr 3 i), some (vi a1), some (vi (0 : Int32)), some (vi (0 : Int32))] rfl ?_
  refine z_X0_othersAtTable_L1 hC hr N i hi a1 N (0 : Int32) (0 : Int32) w q3 hq3 ?_
  refine Z_iload_n hC (dk d_X0_othersAtTable 23 rfl) 42 rfl rfl rfl ?_
  obtain rfl := Option.some.inj h
  exact Z_ireturn (st := []) hC hr hQ (dk d_X0_othersAtTable 24 rfl)
def t_X0_yearsPaired : List (Nat × Instr × Nat) := [(0, .iconst 0, 1), (1, .istore_n 2, 1), (2, .iconst 0, 1), (3, .istore_n 3, 1), (4, .iload_n 3, 1), (5, .aload_n 0, 1), (6, .getfield 31, 3), (9, .if_icmp .ge 35, 3), (12, .aload_n 0, 1), (13, .getfield 21, 3), (16, .iload_n 3, 1), (17, .iaload, 1), (18, .aload_n 0, 1), (19, .getfield 21, 3), (22, .iload_n 3, 1), (23, .iaload, 1), (24, .iload_n 1, 1), (25, .invokestatic 44, 3), (28, .invokestatic 44, 3), (31, .iload_n 1, 1), (32, .if_icmp .ne 6, 3), (35, .iinc 2 1, 3), (38, .iinc 3 1, 3), (41, .goto (-37), 3), (44, .iload_n 2, 1), (45, .ireturn, 1)]
set_option maxRecDepth 20000 in
theorem d_X0_yearsPaired : ∀ q ∈ t_X0_yearsPaired, decode cX0_yearsPaired q.1 = .ok q.2 := by decide +kernel
noncomputable def X0_yearsPaired_L1 (N : Nat) (i : Nat) (x1 : Int32) : Nat → Int32 → Int32 → Wd → Option (Int32 × Wd)
  | 0, _, _, _ => none
  | n + 1, x2, x3, w =>
  if (gI w 5 i) ≤ x3 then
    some (x2, w)
  else
    gd (vp_in x3 42) (
    gd (vp_in x3 42) (
    (f_X4_paper N (gA w 19 i x3.toNatClampNeg) x1 w).bind (fun q3 =>
      (f_X4_paper N (gA w 19 i x3.toNatClampNeg) q3.1 q3.2).bind (fun q4 =>
        if q4.1 = x1 then
          X0_yearsPaired_L1 N i x1 n (x2 + (1 : Int32)) (x3 + (1 : Int32)) q4.2
        else
          X0_yearsPaired_L1 N i x1 n x2 (x3 + (1 : Int32)) q4.2))))
set_option maxRecDepth 20000 in
set_option maxHeartbeats 4000000 in
theorem z_X0_yearsPaired_L1 {x : CX} (hC : Cx x RX0 cX0_yearsPaired 4 1) (hr : (xM x).sig.returnType = (some .int)) (N : Nat) (i : Nat) (hi : i < 2) (x1 : Int32) : ∀ (n : Nat) (x2 : Int32) (x3 : Int32) (w : Wd) (q : (Int32 × Wd)), X0_yearsPaired_L1 N i x1 n x2 x3 w = some q → Z x 44 [none, none, some (vi q.1), none] [] q.2 → Z x 4 [some (vr 3 i), some (vi x1), some (vi x2), some (vi x3)] [] w := by
  intro n
  induction n with
  | zero =>
    intro x2 x3 w q h
    cases h
  | succ n ih =>
    intro x2 x3 w q h ke
    rw [X0_yearsPaired_L1] at h
    refine Z_iload_n hC (dk d_X0_yearsPaired 4 rfl) 5 rfl rfl rfl ?_
    refine Z_aload_n hC (dk d_X0_yearsPaired 5 rfl) 6 rfl rfl rfl ?_
    refine G_X0_31 hC (m_3 hi) (dk d_X0_yearsPaired 6 rfl) 9 rfl ?_
    refine Z_icmp_ge hC (dk d_X0_yearsPaired 7 rfl) 12 44 rfl (by decide) (fun c => ?_) (fun c => ?_)
    · have h := it_t h c
      obtain rfl := Option.some.inj h
      refine Z_wk [false, false, true, false] [none, none, some (vi x2), none] rfl ?_
      exact ke
    · have h := it_f h c
      refine Z_aload_n hC (dk d_X0_yearsPaired 8 rfl) 13 rfl rfl rfl ?_
      refine G_X0_21 hC (m_3 hi) (dk d_X0_yearsPaired 9 rfl) 16 rfl ?_
      refine Z_iload_n hC (dk d_X0_yearsPaired 10 rfl) 17 rfl rfl rfl ?_
      obtain ⟨g1, h⟩ := gd_some h
      refine Z_iaload hC (m_19 hi) (by decide) rfl g1 (dk d_X0_yearsPaired 11 rfl) 18 rfl ?_
      refine Z_aload_n hC (dk d_X0_yearsPaired 12 rfl) 19 rfl rfl rfl ?_
      refine G_X0_21 hC (m_3 hi) (dk d_X0_yearsPaired 13 rfl) 22 rfl ?_
      refine Z_iload_n hC (dk d_X0_yearsPaired 14 rfl) 23 rfl rfl rfl ?_
      obtain ⟨g2, h⟩ := gd_some h
      refine Z_iaload hC (m_19 hi) (by decide) rfl g2 (dk d_X0_yearsPaired 15 rfl) 24 rfl ?_
      refine Z_iload_n hC (dk d_X0_yearsPaired 16 rfl) 25 rfl rfl rfl ?_
      obtain ⟨q3, hq3, h⟩ := bd_some h
      refine K_X0_44 [vi (gA w 19 i x3.toNatClampNeg), vi x1] hC (s_X4_paper (xG x) (xl x) N (gA w 19 i x3.toNatClampNeg) x1 w q3 hq3) (Nat.le_of_ble_eq_true rfl) rfl rfl rfl (Nat.le_of_ble_eq_true rfl) (dk d_X0_yearsPaired 17 rfl) 28 rfl ?_
      obtain ⟨q4, hq4, h⟩ := bd_some h
      refine K_X0_44 [vi (gA w 19 i x3.toNatClampNeg), vi q3.1] hC (s_X4_paper (xG x) (xl x) N (gA w 19 i x3.toNatClampNeg) q3.1 q3.2 q4 hq4) (Nat.le_of_ble_eq_true rfl) rfl rfl rfl (Nat.le_of_ble_eq_true rfl) (dk d_X0_yearsPaired 18 rfl) 31 rfl ?_
      refine Z_iload_n hC (dk d_X0_yearsPaired 19 rfl) 32 rfl rfl rfl ?_
      refine Z_icmp_ne hC (dk d_X0_yearsPaired 20 rfl) 35 38 rfl (by decide) (fun c => ?_) (fun c => ?_)
      · have h := it_f h c
        refine Z_iinc hC (dk d_X0_yearsPaired 22 rfl) 41 rfl rfl rfl [some (vr 3 i), some (vi x1), some (vi x2), some (vi (x3 + (1 : Int32)))] rfl ?_
        refine Z_goto hC (dk d_X0_yearsPaired 23 rfl) 4 (by decide) ?_
        refine Z_wk [true, true, true, true] [some (vr 3 i), some (vi x1), some (vi x2), some (vi (x3 + (1 : Int32)))] rfl ?_
        exact ih x2 (x3 + (1 : Int32)) q4.2 _ h ke
      · have h := it_t h c
        refine Z_iinc hC (dk d_X0_yearsPaired 21 rfl) 38 rfl rfl rfl [some (vr 3 i), some (vi x1), some (vi (x2 + (1 : Int32))), some (vi x3)] rfl ?_
        refine Z_iinc hC (dk d_X0_yearsPaired 22 rfl) 41 rfl rfl rfl [some (vr 3 i), some (vi x1), some (vi (x2 + (1 : Int32))), some (vi (x3 + (1 : Int32)))] rfl ?_
        refine Z_goto hC (dk d_X0_yearsPaired 23 rfl) 4 (by decide) ?_
        refine Z_wk [true, true, true, true] [some (vr 3 i), some (vi x1), some (vi (x2 + (1 : Int32))), some (vi (x3 + (1 : Int32)))] rfl ?_
        exact ih (x2 + (1 : Int32)) (x3 + (1 : Int32)) q4.2 _ h ke
noncomputable def f_X0_yearsPaired (N : Nat) (i : Nat) (a1 : Int32) (w : Wd) : Option (Int32 × Wd) :=
  (X0_yearsPaired_L1 N i a1 N (0 : Int32) (0 : Int32) w).bind (fun q5 =>
    some (q5.1, q5.2))
set_option maxRecDepth 20000 in
set_option maxHeartbeats 4000000 in
theorem s_X0_yearsPaired (G : GT) (l : Launch) (N : Nat) (i : Nat) (hi : i < 2) (a1 : Int32) (w : Wd) (q : Int32 × Wd) (h : f_X0_yearsPaired N i a1 w = some q) : Sp G l yX0_yearsPaired cw_X0_yearsPaired 1 [vr 3 i, vi a1] w (some (vi q.1)) q.2 := by
  refine Sp_of (own := RX0) [some (vr 3 i), some (vi a1), none, none] (by decide) rfl rfl (Nat.le_of_ble_eq_true rfl) ?_
  intro x hG hl hC hr hQ _ _
  subst hG
  subst hl
  unfold f_X0_yearsPaired at h
  refine Z_iconst (v := 0) hC (dk d_X0_yearsPaired 0 rfl) 1 rfl (by decide) ?_
  refine Z_istore_n hC (dk d_X0_yearsPaired 1 rfl) 2 rfl rfl (Nat.le_of_ble_eq_true rfl) [some (vr 3 i), some (vi a1), some (vi (0 : Int32)), none] rfl ?_
  refine Z_iconst (v := 0) hC (dk d_X0_yearsPaired 2 rfl) 3 rfl (by decide) ?_
  refine Z_istore_n hC (dk d_X0_yearsPaired 3 rfl) 4 rfl rfl (Nat.le_of_ble_eq_true rfl) [some (vr 3 i), some (vi a1), some (vi (0 : Int32)), some (vi (0 : Int32))] rfl ?_
  obtain ⟨q5, hq5, h⟩ := bd_some h
  refine Z_wk [true, true, true, true] [some (vr 3 i), some (vi a1), some (vi (0 : Int32)), some (vi (0 : Int32))] rfl ?_
  refine z_X0_yearsPaired_L1 hC hr N i hi a1 N (0 : Int32) (0 : Int32) w q5 hq5 ?_
  refine Z_iload_n hC (dk d_X0_yearsPaired 24 rfl) 45 rfl rfl rfl ?_
  obtain rfl := Option.some.inj h
  exact Z_ireturn (st := []) hC hr hQ (dk d_X0_yearsPaired 25 rfl)
def t_X0_worthier : List (Nat × Instr × Nat) := [(0, .iconst 0, 1), (1, .istore_n 2, 1), (2, .iconst 0, 1), (3, .istore_n 3, 1), (4, .iload_n 3, 1), (5, .aload_n 0, 1), (6, .getfield 28, 3), (9, .if_icmp .ge 27, 3), (12, .aload_n 0, 1), (13, .getfield 18, 3), (16, .iload_n 3, 1), (17, .iaload, 1), (18, .aload_n 0, 1), (19, .getfield 18, 3), (22, .iload_n 1, 1), (23, .iaload, 1), (24, .if_icmp .le 6, 3), (27, .iinc 2 1, 3), (30, .iinc 3 1, 3), (33, .goto (-29), 3), (36, .iload_n 2, 1), (37, .ireturn, 1)]
set_option maxRecDepth 20000 in
theorem d_X0_worthier : ∀ q ∈ t_X0_worthier, decode cX0_worthier q.1 = .ok q.2 := by decide +kernel
noncomputable def X0_worthier_L1 (N : Nat) (i : Nat) (x1 : Int32) : Nat → Int32 → Int32 → Wd → Option (Int32 × Wd)
  | 0, _, _, _ => none
  | n + 1, x2, x3, w =>
  if (gI w 4 i) ≤ x3 then
    some (x2, w)
  else
    gd (vp_in x3 6) (
    gd (vp_in x1 6) (
    if (gA w 18 i x3.toNatClampNeg) ≤ (gA w 18 i x1.toNatClampNeg) then
      X0_worthier_L1 N i x1 n x2 (x3 + (1 : Int32)) w
    else
      X0_worthier_L1 N i x1 n (x2 + (1 : Int32)) (x3 + (1 : Int32)) w))
set_option maxRecDepth 20000 in
set_option maxHeartbeats 4000000 in
theorem z_X0_worthier_L1 {x : CX} (hC : Cx x RX0 cX0_worthier 4 0) (hr : (xM x).sig.returnType = (some .int)) (N : Nat) (i : Nat) (hi : i < 2) (x1 : Int32) : ∀ (n : Nat) (x2 : Int32) (x3 : Int32) (w : Wd) (q : (Int32 × Wd)), X0_worthier_L1 N i x1 n x2 x3 w = some q → Z x 36 [none, none, some (vi q.1), none] [] q.2 → Z x 4 [some (vr 3 i), some (vi x1), some (vi x2), some (vi x3)] [] w := by
  intro n
  induction n with
  | zero =>
    intro x2 x3 w q h
    cases h
  | succ n ih =>
    intro x2 x3 w q h ke
    rw [X0_worthier_L1] at h
    refine Z_iload_n hC (dk d_X0_worthier 4 rfl) 5 rfl rfl rfl ?_
    refine Z_aload_n hC (dk d_X0_worthier 5 rfl) 6 rfl rfl rfl ?_
    refine G_X0_28 hC (m_3 hi) (dk d_X0_worthier 6 rfl) 9 rfl ?_
    refine Z_icmp_ge hC (dk d_X0_worthier 7 rfl) 12 36 rfl (by decide) (fun c => ?_) (fun c => ?_)
    · have h := it_t h c
      obtain rfl := Option.some.inj h
      refine Z_wk [false, false, true, false] [none, none, some (vi x2), none] rfl ?_
      exact ke
    · have h := it_f h c
      refine Z_aload_n hC (dk d_X0_worthier 8 rfl) 13 rfl rfl rfl ?_
      refine G_X0_18 hC (m_3 hi) (dk d_X0_worthier 9 rfl) 16 rfl ?_
      refine Z_iload_n hC (dk d_X0_worthier 10 rfl) 17 rfl rfl rfl ?_
      obtain ⟨g1, h⟩ := gd_some h
      refine Z_iaload hC (m_18 hi) (by decide) rfl g1 (dk d_X0_worthier 11 rfl) 18 rfl ?_
      refine Z_aload_n hC (dk d_X0_worthier 12 rfl) 19 rfl rfl rfl ?_
      refine G_X0_18 hC (m_3 hi) (dk d_X0_worthier 13 rfl) 22 rfl ?_
      refine Z_iload_n hC (dk d_X0_worthier 14 rfl) 23 rfl rfl rfl ?_
      obtain ⟨g2, h⟩ := gd_some h
      refine Z_iaload hC (m_18 hi) (by decide) rfl g2 (dk d_X0_worthier 15 rfl) 24 rfl ?_
      refine Z_icmp_le hC (dk d_X0_worthier 16 rfl) 27 30 rfl (by decide) (fun c => ?_) (fun c => ?_)
      · have h := it_t h c
        refine Z_iinc hC (dk d_X0_worthier 18 rfl) 33 rfl rfl rfl [some (vr 3 i), some (vi x1), some (vi x2), some (vi (x3 + (1 : Int32)))] rfl ?_
        refine Z_goto hC (dk d_X0_worthier 19 rfl) 4 (by decide) ?_
        refine Z_wk [true, true, true, true] [some (vr 3 i), some (vi x1), some (vi x2), some (vi (x3 + (1 : Int32)))] rfl ?_
        exact ih x2 (x3 + (1 : Int32)) w _ h ke
      · have h := it_f h c
        refine Z_iinc hC (dk d_X0_worthier 17 rfl) 30 rfl rfl rfl [some (vr 3 i), some (vi x1), some (vi (x2 + (1 : Int32))), some (vi x3)] rfl ?_
        refine Z_iinc hC (dk d_X0_worthier 18 rfl) 33 rfl rfl rfl [some (vr 3 i), some (vi x1), some (vi (x2 + (1 : Int32))), some (vi (x3 + (1 : Int32)))] rfl ?_
        refine Z_goto hC (dk d_X0_worthier 19 rfl) 4 (by decide) ?_
        refine Z_wk [true, true, true, true] [some (vr 3 i), some (vi x1), some (vi (x2 + (1 : Int32))), some (vi (x3 + (1 : Int32)))] rfl ?_
        exact ih (x2 + (1 : Int32)) (x3 + (1 : Int32)) w _ h ke
noncomputable def f_X0_worthier (N : Nat) (i : Nat) (a1 : Int32) (w : Wd) : Option (Int32 × Wd) :=
  (X0_worthier_L1 N i a1 N (0 : Int32) (0 : Int32) w).bind (fun q3 =>
    some (q3.1, q3.2))
set_option maxRecDepth 20000 in
set_option maxHeartbeats 4000000 in
theorem s_X0_worthier (G : GT) (l : Launch) (N : Nat) (i : Nat) (hi : i < 2) (a1 : Int32) (w : Wd) (q : Int32 × Wd) (h : f_X0_worthier N i a1 w = some q) : Sp G l yX0_worthier cw_X0_worthier 0 [vr 3 i, vi a1] w (some (vi q.1)) q.2 := by
  refine Sp_of (own := RX0) [some (vr 3 i), some (vi a1), none, none] (by decide) rfl rfl (Nat.le_of_ble_eq_true rfl) ?_
  intro x hG hl hC hr hQ _ _
  subst hG
  subst hl
  unfold f_X0_worthier at h
  refine Z_iconst (v := 0) hC (dk d_X0_worthier 0 rfl) 1 rfl (by decide) ?_
  refine Z_istore_n hC (dk d_X0_worthier 1 rfl) 2 rfl rfl (Nat.le_of_ble_eq_true rfl) [some (vr 3 i), some (vi a1), some (vi (0 : Int32)), none] rfl ?_
  refine Z_iconst (v := 0) hC (dk d_X0_worthier 2 rfl) 3 rfl (by decide) ?_
  refine Z_istore_n hC (dk d_X0_worthier 3 rfl) 4 rfl rfl (Nat.le_of_ble_eq_true rfl) [some (vr 3 i), some (vi a1), some (vi (0 : Int32)), some (vi (0 : Int32))] rfl ?_
  obtain ⟨q3, hq3, h⟩ := bd_some h
  refine Z_wk [true, true, true, true] [some (vr 3 i), some (vi a1), some (vi (0 : Int32)), some (vi (0 : Int32))] rfl ?_
  refine z_X0_worthier_L1 hC hr N i hi a1 N (0 : Int32) (0 : Int32) w q3 hq3 ?_
  refine Z_iload_n hC (dk d_X0_worthier 20 rfl) 37 rfl rfl rfl ?_
  obtain rfl := Option.some.inj h
  exact Z_ireturn (st := []) hC hr hQ (dk d_X0_worthier 21 rfl)
def t_X0_othersBarredFrom : List (Nat × Instr × Nat) := [(0, .iconst 0, 1), (1, .istore_n 2, 1), (2, .iconst 0, 1), (3, .istore_n 3, 1), (4, .iload_n 3, 1), (5, .aload_n 0, 1), (6, .getfield 28, 3), (9, .if_icmp .ge 26, 3), (12, .iload_n 3, 1), (13, .iload_n 1, 1), (14, .if_icmp .eq 15, 3), (17, .aload_n 0, 1), (18, .iload_n 3, 1), (19, .iload_n 1, 1), (20, .invokevirtual 59, 3), (23, .ifCond .eq 6, 3), (26, .iinc 2 1, 3), (29, .iinc 3 1, 3), (32, .goto (-28), 3), (35, .iload_n 2, 1), (36, .ireturn, 1)]
set_option maxRecDepth 20000 in
theorem d_X0_othersBarredFrom : ∀ q ∈ t_X0_othersBarredFrom, decode cX0_othersBarredFrom q.1 = .ok q.2 := by decide +kernel
noncomputable def X0_othersBarredFrom_L1 (N : Nat) (i : Nat) (x1 : Int32) : Nat → Int32 → Int32 → Wd → Option (Int32 × Wd)
  | 0, _, _, _ => none
  | n + 1, x2, x3, w =>
  if (gI w 4 i) ≤ x3 then
    some (x2, w)
  else
    if x3 = x1 then
      X0_othersBarredFrom_L1 N i x1 n x2 (x3 + (1 : Int32)) w
    else
      (f_X0_barrier N i x3 x1 w).bind (fun q1 =>
        if q1.1 = 0 then
          X0_othersBarredFrom_L1 N i x1 n x2 (x3 + (1 : Int32)) q1.2
        else
          X0_othersBarredFrom_L1 N i x1 n (x2 + (1 : Int32)) (x3 + (1 : Int32)) q1.2)
set_option maxRecDepth 20000 in
set_option maxHeartbeats 4000000 in
theorem z_X0_othersBarredFrom_L1 {x : CX} (hC : Cx x RX0 cX0_othersBarredFrom 4 3) (hr : (xM x).sig.returnType = (some .int)) (N : Nat) (i : Nat) (hi : i < 2) (x1 : Int32) : ∀ (n : Nat) (x2 : Int32) (x3 : Int32) (w : Wd) (q : (Int32 × Wd)), X0_othersBarredFrom_L1 N i x1 n x2 x3 w = some q → Z x 35 [none, none, some (vi q.1), none] [] q.2 → Z x 4 [some (vr 3 i), some (vi x1), some (vi x2), some (vi x3)] [] w := by
  intro n
  induction n with
  | zero =>
    intro x2 x3 w q h
    cases h
  | succ n ih =>
    intro x2 x3 w q h ke
    rw [X0_othersBarredFrom_L1] at h
    refine Z_iload_n hC (dk d_X0_othersBarredFrom 4 rfl) 5 rfl rfl rfl ?_
    refine Z_aload_n hC (dk d_X0_othersBarredFrom 5 rfl) 6 rfl rfl rfl ?_
    refine G_X0_28 hC (m_3 hi) (dk d_X0_othersBarredFrom 6 rfl) 9 rfl ?_
    refine Z_icmp_ge hC (dk d_X0_othersBarredFrom 7 rfl) 12 35 rfl (by decide) (fun c => ?_) (fun c => ?_)
    · have h := it_t h c
      obtain rfl := Option.some.inj h
      refine Z_wk [false, false, true, false] [none, none, some (vi x2), none] rfl ?_
      exact ke
    · have h := it_f h c
      refine Z_iload_n hC (dk d_X0_othersBarredFrom 8 rfl) 13 rfl rfl rfl ?_
      refine Z_iload_n hC (dk d_X0_othersBarredFrom 9 rfl) 14 rfl rfl rfl ?_
      refine Z_icmp_eq hC (dk d_X0_othersBarredFrom 10 rfl) 17 29 rfl (by decide) (fun c => ?_) (fun c => ?_)
      · have h := it_t h c
        refine Z_iinc hC (dk d_X0_othersBarredFrom 17 rfl) 32 rfl rfl rfl [some (vr 3 i), some (vi x1), some (vi x2), some (vi (x3 + (1 : Int32)))] rfl ?_
        refine Z_goto hC (dk d_X0_othersBarredFrom 18 rfl) 4 (by decide) ?_
        refine Z_wk [true, true, true, true] [some (vr 3 i), some (vi x1), some (vi x2), some (vi (x3 + (1 : Int32)))] rfl ?_
        exact ih x2 (x3 + (1 : Int32)) w _ h ke
      · have h := it_f h c
        refine Z_aload_n hC (dk d_X0_othersBarredFrom 11 rfl) 18 rfl rfl rfl ?_
        refine Z_iload_n hC (dk d_X0_othersBarredFrom 12 rfl) 19 rfl rfl rfl ?_
        refine Z_iload_n hC (dk d_X0_othersBarredFrom 13 rfl) 20 rfl rfl rfl ?_
        obtain ⟨q1, hq1, h⟩ := bd_some h
        refine K_X0_59 [vi x3, vi x1] hC (m_3 hi) (s_X0_barrier (xG x) (xl x) N i hi x3 x1 w q1 hq1) (Nat.le_of_ble_eq_true rfl) rfl rfl rfl (Nat.le_of_ble_eq_true rfl) (dk d_X0_othersBarredFrom 14 rfl) 23 rfl ?_
        refine Z_if_eq hC (dk d_X0_othersBarredFrom 15 rfl) 26 29 rfl (by decide) (fun c => ?_) (fun c => ?_)
        · have h := it_t h c
          refine Z_iinc hC (dk d_X0_othersBarredFrom 17 rfl) 32 rfl rfl rfl [some (vr 3 i), some (vi x1), some (vi x2), some (vi (x3 + (1 : Int32)))] rfl ?_
          refine Z_goto hC (dk d_X0_othersBarredFrom 18 rfl) 4 (by decide) ?_
          refine Z_wk [true, true, true, true] [some (vr 3 i), some (vi x1), some (vi x2), some (vi (x3 + (1 : Int32)))] rfl ?_
          exact ih x2 (x3 + (1 : Int32)) q1.2 _ h ke
        · have h := it_f h c
          refine Z_iinc hC (dk d_X0_othersBarredFrom 16 rfl) 29 rfl rfl rfl [some (vr 3 i), some (vi x1), some (vi (x2 + (1 : Int32))), some (vi x3)] rfl ?_
          refine Z_iinc hC (dk d_X0_othersBarredFrom 17 rfl) 32 rfl rfl rfl [some (vr 3 i), some (vi x1), some (vi (x2 + (1 : Int32))), some (vi (x3 + (1 : Int32)))] rfl ?_
          refine Z_goto hC (dk d_X0_othersBarredFrom 18 rfl) 4 (by decide) ?_
          refine Z_wk [true, true, true, true] [some (vr 3 i), some (vi x1), some (vi (x2 + (1 : Int32))), some (vi (x3 + (1 : Int32)))] rfl ?_
          exact ih (x2 + (1 : Int32)) (x3 + (1 : Int32)) q1.2 _ h ke
noncomputable def f_X0_othersBarredFrom (N : Nat) (i : Nat) (a1 : Int32) (w : Wd) : Option (Int32 × Wd) :=
  (X0_othersBarredFrom_L1 N i a1 N (0 : Int32) (0 : Int32) w).bind (fun q2 =>
    some (q2.1, q2.2))
set_option maxRecDepth 20000 in
set_option maxHeartbeats 4000000 in
theorem s_X0_othersBarredFrom (G : GT) (l : Launch) (N : Nat) (i : Nat) (hi : i < 2) (a1 : Int32) (w : Wd) (q : Int32 × Wd) (h : f_X0_othersBarredFrom N i a1 w = some q) : Sp G l yX0_othersBarredFrom cw_X0_othersBarredFrom 3 [vr 3 i, vi a1] w (some (vi q.1)) q.2 := by
  refine Sp_of (own := RX0) [some (vr 3 i), some (vi a1), none, none] (by decide) rfl rfl (Nat.le_of_ble_eq_true rfl) ?_
  intro x hG hl hC hr hQ _ _
  subst hG
  subst hl
  unfold f_X0_othersBarredFrom at h
  refine Z_iconst (v := 0) hC (dk d_X0_othersBarredFrom 0 rfl) 1 rfl (by decide) ?_
  refine Z_istore_n hC (dk d_X0_othersBarredFrom 1 rfl) 2 rfl rfl (Nat.le_of_ble_eq_true rfl) [some (vr 3 i), some (vi a1), some (vi (0 : Int32)), none] rfl ?_
  refine Z_iconst (v := 0) hC (dk d_X0_othersBarredFrom 2 rfl) 3 rfl (by decide) ?_
  refine Z_istore_n hC (dk d_X0_othersBarredFrom 3 rfl) 4 rfl rfl (Nat.le_of_ble_eq_true rfl) [some (vr 3 i), some (vi a1), some (vi (0 : Int32)), some (vi (0 : Int32))] rfl ?_
  obtain ⟨q2, hq2, h⟩ := bd_some h
  refine Z_wk [true, true, true, true] [some (vr 3 i), some (vi a1), some (vi (0 : Int32)), some (vi (0 : Int32))] rfl ?_
  refine z_X0_othersBarredFrom_L1 hC hr N i hi a1 N (0 : Int32) (0 : Int32) w q2 hq2 ?_
  refine Z_iload_n hC (dk d_X0_othersBarredFrom 19 rfl) 36 rfl rfl rfl ?_
  obtain rfl := Option.some.inj h
  exact Z_ireturn (st := []) hC hr hQ (dk d_X0_othersBarredFrom 20 rfl)
def t_X0_howManyOf : List (Nat × Instr × Nat) := [(0, .iconst 0, 1), (1, .istore_n 2, 1), (2, .iconst 0, 1), (3, .istore_n 3, 1), (4, .iload_n 3, 1), (5, .aload_n 0, 1), (6, .getfield 28, 3), (9, .if_icmp .ge 25, 3), (12, .aload_n 0, 1), (13, .getfield 9, 3), (16, .iload_n 3, 1), (17, .iaload, 1), (18, .iload_n 1, 1), (19, .invokestatic 51, 3), (22, .ifCond .eq 6, 3), (25, .iinc 2 1, 3), (28, .iinc 3 1, 3), (31, .goto (-27), 3), (34, .iload_n 2, 1), (35, .ireturn, 1)]
set_option maxRecDepth 20000 in
theorem d_X0_howManyOf : ∀ q ∈ t_X0_howManyOf, decode cX0_howManyOf q.1 = .ok q.2 := by decide +kernel
noncomputable def X0_howManyOf_L1 (N : Nat) (i : Nat) (x1 : Int32) : Nat → Int32 → Int32 → Wd → Option (Int32 × Wd)
  | 0, _, _, _ => none
  | n + 1, x2, x3, w =>
  if (gI w 4 i) ≤ x3 then
    some (x2, w)
  else
    gd (vp_in x3 6) (
    (f_X4_isOf N (gA w 16 i x3.toNatClampNeg) x1 w).bind (fun q2 =>
      if q2.1 = 0 then
        X0_howManyOf_L1 N i x1 n x2 (x3 + (1 : Int32)) q2.2
      else
        X0_howManyOf_L1 N i x1 n (x2 + (1 : Int32)) (x3 + (1 : Int32)) q2.2))
set_option maxRecDepth 20000 in
set_option maxHeartbeats 4000000 in
theorem z_X0_howManyOf_L1 {x : CX} (hC : Cx x RX0 cX0_howManyOf 4 1) (hr : (xM x).sig.returnType = (some .int)) (N : Nat) (i : Nat) (hi : i < 2) (x1 : Int32) : ∀ (n : Nat) (x2 : Int32) (x3 : Int32) (w : Wd) (q : (Int32 × Wd)), X0_howManyOf_L1 N i x1 n x2 x3 w = some q → Z x 34 [none, none, some (vi q.1), none] [] q.2 → Z x 4 [some (vr 3 i), some (vi x1), some (vi x2), some (vi x3)] [] w := by
  intro n
  induction n with
  | zero =>
    intro x2 x3 w q h
    cases h
  | succ n ih =>
    intro x2 x3 w q h ke
    rw [X0_howManyOf_L1] at h
    refine Z_iload_n hC (dk d_X0_howManyOf 4 rfl) 5 rfl rfl rfl ?_
    refine Z_aload_n hC (dk d_X0_howManyOf 5 rfl) 6 rfl rfl rfl ?_
    refine G_X0_28 hC (m_3 hi) (dk d_X0_howManyOf 6 rfl) 9 rfl ?_
    refine Z_icmp_ge hC (dk d_X0_howManyOf 7 rfl) 12 34 rfl (by decide) (fun c => ?_) (fun c => ?_)
    · have h := it_t h c
      obtain rfl := Option.some.inj h
      refine Z_wk [false, false, true, false] [none, none, some (vi x2), none] rfl ?_
      exact ke
    · have h := it_f h c
      refine Z_aload_n hC (dk d_X0_howManyOf 8 rfl) 13 rfl rfl rfl ?_
      refine G_X0_9 hC (m_3 hi) (dk d_X0_howManyOf 9 rfl) 16 rfl ?_
      refine Z_iload_n hC (dk d_X0_howManyOf 10 rfl) 17 rfl rfl rfl ?_
      obtain ⟨g1, h⟩ := gd_some h
      refine Z_iaload hC (m_16 hi) (by decide) rfl g1 (dk d_X0_howManyOf 11 rfl) 18 rfl ?_
      refine Z_iload_n hC (dk d_X0_howManyOf 12 rfl) 19 rfl rfl rfl ?_
      obtain ⟨q2, hq2, h⟩ := bd_some h
      refine K_X0_51 [vi (gA w 16 i x3.toNatClampNeg), vi x1] hC (s_X4_isOf (xG x) (xl x) N (gA w 16 i x3.toNatClampNeg) x1 w q2 hq2) (Nat.le_of_ble_eq_true rfl) rfl rfl rfl (Nat.le_of_ble_eq_true rfl) (dk d_X0_howManyOf 13 rfl) 22 rfl ?_
      refine Z_if_eq hC (dk d_X0_howManyOf 14 rfl) 25 28 rfl (by decide) (fun c => ?_) (fun c => ?_)
      · have h := it_t h c
        refine Z_iinc hC (dk d_X0_howManyOf 16 rfl) 31 rfl rfl rfl [some (vr 3 i), some (vi x1), some (vi x2), some (vi (x3 + (1 : Int32)))] rfl ?_
        refine Z_goto hC (dk d_X0_howManyOf 17 rfl) 4 (by decide) ?_
        refine Z_wk [true, true, true, true] [some (vr 3 i), some (vi x1), some (vi x2), some (vi (x3 + (1 : Int32)))] rfl ?_
        exact ih x2 (x3 + (1 : Int32)) q2.2 _ h ke
      · have h := it_f h c
        refine Z_iinc hC (dk d_X0_howManyOf 15 rfl) 28 rfl rfl rfl [some (vr 3 i), some (vi x1), some (vi (x2 + (1 : Int32))), some (vi x3)] rfl ?_
        refine Z_iinc hC (dk d_X0_howManyOf 16 rfl) 31 rfl rfl rfl [some (vr 3 i), some (vi x1), some (vi (x2 + (1 : Int32))), some (vi (x3 + (1 : Int32)))] rfl ?_
        refine Z_goto hC (dk d_X0_howManyOf 17 rfl) 4 (by decide) ?_
        refine Z_wk [true, true, true, true] [some (vr 3 i), some (vi x1), some (vi (x2 + (1 : Int32))), some (vi (x3 + (1 : Int32)))] rfl ?_
        exact ih (x2 + (1 : Int32)) (x3 + (1 : Int32)) q2.2 _ h ke
noncomputable def f_X0_howManyOf (N : Nat) (i : Nat) (a1 : Int32) (w : Wd) : Option (Int32 × Wd) :=
  (X0_howManyOf_L1 N i a1 N (0 : Int32) (0 : Int32) w).bind (fun q3 =>
    some (q3.1, q3.2))
set_option maxRecDepth 20000 in
set_option maxHeartbeats 4000000 in
theorem s_X0_howManyOf (G : GT) (l : Launch) (N : Nat) (i : Nat) (hi : i < 2) (a1 : Int32) (w : Wd) (q : Int32 × Wd) (h : f_X0_howManyOf N i a1 w = some q) : Sp G l yX0_howManyOf cw_X0_howManyOf 1 [vr 3 i, vi a1] w (some (vi q.1)) q.2 := by
  refine Sp_of (own := RX0) [some (vr 3 i), some (vi a1), none, none] (by decide) rfl rfl (Nat.le_of_ble_eq_true rfl) ?_
  intro x hG hl hC hr hQ _ _
  subst hG
  subst hl
  unfold f_X0_howManyOf at h
  refine Z_iconst (v := 0) hC (dk d_X0_howManyOf 0 rfl) 1 rfl (by decide) ?_
  refine Z_istore_n hC (dk d_X0_howManyOf 1 rfl) 2 rfl rfl (Nat.le_of_ble_eq_true rfl) [some (vr 3 i), some (vi a1), some (vi (0 : Int32)), none] rfl ?_
  refine Z_iconst (v := 0) hC (dk d_X0_howManyOf 2 rfl) 3 rfl (by decide) ?_
  refine Z_istore_n hC (dk d_X0_howManyOf 3 rfl) 4 rfl rfl (Nat.le_of_ble_eq_true rfl) [some (vr 3 i), some (vi a1), some (vi (0 : Int32)), some (vi (0 : Int32))] rfl ?_
  obtain ⟨q3, hq3, h⟩ := bd_some h
  refine Z_wk [true, true, true, true] [some (vr 3 i), some (vi a1), some (vi (0 : Int32)), some (vi (0 : Int32))] rfl ?_
  refine z_X0_howManyOf_L1 hC hr N i hi a1 N (0 : Int32) (0 : Int32) w q3 hq3 ?_
  refine Z_iload_n hC (dk d_X0_howManyOf 18 rfl) 35 rfl rfl rfl ?_
  obtain rfl := Option.some.inj h
  exact Z_ireturn (st := []) hC hr hQ (dk d_X0_howManyOf 19 rfl)
def t_X0_greatestDifference : List (Nat × Instr × Nat) := [(0, .iconst 0, 1), (1, .istore_n 2, 1), (2, .iconst 0, 1), (3, .istore_n 3, 1), (4, .iload_n 3, 1), (5, .aload_n 0, 1), (6, .getfield 28, 3), (9, .if_icmp .ge 34, 3), (12, .iload_n 2, 1), (13, .aload_n 0, 1), (14, .getfield 18, 3), (17, .iload_n 3, 1), (18, .iaload, 1), (19, .aload_n 0, 1), (20, .getfield 18, 3), (23, .iload_n 1, 1), (24, .iload_n 3, 1), (25, .invokestatic 44, 3), (28, .iaload, 1), (29, .isub, 1), (30, .invokestatic 73, 3), (33, .invokestatic 78, 3), (36, .istore_n 2, 1), (37, .iinc 3 1, 3), (40, .goto (-36), 3), (43, .iload_n 2, 1), (44, .ireturn, 1)]
set_option maxRecDepth 20000 in
theorem d_X0_greatestDifference : ∀ q ∈ t_X0_greatestDifference, decode cX0_greatestDifference q.1 = .ok q.2 := by decide +kernel
noncomputable def X0_greatestDifference_L1 (N : Nat) (i : Nat) (x1 : Int32) : Nat → Int32 → Int32 → Wd → Option (Int32 × Wd)
  | 0, _, _, _ => none
  | n + 1, x2, x3, w =>
  if (gI w 4 i) ≤ x3 then
    some (x2, w)
  else
    gd (vp_in x3 6) (
    (f_X4_paper N x1 x3 w).bind (fun q2 =>
      gd (vp_in q2.1 6) (
      X0_greatestDifference_L1 N i x1 n (if x2 < (if 0 ≤ ((gA w 18 i x3.toNatClampNeg) - (gA q2.2 18 i q2.1.toNatClampNeg)) then ((gA w 18 i x3.toNatClampNeg) - (gA q2.2 18 i q2.1.toNatClampNeg)) else 0 - ((gA w 18 i x3.toNatClampNeg) - (gA q2.2 18 i q2.1.toNatClampNeg))) then (if 0 ≤ ((gA w 18 i x3.toNatClampNeg) - (gA q2.2 18 i q2.1.toNatClampNeg)) then ((gA w 18 i x3.toNatClampNeg) - (gA q2.2 18 i q2.1.toNatClampNeg)) else 0 - ((gA w 18 i x3.toNatClampNeg) - (gA q2.2 18 i q2.1.toNatClampNeg))) else x2) (x3 + (1 : Int32)) q2.2)))
set_option maxRecDepth 20000 in
set_option maxHeartbeats 4000000 in
theorem z_X0_greatestDifference_L1 {x : CX} (hC : Cx x RX0 cX0_greatestDifference 4 1) (hr : (xM x).sig.returnType = (some .int)) (N : Nat) (i : Nat) (hi : i < 2) (x1 : Int32) : ∀ (n : Nat) (x2 : Int32) (x3 : Int32) (w : Wd) (q : (Int32 × Wd)), X0_greatestDifference_L1 N i x1 n x2 x3 w = some q → Z x 43 [none, none, some (vi q.1), none] [] q.2 → Z x 4 [some (vr 3 i), some (vi x1), some (vi x2), some (vi x3)] [] w := by
  intro n
  induction n with
  | zero =>
    intro x2 x3 w q h
    cases h
  | succ n ih =>
    intro x2 x3 w q h ke
    rw [X0_greatestDifference_L1] at h
    refine Z_iload_n hC (dk d_X0_greatestDifference 4 rfl) 5 rfl rfl rfl ?_
    refine Z_aload_n hC (dk d_X0_greatestDifference 5 rfl) 6 rfl rfl rfl ?_
    refine G_X0_28 hC (m_3 hi) (dk d_X0_greatestDifference 6 rfl) 9 rfl ?_
    refine Z_icmp_ge hC (dk d_X0_greatestDifference 7 rfl) 12 43 rfl (by decide) (fun c => ?_) (fun c => ?_)
    · have h := it_t h c
      obtain rfl := Option.some.inj h
      refine Z_wk [false, false, true, false] [none, none, some (vi x2), none] rfl ?_
      exact ke
    · have h := it_f h c
      refine Z_iload_n hC (dk d_X0_greatestDifference 8 rfl) 13 rfl rfl rfl ?_
      refine Z_aload_n hC (dk d_X0_greatestDifference 9 rfl) 14 rfl rfl rfl ?_
      refine G_X0_18 hC (m_3 hi) (dk d_X0_greatestDifference 10 rfl) 17 rfl ?_
      refine Z_iload_n hC (dk d_X0_greatestDifference 11 rfl) 18 rfl rfl rfl ?_
      obtain ⟨g1, h⟩ := gd_some h
      refine Z_iaload hC (m_18 hi) (by decide) rfl g1 (dk d_X0_greatestDifference 12 rfl) 19 rfl ?_
      refine Z_aload_n hC (dk d_X0_greatestDifference 13 rfl) 20 rfl rfl rfl ?_
      refine G_X0_18 hC (m_3 hi) (dk d_X0_greatestDifference 14 rfl) 23 rfl ?_
      refine Z_iload_n hC (dk d_X0_greatestDifference 15 rfl) 24 rfl rfl rfl ?_
      refine Z_iload_n hC (dk d_X0_greatestDifference 16 rfl) 25 rfl rfl rfl ?_
      obtain ⟨q2, hq2, h⟩ := bd_some h
      refine K_X0_44 [vi x1, vi x3] hC (s_X4_paper (xG x) (xl x) N x1 x3 w q2 hq2) (Nat.le_of_ble_eq_true rfl) rfl rfl rfl (Nat.le_of_ble_eq_true rfl) (dk d_X0_greatestDifference 17 rfl) 28 rfl ?_
      obtain ⟨g3, h⟩ := gd_some h
      refine Z_iaload hC (m_18 hi) (by decide) rfl g3 (dk d_X0_greatestDifference 18 rfl) 29 rfl ?_
      refine Z_isub hC (dk d_X0_greatestDifference 19 rfl) 30 rfl ?_
      refine Z_mabs hC ml_X0_73 wi_J9_abs_0f7a4 wini_J9 wc_J9_abs_0f7a4 (Nat.le_of_ble_eq_true rfl) rfl (Nat.le_of_ble_eq_true rfl) (dk d_X0_greatestDifference 20 rfl) 33 rfl ?_
      refine Z_mmax hC ml_X0_78 wi_J9_max_7cf53 wini_J9 wc_J9_max_7cf53 (Nat.le_of_ble_eq_true rfl) rfl (Nat.le_of_ble_eq_true rfl) (dk d_X0_greatestDifference 21 rfl) 36 rfl ?_
      refine Z_istore_n hC (dk d_X0_greatestDifference 22 rfl) 37 rfl rfl (Nat.le_of_ble_eq_true rfl) [some (vr 3 i), some (vi x1), some (vi (if x2 < (if 0 ≤ ((gA w 18 i x3.toNatClampNeg) - (gA q2.2 18 i q2.1.toNatClampNeg)) then ((gA w 18 i x3.toNatClampNeg) - (gA q2.2 18 i q2.1.toNatClampNeg)) else 0 - ((gA w 18 i x3.toNatClampNeg) - (gA q2.2 18 i q2.1.toNatClampNeg))) then (if 0 ≤ ((gA w 18 i x3.toNatClampNeg) - (gA q2.2 18 i q2.1.toNatClampNeg)) then ((gA w 18 i x3.toNatClampNeg) - (gA q2.2 18 i q2.1.toNatClampNeg)) else 0 - ((gA w 18 i x3.toNatClampNeg) - (gA q2.2 18 i q2.1.toNatClampNeg))) else x2)), some (vi x3)] rfl ?_
      refine Z_iinc hC (dk d_X0_greatestDifference 23 rfl) 40 rfl rfl rfl [some (vr 3 i), some (vi x1), some (vi (if x2 < (if 0 ≤ ((gA w 18 i x3.toNatClampNeg) - (gA q2.2 18 i q2.1.toNatClampNeg)) then ((gA w 18 i x3.toNatClampNeg) - (gA q2.2 18 i q2.1.toNatClampNeg)) else 0 - ((gA w 18 i x3.toNatClampNeg) - (gA q2.2 18 i q2.1.toNatClampNeg))) then (if 0 ≤ ((gA w 18 i x3.toNatClampNeg) - (gA q2.2 18 i q2.1.toNatClampNeg)) then ((gA w 18 i x3.toNatClampNeg) - (gA q2.2 18 i q2.1.toNatClampNeg)) else 0 - ((gA w 18 i x3.toNatClampNeg) - (gA q2.2 18 i q2.1.toNatClampNeg))) else x2)), some (vi (x3 + (1 : Int32)))] rfl ?_
      refine Z_goto hC (dk d_X0_greatestDifference 24 rfl) 4 (by decide) ?_
      refine Z_wk [true, true, true, true] [some (vr 3 i), some (vi x1), some (vi (if x2 < (if 0 ≤ ((gA w 18 i x3.toNatClampNeg) - (gA q2.2 18 i q2.1.toNatClampNeg)) then ((gA w 18 i x3.toNatClampNeg) - (gA q2.2 18 i q2.1.toNatClampNeg)) else 0 - ((gA w 18 i x3.toNatClampNeg) - (gA q2.2 18 i q2.1.toNatClampNeg))) then (if 0 ≤ ((gA w 18 i x3.toNatClampNeg) - (gA q2.2 18 i q2.1.toNatClampNeg)) then ((gA w 18 i x3.toNatClampNeg) - (gA q2.2 18 i q2.1.toNatClampNeg)) else 0 - ((gA w 18 i x3.toNatClampNeg) - (gA q2.2 18 i q2.1.toNatClampNeg))) else x2)), some (vi (x3 + (1 : Int32)))] rfl ?_
      exact ih (if x2 < (if 0 ≤ ((gA w 18 i x3.toNatClampNeg) - (gA q2.2 18 i q2.1.toNatClampNeg)) then ((gA w 18 i x3.toNatClampNeg) - (gA q2.2 18 i q2.1.toNatClampNeg)) else 0 - ((gA w 18 i x3.toNatClampNeg) - (gA q2.2 18 i q2.1.toNatClampNeg))) then (if 0 ≤ ((gA w 18 i x3.toNatClampNeg) - (gA q2.2 18 i q2.1.toNatClampNeg)) then ((gA w 18 i x3.toNatClampNeg) - (gA q2.2 18 i q2.1.toNatClampNeg)) else 0 - ((gA w 18 i x3.toNatClampNeg) - (gA q2.2 18 i q2.1.toNatClampNeg))) else x2) (x3 + (1 : Int32)) q2.2 _ h ke
noncomputable def f_X0_greatestDifference (N : Nat) (i : Nat) (a1 : Int32) (w : Wd) : Option (Int32 × Wd) :=
  (X0_greatestDifference_L1 N i a1 N (0 : Int32) (0 : Int32) w).bind (fun q4 =>
    some (q4.1, q4.2))
set_option maxRecDepth 20000 in
set_option maxHeartbeats 4000000 in
theorem s_X0_greatestDifference (G : GT) (l : Launch) (N : Nat) (i : Nat) (hi : i < 2) (a1 : Int32) (w : Wd) (q : Int32 × Wd) (h : f_X0_greatestDifference N i a1 w = some q) : Sp G l yX0_greatestDifference cw_X0_greatestDifference 1 [vr 3 i, vi a1] w (some (vi q.1)) q.2 := by
  refine Sp_of (own := RX0) [some (vr 3 i), some (vi a1), none, none] (by decide) rfl rfl (Nat.le_of_ble_eq_true rfl) ?_
  intro x hG hl hC hr hQ _ _
  subst hG
  subst hl
  unfold f_X0_greatestDifference at h
  refine Z_iconst (v := 0) hC (dk d_X0_greatestDifference 0 rfl) 1 rfl (by decide) ?_
  refine Z_istore_n hC (dk d_X0_greatestDifference 1 rfl) 2 rfl rfl (Nat.le_of_ble_eq_true rfl) [some (vr 3 i), some (vi a1), some (vi (0 : Int32)), none] rfl ?_
  refine Z_iconst (v := 0) hC (dk d_X0_greatestDifference 2 rfl) 3 rfl (by decide) ?_
  refine Z_istore_n hC (dk d_X0_greatestDifference 3 rfl) 4 rfl rfl (Nat.le_of_ble_eq_true rfl) [some (vr 3 i), some (vi a1), some (vi (0 : Int32)), some (vi (0 : Int32))] rfl ?_
  obtain ⟨q4, hq4, h⟩ := bd_some h
  refine Z_wk [true, true, true, true] [some (vr 3 i), some (vi a1), some (vi (0 : Int32)), some (vi (0 : Int32))] rfl ?_
  refine z_X0_greatestDifference_L1 hC hr N i hi a1 N (0 : Int32) (0 : Int32) w q4 hq4 ?_
  refine Z_iload_n hC (dk d_X0_greatestDifference 25 rfl) 44 rfl rfl rfl ?_
  obtain rfl := Option.some.inj h
  exact Z_ireturn (st := []) hC hr hQ (dk d_X0_greatestDifference 26 rfl)
def t_X1_isMissing : List (Nat × Instr × Nat) := [(0, .aload_n 0, 1), (1, .getfield 16, 3), (4, .iload_n 1, 1), (5, .iaload, 1), (6, .iconst (-1), 1), (7, .if_icmp .ne 7, 3), (10, .iconst 1, 1), (11, .goto 4, 3), (14, .iconst 0, 1), (15, .ireturn, 1)]
set_option maxRecDepth 20000 in
theorem d_X1_isMissing : ∀ q ∈ t_X1_isMissing, decode cX1_isMissing q.1 = .ok q.2 := by decide +kernel
noncomputable def f_X1_isMissing (N : Nat) (a1 : Int32) (w : Wd) : Option (Int32 × Wd) :=
  gd (vp_in a1 6) (
  if (gA w 12 0 a1.toNatClampNeg) = (-1 : Int32) then
    some ((1 : Int32), w)
  else
    some ((0 : Int32), w))
set_option maxRecDepth 20000 in
set_option maxHeartbeats 4000000 in
theorem s_X1_isMissing (G : GT) (l : Launch) (N : Nat) (a1 : Int32) (w : Wd) (q : Int32 × Wd) (h : f_X1_isMissing N a1 w = some q) : Sp G l yX1_isMissing cw_X1_isMissing 0 [vr 1 0, vi a1] w (some (vi q.1)) q.2 := by
  refine Sp_of (own := RX1) [some (vr 1 0), some (vi a1)] (by decide) rfl rfl (Nat.le_of_ble_eq_true rfl) ?_
  intro x hG hl hC hr hQ _ _
  subst hG
  subst hl
  unfold f_X1_isMissing at h
  refine Z_aload_n hC (dk d_X1_isMissing 0 rfl) 1 rfl rfl rfl ?_
  refine G_X1_16 hC m_1 (dk d_X1_isMissing 1 rfl) 4 rfl ?_
  refine Z_iload_n hC (dk d_X1_isMissing 2 rfl) 5 rfl rfl rfl ?_
  obtain ⟨g1, h⟩ := gd_some h
  refine Z_iaload hC m_12 (by decide) rfl g1 (dk d_X1_isMissing 3 rfl) 6 rfl ?_
  refine Z_iconst (v := -1) hC (dk d_X1_isMissing 4 rfl) 7 rfl (by decide) ?_
  refine Z_icmp_ne hC (dk d_X1_isMissing 5 rfl) 10 14 rfl (by decide) (fun c => ?_) (fun c => ?_)
  · have h := it_f h c
    refine Z_iconst (v := 0) hC (dk d_X1_isMissing 8 rfl) 15 rfl (by decide) ?_
    obtain rfl := Option.some.inj h
    exact Z_zreturn (st := []) hC hr rfl hQ (dk d_X1_isMissing 9 rfl)
  · have h := it_t h c
    refine Z_iconst (v := 1) hC (dk d_X1_isMissing 6 rfl) 11 rfl (by decide) ?_
    refine Z_goto hC (dk d_X1_isMissing 7 rfl) 15 (by decide) ?_
    obtain rfl := Option.some.inj h
    exact Z_zreturn (st := []) hC hr rfl hQ (dk d_X1_isMissing 9 rfl)
def t_J7_fill_53178 : List (Nat × Instr × Nat) := [(0, .iconst 0, 1), (1, .istore_n 2, 1), (2, .aload_n 0, 1), (3, .arraylength, 1), (4, .istore_n 3, 1), (5, .iload_n 2, 1), (6, .iload_n 3, 1), (7, .if_icmp .ge 13, 3), (10, .aload_n 0, 1), (11, .iload_n 2, 1), (12, .iload_n 1, 1), (13, .iastore, 1), (14, .iinc 2 1, 3), (17, .goto (-12), 3), (20, .return_, 1)]
set_option maxRecDepth 20000 in
theorem d_J7_fill_53178 : ∀ q ∈ t_J7_fill_53178, decode cJ7_fill_53178 q.1 = .ok q.2 := by decide +kernel
noncomputable def J7_fill_53178_L1 (N : Nat) (g i : Nat) (x1 : Int32) (x3 : Int32) : Nat → Int32 → Wd → Option (Wd)
  | 0, _, _ => none
  | n + 1, x2, w =>
  if x3 ≤ x2 then
    some w
  else
    gd (vp_in x2 (arr g).2) (
    J7_fill_53178_L1 N g i x1 x3 n (x2 + (1 : Int32)) (sA w g i (upd (gA w g i) x2.toNatClampNeg x1)))
set_option maxRecDepth 20000 in
set_option maxHeartbeats 4000000 in
theorem z_J7_fill_53178_L1 {x : CX} (hC : Cx x RJ7 cJ7_fill_53178 4 0) (hr : (xM x).sig.returnType = none) (N : Nat) (g i : Nat) (hm : (g, i) ∈ gis) (h10 : ¬ g < 10) (hk : (arr g).1 = 0) (x1 : Int32) (x3 : Int32) : ∀ (n : Nat) (x2 : Int32) (w : Wd) (q : (Wd)), J7_fill_53178_L1 N g i x1 x3 n x2 w = some q → Z x 20 [none, none, none, none] [] q → Z x 5 [some (vr g i), some (vi x1), some (vi x2), some (vi x3)] [] w := by
  intro n
  induction n with
  | zero =>
    intro x2 w q h
    cases h
  | succ n ih =>
    intro x2 w q h ke
    rw [J7_fill_53178_L1] at h
    refine Z_iload_n hC (dk d_J7_fill_53178 5 rfl) 6 rfl rfl rfl ?_
    refine Z_iload_n hC (dk d_J7_fill_53178 6 rfl) 7 rfl rfl rfl ?_
    refine Z_icmp_ge hC (dk d_J7_fill_53178 7 rfl) 10 20 rfl (by decide) (fun c => ?_) (fun c => ?_)
    · have h := it_t h c
      obtain rfl := Option.some.inj h
      refine Z_wk [false, false, false, false] [none, none, none, none] rfl ?_
      exact ke
    · have h := it_f h c
      refine Z_aload_n hC (dk d_J7_fill_53178 8 rfl) 11 rfl rfl rfl ?_
      refine Z_iload_n hC (dk d_J7_fill_53178 9 rfl) 12 rfl rfl rfl ?_
      refine Z_iload_n hC (dk d_J7_fill_53178 10 rfl) 13 rfl rfl rfl ?_
      obtain ⟨g1, h⟩ := gd_some h
      refine Z_iastore hC hm h10 hk g1 (dk d_J7_fill_53178 11 rfl) 14 rfl ?_
      refine Z_iinc hC (dk d_J7_fill_53178 12 rfl) 17 rfl rfl rfl [some (vr g i), some (vi x1), some (vi (x2 + (1 : Int32))), some (vi x3)] rfl ?_
      refine Z_goto hC (dk d_J7_fill_53178 13 rfl) 5 (by decide) ?_
      refine Z_wk [true, true, true, true] [some (vr g i), some (vi x1), some (vi (x2 + (1 : Int32))), some (vi x3)] rfl ?_
      exact ih (x2 + (1 : Int32)) (sA w g i (upd (gA w g i) x2.toNatClampNeg x1)) _ h ke
noncomputable def f_J7_fill_53178 (N : Nat) (g i : Nat) (a1 : Int32) (w : Wd) : Option (Wd) :=
  (J7_fill_53178_L1 N g i a1 (Int32.ofNat (arr g).2) N (0 : Int32) w).bind (fun q2 =>
    some q2)
set_option maxRecDepth 20000 in
set_option maxHeartbeats 4000000 in
theorem s_J7_fill_53178 (G : GT) (l : Launch) (N : Nat) (g i : Nat) (hm : (g, i) ∈ gis) (h10 : ¬ g < 10) (hk : (arr g).1 = 0) (a1 : Int32) (w : Wd) (q : Wd) (h : f_J7_fill_53178 N g i a1 w = some q) : Sp G l yJ7_fill_53178 cw_J7_fill_53178 0 [vr g i, vi a1] w none q := by
  refine Sp_of (own := RJ7) [some (vr g i), some (vi a1), none, none] (by decide) rfl rfl (Nat.le_of_ble_eq_true rfl) ?_
  intro x hG hl hC hr hQ _ _
  subst hG
  subst hl
  unfold f_J7_fill_53178 at h
  refine Z_iconst (v := 0) hC (dk d_J7_fill_53178 0 rfl) 1 rfl (by decide) ?_
  refine Z_istore_n hC (dk d_J7_fill_53178 1 rfl) 2 rfl rfl (Nat.le_of_ble_eq_true rfl) [some (vr g i), some (vi a1), some (vi (0 : Int32)), none] rfl ?_
  refine Z_aload_n hC (dk d_J7_fill_53178 2 rfl) 3 rfl rfl rfl ?_
  refine Z_alen hC hm h10 (by rw [hk]; decide) rfl (dk d_J7_fill_53178 3 rfl) 4 rfl ?_
  refine Z_istore_n hC (dk d_J7_fill_53178 4 rfl) 5 rfl rfl (Nat.le_of_ble_eq_true rfl) [some (vr g i), some (vi a1), some (vi (0 : Int32)), some (vi (Int32.ofNat (arr g).2))] rfl ?_
  obtain ⟨q2, hq2, h⟩ := bd_some h
  refine Z_wk [true, true, true, true] [some (vr g i), some (vi a1), some (vi (0 : Int32)), some (vi (Int32.ofNat (arr g).2))] rfl ?_
  refine z_J7_fill_53178_L1 hC hr N g i hm h10 hk a1 (Int32.ofNat (arr g).2) N (0 : Int32) w q2 hq2 ?_
  obtain rfl := Option.some.inj h
  exact Z_return (st := []) hC hr hQ (dk d_J7_fill_53178 14 rfl)
def t_X1_renew : List (Nat × Instr × Nat) := [(0, .aload_n 0, 1), (1, .getfield 11, 3), (4, .iload_n 1, 1), (5, .aaload, 1), (6, .iconst 0, 1), (7, .invokestatic 20, 3), (10, .aload_n 0, 1), (11, .getfield 16, 3), (14, .iload_n 1, 1), (15, .iload_n 2, 1), (16, .iastore, 1), (17, .return_, 1)]
set_option maxRecDepth 20000 in
theorem d_X1_renew : ∀ q ∈ t_X1_renew, decode cX1_renew q.1 = .ok q.2 := by decide +kernel
noncomputable def f_X1_renew (N : Nat) (a1 : Int32) (a2 : Int32) (w : Wd) : Option (Wd) :=
  gd (vp_in a1 6) (
  (f_J7_fill_53178 N 11 a1.toNatClampNeg (0 : Int32) w).bind (fun q2 =>
    gd (vp_in a1 6) (
    some (sA q2 12 0 (upd (gA q2 12 0) a1.toNatClampNeg a2)))))
set_option maxRecDepth 20000 in
set_option maxHeartbeats 4000000 in
theorem s_X1_renew (G : GT) (l : Launch) (N : Nat) (a1 : Int32) (a2 : Int32) (w : Wd) (q : Wd) (h : f_X1_renew N a1 a2 w = some q) : Sp G l yX1_renew cw_X1_renew 1 [vr 1 0, vi a1, vi a2] w none q := by
  refine Sp_of (own := RX1) [some (vr 1 0), some (vi a1), some (vi a2)] (by decide) rfl rfl (Nat.le_of_ble_eq_true rfl) ?_
  intro x hG hl hC hr hQ _ _
  subst hG
  subst hl
  unfold f_X1_renew at h
  refine Z_aload_n hC (dk d_X1_renew 0 rfl) 1 rfl rfl rfl ?_
  refine G_X1_11 hC m_1 (dk d_X1_renew 1 rfl) 4 rfl ?_
  refine Z_iload_n hC (dk d_X1_renew 2 rfl) 5 rfl rfl rfl ?_
  obtain ⟨g1, h⟩ := gd_some h
  refine Z_aaload hC m_10 (by decide) (by decide) g1 (dk d_X1_renew 3 rfl) 6 rfl ?_
  refine Z_iconst (v := 0) hC (dk d_X1_renew 4 rfl) 7 rfl (by decide) ?_
  obtain ⟨q2, hq2, h⟩ := bd_some h
  refine K_X1_20 [vr 11 a1.toNatClampNeg, vi (0 : Int32)] hC (s_J7_fill_53178 (xG x) (xl x) N 11 a1.toNatClampNeg (m_11 (vp_lt g1)) (by decide) rfl (0 : Int32) w q2 hq2) (Nat.le_of_ble_eq_true rfl) rfl rfl rfl (Nat.le_of_ble_eq_true rfl) (dk d_X1_renew 5 rfl) 10 rfl ?_
  refine Z_aload_n hC (dk d_X1_renew 6 rfl) 11 rfl rfl rfl ?_
  refine G_X1_16 hC m_1 (dk d_X1_renew 7 rfl) 14 rfl ?_
  refine Z_iload_n hC (dk d_X1_renew 8 rfl) 15 rfl rfl rfl ?_
  refine Z_iload_n hC (dk d_X1_renew 9 rfl) 16 rfl rfl rfl ?_
  obtain ⟨g3, h⟩ := gd_some h
  refine Z_iastore hC m_12 (by decide) rfl g3 (dk d_X1_renew 10 rfl) 17 rfl ?_
  obtain rfl := Option.some.inj h
  exact Z_return (st := []) hC hr hQ (dk d_X1_renew 11 rfl)
def t_X1_missesPlace : List (Nat × Instr × Nat) := [(0, .aload_n 0, 1), (1, .iload_n 1, 1), (2, .invokevirtual 26, 3), (5, .ifCond .eq 5, 3), (8, .iconst 1, 1), (9, .ireturn, 1), (10, .iload_n 2, 1), (11, .ifCond .lt 13, 3), (14, .iload_n 2, 1), (15, .aload_n 0, 1), (16, .getfield 16, 3), (19, .iload_n 1, 1), (20, .iaload, 1), (21, .if_icmp .lt 7, 3), (24, .iconst 2, 1), (25, .goto 4, 3), (28, .iconst 0, 1), (29, .ireturn, 1)]
set_option maxRecDepth 20000 in
theorem d_X1_missesPlace : ∀ q ∈ t_X1_missesPlace, decode cX1_missesPlace q.1 = .ok q.2 := by decide +kernel
noncomputable def f_X1_missesPlace (N : Nat) (a1 : Int32) (a2 : Int32) (w : Wd) : Option (Int32 × Wd) :=
  (f_X1_isMissing N a1 w).bind (fun q1 =>
    if q1.1 = 0 then
      if a2 < 0 then
        some ((2 : Int32), q1.2)
      else
        gd (vp_in a1 6) (
        if a2 < (gA q1.2 12 0 a1.toNatClampNeg) then
          some ((0 : Int32), q1.2)
        else
          some ((2 : Int32), q1.2))
    else
      some ((1 : Int32), q1.2))
set_option maxRecDepth 20000 in
set_option maxHeartbeats 4000000 in
theorem s_X1_missesPlace (G : GT) (l : Launch) (N : Nat) (a1 : Int32) (a2 : Int32) (w : Wd) (q : Int32 × Wd) (h : f_X1_missesPlace N a1 a2 w = some q) : Sp G l yX1_missesPlace cw_X1_missesPlace 1 [vr 1 0, vi a1, vi a2] w (some (vi q.1)) q.2 := by
  refine Sp_of (own := RX1) [some (vr 1 0), some (vi a1), some (vi a2)] (by decide) rfl rfl (Nat.le_of_ble_eq_true rfl) ?_
  intro x hG hl hC hr hQ _ _
  subst hG
  subst hl
  unfold f_X1_missesPlace at h
  refine Z_aload_n hC (dk d_X1_missesPlace 0 rfl) 1 rfl rfl rfl ?_
  refine Z_iload_n hC (dk d_X1_missesPlace 1 rfl) 2 rfl rfl rfl ?_
  obtain ⟨q1, hq1, h⟩ := bd_some h
  refine K_X1_26 [vi a1] hC m_1 (s_X1_isMissing (xG x) (xl x) N a1 w q1 hq1) (Nat.le_of_ble_eq_true rfl) rfl rfl rfl (Nat.le_of_ble_eq_true rfl) (dk d_X1_missesPlace 2 rfl) 5 rfl ?_
  refine Z_if_eq hC (dk d_X1_missesPlace 3 rfl) 8 10 rfl (by decide) (fun c => ?_) (fun c => ?_)
  · have h := it_t h c
    refine Z_iload_n hC (dk d_X1_missesPlace 6 rfl) 11 rfl rfl rfl ?_
    refine Z_if_lt hC (dk d_X1_missesPlace 7 rfl) 14 24 rfl (by decide) (fun c => ?_) (fun c => ?_)
    · have h := it_t h c
      refine Z_iconst (v := 2) hC (dk d_X1_missesPlace 14 rfl) 25 rfl (by decide) ?_
      refine Z_goto hC (dk d_X1_missesPlace 15 rfl) 29 (by decide) ?_
      obtain rfl := Option.some.inj h
      exact Z_ireturn (st := []) hC hr hQ (dk d_X1_missesPlace 17 rfl)
    · have h := it_f h c
      refine Z_iload_n hC (dk d_X1_missesPlace 8 rfl) 15 rfl rfl rfl ?_
      refine Z_aload_n hC (dk d_X1_missesPlace 9 rfl) 16 rfl rfl rfl ?_
      refine G_X1_16 hC m_1 (dk d_X1_missesPlace 10 rfl) 19 rfl ?_
      refine Z_iload_n hC (dk d_X1_missesPlace 11 rfl) 20 rfl rfl rfl ?_
      obtain ⟨g2, h⟩ := gd_some h
      refine Z_iaload hC m_12 (by decide) rfl g2 (dk d_X1_missesPlace 12 rfl) 21 rfl ?_
      refine Z_icmp_lt hC (dk d_X1_missesPlace 13 rfl) 24 28 rfl (by decide) (fun c => ?_) (fun c => ?_)
      · have h := it_t h c
        refine Z_iconst (v := 0) hC (dk d_X1_missesPlace 16 rfl) 29 rfl (by decide) ?_
        obtain rfl := Option.some.inj h
        exact Z_ireturn (st := []) hC hr hQ (dk d_X1_missesPlace 17 rfl)
      · have h := it_f h c
        refine Z_iconst (v := 2) hC (dk d_X1_missesPlace 14 rfl) 25 rfl (by decide) ?_
        refine Z_goto hC (dk d_X1_missesPlace 15 rfl) 29 (by decide) ?_
        obtain rfl := Option.some.inj h
        exact Z_ireturn (st := []) hC hr hQ (dk d_X1_missesPlace 17 rfl)
  · have h := it_f h c
    refine Z_iconst (v := 1) hC (dk d_X1_missesPlace 4 rfl) 9 rfl (by decide) ?_
    obtain rfl := Option.some.inj h
    exact Z_ireturn (st := []) hC hr hQ (dk d_X1_missesPlace 5 rfl)
def t_X1_hasPlaces : List (Nat × Instr × Nat) := [(0, .iload_n 2, 1), (1, .ifCond .lt 29, 3), (4, .iload_n 2, 1), (5, .aload_n 0, 1), (6, .getfield 16, 3), (9, .iload_n 1, 1), (10, .iaload, 1), (11, .if_icmp .gt 19, 3), (14, .iload_n 3, 1), (15, .aload_n 0, 1), (16, .getfield 16, 3), (19, .iload_n 1, 1), (20, .iaload, 1), (21, .iload_n 2, 1), (22, .isub, 1), (23, .if_icmp .gt 7, 3), (26, .iconst 1, 1), (27, .goto 4, 3), (30, .iconst 0, 1), (31, .ireturn, 1)]
set_option maxRecDepth 20000 in
theorem d_X1_hasPlaces : ∀ q ∈ t_X1_hasPlaces, decode cX1_hasPlaces q.1 = .ok q.2 := by decide +kernel
noncomputable def f_X1_hasPlaces (N : Nat) (a1 : Int32) (a2 : Int32) (a3 : Int32) (w : Wd) : Option (Int32 × Wd) :=
  if a2 < 0 then
    some ((0 : Int32), w)
  else
    gd (vp_in a1 6) (
    if (gA w 12 0 a1.toNatClampNeg) < a2 then
      some ((0 : Int32), w)
    else
      gd (vp_in a1 6) (
      if ((gA w 12 0 a1.toNatClampNeg) - a2) < a3 then
        some ((0 : Int32), w)
      else
        some ((1 : Int32), w)))
set_option maxRecDepth 20000 in
set_option maxHeartbeats 4000000 in
theorem s_X1_hasPlaces (G : GT) (l : Launch) (N : Nat) (a1 : Int32) (a2 : Int32) (a3 : Int32) (w : Wd) (q : Int32 × Wd) (h : f_X1_hasPlaces N a1 a2 a3 w = some q) : Sp G l yX1_hasPlaces cw_X1_hasPlaces 0 [vr 1 0, vi a1, vi a2, vi a3] w (some (vi q.1)) q.2 := by
  refine Sp_of (own := RX1) [some (vr 1 0), some (vi a1), some (vi a2), some (vi a3)] (by decide) rfl rfl (Nat.le_of_ble_eq_true rfl) ?_
  intro x hG hl hC hr hQ _ _
  subst hG
  subst hl
  unfold f_X1_hasPlaces at h
  refine Z_iload_n hC (dk d_X1_hasPlaces 0 rfl) 1 rfl rfl rfl ?_
  refine Z_if_lt hC (dk d_X1_hasPlaces 1 rfl) 4 30 rfl (by decide) (fun c => ?_) (fun c => ?_)
  · have h := it_t h c
    refine Z_iconst (v := 0) hC (dk d_X1_hasPlaces 18 rfl) 31 rfl (by decide) ?_
    obtain rfl := Option.some.inj h
    exact Z_zreturn (st := []) hC hr rfl hQ (dk d_X1_hasPlaces 19 rfl)
  · have h := it_f h c
    refine Z_iload_n hC (dk d_X1_hasPlaces 2 rfl) 5 rfl rfl rfl ?_
    refine Z_aload_n hC (dk d_X1_hasPlaces 3 rfl) 6 rfl rfl rfl ?_
    refine G_X1_16 hC m_1 (dk d_X1_hasPlaces 4 rfl) 9 rfl ?_
    refine Z_iload_n hC (dk d_X1_hasPlaces 5 rfl) 10 rfl rfl rfl ?_
    obtain ⟨g1, h⟩ := gd_some h
    refine Z_iaload hC m_12 (by decide) rfl g1 (dk d_X1_hasPlaces 6 rfl) 11 rfl ?_
    refine Z_icmp_gt hC (dk d_X1_hasPlaces 7 rfl) 14 30 rfl (by decide) (fun c => ?_) (fun c => ?_)
    · have h := it_t h c
      refine Z_iconst (v := 0) hC (dk d_X1_hasPlaces 18 rfl) 31 rfl (by decide) ?_
      obtain rfl := Option.some.inj h
      exact Z_zreturn (st := []) hC hr rfl hQ (dk d_X1_hasPlaces 19 rfl)
    · have h := it_f h c
      refine Z_iload_n hC (dk d_X1_hasPlaces 8 rfl) 15 rfl rfl rfl ?_
      refine Z_aload_n hC (dk d_X1_hasPlaces 9 rfl) 16 rfl rfl rfl ?_
      refine G_X1_16 hC m_1 (dk d_X1_hasPlaces 10 rfl) 19 rfl ?_
      refine Z_iload_n hC (dk d_X1_hasPlaces 11 rfl) 20 rfl rfl rfl ?_
      obtain ⟨g2, h⟩ := gd_some h
      refine Z_iaload hC m_12 (by decide) rfl g2 (dk d_X1_hasPlaces 12 rfl) 21 rfl ?_
      refine Z_iload_n hC (dk d_X1_hasPlaces 13 rfl) 22 rfl rfl rfl ?_
      refine Z_isub hC (dk d_X1_hasPlaces 14 rfl) 23 rfl ?_
      refine Z_icmp_gt hC (dk d_X1_hasPlaces 15 rfl) 26 30 rfl (by decide) (fun c => ?_) (fun c => ?_)
      · have h := it_t h c
        refine Z_iconst (v := 0) hC (dk d_X1_hasPlaces 18 rfl) 31 rfl (by decide) ?_
        obtain rfl := Option.some.inj h
        exact Z_zreturn (st := []) hC hr rfl hQ (dk d_X1_hasPlaces 19 rfl)
      · have h := it_f h c
        refine Z_iconst (v := 1) hC (dk d_X1_hasPlaces 16 rfl) 27 rfl (by decide) ?_
        refine Z_goto hC (dk d_X1_hasPlaces 17 rfl) 31 (by decide) ?_
        obtain rfl := Option.some.inj h
        exact Z_zreturn (st := []) hC hr rfl hQ (dk d_X1_hasPlaces 19 rfl)
def t_X1_mixAll : List (Nat × Instr × Nat) := [(0, .lload_n 1, 1), (1, .lstore_n 3, 1), (2, .iconst 0, 1), (3, .istore 5, 2), (5, .iload 5, 2), (7, .bipush 6, 2), (9, .if_icmp .ge 63, 3), (12, .ldc2_w 30, 3), (15, .lload_n 3, 1), (16, .lmul, 1), (17, .aload_n 0, 1), (18, .getfield 16, 3), (21, .iload 5, 2), (23, .iaload, 1), (24, .i2l, 1), (25, .ladd, 1), (26, .lstore_n 3, 1), (27, .iconst 0, 1), (28, .istore 6, 2), (30, .iload 6, 2), (32, .aload_n 0, 1), (33, .getfield 16, 3), (36, .iload 5, 2), (38, .iaload, 1), (39, .if_icmp .ge 27, 3), (42, .ldc2_w 30, 3), (45, .lload_n 3, 1), (46, .lmul, 1), (47, .aload_n 0, 1), (48, .getfield 11, 3), (51, .iload 5, 2), (53, .aaload, 1), (54, .iload 6, 2), (56, .iaload, 1), (57, .i2l, 1), (58, .ladd, 1), (59, .lstore_n 3, 1), (60, .iinc 6 1, 3), (63, .goto (-33), 3), (66, .iinc 5 1, 3), (69, .goto (-64), 3), (72, .lload_n 3, 1), (73, .lreturn, 1)]
set_option maxRecDepth 20000 in
theorem d_X1_mixAll : ∀ q ∈ t_X1_mixAll, decode cX1_mixAll q.1 = .ok q.2 := by decide +kernel
noncomputable def X1_mixAll_L2 (N : Nat) (x5 : Int32) : Nat → Int64 → Int32 → Wd → Option (Int64 × Wd)
  | 0, _, _, _ => none
  | n + 1, x3, x6, w =>
  gd (vp_in x5 6) (
  if (gA w 12 0 x5.toNatClampNeg) ≤ x6 then
    some (x3, w)
  else
    gd (vp_in x5 6) (
    gd (vp_in x6 40) (
    X1_mixAll_L2 N x5 n (((31 : Int64) * x3) + ((gA w 11 x5.toNatClampNeg x6.toNatClampNeg).toInt64)) (x6 + (1 : Int32)) w)))
set_option maxRecDepth 20000 in
set_option maxHeartbeats 4000000 in
theorem z_X1_mixAll_L2 {x : CX} (hC : Cx x RX1 cX1_mixAll 7 0) (hr : (xM x).sig.returnType = (some .long)) (N : Nat) (x5 : Int32) : ∀ (n : Nat) (x3 : Int64) (x6 : Int32) (w : Wd) (q : (Int64 × Wd)), X1_mixAll_L2 N x5 n x3 x6 w = some q → Z x 66 [some (vr 1 0), none, none, some (vl q.1), none, some (vi x5), none] [] q.2 → Z x 30 [some (vr 1 0), none, none, some (vl x3), none, some (vi x5), some (vi x6)] [] w := by
  intro n
  induction n with
  | zero =>
    intro x3 x6 w q h
    cases h
  | succ n ih =>
    intro x3 x6 w q h ke
    rw [X1_mixAll_L2] at h
    refine Z_iload hC (dk d_X1_mixAll 19 rfl) 32 rfl rfl ?_
    refine Z_aload_n hC (dk d_X1_mixAll 20 rfl) 33 rfl rfl rfl ?_
    refine G_X1_16 hC m_1 (dk d_X1_mixAll 21 rfl) 36 rfl ?_
    refine Z_iload hC (dk d_X1_mixAll 22 rfl) 38 rfl rfl ?_
    obtain ⟨g2, h⟩ := gd_some h
    refine Z_iaload hC m_12 (by decide) rfl g2 (dk d_X1_mixAll 23 rfl) 39 rfl ?_
    refine Z_icmp_ge hC (dk d_X1_mixAll 24 rfl) 42 66 rfl (by decide) (fun c => ?_) (fun c => ?_)
    · have h := it_t h c
      obtain rfl := Option.some.inj h
      refine Z_wk [true, false, false, true, false, true, false] [some (vr 1 0), none, none, some (vl x3), none, some (vi x5), none] rfl ?_
      exact ke
    · have h := it_f h c
      refine Z_ldc2 hC kc_X1_30 (dk d_X1_mixAll 25 rfl) 45 rfl ?_
      refine Z_lload_n hC (dk d_X1_mixAll 26 rfl) 46 rfl rfl rfl ?_
      refine Z_lmul hC (dk d_X1_mixAll 27 rfl) 47 rfl ?_
      refine Z_aload_n hC (dk d_X1_mixAll 28 rfl) 48 rfl rfl rfl ?_
      refine G_X1_11 hC m_1 (dk d_X1_mixAll 29 rfl) 51 rfl ?_
      refine Z_iload hC (dk d_X1_mixAll 30 rfl) 53 rfl rfl ?_
      obtain ⟨g3, h⟩ := gd_some h
      refine Z_aaload hC m_10 (by decide) (by decide) g3 (dk d_X1_mixAll 31 rfl) 54 rfl ?_
      refine Z_iload hC (dk d_X1_mixAll 32 rfl) 56 rfl rfl ?_
      obtain ⟨g4, h⟩ := gd_some h
      refine Z_iaload hC (m_11 (vp_lt g3)) (by decide) rfl g4 (dk d_X1_mixAll 33 rfl) 57 rfl ?_
      refine Z_i2l hC (dk d_X1_mixAll 34 rfl) 58 rfl ?_
      refine Z_ladd hC (dk d_X1_mixAll 35 rfl) 59 rfl ?_
      refine Z_lstore_n hC (dk d_X1_mixAll 36 rfl) 60 rfl rfl (Nat.le_of_ble_eq_true rfl) [some (vr 1 0), none, none, some (vl (((31 : Int64) * x3) + ((gA w 11 x5.toNatClampNeg x6.toNatClampNeg).toInt64))), none, some (vi x5), some (vi x6)] rfl ?_
      refine Z_iinc hC (dk d_X1_mixAll 37 rfl) 63 rfl rfl rfl [some (vr 1 0), none, none, some (vl (((31 : Int64) * x3) + ((gA w 11 x5.toNatClampNeg x6.toNatClampNeg).toInt64))), none, some (vi x5), some (vi (x6 + (1 : Int32)))] rfl ?_
      refine Z_goto hC (dk d_X1_mixAll 38 rfl) 30 (by decide) ?_
      refine Z_wk [true, false, false, true, false, true, true] [some (vr 1 0), none, none, some (vl (((31 : Int64) * x3) + ((gA w 11 x5.toNatClampNeg x6.toNatClampNeg).toInt64))), none, some (vi x5), some (vi (x6 + (1 : Int32)))] rfl ?_
      exact ih (((31 : Int64) * x3) + ((gA w 11 x5.toNatClampNeg x6.toNatClampNeg).toInt64)) (x6 + (1 : Int32)) w _ h ke
noncomputable def X1_mixAll_L1 (N : Nat) : Nat → Int64 → Int32 → Wd → Option (Int64 × Wd)
  | 0, _, _, _ => none
  | n + 1, x3, x5, w =>
  if (6 : Int32) ≤ x5 then
    some (x3, w)
  else
    gd (vp_in x5 6) (
    (X1_mixAll_L2 N x5 N (((31 : Int64) * x3) + ((gA w 12 0 x5.toNatClampNeg).toInt64)) (0 : Int32) w).bind (fun q5 =>
      X1_mixAll_L1 N n q5.1 (x5 + (1 : Int32)) q5.2))
set_option maxRecDepth 20000 in
set_option maxHeartbeats 4000000 in
theorem z_X1_mixAll_L1 {x : CX} (hC : Cx x RX1 cX1_mixAll 7 0) (hr : (xM x).sig.returnType = (some .long)) (N : Nat) : ∀ (n : Nat) (x3 : Int64) (x5 : Int32) (w : Wd) (q : (Int64 × Wd)), X1_mixAll_L1 N n x3 x5 w = some q → Z x 72 [none, none, none, some (vl q.1), none, none, none] [] q.2 → Z x 5 [some (vr 1 0), none, none, some (vl x3), none, some (vi x5), none] [] w := by
  intro n
  induction n with
  | zero =>
    intro x3 x5 w q h
    cases h
  | succ n ih =>
    intro x3 x5 w q h ke
    rw [X1_mixAll_L1] at h
    refine Z_iload hC (dk d_X1_mixAll 4 rfl) 7 rfl rfl ?_
    refine Z_bipush (v := 6) hC (dk d_X1_mixAll 5 rfl) 9 rfl (by decide) ?_
    refine Z_icmp_ge hC (dk d_X1_mixAll 6 rfl) 12 72 rfl (by decide) (fun c => ?_) (fun c => ?_)
    · have h := it_t h c
      obtain rfl := Option.some.inj h
      refine Z_wk [false, false, false, true, false, false, false] [none, none, none, some (vl x3), none, none, none] rfl ?_
      exact ke
    · have h := it_f h c
      refine Z_ldc2 hC kc_X1_30 (dk d_X1_mixAll 7 rfl) 15 rfl ?_
      refine Z_lload_n hC (dk d_X1_mixAll 8 rfl) 16 rfl rfl rfl ?_
      refine Z_lmul hC (dk d_X1_mixAll 9 rfl) 17 rfl ?_
      refine Z_aload_n hC (dk d_X1_mixAll 10 rfl) 18 rfl rfl rfl ?_
      refine G_X1_16 hC m_1 (dk d_X1_mixAll 11 rfl) 21 rfl ?_
      refine Z_iload hC (dk d_X1_mixAll 12 rfl) 23 rfl rfl ?_
      obtain ⟨g1, h⟩ := gd_some h
      refine Z_iaload hC m_12 (by decide) rfl g1 (dk d_X1_mixAll 13 rfl) 24 rfl ?_
      refine Z_i2l hC (dk d_X1_mixAll 14 rfl) 25 rfl ?_
      refine Z_ladd hC (dk d_X1_mixAll 15 rfl) 26 rfl ?_
      refine Z_lstore_n hC (dk d_X1_mixAll 16 rfl) 27 rfl rfl (Nat.le_of_ble_eq_true rfl) [some (vr 1 0), none, none, some (vl (((31 : Int64) * x3) + ((gA w 12 0 x5.toNatClampNeg).toInt64))), none, some (vi x5), none] rfl ?_
      refine Z_iconst (v := 0) hC (dk d_X1_mixAll 17 rfl) 28 rfl (by decide) ?_
      refine Z_istore hC (dk d_X1_mixAll 18 rfl) 30 rfl (Nat.le_of_ble_eq_true rfl) [some (vr 1 0), none, none, some (vl (((31 : Int64) * x3) + ((gA w 12 0 x5.toNatClampNeg).toInt64))), none, some (vi x5), some (vi (0 : Int32))] rfl ?_
      obtain ⟨q5, hq5, h⟩ := bd_some h
      refine Z_wk [true, false, false, true, false, true, true] [some (vr 1 0), none, none, some (vl (((31 : Int64) * x3) + ((gA w 12 0 x5.toNatClampNeg).toInt64))), none, some (vi x5), some (vi (0 : Int32))] rfl ?_
      refine z_X1_mixAll_L2 hC hr N x5 N (((31 : Int64) * x3) + ((gA w 12 0 x5.toNatClampNeg).toInt64)) (0 : Int32) w q5 hq5 ?_
      refine Z_iinc hC (dk d_X1_mixAll 39 rfl) 69 rfl rfl rfl [some (vr 1 0), none, none, some (vl q5.1), none, some (vi (x5 + (1 : Int32))), none] rfl ?_
      refine Z_goto hC (dk d_X1_mixAll 40 rfl) 5 (by decide) ?_
      refine Z_wk [true, false, false, true, false, true, false] [some (vr 1 0), none, none, some (vl q5.1), none, some (vi (x5 + (1 : Int32))), none] rfl ?_
      exact ih q5.1 (x5 + (1 : Int32)) q5.2 _ h ke
noncomputable def f_X1_mixAll (N : Nat) (a1 : Int64) (w : Wd) : Option (Int64 × Wd) :=
  (X1_mixAll_L1 N N a1 (0 : Int32) w).bind (fun q6 =>
    some (q6.1, q6.2))
set_option maxRecDepth 20000 in
set_option maxHeartbeats 4000000 in
theorem s_X1_mixAll (G : GT) (l : Launch) (N : Nat) (a1 : Int64) (w : Wd) (q : Int64 × Wd) (h : f_X1_mixAll N a1 w = some q) : Sp G l yX1_mixAll cw_X1_mixAll 0 [vr 1 0, vl a1] w (some (vl q.1)) q.2 := by
  refine Sp_of (own := RX1) [some (vr 1 0), some (vl a1), none, none, none, none, none] (by decide) rfl rfl (Nat.le_of_ble_eq_true rfl) ?_
  intro x hG hl hC hr hQ _ _
  subst hG
  subst hl
  unfold f_X1_mixAll at h
  refine Z_lload_n hC (dk d_X1_mixAll 0 rfl) 1 rfl rfl rfl ?_
  refine Z_lstore_n hC (dk d_X1_mixAll 1 rfl) 2 rfl rfl (Nat.le_of_ble_eq_true rfl) [some (vr 1 0), some (vl a1), none, some (vl a1), none, none, none] rfl ?_
  refine Z_iconst (v := 0) hC (dk d_X1_mixAll 2 rfl) 3 rfl (by decide) ?_
  refine Z_istore hC (dk d_X1_mixAll 3 rfl) 5 rfl (Nat.le_of_ble_eq_true rfl) [some (vr 1 0), some (vl a1), none, some (vl a1), none, some (vi (0 : Int32)), none] rfl ?_
  obtain ⟨q6, hq6, h⟩ := bd_some h
  refine Z_wk [true, false, false, true, false, true, false] [some (vr 1 0), none, none, some (vl a1), none, some (vi (0 : Int32)), none] rfl ?_
  refine z_X1_mixAll_L1 hC hr N N a1 (0 : Int32) w q6 hq6 ?_
  refine Z_lload_n hC (dk d_X1_mixAll 41 rfl) 73 rfl rfl rfl ?_
  obtain rfl := Option.some.inj h
  exact Z_lreturn (st := []) hC hr hQ (dk d_X1_mixAll 42 rfl)
def t_X2_extend : List (Nat × Instr × Nat) := [(0, .iload_n 2, 1), (1, .aload_n 1, 1), (2, .getfield 35, 3), (5, .if_icmp .ge 9, 3), (8, .iload_n 2, 1), (9, .bipush 6, 2), (11, .if_icmp .lt 61, 3), (14, .aload_n 0, 1), (15, .getfield 18, 3), (18, .aload_n 0, 1), (19, .getfield 28, 3), (22, .if_icmp .ge 49, 3), (25, .aload_n 1, 1), (26, .iload 4, 2), (28, .invokevirtual 47, 3), (31, .ifCond .ne 40, 3), (34, .aload_n 0, 1), (35, .getfield 31, 3), (38, .ifCond .eq 12, 3), (41, .aload_n 1, 1), (42, .iload 4, 2), (44, .invokevirtual 51, 3), (47, .ifCond .ne 24, 3), (50, .aload_n 0, 1), (51, .getfield 9, 3), (54, .aload_n 0, 1), (55, .getfield 18, 3), (58, .iload 4, 2), (60, .iastore, 1), (61, .aload_n 0, 1), (62, .dup, 1), (63, .getfield 18, 3), (66, .iconst 1, 1), (67, .iadd, 1), (68, .putfield 18, 3), (71, .return_, 1), (72, .aload_n 0, 1), (73, .getfield 15, 3), (76, .iload_n 2, 1), (77, .iaload, 1), (78, .iload_n 3, 1), (79, .iconst (-1), 1), (80, .ixor, 1), (81, .iand, 1), (82, .istore 5, 2), (84, .iconst 0, 1), (85, .istore 6, 2), (87, .iload 6, 2), (89, .aload_n 1, 1), (90, .getfield 35, 3), (93, .if_icmp .ge 65, 3), (96, .aload_n 0, 1), (97, .getfield 18, 3), (100, .aload_n 0, 1), (101, .getfield 28, 3), (104, .if_icmp .ge 54, 3), (107, .iload 5, 2), (109, .iload 6, 2), (111, .ishr, 1), (112, .iconst 1, 1), (113, .iand, 1), (114, .ifCond .eq 38, 3), (117, .aload_n 1, 1), (118, .iload_n 2, 1), (119, .iload 6, 2), (121, .iload 4, 2), (123, .invokevirtual 54, 3), (126, .ifCond .ne 26, 3), (129, .aload_n 0, 1), (130, .aload_n 1, 1), (131, .iload_n 2, 1), (132, .iconst 1, 1), (133, .iadd, 1), (134, .iload_n 3, 1), (135, .iconst 1, 1), (136, .iload 6, 2), (138, .ishl, 1), (139, .ior, 1), (140, .iload 4, 2), (142, .iload 6, 2), (144, .iconst 3, 1), (145, .iload_n 2, 1), (146, .imul, 1), (147, .ishl, 1), (148, .ior, 1), (149, .invokestatic 43, 3), (152, .iinc 6 1, 3), (155, .goto (-68), 3), (158, .return_, 1)]
set_option maxRecDepth 20000 in
theorem d_X2_extend : ∀ q ∈ t_X2_extend, decode cX2_extend q.1 = .ok q.2 := by decide +kernel
noncomputable def X2_extend_J50 (N : Nat) (rec : Nat → Int32 → Int32 → Int32 → Wd → Option (Wd)) (i : Nat) (x4 : Int32) (w : Wd) : Option (Wd) :=
  gd (vp_in (gI w 201 i) 265) (
  some (sI (sA w 20 i (upd (gA w 20 i) (gI w 201 i).toNatClampNeg x4)) 201 i ((gI (sA w 20 i (upd (gA w 20 i) (gI w 201 i).toNatClampNeg x4)) 201 i) + (1 : Int32))))
set_option maxRecDepth 20000 in
set_option maxHeartbeats 4000000 in
theorem z_X2_extend_J50 {x : CX} {kd : Nat} (hC : Cx x RX2 cX2_extend 7 (3 + (kd + 1))) (hr : (xM x).sig.returnType = none) (N : Nat) {rec : Nat → Int32 → Int32 → Int32 → Wd → Option (Wd)} (hrec : ∀ (i : Nat) (a1 : Int32) (a2 : Int32) (a3 : Int32) (w : Wd) (q : Wd), i < 2 → rec i a1 a2 a3 w = some q → Sp (xG x) (xl x) yX2_extend cw_X2_extend (3 + kd) [vr 4 i, vr 3 i, vi a1, vi a2, vi a3] w none q) (i : Nat) (hi : i < 2) (x4 : Int32) (w : Wd) (q : (Wd)) (h : X2_extend_J50 N rec i x4 w = some q) (hQ : Rt x none q) : Z x 50 [some (vr 4 i), none, none, none, some (vi x4), none, none] [] w := by
  unfold X2_extend_J50 at h
  refine Z_aload_n hC (dk d_X2_extend 23 rfl) 51 rfl rfl rfl ?_
  refine G_X2_9 hC (m_4 hi) (dk d_X2_extend 24 rfl) 54 rfl ?_
  refine Z_aload_n hC (dk d_X2_extend 25 rfl) 55 rfl rfl rfl ?_
  refine G_X2_18 hC (m_4 hi) (dk d_X2_extend 26 rfl) 58 rfl ?_
  refine Z_iload hC (dk d_X2_extend 27 rfl) 60 rfl rfl ?_
  obtain ⟨g2, h⟩ := gd_some h
  refine Z_iastore hC (m_20 hi) (by decide) rfl g2 (dk d_X2_extend 28 rfl) 61 rfl ?_
  refine Z_aload_n hC (dk d_X2_extend 29 rfl) 62 rfl rfl rfl ?_
  refine Z_dup hC (dk d_X2_extend 30 rfl) 63 rfl rfl ?_
  refine G_X2_18 hC (m_4 hi) (dk d_X2_extend 31 rfl) 66 rfl ?_
  refine Z_iconst (v := 1) hC (dk d_X2_extend 32 rfl) 67 rfl (by decide) ?_
  refine Z_iadd hC (dk d_X2_extend 33 rfl) 68 rfl ?_
  refine P_X2_18 hC (m_4 hi) (dk d_X2_extend 34 rfl) 71 rfl ?_
  obtain rfl := Option.some.inj h
  exact Z_return (st := []) hC hr hQ (dk d_X2_extend 35 rfl)
noncomputable def X2_extend_J14 (N : Nat) (rec : Nat → Int32 → Int32 → Int32 → Wd → Option (Wd)) (i : Nat) (x4 : Int32) (w : Wd) : Option (Wd) :=
  if (gI w 204 i) ≤ (gI w 201 i) then
    some w
  else
    (f_X0_breaksRing N i x4 w).bind (fun q1 =>
      if q1.1 = 0 then
        if (gI q1.2 205 i) = 0 then
          X2_extend_J50 N rec i x4 q1.2
        else
          (f_X0_hadYear N i x4 q1.2).bind (fun q3 =>
            if q3.1 = 0 then
              X2_extend_J50 N rec i x4 q3.2
            else
              some q3.2)
      else
        some q1.2)
set_option maxRecDepth 20000 in
set_option maxHeartbeats 4000000 in
theorem z_X2_extend_J14 {x : CX} {kd : Nat} (hC : Cx x RX2 cX2_extend 7 (3 + (kd + 1))) (hr : (xM x).sig.returnType = none) (N : Nat) {rec : Nat → Int32 → Int32 → Int32 → Wd → Option (Wd)} (hrec : ∀ (i : Nat) (a1 : Int32) (a2 : Int32) (a3 : Int32) (w : Wd) (q : Wd), i < 2 → rec i a1 a2 a3 w = some q → Sp (xG x) (xl x) yX2_extend cw_X2_extend (3 + kd) [vr 4 i, vr 3 i, vi a1, vi a2, vi a3] w none q) (i : Nat) (hi : i < 2) (x4 : Int32) (w : Wd) (q : (Wd)) (h : X2_extend_J14 N rec i x4 w = some q) (hQ : Rt x none q) : Z x 14 [some (vr 4 i), some (vr 3 i), none, none, some (vi x4), none, none] [] w := by
  unfold X2_extend_J14 at h
  refine Z_aload_n hC (dk d_X2_extend 7 rfl) 15 rfl rfl rfl ?_
  refine G_X2_18 hC (m_4 hi) (dk d_X2_extend 8 rfl) 18 rfl ?_
  refine Z_aload_n hC (dk d_X2_extend 9 rfl) 19 rfl rfl rfl ?_
  refine G_X2_28 hC (m_4 hi) (dk d_X2_extend 10 rfl) 22 rfl ?_
  refine Z_icmp_ge hC (dk d_X2_extend 11 rfl) 25 71 rfl (by decide) (fun c => ?_) (fun c => ?_)
  · have h := it_t h c
    obtain rfl := Option.some.inj h
    exact Z_return (st := []) hC hr hQ (dk d_X2_extend 35 rfl)
  · have h := it_f h c
    refine Z_aload_n hC (dk d_X2_extend 12 rfl) 26 rfl rfl rfl ?_
    refine Z_iload hC (dk d_X2_extend 13 rfl) 28 rfl rfl ?_
    obtain ⟨q1, hq1, h⟩ := bd_some h
    refine K_X2_47 [vi x4] hC (m_3 hi) (s_X0_breaksRing (xG x) (xl x) N i hi x4 w q1 hq1) (by omega) rfl rfl rfl (Nat.le_of_ble_eq_true rfl) (dk d_X2_extend 14 rfl) 31 rfl ?_
    refine Z_if_ne hC (dk d_X2_extend 15 rfl) 34 71 rfl (by decide) (fun c => ?_) (fun c => ?_)
    · have h := it_f h c
      obtain rfl := Option.some.inj h
      exact Z_return (st := []) hC hr hQ (dk d_X2_extend 35 rfl)
    · have h := it_t h c
      refine Z_aload_n hC (dk d_X2_extend 16 rfl) 35 rfl rfl rfl ?_
      refine G_X2_31 hC (m_4 hi) (dk d_X2_extend 17 rfl) 38 rfl ?_
      refine Z_if_eq hC (dk d_X2_extend 18 rfl) 41 50 rfl (by decide) (fun c => ?_) (fun c => ?_)
      · have h := it_t h c
        refine Z_wk [true, false, false, false, true, false, false] [some (vr 4 i), none, none, none, some (vi x4), none, none] rfl ?_
        exact z_X2_extend_J50 hC hr N hrec i hi x4 q1.2 _ h hQ
      · have h := it_f h c
        refine Z_aload_n hC (dk d_X2_extend 19 rfl) 42 rfl rfl rfl ?_
        refine Z_iload hC (dk d_X2_extend 20 rfl) 44 rfl rfl ?_
        obtain ⟨q3, hq3, h⟩ := bd_some h
        refine K_X2_51 [vi x4] hC (m_3 hi) (s_X0_hadYear (xG x) (xl x) N i hi x4 q1.2 q3 hq3) (by omega) rfl rfl rfl (Nat.le_of_ble_eq_true rfl) (dk d_X2_extend 21 rfl) 47 rfl ?_
        refine Z_if_ne hC (dk d_X2_extend 22 rfl) 50 71 rfl (by decide) (fun c => ?_) (fun c => ?_)
        · have h := it_f h c
          obtain rfl := Option.some.inj h
          exact Z_return (st := []) hC hr hQ (dk d_X2_extend 35 rfl)
        · have h := it_t h c
          refine Z_wk [true, false, false, false, true, false, false] [some (vr 4 i), none, none, none, some (vi x4), none, none] rfl ?_
          exact z_X2_extend_J50 hC hr N hrec i hi x4 q3.2 _ h hQ
noncomputable def X2_extend_L1 (N : Nat) (rec : Nat → Int32 → Int32 → Int32 → Wd → Option (Wd)) (i : Nat) (x2 : Int32) (x3 : Int32) (x4 : Int32) (x5 : Int32) : Nat → Int32 → Wd → Option (Wd)
  | 0, _, _ => none
  | n + 1, x6, w =>
  if (gI w 4 i) ≤ x6 then
    some w
  else
    if (gI w 204 i) ≤ (gI w 201 i) then
      some w
    else
      if ((x5 >>> (x6 &&& (31 : Int32))) &&& (1 : Int32)) = 0 then
        X2_extend_L1 N rec i x2 x3 x4 x5 n (x6 + (1 : Int32)) w
      else
        (f_X0_drawsBack N i x2 x6 x4 w).bind (fun q5 =>
          if q5.1 = 0 then
            (rec i (x2 + (1 : Int32)) (x3 ||| ((1 : Int32) <<< (x6 &&& (31 : Int32)))) (x4 ||| (x6 <<< (((3 : Int32) * x2) &&& (31 : Int32)))) q5.2).bind (fun q6 =>
              X2_extend_L1 N rec i x2 x3 x4 x5 n (x6 + (1 : Int32)) q6)
          else
            X2_extend_L1 N rec i x2 x3 x4 x5 n (x6 + (1 : Int32)) q5.2)
set_option maxRecDepth 20000 in
set_option maxHeartbeats 4000000 in
theorem z_X2_extend_L1 {x : CX} {kd : Nat} (hC : Cx x RX2 cX2_extend 7 (3 + (kd + 1))) (hr : (xM x).sig.returnType = none) (N : Nat) {rec : Nat → Int32 → Int32 → Int32 → Wd → Option (Wd)} (hrec : ∀ (i : Nat) (a1 : Int32) (a2 : Int32) (a3 : Int32) (w : Wd) (q : Wd), i < 2 → rec i a1 a2 a3 w = some q → Sp (xG x) (xl x) yX2_extend cw_X2_extend (3 + kd) [vr 4 i, vr 3 i, vi a1, vi a2, vi a3] w none q) (i : Nat) (hi : i < 2) (x2 : Int32) (x3 : Int32) (x4 : Int32) (x5 : Int32) : ∀ (n : Nat) (x6 : Int32) (w : Wd) (q : (Wd)), X2_extend_L1 N rec i x2 x3 x4 x5 n x6 w = some q → Z x 158 [none, none, none, none, none, none, none] [] q → Z x 87 [some (vr 4 i), some (vr 3 i), some (vi x2), some (vi x3), some (vi x4), some (vi x5), some (vi x6)] [] w := by
  intro n
  induction n with
  | zero =>
    intro x6 w q h
    cases h
  | succ n ih =>
    intro x6 w q h ke
    rw [X2_extend_L1] at h
    refine Z_iload hC (dk d_X2_extend 47 rfl) 89 rfl rfl ?_
    refine Z_aload_n hC (dk d_X2_extend 48 rfl) 90 rfl rfl rfl ?_
    refine G_X2_35 hC (m_3 hi) (dk d_X2_extend 49 rfl) 93 rfl ?_
    refine Z_icmp_ge hC (dk d_X2_extend 50 rfl) 96 158 rfl (by decide) (fun c => ?_) (fun c => ?_)
    · have h := it_t h c
      obtain rfl := Option.some.inj h
      refine Z_wk [false, false, false, false, false, false, false] [none, none, none, none, none, none, none] rfl ?_
      exact ke
    · have h := it_f h c
      refine Z_aload_n hC (dk d_X2_extend 51 rfl) 97 rfl rfl rfl ?_
      refine G_X2_18 hC (m_4 hi) (dk d_X2_extend 52 rfl) 100 rfl ?_
      refine Z_aload_n hC (dk d_X2_extend 53 rfl) 101 rfl rfl rfl ?_
      refine G_X2_28 hC (m_4 hi) (dk d_X2_extend 54 rfl) 104 rfl ?_
      refine Z_icmp_ge hC (dk d_X2_extend 55 rfl) 107 158 rfl (by decide) (fun c => ?_) (fun c => ?_)
      · have h := it_t h c
        obtain rfl := Option.some.inj h
        refine Z_wk [false, false, false, false, false, false, false] [none, none, none, none, none, none, none] rfl ?_
        exact ke
      · have h := it_f h c
        refine Z_iload hC (dk d_X2_extend 56 rfl) 109 rfl rfl ?_
        refine Z_iload hC (dk d_X2_extend 57 rfl) 111 rfl rfl ?_
        refine Z_ishr hC (dk d_X2_extend 58 rfl) 112 rfl ?_
        refine Z_iconst (v := 1) hC (dk d_X2_extend 59 rfl) 113 rfl (by decide) ?_
        refine Z_iand hC (dk d_X2_extend 60 rfl) 114 rfl ?_
        refine Z_if_eq hC (dk d_X2_extend 61 rfl) 117 152 rfl (by decide) (fun c => ?_) (fun c => ?_)
        · have h := it_t h c
          refine Z_iinc hC (dk d_X2_extend 86 rfl) 155 rfl rfl rfl [some (vr 4 i), some (vr 3 i), some (vi x2), some (vi x3), some (vi x4), some (vi x5), some (vi (x6 + (1 : Int32)))] rfl ?_
          refine Z_goto hC (dk d_X2_extend 87 rfl) 87 (by decide) ?_
          refine Z_wk [true, true, true, true, true, true, true] [some (vr 4 i), some (vr 3 i), some (vi x2), some (vi x3), some (vi x4), some (vi x5), some (vi (x6 + (1 : Int32)))] rfl ?_
          exact ih (x6 + (1 : Int32)) w _ h ke
        · have h := it_f h c
          refine Z_aload_n hC (dk d_X2_extend 62 rfl) 118 rfl rfl rfl ?_
          refine Z_iload_n hC (dk d_X2_extend 63 rfl) 119 rfl rfl rfl ?_
          refine Z_iload hC (dk d_X2_extend 64 rfl) 121 rfl rfl ?_
          refine Z_iload hC (dk d_X2_extend 65 rfl) 123 rfl rfl ?_
          obtain ⟨q5, hq5, h⟩ := bd_some h
          refine K_X2_54 [vi x2, vi x6, vi x4] hC (m_3 hi) (s_X0_drawsBack (xG x) (xl x) N i hi x2 x6 x4 w q5 hq5) (by omega) rfl rfl rfl (Nat.le_of_ble_eq_true rfl) (dk d_X2_extend 66 rfl) 126 rfl ?_
          refine Z_if_ne hC (dk d_X2_extend 67 rfl) 129 152 rfl (by decide) (fun c => ?_) (fun c => ?_)
          · have h := it_f h c
            refine Z_iinc hC (dk d_X2_extend 86 rfl) 155 rfl rfl rfl [some (vr 4 i), some (vr 3 i), some (vi x2), some (vi x3), some (vi x4), some (vi x5), some (vi (x6 + (1 : Int32)))] rfl ?_
            refine Z_goto hC (dk d_X2_extend 87 rfl) 87 (by decide) ?_
            refine Z_wk [true, true, true, true, true, true, true] [some (vr 4 i), some (vr 3 i), some (vi x2), some (vi x3), some (vi x4), some (vi x5), some (vi (x6 + (1 : Int32)))] rfl ?_
            exact ih (x6 + (1 : Int32)) q5.2 _ h ke
          · have h := it_t h c
            refine Z_aload_n hC (dk d_X2_extend 68 rfl) 130 rfl rfl rfl ?_
            refine Z_aload_n hC (dk d_X2_extend 69 rfl) 131 rfl rfl rfl ?_
            refine Z_iload_n hC (dk d_X2_extend 70 rfl) 132 rfl rfl rfl ?_
            refine Z_iconst (v := 1) hC (dk d_X2_extend 71 rfl) 133 rfl (by decide) ?_
            refine Z_iadd hC (dk d_X2_extend 72 rfl) 134 rfl ?_
            refine Z_iload_n hC (dk d_X2_extend 73 rfl) 135 rfl rfl rfl ?_
            refine Z_iconst (v := 1) hC (dk d_X2_extend 74 rfl) 136 rfl (by decide) ?_
            refine Z_iload hC (dk d_X2_extend 75 rfl) 138 rfl rfl ?_
            refine Z_ishl hC (dk d_X2_extend 76 rfl) 139 rfl ?_
            refine Z_ior hC (dk d_X2_extend 77 rfl) 140 rfl ?_
            refine Z_iload hC (dk d_X2_extend 78 rfl) 142 rfl rfl ?_
            refine Z_iload hC (dk d_X2_extend 79 rfl) 144 rfl rfl ?_
            refine Z_iconst (v := 3) hC (dk d_X2_extend 80 rfl) 145 rfl (by decide) ?_
            refine Z_iload_n hC (dk d_X2_extend 81 rfl) 146 rfl rfl rfl ?_
            refine Z_imul hC (dk d_X2_extend 82 rfl) 147 rfl ?_
            refine Z_ishl hC (dk d_X2_extend 83 rfl) 148 rfl ?_
            refine Z_ior hC (dk d_X2_extend 84 rfl) 149 rfl ?_
            obtain ⟨q6, hq6, h⟩ := bd_some h
            refine K_X2_43 [vr 4 i, vr 3 i, vi (x2 + (1 : Int32)), vi (x3 ||| ((1 : Int32) <<< (x6 &&& (31 : Int32)))), vi (x4 ||| (x6 <<< (((3 : Int32) * x2) &&& (31 : Int32))))] hC (hrec i (x2 + (1 : Int32)) (x3 ||| ((1 : Int32) <<< (x6 &&& (31 : Int32)))) (x4 ||| (x6 <<< (((3 : Int32) * x2) &&& (31 : Int32)))) q5.2 q6 hi hq6) (by omega) rfl rfl rfl (Nat.le_of_ble_eq_true rfl) (dk d_X2_extend 85 rfl) 152 rfl ?_
            refine Z_iinc hC (dk d_X2_extend 86 rfl) 155 rfl rfl rfl [some (vr 4 i), some (vr 3 i), some (vi x2), some (vi x3), some (vi x4), some (vi x5), some (vi (x6 + (1 : Int32)))] rfl ?_
            refine Z_goto hC (dk d_X2_extend 87 rfl) 87 (by decide) ?_
            refine Z_wk [true, true, true, true, true, true, true] [some (vr 4 i), some (vr 3 i), some (vi x2), some (vi x3), some (vi x4), some (vi x5), some (vi (x6 + (1 : Int32)))] rfl ?_
            exact ih (x6 + (1 : Int32)) q6 _ h ke
noncomputable def f_X2_extend (N : Nat) : Nat → Nat → Int32 → Int32 → Int32 → Wd → Option (Wd)
  | 0, _, _, _, _, _ => none
  | k + 1, i, a1, a2, a3, w =>
  if (gI w 4 i) ≤ a1 then
    X2_extend_J14 N (f_X2_extend N k) i a3 w
  else
    if a1 < (6 : Int32) then
      gd (vp_in a1 6) (
      (X2_extend_L1 N (f_X2_extend N k) i a1 a2 a3 ((gA w 21 i a1.toNatClampNeg) &&& (a2 ^^^ (-1 : Int32))) N (0 : Int32) w).bind (fun q7 =>
        some q7))
    else
      X2_extend_J14 N (f_X2_extend N k) i a3 w
set_option maxRecDepth 20000 in
set_option maxHeartbeats 4000000 in
theorem s_X2_extend (G : GT) (l : Launch) (N : Nat) : ∀ (k : Nat) (i : Nat) (hi : i < 2) (a1 : Int32) (a2 : Int32) (a3 : Int32) (w : Wd) (q : Wd) (h : f_X2_extend N k i a1 a2 a3 w = some q), Sp G l yX2_extend cw_X2_extend (3 + k) [vr 4 i, vr 3 i, vi a1, vi a2, vi a3] w none q := by
  intro kd
  induction kd with
  | zero =>
    intro i hi a1 a2 a3 w q h
    cases h
  | succ kd ih =>
    intro i hi a1 a2 a3 w q h
    rw [f_X2_extend] at h
    refine Sp_of (own := RX2) [some (vr 4 i), some (vr 3 i), some (vi a1), some (vi a2), some (vi a3), none, none] (by decide) rfl rfl (Nat.le_of_ble_eq_true rfl) ?_
    intro x hG hl hC hr hQ _ _
    subst hG
    subst hl
    have hrec : ∀ (i : Nat) (a1 : Int32) (a2 : Int32) (a3 : Int32) (w : Wd) (q : Wd), i < 2 → f_X2_extend N kd i a1 a2 a3 w = some q → Sp (xG x) (xl x) yX2_extend cw_X2_extend (3 + kd) [vr 4 i, vr 3 i, vi a1, vi a2, vi a3] w none q := fun i a1 a2 a3 w q hi h => ih i hi a1 a2 a3 w q h
    refine Z_iload_n hC (dk d_X2_extend 0 rfl) 1 rfl rfl rfl ?_
    refine Z_aload_n hC (dk d_X2_extend 1 rfl) 2 rfl rfl rfl ?_
    refine G_X2_35 hC (m_3 hi) (dk d_X2_extend 2 rfl) 5 rfl ?_
    refine Z_icmp_ge hC (dk d_X2_extend 3 rfl) 8 14 rfl (by decide) (fun c => ?_) (fun c => ?_)
    · have h := it_t h c
      refine Z_wk [true, true, false, false, true, false, false] [some (vr 4 i), some (vr 3 i), none, none, some (vi a3), none, none] rfl ?_
      exact z_X2_extend_J14 hC hr N hrec i hi a3 w _ h hQ
    · have h := it_f h c
      refine Z_iload_n hC (dk d_X2_extend 4 rfl) 9 rfl rfl rfl ?_
      refine Z_bipush (v := 6) hC (dk d_X2_extend 5 rfl) 11 rfl (by decide) ?_
      refine Z_icmp_lt hC (dk d_X2_extend 6 rfl) 14 72 rfl (by decide) (fun c => ?_) (fun c => ?_)
      · have h := it_t h c
        refine Z_aload_n hC (dk d_X2_extend 36 rfl) 73 rfl rfl rfl ?_
        refine G_X2_15 hC (m_4 hi) (dk d_X2_extend 37 rfl) 76 rfl ?_
        refine Z_iload_n hC (dk d_X2_extend 38 rfl) 77 rfl rfl rfl ?_
        obtain ⟨g4, h⟩ := gd_some h
        refine Z_iaload hC (m_21 hi) (by decide) rfl g4 (dk d_X2_extend 39 rfl) 78 rfl ?_
        refine Z_iload_n hC (dk d_X2_extend 40 rfl) 79 rfl rfl rfl ?_
        refine Z_iconst (v := -1) hC (dk d_X2_extend 41 rfl) 80 rfl (by decide) ?_
        refine Z_ixor hC (dk d_X2_extend 42 rfl) 81 rfl ?_
        refine Z_iand hC (dk d_X2_extend 43 rfl) 82 rfl ?_
        refine Z_istore hC (dk d_X2_extend 44 rfl) 84 rfl (Nat.le_of_ble_eq_true rfl) [some (vr 4 i), some (vr 3 i), some (vi a1), some (vi a2), some (vi a3), some (vi ((gA w 21 i a1.toNatClampNeg) &&& (a2 ^^^ (-1 : Int32)))), none] rfl ?_
        refine Z_iconst (v := 0) hC (dk d_X2_extend 45 rfl) 85 rfl (by decide) ?_
        refine Z_istore hC (dk d_X2_extend 46 rfl) 87 rfl (Nat.le_of_ble_eq_true rfl) [some (vr 4 i), some (vr 3 i), some (vi a1), some (vi a2), some (vi a3), some (vi ((gA w 21 i a1.toNatClampNeg) &&& (a2 ^^^ (-1 : Int32)))), some (vi (0 : Int32))] rfl ?_
        obtain ⟨q7, hq7, h⟩ := bd_some h
        refine Z_wk [true, true, true, true, true, true, true] [some (vr 4 i), some (vr 3 i), some (vi a1), some (vi a2), some (vi a3), some (vi ((gA w 21 i a1.toNatClampNeg) &&& (a2 ^^^ (-1 : Int32)))), some (vi (0 : Int32))] rfl ?_
        refine z_X2_extend_L1 hC hr N hrec i hi a1 a2 a3 ((gA w 21 i a1.toNatClampNeg) &&& (a2 ^^^ (-1 : Int32))) N (0 : Int32) w q7 hq7 ?_
        obtain rfl := Option.some.inj h
        exact Z_return (st := []) hC hr hQ (dk d_X2_extend 88 rfl)
      · have h := it_f h c
        refine Z_wk [true, true, false, false, true, false, false] [some (vr 4 i), some (vr 3 i), none, none, some (vi a3), none, none] rfl ?_
        exact z_X2_extend_J14 hC hr N hrec i hi a3 w _ h hQ
def t_X2_list : List (Nat × Instr × Nat) := [(0, .aload_n 0, 1), (1, .iconst 0, 1), (2, .putfield 18, 3), (5, .aload_n 0, 1), (6, .iload_n 2, 1), (7, .sipush 265, 3), (10, .invokestatic 22, 3), (13, .putfield 28, 3), (16, .aload_n 0, 1), (17, .iload_n 3, 1), (18, .putfield 31, 3), (21, .iconst 0, 1), (22, .istore 4, 2), (24, .iload 4, 2), (26, .aload_n 1, 1), (27, .getfield 35, 3), (30, .if_icmp .ge 22, 3), (33, .aload_n 0, 1), (34, .getfield 15, 3), (37, .iload 4, 2), (39, .aload_n 1, 1), (40, .iload 4, 2), (42, .invokevirtual 40, 3), (45, .iastore, 1), (46, .iinc 4 1, 3), (49, .goto (-25), 3), (52, .aload_n 0, 1), (53, .aload_n 1, 1), (54, .iconst 0, 1), (55, .iconst 0, 1), (56, .iconst 0, 1), (57, .invokestatic 43, 3), (60, .aload_n 0, 1), (61, .getfield 18, 3), (64, .ireturn, 1)]
set_option maxRecDepth 20000 in
theorem d_X2_list : ∀ q ∈ t_X2_list, decode cX2_list q.1 = .ok q.2 := by decide +kernel
noncomputable def X2_list_L1 (N : Nat) (i : Nat) : Nat → Int32 → Wd → Option (Wd)
  | 0, _, _ => none
  | n + 1, x4, w =>
  if (gI w 4 i) ≤ x4 then
    some w
  else
    (f_X0_open N i x4 w).bind (fun q2 =>
      gd (vp_in x4 6) (
      X2_list_L1 N i n (x4 + (1 : Int32)) (sA q2.2 21 i (upd (gA q2.2 21 i) x4.toNatClampNeg q2.1))))
set_option maxRecDepth 20000 in
set_option maxHeartbeats 4000000 in
theorem z_X2_list_L1 {x : CX} (hC : Cx x RX2 cX2_list 5 12) (hr : (xM x).sig.returnType = (some .int)) (N : Nat) (i : Nat) (hi : i < 2) : ∀ (n : Nat) (x4 : Int32) (w : Wd) (q : (Wd)), X2_list_L1 N i n x4 w = some q → Z x 52 [some (vr 4 i), some (vr 3 i), none, none, none] [] q → Z x 24 [some (vr 4 i), some (vr 3 i), none, none, some (vi x4)] [] w := by
  intro n
  induction n with
  | zero =>
    intro x4 w q h
    cases h
  | succ n ih =>
    intro x4 w q h ke
    rw [X2_list_L1] at h
    refine Z_iload hC (dk d_X2_list 13 rfl) 26 rfl rfl ?_
    refine Z_aload_n hC (dk d_X2_list 14 rfl) 27 rfl rfl rfl ?_
    refine G_X2_35 hC (m_3 hi) (dk d_X2_list 15 rfl) 30 rfl ?_
    refine Z_icmp_ge hC (dk d_X2_list 16 rfl) 33 52 rfl (by decide) (fun c => ?_) (fun c => ?_)
    · have h := it_t h c
      obtain rfl := Option.some.inj h
      refine Z_wk [true, true, false, false, false] [some (vr 4 i), some (vr 3 i), none, none, none] rfl ?_
      exact ke
    · have h := it_f h c
      refine Z_aload_n hC (dk d_X2_list 17 rfl) 34 rfl rfl rfl ?_
      refine G_X2_15 hC (m_4 hi) (dk d_X2_list 18 rfl) 37 rfl ?_
      refine Z_iload hC (dk d_X2_list 19 rfl) 39 rfl rfl ?_
      refine Z_aload_n hC (dk d_X2_list 20 rfl) 40 rfl rfl rfl ?_
      refine Z_iload hC (dk d_X2_list 21 rfl) 42 rfl rfl ?_
      obtain ⟨q2, hq2, h⟩ := bd_some h
      refine K_X2_40 [vi x4] hC (m_3 hi) (s_X0_open (xG x) (xl x) N i hi x4 w q2 hq2) (Nat.le_of_ble_eq_true rfl) rfl rfl rfl (Nat.le_of_ble_eq_true rfl) (dk d_X2_list 22 rfl) 45 rfl ?_
      obtain ⟨g3, h⟩ := gd_some h
      refine Z_iastore hC (m_21 hi) (by decide) rfl g3 (dk d_X2_list 23 rfl) 46 rfl ?_
      refine Z_iinc hC (dk d_X2_list 24 rfl) 49 rfl rfl rfl [some (vr 4 i), some (vr 3 i), none, none, some (vi (x4 + (1 : Int32)))] rfl ?_
      refine Z_goto hC (dk d_X2_list 25 rfl) 24 (by decide) ?_
      refine Z_wk [true, true, false, false, true] [some (vr 4 i), some (vr 3 i), none, none, some (vi (x4 + (1 : Int32)))] rfl ?_
      exact ih (x4 + (1 : Int32)) (sA q2.2 21 i (upd (gA q2.2 21 i) x4.toNatClampNeg q2.1)) _ h ke
noncomputable def f_X2_list (N : Nat) (i : Nat) (a1 : Int32) (a2 : Int32) (w : Wd) : Option (Int32 × Wd) :=
  gd (a2 = 0 ∨ a2 = 1) (
  (X2_list_L1 N i N (0 : Int32) (sI (sI (sI w 201 i (0 : Int32)) 204 i (if (265 : Int32) < a1 then (265 : Int32) else a1)) 205 i a2)).bind (fun q4 =>
    (f_X2_extend N 8 i (0 : Int32) (0 : Int32) (0 : Int32) q4).bind (fun q5 =>
      some (gI q5 201 i, q5))))
set_option maxRecDepth 20000 in
set_option maxHeartbeats 4000000 in
theorem s_X2_list (G : GT) (l : Launch) (N : Nat) (i : Nat) (hi : i < 2) (a1 : Int32) (a2 : Int32) (w : Wd) (q : Int32 × Wd) (h : f_X2_list N i a1 a2 w = some q) : Sp G l yX2_list cw_X2_list 12 [vr 4 i, vr 3 i, vi a1, vi a2] w (some (vi q.1)) q.2 := by
  refine Sp_of (own := RX2) [some (vr 4 i), some (vr 3 i), some (vi a1), some (vi a2), none] (by decide) rfl rfl (Nat.le_of_ble_eq_true rfl) ?_
  intro x hG hl hC hr hQ _ _
  subst hG
  subst hl
  unfold f_X2_list at h
  refine Z_aload_n hC (dk d_X2_list 0 rfl) 1 rfl rfl rfl ?_
  refine Z_iconst (v := 0) hC (dk d_X2_list 1 rfl) 2 rfl (by decide) ?_
  refine P_X2_18 hC (m_4 hi) (dk d_X2_list 2 rfl) 5 rfl ?_
  refine Z_aload_n hC (dk d_X2_list 3 rfl) 6 rfl rfl rfl ?_
  refine Z_iload_n hC (dk d_X2_list 4 rfl) 7 rfl rfl rfl ?_
  refine Z_sipush (v := 265) hC (dk d_X2_list 5 rfl) 10 rfl (by decide) ?_
  refine Z_mmin hC ml_X2_22 wi_J9_min_7cf53 wini_J9 wc_J9_min_7cf53 (Nat.le_of_ble_eq_true rfl) rfl (Nat.le_of_ble_eq_true rfl) (dk d_X2_list 6 rfl) 13 rfl ?_
  refine P_X2_28 hC (m_4 hi) (dk d_X2_list 7 rfl) 16 rfl ?_
  refine Z_aload_n hC (dk d_X2_list 8 rfl) 17 rfl rfl rfl ?_
  refine Z_iload_n hC (dk d_X2_list 9 rfl) 18 rfl rfl rfl ?_
  obtain ⟨g1, h⟩ := gd_some h
  refine P_X2_31 hC (m_4 hi) g1 (dk d_X2_list 10 rfl) 21 rfl ?_
  refine Z_iconst (v := 0) hC (dk d_X2_list 11 rfl) 22 rfl (by decide) ?_
  refine Z_istore hC (dk d_X2_list 12 rfl) 24 rfl (Nat.le_of_ble_eq_true rfl) [some (vr 4 i), some (vr 3 i), some (vi a1), some (vi a2), some (vi (0 : Int32))] rfl ?_
  obtain ⟨q4, hq4, h⟩ := bd_some h
  refine Z_wk [true, true, false, false, true] [some (vr 4 i), some (vr 3 i), none, none, some (vi (0 : Int32))] rfl ?_
  refine z_X2_list_L1 hC hr N i hi N (0 : Int32) (sI (sI (sI w 201 i (0 : Int32)) 204 i (if (265 : Int32) < a1 then (265 : Int32) else a1)) 205 i a2) q4 hq4 ?_
  refine Z_aload_n hC (dk d_X2_list 26 rfl) 53 rfl rfl rfl ?_
  refine Z_aload_n hC (dk d_X2_list 27 rfl) 54 rfl rfl rfl ?_
  refine Z_iconst (v := 0) hC (dk d_X2_list 28 rfl) 55 rfl (by decide) ?_
  refine Z_iconst (v := 0) hC (dk d_X2_list 29 rfl) 56 rfl (by decide) ?_
  refine Z_iconst (v := 0) hC (dk d_X2_list 30 rfl) 57 rfl (by decide) ?_
  obtain ⟨q5, hq5, h⟩ := bd_some h
  refine K_X2_43 [vr 4 i, vr 3 i, vi (0 : Int32), vi (0 : Int32), vi (0 : Int32)] hC (s_X2_extend (xG x) (xl x) N 8 i hi (0 : Int32) (0 : Int32) (0 : Int32) q4 q5 hq5) (Nat.le_of_ble_eq_true rfl) rfl rfl rfl (Nat.le_of_ble_eq_true rfl) (dk d_X2_list 31 rfl) 60 rfl ?_
  refine Z_aload_n hC (dk d_X2_list 32 rfl) 61 rfl rfl rfl ?_
  refine G_X2_18 hC (m_4 hi) (dk d_X2_list 33 rfl) 64 rfl ?_
  obtain rfl := Option.some.inj h
  exact Z_ireturn (st := []) hC hr hQ (dk d_X2_list 34 rfl)
