def t_X4_times : List (Nat × Instr × Nat) := [(0, .aload_n 0, 1), (1, .iload_n 1, 1), (2, .invokevirtual 135, 3), (5, .ifCond .eq 16, 3), (8, .aload_n 0, 1), (9, .iload_n 2, 1), (10, .invokevirtual 135, 3), (13, .ifCond .eq 8, 3), (16, .iload_n 1, 1), (17, .iload_n 2, 1), (18, .if_icmp .ne 5, 3), (21, .iconst (-1), 1), (22, .ireturn, 1), (23, .iconst 0, 1), (24, .istore_n 3, 1), (25, .iconst 0, 1), (26, .istore 4, 2), (28, .iload 4, 2), (30, .aload_n 0, 1), (31, .getfield 26, 3), (34, .getfield 247, 3), (37, .if_icmp .ge 30, 3), (40, .aload_n 0, 1), (41, .getfield 26, 3), (44, .getfield 261, 3), (47, .iload 4, 2), (49, .iaload, 1), (50, .iload_n 1, 1), (51, .invokestatic 220, 3), (54, .iload_n 2, 1), (55, .if_icmp .ne 6, 3), (58, .iinc 3 1, 3), (61, .iinc 4 1, 3), (64, .goto (-36), 3), (67, .iload_n 3, 1), (68, .ireturn, 1)]
set_option maxRecDepth 20000 in
theorem d_X4_times : ∀ q ∈ t_X4_times, decode cX4_times q.1 = .ok q.2 := by decide +kernel
noncomputable def X4_times_L1 (N : Nat) (x1 : Int32) (x2 : Int32) : Nat → Int32 → Int32 → Wd → Option (Int32 × Wd)
  | 0, _, _, _ => none
  | n + 1, x3, x4, w =>
  if (gI w 5 0) ≤ x4 then
    some (x3, w)
  else
    gd (vp_in x4 42) (
    (f_X4_paper N (gA w 19 0 x4.toNatClampNeg) x1 w).bind (fun q4 =>
      if q4.1 = x2 then
        X4_times_L1 N x1 x2 n (x3 + (1 : Int32)) (x4 + (1 : Int32)) q4.2
      else
        X4_times_L1 N x1 x2 n x3 (x4 + (1 : Int32)) q4.2))
set_option maxRecDepth 20000 in
set_option maxHeartbeats 4000000 in
theorem z_X4_times_L1 {x : CX} (hC : Cx x RX4 cX4_times 5 1) (hr : (xM x).sig.returnType = (some .int)) (N : Nat) (x1 : Int32) (x2 : Int32) : ∀ (n : Nat) (x3 : Int32) (x4 : Int32) (w : Wd) (q : (Int32 × Wd)), X4_times_L1 N x1 x2 n x3 x4 w = some q → Z x 67 [none, none, none, some (vi q.1), none] [] q.2 → Z x 28 [some (vr 0 0), some (vi x1), some (vi x2), some (vi x3), some (vi x4)] [] w := by
  intro n
  induction n with
  | zero =>
    intro x3 x4 w q h
    cases h
  | succ n ih =>
    intro x3 x4 w q h ke
    rw [X4_times_L1] at h
    refine Z_iload hC (dk d_X4_times 17 rfl) 30 rfl rfl ?_
    refine Z_aload_n hC (dk d_X4_times 18 rfl) 31 rfl rfl rfl ?_
    refine G_X4_26 hC m_0 (dk d_X4_times 19 rfl) 34 rfl ?_
    refine G_X4_247 hC (m_3 (by decide)) (dk d_X4_times 20 rfl) 37 rfl ?_
    refine Z_icmp_ge hC (dk d_X4_times 21 rfl) 40 67 rfl (by decide) (fun c => ?_) (fun c => ?_)
    · have h := it_t h c
      obtain rfl := Option.some.inj h
      refine Z_wk [false, false, false, true, false] [none, none, none, some (vi x3), none] rfl ?_
      exact ke
    · have h := it_f h c
      refine Z_aload_n hC (dk d_X4_times 22 rfl) 41 rfl rfl rfl ?_
      refine G_X4_26 hC m_0 (dk d_X4_times 23 rfl) 44 rfl ?_
      refine G_X4_261 hC (m_3 (by decide)) (dk d_X4_times 24 rfl) 47 rfl ?_
      refine Z_iload hC (dk d_X4_times 25 rfl) 49 rfl rfl ?_
      obtain ⟨g3, h⟩ := gd_some h
      refine Z_iaload hC (m_19 (by decide)) (by decide) rfl g3 (dk d_X4_times 26 rfl) 50 rfl ?_
      refine Z_iload_n hC (dk d_X4_times 27 rfl) 51 rfl rfl rfl ?_
      obtain ⟨q4, hq4, h⟩ := bd_some h
      refine K_X4_220 [vi (gA w 19 0 x4.toNatClampNeg), vi x1] hC (s_X4_paper (xG x) (xl x) N (gA w 19 0 x4.toNatClampNeg) x1 w q4 hq4) (Nat.le_of_ble_eq_true rfl) rfl rfl rfl (Nat.le_of_ble_eq_true rfl) (dk d_X4_times 28 rfl) 54 rfl ?_
      refine Z_iload_n hC (dk d_X4_times 29 rfl) 55 rfl rfl rfl ?_
      refine Z_icmp_ne hC (dk d_X4_times 30 rfl) 58 61 rfl (by decide) (fun c => ?_) (fun c => ?_)
      · have h := it_f h c
        refine Z_iinc hC (dk d_X4_times 32 rfl) 64 rfl rfl rfl [some (vr 0 0), some (vi x1), some (vi x2), some (vi x3), some (vi (x4 + (1 : Int32)))] rfl ?_
        refine Z_goto hC (dk d_X4_times 33 rfl) 28 (by decide) ?_
        refine Z_wk [true, true, true, true, true] [some (vr 0 0), some (vi x1), some (vi x2), some (vi x3), some (vi (x4 + (1 : Int32)))] rfl ?_
        exact ih x3 (x4 + (1 : Int32)) q4.2 _ h ke
      · have h := it_t h c
        refine Z_iinc hC (dk d_X4_times 31 rfl) 61 rfl rfl rfl [some (vr 0 0), some (vi x1), some (vi x2), some (vi (x3 + (1 : Int32))), some (vi x4)] rfl ?_
        refine Z_iinc hC (dk d_X4_times 32 rfl) 64 rfl rfl rfl [some (vr 0 0), some (vi x1), some (vi x2), some (vi (x3 + (1 : Int32))), some (vi (x4 + (1 : Int32)))] rfl ?_
        refine Z_goto hC (dk d_X4_times 33 rfl) 28 (by decide) ?_
        refine Z_wk [true, true, true, true, true] [some (vr 0 0), some (vi x1), some (vi x2), some (vi (x3 + (1 : Int32))), some (vi (x4 + (1 : Int32)))] rfl ?_
        exact ih (x3 + (1 : Int32)) (x4 + (1 : Int32)) q4.2 _ h ke
noncomputable def f_X4_times (N : Nat) (a1 : Int32) (a2 : Int32) (w : Wd) : Option (Int32 × Wd) :=
  (f_X4_isMate N a1 w).bind (fun q1 =>
    if q1.1 = 0 then
      some ((-1 : Int32), q1.2)
    else
      (f_X4_isMate N a2 q1.2).bind (fun q2 =>
        if q2.1 = 0 then
          some ((-1 : Int32), q2.2)
        else
          if a1 = a2 then
            some ((-1 : Int32), q2.2)
          else
            (X4_times_L1 N a1 a2 N (0 : Int32) (0 : Int32) q2.2).bind (fun q5 =>
              some (q5.1, q5.2))))
set_option maxRecDepth 20000 in
set_option maxHeartbeats 4000000 in
theorem s_X4_times (G : GT) (l : Launch) (N : Nat) (a1 : Int32) (a2 : Int32) (w : Wd) (q : Int32 × Wd) (h : f_X4_times N a1 a2 w = some q) : Sp G l yX4_times cw_X4_times 1 [vr 0 0, vi a1, vi a2] w (some (vi q.1)) q.2 := by
  refine Sp_of (own := RX4) [some (vr 0 0), some (vi a1), some (vi a2), none, none] (by decide) rfl rfl (Nat.le_of_ble_eq_true rfl) ?_
  intro x hG hl hC hr hQ _ _
  subst hG
  subst hl
  unfold f_X4_times at h
  refine Z_aload_n hC (dk d_X4_times 0 rfl) 1 rfl rfl rfl ?_
  refine Z_iload_n hC (dk d_X4_times 1 rfl) 2 rfl rfl rfl ?_
  obtain ⟨q1, hq1, h⟩ := bd_some h
  refine K_X4_135 [vi a1] hC m_0 (s_X4_isMate (xG x) (xl x) N a1 w q1 hq1) (Nat.le_of_ble_eq_true rfl) rfl rfl rfl (Nat.le_of_ble_eq_true rfl) (dk d_X4_times 2 rfl) 5 rfl ?_
  refine Z_if_eq hC (dk d_X4_times 3 rfl) 8 21 rfl (by decide) (fun c => ?_) (fun c => ?_)
  · have h := it_t h c
    refine Z_iconst (v := -1) hC (dk d_X4_times 11 rfl) 22 rfl (by decide) ?_
    obtain rfl := Option.some.inj h
    exact Z_ireturn (st := []) hC hr hQ (dk d_X4_times 12 rfl)
  · have h := it_f h c
    refine Z_aload_n hC (dk d_X4_times 4 rfl) 9 rfl rfl rfl ?_
    refine Z_iload_n hC (dk d_X4_times 5 rfl) 10 rfl rfl rfl ?_
    obtain ⟨q2, hq2, h⟩ := bd_some h
    refine K_X4_135 [vi a2] hC m_0 (s_X4_isMate (xG x) (xl x) N a2 q1.2 q2 hq2) (Nat.le_of_ble_eq_true rfl) rfl rfl rfl (Nat.le_of_ble_eq_true rfl) (dk d_X4_times 6 rfl) 13 rfl ?_
    refine Z_if_eq hC (dk d_X4_times 7 rfl) 16 21 rfl (by decide) (fun c => ?_) (fun c => ?_)
    · have h := it_t h c
      refine Z_iconst (v := -1) hC (dk d_X4_times 11 rfl) 22 rfl (by decide) ?_
      obtain rfl := Option.some.inj h
      exact Z_ireturn (st := []) hC hr hQ (dk d_X4_times 12 rfl)
    · have h := it_f h c
      refine Z_iload_n hC (dk d_X4_times 8 rfl) 17 rfl rfl rfl ?_
      refine Z_iload_n hC (dk d_X4_times 9 rfl) 18 rfl rfl rfl ?_
      refine Z_icmp_ne hC (dk d_X4_times 10 rfl) 21 23 rfl (by decide) (fun c => ?_) (fun c => ?_)
      · have h := it_f h c
        refine Z_iconst (v := 0) hC (dk d_X4_times 13 rfl) 24 rfl (by decide) ?_
        refine Z_istore_n hC (dk d_X4_times 14 rfl) 25 rfl rfl (Nat.le_of_ble_eq_true rfl) [some (vr 0 0), some (vi a1), some (vi a2), some (vi (0 : Int32)), none] rfl ?_
        refine Z_iconst (v := 0) hC (dk d_X4_times 15 rfl) 26 rfl (by decide) ?_
        refine Z_istore hC (dk d_X4_times 16 rfl) 28 rfl (Nat.le_of_ble_eq_true rfl) [some (vr 0 0), some (vi a1), some (vi a2), some (vi (0 : Int32)), some (vi (0 : Int32))] rfl ?_
        obtain ⟨q5, hq5, h⟩ := bd_some h
        refine Z_wk [true, true, true, true, true] [some (vr 0 0), some (vi a1), some (vi a2), some (vi (0 : Int32)), some (vi (0 : Int32))] rfl ?_
        refine z_X4_times_L1 hC hr N a1 a2 N (0 : Int32) (0 : Int32) q2.2 q5 hq5 ?_
        refine Z_iload_n hC (dk d_X4_times 34 rfl) 68 rfl rfl rfl ?_
        obtain rfl := Option.some.inj h
        exact Z_ireturn (st := []) hC hr hQ (dk d_X4_times 35 rfl)
      · have h := it_t h c
        refine Z_iconst (v := -1) hC (dk d_X4_times 11 rfl) 22 rfl (by decide) ?_
        obtain rfl := Option.some.inj h
        exact Z_ireturn (st := []) hC hr hQ (dk d_X4_times 12 rfl)
def t_X4_isSet : List (Nat × Instr × Nat) := [(0, .iload_n 1, 1), (1, .ifCond .lt 20, 3), (4, .iload_n 1, 1), (5, .iconst 1, 1), (6, .aload_n 0, 1), (7, .getfield 26, 3), (10, .getfield 132, 3), (13, .ishl, 1), (14, .if_icmp .ge 7, 3), (17, .iconst 1, 1), (18, .goto 4, 3), (21, .iconst 0, 1), (22, .ireturn, 1)]
set_option maxRecDepth 20000 in
theorem d_X4_isSet : ∀ q ∈ t_X4_isSet, decode cX4_isSet q.1 = .ok q.2 := by decide +kernel
noncomputable def f_X4_isSet (N : Nat) (a1 : Int32) (w : Wd) : Option (Int32 × Wd) :=
  if a1 < 0 then
    some ((0 : Int32), w)
  else
    if ((1 : Int32) <<< ((gI w 4 0) &&& (31 : Int32))) ≤ a1 then
      some ((0 : Int32), w)
    else
      some ((1 : Int32), w)
set_option maxRecDepth 20000 in
set_option maxHeartbeats 4000000 in
theorem s_X4_isSet (G : GT) (l : Launch) (N : Nat) (a1 : Int32) (w : Wd) (q : Int32 × Wd) (h : f_X4_isSet N a1 w = some q) : Sp G l yX4_isSet cw_X4_isSet 0 [vr 0 0, vi a1] w (some (vi q.1)) q.2 := by
  refine Sp_of (own := RX4) [some (vr 0 0), some (vi a1)] (by decide) rfl rfl (Nat.le_of_ble_eq_true rfl) ?_
  intro x hG hl hC hr hQ _ _
  subst hG
  subst hl
  unfold f_X4_isSet at h
  refine Z_iload_n hC (dk d_X4_isSet 0 rfl) 1 rfl rfl rfl ?_
  refine Z_if_lt hC (dk d_X4_isSet 1 rfl) 4 21 rfl (by decide) (fun c => ?_) (fun c => ?_)
  · have h := it_t h c
    refine Z_iconst (v := 0) hC (dk d_X4_isSet 11 rfl) 22 rfl (by decide) ?_
    obtain rfl := Option.some.inj h
    exact Z_zreturn (st := []) hC hr rfl hQ (dk d_X4_isSet 12 rfl)
  · have h := it_f h c
    refine Z_iload_n hC (dk d_X4_isSet 2 rfl) 5 rfl rfl rfl ?_
    refine Z_iconst (v := 1) hC (dk d_X4_isSet 3 rfl) 6 rfl (by decide) ?_
    refine Z_aload_n hC (dk d_X4_isSet 4 rfl) 7 rfl rfl rfl ?_
    refine G_X4_26 hC m_0 (dk d_X4_isSet 5 rfl) 10 rfl ?_
    refine G_X4_132 hC (m_3 (by decide)) (dk d_X4_isSet 6 rfl) 13 rfl ?_
    refine Z_ishl hC (dk d_X4_isSet 7 rfl) 14 rfl ?_
    refine Z_icmp_ge hC (dk d_X4_isSet 8 rfl) 17 21 rfl (by decide) (fun c => ?_) (fun c => ?_)
    · have h := it_t h c
      refine Z_iconst (v := 0) hC (dk d_X4_isSet 11 rfl) 22 rfl (by decide) ?_
      obtain rfl := Option.some.inj h
      exact Z_zreturn (st := []) hC hr rfl hQ (dk d_X4_isSet 12 rfl)
    · have h := it_f h c
      refine Z_iconst (v := 1) hC (dk d_X4_isSet 9 rfl) 18 rfl (by decide) ?_
      refine Z_goto hC (dk d_X4_isSet 10 rfl) 22 (by decide) ?_
      obtain rfl := Option.some.inj h
      exact Z_zreturn (st := []) hC hr rfl hQ (dk d_X4_isSet 12 rfl)
def t_X4_papersOf : List (Nat × Instr × Nat) := [(0, .iconst 0, 1), (1, .istore_n 2, 1), (2, .iconst 0, 1), (3, .istore_n 3, 1), (4, .iload_n 3, 1), (5, .aload_n 0, 1), (6, .getfield 26, 3), (9, .getfield 132, 3), (12, .if_icmp .ge 26, 3), (15, .iload_n 1, 1), (16, .iload_n 3, 1), (17, .ishr, 1), (18, .iconst 1, 1), (19, .iand, 1), (20, .ifCond .eq 12, 3), (23, .iload_n 2, 1), (24, .bipush 7, 2), (26, .iconst 3, 1), (27, .iload_n 3, 1), (28, .imul, 1), (29, .ishl, 1), (30, .ior, 1), (31, .istore_n 2, 1), (32, .iinc 3 1, 3), (35, .goto (-31), 3), (38, .iload_n 2, 1), (39, .ireturn, 1)]
set_option maxRecDepth 20000 in
theorem d_X4_papersOf : ∀ q ∈ t_X4_papersOf, decode cX4_papersOf q.1 = .ok q.2 := by decide +kernel
noncomputable def X4_papersOf_L1 (N : Nat) (x1 : Int32) : Nat → Int32 → Int32 → Wd → Option (Int32 × Wd)
  | 0, _, _, _ => none
  | n + 1, x2, x3, w =>
  if (gI w 4 0) ≤ x3 then
    some (x2, w)
  else
    if ((x1 >>> (x3 &&& (31 : Int32))) &&& (1 : Int32)) = 0 then
      X4_papersOf_L1 N x1 n x2 (x3 + (1 : Int32)) w
    else
      X4_papersOf_L1 N x1 n (x2 ||| ((7 : Int32) <<< (((3 : Int32) * x3) &&& (31 : Int32)))) (x3 + (1 : Int32)) w
set_option maxRecDepth 20000 in
set_option maxHeartbeats 4000000 in
theorem z_X4_papersOf_L1 {x : CX} (hC : Cx x RX4 cX4_papersOf 4 0) (hr : (xM x).sig.returnType = (some .int)) (N : Nat) (x1 : Int32) : ∀ (n : Nat) (x2 : Int32) (x3 : Int32) (w : Wd) (q : (Int32 × Wd)), X4_papersOf_L1 N x1 n x2 x3 w = some q → Z x 38 [none, none, some (vi q.1), none] [] q.2 → Z x 4 [some (vr 0 0), some (vi x1), some (vi x2), some (vi x3)] [] w := by
  intro n
  induction n with
  | zero =>
    intro x2 x3 w q h
    cases h
  | succ n ih =>
    intro x2 x3 w q h ke
    rw [X4_papersOf_L1] at h
    refine Z_iload_n hC (dk d_X4_papersOf 4 rfl) 5 rfl rfl rfl ?_
    refine Z_aload_n hC (dk d_X4_papersOf 5 rfl) 6 rfl rfl rfl ?_
    refine G_X4_26 hC m_0 (dk d_X4_papersOf 6 rfl) 9 rfl ?_
    refine G_X4_132 hC (m_3 (by decide)) (dk d_X4_papersOf 7 rfl) 12 rfl ?_
    refine Z_icmp_ge hC (dk d_X4_papersOf 8 rfl) 15 38 rfl (by decide) (fun c => ?_) (fun c => ?_)
    · have h := it_t h c
      obtain rfl := Option.some.inj h
      refine Z_wk [false, false, true, false] [none, none, some (vi x2), none] rfl ?_
      exact ke
    · have h := it_f h c
      refine Z_iload_n hC (dk d_X4_papersOf 9 rfl) 16 rfl rfl rfl ?_
      refine Z_iload_n hC (dk d_X4_papersOf 10 rfl) 17 rfl rfl rfl ?_
      refine Z_ishr hC (dk d_X4_papersOf 11 rfl) 18 rfl ?_
      refine Z_iconst (v := 1) hC (dk d_X4_papersOf 12 rfl) 19 rfl (by decide) ?_
      refine Z_iand hC (dk d_X4_papersOf 13 rfl) 20 rfl ?_
      refine Z_if_eq hC (dk d_X4_papersOf 14 rfl) 23 32 rfl (by decide) (fun c => ?_) (fun c => ?_)
      · have h := it_t h c
        refine Z_iinc hC (dk d_X4_papersOf 23 rfl) 35 rfl rfl rfl [some (vr 0 0), some (vi x1), some (vi x2), some (vi (x3 + (1 : Int32)))] rfl ?_
        refine Z_goto hC (dk d_X4_papersOf 24 rfl) 4 (by decide) ?_
        refine Z_wk [true, true, true, true] [some (vr 0 0), some (vi x1), some (vi x2), some (vi (x3 + (1 : Int32)))] rfl ?_
        exact ih x2 (x3 + (1 : Int32)) w _ h ke
      · have h := it_f h c
        refine Z_iload_n hC (dk d_X4_papersOf 15 rfl) 24 rfl rfl rfl ?_
        refine Z_bipush (v := 7) hC (dk d_X4_papersOf 16 rfl) 26 rfl (by decide) ?_
        refine Z_iconst (v := 3) hC (dk d_X4_papersOf 17 rfl) 27 rfl (by decide) ?_
        refine Z_iload_n hC (dk d_X4_papersOf 18 rfl) 28 rfl rfl rfl ?_
        refine Z_imul hC (dk d_X4_papersOf 19 rfl) 29 rfl ?_
        refine Z_ishl hC (dk d_X4_papersOf 20 rfl) 30 rfl ?_
        refine Z_ior hC (dk d_X4_papersOf 21 rfl) 31 rfl ?_
        refine Z_istore_n hC (dk d_X4_papersOf 22 rfl) 32 rfl rfl (Nat.le_of_ble_eq_true rfl) [some (vr 0 0), some (vi x1), some (vi (x2 ||| ((7 : Int32) <<< (((3 : Int32) * x3) &&& (31 : Int32))))), some (vi x3)] rfl ?_
        refine Z_iinc hC (dk d_X4_papersOf 23 rfl) 35 rfl rfl rfl [some (vr 0 0), some (vi x1), some (vi (x2 ||| ((7 : Int32) <<< (((3 : Int32) * x3) &&& (31 : Int32))))), some (vi (x3 + (1 : Int32)))] rfl ?_
        refine Z_goto hC (dk d_X4_papersOf 24 rfl) 4 (by decide) ?_
        refine Z_wk [true, true, true, true] [some (vr 0 0), some (vi x1), some (vi (x2 ||| ((7 : Int32) <<< (((3 : Int32) * x3) &&& (31 : Int32))))), some (vi (x3 + (1 : Int32)))] rfl ?_
        exact ih (x2 ||| ((7 : Int32) <<< (((3 : Int32) * x3) &&& (31 : Int32)))) (x3 + (1 : Int32)) w _ h ke
noncomputable def f_X4_papersOf (N : Nat) (a1 : Int32) (w : Wd) : Option (Int32 × Wd) :=
  (X4_papersOf_L1 N a1 N (0 : Int32) (0 : Int32) w).bind (fun q1 =>
    some (q1.1, q1.2))
set_option maxRecDepth 20000 in
set_option maxHeartbeats 4000000 in
theorem s_X4_papersOf (G : GT) (l : Launch) (N : Nat) (a1 : Int32) (w : Wd) (q : Int32 × Wd) (h : f_X4_papersOf N a1 w = some q) : Sp G l yX4_papersOf cw_X4_papersOf 0 [vr 0 0, vi a1] w (some (vi q.1)) q.2 := by
  refine Sp_of (own := RX4) [some (vr 0 0), some (vi a1), none, none] (by decide) rfl rfl (Nat.le_of_ble_eq_true rfl) ?_
  intro x hG hl hC hr hQ _ _
  subst hG
  subst hl
  unfold f_X4_papersOf at h
  refine Z_iconst (v := 0) hC (dk d_X4_papersOf 0 rfl) 1 rfl (by decide) ?_
  refine Z_istore_n hC (dk d_X4_papersOf 1 rfl) 2 rfl rfl (Nat.le_of_ble_eq_true rfl) [some (vr 0 0), some (vi a1), some (vi (0 : Int32)), none] rfl ?_
  refine Z_iconst (v := 0) hC (dk d_X4_papersOf 2 rfl) 3 rfl (by decide) ?_
  refine Z_istore_n hC (dk d_X4_papersOf 3 rfl) 4 rfl rfl (Nat.le_of_ble_eq_true rfl) [some (vr 0 0), some (vi a1), some (vi (0 : Int32)), some (vi (0 : Int32))] rfl ?_
  obtain ⟨q1, hq1, h⟩ := bd_some h
  refine Z_wk [true, true, true, true] [some (vr 0 0), some (vi a1), some (vi (0 : Int32)), some (vi (0 : Int32))] rfl ?_
  refine z_X4_papersOf_L1 hC hr N a1 N (0 : Int32) (0 : Int32) w q1 hq1 ?_
  refine Z_iload_n hC (dk d_X4_papersOf 25 rfl) 39 rfl rfl rfl ?_
  obtain rfl := Option.some.inj h
  exact Z_ireturn (st := []) hC hr hQ (dk d_X4_papersOf 26 rfl)
def t_X4_rightDrawingIn : List (Nat × Instr × Nat) := [(0, .aload_n 0, 1), (1, .iload_n 1, 1), (2, .invokevirtual 174, 3), (5, .istore_n 2, 1), (6, .iload_n 2, 1), (7, .ifCond .ge 5, 3), (10, .iload_n 2, 1), (11, .ireturn, 1), (12, .aload_n 0, 1), (13, .invokevirtual 183, 3), (16, .aload_n 0, 1), (17, .getfield 36, 3), (20, .iload_n 2, 1), (21, .iconst (-1), 1), (22, .invokevirtual 195, 3), (25, .bipush (-9), 2), (27, .if_icmp .ne 8, 3), (30, .bipush (-3), 2), (32, .goto 4, 3), (35, .iload_n 2, 1), (36, .ireturn, 1)]
set_option maxRecDepth 20000 in
theorem d_X4_rightDrawingIn : ∀ q ∈ t_X4_rightDrawingIn, decode cX4_rightDrawingIn q.1 = .ok q.2 := by decide +kernel
noncomputable def f_X4_rightDrawingIn (N : Nat) (a1 : Int32) (w : Wd) : Option (Int32 × Wd) :=
  (f_X4_drawingIn N a1 w).bind (fun q1 =>
    if 0 ≤ q1.1 then
      (f_X4_listRight N q1.2).bind (fun q2 =>
        (f_X2_placeOf N 0 q1.1 (-1 : Int32) q2).bind (fun q3 =>
          if q3.1 = (-9 : Int32) then
            some ((-3 : Int32), q3.2)
          else
            some (q1.1, q3.2)))
    else
      some (q1.1, q1.2))
set_option maxRecDepth 20000 in
set_option maxHeartbeats 4000000 in
theorem s_X4_rightDrawingIn (G : GT) (l : Launch) (N : Nat) (a1 : Int32) (w : Wd) (q : Int32 × Wd) (h : f_X4_rightDrawingIn N a1 w = some q) : Sp G l yX4_rightDrawingIn cw_X4_rightDrawingIn 14 [vr 0 0, vi a1] w (some (vi q.1)) q.2 := by
  refine Sp_of (own := RX4) [some (vr 0 0), some (vi a1), none] (by decide) rfl rfl (Nat.le_of_ble_eq_true rfl) ?_
  intro x hG hl hC hr hQ _ _
  subst hG
  subst hl
  unfold f_X4_rightDrawingIn at h
  refine Z_aload_n hC (dk d_X4_rightDrawingIn 0 rfl) 1 rfl rfl rfl ?_
  refine Z_iload_n hC (dk d_X4_rightDrawingIn 1 rfl) 2 rfl rfl rfl ?_
  obtain ⟨q1, hq1, h⟩ := bd_some h
  refine K_X4_174 [vi a1] hC m_0 (s_X4_drawingIn (xG x) (xl x) N a1 w q1 hq1) (Nat.le_of_ble_eq_true rfl) rfl rfl rfl (Nat.le_of_ble_eq_true rfl) (dk d_X4_rightDrawingIn 2 rfl) 5 rfl ?_
  refine Z_istore_n hC (dk d_X4_rightDrawingIn 3 rfl) 6 rfl rfl (Nat.le_of_ble_eq_true rfl) [some (vr 0 0), some (vi a1), some (vi q1.1)] rfl ?_
  refine Z_iload_n hC (dk d_X4_rightDrawingIn 4 rfl) 7 rfl rfl rfl ?_
  refine Z_if_ge hC (dk d_X4_rightDrawingIn 5 rfl) 10 12 rfl (by decide) (fun c => ?_) (fun c => ?_)
  · have h := it_t h c
    refine Z_aload_n hC (dk d_X4_rightDrawingIn 8 rfl) 13 rfl rfl rfl ?_
    obtain ⟨q2, hq2, h⟩ := bd_some h
    refine K_X4_183 [] hC m_0 (s_X4_listRight (xG x) (xl x) N q1.2 q2 hq2) (Nat.le_of_ble_eq_true rfl) rfl rfl rfl (Nat.le_of_ble_eq_true rfl) (dk d_X4_rightDrawingIn 9 rfl) 16 rfl ?_
    refine Z_aload_n hC (dk d_X4_rightDrawingIn 10 rfl) 17 rfl rfl rfl ?_
    refine G_X4_36 hC m_0 (dk d_X4_rightDrawingIn 11 rfl) 20 rfl ?_
    refine Z_iload_n hC (dk d_X4_rightDrawingIn 12 rfl) 21 rfl rfl rfl ?_
    refine Z_iconst (v := -1) hC (dk d_X4_rightDrawingIn 13 rfl) 22 rfl (by decide) ?_
    obtain ⟨q3, hq3, h⟩ := bd_some h
    refine K_X4_195 [vi q1.1, vi (-1 : Int32)] hC (m_4 (by decide)) (s_X2_placeOf (xG x) (xl x) N 0 (by decide) q1.1 (-1 : Int32) q2 q3 hq3) (Nat.le_of_ble_eq_true rfl) rfl rfl rfl (Nat.le_of_ble_eq_true rfl) (dk d_X4_rightDrawingIn 14 rfl) 25 rfl ?_
    refine Z_bipush (v := -9) hC (dk d_X4_rightDrawingIn 15 rfl) 27 rfl (by decide) ?_
    refine Z_icmp_ne hC (dk d_X4_rightDrawingIn 16 rfl) 30 35 rfl (by decide) (fun c => ?_) (fun c => ?_)
    · have h := it_f h c
      refine Z_iload_n hC (dk d_X4_rightDrawingIn 19 rfl) 36 rfl rfl rfl ?_
      obtain rfl := Option.some.inj h
      exact Z_ireturn (st := []) hC hr hQ (dk d_X4_rightDrawingIn 20 rfl)
    · have h := it_t h c
      refine Z_bipush (v := -3) hC (dk d_X4_rightDrawingIn 17 rfl) 32 rfl (by decide) ?_
      refine Z_goto hC (dk d_X4_rightDrawingIn 18 rfl) 36 (by decide) ?_
      obtain rfl := Option.some.inj h
      exact Z_ireturn (st := []) hC hr hQ (dk d_X4_rightDrawingIn 20 rfl)
  · have h := it_f h c
    refine Z_iload_n hC (dk d_X4_rightDrawingIn 6 rfl) 11 rfl rfl rfl ?_
    obtain rfl := Option.some.inj h
    exact Z_ireturn (st := []) hC hr hQ (dk d_X4_rightDrawingIn 7 rfl)
def t_X4_fits : List (Nat × Instr × Nat) := [(0, .iload_n 1, 1), (1, .invokestatic 70, 3), (4, .ifCond .eq 11, 3), (7, .aload_n 0, 1), (8, .iload_n 2, 1), (9, .invokevirtual 264, 3), (12, .ifCond .ne 5, 3), (15, .iconst (-1), 1), (16, .ireturn, 1), (17, .aload_n 0, 1), (18, .iload_n 1, 1), (19, .invokevirtual 267, 3), (22, .istore_n 3, 1), (23, .iload_n 3, 1), (24, .ifCond .ge 10, 3), (27, .aload_n 0, 1), (28, .iload_n 3, 1), (29, .ineg, 1), (30, .invokevirtual 74, 3), (33, .ireturn, 1), (34, .aload_n 0, 1), (35, .getfield 36, 3), (38, .iload_n 3, 1), (39, .aload_n 0, 1), (40, .iload_n 2, 1), (41, .invokevirtual 270, 3), (44, .invokevirtual 223, 3), (47, .ireturn, 1)]
set_option maxRecDepth 20000 in
theorem d_X4_fits : ∀ q ∈ t_X4_fits, decode cX4_fits q.1 = .ok q.2 := by decide +kernel
noncomputable def f_X4_fits (N : Nat) (a1 : Int32) (a2 : Int32) (w : Wd) : Option (Int32 × Wd) :=
  (f_X4_isRow N a1 w).bind (fun q1 =>
    if q1.1 = 0 then
      some ((-1 : Int32), q1.2)
    else
      (f_X4_isSet N a2 q1.2).bind (fun q2 =>
        if q2.1 = 0 then
          some ((-1 : Int32), q2.2)
        else
          (f_X4_rightDrawingIn N a1 q2.2).bind (fun q3 =>
            if 0 ≤ q3.1 then
              (f_X4_papersOf N a2 q3.2).bind (fun q4 =>
                (f_X2_fitting N 0 q3.1 q4.1 q4.2).bind (fun q5 =>
                  some (q5.1, q5.2)))
            else
              (f_X4_refuse N (-q3.1) q3.2).bind (fun q6 =>
                some (q6.1, q6.2)))))
set_option maxRecDepth 20000 in
set_option maxHeartbeats 4000000 in
theorem s_X4_fits (G : GT) (l : Launch) (N : Nat) (a1 : Int32) (a2 : Int32) (w : Wd) (q : Int32 × Wd) (h : f_X4_fits N a1 a2 w = some q) : Sp G l yX4_fits cw_X4_fits 15 [vr 0 0, vi a1, vi a2] w (some (vi q.1)) q.2 := by
  refine Sp_of (own := RX4) [some (vr 0 0), some (vi a1), some (vi a2), none] (by decide) rfl rfl (Nat.le_of_ble_eq_true rfl) ?_
  intro x hG hl hC hr hQ _ _
  subst hG
  subst hl
  unfold f_X4_fits at h
  refine Z_iload_n hC (dk d_X4_fits 0 rfl) 1 rfl rfl rfl ?_
  obtain ⟨q1, hq1, h⟩ := bd_some h
  refine K_X4_70 [vi a1] hC (s_X4_isRow (xG x) (xl x) N a1 w q1 hq1) (Nat.le_of_ble_eq_true rfl) rfl rfl rfl (Nat.le_of_ble_eq_true rfl) (dk d_X4_fits 1 rfl) 4 rfl ?_
  refine Z_if_eq hC (dk d_X4_fits 2 rfl) 7 15 rfl (by decide) (fun c => ?_) (fun c => ?_)
  · have h := it_t h c
    refine Z_iconst (v := -1) hC (dk d_X4_fits 7 rfl) 16 rfl (by decide) ?_
    obtain rfl := Option.some.inj h
    exact Z_ireturn (st := []) hC hr hQ (dk d_X4_fits 8 rfl)
  · have h := it_f h c
    refine Z_aload_n hC (dk d_X4_fits 3 rfl) 8 rfl rfl rfl ?_
    refine Z_iload_n hC (dk d_X4_fits 4 rfl) 9 rfl rfl rfl ?_
    obtain ⟨q2, hq2, h⟩ := bd_some h
    refine K_X4_264 [vi a2] hC m_0 (s_X4_isSet (xG x) (xl x) N a2 q1.2 q2 hq2) (Nat.le_of_ble_eq_true rfl) rfl rfl rfl (Nat.le_of_ble_eq_true rfl) (dk d_X4_fits 5 rfl) 12 rfl ?_
    refine Z_if_ne hC (dk d_X4_fits 6 rfl) 15 17 rfl (by decide) (fun c => ?_) (fun c => ?_)
    · have h := it_f h c
      refine Z_aload_n hC (dk d_X4_fits 9 rfl) 18 rfl rfl rfl ?_
      refine Z_iload_n hC (dk d_X4_fits 10 rfl) 19 rfl rfl rfl ?_
      obtain ⟨q3, hq3, h⟩ := bd_some h
      refine K_X4_267 [vi a1] hC m_0 (s_X4_rightDrawingIn (xG x) (xl x) N a1 q2.2 q3 hq3) (Nat.le_of_ble_eq_true rfl) rfl rfl rfl (Nat.le_of_ble_eq_true rfl) (dk d_X4_fits 11 rfl) 22 rfl ?_
      refine Z_istore_n hC (dk d_X4_fits 12 rfl) 23 rfl rfl (Nat.le_of_ble_eq_true rfl) [some (vr 0 0), some (vi a1), some (vi a2), some (vi q3.1)] rfl ?_
      refine Z_iload_n hC (dk d_X4_fits 13 rfl) 24 rfl rfl rfl ?_
      refine Z_if_ge hC (dk d_X4_fits 14 rfl) 27 34 rfl (by decide) (fun c => ?_) (fun c => ?_)
      · have h := it_t h c
        refine Z_aload_n hC (dk d_X4_fits 20 rfl) 35 rfl rfl rfl ?_
        refine G_X4_36 hC m_0 (dk d_X4_fits 21 rfl) 38 rfl ?_
        refine Z_iload_n hC (dk d_X4_fits 22 rfl) 39 rfl rfl rfl ?_
        refine Z_aload_n hC (dk d_X4_fits 23 rfl) 40 rfl rfl rfl ?_
        refine Z_iload_n hC (dk d_X4_fits 24 rfl) 41 rfl rfl rfl ?_
        obtain ⟨q4, hq4, h⟩ := bd_some h
        refine K_X4_270 [vi a2] hC m_0 (s_X4_papersOf (xG x) (xl x) N a2 q3.2 q4 hq4) (Nat.le_of_ble_eq_true rfl) rfl rfl rfl (Nat.le_of_ble_eq_true rfl) (dk d_X4_fits 25 rfl) 44 rfl ?_
        obtain ⟨q5, hq5, h⟩ := bd_some h
        refine K_X4_223 [vi q3.1, vi q4.1] hC (m_4 (by decide)) (s_X2_fitting (xG x) (xl x) N 0 (by decide) q3.1 q4.1 q4.2 q5 hq5) (Nat.le_of_ble_eq_true rfl) rfl rfl rfl (Nat.le_of_ble_eq_true rfl) (dk d_X4_fits 26 rfl) 47 rfl ?_
        obtain rfl := Option.some.inj h
        exact Z_ireturn (st := []) hC hr hQ (dk d_X4_fits 27 rfl)
      · have h := it_f h c
        refine Z_aload_n hC (dk d_X4_fits 15 rfl) 28 rfl rfl rfl ?_
        refine Z_iload_n hC (dk d_X4_fits 16 rfl) 29 rfl rfl rfl ?_
        refine Z_ineg hC (dk d_X4_fits 17 rfl) 30 rfl ?_
        obtain ⟨q6, hq6, h⟩ := bd_some h
        refine K_X4_74 [vi (-q3.1)] hC m_0 (s_X4_refuse (xG x) (xl x) N (-q3.1) q3.2 q6 hq6) (Nat.le_of_ble_eq_true rfl) rfl rfl rfl (Nat.le_of_ble_eq_true rfl) (dk d_X4_fits 18 rfl) 33 rfl ?_
        obtain rfl := Option.some.inj h
        exact Z_ireturn (st := []) hC hr hQ (dk d_X4_fits 19 rfl)
    · have h := it_t h c
      refine Z_iconst (v := -1) hC (dk d_X4_fits 7 rfl) 16 rfl (by decide) ?_
      obtain rfl := Option.some.inj h
      exact Z_ireturn (st := []) hC hr hQ (dk d_X4_fits 8 rfl)
def t_X4_known : List (Nat × Instr × Nat) := [(0, .iload_n 1, 1), (1, .invokestatic 70, 3), (4, .ifCond .eq 11, 3), (7, .aload_n 0, 1), (8, .iload_n 2, 1), (9, .invokevirtual 264, 3), (12, .ifCond .ne 5, 3), (15, .iconst (-1), 1), (16, .ireturn, 1), (17, .aload_n 0, 1), (18, .iload_n 1, 1), (19, .invokevirtual 267, 3), (22, .istore_n 3, 1), (23, .iload_n 3, 1), (24, .ifCond .ge 10, 3), (27, .aload_n 0, 1), (28, .iload_n 3, 1), (29, .ineg, 1), (30, .invokevirtual 74, 3), (33, .ireturn, 1), (34, .aload_n 0, 1), (35, .getfield 36, 3), (38, .iload_n 3, 1), (39, .aload_n 0, 1), (40, .iload_n 2, 1), (41, .invokevirtual 270, 3), (44, .invokevirtual 273, 3), (47, .istore 4, 2), (49, .iconst 0, 1), (50, .istore 5, 2), (52, .iconst 0, 1), (53, .istore 6, 2), (55, .iload 6, 2), (57, .aload_n 0, 1), (58, .getfield 26, 3), (61, .getfield 132, 3), (64, .if_icmp .ge 37, 3), (67, .iload_n 2, 1), (68, .iload 6, 2), (70, .ishr, 1), (71, .iconst 1, 1), (72, .iand, 1), (73, .ifCond .ne 22, 3), (76, .iload 4, 2), (78, .iload 6, 2), (80, .invokestatic 220, 3), (83, .ifCond .ne 12, 3), (86, .iload 5, 2), (88, .iconst 1, 1), (89, .iload 6, 2), (91, .ishl, 1), (92, .ior, 1), (93, .istore 5, 2), (95, .iinc 6 1, 3), (98, .goto (-43), 3), (101, .iload 5, 2), (103, .ireturn, 1)]
set_option maxRecDepth 20000 in
theorem d_X4_known : ∀ q ∈ t_X4_known, decode cX4_known q.1 = .ok q.2 := by decide +kernel
noncomputable def X4_known_L1 (N : Nat) (x2 : Int32) (x4 : Int32) : Nat → Int32 → Int32 → Wd → Option (Int32 × Wd)
  | 0, _, _, _ => none
  | n + 1, x5, x6, w =>
  if (gI w 4 0) ≤ x6 then
    some (x5, w)
  else
    if ((x2 >>> (x6 &&& (31 : Int32))) &&& (1 : Int32)) = 0 then
      (f_X4_paper N x4 x6 w).bind (fun q6 =>
        if q6.1 = 0 then
          X4_known_L1 N x2 x4 n (x5 ||| ((1 : Int32) <<< (x6 &&& (31 : Int32)))) (x6 + (1 : Int32)) q6.2
        else
          X4_known_L1 N x2 x4 n x5 (x6 + (1 : Int32)) q6.2)
    else
      X4_known_L1 N x2 x4 n x5 (x6 + (1 : Int32)) w
set_option maxRecDepth 20000 in
set_option maxHeartbeats 4000000 in
theorem z_X4_known_L1 {x : CX} (hC : Cx x RX4 cX4_known 7 15) (hr : (xM x).sig.returnType = (some .int)) (N : Nat) (x2 : Int32) (x4 : Int32) : ∀ (n : Nat) (x5 : Int32) (x6 : Int32) (w : Wd) (q : (Int32 × Wd)), X4_known_L1 N x2 x4 n x5 x6 w = some q → Z x 101 [none, none, none, none, none, some (vi q.1), none] [] q.2 → Z x 55 [some (vr 0 0), none, some (vi x2), none, some (vi x4), some (vi x5), some (vi x6)] [] w := by
  intro n
  induction n with
  | zero =>
    intro x5 x6 w q h
    cases h
  | succ n ih =>
    intro x5 x6 w q h ke
    rw [X4_known_L1] at h
    refine Z_iload hC (dk d_X4_known 32 rfl) 57 rfl rfl ?_
    refine Z_aload_n hC (dk d_X4_known 33 rfl) 58 rfl rfl rfl ?_
    refine G_X4_26 hC m_0 (dk d_X4_known 34 rfl) 61 rfl ?_
    refine G_X4_132 hC (m_3 (by decide)) (dk d_X4_known 35 rfl) 64 rfl ?_
    refine Z_icmp_ge hC (dk d_X4_known 36 rfl) 67 101 rfl (by decide) (fun c => ?_) (fun c => ?_)
    · have h := it_t h c
      obtain rfl := Option.some.inj h
      refine Z_wk [false, false, false, false, false, true, false] [none, none, none, none, none, some (vi x5), none] rfl ?_
      exact ke
    · have h := it_f h c
      refine Z_iload_n hC (dk d_X4_known 37 rfl) 68 rfl rfl rfl ?_
      refine Z_iload hC (dk d_X4_known 38 rfl) 70 rfl rfl ?_
      refine Z_ishr hC (dk d_X4_known 39 rfl) 71 rfl ?_
      refine Z_iconst (v := 1) hC (dk d_X4_known 40 rfl) 72 rfl (by decide) ?_
      refine Z_iand hC (dk d_X4_known 41 rfl) 73 rfl ?_
      refine Z_if_ne hC (dk d_X4_known 42 rfl) 76 95 rfl (by decide) (fun c => ?_) (fun c => ?_)
      · have h := it_f h c
        refine Z_iinc hC (dk d_X4_known 53 rfl) 98 rfl rfl rfl [some (vr 0 0), none, some (vi x2), none, some (vi x4), some (vi x5), some (vi (x6 + (1 : Int32)))] rfl ?_
        refine Z_goto hC (dk d_X4_known 54 rfl) 55 (by decide) ?_
        refine Z_wk [true, false, true, false, true, true, true] [some (vr 0 0), none, some (vi x2), none, some (vi x4), some (vi x5), some (vi (x6 + (1 : Int32)))] rfl ?_
        exact ih x5 (x6 + (1 : Int32)) w _ h ke
      · have h := it_t h c
        refine Z_iload hC (dk d_X4_known 43 rfl) 78 rfl rfl ?_
        refine Z_iload hC (dk d_X4_known 44 rfl) 80 rfl rfl ?_
        obtain ⟨q6, hq6, h⟩ := bd_some h
        refine K_X4_220 [vi x4, vi x6] hC (s_X4_paper (xG x) (xl x) N x4 x6 w q6 hq6) (Nat.le_of_ble_eq_true rfl) rfl rfl rfl (Nat.le_of_ble_eq_true rfl) (dk d_X4_known 45 rfl) 83 rfl ?_
        refine Z_if_ne hC (dk d_X4_known 46 rfl) 86 95 rfl (by decide) (fun c => ?_) (fun c => ?_)
        · have h := it_f h c
          refine Z_iinc hC (dk d_X4_known 53 rfl) 98 rfl rfl rfl [some (vr 0 0), none, some (vi x2), none, some (vi x4), some (vi x5), some (vi (x6 + (1 : Int32)))] rfl ?_
          refine Z_goto hC (dk d_X4_known 54 rfl) 55 (by decide) ?_
          refine Z_wk [true, false, true, false, true, true, true] [some (vr 0 0), none, some (vi x2), none, some (vi x4), some (vi x5), some (vi (x6 + (1 : Int32)))] rfl ?_
          exact ih x5 (x6 + (1 : Int32)) q6.2 _ h ke
        · have h := it_t h c
          refine Z_iload hC (dk d_X4_known 47 rfl) 88 rfl rfl ?_
          refine Z_iconst (v := 1) hC (dk d_X4_known 48 rfl) 89 rfl (by decide) ?_
          refine Z_iload hC (dk d_X4_known 49 rfl) 91 rfl rfl ?_
          refine Z_ishl hC (dk d_X4_known 50 rfl) 92 rfl ?_
          refine Z_ior hC (dk d_X4_known 51 rfl) 93 rfl ?_
          refine Z_istore hC (dk d_X4_known 52 rfl) 95 rfl (Nat.le_of_ble_eq_true rfl) [some (vr 0 0), none, some (vi x2), none, some (vi x4), some (vi (x5 ||| ((1 : Int32) <<< (x6 &&& (31 : Int32))))), some (vi x6)] rfl ?_
          refine Z_iinc hC (dk d_X4_known 53 rfl) 98 rfl rfl rfl [some (vr 0 0), none, some (vi x2), none, some (vi x4), some (vi (x5 ||| ((1 : Int32) <<< (x6 &&& (31 : Int32))))), some (vi (x6 + (1 : Int32)))] rfl ?_
          refine Z_goto hC (dk d_X4_known 54 rfl) 55 (by decide) ?_
          refine Z_wk [true, false, true, false, true, true, true] [some (vr 0 0), none, some (vi x2), none, some (vi x4), some (vi (x5 ||| ((1 : Int32) <<< (x6 &&& (31 : Int32))))), some (vi (x6 + (1 : Int32)))] rfl ?_
          exact ih (x5 ||| ((1 : Int32) <<< (x6 &&& (31 : Int32)))) (x6 + (1 : Int32)) q6.2 _ h ke
noncomputable def f_X4_known (N : Nat) (a1 : Int32) (a2 : Int32) (w : Wd) : Option (Int32 × Wd) :=
  (f_X4_isRow N a1 w).bind (fun q1 =>
    if q1.1 = 0 then
      some ((-1 : Int32), q1.2)
    else
      (f_X4_isSet N a2 q1.2).bind (fun q2 =>
        if q2.1 = 0 then
          some ((-1 : Int32), q2.2)
        else
          (f_X4_rightDrawingIn N a1 q2.2).bind (fun q3 =>
            if 0 ≤ q3.1 then
              (f_X4_papersOf N a2 q3.2).bind (fun q4 =>
                (f_X2_differing N 0 q3.1 q4.1 q4.2).bind (fun q5 =>
                  (X4_known_L1 N a2 q5.1 N (0 : Int32) (0 : Int32) q5.2).bind (fun q7 =>
                    some (q7.1, q7.2))))
            else
              (f_X4_refuse N (-q3.1) q3.2).bind (fun q8 =>
                some (q8.1, q8.2)))))
set_option maxRecDepth 20000 in
set_option maxHeartbeats 4000000 in
theorem s_X4_known (G : GT) (l : Launch) (N : Nat) (a1 : Int32) (a2 : Int32) (w : Wd) (q : Int32 × Wd) (h : f_X4_known N a1 a2 w = some q) : Sp G l yX4_known cw_X4_known 15 [vr 0 0, vi a1, vi a2] w (some (vi q.1)) q.2 := by
  refine Sp_of (own := RX4) [some (vr 0 0), some (vi a1), some (vi a2), none, none, none, none] (by decide) rfl rfl (Nat.le_of_ble_eq_true rfl) ?_
  intro x hG hl hC hr hQ _ _
  subst hG
  subst hl
  unfold f_X4_known at h
  refine Z_iload_n hC (dk d_X4_known 0 rfl) 1 rfl rfl rfl ?_
  obtain ⟨q1, hq1, h⟩ := bd_some h
  refine K_X4_70 [vi a1] hC (s_X4_isRow (xG x) (xl x) N a1 w q1 hq1) (Nat.le_of_ble_eq_true rfl) rfl rfl rfl (Nat.le_of_ble_eq_true rfl) (dk d_X4_known 1 rfl) 4 rfl ?_
  refine Z_if_eq hC (dk d_X4_known 2 rfl) 7 15 rfl (by decide) (fun c => ?_) (fun c => ?_)
  · have h := it_t h c
    refine Z_iconst (v := -1) hC (dk d_X4_known 7 rfl) 16 rfl (by decide) ?_
    obtain rfl := Option.some.inj h
    exact Z_ireturn (st := []) hC hr hQ (dk d_X4_known 8 rfl)
  · have h := it_f h c
    refine Z_aload_n hC (dk d_X4_known 3 rfl) 8 rfl rfl rfl ?_
    refine Z_iload_n hC (dk d_X4_known 4 rfl) 9 rfl rfl rfl ?_
    obtain ⟨q2, hq2, h⟩ := bd_some h
    refine K_X4_264 [vi a2] hC m_0 (s_X4_isSet (xG x) (xl x) N a2 q1.2 q2 hq2) (Nat.le_of_ble_eq_true rfl) rfl rfl rfl (Nat.le_of_ble_eq_true rfl) (dk d_X4_known 5 rfl) 12 rfl ?_
    refine Z_if_ne hC (dk d_X4_known 6 rfl) 15 17 rfl (by decide) (fun c => ?_) (fun c => ?_)
    · have h := it_f h c
      refine Z_aload_n hC (dk d_X4_known 9 rfl) 18 rfl rfl rfl ?_
      refine Z_iload_n hC (dk d_X4_known 10 rfl) 19 rfl rfl rfl ?_
      obtain ⟨q3, hq3, h⟩ := bd_some h
      refine K_X4_267 [vi a1] hC m_0 (s_X4_rightDrawingIn (xG x) (xl x) N a1 q2.2 q3 hq3) (Nat.le_of_ble_eq_true rfl) rfl rfl rfl (Nat.le_of_ble_eq_true rfl) (dk d_X4_known 11 rfl) 22 rfl ?_
      refine Z_istore_n hC (dk d_X4_known 12 rfl) 23 rfl rfl (Nat.le_of_ble_eq_true rfl) [some (vr 0 0), some (vi a1), some (vi a2), some (vi q3.1), none, none, none] rfl ?_
      refine Z_iload_n hC (dk d_X4_known 13 rfl) 24 rfl rfl rfl ?_
      refine Z_if_ge hC (dk d_X4_known 14 rfl) 27 34 rfl (by decide) (fun c => ?_) (fun c => ?_)
      · have h := it_t h c
        refine Z_aload_n hC (dk d_X4_known 20 rfl) 35 rfl rfl rfl ?_
        refine G_X4_36 hC m_0 (dk d_X4_known 21 rfl) 38 rfl ?_
        refine Z_iload_n hC (dk d_X4_known 22 rfl) 39 rfl rfl rfl ?_
        refine Z_aload_n hC (dk d_X4_known 23 rfl) 40 rfl rfl rfl ?_
        refine Z_iload_n hC (dk d_X4_known 24 rfl) 41 rfl rfl rfl ?_
        obtain ⟨q4, hq4, h⟩ := bd_some h
        refine K_X4_270 [vi a2] hC m_0 (s_X4_papersOf (xG x) (xl x) N a2 q3.2 q4 hq4) (Nat.le_of_ble_eq_true rfl) rfl rfl rfl (Nat.le_of_ble_eq_true rfl) (dk d_X4_known 25 rfl) 44 rfl ?_
        obtain ⟨q5, hq5, h⟩ := bd_some h
        refine K_X4_273 [vi q3.1, vi q4.1] hC (m_4 (by decide)) (s_X2_differing (xG x) (xl x) N 0 (by decide) q3.1 q4.1 q4.2 q5 hq5) (Nat.le_of_ble_eq_true rfl) rfl rfl rfl (Nat.le_of_ble_eq_true rfl) (dk d_X4_known 26 rfl) 47 rfl ?_
        refine Z_istore hC (dk d_X4_known 27 rfl) 49 rfl (Nat.le_of_ble_eq_true rfl) [some (vr 0 0), some (vi a1), some (vi a2), some (vi q3.1), some (vi q5.1), none, none] rfl ?_
        refine Z_iconst (v := 0) hC (dk d_X4_known 28 rfl) 50 rfl (by decide) ?_
        refine Z_istore hC (dk d_X4_known 29 rfl) 52 rfl (Nat.le_of_ble_eq_true rfl) [some (vr 0 0), some (vi a1), some (vi a2), some (vi q3.1), some (vi q5.1), some (vi (0 : Int32)), none] rfl ?_
        refine Z_iconst (v := 0) hC (dk d_X4_known 30 rfl) 53 rfl (by decide) ?_
        refine Z_istore hC (dk d_X4_known 31 rfl) 55 rfl (Nat.le_of_ble_eq_true rfl) [some (vr 0 0), some (vi a1), some (vi a2), some (vi q3.1), some (vi q5.1), some (vi (0 : Int32)), some (vi (0 : Int32))] rfl ?_
        obtain ⟨q7, hq7, h⟩ := bd_some h
        refine Z_wk [true, false, true, false, true, true, true] [some (vr 0 0), none, some (vi a2), none, some (vi q5.1), some (vi (0 : Int32)), some (vi (0 : Int32))] rfl ?_
        refine z_X4_known_L1 hC hr N a2 q5.1 N (0 : Int32) (0 : Int32) q5.2 q7 hq7 ?_
        refine Z_iload hC (dk d_X4_known 55 rfl) 103 rfl rfl ?_
        obtain rfl := Option.some.inj h
        exact Z_ireturn (st := []) hC hr hQ (dk d_X4_known 56 rfl)
      · have h := it_f h c
        refine Z_aload_n hC (dk d_X4_known 15 rfl) 28 rfl rfl rfl ?_
        refine Z_iload_n hC (dk d_X4_known 16 rfl) 29 rfl rfl rfl ?_
        refine Z_ineg hC (dk d_X4_known 17 rfl) 30 rfl ?_
        obtain ⟨q8, hq8, h⟩ := bd_some h
        refine K_X4_74 [vi (-q3.1)] hC m_0 (s_X4_refuse (xG x) (xl x) N (-q3.1) q3.2 q8 hq8) (Nat.le_of_ble_eq_true rfl) rfl rfl rfl (Nat.le_of_ble_eq_true rfl) (dk d_X4_known 18 rfl) 33 rfl ?_
        obtain rfl := Option.some.inj h
        exact Z_ireturn (st := []) hC hr hQ (dk d_X4_known 19 rfl)
    · have h := it_t h c
      refine Z_iconst (v := -1) hC (dk d_X4_known 7 rfl) 16 rfl (by decide) ?_
      obtain rfl := Option.some.inj h
      exact Z_ireturn (st := []) hC hr hQ (dk d_X4_known 8 rfl)
def t_X4_still : List (Nat × Instr × Nat) := [(0, .iload_n 1, 1), (1, .invokestatic 70, 3), (4, .ifCond .eq 11, 3), (7, .aload_n 0, 1), (8, .iload_n 2, 1), (9, .invokevirtual 264, 3), (12, .ifCond .ne 5, 3), (15, .iconst (-1), 1), (16, .ireturn, 1), (17, .aload_n 0, 1), (18, .iload_n 1, 1), (19, .invokevirtual 267, 3), (22, .istore_n 3, 1), (23, .iload_n 3, 1), (24, .ifCond .ge 10, 3), (27, .aload_n 0, 1), (28, .iload_n 3, 1), (29, .ineg, 1), (30, .invokevirtual 74, 3), (33, .ireturn, 1), (34, .bipush (-9), 2), (36, .istore 4, 2), (38, .iconst 0, 1), (39, .istore 5, 2), (41, .iconst 0, 1), (42, .istore 6, 2), (44, .iload 6, 2), (46, .aload_n 0, 1), (47, .getfield 26, 3), (50, .getfield 132, 3), (53, .if_icmp .ge 55, 3), (56, .iload_n 2, 1), (57, .iload 6, 2), (59, .ishr, 1), (60, .iconst 1, 1), (61, .iand, 1), (62, .ifCond .eq 40, 3), (65, .aload_n 0, 1), (66, .getfield 36, 3), (69, .iload_n 3, 1), (70, .aload_n 0, 1), (71, .iload_n 2, 1), (72, .iconst 1, 1), (73, .iload 6, 2), (75, .ishl, 1), (76, .iconst (-1), 1), (77, .ixor, 1), (78, .iand, 1), (79, .invokevirtual 270, 3), (82, .invokevirtual 223, 3), (85, .istore 7, 2), (87, .iload 7, 2), (89, .iload 5, 2), (91, .if_icmp .le 11, 3), (94, .iload 7, 2), (96, .istore 5, 2), (98, .iload 6, 2), (100, .istore 4, 2), (102, .iinc 6 1, 3), (105, .goto (-61), 3), (108, .iload 4, 2), (110, .bipush (-9), 2), (112, .if_icmp .eq 9, 3), (115, .aload_n 0, 1), (116, .iload 5, 2), (118, .putfield 90, 3), (121, .iload 4, 2), (123, .ireturn, 1)]
set_option maxRecDepth 20000 in
theorem d_X4_still : ∀ q ∈ t_X4_still, decode cX4_still q.1 = .ok q.2 := by decide +kernel
noncomputable def X4_still_L1 (N : Nat) (x2 : Int32) (x3 : Int32) : Nat → Int32 → Int32 → Int32 → Wd → Option (Int32 × Int32 × Wd)
  | 0, _, _, _, _ => none
  | n + 1, x4, x5, x6, w =>
  if (gI w 4 0) ≤ x6 then
    some (x4, x5, w)
  else
    if ((x2 >>> (x6 &&& (31 : Int32))) &&& (1 : Int32)) = 0 then
      X4_still_L1 N x2 x3 n x4 x5 (x6 + (1 : Int32)) w
    else
      (f_X4_papersOf N (x2 &&& (((1 : Int32) <<< (x6 &&& (31 : Int32))) ^^^ (-1 : Int32))) w).bind (fun q4 =>
        (f_X2_fitting N 0 x3 q4.1 q4.2).bind (fun q5 =>
          if q5.1 ≤ x5 then
            X4_still_L1 N x2 x3 n x4 x5 (x6 + (1 : Int32)) q5.2
          else
            X4_still_L1 N x2 x3 n x6 q5.1 (x6 + (1 : Int32)) q5.2))
set_option maxRecDepth 20000 in
set_option maxHeartbeats 4000000 in
theorem z_X4_still_L1 {x : CX} (hC : Cx x RX4 cX4_still 8 15) (hr : (xM x).sig.returnType = (some .int)) (N : Nat) (x2 : Int32) (x3 : Int32) : ∀ (n : Nat) (x4 : Int32) (x5 : Int32) (x6 : Int32) (w : Wd) (q : (Int32 × Int32 × Wd)), X4_still_L1 N x2 x3 n x4 x5 x6 w = some q → Z x 108 [some (vr 0 0), none, none, none, some (vi q.1), some (vi q.2.1), none, none] [] q.2.2 → Z x 44 [some (vr 0 0), none, some (vi x2), some (vi x3), some (vi x4), some (vi x5), some (vi x6), none] [] w := by
  intro n
  induction n with
  | zero =>
    intro x4 x5 x6 w q h
    cases h
  | succ n ih =>
    intro x4 x5 x6 w q h ke
    rw [X4_still_L1] at h
    refine Z_iload hC (dk d_X4_still 26 rfl) 46 rfl rfl ?_
    refine Z_aload_n hC (dk d_X4_still 27 rfl) 47 rfl rfl rfl ?_
    refine G_X4_26 hC m_0 (dk d_X4_still 28 rfl) 50 rfl ?_
    refine G_X4_132 hC (m_3 (by decide)) (dk d_X4_still 29 rfl) 53 rfl ?_
    refine Z_icmp_ge hC (dk d_X4_still 30 rfl) 56 108 rfl (by decide) (fun c => ?_) (fun c => ?_)
    · have h := it_t h c
      obtain rfl := Option.some.inj h
      refine Z_wk [true, false, false, false, true, true, false, false] [some (vr 0 0), none, none, none, some (vi x4), some (vi x5), none, none] rfl ?_
      exact ke
    · have h := it_f h c
      refine Z_iload_n hC (dk d_X4_still 31 rfl) 57 rfl rfl rfl ?_
      refine Z_iload hC (dk d_X4_still 32 rfl) 59 rfl rfl ?_
      refine Z_ishr hC (dk d_X4_still 33 rfl) 60 rfl ?_
      refine Z_iconst (v := 1) hC (dk d_X4_still 34 rfl) 61 rfl (by decide) ?_
      refine Z_iand hC (dk d_X4_still 35 rfl) 62 rfl ?_
      refine Z_if_eq hC (dk d_X4_still 36 rfl) 65 102 rfl (by decide) (fun c => ?_) (fun c => ?_)
      · have h := it_t h c
        refine Z_iinc hC (dk d_X4_still 58 rfl) 105 rfl rfl rfl [some (vr 0 0), none, some (vi x2), some (vi x3), some (vi x4), some (vi x5), some (vi (x6 + (1 : Int32))), none] rfl ?_
        refine Z_goto hC (dk d_X4_still 59 rfl) 44 (by decide) ?_
        refine Z_wk [true, false, true, true, true, true, true, false] [some (vr 0 0), none, some (vi x2), some (vi x3), some (vi x4), some (vi x5), some (vi (x6 + (1 : Int32))), none] rfl ?_
        exact ih x4 x5 (x6 + (1 : Int32)) w _ h ke
      · have h := it_f h c
        refine Z_aload_n hC (dk d_X4_still 37 rfl) 66 rfl rfl rfl ?_
        refine G_X4_36 hC m_0 (dk d_X4_still 38 rfl) 69 rfl ?_
        refine Z_iload_n hC (dk d_X4_still 39 rfl) 70 rfl rfl rfl ?_
        refine Z_aload_n hC (dk d_X4_still 40 rfl) 71 rfl rfl rfl ?_
        refine Z_iload_n hC (dk d_X4_still 41 rfl) 72 rfl rfl rfl ?_
        refine Z_iconst (v := 1) hC (dk d_X4_still 42 rfl) 73 rfl (by decide) ?_
        refine Z_iload hC (dk d_X4_still 43 rfl) 75 rfl rfl ?_
        refine Z_ishl hC (dk d_X4_still 44 rfl) 76 rfl ?_
        refine Z_iconst (v := -1) hC (dk d_X4_still 45 rfl) 77 rfl (by decide) ?_
        refine Z_ixor hC (dk d_X4_still 46 rfl) 78 rfl ?_
        refine Z_iand hC (dk d_X4_still 47 rfl) 79 rfl ?_
        obtain ⟨q4, hq4, h⟩ := bd_some h
        refine K_X4_270 [vi (x2 &&& (((1 : Int32) <<< (x6 &&& (31 : Int32))) ^^^ (-1 : Int32)))] hC m_0 (s_X4_papersOf (xG x) (xl x) N (x2 &&& (((1 : Int32) <<< (x6 &&& (31 : Int32))) ^^^ (-1 : Int32))) w q4 hq4) (Nat.le_of_ble_eq_true rfl) rfl rfl rfl (Nat.le_of_ble_eq_true rfl) (dk d_X4_still 48 rfl) 82 rfl ?_
        obtain ⟨q5, hq5, h⟩ := bd_some h
        refine K_X4_223 [vi x3, vi q4.1] hC (m_4 (by decide)) (s_X2_fitting (xG x) (xl x) N 0 (by decide) x3 q4.1 q4.2 q5 hq5) (Nat.le_of_ble_eq_true rfl) rfl rfl rfl (Nat.le_of_ble_eq_true rfl) (dk d_X4_still 49 rfl) 85 rfl ?_
        refine Z_istore hC (dk d_X4_still 50 rfl) 87 rfl (Nat.le_of_ble_eq_true rfl) [some (vr 0 0), none, some (vi x2), some (vi x3), some (vi x4), some (vi x5), some (vi x6), some (vi q5.1)] rfl ?_
        refine Z_iload hC (dk d_X4_still 51 rfl) 89 rfl rfl ?_
        refine Z_iload hC (dk d_X4_still 52 rfl) 91 rfl rfl ?_
        refine Z_icmp_le hC (dk d_X4_still 53 rfl) 94 102 rfl (by decide) (fun c => ?_) (fun c => ?_)
        · have h := it_t h c
          refine Z_iinc hC (dk d_X4_still 58 rfl) 105 rfl rfl rfl [some (vr 0 0), none, some (vi x2), some (vi x3), some (vi x4), some (vi x5), some (vi (x6 + (1 : Int32))), some (vi q5.1)] rfl ?_
          refine Z_goto hC (dk d_X4_still 59 rfl) 44 (by decide) ?_
          refine Z_wk [true, false, true, true, true, true, true, false] [some (vr 0 0), none, some (vi x2), some (vi x3), some (vi x4), some (vi x5), some (vi (x6 + (1 : Int32))), none] rfl ?_
          exact ih x4 x5 (x6 + (1 : Int32)) q5.2 _ h ke
        · have h := it_f h c
          refine Z_iload hC (dk d_X4_still 54 rfl) 96 rfl rfl ?_
          refine Z_istore hC (dk d_X4_still 55 rfl) 98 rfl (Nat.le_of_ble_eq_true rfl) [some (vr 0 0), none, some (vi x2), some (vi x3), some (vi x4), some (vi q5.1), some (vi x6), some (vi q5.1)] rfl ?_
          refine Z_iload hC (dk d_X4_still 56 rfl) 100 rfl rfl ?_
          refine Z_istore hC (dk d_X4_still 57 rfl) 102 rfl (Nat.le_of_ble_eq_true rfl) [some (vr 0 0), none, some (vi x2), some (vi x3), some (vi x6), some (vi q5.1), some (vi x6), some (vi q5.1)] rfl ?_
          refine Z_iinc hC (dk d_X4_still 58 rfl) 105 rfl rfl rfl [some (vr 0 0), none, some (vi x2), some (vi x3), some (vi x6), some (vi q5.1), some (vi (x6 + (1 : Int32))), some (vi q5.1)] rfl ?_
          refine Z_goto hC (dk d_X4_still 59 rfl) 44 (by decide) ?_
          refine Z_wk [true, false, true, true, true, true, true, false] [some (vr 0 0), none, some (vi x2), some (vi x3), some (vi x6), some (vi q5.1), some (vi (x6 + (1 : Int32))), none] rfl ?_
          exact ih x6 q5.1 (x6 + (1 : Int32)) q5.2 _ h ke
noncomputable def f_X4_still (N : Nat) (a1 : Int32) (a2 : Int32) (w : Wd) : Option (Int32 × Wd) :=
  (f_X4_isRow N a1 w).bind (fun q1 =>
    if q1.1 = 0 then
      some ((-1 : Int32), q1.2)
    else
      (f_X4_isSet N a2 q1.2).bind (fun q2 =>
        if q2.1 = 0 then
          some ((-1 : Int32), q2.2)
        else
          (f_X4_rightDrawingIn N a1 q2.2).bind (fun q3 =>
            if 0 ≤ q3.1 then
              (X4_still_L1 N a2 q3.1 N (-9 : Int32) (0 : Int32) (0 : Int32) q3.2).bind (fun q6 =>
                if q6.1 = (-9 : Int32) then
                  some (q6.1, q6.2.2)
                else
                  some (q6.1, sI q6.2.2 412 0 q6.2.1))
            else
              (f_X4_refuse N (-q3.1) q3.2).bind (fun q7 =>
                some (q7.1, q7.2)))))
set_option maxRecDepth 20000 in
set_option maxHeartbeats 4000000 in
theorem s_X4_still (G : GT) (l : Launch) (N : Nat) (a1 : Int32) (a2 : Int32) (w : Wd) (q : Int32 × Wd) (h : f_X4_still N a1 a2 w = some q) : Sp G l yX4_still cw_X4_still 15 [vr 0 0, vi a1, vi a2] w (some (vi q.1)) q.2 := by
  refine Sp_of (own := RX4) [some (vr 0 0), some (vi a1), some (vi a2), none, none, none, none, none] (by decide) rfl rfl (Nat.le_of_ble_eq_true rfl) ?_
  intro x hG hl hC hr hQ _ _
  subst hG
  subst hl
  unfold f_X4_still at h
  refine Z_iload_n hC (dk d_X4_still 0 rfl) 1 rfl rfl rfl ?_
  obtain ⟨q1, hq1, h⟩ := bd_some h
  refine K_X4_70 [vi a1] hC (s_X4_isRow (xG x) (xl x) N a1 w q1 hq1) (Nat.le_of_ble_eq_true rfl) rfl rfl rfl (Nat.le_of_ble_eq_true rfl) (dk d_X4_still 1 rfl) 4 rfl ?_
  refine Z_if_eq hC (dk d_X4_still 2 rfl) 7 15 rfl (by decide) (fun c => ?_) (fun c => ?_)
  · have h := it_t h c
    refine Z_iconst (v := -1) hC (dk d_X4_still 7 rfl) 16 rfl (by decide) ?_
    obtain rfl := Option.some.inj h
    exact Z_ireturn (st := []) hC hr hQ (dk d_X4_still 8 rfl)
  · have h := it_f h c
    refine Z_aload_n hC (dk d_X4_still 3 rfl) 8 rfl rfl rfl ?_
    refine Z_iload_n hC (dk d_X4_still 4 rfl) 9 rfl rfl rfl ?_
    obtain ⟨q2, hq2, h⟩ := bd_some h
    refine K_X4_264 [vi a2] hC m_0 (s_X4_isSet (xG x) (xl x) N a2 q1.2 q2 hq2) (Nat.le_of_ble_eq_true rfl) rfl rfl rfl (Nat.le_of_ble_eq_true rfl) (dk d_X4_still 5 rfl) 12 rfl ?_
    refine Z_if_ne hC (dk d_X4_still 6 rfl) 15 17 rfl (by decide) (fun c => ?_) (fun c => ?_)
    · have h := it_f h c
      refine Z_aload_n hC (dk d_X4_still 9 rfl) 18 rfl rfl rfl ?_
      refine Z_iload_n hC (dk d_X4_still 10 rfl) 19 rfl rfl rfl ?_
      obtain ⟨q3, hq3, h⟩ := bd_some h
      refine K_X4_267 [vi a1] hC m_0 (s_X4_rightDrawingIn (xG x) (xl x) N a1 q2.2 q3 hq3) (Nat.le_of_ble_eq_true rfl) rfl rfl rfl (Nat.le_of_ble_eq_true rfl) (dk d_X4_still 11 rfl) 22 rfl ?_
      refine Z_istore_n hC (dk d_X4_still 12 rfl) 23 rfl rfl (Nat.le_of_ble_eq_true rfl) [some (vr 0 0), some (vi a1), some (vi a2), some (vi q3.1), none, none, none, none] rfl ?_
      refine Z_iload_n hC (dk d_X4_still 13 rfl) 24 rfl rfl rfl ?_
      refine Z_if_ge hC (dk d_X4_still 14 rfl) 27 34 rfl (by decide) (fun c => ?_) (fun c => ?_)
      · have h := it_t h c
        refine Z_bipush (v := -9) hC (dk d_X4_still 20 rfl) 36 rfl (by decide) ?_
        refine Z_istore hC (dk d_X4_still 21 rfl) 38 rfl (Nat.le_of_ble_eq_true rfl) [some (vr 0 0), some (vi a1), some (vi a2), some (vi q3.1), some (vi (-9 : Int32)), none, none, none] rfl ?_
        refine Z_iconst (v := 0) hC (dk d_X4_still 22 rfl) 39 rfl (by decide) ?_
        refine Z_istore hC (dk d_X4_still 23 rfl) 41 rfl (Nat.le_of_ble_eq_true rfl) [some (vr 0 0), some (vi a1), some (vi a2), some (vi q3.1), some (vi (-9 : Int32)), some (vi (0 : Int32)), none, none] rfl ?_
        refine Z_iconst (v := 0) hC (dk d_X4_still 24 rfl) 42 rfl (by decide) ?_
        refine Z_istore hC (dk d_X4_still 25 rfl) 44 rfl (Nat.le_of_ble_eq_true rfl) [some (vr 0 0), some (vi a1), some (vi a2), some (vi q3.1), some (vi (-9 : Int32)), some (vi (0 : Int32)), some (vi (0 : Int32)), none] rfl ?_
        obtain ⟨q6, hq6, h⟩ := bd_some h
        refine Z_wk [true, false, true, true, true, true, true, false] [some (vr 0 0), none, some (vi a2), some (vi q3.1), some (vi (-9 : Int32)), some (vi (0 : Int32)), some (vi (0 : Int32)), none] rfl ?_
        refine z_X4_still_L1 hC hr N a2 q3.1 N (-9 : Int32) (0 : Int32) (0 : Int32) q3.2 q6 hq6 ?_
        refine Z_iload hC (dk d_X4_still 60 rfl) 110 rfl rfl ?_
        refine Z_bipush (v := -9) hC (dk d_X4_still 61 rfl) 112 rfl (by decide) ?_
        refine Z_icmp_eq hC (dk d_X4_still 62 rfl) 115 121 rfl (by decide) (fun c => ?_) (fun c => ?_)
        · have h := it_t h c
          refine Z_iload hC (dk d_X4_still 66 rfl) 123 rfl rfl ?_
          obtain rfl := Option.some.inj h
          exact Z_ireturn (st := []) hC hr hQ (dk d_X4_still 67 rfl)
        · have h := it_f h c
          refine Z_aload_n hC (dk d_X4_still 63 rfl) 116 rfl rfl rfl ?_
          refine Z_iload hC (dk d_X4_still 64 rfl) 118 rfl rfl ?_
          refine P_X4_90 hC m_0 (dk d_X4_still 65 rfl) 121 rfl ?_
          refine Z_iload hC (dk d_X4_still 66 rfl) 123 rfl rfl ?_
          obtain rfl := Option.some.inj h
          exact Z_ireturn (st := []) hC hr hQ (dk d_X4_still 67 rfl)
      · have h := it_f h c
        refine Z_aload_n hC (dk d_X4_still 15 rfl) 28 rfl rfl rfl ?_
        refine Z_iload_n hC (dk d_X4_still 16 rfl) 29 rfl rfl rfl ?_
        refine Z_ineg hC (dk d_X4_still 17 rfl) 30 rfl ?_
        obtain ⟨q7, hq7, h⟩ := bd_some h
        refine K_X4_74 [vi (-q3.1)] hC m_0 (s_X4_refuse (xG x) (xl x) N (-q3.1) q3.2 q7 hq7) (Nat.le_of_ble_eq_true rfl) rfl rfl rfl (Nat.le_of_ble_eq_true rfl) (dk d_X4_still 18 rfl) 33 rfl ?_
        obtain rfl := Option.some.inj h
        exact Z_ireturn (st := []) hC hr hQ (dk d_X4_still 19 rfl)
    · have h := it_t h c
      refine Z_iconst (v := -1) hC (dk d_X4_still 7 rfl) 16 rfl (by decide) ?_
      obtain rfl := Option.some.inj h
      exact Z_ireturn (st := []) hC hr hQ (dk d_X4_still 8 rfl)
def t_X4_fewest : List (Nat × Instr × Nat) := [(0, .iload_n 1, 1), (1, .invokestatic 70, 3), (4, .ifCond .ne 5, 3), (7, .iconst (-1), 1), (8, .ireturn, 1), (9, .aload_n 0, 1), (10, .iload_n 1, 1), (11, .invokevirtual 267, 3), (14, .istore_n 2, 1), (15, .iload_n 2, 1), (16, .ifCond .ge 10, 3), (19, .aload_n 0, 1), (20, .iload_n 2, 1), (21, .ineg, 1), (22, .invokevirtual 74, 3), (25, .ireturn, 1), (26, .iconst 1, 1), (27, .aload_n 0, 1), (28, .getfield 26, 3), (31, .getfield 132, 3), (34, .ishl, 1), (35, .iconst 1, 1), (36, .isub, 1), (37, .istore_n 3, 1), (38, .iconst 0, 1), (39, .istore 4, 2), (41, .iload 4, 2), (43, .iconst 1, 1), (44, .aload_n 0, 1), (45, .getfield 26, 3), (48, .getfield 132, 3), (51, .ishl, 1), (52, .if_icmp .ge 42, 3), (55, .iload 4, 2), (57, .invokestatic 160, 3), (60, .iload_n 3, 1), (61, .invokestatic 160, 3), (64, .if_icmp .ge 24, 3), (67, .aload_n 0, 1), (68, .getfield 36, 3), (71, .iload_n 2, 1), (72, .aload_n 0, 1), (73, .iload 4, 2), (75, .invokevirtual 270, 3), (78, .invokevirtual 223, 3), (81, .iconst 1, 1), (82, .if_icmp .ne 6, 3), (85, .iload 4, 2), (87, .istore_n 3, 1), (88, .iinc 4 1, 3), (91, .goto (-50), 3), (94, .aload_n 0, 1), (95, .iload_n 3, 1), (96, .putfield 90, 3), (99, .iload_n 3, 1), (100, .invokestatic 160, 3), (103, .ireturn, 1)]
set_option maxRecDepth 20000 in
theorem d_X4_fewest : ∀ q ∈ t_X4_fewest, decode cX4_fewest q.1 = .ok q.2 := by decide +kernel
noncomputable def X4_fewest_L1 (N : Nat) (x2 : Int32) : Nat → Int32 → Int32 → Wd → Option (Int32 × Wd)
  | 0, _, _, _ => none
  | n + 1, x3, x4, w =>
  if ((1 : Int32) <<< ((gI w 4 0) &&& (31 : Int32))) ≤ x4 then
    some (x3, w)
  else
    (f_J6_bitCount_0f7a4 N x4 w).bind (fun q3 =>
      (f_J6_bitCount_0f7a4 N x3 q3.2).bind (fun q4 =>
        if q4.1 ≤ q3.1 then
          X4_fewest_L1 N x2 n x3 (x4 + (1 : Int32)) q4.2
        else
          (f_X4_papersOf N x4 q4.2).bind (fun q5 =>
            (f_X2_fitting N 0 x2 q5.1 q5.2).bind (fun q6 =>
              if q6.1 = (1 : Int32) then
                X4_fewest_L1 N x2 n x4 (x4 + (1 : Int32)) q6.2
              else
                X4_fewest_L1 N x2 n x3 (x4 + (1 : Int32)) q6.2))))
set_option maxRecDepth 20000 in
set_option maxHeartbeats 4000000 in
theorem z_X4_fewest_L1 {x : CX} (hC : Cx x RX4 cX4_fewest 5 15) (hr : (xM x).sig.returnType = (some .int)) (N : Nat) (x2 : Int32) : ∀ (n : Nat) (x3 : Int32) (x4 : Int32) (w : Wd) (q : (Int32 × Wd)), X4_fewest_L1 N x2 n x3 x4 w = some q → Z x 94 [some (vr 0 0), none, none, some (vi q.1), none] [] q.2 → Z x 41 [some (vr 0 0), none, some (vi x2), some (vi x3), some (vi x4)] [] w := by
  intro n
  induction n with
  | zero =>
    intro x3 x4 w q h
    cases h
  | succ n ih =>
    intro x3 x4 w q h ke
    rw [X4_fewest_L1] at h
    refine Z_iload hC (dk d_X4_fewest 26 rfl) 43 rfl rfl ?_
    refine Z_iconst (v := 1) hC (dk d_X4_fewest 27 rfl) 44 rfl (by decide) ?_
    refine Z_aload_n hC (dk d_X4_fewest 28 rfl) 45 rfl rfl rfl ?_
    refine G_X4_26 hC m_0 (dk d_X4_fewest 29 rfl) 48 rfl ?_
    refine G_X4_132 hC (m_3 (by decide)) (dk d_X4_fewest 30 rfl) 51 rfl ?_
    refine Z_ishl hC (dk d_X4_fewest 31 rfl) 52 rfl ?_
    refine Z_icmp_ge hC (dk d_X4_fewest 32 rfl) 55 94 rfl (by decide) (fun c => ?_) (fun c => ?_)
    · have h := it_t h c
      obtain rfl := Option.some.inj h
      refine Z_wk [true, false, false, true, false] [some (vr 0 0), none, none, some (vi x3), none] rfl ?_
      exact ke
    · have h := it_f h c
      refine Z_iload hC (dk d_X4_fewest 33 rfl) 57 rfl rfl ?_
      obtain ⟨q3, hq3, h⟩ := bd_some h
      refine K_X4_160 [vi x4] hC (s_J6_bitCount_0f7a4 (xG x) (xl x) N x4 w q3 hq3) (Nat.le_of_ble_eq_true rfl) rfl rfl rfl (Nat.le_of_ble_eq_true rfl) (dk d_X4_fewest 34 rfl) 60 rfl ?_
      refine Z_iload_n hC (dk d_X4_fewest 35 rfl) 61 rfl rfl rfl ?_
      obtain ⟨q4, hq4, h⟩ := bd_some h
      refine K_X4_160 [vi x3] hC (s_J6_bitCount_0f7a4 (xG x) (xl x) N x3 q3.2 q4 hq4) (Nat.le_of_ble_eq_true rfl) rfl rfl rfl (Nat.le_of_ble_eq_true rfl) (dk d_X4_fewest 36 rfl) 64 rfl ?_
      refine Z_icmp_ge hC (dk d_X4_fewest 37 rfl) 67 88 rfl (by decide) (fun c => ?_) (fun c => ?_)
      · have h := it_t h c
        refine Z_iinc hC (dk d_X4_fewest 49 rfl) 91 rfl rfl rfl [some (vr 0 0), none, some (vi x2), some (vi x3), some (vi (x4 + (1 : Int32)))] rfl ?_
        refine Z_goto hC (dk d_X4_fewest 50 rfl) 41 (by decide) ?_
        refine Z_wk [true, false, true, true, true] [some (vr 0 0), none, some (vi x2), some (vi x3), some (vi (x4 + (1 : Int32)))] rfl ?_
        exact ih x3 (x4 + (1 : Int32)) q4.2 _ h ke
      · have h := it_f h c
        refine Z_aload_n hC (dk d_X4_fewest 38 rfl) 68 rfl rfl rfl ?_
        refine G_X4_36 hC m_0 (dk d_X4_fewest 39 rfl) 71 rfl ?_
        refine Z_iload_n hC (dk d_X4_fewest 40 rfl) 72 rfl rfl rfl ?_
        refine Z_aload_n hC (dk d_X4_fewest 41 rfl) 73 rfl rfl rfl ?_
        refine Z_iload hC (dk d_X4_fewest 42 rfl) 75 rfl rfl ?_
        obtain ⟨q5, hq5, h⟩ := bd_some h
        refine K_X4_270 [vi x4] hC m_0 (s_X4_papersOf (xG x) (xl x) N x4 q4.2 q5 hq5) (Nat.le_of_ble_eq_true rfl) rfl rfl rfl (Nat.le_of_ble_eq_true rfl) (dk d_X4_fewest 43 rfl) 78 rfl ?_
        obtain ⟨q6, hq6, h⟩ := bd_some h
        refine K_X4_223 [vi x2, vi q5.1] hC (m_4 (by decide)) (s_X2_fitting (xG x) (xl x) N 0 (by decide) x2 q5.1 q5.2 q6 hq6) (Nat.le_of_ble_eq_true rfl) rfl rfl rfl (Nat.le_of_ble_eq_true rfl) (dk d_X4_fewest 44 rfl) 81 rfl ?_
        refine Z_iconst (v := 1) hC (dk d_X4_fewest 45 rfl) 82 rfl (by decide) ?_
        refine Z_icmp_ne hC (dk d_X4_fewest 46 rfl) 85 88 rfl (by decide) (fun c => ?_) (fun c => ?_)
        · have h := it_f h c
          refine Z_iinc hC (dk d_X4_fewest 49 rfl) 91 rfl rfl rfl [some (vr 0 0), none, some (vi x2), some (vi x3), some (vi (x4 + (1 : Int32)))] rfl ?_
          refine Z_goto hC (dk d_X4_fewest 50 rfl) 41 (by decide) ?_
          refine Z_wk [true, false, true, true, true] [some (vr 0 0), none, some (vi x2), some (vi x3), some (vi (x4 + (1 : Int32)))] rfl ?_
          exact ih x3 (x4 + (1 : Int32)) q6.2 _ h ke
        · have h := it_t h c
          refine Z_iload hC (dk d_X4_fewest 47 rfl) 87 rfl rfl ?_
          refine Z_istore_n hC (dk d_X4_fewest 48 rfl) 88 rfl rfl (Nat.le_of_ble_eq_true rfl) [some (vr 0 0), none, some (vi x2), some (vi x4), some (vi x4)] rfl ?_
          refine Z_iinc hC (dk d_X4_fewest 49 rfl) 91 rfl rfl rfl [some (vr 0 0), none, some (vi x2), some (vi x4), some (vi (x4 + (1 : Int32)))] rfl ?_
          refine Z_goto hC (dk d_X4_fewest 50 rfl) 41 (by decide) ?_
          refine Z_wk [true, false, true, true, true] [some (vr 0 0), none, some (vi x2), some (vi x4), some (vi (x4 + (1 : Int32)))] rfl ?_
          exact ih x4 (x4 + (1 : Int32)) q6.2 _ h ke
noncomputable def f_X4_fewest (N : Nat) (a1 : Int32) (w : Wd) : Option (Int32 × Wd) :=
  (f_X4_isRow N a1 w).bind (fun q1 =>
    if q1.1 = 0 then
      some ((-1 : Int32), q1.2)
    else
      (f_X4_rightDrawingIn N a1 q1.2).bind (fun q2 =>
        if 0 ≤ q2.1 then
          (X4_fewest_L1 N q2.1 N (((1 : Int32) <<< ((gI q2.2 4 0) &&& (31 : Int32))) - (1 : Int32)) (0 : Int32) q2.2).bind (fun q7 =>
            (f_J6_bitCount_0f7a4 N q7.1 (sI q7.2 412 0 q7.1)).bind (fun q8 =>
              some (q8.1, q8.2)))
        else
          (f_X4_refuse N (-q2.1) q2.2).bind (fun q9 =>
            some (q9.1, q9.2))))
set_option maxRecDepth 20000 in
set_option maxHeartbeats 4000000 in
theorem s_X4_fewest (G : GT) (l : Launch) (N : Nat) (a1 : Int32) (w : Wd) (q : Int32 × Wd) (h : f_X4_fewest N a1 w = some q) : Sp G l yX4_fewest cw_X4_fewest 15 [vr 0 0, vi a1] w (some (vi q.1)) q.2 := by
  refine Sp_of (own := RX4) [some (vr 0 0), some (vi a1), none, none, none] (by decide) rfl rfl (Nat.le_of_ble_eq_true rfl) ?_
  intro x hG hl hC hr hQ _ _
  subst hG
  subst hl
  unfold f_X4_fewest at h
  refine Z_iload_n hC (dk d_X4_fewest 0 rfl) 1 rfl rfl rfl ?_
  obtain ⟨q1, hq1, h⟩ := bd_some h
  refine K_X4_70 [vi a1] hC (s_X4_isRow (xG x) (xl x) N a1 w q1 hq1) (Nat.le_of_ble_eq_true rfl) rfl rfl rfl (Nat.le_of_ble_eq_true rfl) (dk d_X4_fewest 1 rfl) 4 rfl ?_
  refine Z_if_ne hC (dk d_X4_fewest 2 rfl) 7 9 rfl (by decide) (fun c => ?_) (fun c => ?_)
  · have h := it_f h c
    refine Z_aload_n hC (dk d_X4_fewest 5 rfl) 10 rfl rfl rfl ?_
    refine Z_iload_n hC (dk d_X4_fewest 6 rfl) 11 rfl rfl rfl ?_
    obtain ⟨q2, hq2, h⟩ := bd_some h
    refine K_X4_267 [vi a1] hC m_0 (s_X4_rightDrawingIn (xG x) (xl x) N a1 q1.2 q2 hq2) (Nat.le_of_ble_eq_true rfl) rfl rfl rfl (Nat.le_of_ble_eq_true rfl) (dk d_X4_fewest 7 rfl) 14 rfl ?_
    refine Z_istore_n hC (dk d_X4_fewest 8 rfl) 15 rfl rfl (Nat.le_of_ble_eq_true rfl) [some (vr 0 0), some (vi a1), some (vi q2.1), none, none] rfl ?_
    refine Z_iload_n hC (dk d_X4_fewest 9 rfl) 16 rfl rfl rfl ?_
    refine Z_if_ge hC (dk d_X4_fewest 10 rfl) 19 26 rfl (by decide) (fun c => ?_) (fun c => ?_)
    · have h := it_t h c
      refine Z_iconst (v := 1) hC (dk d_X4_fewest 16 rfl) 27 rfl (by decide) ?_
      refine Z_aload_n hC (dk d_X4_fewest 17 rfl) 28 rfl rfl rfl ?_
      refine G_X4_26 hC m_0 (dk d_X4_fewest 18 rfl) 31 rfl ?_
      refine G_X4_132 hC (m_3 (by decide)) (dk d_X4_fewest 19 rfl) 34 rfl ?_
      refine Z_ishl hC (dk d_X4_fewest 20 rfl) 35 rfl ?_
      refine Z_iconst (v := 1) hC (dk d_X4_fewest 21 rfl) 36 rfl (by decide) ?_
      refine Z_isub hC (dk d_X4_fewest 22 rfl) 37 rfl ?_
      refine Z_istore_n hC (dk d_X4_fewest 23 rfl) 38 rfl rfl (Nat.le_of_ble_eq_true rfl) [some (vr 0 0), some (vi a1), some (vi q2.1), some (vi (((1 : Int32) <<< ((gI q2.2 4 0) &&& (31 : Int32))) - (1 : Int32))), none] rfl ?_
      refine Z_iconst (v := 0) hC (dk d_X4_fewest 24 rfl) 39 rfl (by decide) ?_
      refine Z_istore hC (dk d_X4_fewest 25 rfl) 41 rfl (Nat.le_of_ble_eq_true rfl) [some (vr 0 0), some (vi a1), some (vi q2.1), some (vi (((1 : Int32) <<< ((gI q2.2 4 0) &&& (31 : Int32))) - (1 : Int32))), some (vi (0 : Int32))] rfl ?_
      obtain ⟨q7, hq7, h⟩ := bd_some h
      refine Z_wk [true, false, true, true, true] [some (vr 0 0), none, some (vi q2.1), some (vi (((1 : Int32) <<< ((gI q2.2 4 0) &&& (31 : Int32))) - (1 : Int32))), some (vi (0 : Int32))] rfl ?_
      refine z_X4_fewest_L1 hC hr N q2.1 N (((1 : Int32) <<< ((gI q2.2 4 0) &&& (31 : Int32))) - (1 : Int32)) (0 : Int32) q2.2 q7 hq7 ?_
      refine Z_aload_n hC (dk d_X4_fewest 51 rfl) 95 rfl rfl rfl ?_
      refine Z_iload_n hC (dk d_X4_fewest 52 rfl) 96 rfl rfl rfl ?_
      refine P_X4_90 hC m_0 (dk d_X4_fewest 53 rfl) 99 rfl ?_
      refine Z_iload_n hC (dk d_X4_fewest 54 rfl) 100 rfl rfl rfl ?_
      obtain ⟨q8, hq8, h⟩ := bd_some h
      refine K_X4_160 [vi q7.1] hC (s_J6_bitCount_0f7a4 (xG x) (xl x) N q7.1 (sI q7.2 412 0 q7.1) q8 hq8) (Nat.le_of_ble_eq_true rfl) rfl rfl rfl (Nat.le_of_ble_eq_true rfl) (dk d_X4_fewest 55 rfl) 103 rfl ?_
      obtain rfl := Option.some.inj h
      exact Z_ireturn (st := []) hC hr hQ (dk d_X4_fewest 56 rfl)
    · have h := it_f h c
      refine Z_aload_n hC (dk d_X4_fewest 11 rfl) 20 rfl rfl rfl ?_
      refine Z_iload_n hC (dk d_X4_fewest 12 rfl) 21 rfl rfl rfl ?_
      refine Z_ineg hC (dk d_X4_fewest 13 rfl) 22 rfl ?_
      obtain ⟨q9, hq9, h⟩ := bd_some h
      refine K_X4_74 [vi (-q2.1)] hC m_0 (s_X4_refuse (xG x) (xl x) N (-q2.1) q2.2 q9 hq9) (Nat.le_of_ble_eq_true rfl) rfl rfl rfl (Nat.le_of_ble_eq_true rfl) (dk d_X4_fewest 14 rfl) 25 rfl ?_
      obtain rfl := Option.some.inj h
      exact Z_ireturn (st := []) hC hr hQ (dk d_X4_fewest 15 rfl)
  · have h := it_t h c
    refine Z_iconst (v := -1) hC (dk d_X4_fewest 3 rfl) 8 rfl (by decide) ?_
    obtain rfl := Option.some.inj h
    exact Z_ireturn (st := []) hC hr hQ (dk d_X4_fewest 4 rfl)
def t_X4_drop : List (Nat × Instr × Nat) := [(0, .aload_n 0, 1), (1, .getfield 30, 3), (4, .aload_n 0, 1), (5, .getfield 26, 3), (8, .invokevirtual 253, 3), (11, .bipush (-9), 2), (13, .istore_n 1, 1), (14, .bipush 15, 2), (16, .istore_n 2, 1), (17, .iload_n 2, 1), (18, .ifCond .lt 88, 3), (21, .iload_n 2, 1), (22, .aload_n 0, 1), (23, .getfield 26, 3), (26, .getfield 168, 3), (29, .iconst (-1), 1), (30, .ixor, 1), (31, .iand, 1), (32, .ifCond .ne 7, 3), (35, .iconst 1, 1), (36, .goto 4, 3), (39, .iconst 0, 1), (40, .istore_n 3, 1), (41, .iload_n 1, 1), (42, .bipush (-9), 2), (44, .if_icmp .eq 14, 3), (47, .iload_n 2, 1), (48, .invokestatic 160, 3), (51, .iload_n 1, 1), (52, .invokestatic 160, 3), (55, .if_icmp .le 7, 3), (58, .iconst 1, 1), (59, .goto 4, 3), (62, .iconst 0, 1), (63, .istore 4, 2), (65, .iload_n 3, 1), (66, .ifCond .eq 34, 3), (69, .iload 4, 2), (71, .ifCond .eq 29, 3), (74, .aload_n 0, 1), (75, .getfield 30, 3), (78, .iload_n 2, 1), (79, .putfield 168, 3), (82, .aload_n 0, 1), (83, .getfield 40, 3), (86, .aload_n 0, 1), (87, .getfield 30, 3), (90, .iconst 1, 1), (91, .iconst 0, 1), (92, .invokevirtual 257, 3), (95, .ifCond .le 5, 3), (98, .iload_n 2, 1), (99, .istore_n 1, 1), (100, .iinc 2 (-1), 3), (103, .goto (-86), 3), (106, .iload_n 1, 1), (107, .bipush (-9), 2), (109, .if_icmp .ne 6, 3), (112, .bipush (-9), 2), (114, .ireturn, 1), (115, .aload_n 0, 1), (116, .iload_n 1, 1), (117, .putfield 90, 3), (120, .aload_n 0, 1), (121, .getfield 26, 3), (124, .getfield 168, 3), (127, .invokestatic 160, 3), (130, .iload_n 1, 1), (131, .invokestatic 160, 3), (134, .isub, 1), (135, .ireturn, 1)]
set_option maxRecDepth 20000 in
theorem d_X4_drop : ∀ q ∈ t_X4_drop, decode cX4_drop q.1 = .ok q.2 := by decide +kernel
noncomputable def X4_drop_J63 (N : Nat) (go : Int32 → Int32 → Wd → Option (Int32 × Wd)) (x1 : Int32) (x2 : Int32) (x3 : Int32) (s0 : Int32) (w : Wd) : Option (Int32 × Wd) :=
  if x3 = 0 then
    go x1 (x2 + (-1 : Int32)) w
  else
    if s0 = 0 then
      go x1 (x2 + (-1 : Int32)) w
    else
      (f_X2_list N 1 (1 : Int32) (0 : Int32) (sI w 6 1 x2)).bind (fun q2 =>
        if q2.1 ≤ 0 then
          go x1 (x2 + (-1 : Int32)) q2.2
        else
          go x2 (x2 + (-1 : Int32)) q2.2)
set_option maxRecDepth 20000 in
set_option maxHeartbeats 4000000 in
theorem z_X4_drop_J63 {x : CX} (hC : Cx x RX4 cX4_drop 5 13) (hr : (xM x).sig.returnType = (some .int)) (N : Nat) (x1 : Int32) (x2 : Int32) (x3 : Int32) (s0 : Int32) {go : Int32 → Int32 → Wd → Option (Int32 × Wd)} (hgo : ∀ (x1 : Int32) (x2 : Int32) (w : Wd) (q : (Int32 × Wd)), go x1 x2 w = some q → Z x 106 [some (vr 0 0), some (vi q.1), none, none, none] [] q.2 → Z x 17 [some (vr 0 0), some (vi x1), some (vi x2), none, none] [] w) (w : Wd) (q : (Int32 × Wd)) (h : X4_drop_J63 N go x1 x2 x3 s0 w = some q) (ke : Z x 106 [some (vr 0 0), some (vi q.1), none, none, none] [] q.2) : Z x 63 [some (vr 0 0), some (vi x1), some (vi x2), some (vi x3), none] [vi s0] w := by
  unfold X4_drop_J63 at h
  refine Z_istore hC (dk d_X4_drop 34 rfl) 65 rfl (Nat.le_of_ble_eq_true rfl) [some (vr 0 0), some (vi x1), some (vi x2), some (vi x3), some (vi s0)] rfl ?_
  refine Z_iload_n hC (dk d_X4_drop 35 rfl) 66 rfl rfl rfl ?_
  refine Z_if_eq hC (dk d_X4_drop 36 rfl) 69 100 rfl (by decide) (fun c => ?_) (fun c => ?_)
  · have h := it_t h c
    refine Z_iinc hC (dk d_X4_drop 53 rfl) 103 rfl rfl rfl [some (vr 0 0), some (vi x1), some (vi (x2 + (-1 : Int32))), some (vi x3), some (vi s0)] rfl ?_
    refine Z_goto hC (dk d_X4_drop 54 rfl) 17 (by decide) ?_
    refine Z_wk [true, true, true, false, false] [some (vr 0 0), some (vi x1), some (vi (x2 + (-1 : Int32))), none, none] rfl ?_
    exact hgo x1 (x2 + (-1 : Int32)) w _ h ke
  · have h := it_f h c
    refine Z_iload hC (dk d_X4_drop 37 rfl) 71 rfl rfl ?_
    refine Z_if_eq hC (dk d_X4_drop 38 rfl) 74 100 rfl (by decide) (fun c => ?_) (fun c => ?_)
    · have h := it_t h c
      refine Z_iinc hC (dk d_X4_drop 53 rfl) 103 rfl rfl rfl [some (vr 0 0), some (vi x1), some (vi (x2 + (-1 : Int32))), some (vi x3), some (vi s0)] rfl ?_
      refine Z_goto hC (dk d_X4_drop 54 rfl) 17 (by decide) ?_
      refine Z_wk [true, true, true, false, false] [some (vr 0 0), some (vi x1), some (vi (x2 + (-1 : Int32))), none, none] rfl ?_
      exact hgo x1 (x2 + (-1 : Int32)) w _ h ke
    · have h := it_f h c
      refine Z_aload_n hC (dk d_X4_drop 39 rfl) 75 rfl rfl rfl ?_
      refine G_X4_30 hC m_0 (dk d_X4_drop 40 rfl) 78 rfl ?_
      refine Z_iload_n hC (dk d_X4_drop 41 rfl) 79 rfl rfl rfl ?_
      refine P_X4_168 hC (m_3 (by decide)) (dk d_X4_drop 42 rfl) 82 rfl ?_
      refine Z_aload_n hC (dk d_X4_drop 43 rfl) 83 rfl rfl rfl ?_
      refine G_X4_40 hC m_0 (dk d_X4_drop 44 rfl) 86 rfl ?_
      refine Z_aload_n hC (dk d_X4_drop 45 rfl) 87 rfl rfl rfl ?_
      refine G_X4_30 hC m_0 (dk d_X4_drop 46 rfl) 90 rfl ?_
      refine Z_iconst (v := 1) hC (dk d_X4_drop 47 rfl) 91 rfl (by decide) ?_
      refine Z_iconst (v := 0) hC (dk d_X4_drop 48 rfl) 92 rfl (by decide) ?_
      obtain ⟨q2, hq2, h⟩ := bd_some h
      refine K_X4_257 [vr 3 1, vi (1 : Int32), vi (0 : Int32)] hC (m_4 (by decide)) (s_X2_list (xG x) (xl x) N 1 (by decide) (1 : Int32) (0 : Int32) (sI w 6 1 x2) q2 hq2) (Nat.le_of_ble_eq_true rfl) rfl rfl rfl (Nat.le_of_ble_eq_true rfl) (dk d_X4_drop 49 rfl) 95 rfl ?_
      refine Z_if_le hC (dk d_X4_drop 50 rfl) 98 100 rfl (by decide) (fun c => ?_) (fun c => ?_)
      · have h := it_t h c
        refine Z_iinc hC (dk d_X4_drop 53 rfl) 103 rfl rfl rfl [some (vr 0 0), some (vi x1), some (vi (x2 + (-1 : Int32))), some (vi x3), some (vi s0)] rfl ?_
        refine Z_goto hC (dk d_X4_drop 54 rfl) 17 (by decide) ?_
        refine Z_wk [true, true, true, false, false] [some (vr 0 0), some (vi x1), some (vi (x2 + (-1 : Int32))), none, none] rfl ?_
        exact hgo x1 (x2 + (-1 : Int32)) q2.2 _ h ke
      · have h := it_f h c
        refine Z_iload_n hC (dk d_X4_drop 51 rfl) 99 rfl rfl rfl ?_
        refine Z_istore_n hC (dk d_X4_drop 52 rfl) 100 rfl rfl (Nat.le_of_ble_eq_true rfl) [some (vr 0 0), some (vi x2), some (vi x2), some (vi x3), some (vi s0)] rfl ?_
        refine Z_iinc hC (dk d_X4_drop 53 rfl) 103 rfl rfl rfl [some (vr 0 0), some (vi x2), some (vi (x2 + (-1 : Int32))), some (vi x3), some (vi s0)] rfl ?_
        refine Z_goto hC (dk d_X4_drop 54 rfl) 17 (by decide) ?_
        refine Z_wk [true, true, true, false, false] [some (vr 0 0), some (vi x2), some (vi (x2 + (-1 : Int32))), none, none] rfl ?_
        exact hgo x2 (x2 + (-1 : Int32)) q2.2 _ h ke
noncomputable def X4_drop_J58 (N : Nat) (go : Int32 → Int32 → Wd → Option (Int32 × Wd)) (x1 : Int32) (x2 : Int32) (x3 : Int32) (w : Wd) : Option (Int32 × Wd) :=
  X4_drop_J63 N go x1 x2 x3 (1 : Int32) w
set_option maxRecDepth 20000 in
set_option maxHeartbeats 4000000 in
theorem z_X4_drop_J58 {x : CX} (hC : Cx x RX4 cX4_drop 5 13) (hr : (xM x).sig.returnType = (some .int)) (N : Nat) (x1 : Int32) (x2 : Int32) (x3 : Int32) {go : Int32 → Int32 → Wd → Option (Int32 × Wd)} (hgo : ∀ (x1 : Int32) (x2 : Int32) (w : Wd) (q : (Int32 × Wd)), go x1 x2 w = some q → Z x 106 [some (vr 0 0), some (vi q.1), none, none, none] [] q.2 → Z x 17 [some (vr 0 0), some (vi x1), some (vi x2), none, none] [] w) (w : Wd) (q : (Int32 × Wd)) (h : X4_drop_J58 N go x1 x2 x3 w = some q) (ke : Z x 106 [some (vr 0 0), some (vi q.1), none, none, none] [] q.2) : Z x 58 [some (vr 0 0), some (vi x1), some (vi x2), some (vi x3), none] [] w := by
  unfold X4_drop_J58 at h
  refine Z_iconst (v := 1) hC (dk d_X4_drop 31 rfl) 59 rfl (by decide) ?_
  refine Z_goto hC (dk d_X4_drop 32 rfl) 63 (by decide) ?_
  refine Z_wk [true, true, true, true, false] [some (vr 0 0), some (vi x1), some (vi x2), some (vi x3), none] rfl ?_
  exact z_X4_drop_J63 hC hr N x1 x2 x3 (1 : Int32) hgo w _ h ke
noncomputable def X4_drop_J40 (N : Nat) (go : Int32 → Int32 → Wd → Option (Int32 × Wd)) (x1 : Int32) (x2 : Int32) (s0 : Int32) (w : Wd) : Option (Int32 × Wd) :=
  if x1 = (-9 : Int32) then
    X4_drop_J58 N go x1 x2 s0 w
  else
    (f_J6_bitCount_0f7a4 N x2 w).bind (fun q3 =>
      (f_J6_bitCount_0f7a4 N x1 q3.2).bind (fun q4 =>
        if q3.1 ≤ q4.1 then
          X4_drop_J63 N go x1 x2 s0 (0 : Int32) q4.2
        else
          X4_drop_J58 N go x1 x2 s0 q4.2))
set_option maxRecDepth 20000 in
set_option maxHeartbeats 4000000 in
theorem z_X4_drop_J40 {x : CX} (hC : Cx x RX4 cX4_drop 5 13) (hr : (xM x).sig.returnType = (some .int)) (N : Nat) (x1 : Int32) (x2 : Int32) (s0 : Int32) {go : Int32 → Int32 → Wd → Option (Int32 × Wd)} (hgo : ∀ (x1 : Int32) (x2 : Int32) (w : Wd) (q : (Int32 × Wd)), go x1 x2 w = some q → Z x 106 [some (vr 0 0), some (vi q.1), none, none, none] [] q.2 → Z x 17 [some (vr 0 0), some (vi x1), some (vi x2), none, none] [] w) (w : Wd) (q : (Int32 × Wd)) (h : X4_drop_J40 N go x1 x2 s0 w = some q) (ke : Z x 106 [some (vr 0 0), some (vi q.1), none, none, none] [] q.2) : Z x 40 [some (vr 0 0), some (vi x1), some (vi x2), none, none] [vi s0] w := by
  unfold X4_drop_J40 at h
  refine Z_istore_n hC (dk d_X4_drop 22 rfl) 41 rfl rfl (Nat.le_of_ble_eq_true rfl) [some (vr 0 0), some (vi x1), some (vi x2), some (vi s0), none] rfl ?_
  refine Z_iload_n hC (dk d_X4_drop 23 rfl) 42 rfl rfl rfl ?_
  refine Z_bipush (v := -9) hC (dk d_X4_drop 24 rfl) 44 rfl (by decide) ?_
  refine Z_icmp_eq hC (dk d_X4_drop 25 rfl) 47 58 rfl (by decide) (fun c => ?_) (fun c => ?_)
  · have h := it_t h c
    refine Z_wk [true, true, true, true, false] [some (vr 0 0), some (vi x1), some (vi x2), some (vi s0), none] rfl ?_
    exact z_X4_drop_J58 hC hr N x1 x2 s0 hgo w _ h ke
  · have h := it_f h c
    refine Z_iload_n hC (dk d_X4_drop 26 rfl) 48 rfl rfl rfl ?_
    obtain ⟨q3, hq3, h⟩ := bd_some h
    refine K_X4_160 [vi x2] hC (s_J6_bitCount_0f7a4 (xG x) (xl x) N x2 w q3 hq3) (Nat.le_of_ble_eq_true rfl) rfl rfl rfl (Nat.le_of_ble_eq_true rfl) (dk d_X4_drop 27 rfl) 51 rfl ?_
    refine Z_iload_n hC (dk d_X4_drop 28 rfl) 52 rfl rfl rfl ?_
    obtain ⟨q4, hq4, h⟩ := bd_some h
    refine K_X4_160 [vi x1] hC (s_J6_bitCount_0f7a4 (xG x) (xl x) N x1 q3.2 q4 hq4) (Nat.le_of_ble_eq_true rfl) rfl rfl rfl (Nat.le_of_ble_eq_true rfl) (dk d_X4_drop 29 rfl) 55 rfl ?_
    refine Z_icmp_le hC (dk d_X4_drop 30 rfl) 58 62 rfl (by decide) (fun c => ?_) (fun c => ?_)
    · have h := it_t h c
      refine Z_iconst (v := 0) hC (dk d_X4_drop 33 rfl) 63 rfl (by decide) ?_
      refine Z_wk [true, true, true, true, false] [some (vr 0 0), some (vi x1), some (vi x2), some (vi s0), none] rfl ?_
      exact z_X4_drop_J63 hC hr N x1 x2 s0 (0 : Int32) hgo q4.2 _ h ke
    · have h := it_f h c
      refine Z_wk [true, true, true, true, false] [some (vr 0 0), some (vi x1), some (vi x2), some (vi s0), none] rfl ?_
      exact z_X4_drop_J58 hC hr N x1 x2 s0 hgo q4.2 _ h ke
noncomputable def X4_drop_L1 (N : Nat) : Nat → Int32 → Int32 → Wd → Option (Int32 × Wd)
  | 0, _, _, _ => none
  | n + 1, x1, x2, w =>
  if x2 < 0 then
    some (x1, w)
  else
    if (x2 &&& ((gI w 6 0) ^^^ (-1 : Int32))) = 0 then
      X4_drop_J40 N (X4_drop_L1 N n) x1 x2 (1 : Int32) w
    else
      X4_drop_J40 N (X4_drop_L1 N n) x1 x2 (0 : Int32) w
set_option maxRecDepth 20000 in
set_option maxHeartbeats 4000000 in
theorem z_X4_drop_L1 {x : CX} (hC : Cx x RX4 cX4_drop 5 13) (hr : (xM x).sig.returnType = (some .int)) (N : Nat) : ∀ (n : Nat) (x1 : Int32) (x2 : Int32) (w : Wd) (q : (Int32 × Wd)), X4_drop_L1 N n x1 x2 w = some q → Z x 106 [some (vr 0 0), some (vi q.1), none, none, none] [] q.2 → Z x 17 [some (vr 0 0), some (vi x1), some (vi x2), none, none] [] w := by
  intro n
  induction n with
  | zero =>
    intro x1 x2 w q h
    cases h
  | succ n ih =>
    intro x1 x2 w q h ke
    rw [X4_drop_L1] at h
    refine Z_iload_n hC (dk d_X4_drop 9 rfl) 18 rfl rfl rfl ?_
    refine Z_if_lt hC (dk d_X4_drop 10 rfl) 21 106 rfl (by decide) (fun c => ?_) (fun c => ?_)
    · have h := it_t h c
      obtain rfl := Option.some.inj h
      refine Z_wk [true, true, false, false, false] [some (vr 0 0), some (vi x1), none, none, none] rfl ?_
      exact ke
    · have h := it_f h c
      refine Z_iload_n hC (dk d_X4_drop 11 rfl) 22 rfl rfl rfl ?_
      refine Z_aload_n hC (dk d_X4_drop 12 rfl) 23 rfl rfl rfl ?_
      refine G_X4_26 hC m_0 (dk d_X4_drop 13 rfl) 26 rfl ?_
      refine G_X4_168 hC (m_3 (by decide)) (dk d_X4_drop 14 rfl) 29 rfl ?_
      refine Z_iconst (v := -1) hC (dk d_X4_drop 15 rfl) 30 rfl (by decide) ?_
      refine Z_ixor hC (dk d_X4_drop 16 rfl) 31 rfl ?_
      refine Z_iand hC (dk d_X4_drop 17 rfl) 32 rfl ?_
      refine Z_if_ne hC (dk d_X4_drop 18 rfl) 35 39 rfl (by decide) (fun c => ?_) (fun c => ?_)
      · have h := it_f h c
        refine Z_iconst (v := 0) hC (dk d_X4_drop 21 rfl) 40 rfl (by decide) ?_
        refine Z_wk [true, true, true, false, false] [some (vr 0 0), some (vi x1), some (vi x2), none, none] rfl ?_
        exact z_X4_drop_J40 hC hr N x1 x2 (0 : Int32) ih w _ h ke
      · have h := it_t h c
        refine Z_iconst (v := 1) hC (dk d_X4_drop 19 rfl) 36 rfl (by decide) ?_
        refine Z_goto hC (dk d_X4_drop 20 rfl) 40 (by decide) ?_
        refine Z_wk [true, true, true, false, false] [some (vr 0 0), some (vi x1), some (vi x2), none, none] rfl ?_
        exact z_X4_drop_J40 hC hr N x1 x2 (1 : Int32) ih w _ h ke
noncomputable def f_X4_drop (N : Nat) (w : Wd) : Option (Int32 × Wd) :=
  (f_X0_become N 1 0 w).bind (fun q1 =>
    (X4_drop_L1 N N (-9 : Int32) (15 : Int32) q1).bind (fun q5 =>
      if q5.1 = (-9 : Int32) then
        some ((-9 : Int32), q5.2)
      else
        (f_J6_bitCount_0f7a4 N (gI (sI q5.2 412 0 q5.1) 6 0) (sI q5.2 412 0 q5.1)).bind (fun q6 =>
          (f_J6_bitCount_0f7a4 N q5.1 q6.2).bind (fun q7 =>
            some (q6.1 - q7.1, q7.2)))))
set_option maxRecDepth 20000 in
set_option maxHeartbeats 4000000 in
theorem s_X4_drop (G : GT) (l : Launch) (N : Nat) (w : Wd) (q : Int32 × Wd) (h : f_X4_drop N w = some q) : Sp G l yX4_drop cw_X4_drop 13 [vr 0 0] w (some (vi q.1)) q.2 := by
  refine Sp_of (own := RX4) [some (vr 0 0), none, none, none, none] (by decide) rfl rfl (Nat.le_of_ble_eq_true rfl) ?_
  intro x hG hl hC hr hQ _ _
  subst hG
  subst hl
  unfold f_X4_drop at h
  refine Z_aload_n hC (dk d_X4_drop 0 rfl) 1 rfl rfl rfl ?_
  refine G_X4_30 hC m_0 (dk d_X4_drop 1 rfl) 4 rfl ?_
  refine Z_aload_n hC (dk d_X4_drop 2 rfl) 5 rfl rfl rfl ?_
  refine G_X4_26 hC m_0 (dk d_X4_drop 3 rfl) 8 rfl ?_
  obtain ⟨q1, hq1, h⟩ := bd_some h
  refine K_X4_253 [vr 3 0] hC (m_3 (by decide)) (s_X0_become (xG x) (xl x) N 1 0 (by decide) (by decide) w q1 hq1) (Nat.le_of_ble_eq_true rfl) rfl rfl rfl (Nat.le_of_ble_eq_true rfl) (dk d_X4_drop 4 rfl) 11 rfl ?_
  refine Z_bipush (v := -9) hC (dk d_X4_drop 5 rfl) 13 rfl (by decide) ?_
  refine Z_istore_n hC (dk d_X4_drop 6 rfl) 14 rfl rfl (Nat.le_of_ble_eq_true rfl) [some (vr 0 0), some (vi (-9 : Int32)), none, none, none] rfl ?_
  refine Z_bipush (v := 15) hC (dk d_X4_drop 7 rfl) 16 rfl (by decide) ?_
  refine Z_istore_n hC (dk d_X4_drop 8 rfl) 17 rfl rfl (Nat.le_of_ble_eq_true rfl) [some (vr 0 0), some (vi (-9 : Int32)), some (vi (15 : Int32)), none, none] rfl ?_
  obtain ⟨q5, hq5, h⟩ := bd_some h
  refine Z_wk [true, true, true, false, false] [some (vr 0 0), some (vi (-9 : Int32)), some (vi (15 : Int32)), none, none] rfl ?_
  refine z_X4_drop_L1 hC hr N N (-9 : Int32) (15 : Int32) q1 q5 hq5 ?_
  refine Z_iload_n hC (dk d_X4_drop 55 rfl) 107 rfl rfl rfl ?_
  refine Z_bipush (v := -9) hC (dk d_X4_drop 56 rfl) 109 rfl (by decide) ?_
  refine Z_icmp_ne hC (dk d_X4_drop 57 rfl) 112 115 rfl (by decide) (fun c => ?_) (fun c => ?_)
  · have h := it_f h c
    refine Z_aload_n hC (dk d_X4_drop 60 rfl) 116 rfl rfl rfl ?_
    refine Z_iload_n hC (dk d_X4_drop 61 rfl) 117 rfl rfl rfl ?_
    refine P_X4_90 hC m_0 (dk d_X4_drop 62 rfl) 120 rfl ?_
    refine Z_aload_n hC (dk d_X4_drop 63 rfl) 121 rfl rfl rfl ?_
    refine G_X4_26 hC m_0 (dk d_X4_drop 64 rfl) 124 rfl ?_
    refine G_X4_168 hC (m_3 (by decide)) (dk d_X4_drop 65 rfl) 127 rfl ?_
    obtain ⟨q6, hq6, h⟩ := bd_some h
    refine K_X4_160 [vi (gI (sI q5.2 412 0 q5.1) 6 0)] hC (s_J6_bitCount_0f7a4 (xG x) (xl x) N (gI (sI q5.2 412 0 q5.1) 6 0) (sI q5.2 412 0 q5.1) q6 hq6) (Nat.le_of_ble_eq_true rfl) rfl rfl rfl (Nat.le_of_ble_eq_true rfl) (dk d_X4_drop 66 rfl) 130 rfl ?_
    refine Z_iload_n hC (dk d_X4_drop 67 rfl) 131 rfl rfl rfl ?_
    obtain ⟨q7, hq7, h⟩ := bd_some h
    refine K_X4_160 [vi q5.1] hC (s_J6_bitCount_0f7a4 (xG x) (xl x) N q5.1 q6.2 q7 hq7) (Nat.le_of_ble_eq_true rfl) rfl rfl rfl (Nat.le_of_ble_eq_true rfl) (dk d_X4_drop 68 rfl) 134 rfl ?_
    refine Z_isub hC (dk d_X4_drop 69 rfl) 135 rfl ?_
    obtain rfl := Option.some.inj h
    exact Z_ireturn (st := []) hC hr hQ (dk d_X4_drop 70 rfl)
  · have h := it_t h c
    refine Z_bipush (v := -9) hC (dk d_X4_drop 58 rfl) 114 rfl (by decide) ?_
    obtain rfl := Option.some.inj h
    exact Z_ireturn (st := []) hC hr hQ (dk d_X4_drop 59 rfl)
def t_X4_table : List (Nat × Instr × Nat) := [(0, .aload_n 0, 1), (1, .iload_n 1, 1), (2, .invokevirtual 135, 3), (5, .ifCond .ne 5, 3), (8, .iconst (-1), 1), (9, .ireturn, 1), (10, .aload_n 0, 1), (11, .getfield 30, 3), (14, .aload_n 0, 1), (15, .getfield 26, 3), (18, .invokevirtual 253, 3), (21, .iconst 0, 1), (22, .istore_n 2, 1), (23, .iconst (-1), 1), (24, .istore_n 3, 1), (25, .iconst 0, 1), (26, .istore 4, 2), (28, .iload 4, 2), (30, .bipush 9, 2), (32, .if_icmp .gt 49, 3), (35, .aload_n 0, 1), (36, .getfield 30, 3), (39, .getfield 171, 3), (42, .iload_n 1, 1), (43, .iload 4, 2), (45, .iastore, 1), (46, .aload_n 0, 1), (47, .getfield 40, 3), (50, .aload_n 0, 1), (51, .getfield 30, 3), (54, .sipush 265, 3), (57, .iconst 0, 1), (58, .invokevirtual 257, 3), (61, .istore 5, 2), (63, .iload 5, 2), (65, .iload_n 3, 1), (66, .if_icmp .le 9, 3), (69, .iload 5, 2), (71, .istore_n 3, 1), (72, .iload 4, 2), (74, .istore_n 2, 1), (75, .iinc 4 1, 3), (78, .goto (-50), 3), (81, .aload_n 0, 1), (82, .iload_n 3, 1), (83, .putfield 90, 3), (86, .iload_n 2, 1), (87, .ireturn, 1)]
set_option maxRecDepth 20000 in
theorem d_X4_table : ∀ q ∈ t_X4_table, decode cX4_table q.1 = .ok q.2 := by decide +kernel
noncomputable def X4_table_L1 (N : Nat) (x1 : Int32) : Nat → Int32 → Int32 → Int32 → Wd → Option (Int32 × Int32 × Wd)
  | 0, _, _, _, _ => none
  | n + 1, x2, x3, x4, w =>
  if (9 : Int32) < x4 then
    some (x2, x3, w)
  else
    gd (vp_in x1 6) (
    (f_X2_list N 1 (265 : Int32) (0 : Int32) (sA w 17 1 (upd (gA w 17 1) x1.toNatClampNeg x4))).bind (fun q4 =>
      if q4.1 ≤ x3 then
        X4_table_L1 N x1 n x2 x3 (x4 + (1 : Int32)) q4.2
      else
        X4_table_L1 N x1 n x4 q4.1 (x4 + (1 : Int32)) q4.2))
set_option maxRecDepth 20000 in
set_option maxHeartbeats 4000000 in
theorem z_X4_table_L1 {x : CX} (hC : Cx x RX4 cX4_table 6 13) (hr : (xM x).sig.returnType = (some .int)) (N : Nat) (x1 : Int32) : ∀ (n : Nat) (x2 : Int32) (x3 : Int32) (x4 : Int32) (w : Wd) (q : (Int32 × Int32 × Wd)), X4_table_L1 N x1 n x2 x3 x4 w = some q → Z x 81 [some (vr 0 0), none, some (vi q.1), some (vi q.2.1), none, none] [] q.2.2 → Z x 28 [some (vr 0 0), some (vi x1), some (vi x2), some (vi x3), some (vi x4), none] [] w := by
  intro n
  induction n with
  | zero =>
    intro x2 x3 x4 w q h
    cases h
  | succ n ih =>
    intro x2 x3 x4 w q h ke
    rw [X4_table_L1] at h
    refine Z_iload hC (dk d_X4_table 17 rfl) 30 rfl rfl ?_
    refine Z_bipush (v := 9) hC (dk d_X4_table 18 rfl) 32 rfl (by decide) ?_
    refine Z_icmp_gt hC (dk d_X4_table 19 rfl) 35 81 rfl (by decide) (fun c => ?_) (fun c => ?_)
    · have h := it_t h c
      obtain rfl := Option.some.inj h
      refine Z_wk [true, false, true, true, false, false] [some (vr 0 0), none, some (vi x2), some (vi x3), none, none] rfl ?_
      exact ke
    · have h := it_f h c
      refine Z_aload_n hC (dk d_X4_table 20 rfl) 36 rfl rfl rfl ?_
      refine G_X4_30 hC m_0 (dk d_X4_table 21 rfl) 39 rfl ?_
      refine G_X4_171 hC (m_3 (by decide)) (dk d_X4_table 22 rfl) 42 rfl ?_
      refine Z_iload_n hC (dk d_X4_table 23 rfl) 43 rfl rfl rfl ?_
      refine Z_iload hC (dk d_X4_table 24 rfl) 45 rfl rfl ?_
      obtain ⟨g3, h⟩ := gd_some h
      refine Z_iastore hC (m_17 (by decide)) (by decide) rfl g3 (dk d_X4_table 25 rfl) 46 rfl ?_
      refine Z_aload_n hC (dk d_X4_table 26 rfl) 47 rfl rfl rfl ?_
      refine G_X4_40 hC m_0 (dk d_X4_table 27 rfl) 50 rfl ?_
      refine Z_aload_n hC (dk d_X4_table 28 rfl) 51 rfl rfl rfl ?_
      refine G_X4_30 hC m_0 (dk d_X4_table 29 rfl) 54 rfl ?_
      refine Z_sipush (v := 265) hC (dk d_X4_table 30 rfl) 57 rfl (by decide) ?_
      refine Z_iconst (v := 0) hC (dk d_X4_table 31 rfl) 58 rfl (by decide) ?_
      obtain ⟨q4, hq4, h⟩ := bd_some h
      refine K_X4_257 [vr 3 1, vi (265 : Int32), vi (0 : Int32)] hC (m_4 (by decide)) (s_X2_list (xG x) (xl x) N 1 (by decide) (265 : Int32) (0 : Int32) (sA w 17 1 (upd (gA w 17 1) x1.toNatClampNeg x4)) q4 hq4) (Nat.le_of_ble_eq_true rfl) rfl rfl rfl (Nat.le_of_ble_eq_true rfl) (dk d_X4_table 32 rfl) 61 rfl ?_
      refine Z_istore hC (dk d_X4_table 33 rfl) 63 rfl (Nat.le_of_ble_eq_true rfl) [some (vr 0 0), some (vi x1), some (vi x2), some (vi x3), some (vi x4), some (vi q4.1)] rfl ?_
      refine Z_iload hC (dk d_X4_table 34 rfl) 65 rfl rfl ?_
      refine Z_iload_n hC (dk d_X4_table 35 rfl) 66 rfl rfl rfl ?_
      refine Z_icmp_le hC (dk d_X4_table 36 rfl) 69 75 rfl (by decide) (fun c => ?_) (fun c => ?_)
      · have h := it_t h c
        refine Z_iinc hC (dk d_X4_table 41 rfl) 78 rfl rfl rfl [some (vr 0 0), some (vi x1), some (vi x2), some (vi x3), some (vi (x4 + (1 : Int32))), some (vi q4.1)] rfl ?_
        refine Z_goto hC (dk d_X4_table 42 rfl) 28 (by decide) ?_
        refine Z_wk [true, true, true, true, true, false] [some (vr 0 0), some (vi x1), some (vi x2), some (vi x3), some (vi (x4 + (1 : Int32))), none] rfl ?_
        exact ih x2 x3 (x4 + (1 : Int32)) q4.2 _ h ke
      · have h := it_f h c
        refine Z_iload hC (dk d_X4_table 37 rfl) 71 rfl rfl ?_
        refine Z_istore_n hC (dk d_X4_table 38 rfl) 72 rfl rfl (Nat.le_of_ble_eq_true rfl) [some (vr 0 0), some (vi x1), some (vi x2), some (vi q4.1), some (vi x4), some (vi q4.1)] rfl ?_
        refine Z_iload hC (dk d_X4_table 39 rfl) 74 rfl rfl ?_
        refine Z_istore_n hC (dk d_X4_table 40 rfl) 75 rfl rfl (Nat.le_of_ble_eq_true rfl) [some (vr 0 0), some (vi x1), some (vi x4), some (vi q4.1), some (vi x4), some (vi q4.1)] rfl ?_
        refine Z_iinc hC (dk d_X4_table 41 rfl) 78 rfl rfl rfl [some (vr 0 0), some (vi x1), some (vi x4), some (vi q4.1), some (vi (x4 + (1 : Int32))), some (vi q4.1)] rfl ?_
        refine Z_goto hC (dk d_X4_table 42 rfl) 28 (by decide) ?_
        refine Z_wk [true, true, true, true, true, false] [some (vr 0 0), some (vi x1), some (vi x4), some (vi q4.1), some (vi (x4 + (1 : Int32))), none] rfl ?_
        exact ih x4 q4.1 (x4 + (1 : Int32)) q4.2 _ h ke
noncomputable def f_X4_table (N : Nat) (a1 : Int32) (w : Wd) : Option (Int32 × Wd) :=
  (f_X4_isMate N a1 w).bind (fun q1 =>
    if q1.1 = 0 then
      some ((-1 : Int32), q1.2)
    else
      (f_X0_become N 1 0 q1.2).bind (fun q2 =>
        (X4_table_L1 N a1 N (0 : Int32) (-1 : Int32) (0 : Int32) q2).bind (fun q5 =>
          some (q5.1, sI q5.2.2 412 0 q5.2.1))))
set_option maxRecDepth 20000 in
set_option maxHeartbeats 4000000 in
theorem s_X4_table (G : GT) (l : Launch) (N : Nat) (a1 : Int32) (w : Wd) (q : Int32 × Wd) (h : f_X4_table N a1 w = some q) : Sp G l yX4_table cw_X4_table 13 [vr 0 0, vi a1] w (some (vi q.1)) q.2 := by
  refine Sp_of (own := RX4) [some (vr 0 0), some (vi a1), none, none, none, none] (by decide) rfl rfl (Nat.le_of_ble_eq_true rfl) ?_
  intro x hG hl hC hr hQ _ _
  subst hG
  subst hl
  unfold f_X4_table at h
  refine Z_aload_n hC (dk d_X4_table 0 rfl) 1 rfl rfl rfl ?_
  refine Z_iload_n hC (dk d_X4_table 1 rfl) 2 rfl rfl rfl ?_
  obtain ⟨q1, hq1, h⟩ := bd_some h
  refine K_X4_135 [vi a1] hC m_0 (s_X4_isMate (xG x) (xl x) N a1 w q1 hq1) (Nat.le_of_ble_eq_true rfl) rfl rfl rfl (Nat.le_of_ble_eq_true rfl) (dk d_X4_table 2 rfl) 5 rfl ?_
  refine Z_if_ne hC (dk d_X4_table 3 rfl) 8 10 rfl (by decide) (fun c => ?_) (fun c => ?_)
  · have h := it_f h c
    refine Z_aload_n hC (dk d_X4_table 6 rfl) 11 rfl rfl rfl ?_
    refine G_X4_30 hC m_0 (dk d_X4_table 7 rfl) 14 rfl ?_
    refine Z_aload_n hC (dk d_X4_table 8 rfl) 15 rfl rfl rfl ?_
    refine G_X4_26 hC m_0 (dk d_X4_table 9 rfl) 18 rfl ?_
    obtain ⟨q2, hq2, h⟩ := bd_some h
    refine K_X4_253 [vr 3 0] hC (m_3 (by decide)) (s_X0_become (xG x) (xl x) N 1 0 (by decide) (by decide) q1.2 q2 hq2) (Nat.le_of_ble_eq_true rfl) rfl rfl rfl (Nat.le_of_ble_eq_true rfl) (dk d_X4_table 10 rfl) 21 rfl ?_
    refine Z_iconst (v := 0) hC (dk d_X4_table 11 rfl) 22 rfl (by decide) ?_
    refine Z_istore_n hC (dk d_X4_table 12 rfl) 23 rfl rfl (Nat.le_of_ble_eq_true rfl) [some (vr 0 0), some (vi a1), some (vi (0 : Int32)), none, none, none] rfl ?_
    refine Z_iconst (v := -1) hC (dk d_X4_table 13 rfl) 24 rfl (by decide) ?_
    refine Z_istore_n hC (dk d_X4_table 14 rfl) 25 rfl rfl (Nat.le_of_ble_eq_true rfl) [some (vr 0 0), some (vi a1), some (vi (0 : Int32)), some (vi (-1 : Int32)), none, none] rfl ?_
    refine Z_iconst (v := 0) hC (dk d_X4_table 15 rfl) 26 rfl (by decide) ?_
    refine Z_istore hC (dk d_X4_table 16 rfl) 28 rfl (Nat.le_of_ble_eq_true rfl) [some (vr 0 0), some (vi a1), some (vi (0 : Int32)), some (vi (-1 : Int32)), some (vi (0 : Int32)), none] rfl ?_
    obtain ⟨q5, hq5, h⟩ := bd_some h
    refine Z_wk [true, true, true, true, true, false] [some (vr 0 0), some (vi a1), some (vi (0 : Int32)), some (vi (-1 : Int32)), some (vi (0 : Int32)), none] rfl ?_
    refine z_X4_table_L1 hC hr N a1 N (0 : Int32) (-1 : Int32) (0 : Int32) q2 q5 hq5 ?_
    refine Z_aload_n hC (dk d_X4_table 43 rfl) 82 rfl rfl rfl ?_
    refine Z_iload_n hC (dk d_X4_table 44 rfl) 83 rfl rfl rfl ?_
    refine P_X4_90 hC m_0 (dk d_X4_table 45 rfl) 86 rfl ?_
    refine Z_iload_n hC (dk d_X4_table 46 rfl) 87 rfl rfl rfl ?_
    obtain rfl := Option.some.inj h
    exact Z_ireturn (st := []) hC hr hQ (dk d_X4_table 47 rfl)
  · have h := it_t h c
    refine Z_iconst (v := -1) hC (dk d_X4_table 4 rfl) 9 rfl (by decide) ?_
    obtain rfl := Option.some.inj h
    exact Z_ireturn (st := []) hC hr hQ (dk d_X4_table 5 rfl)
def t_X4_ringCount : List (Nat × Instr × Nat) := [(0, .iconst 0, 1), (1, .istore_n 2, 1), (2, .iconst 0, 1), (3, .istore_n 3, 1), (4, .iconst 0, 1), (5, .istore 4, 2), (7, .iload 4, 2), (9, .iload_n 1, 1), (10, .if_icmp .ge 30, 3), (13, .iload_n 2, 1), (14, .iload 4, 2), (16, .ishr, 1), (17, .iconst 1, 1), (18, .iand, 1), (19, .ifCond .ne 15, 3), (22, .iload_n 2, 1), (23, .iload_n 0, 1), (24, .iload 4, 2), (26, .invokestatic 276, 3), (29, .ior, 1), (30, .istore_n 2, 1), (31, .iinc 3 1, 3), (34, .iinc 4 1, 3), (37, .goto (-30), 3), (40, .iload_n 3, 1), (41, .ireturn, 1)]
set_option maxRecDepth 20000 in
theorem d_X4_ringCount : ∀ q ∈ t_X4_ringCount, decode cX4_ringCount q.1 = .ok q.2 := by decide +kernel
noncomputable def X4_ringCount_L1 (N : Nat) (x0 : Int32) (x1 : Int32) : Nat → Int32 → Int32 → Int32 → Wd → Option (Int32 × Wd)
  | 0, _, _, _, _ => none
  | n + 1, x2, x3, x4, w =>
  if x1 ≤ x4 then
    some (x3, w)
  else
    if ((x2 >>> (x4 &&& (31 : Int32))) &&& (1 : Int32)) = 0 then
      (f_X4_ringOf N x0 x4 w).bind (fun q1 =>
        X4_ringCount_L1 N x0 x1 n (x2 ||| q1.1) (x3 + (1 : Int32)) (x4 + (1 : Int32)) q1.2)
    else
      X4_ringCount_L1 N x0 x1 n x2 x3 (x4 + (1 : Int32)) w
set_option maxRecDepth 20000 in
set_option maxHeartbeats 4000000 in
theorem z_X4_ringCount_L1 {x : CX} (hC : Cx x RX4 cX4_ringCount 5 2) (hr : (xM x).sig.returnType = (some .int)) (N : Nat) (x0 : Int32) (x1 : Int32) : ∀ (n : Nat) (x2 : Int32) (x3 : Int32) (x4 : Int32) (w : Wd) (q : (Int32 × Wd)), X4_ringCount_L1 N x0 x1 n x2 x3 x4 w = some q → Z x 40 [none, none, none, some (vi q.1), none] [] q.2 → Z x 7 [some (vi x0), some (vi x1), some (vi x2), some (vi x3), some (vi x4)] [] w := by
  intro n
  induction n with
  | zero =>
    intro x2 x3 x4 w q h
    cases h
  | succ n ih =>
    intro x2 x3 x4 w q h ke
    rw [X4_ringCount_L1] at h
    refine Z_iload hC (dk d_X4_ringCount 6 rfl) 9 rfl rfl ?_
    refine Z_iload_n hC (dk d_X4_ringCount 7 rfl) 10 rfl rfl rfl ?_
    refine Z_icmp_ge hC (dk d_X4_ringCount 8 rfl) 13 40 rfl (by decide) (fun c => ?_) (fun c => ?_)
    · have h := it_t h c
      obtain rfl := Option.some.inj h
      refine Z_wk [false, false, false, true, false] [none, none, none, some (vi x3), none] rfl ?_
      exact ke
    · have h := it_f h c
      refine Z_iload_n hC (dk d_X4_ringCount 9 rfl) 14 rfl rfl rfl ?_
      refine Z_iload hC (dk d_X4_ringCount 10 rfl) 16 rfl rfl ?_
      refine Z_ishr hC (dk d_X4_ringCount 11 rfl) 17 rfl ?_
      refine Z_iconst (v := 1) hC (dk d_X4_ringCount 12 rfl) 18 rfl (by decide) ?_
      refine Z_iand hC (dk d_X4_ringCount 13 rfl) 19 rfl ?_
      refine Z_if_ne hC (dk d_X4_ringCount 14 rfl) 22 34 rfl (by decide) (fun c => ?_) (fun c => ?_)
      · have h := it_f h c
        refine Z_iinc hC (dk d_X4_ringCount 22 rfl) 37 rfl rfl rfl [some (vi x0), some (vi x1), some (vi x2), some (vi x3), some (vi (x4 + (1 : Int32)))] rfl ?_
        refine Z_goto hC (dk d_X4_ringCount 23 rfl) 7 (by decide) ?_
        refine Z_wk [true, true, true, true, true] [some (vi x0), some (vi x1), some (vi x2), some (vi x3), some (vi (x4 + (1 : Int32)))] rfl ?_
        exact ih x2 x3 (x4 + (1 : Int32)) w _ h ke
      · have h := it_t h c
        refine Z_iload_n hC (dk d_X4_ringCount 15 rfl) 23 rfl rfl rfl ?_
        refine Z_iload_n hC (dk d_X4_ringCount 16 rfl) 24 rfl rfl rfl ?_
        refine Z_iload hC (dk d_X4_ringCount 17 rfl) 26 rfl rfl ?_
        obtain ⟨q1, hq1, h⟩ := bd_some h
        refine K_X4_276 [vi x0, vi x4] hC (s_X4_ringOf (xG x) (xl x) N x0 x4 w q1 hq1) (Nat.le_of_ble_eq_true rfl) rfl rfl rfl (Nat.le_of_ble_eq_true rfl) (dk d_X4_ringCount 18 rfl) 29 rfl ?_
        refine Z_ior hC (dk d_X4_ringCount 19 rfl) 30 rfl ?_
        refine Z_istore_n hC (dk d_X4_ringCount 20 rfl) 31 rfl rfl (Nat.le_of_ble_eq_true rfl) [some (vi x0), some (vi x1), some (vi (x2 ||| q1.1)), some (vi x3), some (vi x4)] rfl ?_
        refine Z_iinc hC (dk d_X4_ringCount 21 rfl) 34 rfl rfl rfl [some (vi x0), some (vi x1), some (vi (x2 ||| q1.1)), some (vi (x3 + (1 : Int32))), some (vi x4)] rfl ?_
        refine Z_iinc hC (dk d_X4_ringCount 22 rfl) 37 rfl rfl rfl [some (vi x0), some (vi x1), some (vi (x2 ||| q1.1)), some (vi (x3 + (1 : Int32))), some (vi (x4 + (1 : Int32)))] rfl ?_
        refine Z_goto hC (dk d_X4_ringCount 23 rfl) 7 (by decide) ?_
        refine Z_wk [true, true, true, true, true] [some (vi x0), some (vi x1), some (vi (x2 ||| q1.1)), some (vi (x3 + (1 : Int32))), some (vi (x4 + (1 : Int32)))] rfl ?_
        exact ih (x2 ||| q1.1) (x3 + (1 : Int32)) (x4 + (1 : Int32)) q1.2 _ h ke
noncomputable def f_X4_ringCount (N : Nat) (a1 : Int32) (a2 : Int32) (w : Wd) : Option (Int32 × Wd) :=
  (X4_ringCount_L1 N a1 a2 N (0 : Int32) (0 : Int32) (0 : Int32) w).bind (fun q2 =>
    some (q2.1, q2.2))
set_option maxRecDepth 20000 in
set_option maxHeartbeats 4000000 in
theorem s_X4_ringCount (G : GT) (l : Launch) (N : Nat) (a1 : Int32) (a2 : Int32) (w : Wd) (q : Int32 × Wd) (h : f_X4_ringCount N a1 a2 w = some q) : Sp G l yX4_ringCount cw_X4_ringCount 2 [vi a1, vi a2] w (some (vi q.1)) q.2 := by
  refine Sp_of (own := RX4) [some (vi a1), some (vi a2), none, none, none] (by decide) rfl rfl (Nat.le_of_ble_eq_true rfl) ?_
  intro x hG hl hC hr hQ _ _
  subst hG
  subst hl
  unfold f_X4_ringCount at h
  refine Z_iconst (v := 0) hC (dk d_X4_ringCount 0 rfl) 1 rfl (by decide) ?_
  refine Z_istore_n hC (dk d_X4_ringCount 1 rfl) 2 rfl rfl (Nat.le_of_ble_eq_true rfl) [some (vi a1), some (vi a2), some (vi (0 : Int32)), none, none] rfl ?_
  refine Z_iconst (v := 0) hC (dk d_X4_ringCount 2 rfl) 3 rfl (by decide) ?_
  refine Z_istore_n hC (dk d_X4_ringCount 3 rfl) 4 rfl rfl (Nat.le_of_ble_eq_true rfl) [some (vi a1), some (vi a2), some (vi (0 : Int32)), some (vi (0 : Int32)), none] rfl ?_
  refine Z_iconst (v := 0) hC (dk d_X4_ringCount 4 rfl) 5 rfl (by decide) ?_
  refine Z_istore hC (dk d_X4_ringCount 5 rfl) 7 rfl (Nat.le_of_ble_eq_true rfl) [some (vi a1), some (vi a2), some (vi (0 : Int32)), some (vi (0 : Int32)), some (vi (0 : Int32))] rfl ?_
  obtain ⟨q2, hq2, h⟩ := bd_some h
  refine Z_wk [true, true, true, true, true] [some (vi a1), some (vi a2), some (vi (0 : Int32)), some (vi (0 : Int32)), some (vi (0 : Int32))] rfl ?_
  refine z_X4_ringCount_L1 hC hr N a1 a2 N (0 : Int32) (0 : Int32) (0 : Int32) w q2 hq2 ?_
  refine Z_iload_n hC (dk d_X4_ringCount 24 rfl) 41 rfl rfl rfl ?_
  obtain rfl := Option.some.inj h
  exact Z_ireturn (st := []) hC hr hQ (dk d_X4_ringCount 25 rfl)
def t_X4_rings : List (Nat × Instr × Nat) := [(0, .iload_n 1, 1), (1, .invokestatic 70, 3), (4, .ifCond .ne 5, 3), (7, .iconst (-1), 1), (8, .ireturn, 1), (9, .aload_n 0, 1), (10, .iload_n 1, 1), (11, .invokevirtual 174, 3), (14, .istore_n 2, 1), (15, .iload_n 2, 1), (16, .ifCond .ge 10, 3), (19, .aload_n 0, 1), (20, .iload_n 2, 1), (21, .ineg, 1), (22, .invokevirtual 74, 3), (25, .ireturn, 1), (26, .aload_n 0, 1), (27, .aload_n 0, 1), (28, .getfield 26, 3), (31, .getfield 132, 3), (34, .ifCond .ne 7, 3), (37, .iconst 0, 1), (38, .goto 11, 3), (41, .iload_n 2, 1), (42, .iconst 0, 1), (43, .invokestatic 276, 3), (46, .invokestatic 160, 3), (49, .putfield 90, 3), (52, .iload_n 2, 1), (53, .aload_n 0, 1), (54, .getfield 26, 3), (57, .getfield 132, 3), (60, .invokestatic 279, 3), (63, .ireturn, 1)]
set_option maxRecDepth 20000 in
theorem d_X4_rings : ∀ q ∈ t_X4_rings, decode cX4_rings q.1 = .ok q.2 := by decide +kernel
noncomputable def f_X4_rings (N : Nat) (a1 : Int32) (w : Wd) : Option (Int32 × Wd) :=
  (f_X4_isRow N a1 w).bind (fun q1 =>
    if q1.1 = 0 then
      some ((-1 : Int32), q1.2)
    else
      (f_X4_drawingIn N a1 q1.2).bind (fun q2 =>
        if 0 ≤ q2.1 then
          if (gI q2.2 4 0) = 0 then
            (f_X4_ringCount N q2.1 (gI (sI q2.2 412 0 (0 : Int32)) 4 0) (sI q2.2 412 0 (0 : Int32))).bind (fun q6 =>
              some (q6.1, q6.2))
          else
            (f_X4_ringOf N q2.1 (0 : Int32) q2.2).bind (fun q3 =>
              (f_J6_bitCount_0f7a4 N q3.1 q3.2).bind (fun q4 =>
                (f_X4_ringCount N q2.1 (gI (sI q4.2 412 0 q4.1) 4 0) (sI q4.2 412 0 q4.1)).bind (fun q5 =>
                  some (q5.1, q5.2))))
        else
          (f_X4_refuse N (-q2.1) q2.2).bind (fun q7 =>
            some (q7.1, q7.2))))
set_option maxRecDepth 20000 in
set_option maxHeartbeats 4000000 in
theorem s_X4_rings (G : GT) (l : Launch) (N : Nat) (a1 : Int32) (w : Wd) (q : Int32 × Wd) (h : f_X4_rings N a1 w = some q) : Sp G l yX4_rings cw_X4_rings 3 [vr 0 0, vi a1] w (some (vi q.1)) q.2 := by
  refine Sp_of (own := RX4) [some (vr 0 0), some (vi a1), none] (by decide) rfl rfl (Nat.le_of_ble_eq_true rfl) ?_
  intro x hG hl hC hr hQ _ _
  subst hG
  subst hl
  unfold f_X4_rings at h
  refine Z_iload_n hC (dk d_X4_rings 0 rfl) 1 rfl rfl rfl ?_
  obtain ⟨q1, hq1, h⟩ := bd_some h
  refine K_X4_70 [vi a1] hC (s_X4_isRow (xG x) (xl x) N a1 w q1 hq1) (Nat.le_of_ble_eq_true rfl) rfl rfl rfl (Nat.le_of_ble_eq_true rfl) (dk d_X4_rings 1 rfl) 4 rfl ?_
  refine Z_if_ne hC (dk d_X4_rings 2 rfl) 7 9 rfl (by decide) (fun c => ?_) (fun c => ?_)
  · have h := it_f h c
    refine Z_aload_n hC (dk d_X4_rings 5 rfl) 10 rfl rfl rfl ?_
    refine Z_iload_n hC (dk d_X4_rings 6 rfl) 11 rfl rfl rfl ?_
    obtain ⟨q2, hq2, h⟩ := bd_some h
    refine K_X4_174 [vi a1] hC m_0 (s_X4_drawingIn (xG x) (xl x) N a1 q1.2 q2 hq2) (Nat.le_of_ble_eq_true rfl) rfl rfl rfl (Nat.le_of_ble_eq_true rfl) (dk d_X4_rings 7 rfl) 14 rfl ?_
    refine Z_istore_n hC (dk d_X4_rings 8 rfl) 15 rfl rfl (Nat.le_of_ble_eq_true rfl) [some (vr 0 0), some (vi a1), some (vi q2.1)] rfl ?_
    refine Z_iload_n hC (dk d_X4_rings 9 rfl) 16 rfl rfl rfl ?_
    refine Z_if_ge hC (dk d_X4_rings 10 rfl) 19 26 rfl (by decide) (fun c => ?_) (fun c => ?_)
    · have h := it_t h c
      refine Z_aload_n hC (dk d_X4_rings 16 rfl) 27 rfl rfl rfl ?_
      refine Z_aload_n hC (dk d_X4_rings 17 rfl) 28 rfl rfl rfl ?_
      refine G_X4_26 hC m_0 (dk d_X4_rings 18 rfl) 31 rfl ?_
      refine G_X4_132 hC (m_3 (by decide)) (dk d_X4_rings 19 rfl) 34 rfl ?_
      refine Z_if_ne hC (dk d_X4_rings 20 rfl) 37 41 rfl (by decide) (fun c => ?_) (fun c => ?_)
      · have h := it_f h c
        refine Z_iload_n hC (dk d_X4_rings 23 rfl) 42 rfl rfl rfl ?_
        refine Z_iconst (v := 0) hC (dk d_X4_rings 24 rfl) 43 rfl (by decide) ?_
        obtain ⟨q3, hq3, h⟩ := bd_some h
        refine K_X4_276 [vi q2.1, vi (0 : Int32)] hC (s_X4_ringOf (xG x) (xl x) N q2.1 (0 : Int32) q2.2 q3 hq3) (Nat.le_of_ble_eq_true rfl) rfl rfl rfl (Nat.le_of_ble_eq_true rfl) (dk d_X4_rings 25 rfl) 46 rfl ?_
        obtain ⟨q4, hq4, h⟩ := bd_some h
        refine K_X4_160 [vi q3.1] hC (s_J6_bitCount_0f7a4 (xG x) (xl x) N q3.1 q3.2 q4 hq4) (Nat.le_of_ble_eq_true rfl) rfl rfl rfl (Nat.le_of_ble_eq_true rfl) (dk d_X4_rings 26 rfl) 49 rfl ?_
        refine P_X4_90 hC m_0 (dk d_X4_rings 27 rfl) 52 rfl ?_
        refine Z_iload_n hC (dk d_X4_rings 28 rfl) 53 rfl rfl rfl ?_
        refine Z_aload_n hC (dk d_X4_rings 29 rfl) 54 rfl rfl rfl ?_
        refine G_X4_26 hC m_0 (dk d_X4_rings 30 rfl) 57 rfl ?_
        refine G_X4_132 hC (m_3 (by decide)) (dk d_X4_rings 31 rfl) 60 rfl ?_
        obtain ⟨q5, hq5, h⟩ := bd_some h
        refine K_X4_279 [vi q2.1, vi (gI (sI q4.2 412 0 q4.1) 4 0)] hC (s_X4_ringCount (xG x) (xl x) N q2.1 (gI (sI q4.2 412 0 q4.1) 4 0) (sI q4.2 412 0 q4.1) q5 hq5) (Nat.le_of_ble_eq_true rfl) rfl rfl rfl (Nat.le_of_ble_eq_true rfl) (dk d_X4_rings 32 rfl) 63 rfl ?_
        obtain rfl := Option.some.inj h
        exact Z_ireturn (st := []) hC hr hQ (dk d_X4_rings 33 rfl)
      · have h := it_t h c
        refine Z_iconst (v := 0) hC (dk d_X4_rings 21 rfl) 38 rfl (by decide) ?_
        refine Z_goto hC (dk d_X4_rings 22 rfl) 49 (by decide) ?_
        refine P_X4_90 hC m_0 (dk d_X4_rings 27 rfl) 52 rfl ?_
        refine Z_iload_n hC (dk d_X4_rings 28 rfl) 53 rfl rfl rfl ?_
        refine Z_aload_n hC (dk d_X4_rings 29 rfl) 54 rfl rfl rfl ?_
        refine G_X4_26 hC m_0 (dk d_X4_rings 30 rfl) 57 rfl ?_
        refine G_X4_132 hC (m_3 (by decide)) (dk d_X4_rings 31 rfl) 60 rfl ?_
        obtain ⟨q6, hq6, h⟩ := bd_some h
        refine K_X4_279 [vi q2.1, vi (gI (sI q2.2 412 0 (0 : Int32)) 4 0)] hC (s_X4_ringCount (xG x) (xl x) N q2.1 (gI (sI q2.2 412 0 (0 : Int32)) 4 0) (sI q2.2 412 0 (0 : Int32)) q6 hq6) (Nat.le_of_ble_eq_true rfl) rfl rfl rfl (Nat.le_of_ble_eq_true rfl) (dk d_X4_rings 32 rfl) 63 rfl ?_
        obtain rfl := Option.some.inj h
        exact Z_ireturn (st := []) hC hr hQ (dk d_X4_rings 33 rfl)
    · have h := it_f h c
      refine Z_aload_n hC (dk d_X4_rings 11 rfl) 20 rfl rfl rfl ?_
      refine Z_iload_n hC (dk d_X4_rings 12 rfl) 21 rfl rfl rfl ?_
      refine Z_ineg hC (dk d_X4_rings 13 rfl) 22 rfl ?_
      obtain ⟨q7, hq7, h⟩ := bd_some h
      refine K_X4_74 [vi (-q2.1)] hC m_0 (s_X4_refuse (xG x) (xl x) N (-q2.1) q2.2 q7 hq7) (Nat.le_of_ble_eq_true rfl) rfl rfl rfl (Nat.le_of_ble_eq_true rfl) (dk d_X4_rings 14 rfl) 25 rfl ?_
      obtain rfl := Option.some.inj h
      exact Z_ireturn (st := []) hC hr hQ (dk d_X4_rings 15 rfl)
  · have h := it_t h c
    refine Z_iconst (v := -1) hC (dk d_X4_rings 3 rfl) 8 rfl (by decide) ?_
    obtain rfl := Option.some.inj h
    exact Z_ireturn (st := []) hC hr hQ (dk d_X4_rings 4 rfl)
def t_X4_ringed : List (Nat × Instr × Nat) := [(0, .iload_n 1, 1), (1, .ifCond .lt 9, 3), (4, .iload_n 1, 1), (5, .bipush 6, 2), (7, .if_icmp .le 5, 3), (10, .iconst (-1), 1), (11, .ireturn, 1), (12, .aload_n 0, 1), (13, .invokevirtual 183, 3), (16, .aload_n 0, 1), (17, .getfield 36, 3), (20, .getfield 186, 3), (23, .ifCond .ne 9, 3), (26, .aload_n 0, 1), (27, .iconst 4, 1), (28, .invokevirtual 74, 3), (31, .ireturn, 1), (32, .iconst 0, 1), (33, .istore_n 2, 1), (34, .iconst 0, 1), (35, .istore_n 3, 1), (36, .iload_n 3, 1), (37, .aload_n 0, 1), (38, .getfield 36, 3), (41, .getfield 186, 3), (44, .if_icmp .ge 35, 3), (47, .aload_n 0, 1), (48, .getfield 36, 3), (51, .getfield 189, 3), (54, .iload_n 3, 1), (55, .iaload, 1), (56, .aload_n 0, 1), (57, .getfield 26, 3), (60, .getfield 132, 3), (63, .invokestatic 279, 3), (66, .iload_n 1, 1), (67, .if_icmp .ne 6, 3), (70, .iinc 2 1, 3), (73, .iinc 3 1, 3), (76, .goto (-40), 3), (79, .aload_n 0, 1), (80, .iload_n 2, 1), (81, .aload_n 0, 1), (82, .getfield 36, 3), (85, .getfield 186, 3), (88, .invokevirtual 230, 3), (91, .iload_n 2, 1), (92, .ireturn, 1)]
set_option maxRecDepth 20000 in
theorem d_X4_ringed : ∀ q ∈ t_X4_ringed, decode cX4_ringed q.1 = .ok q.2 := by decide +kernel
noncomputable def X4_ringed_L1 (N : Nat) (x1 : Int32) : Nat → Int32 → Int32 → Wd → Option (Int32 × Wd)
  | 0, _, _, _ => none
  | n + 1, x2, x3, w =>
  if (gI w 201 0) ≤ x3 then
    some (x2, w)
  else
    gd (vp_in x3 265) (
    (f_X4_ringCount N (gA w 20 0 x3.toNatClampNeg) (gI w 4 0) w).bind (fun q3 =>
      if q3.1 = x1 then
        X4_ringed_L1 N x1 n (x2 + (1 : Int32)) (x3 + (1 : Int32)) q3.2
      else
        X4_ringed_L1 N x1 n x2 (x3 + (1 : Int32)) q3.2))
set_option maxRecDepth 20000 in
set_option maxHeartbeats 4000000 in
theorem z_X4_ringed_L1 {x : CX} (hC : Cx x RX4 cX4_ringed 4 14) (hr : (xM x).sig.returnType = (some .int)) (N : Nat) (x1 : Int32) : ∀ (n : Nat) (x2 : Int32) (x3 : Int32) (w : Wd) (q : (Int32 × Wd)), X4_ringed_L1 N x1 n x2 x3 w = some q → Z x 79 [some (vr 0 0), none, some (vi q.1), none] [] q.2 → Z x 36 [some (vr 0 0), some (vi x1), some (vi x2), some (vi x3)] [] w := by
  intro n
  induction n with
  | zero =>
    intro x2 x3 w q h
    cases h
  | succ n ih =>
    intro x2 x3 w q h ke
    rw [X4_ringed_L1] at h
    refine Z_iload_n hC (dk d_X4_ringed 21 rfl) 37 rfl rfl rfl ?_
    refine Z_aload_n hC (dk d_X4_ringed 22 rfl) 38 rfl rfl rfl ?_
    refine G_X4_36 hC m_0 (dk d_X4_ringed 23 rfl) 41 rfl ?_
    refine G_X4_186 hC (m_4 (by decide)) (dk d_X4_ringed 24 rfl) 44 rfl ?_
    refine Z_icmp_ge hC (dk d_X4_ringed 25 rfl) 47 79 rfl (by decide) (fun c => ?_) (fun c => ?_)
    · have h := it_t h c
      obtain rfl := Option.some.inj h
      refine Z_wk [true, false, true, false] [some (vr 0 0), none, some (vi x2), none] rfl ?_
      exact ke
    · have h := it_f h c
      refine Z_aload_n hC (dk d_X4_ringed 26 rfl) 48 rfl rfl rfl ?_
      refine G_X4_36 hC m_0 (dk d_X4_ringed 27 rfl) 51 rfl ?_
      refine G_X4_189 hC (m_4 (by decide)) (dk d_X4_ringed 28 rfl) 54 rfl ?_
      refine Z_iload_n hC (dk d_X4_ringed 29 rfl) 55 rfl rfl rfl ?_
      obtain ⟨g2, h⟩ := gd_some h
      refine Z_iaload hC (m_20 (by decide)) (by decide) rfl g2 (dk d_X4_ringed 30 rfl) 56 rfl ?_
      refine Z_aload_n hC (dk d_X4_ringed 31 rfl) 57 rfl rfl rfl ?_
      refine G_X4_26 hC m_0 (dk d_X4_ringed 32 rfl) 60 rfl ?_
      refine G_X4_132 hC (m_3 (by decide)) (dk d_X4_ringed 33 rfl) 63 rfl ?_
      obtain ⟨q3, hq3, h⟩ := bd_some h
      refine K_X4_279 [vi (gA w 20 0 x3.toNatClampNeg), vi (gI w 4 0)] hC (s_X4_ringCount (xG x) (xl x) N (gA w 20 0 x3.toNatClampNeg) (gI w 4 0) w q3 hq3) (Nat.le_of_ble_eq_true rfl) rfl rfl rfl (Nat.le_of_ble_eq_true rfl) (dk d_X4_ringed 34 rfl) 66 rfl ?_
      refine Z_iload_n hC (dk d_X4_ringed 35 rfl) 67 rfl rfl rfl ?_
      refine Z_icmp_ne hC (dk d_X4_ringed 36 rfl) 70 73 rfl (by decide) (fun c => ?_) (fun c => ?_)
      · have h := it_f h c
        refine Z_iinc hC (dk d_X4_ringed 38 rfl) 76 rfl rfl rfl [some (vr 0 0), some (vi x1), some (vi x2), some (vi (x3 + (1 : Int32)))] rfl ?_
        refine Z_goto hC (dk d_X4_ringed 39 rfl) 36 (by decide) ?_
        refine Z_wk [true, true, true, true] [some (vr 0 0), some (vi x1), some (vi x2), some (vi (x3 + (1 : Int32)))] rfl ?_
        exact ih x2 (x3 + (1 : Int32)) q3.2 _ h ke
      · have h := it_t h c
        refine Z_iinc hC (dk d_X4_ringed 37 rfl) 73 rfl rfl rfl [some (vr 0 0), some (vi x1), some (vi (x2 + (1 : Int32))), some (vi x3)] rfl ?_
        refine Z_iinc hC (dk d_X4_ringed 38 rfl) 76 rfl rfl rfl [some (vr 0 0), some (vi x1), some (vi (x2 + (1 : Int32))), some (vi (x3 + (1 : Int32)))] rfl ?_
        refine Z_goto hC (dk d_X4_ringed 39 rfl) 36 (by decide) ?_
        refine Z_wk [true, true, true, true] [some (vr 0 0), some (vi x1), some (vi (x2 + (1 : Int32))), some (vi (x3 + (1 : Int32)))] rfl ?_
        exact ih (x2 + (1 : Int32)) (x3 + (1 : Int32)) q3.2 _ h ke
noncomputable def f_X4_ringed (N : Nat) (a1 : Int32) (w : Wd) : Option (Int32 × Wd) :=
  if a1 < 0 then
    some ((-1 : Int32), w)
  else
    if a1 ≤ (6 : Int32) then
      (f_X4_listRight N w).bind (fun q1 =>
        if (gI q1 201 0) = 0 then
          (f_X4_refuse N (4 : Int32) q1).bind (fun q6 =>
            some (q6.1, q6.2))
        else
          (X4_ringed_L1 N a1 N (0 : Int32) (0 : Int32) q1).bind (fun q4 =>
            (f_X4_tellFraction N q4.1 (gI q4.2 201 0) q4.2).bind (fun q5 =>
              some (q4.1, q5))))
    else
      some ((-1 : Int32), w)
set_option maxRecDepth 20000 in
set_option maxHeartbeats 4000000 in
theorem s_X4_ringed (G : GT) (l : Launch) (N : Nat) (a1 : Int32) (w : Wd) (q : Int32 × Wd) (h : f_X4_ringed N a1 w = some q) : Sp G l yX4_ringed cw_X4_ringed 14 [vr 0 0, vi a1] w (some (vi q.1)) q.2 := by
  refine Sp_of (own := RX4) [some (vr 0 0), some (vi a1), none, none] (by decide) rfl rfl (Nat.le_of_ble_eq_true rfl) ?_
  intro x hG hl hC hr hQ _ _
  subst hG
  subst hl
  unfold f_X4_ringed at h
  refine Z_iload_n hC (dk d_X4_ringed 0 rfl) 1 rfl rfl rfl ?_
  refine Z_if_lt hC (dk d_X4_ringed 1 rfl) 4 10 rfl (by decide) (fun c => ?_) (fun c => ?_)
  · have h := it_t h c
    refine Z_iconst (v := -1) hC (dk d_X4_ringed 5 rfl) 11 rfl (by decide) ?_
    obtain rfl := Option.some.inj h
    exact Z_ireturn (st := []) hC hr hQ (dk d_X4_ringed 6 rfl)
  · have h := it_f h c
    refine Z_iload_n hC (dk d_X4_ringed 2 rfl) 5 rfl rfl rfl ?_
    refine Z_bipush (v := 6) hC (dk d_X4_ringed 3 rfl) 7 rfl (by decide) ?_
    refine Z_icmp_le hC (dk d_X4_ringed 4 rfl) 10 12 rfl (by decide) (fun c => ?_) (fun c => ?_)
    · have h := it_t h c
      refine Z_aload_n hC (dk d_X4_ringed 7 rfl) 13 rfl rfl rfl ?_
      obtain ⟨q1, hq1, h⟩ := bd_some h
      refine K_X4_183 [] hC m_0 (s_X4_listRight (xG x) (xl x) N w q1 hq1) (Nat.le_of_ble_eq_true rfl) rfl rfl rfl (Nat.le_of_ble_eq_true rfl) (dk d_X4_ringed 8 rfl) 16 rfl ?_
      refine Z_aload_n hC (dk d_X4_ringed 9 rfl) 17 rfl rfl rfl ?_
      refine G_X4_36 hC m_0 (dk d_X4_ringed 10 rfl) 20 rfl ?_
      refine G_X4_186 hC (m_4 (by decide)) (dk d_X4_ringed 11 rfl) 23 rfl ?_
      refine Z_if_ne hC (dk d_X4_ringed 12 rfl) 26 32 rfl (by decide) (fun c => ?_) (fun c => ?_)
      · have h := it_f h c
        refine Z_iconst (v := 0) hC (dk d_X4_ringed 17 rfl) 33 rfl (by decide) ?_
        refine Z_istore_n hC (dk d_X4_ringed 18 rfl) 34 rfl rfl (Nat.le_of_ble_eq_true rfl) [some (vr 0 0), some (vi a1), some (vi (0 : Int32)), none] rfl ?_
        refine Z_iconst (v := 0) hC (dk d_X4_ringed 19 rfl) 35 rfl (by decide) ?_
        refine Z_istore_n hC (dk d_X4_ringed 20 rfl) 36 rfl rfl (Nat.le_of_ble_eq_true rfl) [some (vr 0 0), some (vi a1), some (vi (0 : Int32)), some (vi (0 : Int32))] rfl ?_
        obtain ⟨q4, hq4, h⟩ := bd_some h
        refine Z_wk [true, true, true, true] [some (vr 0 0), some (vi a1), some (vi (0 : Int32)), some (vi (0 : Int32))] rfl ?_
        refine z_X4_ringed_L1 hC hr N a1 N (0 : Int32) (0 : Int32) q1 q4 hq4 ?_
        refine Z_aload_n hC (dk d_X4_ringed 40 rfl) 80 rfl rfl rfl ?_
        refine Z_iload_n hC (dk d_X4_ringed 41 rfl) 81 rfl rfl rfl ?_
        refine Z_aload_n hC (dk d_X4_ringed 42 rfl) 82 rfl rfl rfl ?_
        refine G_X4_36 hC m_0 (dk d_X4_ringed 43 rfl) 85 rfl ?_
        refine G_X4_186 hC (m_4 (by decide)) (dk d_X4_ringed 44 rfl) 88 rfl ?_
        obtain ⟨q5, hq5, h⟩ := bd_some h
        refine K_X4_230 [vi q4.1, vi (gI q4.2 201 0)] hC m_0 (s_X4_tellFraction (xG x) (xl x) N q4.1 (gI q4.2 201 0) q4.2 q5 hq5) (Nat.le_of_ble_eq_true rfl) rfl rfl rfl (Nat.le_of_ble_eq_true rfl) (dk d_X4_ringed 45 rfl) 91 rfl ?_
        refine Z_iload_n hC (dk d_X4_ringed 46 rfl) 92 rfl rfl rfl ?_
        obtain rfl := Option.some.inj h
        exact Z_ireturn (st := []) hC hr hQ (dk d_X4_ringed 47 rfl)
      · have h := it_t h c
        refine Z_aload_n hC (dk d_X4_ringed 13 rfl) 27 rfl rfl rfl ?_
        refine Z_iconst (v := 4) hC (dk d_X4_ringed 14 rfl) 28 rfl (by decide) ?_
        obtain ⟨q6, hq6, h⟩ := bd_some h
        refine K_X4_74 [vi (4 : Int32)] hC m_0 (s_X4_refuse (xG x) (xl x) N (4 : Int32) q1 q6 hq6) (Nat.le_of_ble_eq_true rfl) rfl rfl rfl (Nat.le_of_ble_eq_true rfl) (dk d_X4_ringed 15 rfl) 31 rfl ?_
        obtain rfl := Option.some.inj h
        exact Z_ireturn (st := []) hC hr hQ (dk d_X4_ringed 16 rfl)
    · have h := it_f h c
      refine Z_iconst (v := -1) hC (dk d_X4_ringed 5 rfl) 11 rfl (by decide) ?_
      obtain rfl := Option.some.inj h
      exact Z_ireturn (st := []) hC hr hQ (dk d_X4_ringed 6 rfl)
