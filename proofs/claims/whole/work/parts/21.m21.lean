def t_X5_knownOf : List (Nat × Instr × Nat) := [(0, .aload_n 0, 1), (1, .iconst 0, 1), (2, .putfield 234, 3), (5, .iconst 1, 1), (6, .aload_n 0, 1), (7, .getfield 125, 3), (10, .ishl, 1), (11, .iconst 1, 1), (12, .isub, 1), (13, .istore_n 3, 1), (14, .iconst 0, 1), (15, .istore 4, 2), (17, .iload 4, 2), (19, .aload_n 0, 1), (20, .getfield 175, 3), (23, .if_icmp .ge 135, 3), (26, .iconst 1, 1), (27, .istore 5, 2), (29, .iconst 0, 1), (30, .istore 6, 2), (32, .iconst 0, 1), (33, .istore 7, 2), (35, .iload 7, 2), (37, .aload_n 0, 1), (38, .getfield 125, 3), (41, .if_icmp .ge 78, 3), (44, .aload_n 0, 1), (45, .iload 4, 2), (47, .iload 7, 2), (49, .invokevirtual 191, 3), (52, .aload_n 0, 1), (53, .iload_n 1, 1), (54, .iload 7, 2), (56, .invokevirtual 94, 3), (59, .if_icmp .ne 7, 3), (62, .iconst 1, 1), (63, .goto 4, 3), (66, .iconst 0, 1), (67, .istore 8, 2), (69, .iload 5, 2), (71, .ifCond .eq 21, 3), (74, .iload 8, 2), (76, .ifCond .ne 12, 3), (79, .iload_n 2, 1), (80, .iload 7, 2), (82, .invokestatic 147, 3), (85, .ifCond .ne 7, 3), (88, .iconst 1, 1), (89, .goto 4, 3), (92, .iconst 0, 1), (93, .istore 5, 2), (95, .iload 6, 2), (97, .iload 8, 2), (99, .ifCond .eq 10, 3), (102, .iconst 1, 1), (103, .iload 7, 2), (105, .ishl, 1), (106, .goto 4, 3), (109, .iconst 0, 1), (110, .ior, 1), (111, .istore 6, 2), (113, .iinc 7 1, 3), (116, .goto (-81), 3), (119, .aload_n 0, 1), (120, .dup, 1), (121, .getfield 234, 3), (124, .iload 5, 2), (126, .ifCond .eq 7, 3), (129, .iconst 1, 1), (130, .goto 4, 3), (133, .iconst 0, 1), (134, .iadd, 1), (135, .putfield 234, 3), (138, .iload_n 3, 1), (139, .iload 5, 2), (141, .ifCond .eq 8, 3), (144, .iload 6, 2), (146, .goto 4, 3), (149, .iload_n 3, 1), (150, .iand, 1), (151, .istore_n 3, 1), (152, .iinc 4 1, 3), (155, .goto (-138), 3), (158, .iload_n 3, 1), (159, .ireturn, 1)]
set_option maxRecDepth 20000 in
theorem d_X5_knownOf : ∀ q ∈ t_X5_knownOf, decode cX5_knownOf q.1 = .ok q.2 := by decide +kernel
noncomputable def X5_knownOf_J93 (N : Nat) (go : Int32 → Int32 → Int32 → Wd → Option (Int32 × Int32 × Wd)) (x1 : Int32) (x2 : Int32) (x3 : Int32) (x4 : Int32) (x6 : Int32) (x7 : Int32) (x8 : Int32) (s0 : Int32) (w : Wd) : Option (Int32 × Int32 × Wd) :=
  if x8 = 0 then
    go s0 (x6 ||| (0 : Int32)) (x7 + (1 : Int32)) w
  else
    go s0 (x6 ||| ((1 : Int32) <<< (x7 &&& (31 : Int32)))) (x7 + (1 : Int32)) w
set_option maxRecDepth 20000 in
set_option maxHeartbeats 4000000 in
theorem z_X5_knownOf_J93 {x : CX} (hC : Cx x RX5 cX5_knownOf 9 1) (hr : (xM x).sig.returnType = (some .int)) (N : Nat) (x1 : Int32) (x2 : Int32) (x3 : Int32) (x4 : Int32) (x6 : Int32) (x7 : Int32) (x8 : Int32) (s0 : Int32) {go : Int32 → Int32 → Int32 → Wd → Option (Int32 × Int32 × Wd)} (hgo : ∀ (x5 : Int32) (x6 : Int32) (x7 : Int32) (w : Wd) (q : (Int32 × Int32 × Wd)), go x5 x6 x7 w = some q → Z x 119 [some (vr 5 0), some (vi x1), some (vi x2), some (vi x3), some (vi x4), some (vi q.1), some (vi q.2.1), none, none] [] q.2.2 → Z x 35 [some (vr 5 0), some (vi x1), some (vi x2), some (vi x3), some (vi x4), some (vi x5), some (vi x6), some (vi x7), none] [] w) (w : Wd) (q : (Int32 × Int32 × Wd)) (h : X5_knownOf_J93 N go x1 x2 x3 x4 x6 x7 x8 s0 w = some q) (ke : Z x 119 [some (vr 5 0), some (vi x1), some (vi x2), some (vi x3), some (vi x4), some (vi q.1), some (vi q.2.1), none, none] [] q.2.2) : Z x 93 [some (vr 5 0), some (vi x1), some (vi x2), some (vi x3), some (vi x4), none, some (vi x6), some (vi x7), some (vi x8)] [vi s0] w := by
  unfold X5_knownOf_J93 at h
  refine Z_istore hC (dk d_X5_knownOf 50 rfl) 95 rfl (Nat.le_of_ble_eq_true rfl) [some (vr 5 0), some (vi x1), some (vi x2), some (vi x3), some (vi x4), some (vi s0), some (vi x6), some (vi x7), some (vi x8)] rfl ?_
  refine Z_iload hC (dk d_X5_knownOf 51 rfl) 97 rfl rfl ?_
  refine Z_iload hC (dk d_X5_knownOf 52 rfl) 99 rfl rfl ?_
  refine Z_if_eq hC (dk d_X5_knownOf 53 rfl) 102 109 rfl (by decide) (fun c => ?_) (fun c => ?_)
  · have h := it_t h c
    refine Z_iconst (v := 0) hC (dk d_X5_knownOf 58 rfl) 110 rfl (by decide) ?_
    refine Z_ior hC (dk d_X5_knownOf 59 rfl) 111 rfl ?_
    refine Z_istore hC (dk d_X5_knownOf 60 rfl) 113 rfl (Nat.le_of_ble_eq_true rfl) [some (vr 5 0), some (vi x1), some (vi x2), some (vi x3), some (vi x4), some (vi s0), some (vi (x6 ||| (0 : Int32))), some (vi x7), some (vi x8)] rfl ?_
    refine Z_iinc hC (dk d_X5_knownOf 61 rfl) 116 rfl rfl rfl [some (vr 5 0), some (vi x1), some (vi x2), some (vi x3), some (vi x4), some (vi s0), some (vi (x6 ||| (0 : Int32))), some (vi (x7 + (1 : Int32))), some (vi x8)] rfl ?_
    refine Z_goto hC (dk d_X5_knownOf 62 rfl) 35 (by decide) ?_
    refine Z_wk [true, true, true, true, true, true, true, true, false] [some (vr 5 0), some (vi x1), some (vi x2), some (vi x3), some (vi x4), some (vi s0), some (vi (x6 ||| (0 : Int32))), some (vi (x7 + (1 : Int32))), none] rfl ?_
    exact hgo s0 (x6 ||| (0 : Int32)) (x7 + (1 : Int32)) w _ h ke
  · have h := it_f h c
    refine Z_iconst (v := 1) hC (dk d_X5_knownOf 54 rfl) 103 rfl (by decide) ?_
    refine Z_iload hC (dk d_X5_knownOf 55 rfl) 105 rfl rfl ?_
    refine Z_ishl hC (dk d_X5_knownOf 56 rfl) 106 rfl ?_
    refine Z_goto hC (dk d_X5_knownOf 57 rfl) 110 (by decide) ?_
    refine Z_ior hC (dk d_X5_knownOf 59 rfl) 111 rfl ?_
    refine Z_istore hC (dk d_X5_knownOf 60 rfl) 113 rfl (Nat.le_of_ble_eq_true rfl) [some (vr 5 0), some (vi x1), some (vi x2), some (vi x3), some (vi x4), some (vi s0), some (vi (x6 ||| ((1 : Int32) <<< (x7 &&& (31 : Int32))))), some (vi x7), some (vi x8)] rfl ?_
    refine Z_iinc hC (dk d_X5_knownOf 61 rfl) 116 rfl rfl rfl [some (vr 5 0), some (vi x1), some (vi x2), some (vi x3), some (vi x4), some (vi s0), some (vi (x6 ||| ((1 : Int32) <<< (x7 &&& (31 : Int32))))), some (vi (x7 + (1 : Int32))), some (vi x8)] rfl ?_
    refine Z_goto hC (dk d_X5_knownOf 62 rfl) 35 (by decide) ?_
    refine Z_wk [true, true, true, true, true, true, true, true, false] [some (vr 5 0), some (vi x1), some (vi x2), some (vi x3), some (vi x4), some (vi s0), some (vi (x6 ||| ((1 : Int32) <<< (x7 &&& (31 : Int32))))), some (vi (x7 + (1 : Int32))), none] rfl ?_
    exact hgo s0 (x6 ||| ((1 : Int32) <<< (x7 &&& (31 : Int32)))) (x7 + (1 : Int32)) w _ h ke
noncomputable def X5_knownOf_J92 (N : Nat) (go : Int32 → Int32 → Int32 → Wd → Option (Int32 × Int32 × Wd)) (x1 : Int32) (x2 : Int32) (x3 : Int32) (x4 : Int32) (x6 : Int32) (x7 : Int32) (x8 : Int32) (w : Wd) : Option (Int32 × Int32 × Wd) :=
  X5_knownOf_J93 N go x1 x2 x3 x4 x6 x7 x8 (0 : Int32) w
set_option maxRecDepth 20000 in
set_option maxHeartbeats 4000000 in
theorem z_X5_knownOf_J92 {x : CX} (hC : Cx x RX5 cX5_knownOf 9 1) (hr : (xM x).sig.returnType = (some .int)) (N : Nat) (x1 : Int32) (x2 : Int32) (x3 : Int32) (x4 : Int32) (x6 : Int32) (x7 : Int32) (x8 : Int32) {go : Int32 → Int32 → Int32 → Wd → Option (Int32 × Int32 × Wd)} (hgo : ∀ (x5 : Int32) (x6 : Int32) (x7 : Int32) (w : Wd) (q : (Int32 × Int32 × Wd)), go x5 x6 x7 w = some q → Z x 119 [some (vr 5 0), some (vi x1), some (vi x2), some (vi x3), some (vi x4), some (vi q.1), some (vi q.2.1), none, none] [] q.2.2 → Z x 35 [some (vr 5 0), some (vi x1), some (vi x2), some (vi x3), some (vi x4), some (vi x5), some (vi x6), some (vi x7), none] [] w) (w : Wd) (q : (Int32 × Int32 × Wd)) (h : X5_knownOf_J92 N go x1 x2 x3 x4 x6 x7 x8 w = some q) (ke : Z x 119 [some (vr 5 0), some (vi x1), some (vi x2), some (vi x3), some (vi x4), some (vi q.1), some (vi q.2.1), none, none] [] q.2.2) : Z x 92 [some (vr 5 0), some (vi x1), some (vi x2), some (vi x3), some (vi x4), none, some (vi x6), some (vi x7), some (vi x8)] [] w := by
  unfold X5_knownOf_J92 at h
  refine Z_iconst (v := 0) hC (dk d_X5_knownOf 49 rfl) 93 rfl (by decide) ?_
  refine Z_wk [true, true, true, true, true, false, true, true, true] [some (vr 5 0), some (vi x1), some (vi x2), some (vi x3), some (vi x4), none, some (vi x6), some (vi x7), some (vi x8)] rfl ?_
  exact z_X5_knownOf_J93 hC hr N x1 x2 x3 x4 x6 x7 x8 (0 : Int32) hgo w _ h ke
noncomputable def X5_knownOf_J88 (N : Nat) (go : Int32 → Int32 → Int32 → Wd → Option (Int32 × Int32 × Wd)) (x1 : Int32) (x2 : Int32) (x3 : Int32) (x4 : Int32) (x6 : Int32) (x7 : Int32) (x8 : Int32) (w : Wd) : Option (Int32 × Int32 × Wd) :=
  X5_knownOf_J93 N go x1 x2 x3 x4 x6 x7 x8 (1 : Int32) w
set_option maxRecDepth 20000 in
set_option maxHeartbeats 4000000 in
theorem z_X5_knownOf_J88 {x : CX} (hC : Cx x RX5 cX5_knownOf 9 1) (hr : (xM x).sig.returnType = (some .int)) (N : Nat) (x1 : Int32) (x2 : Int32) (x3 : Int32) (x4 : Int32) (x6 : Int32) (x7 : Int32) (x8 : Int32) {go : Int32 → Int32 → Int32 → Wd → Option (Int32 × Int32 × Wd)} (hgo : ∀ (x5 : Int32) (x6 : Int32) (x7 : Int32) (w : Wd) (q : (Int32 × Int32 × Wd)), go x5 x6 x7 w = some q → Z x 119 [some (vr 5 0), some (vi x1), some (vi x2), some (vi x3), some (vi x4), some (vi q.1), some (vi q.2.1), none, none] [] q.2.2 → Z x 35 [some (vr 5 0), some (vi x1), some (vi x2), some (vi x3), some (vi x4), some (vi x5), some (vi x6), some (vi x7), none] [] w) (w : Wd) (q : (Int32 × Int32 × Wd)) (h : X5_knownOf_J88 N go x1 x2 x3 x4 x6 x7 x8 w = some q) (ke : Z x 119 [some (vr 5 0), some (vi x1), some (vi x2), some (vi x3), some (vi x4), some (vi q.1), some (vi q.2.1), none, none] [] q.2.2) : Z x 88 [some (vr 5 0), some (vi x1), some (vi x2), some (vi x3), some (vi x4), none, some (vi x6), some (vi x7), some (vi x8)] [] w := by
  unfold X5_knownOf_J88 at h
  refine Z_iconst (v := 1) hC (dk d_X5_knownOf 47 rfl) 89 rfl (by decide) ?_
  refine Z_goto hC (dk d_X5_knownOf 48 rfl) 93 (by decide) ?_
  refine Z_wk [true, true, true, true, true, false, true, true, true] [some (vr 5 0), some (vi x1), some (vi x2), some (vi x3), some (vi x4), none, some (vi x6), some (vi x7), some (vi x8)] rfl ?_
  exact z_X5_knownOf_J93 hC hr N x1 x2 x3 x4 x6 x7 x8 (1 : Int32) hgo w _ h ke
noncomputable def X5_knownOf_J67 (N : Nat) (go : Int32 → Int32 → Int32 → Wd → Option (Int32 × Int32 × Wd)) (x1 : Int32) (x2 : Int32) (x3 : Int32) (x4 : Int32) (x5 : Int32) (x6 : Int32) (x7 : Int32) (s0 : Int32) (w : Wd) : Option (Int32 × Int32 × Wd) :=
  if x5 = 0 then
    X5_knownOf_J92 N go x1 x2 x3 x4 x6 x7 s0 w
  else
    if s0 = 0 then
      (f_X5_has N x2 x7 w).bind (fun q3 =>
        if q3.1 = 0 then
          X5_knownOf_J88 N go x1 x2 x3 x4 x6 x7 s0 q3.2
        else
          X5_knownOf_J92 N go x1 x2 x3 x4 x6 x7 s0 q3.2)
    else
      X5_knownOf_J88 N go x1 x2 x3 x4 x6 x7 s0 w
set_option maxRecDepth 20000 in
set_option maxHeartbeats 4000000 in
theorem z_X5_knownOf_J67 {x : CX} (hC : Cx x RX5 cX5_knownOf 9 1) (hr : (xM x).sig.returnType = (some .int)) (N : Nat) (x1 : Int32) (x2 : Int32) (x3 : Int32) (x4 : Int32) (x5 : Int32) (x6 : Int32) (x7 : Int32) (s0 : Int32) {go : Int32 → Int32 → Int32 → Wd → Option (Int32 × Int32 × Wd)} (hgo : ∀ (x5 : Int32) (x6 : Int32) (x7 : Int32) (w : Wd) (q : (Int32 × Int32 × Wd)), go x5 x6 x7 w = some q → Z x 119 [some (vr 5 0), some (vi x1), some (vi x2), some (vi x3), some (vi x4), some (vi q.1), some (vi q.2.1), none, none] [] q.2.2 → Z x 35 [some (vr 5 0), some (vi x1), some (vi x2), some (vi x3), some (vi x4), some (vi x5), some (vi x6), some (vi x7), none] [] w) (w : Wd) (q : (Int32 × Int32 × Wd)) (h : X5_knownOf_J67 N go x1 x2 x3 x4 x5 x6 x7 s0 w = some q) (ke : Z x 119 [some (vr 5 0), some (vi x1), some (vi x2), some (vi x3), some (vi x4), some (vi q.1), some (vi q.2.1), none, none] [] q.2.2) : Z x 67 [some (vr 5 0), some (vi x1), some (vi x2), some (vi x3), some (vi x4), some (vi x5), some (vi x6), some (vi x7), none] [vi s0] w := by
  unfold X5_knownOf_J67 at h
  refine Z_istore hC (dk d_X5_knownOf 38 rfl) 69 rfl (Nat.le_of_ble_eq_true rfl) [some (vr 5 0), some (vi x1), some (vi x2), some (vi x3), some (vi x4), some (vi x5), some (vi x6), some (vi x7), some (vi s0)] rfl ?_
  refine Z_iload hC (dk d_X5_knownOf 39 rfl) 71 rfl rfl ?_
  refine Z_if_eq hC (dk d_X5_knownOf 40 rfl) 74 92 rfl (by decide) (fun c => ?_) (fun c => ?_)
  · have h := it_t h c
    refine Z_wk [true, true, true, true, true, false, true, true, true] [some (vr 5 0), some (vi x1), some (vi x2), some (vi x3), some (vi x4), none, some (vi x6), some (vi x7), some (vi s0)] rfl ?_
    exact z_X5_knownOf_J92 hC hr N x1 x2 x3 x4 x6 x7 s0 hgo w _ h ke
  · have h := it_f h c
    refine Z_iload hC (dk d_X5_knownOf 41 rfl) 76 rfl rfl ?_
    refine Z_if_ne hC (dk d_X5_knownOf 42 rfl) 79 88 rfl (by decide) (fun c => ?_) (fun c => ?_)
    · have h := it_f h c
      refine Z_wk [true, true, true, true, true, false, true, true, true] [some (vr 5 0), some (vi x1), some (vi x2), some (vi x3), some (vi x4), none, some (vi x6), some (vi x7), some (vi s0)] rfl ?_
      exact z_X5_knownOf_J88 hC hr N x1 x2 x3 x4 x6 x7 s0 hgo w _ h ke
    · have h := it_t h c
      refine Z_iload_n hC (dk d_X5_knownOf 43 rfl) 80 rfl rfl rfl ?_
      refine Z_iload hC (dk d_X5_knownOf 44 rfl) 82 rfl rfl ?_
      obtain ⟨q3, hq3, h⟩ := bd_some h
      refine K_X5_147 [vi x2, vi x7] hC (s_X5_has (xG x) (xl x) N x2 x7 w q3 hq3) (Nat.le_of_ble_eq_true rfl) rfl rfl rfl (Nat.le_of_ble_eq_true rfl) (dk d_X5_knownOf 45 rfl) 85 rfl ?_
      refine Z_if_ne hC (dk d_X5_knownOf 46 rfl) 88 92 rfl (by decide) (fun c => ?_) (fun c => ?_)
      · have h := it_f h c
        refine Z_wk [true, true, true, true, true, false, true, true, true] [some (vr 5 0), some (vi x1), some (vi x2), some (vi x3), some (vi x4), none, some (vi x6), some (vi x7), some (vi s0)] rfl ?_
        exact z_X5_knownOf_J92 hC hr N x1 x2 x3 x4 x6 x7 s0 hgo q3.2 _ h ke
      · have h := it_t h c
        refine Z_wk [true, true, true, true, true, false, true, true, true] [some (vr 5 0), some (vi x1), some (vi x2), some (vi x3), some (vi x4), none, some (vi x6), some (vi x7), some (vi s0)] rfl ?_
        exact z_X5_knownOf_J88 hC hr N x1 x2 x3 x4 x6 x7 s0 hgo q3.2 _ h ke
noncomputable def X5_knownOf_L2 (N : Nat) (x1 : Int32) (x2 : Int32) (x3 : Int32) (x4 : Int32) : Nat → Int32 → Int32 → Int32 → Wd → Option (Int32 × Int32 × Wd)
  | 0, _, _, _, _ => none
  | n + 1, x5, x6, x7, w =>
  if (gI w 510 0) ≤ x7 then
    some (x5, x6, w)
  else
    (f_X5_right N x4 x7 w).bind (fun q1 =>
      (f_X5_rowAt N x1 x7 q1.2).bind (fun q2 =>
        if q1.1 = q2.1 then
          X5_knownOf_J67 N (X5_knownOf_L2 N x1 x2 x3 x4 n) x1 x2 x3 x4 x5 x6 x7 (1 : Int32) q2.2
        else
          X5_knownOf_J67 N (X5_knownOf_L2 N x1 x2 x3 x4 n) x1 x2 x3 x4 x5 x6 x7 (0 : Int32) q2.2))
set_option maxRecDepth 20000 in
set_option maxHeartbeats 4000000 in
theorem z_X5_knownOf_L2 {x : CX} (hC : Cx x RX5 cX5_knownOf 9 1) (hr : (xM x).sig.returnType = (some .int)) (N : Nat) (x1 : Int32) (x2 : Int32) (x3 : Int32) (x4 : Int32) : ∀ (n : Nat) (x5 : Int32) (x6 : Int32) (x7 : Int32) (w : Wd) (q : (Int32 × Int32 × Wd)), X5_knownOf_L2 N x1 x2 x3 x4 n x5 x6 x7 w = some q → Z x 119 [some (vr 5 0), some (vi x1), some (vi x2), some (vi x3), some (vi x4), some (vi q.1), some (vi q.2.1), none, none] [] q.2.2 → Z x 35 [some (vr 5 0), some (vi x1), some (vi x2), some (vi x3), some (vi x4), some (vi x5), some (vi x6), some (vi x7), none] [] w := by
  intro n
  induction n with
  | zero =>
    intro x5 x6 x7 w q h
    cases h
  | succ n ih =>
    intro x5 x6 x7 w q h ke
    rw [X5_knownOf_L2] at h
    refine Z_iload hC (dk d_X5_knownOf 22 rfl) 37 rfl rfl ?_
    refine Z_aload_n hC (dk d_X5_knownOf 23 rfl) 38 rfl rfl rfl ?_
    refine G_X5_125 hC m_5 (dk d_X5_knownOf 24 rfl) 41 rfl ?_
    refine Z_icmp_ge hC (dk d_X5_knownOf 25 rfl) 44 119 rfl (by decide) (fun c => ?_) (fun c => ?_)
    · have h := it_t h c
      obtain rfl := Option.some.inj h
      refine Z_wk [true, true, true, true, true, true, true, false, false] [some (vr 5 0), some (vi x1), some (vi x2), some (vi x3), some (vi x4), some (vi x5), some (vi x6), none, none] rfl ?_
      exact ke
    · have h := it_f h c
      refine Z_aload_n hC (dk d_X5_knownOf 26 rfl) 45 rfl rfl rfl ?_
      refine Z_iload hC (dk d_X5_knownOf 27 rfl) 47 rfl rfl ?_
      refine Z_iload hC (dk d_X5_knownOf 28 rfl) 49 rfl rfl ?_
      obtain ⟨q1, hq1, h⟩ := bd_some h
      refine K_X5_191 [vi x4, vi x7] hC m_5 (s_X5_right (xG x) (xl x) N x4 x7 w q1 hq1) (Nat.le_of_ble_eq_true rfl) rfl rfl rfl (Nat.le_of_ble_eq_true rfl) (dk d_X5_knownOf 29 rfl) 52 rfl ?_
      refine Z_aload_n hC (dk d_X5_knownOf 30 rfl) 53 rfl rfl rfl ?_
      refine Z_iload_n hC (dk d_X5_knownOf 31 rfl) 54 rfl rfl rfl ?_
      refine Z_iload hC (dk d_X5_knownOf 32 rfl) 56 rfl rfl ?_
      obtain ⟨q2, hq2, h⟩ := bd_some h
      refine K_X5_94 [vi x1, vi x7] hC m_5 (s_X5_rowAt (xG x) (xl x) N x1 x7 q1.2 q2 hq2) (Nat.le_of_ble_eq_true rfl) rfl rfl rfl (Nat.le_of_ble_eq_true rfl) (dk d_X5_knownOf 33 rfl) 59 rfl ?_
      refine Z_icmp_ne hC (dk d_X5_knownOf 34 rfl) 62 66 rfl (by decide) (fun c => ?_) (fun c => ?_)
      · have h := it_f h c
        refine Z_iconst (v := 0) hC (dk d_X5_knownOf 37 rfl) 67 rfl (by decide) ?_
        refine Z_wk [true, true, true, true, true, true, true, true, false] [some (vr 5 0), some (vi x1), some (vi x2), some (vi x3), some (vi x4), some (vi x5), some (vi x6), some (vi x7), none] rfl ?_
        exact z_X5_knownOf_J67 hC hr N x1 x2 x3 x4 x5 x6 x7 (0 : Int32) ih q2.2 _ h ke
      · have h := it_t h c
        refine Z_iconst (v := 1) hC (dk d_X5_knownOf 35 rfl) 63 rfl (by decide) ?_
        refine Z_goto hC (dk d_X5_knownOf 36 rfl) 67 (by decide) ?_
        refine Z_wk [true, true, true, true, true, true, true, true, false] [some (vr 5 0), some (vi x1), some (vi x2), some (vi x3), some (vi x4), some (vi x5), some (vi x6), some (vi x7), none] rfl ?_
        exact z_X5_knownOf_J67 hC hr N x1 x2 x3 x4 x5 x6 x7 (1 : Int32) ih q2.2 _ h ke
noncomputable def X5_knownOf_J134 (N : Nat) (go : Int32 → Int32 → Wd → Option (Int32 × Wd)) (x1 : Int32) (x2 : Int32) (x3 : Int32) (x4 : Int32) (x5 : Int32) (x6 : Int32) (s0 : Int32) (s1 : Int32) (w : Wd) : Option (Int32 × Wd) :=
  if x5 = 0 then
    go (x3 &&& x3) (x4 + (1 : Int32)) (sI w 530 0 (s0 + s1))
  else
    go (x3 &&& x6) (x4 + (1 : Int32)) (sI w 530 0 (s0 + s1))
set_option maxRecDepth 20000 in
set_option maxHeartbeats 4000000 in
theorem z_X5_knownOf_J134 {x : CX} (hC : Cx x RX5 cX5_knownOf 9 1) (hr : (xM x).sig.returnType = (some .int)) (N : Nat) (x1 : Int32) (x2 : Int32) (x3 : Int32) (x4 : Int32) (x5 : Int32) (x6 : Int32) (s0 : Int32) (s1 : Int32) {go : Int32 → Int32 → Wd → Option (Int32 × Wd)} (hgo : ∀ (x3 : Int32) (x4 : Int32) (w : Wd) (q : (Int32 × Wd)), go x3 x4 w = some q → Z x 158 [none, none, none, some (vi q.1), none, none, none, none, none] [] q.2 → Z x 17 [some (vr 5 0), some (vi x1), some (vi x2), some (vi x3), some (vi x4), none, none, none, none] [] w) (w : Wd) (q : (Int32 × Wd)) (h : X5_knownOf_J134 N go x1 x2 x3 x4 x5 x6 s0 s1 w = some q) (ke : Z x 158 [none, none, none, some (vi q.1), none, none, none, none, none] [] q.2) : Z x 134 [some (vr 5 0), some (vi x1), some (vi x2), some (vi x3), some (vi x4), some (vi x5), some (vi x6), none, none] [vi s1, vi s0, vr 5 0] w := by
  unfold X5_knownOf_J134 at h
  refine Z_iadd hC (dk d_X5_knownOf 71 rfl) 135 rfl ?_
  refine P_X5_234 hC m_5 (dk d_X5_knownOf 72 rfl) 138 rfl ?_
  refine Z_iload_n hC (dk d_X5_knownOf 73 rfl) 139 rfl rfl rfl ?_
  refine Z_iload hC (dk d_X5_knownOf 74 rfl) 141 rfl rfl ?_
  refine Z_if_eq hC (dk d_X5_knownOf 75 rfl) 144 149 rfl (by decide) (fun c => ?_) (fun c => ?_)
  · have h := it_t h c
    refine Z_iload_n hC (dk d_X5_knownOf 78 rfl) 150 rfl rfl rfl ?_
    refine Z_iand hC (dk d_X5_knownOf 79 rfl) 151 rfl ?_
    refine Z_istore_n hC (dk d_X5_knownOf 80 rfl) 152 rfl rfl (Nat.le_of_ble_eq_true rfl) [some (vr 5 0), some (vi x1), some (vi x2), some (vi (x3 &&& x3)), some (vi x4), some (vi x5), some (vi x6), none, none] rfl ?_
    refine Z_iinc hC (dk d_X5_knownOf 81 rfl) 155 rfl rfl rfl [some (vr 5 0), some (vi x1), some (vi x2), some (vi (x3 &&& x3)), some (vi (x4 + (1 : Int32))), some (vi x5), some (vi x6), none, none] rfl ?_
    refine Z_goto hC (dk d_X5_knownOf 82 rfl) 17 (by decide) ?_
    refine Z_wk [true, true, true, true, true, false, false, false, false] [some (vr 5 0), some (vi x1), some (vi x2), some (vi (x3 &&& x3)), some (vi (x4 + (1 : Int32))), none, none, none, none] rfl ?_
    exact hgo (x3 &&& x3) (x4 + (1 : Int32)) (sI w 530 0 (s0 + s1)) _ h ke
  · have h := it_f h c
    refine Z_iload hC (dk d_X5_knownOf 76 rfl) 146 rfl rfl ?_
    refine Z_goto hC (dk d_X5_knownOf 77 rfl) 150 (by decide) ?_
    refine Z_iand hC (dk d_X5_knownOf 79 rfl) 151 rfl ?_
    refine Z_istore_n hC (dk d_X5_knownOf 80 rfl) 152 rfl rfl (Nat.le_of_ble_eq_true rfl) [some (vr 5 0), some (vi x1), some (vi x2), some (vi (x3 &&& x6)), some (vi x4), some (vi x5), some (vi x6), none, none] rfl ?_
    refine Z_iinc hC (dk d_X5_knownOf 81 rfl) 155 rfl rfl rfl [some (vr 5 0), some (vi x1), some (vi x2), some (vi (x3 &&& x6)), some (vi (x4 + (1 : Int32))), some (vi x5), some (vi x6), none, none] rfl ?_
    refine Z_goto hC (dk d_X5_knownOf 82 rfl) 17 (by decide) ?_
    refine Z_wk [true, true, true, true, true, false, false, false, false] [some (vr 5 0), some (vi x1), some (vi x2), some (vi (x3 &&& x6)), some (vi (x4 + (1 : Int32))), none, none, none, none] rfl ?_
    exact hgo (x3 &&& x6) (x4 + (1 : Int32)) (sI w 530 0 (s0 + s1)) _ h ke
noncomputable def X5_knownOf_L1 (N : Nat) (x1 : Int32) (x2 : Int32) : Nat → Int32 → Int32 → Wd → Option (Int32 × Wd)
  | 0, _, _, _ => none
  | n + 1, x3, x4, w =>
  if (gI w 522 0) ≤ x4 then
    some (x3, w)
  else
    (X5_knownOf_L2 N x1 x2 x3 x4 N (1 : Int32) (0 : Int32) (0 : Int32) w).bind (fun q4 =>
      if q4.1 = 0 then
        X5_knownOf_J134 N (X5_knownOf_L1 N x1 x2 n) x1 x2 x3 x4 q4.1 q4.2.1 (gI q4.2.2 530 0) (0 : Int32) q4.2.2
      else
        X5_knownOf_J134 N (X5_knownOf_L1 N x1 x2 n) x1 x2 x3 x4 q4.1 q4.2.1 (gI q4.2.2 530 0) (1 : Int32) q4.2.2)
set_option maxRecDepth 20000 in
set_option maxHeartbeats 4000000 in
theorem z_X5_knownOf_L1 {x : CX} (hC : Cx x RX5 cX5_knownOf 9 1) (hr : (xM x).sig.returnType = (some .int)) (N : Nat) (x1 : Int32) (x2 : Int32) : ∀ (n : Nat) (x3 : Int32) (x4 : Int32) (w : Wd) (q : (Int32 × Wd)), X5_knownOf_L1 N x1 x2 n x3 x4 w = some q → Z x 158 [none, none, none, some (vi q.1), none, none, none, none, none] [] q.2 → Z x 17 [some (vr 5 0), some (vi x1), some (vi x2), some (vi x3), some (vi x4), none, none, none, none] [] w := by
  intro n
  induction n with
  | zero =>
    intro x3 x4 w q h
    cases h
  | succ n ih =>
    intro x3 x4 w q h ke
    rw [X5_knownOf_L1] at h
    refine Z_iload hC (dk d_X5_knownOf 12 rfl) 19 rfl rfl ?_
    refine Z_aload_n hC (dk d_X5_knownOf 13 rfl) 20 rfl rfl rfl ?_
    refine G_X5_175 hC m_5 (dk d_X5_knownOf 14 rfl) 23 rfl ?_
    refine Z_icmp_ge hC (dk d_X5_knownOf 15 rfl) 26 158 rfl (by decide) (fun c => ?_) (fun c => ?_)
    · have h := it_t h c
      obtain rfl := Option.some.inj h
      refine Z_wk [false, false, false, true, false, false, false, false, false] [none, none, none, some (vi x3), none, none, none, none, none] rfl ?_
      exact ke
    · have h := it_f h c
      refine Z_iconst (v := 1) hC (dk d_X5_knownOf 16 rfl) 27 rfl (by decide) ?_
      refine Z_istore hC (dk d_X5_knownOf 17 rfl) 29 rfl (Nat.le_of_ble_eq_true rfl) [some (vr 5 0), some (vi x1), some (vi x2), some (vi x3), some (vi x4), some (vi (1 : Int32)), none, none, none] rfl ?_
      refine Z_iconst (v := 0) hC (dk d_X5_knownOf 18 rfl) 30 rfl (by decide) ?_
      refine Z_istore hC (dk d_X5_knownOf 19 rfl) 32 rfl (Nat.le_of_ble_eq_true rfl) [some (vr 5 0), some (vi x1), some (vi x2), some (vi x3), some (vi x4), some (vi (1 : Int32)), some (vi (0 : Int32)), none, none] rfl ?_
      refine Z_iconst (v := 0) hC (dk d_X5_knownOf 20 rfl) 33 rfl (by decide) ?_
      refine Z_istore hC (dk d_X5_knownOf 21 rfl) 35 rfl (Nat.le_of_ble_eq_true rfl) [some (vr 5 0), some (vi x1), some (vi x2), some (vi x3), some (vi x4), some (vi (1 : Int32)), some (vi (0 : Int32)), some (vi (0 : Int32)), none] rfl ?_
      obtain ⟨q4, hq4, h⟩ := bd_some h
      refine Z_wk [true, true, true, true, true, true, true, true, false] [some (vr 5 0), some (vi x1), some (vi x2), some (vi x3), some (vi x4), some (vi (1 : Int32)), some (vi (0 : Int32)), some (vi (0 : Int32)), none] rfl ?_
      refine z_X5_knownOf_L2 hC hr N x1 x2 x3 x4 N (1 : Int32) (0 : Int32) (0 : Int32) w q4 hq4 ?_
      refine Z_aload_n hC (dk d_X5_knownOf 63 rfl) 120 rfl rfl rfl ?_
      refine Z_dup hC (dk d_X5_knownOf 64 rfl) 121 rfl rfl ?_
      refine G_X5_234 hC m_5 (dk d_X5_knownOf 65 rfl) 124 rfl ?_
      refine Z_iload hC (dk d_X5_knownOf 66 rfl) 126 rfl rfl ?_
      refine Z_if_eq hC (dk d_X5_knownOf 67 rfl) 129 133 rfl (by decide) (fun c => ?_) (fun c => ?_)
      · have h := it_t h c
        refine Z_iconst (v := 0) hC (dk d_X5_knownOf 70 rfl) 134 rfl (by decide) ?_
        refine Z_wk [true, true, true, true, true, true, true, false, false] [some (vr 5 0), some (vi x1), some (vi x2), some (vi x3), some (vi x4), some (vi q4.1), some (vi q4.2.1), none, none] rfl ?_
        exact z_X5_knownOf_J134 hC hr N x1 x2 x3 x4 q4.1 q4.2.1 (gI q4.2.2 530 0) (0 : Int32) ih q4.2.2 _ h ke
      · have h := it_f h c
        refine Z_iconst (v := 1) hC (dk d_X5_knownOf 68 rfl) 130 rfl (by decide) ?_
        refine Z_goto hC (dk d_X5_knownOf 69 rfl) 134 (by decide) ?_
        refine Z_wk [true, true, true, true, true, true, true, false, false] [some (vr 5 0), some (vi x1), some (vi x2), some (vi x3), some (vi x4), some (vi q4.1), some (vi q4.2.1), none, none] rfl ?_
        exact z_X5_knownOf_J134 hC hr N x1 x2 x3 x4 q4.1 q4.2.1 (gI q4.2.2 530 0) (1 : Int32) ih q4.2.2 _ h ke
noncomputable def f_X5_knownOf (N : Nat) (a1 : Int32) (a2 : Int32) (w : Wd) : Option (Int32 × Wd) :=
  (X5_knownOf_L1 N a1 a2 N (((1 : Int32) <<< ((gI (sI w 530 0 (0 : Int32)) 510 0) &&& (31 : Int32))) - (1 : Int32)) (0 : Int32) (sI w 530 0 (0 : Int32))).bind (fun q5 =>
    some (q5.1, q5.2))
set_option maxRecDepth 20000 in
set_option maxHeartbeats 4000000 in
theorem s_X5_knownOf (G : GT) (l : Launch) (N : Nat) (a1 : Int32) (a2 : Int32) (w : Wd) (q : Int32 × Wd) (h : f_X5_knownOf N a1 a2 w = some q) : Sp G l yX5_knownOf cw_X5_knownOf 1 [vr 5 0, vi a1, vi a2] w (some (vi q.1)) q.2 := by
  refine Sp_of (own := RX5) [some (vr 5 0), some (vi a1), some (vi a2), none, none, none, none, none, none] (by decide) rfl rfl (Nat.le_of_ble_eq_true rfl) ?_
  intro x hG hl hC hr hQ _ _
  subst hG
  subst hl
  unfold f_X5_knownOf at h
  refine Z_aload_n hC (dk d_X5_knownOf 0 rfl) 1 rfl rfl rfl ?_
  refine Z_iconst (v := 0) hC (dk d_X5_knownOf 1 rfl) 2 rfl (by decide) ?_
  refine P_X5_234 hC m_5 (dk d_X5_knownOf 2 rfl) 5 rfl ?_
  refine Z_iconst (v := 1) hC (dk d_X5_knownOf 3 rfl) 6 rfl (by decide) ?_
  refine Z_aload_n hC (dk d_X5_knownOf 4 rfl) 7 rfl rfl rfl ?_
  refine G_X5_125 hC m_5 (dk d_X5_knownOf 5 rfl) 10 rfl ?_
  refine Z_ishl hC (dk d_X5_knownOf 6 rfl) 11 rfl ?_
  refine Z_iconst (v := 1) hC (dk d_X5_knownOf 7 rfl) 12 rfl (by decide) ?_
  refine Z_isub hC (dk d_X5_knownOf 8 rfl) 13 rfl ?_
  refine Z_istore_n hC (dk d_X5_knownOf 9 rfl) 14 rfl rfl (Nat.le_of_ble_eq_true rfl) [some (vr 5 0), some (vi a1), some (vi a2), some (vi (((1 : Int32) <<< ((gI (sI w 530 0 (0 : Int32)) 510 0) &&& (31 : Int32))) - (1 : Int32))), none, none, none, none, none] rfl ?_
  refine Z_iconst (v := 0) hC (dk d_X5_knownOf 10 rfl) 15 rfl (by decide) ?_
  refine Z_istore hC (dk d_X5_knownOf 11 rfl) 17 rfl (Nat.le_of_ble_eq_true rfl) [some (vr 5 0), some (vi a1), some (vi a2), some (vi (((1 : Int32) <<< ((gI (sI w 530 0 (0 : Int32)) 510 0) &&& (31 : Int32))) - (1 : Int32))), some (vi (0 : Int32)), none, none, none, none] rfl ?_
  obtain ⟨q5, hq5, h⟩ := bd_some h
  refine Z_wk [true, true, true, true, true, false, false, false, false] [some (vr 5 0), some (vi a1), some (vi a2), some (vi (((1 : Int32) <<< ((gI (sI w 530 0 (0 : Int32)) 510 0) &&& (31 : Int32))) - (1 : Int32))), some (vi (0 : Int32)), none, none, none, none] rfl ?_
  refine z_X5_knownOf_L1 hC hr N a1 a2 N (((1 : Int32) <<< ((gI (sI w 530 0 (0 : Int32)) 510 0) &&& (31 : Int32))) - (1 : Int32)) (0 : Int32) (sI w 530 0 (0 : Int32)) q5 hq5 ?_
  refine Z_iload_n hC (dk d_X5_knownOf 83 rfl) 159 rfl rfl rfl ?_
  obtain rfl := Option.some.inj h
  exact Z_ireturn (st := []) hC hr hQ (dk d_X5_knownOf 84 rfl)
def t_X5_askedTelling : List (Nat × Instr × Nat) := [(0, .iload_n 1, 1), (1, .invokestatic 76, 3), (4, .ifCond .eq 11, 3), (7, .aload_n 0, 1), (8, .iload_n 2, 1), (9, .invokevirtual 237, 3), (12, .ifCond .ne 7, 3), (15, .iconst (-1), 1), (16, .goto 8, 3), (19, .aload_n 0, 1), (20, .iload_n 1, 1), (21, .invokevirtual 240, 3), (24, .ireturn, 1)]
set_option maxRecDepth 20000 in
theorem d_X5_askedTelling : ∀ q ∈ t_X5_askedTelling, decode cX5_askedTelling q.1 = .ok q.2 := by decide +kernel
noncomputable def f_X5_askedTelling (N : Nat) (a1 : Int32) (a2 : Int32) (w : Wd) : Option (Int32 × Wd) :=
  (f_X5_isRow N a1 w).bind (fun q1 =>
    if q1.1 = 0 then
      some ((-1 : Int32), q1.2)
    else
      (f_X5_isSet N a2 q1.2).bind (fun q2 =>
        if q2.1 = 0 then
          some ((-1 : Int32), q2.2)
        else
          (f_X5_askedRight N a1 q2.2).bind (fun q3 =>
            some (q3.1, q3.2))))
set_option maxRecDepth 20000 in
set_option maxHeartbeats 4000000 in
theorem s_X5_askedTelling (G : GT) (l : Launch) (N : Nat) (a1 : Int32) (a2 : Int32) (w : Wd) (q : Int32 × Wd) (h : f_X5_askedTelling N a1 a2 w = some q) : Sp G l yX5_askedTelling cw_X5_askedTelling 15 [vr 5 0, vi a1, vi a2] w (some (vi q.1)) q.2 := by
  refine Sp_of (own := RX5) [some (vr 5 0), some (vi a1), some (vi a2)] (by decide) rfl rfl (Nat.le_of_ble_eq_true rfl) ?_
  intro x hG hl hC hr hQ _ _
  subst hG
  subst hl
  unfold f_X5_askedTelling at h
  refine Z_iload_n hC (dk d_X5_askedTelling 0 rfl) 1 rfl rfl rfl ?_
  obtain ⟨q1, hq1, h⟩ := bd_some h
  refine K_X5_76 [vi a1] hC (s_X5_isRow (xG x) (xl x) N a1 w q1 hq1) (Nat.le_of_ble_eq_true rfl) rfl rfl rfl (Nat.le_of_ble_eq_true rfl) (dk d_X5_askedTelling 1 rfl) 4 rfl ?_
  refine Z_if_eq hC (dk d_X5_askedTelling 2 rfl) 7 15 rfl (by decide) (fun c => ?_) (fun c => ?_)
  · have h := it_t h c
    refine Z_iconst (v := -1) hC (dk d_X5_askedTelling 7 rfl) 16 rfl (by decide) ?_
    refine Z_goto hC (dk d_X5_askedTelling 8 rfl) 24 (by decide) ?_
    obtain rfl := Option.some.inj h
    exact Z_ireturn (st := []) hC hr hQ (dk d_X5_askedTelling 12 rfl)
  · have h := it_f h c
    refine Z_aload_n hC (dk d_X5_askedTelling 3 rfl) 8 rfl rfl rfl ?_
    refine Z_iload_n hC (dk d_X5_askedTelling 4 rfl) 9 rfl rfl rfl ?_
    obtain ⟨q2, hq2, h⟩ := bd_some h
    refine K_X5_237 [vi a2] hC m_5 (s_X5_isSet (xG x) (xl x) N a2 q1.2 q2 hq2) (Nat.le_of_ble_eq_true rfl) rfl rfl rfl (Nat.le_of_ble_eq_true rfl) (dk d_X5_askedTelling 5 rfl) 12 rfl ?_
    refine Z_if_ne hC (dk d_X5_askedTelling 6 rfl) 15 19 rfl (by decide) (fun c => ?_) (fun c => ?_)
    · have h := it_f h c
      refine Z_aload_n hC (dk d_X5_askedTelling 9 rfl) 20 rfl rfl rfl ?_
      refine Z_iload_n hC (dk d_X5_askedTelling 10 rfl) 21 rfl rfl rfl ?_
      obtain ⟨q3, hq3, h⟩ := bd_some h
      refine K_X5_240 [vi a1] hC m_5 (s_X5_askedRight (xG x) (xl x) N a1 q2.2 q3 hq3) (Nat.le_of_ble_eq_true rfl) rfl rfl rfl (Nat.le_of_ble_eq_true rfl) (dk d_X5_askedTelling 11 rfl) 24 rfl ?_
      obtain rfl := Option.some.inj h
      exact Z_ireturn (st := []) hC hr hQ (dk d_X5_askedTelling 12 rfl)
    · have h := it_t h c
      refine Z_iconst (v := -1) hC (dk d_X5_askedTelling 7 rfl) 16 rfl (by decide) ?_
      refine Z_goto hC (dk d_X5_askedTelling 8 rfl) 24 (by decide) ?_
      obtain rfl := Option.some.inj h
      exact Z_ireturn (st := []) hC hr hQ (dk d_X5_askedTelling 12 rfl)
def t_X5_fits : List (Nat × Instr × Nat) := [(0, .aload_n 0, 1), (1, .iload_n 1, 1), (2, .iload_n 2, 1), (3, .invokevirtual 243, 3), (6, .istore_n 3, 1), (7, .iload_n 3, 1), (8, .ifCond .ge 5, 3), (11, .iload_n 3, 1), (12, .ireturn, 1), (13, .aload_n 0, 1), (14, .iload_n 1, 1), (15, .iload_n 2, 1), (16, .invokevirtual 246, 3), (19, .pop, 1), (20, .aload_n 0, 1), (21, .getfield 234, 3), (24, .ireturn, 1)]
set_option maxRecDepth 20000 in
theorem d_X5_fits : ∀ q ∈ t_X5_fits, decode cX5_fits q.1 = .ok q.2 := by decide +kernel
noncomputable def f_X5_fits (N : Nat) (a1 : Int32) (a2 : Int32) (w : Wd) : Option (Int32 × Wd) :=
  (f_X5_askedTelling N a1 a2 w).bind (fun q1 =>
    if 0 ≤ q1.1 then
      (f_X5_knownOf N a1 a2 q1.2).bind (fun q2 =>
        some (gI q2.2 530 0, q2.2))
    else
      some (q1.1, q1.2))
set_option maxRecDepth 20000 in
set_option maxHeartbeats 4000000 in
theorem s_X5_fits (G : GT) (l : Launch) (N : Nat) (a1 : Int32) (a2 : Int32) (w : Wd) (q : Int32 × Wd) (h : f_X5_fits N a1 a2 w = some q) : Sp G l yX5_fits cw_X5_fits 16 [vr 5 0, vi a1, vi a2] w (some (vi q.1)) q.2 := by
  refine Sp_of (own := RX5) [some (vr 5 0), some (vi a1), some (vi a2), none] (by decide) rfl rfl (Nat.le_of_ble_eq_true rfl) ?_
  intro x hG hl hC hr hQ _ _
  subst hG
  subst hl
  unfold f_X5_fits at h
  refine Z_aload_n hC (dk d_X5_fits 0 rfl) 1 rfl rfl rfl ?_
  refine Z_iload_n hC (dk d_X5_fits 1 rfl) 2 rfl rfl rfl ?_
  refine Z_iload_n hC (dk d_X5_fits 2 rfl) 3 rfl rfl rfl ?_
  obtain ⟨q1, hq1, h⟩ := bd_some h
  refine K_X5_243 [vi a1, vi a2] hC m_5 (s_X5_askedTelling (xG x) (xl x) N a1 a2 w q1 hq1) (Nat.le_of_ble_eq_true rfl) rfl rfl rfl (Nat.le_of_ble_eq_true rfl) (dk d_X5_fits 3 rfl) 6 rfl ?_
  refine Z_istore_n hC (dk d_X5_fits 4 rfl) 7 rfl rfl (Nat.le_of_ble_eq_true rfl) [some (vr 5 0), some (vi a1), some (vi a2), some (vi q1.1)] rfl ?_
  refine Z_iload_n hC (dk d_X5_fits 5 rfl) 8 rfl rfl rfl ?_
  refine Z_if_ge hC (dk d_X5_fits 6 rfl) 11 13 rfl (by decide) (fun c => ?_) (fun c => ?_)
  · have h := it_t h c
    refine Z_aload_n hC (dk d_X5_fits 9 rfl) 14 rfl rfl rfl ?_
    refine Z_iload_n hC (dk d_X5_fits 10 rfl) 15 rfl rfl rfl ?_
    refine Z_iload_n hC (dk d_X5_fits 11 rfl) 16 rfl rfl rfl ?_
    obtain ⟨q2, hq2, h⟩ := bd_some h
    refine K_X5_246 [vi a1, vi a2] hC m_5 (s_X5_knownOf (xG x) (xl x) N a1 a2 q1.2 q2 hq2) (Nat.le_of_ble_eq_true rfl) rfl rfl rfl (Nat.le_of_ble_eq_true rfl) (dk d_X5_fits 12 rfl) 19 rfl ?_
    refine Z_pop hC (dk d_X5_fits 13 rfl) 20 rfl rfl ?_
    refine Z_aload_n hC (dk d_X5_fits 14 rfl) 21 rfl rfl rfl ?_
    refine G_X5_234 hC m_5 (dk d_X5_fits 15 rfl) 24 rfl ?_
    obtain rfl := Option.some.inj h
    exact Z_ireturn (st := []) hC hr hQ (dk d_X5_fits 16 rfl)
  · have h := it_f h c
    refine Z_iload_n hC (dk d_X5_fits 7 rfl) 12 rfl rfl rfl ?_
    obtain rfl := Option.some.inj h
    exact Z_ireturn (st := []) hC hr hQ (dk d_X5_fits 8 rfl)
def t_X5_known : List (Nat × Instr × Nat) := [(0, .aload_n 0, 1), (1, .iload_n 1, 1), (2, .iload_n 2, 1), (3, .invokevirtual 243, 3), (6, .istore_n 3, 1), (7, .iload_n 3, 1), (8, .ifCond .ge 7, 3), (11, .iload_n 3, 1), (12, .goto 13, 3), (15, .aload_n 0, 1), (16, .iload_n 1, 1), (17, .iload_n 2, 1), (18, .invokevirtual 246, 3), (21, .iload_n 2, 1), (22, .iconst (-1), 1), (23, .ixor, 1), (24, .iand, 1), (25, .ireturn, 1)]
set_option maxRecDepth 20000 in
theorem d_X5_known : ∀ q ∈ t_X5_known, decode cX5_known q.1 = .ok q.2 := by decide +kernel
noncomputable def f_X5_known (N : Nat) (a1 : Int32) (a2 : Int32) (w : Wd) : Option (Int32 × Wd) :=
  (f_X5_askedTelling N a1 a2 w).bind (fun q1 =>
    if 0 ≤ q1.1 then
      (f_X5_knownOf N a1 a2 q1.2).bind (fun q2 =>
        some (q2.1 &&& (a2 ^^^ (-1 : Int32)), q2.2))
    else
      some (q1.1, q1.2))
set_option maxRecDepth 20000 in
set_option maxHeartbeats 4000000 in
theorem s_X5_known (G : GT) (l : Launch) (N : Nat) (a1 : Int32) (a2 : Int32) (w : Wd) (q : Int32 × Wd) (h : f_X5_known N a1 a2 w = some q) : Sp G l yX5_known cw_X5_known 16 [vr 5 0, vi a1, vi a2] w (some (vi q.1)) q.2 := by
  refine Sp_of (own := RX5) [some (vr 5 0), some (vi a1), some (vi a2), none] (by decide) rfl rfl (Nat.le_of_ble_eq_true rfl) ?_
  intro x hG hl hC hr hQ _ _
  subst hG
  subst hl
  unfold f_X5_known at h
  refine Z_aload_n hC (dk d_X5_known 0 rfl) 1 rfl rfl rfl ?_
  refine Z_iload_n hC (dk d_X5_known 1 rfl) 2 rfl rfl rfl ?_
  refine Z_iload_n hC (dk d_X5_known 2 rfl) 3 rfl rfl rfl ?_
  obtain ⟨q1, hq1, h⟩ := bd_some h
  refine K_X5_243 [vi a1, vi a2] hC m_5 (s_X5_askedTelling (xG x) (xl x) N a1 a2 w q1 hq1) (Nat.le_of_ble_eq_true rfl) rfl rfl rfl (Nat.le_of_ble_eq_true rfl) (dk d_X5_known 3 rfl) 6 rfl ?_
  refine Z_istore_n hC (dk d_X5_known 4 rfl) 7 rfl rfl (Nat.le_of_ble_eq_true rfl) [some (vr 5 0), some (vi a1), some (vi a2), some (vi q1.1)] rfl ?_
  refine Z_iload_n hC (dk d_X5_known 5 rfl) 8 rfl rfl rfl ?_
  refine Z_if_ge hC (dk d_X5_known 6 rfl) 11 15 rfl (by decide) (fun c => ?_) (fun c => ?_)
  · have h := it_t h c
    refine Z_aload_n hC (dk d_X5_known 9 rfl) 16 rfl rfl rfl ?_
    refine Z_iload_n hC (dk d_X5_known 10 rfl) 17 rfl rfl rfl ?_
    refine Z_iload_n hC (dk d_X5_known 11 rfl) 18 rfl rfl rfl ?_
    obtain ⟨q2, hq2, h⟩ := bd_some h
    refine K_X5_246 [vi a1, vi a2] hC m_5 (s_X5_knownOf (xG x) (xl x) N a1 a2 q1.2 q2 hq2) (Nat.le_of_ble_eq_true rfl) rfl rfl rfl (Nat.le_of_ble_eq_true rfl) (dk d_X5_known 12 rfl) 21 rfl ?_
    refine Z_iload_n hC (dk d_X5_known 13 rfl) 22 rfl rfl rfl ?_
    refine Z_iconst (v := -1) hC (dk d_X5_known 14 rfl) 23 rfl (by decide) ?_
    refine Z_ixor hC (dk d_X5_known 15 rfl) 24 rfl ?_
    refine Z_iand hC (dk d_X5_known 16 rfl) 25 rfl ?_
    obtain rfl := Option.some.inj h
    exact Z_ireturn (st := []) hC hr hQ (dk d_X5_known 17 rfl)
  · have h := it_f h c
    refine Z_iload_n hC (dk d_X5_known 7 rfl) 12 rfl rfl rfl ?_
    refine Z_goto hC (dk d_X5_known 8 rfl) 25 (by decide) ?_
    obtain rfl := Option.some.inj h
    exact Z_ireturn (st := []) hC hr hQ (dk d_X5_known 17 rfl)
def t_X5_still : List (Nat × Instr × Nat) := [(0, .aload_n 0, 1), (1, .iload_n 1, 1), (2, .iload_n 2, 1), (3, .invokevirtual 243, 3), (6, .istore_n 3, 1), (7, .iload_n 3, 1), (8, .ifCond .ge 5, 3), (11, .iload_n 3, 1), (12, .ireturn, 1), (13, .bipush (-9), 2), (15, .istore 4, 2), (17, .iconst 0, 1), (18, .istore 5, 2), (20, .iconst 0, 1), (21, .istore 6, 2), (23, .iload 6, 2), (25, .aload_n 0, 1), (26, .getfield 125, 3), (29, .if_icmp .ge 70, 3), (32, .iload_n 2, 1), (33, .iload 6, 2), (35, .invokestatic 147, 3), (38, .ifCond .eq 55, 3), (41, .aload_n 0, 1), (42, .iload_n 1, 1), (43, .iload_n 2, 1), (44, .iconst 1, 1), (45, .iload 6, 2), (47, .ishl, 1), (48, .iconst (-1), 1), (49, .ixor, 1), (50, .iand, 1), (51, .invokevirtual 246, 3), (54, .pop, 1), (55, .aload_n 0, 1), (56, .getfield 234, 3), (59, .iload 5, 2), (61, .if_icmp .le 8, 3), (64, .iload 6, 2), (66, .goto 5, 3), (69, .iload 4, 2), (71, .istore 4, 2), (73, .aload_n 0, 1), (74, .getfield 234, 3), (77, .iload 5, 2), (79, .if_icmp .le 10, 3), (82, .aload_n 0, 1), (83, .getfield 234, 3), (86, .goto 5, 3), (89, .iload 5, 2), (91, .istore 5, 2), (93, .iinc 6 1, 3), (96, .goto (-73), 3), (99, .iload 4, 2), (101, .bipush (-9), 2), (103, .if_icmp .ne 8, 3), (106, .bipush (-9), 2), (108, .goto 11, 3), (111, .aload_n 0, 1), (112, .iload 5, 2), (114, .iload 4, 2), (116, .invokevirtual 98, 3), (119, .ireturn, 1)]
set_option maxRecDepth 20000 in
theorem d_X5_still : ∀ q ∈ t_X5_still, decode cX5_still q.1 = .ok q.2 := by decide +kernel
noncomputable def X5_still_J71 (N : Nat) (go : Int32 → Int32 → Int32 → Wd → Option (Int32 × Int32 × Wd)) (x1 : Int32) (x2 : Int32) (x5 : Int32) (x6 : Int32) (s0 : Int32) (w : Wd) : Option (Int32 × Int32 × Wd) :=
  if (gI w 530 0) ≤ x5 then
    go s0 x5 (x6 + (1 : Int32)) w
  else
    go s0 (gI w 530 0) (x6 + (1 : Int32)) w
set_option maxRecDepth 20000 in
set_option maxHeartbeats 4000000 in
theorem z_X5_still_J71 {x : CX} (hC : Cx x RX5 cX5_still 7 16) (hr : (xM x).sig.returnType = (some .int)) (N : Nat) (x1 : Int32) (x2 : Int32) (x5 : Int32) (x6 : Int32) (s0 : Int32) {go : Int32 → Int32 → Int32 → Wd → Option (Int32 × Int32 × Wd)} (hgo : ∀ (x4 : Int32) (x5 : Int32) (x6 : Int32) (w : Wd) (q : (Int32 × Int32 × Wd)), go x4 x5 x6 w = some q → Z x 99 [some (vr 5 0), none, none, none, some (vi q.1), some (vi q.2.1), none] [] q.2.2 → Z x 23 [some (vr 5 0), some (vi x1), some (vi x2), none, some (vi x4), some (vi x5), some (vi x6)] [] w) (w : Wd) (q : (Int32 × Int32 × Wd)) (h : X5_still_J71 N go x1 x2 x5 x6 s0 w = some q) (ke : Z x 99 [some (vr 5 0), none, none, none, some (vi q.1), some (vi q.2.1), none] [] q.2.2) : Z x 71 [some (vr 5 0), some (vi x1), some (vi x2), none, none, some (vi x5), some (vi x6)] [vi s0] w := by
  unfold X5_still_J71 at h
  refine Z_istore hC (dk d_X5_still 41 rfl) 73 rfl (Nat.le_of_ble_eq_true rfl) [some (vr 5 0), some (vi x1), some (vi x2), none, some (vi s0), some (vi x5), some (vi x6)] rfl ?_
  refine Z_aload_n hC (dk d_X5_still 42 rfl) 74 rfl rfl rfl ?_
  refine G_X5_234 hC m_5 (dk d_X5_still 43 rfl) 77 rfl ?_
  refine Z_iload hC (dk d_X5_still 44 rfl) 79 rfl rfl ?_
  refine Z_icmp_le hC (dk d_X5_still 45 rfl) 82 89 rfl (by decide) (fun c => ?_) (fun c => ?_)
  · have h := it_t h c
    refine Z_iload hC (dk d_X5_still 49 rfl) 91 rfl rfl ?_
    refine Z_istore hC (dk d_X5_still 50 rfl) 93 rfl (Nat.le_of_ble_eq_true rfl) [some (vr 5 0), some (vi x1), some (vi x2), none, some (vi s0), some (vi x5), some (vi x6)] rfl ?_
    refine Z_iinc hC (dk d_X5_still 51 rfl) 96 rfl rfl rfl [some (vr 5 0), some (vi x1), some (vi x2), none, some (vi s0), some (vi x5), some (vi (x6 + (1 : Int32)))] rfl ?_
    refine Z_goto hC (dk d_X5_still 52 rfl) 23 (by decide) ?_
    refine Z_wk [true, true, true, false, true, true, true] [some (vr 5 0), some (vi x1), some (vi x2), none, some (vi s0), some (vi x5), some (vi (x6 + (1 : Int32)))] rfl ?_
    exact hgo s0 x5 (x6 + (1 : Int32)) w _ h ke
  · have h := it_f h c
    refine Z_aload_n hC (dk d_X5_still 46 rfl) 83 rfl rfl rfl ?_
    refine G_X5_234 hC m_5 (dk d_X5_still 47 rfl) 86 rfl ?_
    refine Z_goto hC (dk d_X5_still 48 rfl) 91 (by decide) ?_
    refine Z_istore hC (dk d_X5_still 50 rfl) 93 rfl (Nat.le_of_ble_eq_true rfl) [some (vr 5 0), some (vi x1), some (vi x2), none, some (vi s0), some (vi (gI w 530 0)), some (vi x6)] rfl ?_
    refine Z_iinc hC (dk d_X5_still 51 rfl) 96 rfl rfl rfl [some (vr 5 0), some (vi x1), some (vi x2), none, some (vi s0), some (vi (gI w 530 0)), some (vi (x6 + (1 : Int32)))] rfl ?_
    refine Z_goto hC (dk d_X5_still 52 rfl) 23 (by decide) ?_
    refine Z_wk [true, true, true, false, true, true, true] [some (vr 5 0), some (vi x1), some (vi x2), none, some (vi s0), some (vi (gI w 530 0)), some (vi (x6 + (1 : Int32)))] rfl ?_
    exact hgo s0 (gI w 530 0) (x6 + (1 : Int32)) w _ h ke
noncomputable def X5_still_L1 (N : Nat) (x1 : Int32) (x2 : Int32) : Nat → Int32 → Int32 → Int32 → Wd → Option (Int32 × Int32 × Wd)
  | 0, _, _, _, _ => none
  | n + 1, x4, x5, x6, w =>
  if (gI w 510 0) ≤ x6 then
    some (x4, x5, w)
  else
    (f_X5_has N x2 x6 w).bind (fun q2 =>
      if q2.1 = 0 then
        X5_still_L1 N x1 x2 n x4 x5 (x6 + (1 : Int32)) q2.2
      else
        (f_X5_knownOf N x1 (x2 &&& (((1 : Int32) <<< (x6 &&& (31 : Int32))) ^^^ (-1 : Int32))) q2.2).bind (fun q3 =>
          if (gI q3.2 530 0) ≤ x5 then
            X5_still_J71 N (X5_still_L1 N x1 x2 n) x1 x2 x5 x6 x4 q3.2
          else
            X5_still_J71 N (X5_still_L1 N x1 x2 n) x1 x2 x5 x6 x6 q3.2))
set_option maxRecDepth 20000 in
set_option maxHeartbeats 4000000 in
theorem z_X5_still_L1 {x : CX} (hC : Cx x RX5 cX5_still 7 16) (hr : (xM x).sig.returnType = (some .int)) (N : Nat) (x1 : Int32) (x2 : Int32) : ∀ (n : Nat) (x4 : Int32) (x5 : Int32) (x6 : Int32) (w : Wd) (q : (Int32 × Int32 × Wd)), X5_still_L1 N x1 x2 n x4 x5 x6 w = some q → Z x 99 [some (vr 5 0), none, none, none, some (vi q.1), some (vi q.2.1), none] [] q.2.2 → Z x 23 [some (vr 5 0), some (vi x1), some (vi x2), none, some (vi x4), some (vi x5), some (vi x6)] [] w := by
  intro n
  induction n with
  | zero =>
    intro x4 x5 x6 w q h
    cases h
  | succ n ih =>
    intro x4 x5 x6 w q h ke
    rw [X5_still_L1] at h
    refine Z_iload hC (dk d_X5_still 15 rfl) 25 rfl rfl ?_
    refine Z_aload_n hC (dk d_X5_still 16 rfl) 26 rfl rfl rfl ?_
    refine G_X5_125 hC m_5 (dk d_X5_still 17 rfl) 29 rfl ?_
    refine Z_icmp_ge hC (dk d_X5_still 18 rfl) 32 99 rfl (by decide) (fun c => ?_) (fun c => ?_)
    · have h := it_t h c
      obtain rfl := Option.some.inj h
      refine Z_wk [true, false, false, false, true, true, false] [some (vr 5 0), none, none, none, some (vi x4), some (vi x5), none] rfl ?_
      exact ke
    · have h := it_f h c
      refine Z_iload_n hC (dk d_X5_still 19 rfl) 33 rfl rfl rfl ?_
      refine Z_iload hC (dk d_X5_still 20 rfl) 35 rfl rfl ?_
      obtain ⟨q2, hq2, h⟩ := bd_some h
      refine K_X5_147 [vi x2, vi x6] hC (s_X5_has (xG x) (xl x) N x2 x6 w q2 hq2) (Nat.le_of_ble_eq_true rfl) rfl rfl rfl (Nat.le_of_ble_eq_true rfl) (dk d_X5_still 21 rfl) 38 rfl ?_
      refine Z_if_eq hC (dk d_X5_still 22 rfl) 41 93 rfl (by decide) (fun c => ?_) (fun c => ?_)
      · have h := it_t h c
        refine Z_iinc hC (dk d_X5_still 51 rfl) 96 rfl rfl rfl [some (vr 5 0), some (vi x1), some (vi x2), none, some (vi x4), some (vi x5), some (vi (x6 + (1 : Int32)))] rfl ?_
        refine Z_goto hC (dk d_X5_still 52 rfl) 23 (by decide) ?_
        refine Z_wk [true, true, true, false, true, true, true] [some (vr 5 0), some (vi x1), some (vi x2), none, some (vi x4), some (vi x5), some (vi (x6 + (1 : Int32)))] rfl ?_
        exact ih x4 x5 (x6 + (1 : Int32)) q2.2 _ h ke
      · have h := it_f h c
        refine Z_aload_n hC (dk d_X5_still 23 rfl) 42 rfl rfl rfl ?_
        refine Z_iload_n hC (dk d_X5_still 24 rfl) 43 rfl rfl rfl ?_
        refine Z_iload_n hC (dk d_X5_still 25 rfl) 44 rfl rfl rfl ?_
        refine Z_iconst (v := 1) hC (dk d_X5_still 26 rfl) 45 rfl (by decide) ?_
        refine Z_iload hC (dk d_X5_still 27 rfl) 47 rfl rfl ?_
        refine Z_ishl hC (dk d_X5_still 28 rfl) 48 rfl ?_
        refine Z_iconst (v := -1) hC (dk d_X5_still 29 rfl) 49 rfl (by decide) ?_
        refine Z_ixor hC (dk d_X5_still 30 rfl) 50 rfl ?_
        refine Z_iand hC (dk d_X5_still 31 rfl) 51 rfl ?_
        obtain ⟨q3, hq3, h⟩ := bd_some h
        refine K_X5_246 [vi x1, vi (x2 &&& (((1 : Int32) <<< (x6 &&& (31 : Int32))) ^^^ (-1 : Int32)))] hC m_5 (s_X5_knownOf (xG x) (xl x) N x1 (x2 &&& (((1 : Int32) <<< (x6 &&& (31 : Int32))) ^^^ (-1 : Int32))) q2.2 q3 hq3) (Nat.le_of_ble_eq_true rfl) rfl rfl rfl (Nat.le_of_ble_eq_true rfl) (dk d_X5_still 32 rfl) 54 rfl ?_
        refine Z_pop hC (dk d_X5_still 33 rfl) 55 rfl rfl ?_
        refine Z_aload_n hC (dk d_X5_still 34 rfl) 56 rfl rfl rfl ?_
        refine G_X5_234 hC m_5 (dk d_X5_still 35 rfl) 59 rfl ?_
        refine Z_iload hC (dk d_X5_still 36 rfl) 61 rfl rfl ?_
        refine Z_icmp_le hC (dk d_X5_still 37 rfl) 64 69 rfl (by decide) (fun c => ?_) (fun c => ?_)
        · have h := it_t h c
          refine Z_iload hC (dk d_X5_still 40 rfl) 71 rfl rfl ?_
          refine Z_wk [true, true, true, false, false, true, true] [some (vr 5 0), some (vi x1), some (vi x2), none, none, some (vi x5), some (vi x6)] rfl ?_
          exact z_X5_still_J71 hC hr N x1 x2 x5 x6 x4 ih q3.2 _ h ke
        · have h := it_f h c
          refine Z_iload hC (dk d_X5_still 38 rfl) 66 rfl rfl ?_
          refine Z_goto hC (dk d_X5_still 39 rfl) 71 (by decide) ?_
          refine Z_wk [true, true, true, false, false, true, true] [some (vr 5 0), some (vi x1), some (vi x2), none, none, some (vi x5), some (vi x6)] rfl ?_
          exact z_X5_still_J71 hC hr N x1 x2 x5 x6 x6 ih q3.2 _ h ke
noncomputable def f_X5_still (N : Nat) (a1 : Int32) (a2 : Int32) (w : Wd) : Option (Int32 × Wd) :=
  (f_X5_askedTelling N a1 a2 w).bind (fun q1 =>
    if 0 ≤ q1.1 then
      (X5_still_L1 N a1 a2 N (-9 : Int32) (0 : Int32) (0 : Int32) q1.2).bind (fun q4 =>
        if q4.1 = (-9 : Int32) then
          some ((-9 : Int32), q4.2.2)
        else
          (f_X5_ask N q4.2.1 q4.1 q4.2.2).bind (fun q5 =>
            some (q5.1, q5.2)))
    else
      some (q1.1, q1.2))
set_option maxRecDepth 20000 in
set_option maxHeartbeats 4000000 in
theorem s_X5_still (G : GT) (l : Launch) (N : Nat) (a1 : Int32) (a2 : Int32) (w : Wd) (q : Int32 × Wd) (h : f_X5_still N a1 a2 w = some q) : Sp G l yX5_still cw_X5_still 16 [vr 5 0, vi a1, vi a2] w (some (vi q.1)) q.2 := by
  refine Sp_of (own := RX5) [some (vr 5 0), some (vi a1), some (vi a2), none, none, none, none] (by decide) rfl rfl (Nat.le_of_ble_eq_true rfl) ?_
  intro x hG hl hC hr hQ _ _
  subst hG
  subst hl
  unfold f_X5_still at h
  refine Z_aload_n hC (dk d_X5_still 0 rfl) 1 rfl rfl rfl ?_
  refine Z_iload_n hC (dk d_X5_still 1 rfl) 2 rfl rfl rfl ?_
  refine Z_iload_n hC (dk d_X5_still 2 rfl) 3 rfl rfl rfl ?_
  obtain ⟨q1, hq1, h⟩ := bd_some h
  refine K_X5_243 [vi a1, vi a2] hC m_5 (s_X5_askedTelling (xG x) (xl x) N a1 a2 w q1 hq1) (Nat.le_of_ble_eq_true rfl) rfl rfl rfl (Nat.le_of_ble_eq_true rfl) (dk d_X5_still 3 rfl) 6 rfl ?_
  refine Z_istore_n hC (dk d_X5_still 4 rfl) 7 rfl rfl (Nat.le_of_ble_eq_true rfl) [some (vr 5 0), some (vi a1), some (vi a2), some (vi q1.1), none, none, none] rfl ?_
  refine Z_iload_n hC (dk d_X5_still 5 rfl) 8 rfl rfl rfl ?_
  refine Z_if_ge hC (dk d_X5_still 6 rfl) 11 13 rfl (by decide) (fun c => ?_) (fun c => ?_)
  · have h := it_t h c
    refine Z_bipush (v := -9) hC (dk d_X5_still 9 rfl) 15 rfl (by decide) ?_
    refine Z_istore hC (dk d_X5_still 10 rfl) 17 rfl (Nat.le_of_ble_eq_true rfl) [some (vr 5 0), some (vi a1), some (vi a2), some (vi q1.1), some (vi (-9 : Int32)), none, none] rfl ?_
    refine Z_iconst (v := 0) hC (dk d_X5_still 11 rfl) 18 rfl (by decide) ?_
    refine Z_istore hC (dk d_X5_still 12 rfl) 20 rfl (Nat.le_of_ble_eq_true rfl) [some (vr 5 0), some (vi a1), some (vi a2), some (vi q1.1), some (vi (-9 : Int32)), some (vi (0 : Int32)), none] rfl ?_
    refine Z_iconst (v := 0) hC (dk d_X5_still 13 rfl) 21 rfl (by decide) ?_
    refine Z_istore hC (dk d_X5_still 14 rfl) 23 rfl (Nat.le_of_ble_eq_true rfl) [some (vr 5 0), some (vi a1), some (vi a2), some (vi q1.1), some (vi (-9 : Int32)), some (vi (0 : Int32)), some (vi (0 : Int32))] rfl ?_
    obtain ⟨q4, hq4, h⟩ := bd_some h
    refine Z_wk [true, true, true, false, true, true, true] [some (vr 5 0), some (vi a1), some (vi a2), none, some (vi (-9 : Int32)), some (vi (0 : Int32)), some (vi (0 : Int32))] rfl ?_
    refine z_X5_still_L1 hC hr N a1 a2 N (-9 : Int32) (0 : Int32) (0 : Int32) q1.2 q4 hq4 ?_
    refine Z_iload hC (dk d_X5_still 53 rfl) 101 rfl rfl ?_
    refine Z_bipush (v := -9) hC (dk d_X5_still 54 rfl) 103 rfl (by decide) ?_
    refine Z_icmp_ne hC (dk d_X5_still 55 rfl) 106 111 rfl (by decide) (fun c => ?_) (fun c => ?_)
    · have h := it_f h c
      refine Z_aload_n hC (dk d_X5_still 58 rfl) 112 rfl rfl rfl ?_
      refine Z_iload hC (dk d_X5_still 59 rfl) 114 rfl rfl ?_
      refine Z_iload hC (dk d_X5_still 60 rfl) 116 rfl rfl ?_
      obtain ⟨q5, hq5, h⟩ := bd_some h
      refine K_X5_98 [vi q4.2.1, vi q4.1] hC m_5 (s_X5_ask (xG x) (xl x) N q4.2.1 q4.1 q4.2.2 q5 hq5) (Nat.le_of_ble_eq_true rfl) rfl rfl rfl (Nat.le_of_ble_eq_true rfl) (dk d_X5_still 61 rfl) 119 rfl ?_
      obtain rfl := Option.some.inj h
      exact Z_ireturn (st := []) hC hr hQ (dk d_X5_still 62 rfl)
    · have h := it_t h c
      refine Z_bipush (v := -9) hC (dk d_X5_still 56 rfl) 108 rfl (by decide) ?_
      refine Z_goto hC (dk d_X5_still 57 rfl) 119 (by decide) ?_
      obtain rfl := Option.some.inj h
      exact Z_ireturn (st := []) hC hr hQ (dk d_X5_still 62 rfl)
  · have h := it_f h c
    refine Z_iload_n hC (dk d_X5_still 7 rfl) 12 rfl rfl rfl ?_
    obtain rfl := Option.some.inj h
    exact Z_ireturn (st := []) hC hr hQ (dk d_X5_still 8 rfl)
def t_X5_fewest : List (Nat × Instr × Nat) := [(0, .aload_n 0, 1), (1, .iload_n 1, 1), (2, .iconst 0, 1), (3, .invokevirtual 243, 3), (6, .istore_n 2, 1), (7, .iload_n 2, 1), (8, .ifCond .ge 5, 3), (11, .iload_n 2, 1), (12, .ireturn, 1), (13, .bipush (-9), 2), (15, .istore_n 3, 1), (16, .iconst 0, 1), (17, .istore 4, 2), (19, .iload 4, 2), (21, .iconst 1, 1), (22, .aload_n 0, 1), (23, .getfield 125, 3), (26, .ishl, 1), (27, .if_icmp .ge 50, 3), (30, .iload_n 3, 1), (31, .bipush (-9), 2), (33, .if_icmp .eq 15, 3), (36, .iload 4, 2), (38, .invokestatic 156, 3), (41, .iload_n 3, 1), (42, .invokestatic 156, 3), (45, .if_icmp .ge 26, 3), (48, .aload_n 0, 1), (49, .iload_n 1, 1), (50, .iload 4, 2), (52, .invokevirtual 246, 3), (55, .pop, 1), (56, .aload_n 0, 1), (57, .getfield 234, 3), (60, .iconst 1, 1), (61, .if_icmp .ne 8, 3), (64, .iload 4, 2), (66, .goto 4, 3), (69, .iload_n 3, 1), (70, .istore_n 3, 1), (71, .iinc 4 1, 3), (74, .goto (-55), 3), (77, .aload_n 0, 1), (78, .iload_n 3, 1), (79, .iload_n 3, 1), (80, .invokestatic 156, 3), (83, .invokevirtual 98, 3), (86, .ireturn, 1)]
set_option maxRecDepth 20000 in
theorem d_X5_fewest : ∀ q ∈ t_X5_fewest, decode cX5_fewest q.1 = .ok q.2 := by decide +kernel
noncomputable def X5_fewest_J48 (N : Nat) (go : Int32 → Int32 → Wd → Option (Int32 × Wd)) (x1 : Int32) (x3 : Int32) (x4 : Int32) (w : Wd) : Option (Int32 × Wd) :=
  (f_X5_knownOf N x1 x4 w).bind (fun q2 =>
    if (gI q2.2 530 0) = (1 : Int32) then
      go x4 (x4 + (1 : Int32)) q2.2
    else
      go x3 (x4 + (1 : Int32)) q2.2)
set_option maxRecDepth 20000 in
set_option maxHeartbeats 4000000 in
theorem z_X5_fewest_J48 {x : CX} (hC : Cx x RX5 cX5_fewest 5 16) (hr : (xM x).sig.returnType = (some .int)) (N : Nat) (x1 : Int32) (x3 : Int32) (x4 : Int32) {go : Int32 → Int32 → Wd → Option (Int32 × Wd)} (hgo : ∀ (x3 : Int32) (x4 : Int32) (w : Wd) (q : (Int32 × Wd)), go x3 x4 w = some q → Z x 77 [some (vr 5 0), none, none, some (vi q.1), none] [] q.2 → Z x 19 [some (vr 5 0), some (vi x1), none, some (vi x3), some (vi x4)] [] w) (w : Wd) (q : (Int32 × Wd)) (h : X5_fewest_J48 N go x1 x3 x4 w = some q) (ke : Z x 77 [some (vr 5 0), none, none, some (vi q.1), none] [] q.2) : Z x 48 [some (vr 5 0), some (vi x1), none, some (vi x3), some (vi x4)] [] w := by
  unfold X5_fewest_J48 at h
  refine Z_aload_n hC (dk d_X5_fewest 27 rfl) 49 rfl rfl rfl ?_
  refine Z_iload_n hC (dk d_X5_fewest 28 rfl) 50 rfl rfl rfl ?_
  refine Z_iload hC (dk d_X5_fewest 29 rfl) 52 rfl rfl ?_
  obtain ⟨q2, hq2, h⟩ := bd_some h
  refine K_X5_246 [vi x1, vi x4] hC m_5 (s_X5_knownOf (xG x) (xl x) N x1 x4 w q2 hq2) (Nat.le_of_ble_eq_true rfl) rfl rfl rfl (Nat.le_of_ble_eq_true rfl) (dk d_X5_fewest 30 rfl) 55 rfl ?_
  refine Z_pop hC (dk d_X5_fewest 31 rfl) 56 rfl rfl ?_
  refine Z_aload_n hC (dk d_X5_fewest 32 rfl) 57 rfl rfl rfl ?_
  refine G_X5_234 hC m_5 (dk d_X5_fewest 33 rfl) 60 rfl ?_
  refine Z_iconst (v := 1) hC (dk d_X5_fewest 34 rfl) 61 rfl (by decide) ?_
  refine Z_icmp_ne hC (dk d_X5_fewest 35 rfl) 64 69 rfl (by decide) (fun c => ?_) (fun c => ?_)
  · have h := it_f h c
    refine Z_iload_n hC (dk d_X5_fewest 38 rfl) 70 rfl rfl rfl ?_
    refine Z_istore_n hC (dk d_X5_fewest 39 rfl) 71 rfl rfl (Nat.le_of_ble_eq_true rfl) [some (vr 5 0), some (vi x1), none, some (vi x3), some (vi x4)] rfl ?_
    refine Z_iinc hC (dk d_X5_fewest 40 rfl) 74 rfl rfl rfl [some (vr 5 0), some (vi x1), none, some (vi x3), some (vi (x4 + (1 : Int32)))] rfl ?_
    refine Z_goto hC (dk d_X5_fewest 41 rfl) 19 (by decide) ?_
    refine Z_wk [true, true, false, true, true] [some (vr 5 0), some (vi x1), none, some (vi x3), some (vi (x4 + (1 : Int32)))] rfl ?_
    exact hgo x3 (x4 + (1 : Int32)) q2.2 _ h ke
  · have h := it_t h c
    refine Z_iload hC (dk d_X5_fewest 36 rfl) 66 rfl rfl ?_
    refine Z_goto hC (dk d_X5_fewest 37 rfl) 70 (by decide) ?_
    refine Z_istore_n hC (dk d_X5_fewest 39 rfl) 71 rfl rfl (Nat.le_of_ble_eq_true rfl) [some (vr 5 0), some (vi x1), none, some (vi x4), some (vi x4)] rfl ?_
    refine Z_iinc hC (dk d_X5_fewest 40 rfl) 74 rfl rfl rfl [some (vr 5 0), some (vi x1), none, some (vi x4), some (vi (x4 + (1 : Int32)))] rfl ?_
    refine Z_goto hC (dk d_X5_fewest 41 rfl) 19 (by decide) ?_
    refine Z_wk [true, true, false, true, true] [some (vr 5 0), some (vi x1), none, some (vi x4), some (vi (x4 + (1 : Int32)))] rfl ?_
    exact hgo x4 (x4 + (1 : Int32)) q2.2 _ h ke
noncomputable def X5_fewest_L1 (N : Nat) (x1 : Int32) : Nat → Int32 → Int32 → Wd → Option (Int32 × Wd)
  | 0, _, _, _ => none
  | n + 1, x3, x4, w =>
  if ((1 : Int32) <<< ((gI w 510 0) &&& (31 : Int32))) ≤ x4 then
    some (x3, w)
  else
    if x3 = (-9 : Int32) then
      X5_fewest_J48 N (X5_fewest_L1 N x1 n) x1 x3 x4 w
    else
      (f_X5_sizeOf N x4 w).bind (fun q3 =>
        (f_X5_sizeOf N x3 q3.2).bind (fun q4 =>
          if q4.1 ≤ q3.1 then
            X5_fewest_L1 N x1 n x3 (x4 + (1 : Int32)) q4.2
          else
            X5_fewest_J48 N (X5_fewest_L1 N x1 n) x1 x3 x4 q4.2))
set_option maxRecDepth 20000 in
set_option maxHeartbeats 4000000 in
theorem z_X5_fewest_L1 {x : CX} (hC : Cx x RX5 cX5_fewest 5 16) (hr : (xM x).sig.returnType = (some .int)) (N : Nat) (x1 : Int32) : ∀ (n : Nat) (x3 : Int32) (x4 : Int32) (w : Wd) (q : (Int32 × Wd)), X5_fewest_L1 N x1 n x3 x4 w = some q → Z x 77 [some (vr 5 0), none, none, some (vi q.1), none] [] q.2 → Z x 19 [some (vr 5 0), some (vi x1), none, some (vi x3), some (vi x4)] [] w := by
  intro n
  induction n with
  | zero =>
    intro x3 x4 w q h
    cases h
  | succ n ih =>
    intro x3 x4 w q h ke
    rw [X5_fewest_L1] at h
    refine Z_iload hC (dk d_X5_fewest 13 rfl) 21 rfl rfl ?_
    refine Z_iconst (v := 1) hC (dk d_X5_fewest 14 rfl) 22 rfl (by decide) ?_
    refine Z_aload_n hC (dk d_X5_fewest 15 rfl) 23 rfl rfl rfl ?_
    refine G_X5_125 hC m_5 (dk d_X5_fewest 16 rfl) 26 rfl ?_
    refine Z_ishl hC (dk d_X5_fewest 17 rfl) 27 rfl ?_
    refine Z_icmp_ge hC (dk d_X5_fewest 18 rfl) 30 77 rfl (by decide) (fun c => ?_) (fun c => ?_)
    · have h := it_t h c
      obtain rfl := Option.some.inj h
      refine Z_wk [true, false, false, true, false] [some (vr 5 0), none, none, some (vi x3), none] rfl ?_
      exact ke
    · have h := it_f h c
      refine Z_iload_n hC (dk d_X5_fewest 19 rfl) 31 rfl rfl rfl ?_
      refine Z_bipush (v := -9) hC (dk d_X5_fewest 20 rfl) 33 rfl (by decide) ?_
      refine Z_icmp_eq hC (dk d_X5_fewest 21 rfl) 36 48 rfl (by decide) (fun c => ?_) (fun c => ?_)
      · have h := it_t h c
        refine Z_wk [true, true, false, true, true] [some (vr 5 0), some (vi x1), none, some (vi x3), some (vi x4)] rfl ?_
        exact z_X5_fewest_J48 hC hr N x1 x3 x4 ih w _ h ke
      · have h := it_f h c
        refine Z_iload hC (dk d_X5_fewest 22 rfl) 38 rfl rfl ?_
        obtain ⟨q3, hq3, h⟩ := bd_some h
        refine K_X5_156 [vi x4] hC (s_X5_sizeOf (xG x) (xl x) N x4 w q3 hq3) (Nat.le_of_ble_eq_true rfl) rfl rfl rfl (Nat.le_of_ble_eq_true rfl) (dk d_X5_fewest 23 rfl) 41 rfl ?_
        refine Z_iload_n hC (dk d_X5_fewest 24 rfl) 42 rfl rfl rfl ?_
        obtain ⟨q4, hq4, h⟩ := bd_some h
        refine K_X5_156 [vi x3] hC (s_X5_sizeOf (xG x) (xl x) N x3 q3.2 q4 hq4) (Nat.le_of_ble_eq_true rfl) rfl rfl rfl (Nat.le_of_ble_eq_true rfl) (dk d_X5_fewest 25 rfl) 45 rfl ?_
        refine Z_icmp_ge hC (dk d_X5_fewest 26 rfl) 48 71 rfl (by decide) (fun c => ?_) (fun c => ?_)
        · have h := it_t h c
          refine Z_iinc hC (dk d_X5_fewest 40 rfl) 74 rfl rfl rfl [some (vr 5 0), some (vi x1), none, some (vi x3), some (vi (x4 + (1 : Int32)))] rfl ?_
          refine Z_goto hC (dk d_X5_fewest 41 rfl) 19 (by decide) ?_
          refine Z_wk [true, true, false, true, true] [some (vr 5 0), some (vi x1), none, some (vi x3), some (vi (x4 + (1 : Int32)))] rfl ?_
          exact ih x3 (x4 + (1 : Int32)) q4.2 _ h ke
        · have h := it_f h c
          refine Z_wk [true, true, false, true, true] [some (vr 5 0), some (vi x1), none, some (vi x3), some (vi x4)] rfl ?_
          exact z_X5_fewest_J48 hC hr N x1 x3 x4 ih q4.2 _ h ke
noncomputable def f_X5_fewest (N : Nat) (a1 : Int32) (w : Wd) : Option (Int32 × Wd) :=
  (f_X5_askedTelling N a1 (0 : Int32) w).bind (fun q1 =>
    if 0 ≤ q1.1 then
      (X5_fewest_L1 N a1 N (-9 : Int32) (0 : Int32) q1.2).bind (fun q5 =>
        (f_X5_sizeOf N q5.1 q5.2).bind (fun q6 =>
          (f_X5_ask N q5.1 q6.1 q6.2).bind (fun q7 =>
            some (q7.1, q7.2))))
    else
      some (q1.1, q1.2))
set_option maxRecDepth 20000 in
set_option maxHeartbeats 4000000 in
theorem s_X5_fewest (G : GT) (l : Launch) (N : Nat) (a1 : Int32) (w : Wd) (q : Int32 × Wd) (h : f_X5_fewest N a1 w = some q) : Sp G l yX5_fewest cw_X5_fewest 16 [vr 5 0, vi a1] w (some (vi q.1)) q.2 := by
  refine Sp_of (own := RX5) [some (vr 5 0), some (vi a1), none, none, none] (by decide) rfl rfl (Nat.le_of_ble_eq_true rfl) ?_
  intro x hG hl hC hr hQ _ _
  subst hG
  subst hl
  unfold f_X5_fewest at h
  refine Z_aload_n hC (dk d_X5_fewest 0 rfl) 1 rfl rfl rfl ?_
  refine Z_iload_n hC (dk d_X5_fewest 1 rfl) 2 rfl rfl rfl ?_
  refine Z_iconst (v := 0) hC (dk d_X5_fewest 2 rfl) 3 rfl (by decide) ?_
  obtain ⟨q1, hq1, h⟩ := bd_some h
  refine K_X5_243 [vi a1, vi (0 : Int32)] hC m_5 (s_X5_askedTelling (xG x) (xl x) N a1 (0 : Int32) w q1 hq1) (Nat.le_of_ble_eq_true rfl) rfl rfl rfl (Nat.le_of_ble_eq_true rfl) (dk d_X5_fewest 3 rfl) 6 rfl ?_
  refine Z_istore_n hC (dk d_X5_fewest 4 rfl) 7 rfl rfl (Nat.le_of_ble_eq_true rfl) [some (vr 5 0), some (vi a1), some (vi q1.1), none, none] rfl ?_
  refine Z_iload_n hC (dk d_X5_fewest 5 rfl) 8 rfl rfl rfl ?_
  refine Z_if_ge hC (dk d_X5_fewest 6 rfl) 11 13 rfl (by decide) (fun c => ?_) (fun c => ?_)
  · have h := it_t h c
    refine Z_bipush (v := -9) hC (dk d_X5_fewest 9 rfl) 15 rfl (by decide) ?_
    refine Z_istore_n hC (dk d_X5_fewest 10 rfl) 16 rfl rfl (Nat.le_of_ble_eq_true rfl) [some (vr 5 0), some (vi a1), some (vi q1.1), some (vi (-9 : Int32)), none] rfl ?_
    refine Z_iconst (v := 0) hC (dk d_X5_fewest 11 rfl) 17 rfl (by decide) ?_
    refine Z_istore hC (dk d_X5_fewest 12 rfl) 19 rfl (Nat.le_of_ble_eq_true rfl) [some (vr 5 0), some (vi a1), some (vi q1.1), some (vi (-9 : Int32)), some (vi (0 : Int32))] rfl ?_
    obtain ⟨q5, hq5, h⟩ := bd_some h
    refine Z_wk [true, true, false, true, true] [some (vr 5 0), some (vi a1), none, some (vi (-9 : Int32)), some (vi (0 : Int32))] rfl ?_
    refine z_X5_fewest_L1 hC hr N a1 N (-9 : Int32) (0 : Int32) q1.2 q5 hq5 ?_
    refine Z_aload_n hC (dk d_X5_fewest 42 rfl) 78 rfl rfl rfl ?_
    refine Z_iload_n hC (dk d_X5_fewest 43 rfl) 79 rfl rfl rfl ?_
    refine Z_iload_n hC (dk d_X5_fewest 44 rfl) 80 rfl rfl rfl ?_
    obtain ⟨q6, hq6, h⟩ := bd_some h
    refine K_X5_156 [vi q5.1] hC (s_X5_sizeOf (xG x) (xl x) N q5.1 q5.2 q6 hq6) (Nat.le_of_ble_eq_true rfl) rfl rfl rfl (Nat.le_of_ble_eq_true rfl) (dk d_X5_fewest 45 rfl) 83 rfl ?_
    obtain ⟨q7, hq7, h⟩ := bd_some h
    refine K_X5_98 [vi q5.1, vi q6.1] hC m_5 (s_X5_ask (xG x) (xl x) N q5.1 q6.1 q6.2 q7 hq7) (Nat.le_of_ble_eq_true rfl) rfl rfl rfl (Nat.le_of_ble_eq_true rfl) (dk d_X5_fewest 46 rfl) 86 rfl ?_
    obtain rfl := Option.some.inj h
    exact Z_ireturn (st := []) hC hr hQ (dk d_X5_fewest 47 rfl)
  · have h := it_f h c
    refine Z_iload_n hC (dk d_X5_fewest 7 rfl) 12 rfl rfl rfl ?_
    obtain rfl := Option.some.inj h
    exact Z_ireturn (st := []) hC hr hQ (dk d_X5_fewest 8 rfl)
def t_X5_drop : List (Nat × Instr × Nat) := [(0, .aload_n 0, 1), (1, .getfield 32, 3), (4, .istore_n 1, 1), (5, .bipush (-9), 2), (7, .istore_n 2, 1), (8, .bipush 15, 2), (10, .istore_n 3, 1), (11, .iload_n 3, 1), (12, .ifCond .lt 56, 3), (15, .iload_n 3, 1), (16, .iload_n 1, 1), (17, .iconst (-1), 1), (18, .ixor, 1), (19, .iand, 1), (20, .ifCond .ne 42, 3), (23, .iload_n 2, 1), (24, .bipush (-9), 2), (26, .if_icmp .eq 14, 3), (29, .iload_n 3, 1), (30, .invokestatic 156, 3), (33, .iload_n 2, 1), (34, .invokestatic 156, 3), (37, .if_icmp .le 25, 3), (40, .aload_n 0, 1), (41, .iload_n 3, 1), (42, .putfield 32, 3), (45, .aload_n 0, 1), (46, .invokevirtual 185, 3), (49, .aload_n 0, 1), (50, .getfield 175, 3), (53, .ifCond .le 7, 3), (56, .iload_n 3, 1), (57, .goto 4, 3), (60, .iload_n 2, 1), (61, .istore_n 2, 1), (62, .iinc 3 (-1), 3), (65, .goto (-54), 3), (68, .aload_n 0, 1), (69, .iload_n 1, 1), (70, .putfield 32, 3), (73, .iload_n 2, 1), (74, .bipush (-9), 2), (76, .if_icmp .ne 8, 3), (79, .bipush (-9), 2), (81, .goto 17, 3), (84, .aload_n 0, 1), (85, .iload_n 2, 1), (86, .iload_n 1, 1), (87, .invokestatic 156, 3), (90, .iload_n 2, 1), (91, .invokestatic 156, 3), (94, .isub, 1), (95, .invokevirtual 98, 3), (98, .ireturn, 1)]
set_option maxRecDepth 20000 in
theorem d_X5_drop : ∀ q ∈ t_X5_drop, decode cX5_drop q.1 = .ok q.2 := by decide +kernel
noncomputable def X5_drop_J40 (N : Nat) (go : Int32 → Int32 → Wd → Option (Int32 × Wd)) (x1 : Int32) (x2 : Int32) (x3 : Int32) (w : Wd) : Option (Int32 × Wd) :=
  (f_X5_setRights N (sI w 511 0 x3)).bind (fun q1 =>
    if (gI q1 522 0) ≤ 0 then
      go x2 (x3 + (-1 : Int32)) q1
    else
      go x3 (x3 + (-1 : Int32)) q1)
set_option maxRecDepth 20000 in
set_option maxHeartbeats 4000000 in
theorem z_X5_drop_J40 {x : CX} (hC : Cx x RX5 cX5_drop 4 13) (hr : (xM x).sig.returnType = (some .int)) (N : Nat) (x1 : Int32) (x2 : Int32) (x3 : Int32) {go : Int32 → Int32 → Wd → Option (Int32 × Wd)} (hgo : ∀ (x2 : Int32) (x3 : Int32) (w : Wd) (q : (Int32 × Wd)), go x2 x3 w = some q → Z x 68 [some (vr 5 0), some (vi x1), some (vi q.1), none] [] q.2 → Z x 11 [some (vr 5 0), some (vi x1), some (vi x2), some (vi x3)] [] w) (w : Wd) (q : (Int32 × Wd)) (h : X5_drop_J40 N go x1 x2 x3 w = some q) (ke : Z x 68 [some (vr 5 0), some (vi x1), some (vi q.1), none] [] q.2) : Z x 40 [some (vr 5 0), some (vi x1), some (vi x2), some (vi x3)] [] w := by
  unfold X5_drop_J40 at h
  refine Z_aload_n hC (dk d_X5_drop 23 rfl) 41 rfl rfl rfl ?_
  refine Z_iload_n hC (dk d_X5_drop 24 rfl) 42 rfl rfl rfl ?_
  refine P_X5_32 hC m_5 (dk d_X5_drop 25 rfl) 45 rfl ?_
  refine Z_aload_n hC (dk d_X5_drop 26 rfl) 46 rfl rfl rfl ?_
  obtain ⟨q1, hq1, h⟩ := bd_some h
  refine K_X5_185 [] hC m_5 (s_X5_setRights (xG x) (xl x) N (sI w 511 0 x3) q1 hq1) (Nat.le_of_ble_eq_true rfl) rfl rfl rfl (Nat.le_of_ble_eq_true rfl) (dk d_X5_drop 27 rfl) 49 rfl ?_
  refine Z_aload_n hC (dk d_X5_drop 28 rfl) 50 rfl rfl rfl ?_
  refine G_X5_175 hC m_5 (dk d_X5_drop 29 rfl) 53 rfl ?_
  refine Z_if_le hC (dk d_X5_drop 30 rfl) 56 60 rfl (by decide) (fun c => ?_) (fun c => ?_)
  · have h := it_t h c
    refine Z_iload_n hC (dk d_X5_drop 33 rfl) 61 rfl rfl rfl ?_
    refine Z_istore_n hC (dk d_X5_drop 34 rfl) 62 rfl rfl (Nat.le_of_ble_eq_true rfl) [some (vr 5 0), some (vi x1), some (vi x2), some (vi x3)] rfl ?_
    refine Z_iinc hC (dk d_X5_drop 35 rfl) 65 rfl rfl rfl [some (vr 5 0), some (vi x1), some (vi x2), some (vi (x3 + (-1 : Int32)))] rfl ?_
    refine Z_goto hC (dk d_X5_drop 36 rfl) 11 (by decide) ?_
    refine Z_wk [true, true, true, true] [some (vr 5 0), some (vi x1), some (vi x2), some (vi (x3 + (-1 : Int32)))] rfl ?_
    exact hgo x2 (x3 + (-1 : Int32)) q1 _ h ke
  · have h := it_f h c
    refine Z_iload_n hC (dk d_X5_drop 31 rfl) 57 rfl rfl rfl ?_
    refine Z_goto hC (dk d_X5_drop 32 rfl) 61 (by decide) ?_
    refine Z_istore_n hC (dk d_X5_drop 34 rfl) 62 rfl rfl (Nat.le_of_ble_eq_true rfl) [some (vr 5 0), some (vi x1), some (vi x3), some (vi x3)] rfl ?_
    refine Z_iinc hC (dk d_X5_drop 35 rfl) 65 rfl rfl rfl [some (vr 5 0), some (vi x1), some (vi x3), some (vi (x3 + (-1 : Int32)))] rfl ?_
    refine Z_goto hC (dk d_X5_drop 36 rfl) 11 (by decide) ?_
    refine Z_wk [true, true, true, true] [some (vr 5 0), some (vi x1), some (vi x3), some (vi (x3 + (-1 : Int32)))] rfl ?_
    exact hgo x3 (x3 + (-1 : Int32)) q1 _ h ke
noncomputable def X5_drop_L1 (N : Nat) (x1 : Int32) : Nat → Int32 → Int32 → Wd → Option (Int32 × Wd)
  | 0, _, _, _ => none
  | n + 1, x2, x3, w =>
  if x3 < 0 then
    some (x2, w)
  else
    if (x3 &&& (x1 ^^^ (-1 : Int32))) = 0 then
      if x2 = (-9 : Int32) then
        X5_drop_J40 N (X5_drop_L1 N x1 n) x1 x2 x3 w
      else
        (f_X5_sizeOf N x3 w).bind (fun q2 =>
          (f_X5_sizeOf N x2 q2.2).bind (fun q3 =>
            if q2.1 ≤ q3.1 then
              X5_drop_L1 N x1 n x2 (x3 + (-1 : Int32)) q3.2
            else
              X5_drop_J40 N (X5_drop_L1 N x1 n) x1 x2 x3 q3.2))
    else
      X5_drop_L1 N x1 n x2 (x3 + (-1 : Int32)) w
set_option maxRecDepth 20000 in
set_option maxHeartbeats 4000000 in
theorem z_X5_drop_L1 {x : CX} (hC : Cx x RX5 cX5_drop 4 13) (hr : (xM x).sig.returnType = (some .int)) (N : Nat) (x1 : Int32) : ∀ (n : Nat) (x2 : Int32) (x3 : Int32) (w : Wd) (q : (Int32 × Wd)), X5_drop_L1 N x1 n x2 x3 w = some q → Z x 68 [some (vr 5 0), some (vi x1), some (vi q.1), none] [] q.2 → Z x 11 [some (vr 5 0), some (vi x1), some (vi x2), some (vi x3)] [] w := by
  intro n
  induction n with
  | zero =>
    intro x2 x3 w q h
    cases h
  | succ n ih =>
    intro x2 x3 w q h ke
    rw [X5_drop_L1] at h
    refine Z_iload_n hC (dk d_X5_drop 7 rfl) 12 rfl rfl rfl ?_
    refine Z_if_lt hC (dk d_X5_drop 8 rfl) 15 68 rfl (by decide) (fun c => ?_) (fun c => ?_)
    · have h := it_t h c
      obtain rfl := Option.some.inj h
      refine Z_wk [true, true, true, false] [some (vr 5 0), some (vi x1), some (vi x2), none] rfl ?_
      exact ke
    · have h := it_f h c
      refine Z_iload_n hC (dk d_X5_drop 9 rfl) 16 rfl rfl rfl ?_
      refine Z_iload_n hC (dk d_X5_drop 10 rfl) 17 rfl rfl rfl ?_
      refine Z_iconst (v := -1) hC (dk d_X5_drop 11 rfl) 18 rfl (by decide) ?_
      refine Z_ixor hC (dk d_X5_drop 12 rfl) 19 rfl ?_
      refine Z_iand hC (dk d_X5_drop 13 rfl) 20 rfl ?_
      refine Z_if_ne hC (dk d_X5_drop 14 rfl) 23 62 rfl (by decide) (fun c => ?_) (fun c => ?_)
      · have h := it_f h c
        refine Z_iinc hC (dk d_X5_drop 35 rfl) 65 rfl rfl rfl [some (vr 5 0), some (vi x1), some (vi x2), some (vi (x3 + (-1 : Int32)))] rfl ?_
        refine Z_goto hC (dk d_X5_drop 36 rfl) 11 (by decide) ?_
        refine Z_wk [true, true, true, true] [some (vr 5 0), some (vi x1), some (vi x2), some (vi (x3 + (-1 : Int32)))] rfl ?_
        exact ih x2 (x3 + (-1 : Int32)) w _ h ke
      · have h := it_t h c
        refine Z_iload_n hC (dk d_X5_drop 15 rfl) 24 rfl rfl rfl ?_
        refine Z_bipush (v := -9) hC (dk d_X5_drop 16 rfl) 26 rfl (by decide) ?_
        refine Z_icmp_eq hC (dk d_X5_drop 17 rfl) 29 40 rfl (by decide) (fun c => ?_) (fun c => ?_)
        · have h := it_t h c
          refine Z_wk [true, true, true, true] [some (vr 5 0), some (vi x1), some (vi x2), some (vi x3)] rfl ?_
          exact z_X5_drop_J40 hC hr N x1 x2 x3 ih w _ h ke
        · have h := it_f h c
          refine Z_iload_n hC (dk d_X5_drop 18 rfl) 30 rfl rfl rfl ?_
          obtain ⟨q2, hq2, h⟩ := bd_some h
          refine K_X5_156 [vi x3] hC (s_X5_sizeOf (xG x) (xl x) N x3 w q2 hq2) (Nat.le_of_ble_eq_true rfl) rfl rfl rfl (Nat.le_of_ble_eq_true rfl) (dk d_X5_drop 19 rfl) 33 rfl ?_
          refine Z_iload_n hC (dk d_X5_drop 20 rfl) 34 rfl rfl rfl ?_
          obtain ⟨q3, hq3, h⟩ := bd_some h
          refine K_X5_156 [vi x2] hC (s_X5_sizeOf (xG x) (xl x) N x2 q2.2 q3 hq3) (Nat.le_of_ble_eq_true rfl) rfl rfl rfl (Nat.le_of_ble_eq_true rfl) (dk d_X5_drop 21 rfl) 37 rfl ?_
          refine Z_icmp_le hC (dk d_X5_drop 22 rfl) 40 62 rfl (by decide) (fun c => ?_) (fun c => ?_)
          · have h := it_t h c
            refine Z_iinc hC (dk d_X5_drop 35 rfl) 65 rfl rfl rfl [some (vr 5 0), some (vi x1), some (vi x2), some (vi (x3 + (-1 : Int32)))] rfl ?_
            refine Z_goto hC (dk d_X5_drop 36 rfl) 11 (by decide) ?_
            refine Z_wk [true, true, true, true] [some (vr 5 0), some (vi x1), some (vi x2), some (vi (x3 + (-1 : Int32)))] rfl ?_
            exact ih x2 (x3 + (-1 : Int32)) q3.2 _ h ke
          · have h := it_f h c
            refine Z_wk [true, true, true, true] [some (vr 5 0), some (vi x1), some (vi x2), some (vi x3)] rfl ?_
            exact z_X5_drop_J40 hC hr N x1 x2 x3 ih q3.2 _ h ke
noncomputable def f_X5_drop (N : Nat) (w : Wd) : Option (Int32 × Wd) :=
  (X5_drop_L1 N (gI w 511 0) N (-9 : Int32) (15 : Int32) w).bind (fun q4 =>
    if q4.1 = (-9 : Int32) then
      some ((-9 : Int32), sI q4.2 511 0 (gI w 511 0))
    else
      (f_X5_sizeOf N (gI w 511 0) (sI q4.2 511 0 (gI w 511 0))).bind (fun q5 =>
        (f_X5_sizeOf N q4.1 q5.2).bind (fun q6 =>
          (f_X5_ask N q4.1 (q5.1 - q6.1) q6.2).bind (fun q7 =>
            some (q7.1, q7.2)))))
set_option maxRecDepth 20000 in
set_option maxHeartbeats 4000000 in
theorem s_X5_drop (G : GT) (l : Launch) (N : Nat) (w : Wd) (q : Int32 × Wd) (h : f_X5_drop N w = some q) : Sp G l yX5_drop cw_X5_drop 13 [vr 5 0] w (some (vi q.1)) q.2 := by
  refine Sp_of (own := RX5) [some (vr 5 0), none, none, none] (by decide) rfl rfl (Nat.le_of_ble_eq_true rfl) ?_
  intro x hG hl hC hr hQ _ _
  subst hG
  subst hl
  unfold f_X5_drop at h
  refine Z_aload_n hC (dk d_X5_drop 0 rfl) 1 rfl rfl rfl ?_
  refine G_X5_32 hC m_5 (dk d_X5_drop 1 rfl) 4 rfl ?_
  refine Z_istore_n hC (dk d_X5_drop 2 rfl) 5 rfl rfl (Nat.le_of_ble_eq_true rfl) [some (vr 5 0), some (vi (gI w 511 0)), none, none] rfl ?_
  refine Z_bipush (v := -9) hC (dk d_X5_drop 3 rfl) 7 rfl (by decide) ?_
  refine Z_istore_n hC (dk d_X5_drop 4 rfl) 8 rfl rfl (Nat.le_of_ble_eq_true rfl) [some (vr 5 0), some (vi (gI w 511 0)), some (vi (-9 : Int32)), none] rfl ?_
  refine Z_bipush (v := 15) hC (dk d_X5_drop 5 rfl) 10 rfl (by decide) ?_
  refine Z_istore_n hC (dk d_X5_drop 6 rfl) 11 rfl rfl (Nat.le_of_ble_eq_true rfl) [some (vr 5 0), some (vi (gI w 511 0)), some (vi (-9 : Int32)), some (vi (15 : Int32))] rfl ?_
  obtain ⟨q4, hq4, h⟩ := bd_some h
  refine Z_wk [true, true, true, true] [some (vr 5 0), some (vi (gI w 511 0)), some (vi (-9 : Int32)), some (vi (15 : Int32))] rfl ?_
  refine z_X5_drop_L1 hC hr N (gI w 511 0) N (-9 : Int32) (15 : Int32) w q4 hq4 ?_
  refine Z_aload_n hC (dk d_X5_drop 37 rfl) 69 rfl rfl rfl ?_
  refine Z_iload_n hC (dk d_X5_drop 38 rfl) 70 rfl rfl rfl ?_
  refine P_X5_32 hC m_5 (dk d_X5_drop 39 rfl) 73 rfl ?_
  refine Z_iload_n hC (dk d_X5_drop 40 rfl) 74 rfl rfl rfl ?_
  refine Z_bipush (v := -9) hC (dk d_X5_drop 41 rfl) 76 rfl (by decide) ?_
  refine Z_icmp_ne hC (dk d_X5_drop 42 rfl) 79 84 rfl (by decide) (fun c => ?_) (fun c => ?_)
  · have h := it_f h c
    refine Z_aload_n hC (dk d_X5_drop 45 rfl) 85 rfl rfl rfl ?_
    refine Z_iload_n hC (dk d_X5_drop 46 rfl) 86 rfl rfl rfl ?_
    refine Z_iload_n hC (dk d_X5_drop 47 rfl) 87 rfl rfl rfl ?_
    obtain ⟨q5, hq5, h⟩ := bd_some h
    refine K_X5_156 [vi (gI w 511 0)] hC (s_X5_sizeOf (xG x) (xl x) N (gI w 511 0) (sI q4.2 511 0 (gI w 511 0)) q5 hq5) (Nat.le_of_ble_eq_true rfl) rfl rfl rfl (Nat.le_of_ble_eq_true rfl) (dk d_X5_drop 48 rfl) 90 rfl ?_
    refine Z_iload_n hC (dk d_X5_drop 49 rfl) 91 rfl rfl rfl ?_
    obtain ⟨q6, hq6, h⟩ := bd_some h
    refine K_X5_156 [vi q4.1] hC (s_X5_sizeOf (xG x) (xl x) N q4.1 q5.2 q6 hq6) (Nat.le_of_ble_eq_true rfl) rfl rfl rfl (Nat.le_of_ble_eq_true rfl) (dk d_X5_drop 50 rfl) 94 rfl ?_
    refine Z_isub hC (dk d_X5_drop 51 rfl) 95 rfl ?_
    obtain ⟨q7, hq7, h⟩ := bd_some h
    refine K_X5_98 [vi q4.1, vi (q5.1 - q6.1)] hC m_5 (s_X5_ask (xG x) (xl x) N q4.1 (q5.1 - q6.1) q6.2 q7 hq7) (Nat.le_of_ble_eq_true rfl) rfl rfl rfl (Nat.le_of_ble_eq_true rfl) (dk d_X5_drop 52 rfl) 98 rfl ?_
    obtain rfl := Option.some.inj h
    exact Z_ireturn (st := []) hC hr hQ (dk d_X5_drop 53 rfl)
  · have h := it_t h c
    refine Z_bipush (v := -9) hC (dk d_X5_drop 43 rfl) 81 rfl (by decide) ?_
    refine Z_goto hC (dk d_X5_drop 44 rfl) 98 (by decide) ?_
    obtain rfl := Option.some.inj h
    exact Z_ireturn (st := []) hC hr hQ (dk d_X5_drop 53 rfl)
def t_X5_table : List (Nat × Instr × Nat) := [(0, .aload_n 0, 1), (1, .iload_n 1, 1), (2, .invokevirtual 137, 3), (5, .ifCond .ne 5, 3), (8, .iconst (-1), 1), (9, .ireturn, 1), (10, .aload_n 0, 1), (11, .getfield 39, 3), (14, .iload_n 1, 1), (15, .iaload, 1), (16, .istore_n 2, 1), (17, .iconst 0, 1), (18, .istore_n 3, 1), (19, .iconst (-1), 1), (20, .istore 4, 2), (22, .iconst 0, 1), (23, .istore 5, 2), (25, .iload 5, 2), (27, .bipush 9, 2), (29, .if_icmp .gt 57, 3), (32, .aload_n 0, 1), (33, .getfield 39, 3), (36, .iload_n 1, 1), (37, .iload 5, 2), (39, .iastore, 1), (40, .aload_n 0, 1), (41, .invokevirtual 185, 3), (44, .aload_n 0, 1), (45, .getfield 175, 3), (48, .iload 4, 2), (50, .if_icmp .le 8, 3), (53, .iload 5, 2), (55, .goto 4, 3), (58, .iload_n 3, 1), (59, .istore_n 3, 1), (60, .aload_n 0, 1), (61, .getfield 175, 3), (64, .iload 4, 2), (66, .if_icmp .le 10, 3), (69, .aload_n 0, 1), (70, .getfield 175, 3), (73, .goto 5, 3), (76, .iload 4, 2), (78, .istore 4, 2), (80, .iinc 5 1, 3), (83, .goto (-58), 3), (86, .aload_n 0, 1), (87, .getfield 39, 3), (90, .iload_n 1, 1), (91, .iload_n 2, 1), (92, .iastore, 1), (93, .aload_n 0, 1), (94, .iload 4, 2), (96, .iload_n 3, 1), (97, .invokevirtual 98, 3), (100, .ireturn, 1)]
set_option maxRecDepth 20000 in
theorem d_X5_table : ∀ q ∈ t_X5_table, decode cX5_table q.1 = .ok q.2 := by decide +kernel
noncomputable def X5_table_J59 (N : Nat) (go : Int32 → Int32 → Int32 → Wd → Option (Int32 × Int32 × Wd)) (x1 : Int32) (x2 : Int32) (x4 : Int32) (x5 : Int32) (s0 : Int32) (w : Wd) : Option (Int32 × Int32 × Wd) :=
  if (gI w 522 0) ≤ x4 then
    go s0 x4 (x5 + (1 : Int32)) w
  else
    go s0 (gI w 522 0) (x5 + (1 : Int32)) w
set_option maxRecDepth 20000 in
set_option maxHeartbeats 4000000 in
theorem z_X5_table_J59 {x : CX} (hC : Cx x RX5 cX5_table 6 13) (hr : (xM x).sig.returnType = (some .int)) (N : Nat) (x1 : Int32) (x2 : Int32) (x4 : Int32) (x5 : Int32) (s0 : Int32) {go : Int32 → Int32 → Int32 → Wd → Option (Int32 × Int32 × Wd)} (hgo : ∀ (x3 : Int32) (x4 : Int32) (x5 : Int32) (w : Wd) (q : (Int32 × Int32 × Wd)), go x3 x4 x5 w = some q → Z x 86 [some (vr 5 0), some (vi x1), some (vi x2), some (vi q.1), some (vi q.2.1), none] [] q.2.2 → Z x 25 [some (vr 5 0), some (vi x1), some (vi x2), some (vi x3), some (vi x4), some (vi x5)] [] w) (w : Wd) (q : (Int32 × Int32 × Wd)) (h : X5_table_J59 N go x1 x2 x4 x5 s0 w = some q) (ke : Z x 86 [some (vr 5 0), some (vi x1), some (vi x2), some (vi q.1), some (vi q.2.1), none] [] q.2.2) : Z x 59 [some (vr 5 0), some (vi x1), some (vi x2), none, some (vi x4), some (vi x5)] [vi s0] w := by
  unfold X5_table_J59 at h
  refine Z_istore_n hC (dk d_X5_table 34 rfl) 60 rfl rfl (Nat.le_of_ble_eq_true rfl) [some (vr 5 0), some (vi x1), some (vi x2), some (vi s0), some (vi x4), some (vi x5)] rfl ?_
  refine Z_aload_n hC (dk d_X5_table 35 rfl) 61 rfl rfl rfl ?_
  refine G_X5_175 hC m_5 (dk d_X5_table 36 rfl) 64 rfl ?_
  refine Z_iload hC (dk d_X5_table 37 rfl) 66 rfl rfl ?_
  refine Z_icmp_le hC (dk d_X5_table 38 rfl) 69 76 rfl (by decide) (fun c => ?_) (fun c => ?_)
  · have h := it_t h c
    refine Z_iload hC (dk d_X5_table 42 rfl) 78 rfl rfl ?_
    refine Z_istore hC (dk d_X5_table 43 rfl) 80 rfl (Nat.le_of_ble_eq_true rfl) [some (vr 5 0), some (vi x1), some (vi x2), some (vi s0), some (vi x4), some (vi x5)] rfl ?_
    refine Z_iinc hC (dk d_X5_table 44 rfl) 83 rfl rfl rfl [some (vr 5 0), some (vi x1), some (vi x2), some (vi s0), some (vi x4), some (vi (x5 + (1 : Int32)))] rfl ?_
    refine Z_goto hC (dk d_X5_table 45 rfl) 25 (by decide) ?_
    refine Z_wk [true, true, true, true, true, true] [some (vr 5 0), some (vi x1), some (vi x2), some (vi s0), some (vi x4), some (vi (x5 + (1 : Int32)))] rfl ?_
    exact hgo s0 x4 (x5 + (1 : Int32)) w _ h ke
  · have h := it_f h c
    refine Z_aload_n hC (dk d_X5_table 39 rfl) 70 rfl rfl rfl ?_
    refine G_X5_175 hC m_5 (dk d_X5_table 40 rfl) 73 rfl ?_
    refine Z_goto hC (dk d_X5_table 41 rfl) 78 (by decide) ?_
    refine Z_istore hC (dk d_X5_table 43 rfl) 80 rfl (Nat.le_of_ble_eq_true rfl) [some (vr 5 0), some (vi x1), some (vi x2), some (vi s0), some (vi (gI w 522 0)), some (vi x5)] rfl ?_
    refine Z_iinc hC (dk d_X5_table 44 rfl) 83 rfl rfl rfl [some (vr 5 0), some (vi x1), some (vi x2), some (vi s0), some (vi (gI w 522 0)), some (vi (x5 + (1 : Int32)))] rfl ?_
    refine Z_goto hC (dk d_X5_table 45 rfl) 25 (by decide) ?_
    refine Z_wk [true, true, true, true, true, true] [some (vr 5 0), some (vi x1), some (vi x2), some (vi s0), some (vi (gI w 522 0)), some (vi (x5 + (1 : Int32)))] rfl ?_
    exact hgo s0 (gI w 522 0) (x5 + (1 : Int32)) w _ h ke
noncomputable def X5_table_L1 (N : Nat) (x1 : Int32) (x2 : Int32) : Nat → Int32 → Int32 → Int32 → Wd → Option (Int32 × Int32 × Wd)
  | 0, _, _, _, _ => none
  | n + 1, x3, x4, x5, w =>
  if (9 : Int32) < x5 then
    some (x3, x4, w)
  else
    gd (vp_in x1 12) (
    (f_X5_setRights N (sA w 37 0 (upd (gA w 37 0) x1.toNatClampNeg x5))).bind (fun q4 =>
      if (gI q4 522 0) ≤ x4 then
        X5_table_J59 N (X5_table_L1 N x1 x2 n) x1 x2 x4 x5 x3 q4
      else
        X5_table_J59 N (X5_table_L1 N x1 x2 n) x1 x2 x4 x5 x5 q4))
set_option maxRecDepth 20000 in
set_option maxHeartbeats 4000000 in
theorem z_X5_table_L1 {x : CX} (hC : Cx x RX5 cX5_table 6 13) (hr : (xM x).sig.returnType = (some .int)) (N : Nat) (x1 : Int32) (x2 : Int32) : ∀ (n : Nat) (x3 : Int32) (x4 : Int32) (x5 : Int32) (w : Wd) (q : (Int32 × Int32 × Wd)), X5_table_L1 N x1 x2 n x3 x4 x5 w = some q → Z x 86 [some (vr 5 0), some (vi x1), some (vi x2), some (vi q.1), some (vi q.2.1), none] [] q.2.2 → Z x 25 [some (vr 5 0), some (vi x1), some (vi x2), some (vi x3), some (vi x4), some (vi x5)] [] w := by
  intro n
  induction n with
  | zero =>
    intro x3 x4 x5 w q h
    cases h
  | succ n ih =>
    intro x3 x4 x5 w q h ke
    rw [X5_table_L1] at h
    refine Z_iload hC (dk d_X5_table 17 rfl) 27 rfl rfl ?_
    refine Z_bipush (v := 9) hC (dk d_X5_table 18 rfl) 29 rfl (by decide) ?_
    refine Z_icmp_gt hC (dk d_X5_table 19 rfl) 32 86 rfl (by decide) (fun c => ?_) (fun c => ?_)
    · have h := it_t h c
      obtain rfl := Option.some.inj h
      refine Z_wk [true, true, true, true, true, false] [some (vr 5 0), some (vi x1), some (vi x2), some (vi x3), some (vi x4), none] rfl ?_
      exact ke
    · have h := it_f h c
      refine Z_aload_n hC (dk d_X5_table 20 rfl) 33 rfl rfl rfl ?_
      refine G_X5_39 hC m_5 (dk d_X5_table 21 rfl) 36 rfl ?_
      refine Z_iload_n hC (dk d_X5_table 22 rfl) 37 rfl rfl rfl ?_
      refine Z_iload hC (dk d_X5_table 23 rfl) 39 rfl rfl ?_
      obtain ⟨g3, h⟩ := gd_some h
      refine Z_iastore hC m_37 (by decide) rfl g3 (dk d_X5_table 24 rfl) 40 rfl ?_
      refine Z_aload_n hC (dk d_X5_table 25 rfl) 41 rfl rfl rfl ?_
      obtain ⟨q4, hq4, h⟩ := bd_some h
      refine K_X5_185 [] hC m_5 (s_X5_setRights (xG x) (xl x) N (sA w 37 0 (upd (gA w 37 0) x1.toNatClampNeg x5)) q4 hq4) (Nat.le_of_ble_eq_true rfl) rfl rfl rfl (Nat.le_of_ble_eq_true rfl) (dk d_X5_table 26 rfl) 44 rfl ?_
      refine Z_aload_n hC (dk d_X5_table 27 rfl) 45 rfl rfl rfl ?_
      refine G_X5_175 hC m_5 (dk d_X5_table 28 rfl) 48 rfl ?_
      refine Z_iload hC (dk d_X5_table 29 rfl) 50 rfl rfl ?_
      refine Z_icmp_le hC (dk d_X5_table 30 rfl) 53 58 rfl (by decide) (fun c => ?_) (fun c => ?_)
      · have h := it_t h c
        refine Z_iload_n hC (dk d_X5_table 33 rfl) 59 rfl rfl rfl ?_
        refine Z_wk [true, true, true, false, true, true] [some (vr 5 0), some (vi x1), some (vi x2), none, some (vi x4), some (vi x5)] rfl ?_
        exact z_X5_table_J59 hC hr N x1 x2 x4 x5 x3 ih q4 _ h ke
      · have h := it_f h c
        refine Z_iload hC (dk d_X5_table 31 rfl) 55 rfl rfl ?_
        refine Z_goto hC (dk d_X5_table 32 rfl) 59 (by decide) ?_
        refine Z_wk [true, true, true, false, true, true] [some (vr 5 0), some (vi x1), some (vi x2), none, some (vi x4), some (vi x5)] rfl ?_
        exact z_X5_table_J59 hC hr N x1 x2 x4 x5 x5 ih q4 _ h ke
noncomputable def f_X5_table (N : Nat) (a1 : Int32) (w : Wd) : Option (Int32 × Wd) :=
  (f_X5_isMate N a1 w).bind (fun q1 =>
    if q1.1 = 0 then
      some ((-1 : Int32), q1.2)
    else
      gd (vp_in a1 12) (
      (X5_table_L1 N a1 (gA q1.2 37 0 a1.toNatClampNeg) N (0 : Int32) (-1 : Int32) (0 : Int32) q1.2).bind (fun q5 =>
        gd (vp_in a1 12) (
        (f_X5_ask N q5.2.1 q5.1 (sA q5.2.2 37 0 (upd (gA q5.2.2 37 0) a1.toNatClampNeg (gA q1.2 37 0 a1.toNatClampNeg)))).bind (fun q7 =>
          some (q7.1, q7.2))))))
set_option maxRecDepth 20000 in
set_option maxHeartbeats 4000000 in
theorem s_X5_table (G : GT) (l : Launch) (N : Nat) (a1 : Int32) (w : Wd) (q : Int32 × Wd) (h : f_X5_table N a1 w = some q) : Sp G l yX5_table cw_X5_table 13 [vr 5 0, vi a1] w (some (vi q.1)) q.2 := by
  refine Sp_of (own := RX5) [some (vr 5 0), some (vi a1), none, none, none, none] (by decide) rfl rfl (Nat.le_of_ble_eq_true rfl) ?_
  intro x hG hl hC hr hQ _ _
  subst hG
  subst hl
  unfold f_X5_table at h
  refine Z_aload_n hC (dk d_X5_table 0 rfl) 1 rfl rfl rfl ?_
  refine Z_iload_n hC (dk d_X5_table 1 rfl) 2 rfl rfl rfl ?_
  obtain ⟨q1, hq1, h⟩ := bd_some h
  refine K_X5_137 [vi a1] hC m_5 (s_X5_isMate (xG x) (xl x) N a1 w q1 hq1) (Nat.le_of_ble_eq_true rfl) rfl rfl rfl (Nat.le_of_ble_eq_true rfl) (dk d_X5_table 2 rfl) 5 rfl ?_
  refine Z_if_ne hC (dk d_X5_table 3 rfl) 8 10 rfl (by decide) (fun c => ?_) (fun c => ?_)
  · have h := it_f h c
    refine Z_aload_n hC (dk d_X5_table 6 rfl) 11 rfl rfl rfl ?_
    refine G_X5_39 hC m_5 (dk d_X5_table 7 rfl) 14 rfl ?_
    refine Z_iload_n hC (dk d_X5_table 8 rfl) 15 rfl rfl rfl ?_
    obtain ⟨g2, h⟩ := gd_some h
    refine Z_iaload hC m_37 (by decide) rfl g2 (dk d_X5_table 9 rfl) 16 rfl ?_
    refine Z_istore_n hC (dk d_X5_table 10 rfl) 17 rfl rfl (Nat.le_of_ble_eq_true rfl) [some (vr 5 0), some (vi a1), some (vi (gA q1.2 37 0 a1.toNatClampNeg)), none, none, none] rfl ?_
    refine Z_iconst (v := 0) hC (dk d_X5_table 11 rfl) 18 rfl (by decide) ?_
    refine Z_istore_n hC (dk d_X5_table 12 rfl) 19 rfl rfl (Nat.le_of_ble_eq_true rfl) [some (vr 5 0), some (vi a1), some (vi (gA q1.2 37 0 a1.toNatClampNeg)), some (vi (0 : Int32)), none, none] rfl ?_
    refine Z_iconst (v := -1) hC (dk d_X5_table 13 rfl) 20 rfl (by decide) ?_
    refine Z_istore hC (dk d_X5_table 14 rfl) 22 rfl (Nat.le_of_ble_eq_true rfl) [some (vr 5 0), some (vi a1), some (vi (gA q1.2 37 0 a1.toNatClampNeg)), some (vi (0 : Int32)), some (vi (-1 : Int32)), none] rfl ?_
    refine Z_iconst (v := 0) hC (dk d_X5_table 15 rfl) 23 rfl (by decide) ?_
    refine Z_istore hC (dk d_X5_table 16 rfl) 25 rfl (Nat.le_of_ble_eq_true rfl) [some (vr 5 0), some (vi a1), some (vi (gA q1.2 37 0 a1.toNatClampNeg)), some (vi (0 : Int32)), some (vi (-1 : Int32)), some (vi (0 : Int32))] rfl ?_
    obtain ⟨q5, hq5, h⟩ := bd_some h
    refine Z_wk [true, true, true, true, true, true] [some (vr 5 0), some (vi a1), some (vi (gA q1.2 37 0 a1.toNatClampNeg)), some (vi (0 : Int32)), some (vi (-1 : Int32)), some (vi (0 : Int32))] rfl ?_
    refine z_X5_table_L1 hC hr N a1 (gA q1.2 37 0 a1.toNatClampNeg) N (0 : Int32) (-1 : Int32) (0 : Int32) q1.2 q5 hq5 ?_
    refine Z_aload_n hC (dk d_X5_table 46 rfl) 87 rfl rfl rfl ?_
    refine G_X5_39 hC m_5 (dk d_X5_table 47 rfl) 90 rfl ?_
    refine Z_iload_n hC (dk d_X5_table 48 rfl) 91 rfl rfl rfl ?_
    refine Z_iload_n hC (dk d_X5_table 49 rfl) 92 rfl rfl rfl ?_
    obtain ⟨g6, h⟩ := gd_some h
    refine Z_iastore hC m_37 (by decide) rfl g6 (dk d_X5_table 50 rfl) 93 rfl ?_
    refine Z_aload_n hC (dk d_X5_table 51 rfl) 94 rfl rfl rfl ?_
    refine Z_iload hC (dk d_X5_table 52 rfl) 96 rfl rfl ?_
    refine Z_iload_n hC (dk d_X5_table 53 rfl) 97 rfl rfl rfl ?_
    obtain ⟨q7, hq7, h⟩ := bd_some h
    refine K_X5_98 [vi q5.2.1, vi q5.1] hC m_5 (s_X5_ask (xG x) (xl x) N q5.2.1 q5.1 (sA q5.2.2 37 0 (upd (gA q5.2.2 37 0) a1.toNatClampNeg (gA q1.2 37 0 a1.toNatClampNeg))) q7 hq7) (Nat.le_of_ble_eq_true rfl) rfl rfl rfl (Nat.le_of_ble_eq_true rfl) (dk d_X5_table 54 rfl) 100 rfl ?_
    obtain rfl := Option.some.inj h
    exact Z_ireturn (st := []) hC hr hQ (dk d_X5_table 55 rfl)
  · have h := it_t h c
    refine Z_iconst (v := -1) hC (dk d_X5_table 4 rfl) 9 rfl (by decide) ?_
    obtain rfl := Option.some.inj h
    exact Z_ireturn (st := []) hC hr hQ (dk d_X5_table 5 rfl)
def t_X5_rings : List (Nat × Instr × Nat) := [(0, .aload_n 0, 1), (1, .iload_n 1, 1), (2, .invokevirtual 169, 3), (5, .istore_n 2, 1), (6, .iload_n 2, 1), (7, .ifCond .ge 5, 3), (10, .iload_n 2, 1), (11, .ireturn, 1), (12, .aload_n 0, 1), (13, .aload_n 0, 1), (14, .getfield 125, 3), (17, .ifCond .ne 7, 3), (20, .iconst 0, 1), (21, .goto 8, 3), (24, .aload_n 0, 1), (25, .iconst 0, 1), (26, .invokevirtual 249, 3), (29, .aload_n 0, 1), (30, .invokevirtual 165, 3), (33, .invokevirtual 98, 3), (36, .ireturn, 1)]
set_option maxRecDepth 20000 in
theorem d_X5_rings : ∀ q ∈ t_X5_rings, decode cX5_rings q.1 = .ok q.2 := by decide +kernel
noncomputable def f_X5_rings (N : Nat) (a1 : Int32) (w : Wd) : Option (Int32 × Wd) :=
  (f_X5_askedDrawing N a1 w).bind (fun q1 =>
    if 0 ≤ q1.1 then
      if (gI q1.2 510 0) = 0 then
        (f_X5_ringsOf N q1.2).bind (fun q5 =>
          (f_X5_ask N (0 : Int32) q5.1 q5.2).bind (fun q6 =>
            some (q6.1, q6.2)))
      else
        (f_X5_ringOf N (0 : Int32) q1.2).bind (fun q2 =>
          (f_X5_ringsOf N q2.2).bind (fun q3 =>
            (f_X5_ask N q2.1 q3.1 q3.2).bind (fun q4 =>
              some (q4.1, q4.2))))
    else
      some (q1.1, q1.2))
set_option maxRecDepth 20000 in
set_option maxHeartbeats 4000000 in
theorem s_X5_rings (G : GT) (l : Launch) (N : Nat) (a1 : Int32) (w : Wd) (q : Int32 × Wd) (h : f_X5_rings N a1 w = some q) : Sp G l yX5_rings cw_X5_rings 4 [vr 5 0, vi a1] w (some (vi q.1)) q.2 := by
  refine Sp_of (own := RX5) [some (vr 5 0), some (vi a1), none] (by decide) rfl rfl (Nat.le_of_ble_eq_true rfl) ?_
  intro x hG hl hC hr hQ _ _
  subst hG
  subst hl
  unfold f_X5_rings at h
  refine Z_aload_n hC (dk d_X5_rings 0 rfl) 1 rfl rfl rfl ?_
  refine Z_iload_n hC (dk d_X5_rings 1 rfl) 2 rfl rfl rfl ?_
  obtain ⟨q1, hq1, h⟩ := bd_some h
  refine K_X5_169 [vi a1] hC m_5 (s_X5_askedDrawing (xG x) (xl x) N a1 w q1 hq1) (Nat.le_of_ble_eq_true rfl) rfl rfl rfl (Nat.le_of_ble_eq_true rfl) (dk d_X5_rings 2 rfl) 5 rfl ?_
  refine Z_istore_n hC (dk d_X5_rings 3 rfl) 6 rfl rfl (Nat.le_of_ble_eq_true rfl) [some (vr 5 0), some (vi a1), some (vi q1.1)] rfl ?_
  refine Z_iload_n hC (dk d_X5_rings 4 rfl) 7 rfl rfl rfl ?_
  refine Z_if_ge hC (dk d_X5_rings 5 rfl) 10 12 rfl (by decide) (fun c => ?_) (fun c => ?_)
  · have h := it_t h c
    refine Z_aload_n hC (dk d_X5_rings 8 rfl) 13 rfl rfl rfl ?_
    refine Z_aload_n hC (dk d_X5_rings 9 rfl) 14 rfl rfl rfl ?_
    refine G_X5_125 hC m_5 (dk d_X5_rings 10 rfl) 17 rfl ?_
    refine Z_if_ne hC (dk d_X5_rings 11 rfl) 20 24 rfl (by decide) (fun c => ?_) (fun c => ?_)
    · have h := it_f h c
      refine Z_aload_n hC (dk d_X5_rings 14 rfl) 25 rfl rfl rfl ?_
      refine Z_iconst (v := 0) hC (dk d_X5_rings 15 rfl) 26 rfl (by decide) ?_
      obtain ⟨q2, hq2, h⟩ := bd_some h
      refine K_X5_249 [vi (0 : Int32)] hC m_5 (s_X5_ringOf (xG x) (xl x) N (0 : Int32) q1.2 q2 hq2) (Nat.le_of_ble_eq_true rfl) rfl rfl rfl (Nat.le_of_ble_eq_true rfl) (dk d_X5_rings 16 rfl) 29 rfl ?_
      refine Z_aload_n hC (dk d_X5_rings 17 rfl) 30 rfl rfl rfl ?_
      obtain ⟨q3, hq3, h⟩ := bd_some h
      refine K_X5_165 [] hC m_5 (s_X5_ringsOf (xG x) (xl x) N q2.2 q3 hq3) (Nat.le_of_ble_eq_true rfl) rfl rfl rfl (Nat.le_of_ble_eq_true rfl) (dk d_X5_rings 18 rfl) 33 rfl ?_
      obtain ⟨q4, hq4, h⟩ := bd_some h
      refine K_X5_98 [vi q2.1, vi q3.1] hC m_5 (s_X5_ask (xG x) (xl x) N q2.1 q3.1 q3.2 q4 hq4) (Nat.le_of_ble_eq_true rfl) rfl rfl rfl (Nat.le_of_ble_eq_true rfl) (dk d_X5_rings 19 rfl) 36 rfl ?_
      obtain rfl := Option.some.inj h
      exact Z_ireturn (st := []) hC hr hQ (dk d_X5_rings 20 rfl)
    · have h := it_t h c
      refine Z_iconst (v := 0) hC (dk d_X5_rings 12 rfl) 21 rfl (by decide) ?_
      refine Z_goto hC (dk d_X5_rings 13 rfl) 29 (by decide) ?_
      refine Z_aload_n hC (dk d_X5_rings 17 rfl) 30 rfl rfl rfl ?_
      obtain ⟨q5, hq5, h⟩ := bd_some h
      refine K_X5_165 [] hC m_5 (s_X5_ringsOf (xG x) (xl x) N q1.2 q5 hq5) (Nat.le_of_ble_eq_true rfl) rfl rfl rfl (Nat.le_of_ble_eq_true rfl) (dk d_X5_rings 18 rfl) 33 rfl ?_
      obtain ⟨q6, hq6, h⟩ := bd_some h
      refine K_X5_98 [vi (0 : Int32), vi q5.1] hC m_5 (s_X5_ask (xG x) (xl x) N (0 : Int32) q5.1 q5.2 q6 hq6) (Nat.le_of_ble_eq_true rfl) rfl rfl rfl (Nat.le_of_ble_eq_true rfl) (dk d_X5_rings 19 rfl) 36 rfl ?_
      obtain rfl := Option.some.inj h
      exact Z_ireturn (st := []) hC hr hQ (dk d_X5_rings 20 rfl)
  · have h := it_f h c
    refine Z_iload_n hC (dk d_X5_rings 6 rfl) 11 rfl rfl rfl ?_
    obtain rfl := Option.some.inj h
    exact Z_ireturn (st := []) hC hr hQ (dk d_X5_rings 7 rfl)
def t_X5_lookAt : List (Nat × Instr × Nat) := [(0, .iconst 0, 1), (1, .istore_n 2, 1), (2, .iload_n 2, 1), (3, .aload_n 0, 1), (4, .getfield 125, 3), (7, .if_icmp .ge 21, 3), (10, .aload_n 0, 1), (11, .getfield 48, 3), (14, .iload_n 2, 1), (15, .aload_n 0, 1), (16, .iload_n 1, 1), (17, .iload_n 2, 1), (18, .invokevirtual 191, 3), (21, .iastore, 1), (22, .iinc 2 1, 3), (25, .goto (-23), 3), (28, .return_, 1)]
set_option maxRecDepth 20000 in
theorem d_X5_lookAt : ∀ q ∈ t_X5_lookAt, decode cX5_lookAt q.1 = .ok q.2 := by decide +kernel
noncomputable def X5_lookAt_L1 (N : Nat) (x1 : Int32) : Nat → Int32 → Wd → Option (Wd)
  | 0, _, _ => none
  | n + 1, x2, w =>
  if (gI w 510 0) ≤ x2 then
    some w
  else
    (f_X5_right N x1 x2 w).bind (fun q1 =>
      gd (vp_in x2 6) (
      X5_lookAt_L1 N x1 n (x2 + (1 : Int32)) (sA q1.2 40 0 (upd (gA q1.2 40 0) x2.toNatClampNeg q1.1))))
set_option maxRecDepth 20000 in
set_option maxHeartbeats 4000000 in
theorem z_X5_lookAt_L1 {x : CX} (hC : Cx x RX5 cX5_lookAt 3 1) (hr : (xM x).sig.returnType = none) (N : Nat) (x1 : Int32) : ∀ (n : Nat) (x2 : Int32) (w : Wd) (q : (Wd)), X5_lookAt_L1 N x1 n x2 w = some q → Z x 28 [none, none, none] [] q → Z x 2 [some (vr 5 0), some (vi x1), some (vi x2)] [] w := by
  intro n
  induction n with
  | zero =>
    intro x2 w q h
    cases h
  | succ n ih =>
    intro x2 w q h ke
    rw [X5_lookAt_L1] at h
    refine Z_iload_n hC (dk d_X5_lookAt 2 rfl) 3 rfl rfl rfl ?_
    refine Z_aload_n hC (dk d_X5_lookAt 3 rfl) 4 rfl rfl rfl ?_
    refine G_X5_125 hC m_5 (dk d_X5_lookAt 4 rfl) 7 rfl ?_
    refine Z_icmp_ge hC (dk d_X5_lookAt 5 rfl) 10 28 rfl (by decide) (fun c => ?_) (fun c => ?_)
    · have h := it_t h c
      obtain rfl := Option.some.inj h
      refine Z_wk [false, false, false] [none, none, none] rfl ?_
      exact ke
    · have h := it_f h c
      refine Z_aload_n hC (dk d_X5_lookAt 6 rfl) 11 rfl rfl rfl ?_
      refine G_X5_48 hC m_5 (dk d_X5_lookAt 7 rfl) 14 rfl ?_
      refine Z_iload_n hC (dk d_X5_lookAt 8 rfl) 15 rfl rfl rfl ?_
      refine Z_aload_n hC (dk d_X5_lookAt 9 rfl) 16 rfl rfl rfl ?_
      refine Z_iload_n hC (dk d_X5_lookAt 10 rfl) 17 rfl rfl rfl ?_
      refine Z_iload_n hC (dk d_X5_lookAt 11 rfl) 18 rfl rfl rfl ?_
      obtain ⟨q1, hq1, h⟩ := bd_some h
      refine K_X5_191 [vi x1, vi x2] hC m_5 (s_X5_right (xG x) (xl x) N x1 x2 w q1 hq1) (Nat.le_of_ble_eq_true rfl) rfl rfl rfl (Nat.le_of_ble_eq_true rfl) (dk d_X5_lookAt 12 rfl) 21 rfl ?_
      obtain ⟨g2, h⟩ := gd_some h
      refine Z_iastore hC m_40 (by decide) rfl g2 (dk d_X5_lookAt 13 rfl) 22 rfl ?_
      refine Z_iinc hC (dk d_X5_lookAt 14 rfl) 25 rfl rfl rfl [some (vr 5 0), some (vi x1), some (vi (x2 + (1 : Int32)))] rfl ?_
      refine Z_goto hC (dk d_X5_lookAt 15 rfl) 2 (by decide) ?_
      refine Z_wk [true, true, true] [some (vr 5 0), some (vi x1), some (vi (x2 + (1 : Int32)))] rfl ?_
      exact ih (x2 + (1 : Int32)) (sA q1.2 40 0 (upd (gA q1.2 40 0) x2.toNatClampNeg q1.1)) _ h ke
noncomputable def f_X5_lookAt (N : Nat) (a1 : Int32) (w : Wd) : Option (Wd) :=
  (X5_lookAt_L1 N a1 N (0 : Int32) w).bind (fun q3 =>
    some q3)
set_option maxRecDepth 20000 in
set_option maxHeartbeats 4000000 in
theorem s_X5_lookAt (G : GT) (l : Launch) (N : Nat) (a1 : Int32) (w : Wd) (q : Wd) (h : f_X5_lookAt N a1 w = some q) : Sp G l yX5_lookAt cw_X5_lookAt 1 [vr 5 0, vi a1] w none q := by
  refine Sp_of (own := RX5) [some (vr 5 0), some (vi a1), none] (by decide) rfl rfl (Nat.le_of_ble_eq_true rfl) ?_
  intro x hG hl hC hr hQ _ _
  subst hG
  subst hl
  unfold f_X5_lookAt at h
  refine Z_iconst (v := 0) hC (dk d_X5_lookAt 0 rfl) 1 rfl (by decide) ?_
  refine Z_istore_n hC (dk d_X5_lookAt 1 rfl) 2 rfl rfl (Nat.le_of_ble_eq_true rfl) [some (vr 5 0), some (vi a1), some (vi (0 : Int32))] rfl ?_
  obtain ⟨q3, hq3, h⟩ := bd_some h
  refine Z_wk [true, true, true] [some (vr 5 0), some (vi a1), some (vi (0 : Int32))] rfl ?_
  refine z_X5_lookAt_L1 hC hr N a1 N (0 : Int32) w q3 hq3 ?_
  obtain rfl := Option.some.inj h
  exact Z_return (st := []) hC hr hQ (dk d_X5_lookAt 16 rfl)
def t_X5_ringed : List (Nat × Instr × Nat) := [(0, .iload_n 1, 1), (1, .iconst 0, 1), (2, .bipush 6, 2), (4, .invokestatic 72, 3), (7, .ifCond .ne 5, 3), (10, .iconst (-1), 1), (11, .ireturn, 1), (12, .aload_n 0, 1), (13, .invokevirtual 185, 3), (16, .aload_n 0, 1), (17, .getfield 175, 3), (20, .ifCond .ne 9, 3), (23, .aload_n 0, 1), (24, .iconst 4, 1), (25, .invokevirtual 80, 3), (28, .ireturn, 1), (29, .iconst 0, 1), (30, .istore_n 2, 1), (31, .iconst 0, 1), (32, .istore_n 3, 1), (33, .iload_n 3, 1), (34, .aload_n 0, 1), (35, .getfield 175, 3), (38, .if_icmp .ge 30, 3), (41, .aload_n 0, 1), (42, .iload_n 3, 1), (43, .invokevirtual 252, 3), (46, .iload_n 2, 1), (47, .aload_n 0, 1), (48, .invokevirtual 165, 3), (51, .iload_n 1, 1), (52, .if_icmp .ne 7, 3), (55, .iconst 1, 1), (56, .goto 4, 3), (59, .iconst 0, 1), (60, .iadd, 1), (61, .istore_n 2, 1), (62, .iinc 3 1, 3), (65, .goto (-32), 3), (68, .aload_n 0, 1), (69, .iload_n 2, 1), (70, .i2l, 1), (71, .aload_n 0, 1), (72, .getfield 175, 3), (75, .i2l, 1), (76, .iload_n 2, 1), (77, .invokevirtual 227, 3), (80, .ireturn, 1)]
set_option maxRecDepth 20000 in
theorem d_X5_ringed : ∀ q ∈ t_X5_ringed, decode cX5_ringed q.1 = .ok q.2 := by decide +kernel
noncomputable def X5_ringed_L1 (N : Nat) (x1 : Int32) : Nat → Int32 → Int32 → Wd → Option (Int32 × Wd)
  | 0, _, _, _ => none
  | n + 1, x2, x3, w =>
  if (gI w 522 0) ≤ x3 then
    some (x2, w)
  else
    (f_X5_lookAt N x3 w).bind (fun q3 =>
      (f_X5_ringsOf N q3).bind (fun q4 =>
        if q4.1 = x1 then
          X5_ringed_L1 N x1 n (x2 + (1 : Int32)) (x3 + (1 : Int32)) q4.2
        else
          X5_ringed_L1 N x1 n (x2 + (0 : Int32)) (x3 + (1 : Int32)) q4.2))
set_option maxRecDepth 20000 in
set_option maxHeartbeats 4000000 in
theorem z_X5_ringed_L1 {x : CX} (hC : Cx x RX5 cX5_ringed 4 13) (hr : (xM x).sig.returnType = (some .int)) (N : Nat) (x1 : Int32) : ∀ (n : Nat) (x2 : Int32) (x3 : Int32) (w : Wd) (q : (Int32 × Wd)), X5_ringed_L1 N x1 n x2 x3 w = some q → Z x 68 [some (vr 5 0), none, some (vi q.1), none] [] q.2 → Z x 33 [some (vr 5 0), some (vi x1), some (vi x2), some (vi x3)] [] w := by
  intro n
  induction n with
  | zero =>
    intro x2 x3 w q h
    cases h
  | succ n ih =>
    intro x2 x3 w q h ke
    rw [X5_ringed_L1] at h
    refine Z_iload_n hC (dk d_X5_ringed 20 rfl) 34 rfl rfl rfl ?_
    refine Z_aload_n hC (dk d_X5_ringed 21 rfl) 35 rfl rfl rfl ?_
    refine G_X5_175 hC m_5 (dk d_X5_ringed 22 rfl) 38 rfl ?_
    refine Z_icmp_ge hC (dk d_X5_ringed 23 rfl) 41 68 rfl (by decide) (fun c => ?_) (fun c => ?_)
    · have h := it_t h c
      obtain rfl := Option.some.inj h
      refine Z_wk [true, false, true, false] [some (vr 5 0), none, some (vi x2), none] rfl ?_
      exact ke
    · have h := it_f h c
      refine Z_aload_n hC (dk d_X5_ringed 24 rfl) 42 rfl rfl rfl ?_
      refine Z_iload_n hC (dk d_X5_ringed 25 rfl) 43 rfl rfl rfl ?_
      obtain ⟨q3, hq3, h⟩ := bd_some h
      refine K_X5_252 [vi x3] hC m_5 (s_X5_lookAt (xG x) (xl x) N x3 w q3 hq3) (Nat.le_of_ble_eq_true rfl) rfl rfl rfl (Nat.le_of_ble_eq_true rfl) (dk d_X5_ringed 26 rfl) 46 rfl ?_
      refine Z_iload_n hC (dk d_X5_ringed 27 rfl) 47 rfl rfl rfl ?_
      refine Z_aload_n hC (dk d_X5_ringed 28 rfl) 48 rfl rfl rfl ?_
      obtain ⟨q4, hq4, h⟩ := bd_some h
      refine K_X5_165 [] hC m_5 (s_X5_ringsOf (xG x) (xl x) N q3 q4 hq4) (Nat.le_of_ble_eq_true rfl) rfl rfl rfl (Nat.le_of_ble_eq_true rfl) (dk d_X5_ringed 29 rfl) 51 rfl ?_
      refine Z_iload_n hC (dk d_X5_ringed 30 rfl) 52 rfl rfl rfl ?_
      refine Z_icmp_ne hC (dk d_X5_ringed 31 rfl) 55 59 rfl (by decide) (fun c => ?_) (fun c => ?_)
      · have h := it_f h c
        refine Z_iconst (v := 0) hC (dk d_X5_ringed 34 rfl) 60 rfl (by decide) ?_
        refine Z_iadd hC (dk d_X5_ringed 35 rfl) 61 rfl ?_
        refine Z_istore_n hC (dk d_X5_ringed 36 rfl) 62 rfl rfl (Nat.le_of_ble_eq_true rfl) [some (vr 5 0), some (vi x1), some (vi (x2 + (0 : Int32))), some (vi x3)] rfl ?_
        refine Z_iinc hC (dk d_X5_ringed 37 rfl) 65 rfl rfl rfl [some (vr 5 0), some (vi x1), some (vi (x2 + (0 : Int32))), some (vi (x3 + (1 : Int32)))] rfl ?_
        refine Z_goto hC (dk d_X5_ringed 38 rfl) 33 (by decide) ?_
        refine Z_wk [true, true, true, true] [some (vr 5 0), some (vi x1), some (vi (x2 + (0 : Int32))), some (vi (x3 + (1 : Int32)))] rfl ?_
        exact ih (x2 + (0 : Int32)) (x3 + (1 : Int32)) q4.2 _ h ke
      · have h := it_t h c
        refine Z_iconst (v := 1) hC (dk d_X5_ringed 32 rfl) 56 rfl (by decide) ?_
        refine Z_goto hC (dk d_X5_ringed 33 rfl) 60 (by decide) ?_
        refine Z_iadd hC (dk d_X5_ringed 35 rfl) 61 rfl ?_
        refine Z_istore_n hC (dk d_X5_ringed 36 rfl) 62 rfl rfl (Nat.le_of_ble_eq_true rfl) [some (vr 5 0), some (vi x1), some (vi (x2 + (1 : Int32))), some (vi x3)] rfl ?_
        refine Z_iinc hC (dk d_X5_ringed 37 rfl) 65 rfl rfl rfl [some (vr 5 0), some (vi x1), some (vi (x2 + (1 : Int32))), some (vi (x3 + (1 : Int32)))] rfl ?_
        refine Z_goto hC (dk d_X5_ringed 38 rfl) 33 (by decide) ?_
        refine Z_wk [true, true, true, true] [some (vr 5 0), some (vi x1), some (vi (x2 + (1 : Int32))), some (vi (x3 + (1 : Int32)))] rfl ?_
        exact ih (x2 + (1 : Int32)) (x3 + (1 : Int32)) q4.2 _ h ke
noncomputable def f_X5_ringed (N : Nat) (a1 : Int32) (w : Wd) : Option (Int32 × Wd) :=
  (f_X5_in N a1 (0 : Int32) (6 : Int32) w).bind (fun q1 =>
    if q1.1 = 0 then
      some ((-1 : Int32), q1.2)
    else
      (f_X5_setRights N q1.2).bind (fun q2 =>
        if (gI q2 522 0) = 0 then
          (f_X5_meet N (4 : Int32) q2).bind (fun q7 =>
            some (q7.1, q7.2))
        else
          (X5_ringed_L1 N a1 N (0 : Int32) (0 : Int32) q2).bind (fun q5 =>
            (f_X5_part N q5.1.toInt64 ((gI q5.2 522 0).toInt64) q5.1 q5.2).bind (fun q6 =>
              some (q6.1, q6.2)))))
set_option maxRecDepth 20000 in
set_option maxHeartbeats 4000000 in
theorem s_X5_ringed (G : GT) (l : Launch) (N : Nat) (a1 : Int32) (w : Wd) (q : Int32 × Wd) (h : f_X5_ringed N a1 w = some q) : Sp G l yX5_ringed cw_X5_ringed 13 [vr 5 0, vi a1] w (some (vi q.1)) q.2 := by
  refine Sp_of (own := RX5) [some (vr 5 0), some (vi a1), none, none] (by decide) rfl rfl (Nat.le_of_ble_eq_true rfl) ?_
  intro x hG hl hC hr hQ _ _
  subst hG
  subst hl
  unfold f_X5_ringed at h
  refine Z_iload_n hC (dk d_X5_ringed 0 rfl) 1 rfl rfl rfl ?_
  refine Z_iconst (v := 0) hC (dk d_X5_ringed 1 rfl) 2 rfl (by decide) ?_
  refine Z_bipush (v := 6) hC (dk d_X5_ringed 2 rfl) 4 rfl (by decide) ?_
  obtain ⟨q1, hq1, h⟩ := bd_some h
  refine K_X5_72 [vi a1, vi (0 : Int32), vi (6 : Int32)] hC (s_X5_in (xG x) (xl x) N a1 (0 : Int32) (6 : Int32) w q1 hq1) (Nat.le_of_ble_eq_true rfl) rfl rfl rfl (Nat.le_of_ble_eq_true rfl) (dk d_X5_ringed 3 rfl) 7 rfl ?_
  refine Z_if_ne hC (dk d_X5_ringed 4 rfl) 10 12 rfl (by decide) (fun c => ?_) (fun c => ?_)
  · have h := it_f h c
    refine Z_aload_n hC (dk d_X5_ringed 7 rfl) 13 rfl rfl rfl ?_
    obtain ⟨q2, hq2, h⟩ := bd_some h
    refine K_X5_185 [] hC m_5 (s_X5_setRights (xG x) (xl x) N q1.2 q2 hq2) (Nat.le_of_ble_eq_true rfl) rfl rfl rfl (Nat.le_of_ble_eq_true rfl) (dk d_X5_ringed 8 rfl) 16 rfl ?_
    refine Z_aload_n hC (dk d_X5_ringed 9 rfl) 17 rfl rfl rfl ?_
    refine G_X5_175 hC m_5 (dk d_X5_ringed 10 rfl) 20 rfl ?_
    refine Z_if_ne hC (dk d_X5_ringed 11 rfl) 23 29 rfl (by decide) (fun c => ?_) (fun c => ?_)
    · have h := it_f h c
      refine Z_iconst (v := 0) hC (dk d_X5_ringed 16 rfl) 30 rfl (by decide) ?_
      refine Z_istore_n hC (dk d_X5_ringed 17 rfl) 31 rfl rfl (Nat.le_of_ble_eq_true rfl) [some (vr 5 0), some (vi a1), some (vi (0 : Int32)), none] rfl ?_
      refine Z_iconst (v := 0) hC (dk d_X5_ringed 18 rfl) 32 rfl (by decide) ?_
      refine Z_istore_n hC (dk d_X5_ringed 19 rfl) 33 rfl rfl (Nat.le_of_ble_eq_true rfl) [some (vr 5 0), some (vi a1), some (vi (0 : Int32)), some (vi (0 : Int32))] rfl ?_
      obtain ⟨q5, hq5, h⟩ := bd_some h
      refine Z_wk [true, true, true, true] [some (vr 5 0), some (vi a1), some (vi (0 : Int32)), some (vi (0 : Int32))] rfl ?_
      refine z_X5_ringed_L1 hC hr N a1 N (0 : Int32) (0 : Int32) q2 q5 hq5 ?_
      refine Z_aload_n hC (dk d_X5_ringed 39 rfl) 69 rfl rfl rfl ?_
      refine Z_iload_n hC (dk d_X5_ringed 40 rfl) 70 rfl rfl rfl ?_
      refine Z_i2l hC (dk d_X5_ringed 41 rfl) 71 rfl ?_
      refine Z_aload_n hC (dk d_X5_ringed 42 rfl) 72 rfl rfl rfl ?_
      refine G_X5_175 hC m_5 (dk d_X5_ringed 43 rfl) 75 rfl ?_
      refine Z_i2l hC (dk d_X5_ringed 44 rfl) 76 rfl ?_
      refine Z_iload_n hC (dk d_X5_ringed 45 rfl) 77 rfl rfl rfl ?_
      obtain ⟨q6, hq6, h⟩ := bd_some h
      refine K_X5_227 [vl q5.1.toInt64, vl ((gI q5.2 522 0).toInt64), vi q5.1] hC m_5 (s_X5_part (xG x) (xl x) N q5.1.toInt64 ((gI q5.2 522 0).toInt64) q5.1 q5.2 q6 hq6) (Nat.le_of_ble_eq_true rfl) rfl rfl rfl (Nat.le_of_ble_eq_true rfl) (dk d_X5_ringed 46 rfl) 80 rfl ?_
      obtain rfl := Option.some.inj h
      exact Z_ireturn (st := []) hC hr hQ (dk d_X5_ringed 47 rfl)
    · have h := it_t h c
      refine Z_aload_n hC (dk d_X5_ringed 12 rfl) 24 rfl rfl rfl ?_
      refine Z_iconst (v := 4) hC (dk d_X5_ringed 13 rfl) 25 rfl (by decide) ?_
      obtain ⟨q7, hq7, h⟩ := bd_some h
      refine K_X5_80 [vi (4 : Int32)] hC m_5 (s_X5_meet (xG x) (xl x) N (4 : Int32) q2 q7 hq7) (Nat.le_of_ble_eq_true rfl) rfl rfl rfl (Nat.le_of_ble_eq_true rfl) (dk d_X5_ringed 14 rfl) 28 rfl ?_
      obtain rfl := Option.some.inj h
      exact Z_ireturn (st := []) hC hr hQ (dk d_X5_ringed 15 rfl)
  · have h := it_t h c
    refine Z_iconst (v := -1) hC (dk d_X5_ringed 5 rfl) 11 rfl (by decide) ?_
    obtain rfl := Option.some.inj h
    exact Z_ireturn (st := []) hC hr hQ (dk d_X5_ringed 6 rfl)
