def t_X5_even : List (Nat × Instr × Nat) := [(0, .iload_n 1, 1), (1, .invokestatic 76, 3), (4, .ifCond .ne 5, 3), (7, .iconst (-1), 1), (8, .ireturn, 1), (9, .aload_n 0, 1), (10, .invokevirtual 185, 3), (13, .bipush (-9), 2), (15, .istore_n 2, 1), (16, .bipush 100, 2), (18, .istore_n 3, 1), (19, .iconst 0, 1), (20, .istore 4, 2), (22, .iload 4, 2), (24, .aload_n 0, 1), (25, .getfield 175, 3), (28, .if_icmp .ge 110, 3), (31, .iconst 0, 1), (32, .istore 5, 2), (34, .iconst 0, 1), (35, .istore 6, 2), (37, .iload 6, 2), (39, .aload_n 0, 1), (40, .getfield 125, 3), (43, .if_icmp .ge 63, 3), (46, .aload_n 0, 1), (47, .getfield 42, 3), (50, .iload 6, 2), (52, .iaload, 1), (53, .aload_n 0, 1), (54, .getfield 42, 3), (57, .aload_n 0, 1), (58, .iload 4, 2), (60, .iload 6, 2), (62, .invokevirtual 191, 3), (65, .iaload, 1), (66, .isub, 1), (67, .istore 7, 2), (69, .iload 7, 2), (71, .ifCond .ge 9, 3), (74, .iload 7, 2), (76, .ineg, 1), (77, .goto 5, 3), (80, .iload 7, 2), (82, .istore 7, 2), (84, .iload 7, 2), (86, .iload 5, 2), (88, .if_icmp .le 8, 3), (91, .iload 7, 2), (93, .goto 5, 3), (96, .iload 5, 2), (98, .istore 5, 2), (100, .iinc 6 1, 3), (103, .goto (-66), 3), (106, .iload 5, 2), (108, .iload_n 3, 1), (109, .if_icmp .ge 8, 3), (112, .iload 4, 2), (114, .goto 4, 3), (117, .iload_n 2, 1), (118, .istore_n 2, 1), (119, .iload 5, 2), (121, .iload_n 3, 1), (122, .if_icmp .ge 8, 3), (125, .iload 5, 2), (127, .goto 4, 3), (130, .iload_n 3, 1), (131, .istore_n 3, 1), (132, .iinc 4 1, 3), (135, .goto (-113), 3), (138, .iload_n 2, 1), (139, .bipush (-9), 2), (141, .if_icmp .ne 6, 3), (144, .bipush (-9), 2), (146, .ireturn, 1), (147, .aload_n 0, 1), (148, .iload_n 2, 1), (149, .iload_n 1, 1), (150, .invokevirtual 194, 3), (153, .iload_n 3, 1), (154, .ireturn, 1)]
set_option maxRecDepth 20000 in
theorem d_X5_even : ∀ q ∈ t_X5_even, decode cX5_even q.1 = .ok q.2 := by decide +kernel
noncomputable def X5_even_J82 (N : Nat) (go : Int32 → Int32 → Wd → Option (Int32 × Wd)) (x1 : Int32) (x2 : Int32) (x3 : Int32) (x4 : Int32) (x5 : Int32) (x6 : Int32) (s0 : Int32) (w : Wd) : Option (Int32 × Wd) :=
  if s0 ≤ x5 then
    go x5 (x6 + (1 : Int32)) w
  else
    go s0 (x6 + (1 : Int32)) w
set_option maxRecDepth 20000 in
set_option maxHeartbeats 4000000 in
theorem z_X5_even_J82 {x : CX} (hC : Cx x RX5 cX5_even 8 13) (hr : (xM x).sig.returnType = (some .int)) (N : Nat) (x1 : Int32) (x2 : Int32) (x3 : Int32) (x4 : Int32) (x5 : Int32) (x6 : Int32) (s0 : Int32) {go : Int32 → Int32 → Wd → Option (Int32 × Wd)} (hgo : ∀ (x5 : Int32) (x6 : Int32) (w : Wd) (q : (Int32 × Wd)), go x5 x6 w = some q → Z x 106 [some (vr 5 0), some (vi x1), some (vi x2), some (vi x3), some (vi x4), some (vi q.1), none, none] [] q.2 → Z x 37 [some (vr 5 0), some (vi x1), some (vi x2), some (vi x3), some (vi x4), some (vi x5), some (vi x6), none] [] w) (w : Wd) (q : (Int32 × Wd)) (h : X5_even_J82 N go x1 x2 x3 x4 x5 x6 s0 w = some q) (ke : Z x 106 [some (vr 5 0), some (vi x1), some (vi x2), some (vi x3), some (vi x4), some (vi q.1), none, none] [] q.2) : Z x 82 [some (vr 5 0), some (vi x1), some (vi x2), some (vi x3), some (vi x4), some (vi x5), some (vi x6), none] [vi s0] w := by
  unfold X5_even_J82 at h
  refine Z_istore hC (dk d_X5_even 44 rfl) 84 rfl (Nat.le_of_ble_eq_true rfl) [some (vr 5 0), some (vi x1), some (vi x2), some (vi x3), some (vi x4), some (vi x5), some (vi x6), some (vi s0)] rfl ?_
  refine Z_iload hC (dk d_X5_even 45 rfl) 86 rfl rfl ?_
  refine Z_iload hC (dk d_X5_even 46 rfl) 88 rfl rfl ?_
  refine Z_icmp_le hC (dk d_X5_even 47 rfl) 91 96 rfl (by decide) (fun c => ?_) (fun c => ?_)
  · have h := it_t h c
    refine Z_iload hC (dk d_X5_even 50 rfl) 98 rfl rfl ?_
    refine Z_istore hC (dk d_X5_even 51 rfl) 100 rfl (Nat.le_of_ble_eq_true rfl) [some (vr 5 0), some (vi x1), some (vi x2), some (vi x3), some (vi x4), some (vi x5), some (vi x6), some (vi s0)] rfl ?_
    refine Z_iinc hC (dk d_X5_even 52 rfl) 103 rfl rfl rfl [some (vr 5 0), some (vi x1), some (vi x2), some (vi x3), some (vi x4), some (vi x5), some (vi (x6 + (1 : Int32))), some (vi s0)] rfl ?_
    refine Z_goto hC (dk d_X5_even 53 rfl) 37 (by decide) ?_
    refine Z_wk [true, true, true, true, true, true, true, false] [some (vr 5 0), some (vi x1), some (vi x2), some (vi x3), some (vi x4), some (vi x5), some (vi (x6 + (1 : Int32))), none] rfl ?_
    exact hgo x5 (x6 + (1 : Int32)) w _ h ke
  · have h := it_f h c
    refine Z_iload hC (dk d_X5_even 48 rfl) 93 rfl rfl ?_
    refine Z_goto hC (dk d_X5_even 49 rfl) 98 (by decide) ?_
    refine Z_istore hC (dk d_X5_even 51 rfl) 100 rfl (Nat.le_of_ble_eq_true rfl) [some (vr 5 0), some (vi x1), some (vi x2), some (vi x3), some (vi x4), some (vi s0), some (vi x6), some (vi s0)] rfl ?_
    refine Z_iinc hC (dk d_X5_even 52 rfl) 103 rfl rfl rfl [some (vr 5 0), some (vi x1), some (vi x2), some (vi x3), some (vi x4), some (vi s0), some (vi (x6 + (1 : Int32))), some (vi s0)] rfl ?_
    refine Z_goto hC (dk d_X5_even 53 rfl) 37 (by decide) ?_
    refine Z_wk [true, true, true, true, true, true, true, false] [some (vr 5 0), some (vi x1), some (vi x2), some (vi x3), some (vi x4), some (vi s0), some (vi (x6 + (1 : Int32))), none] rfl ?_
    exact hgo s0 (x6 + (1 : Int32)) w _ h ke
noncomputable def X5_even_L2 (N : Nat) (x1 : Int32) (x2 : Int32) (x3 : Int32) (x4 : Int32) : Nat → Int32 → Int32 → Wd → Option (Int32 × Wd)
  | 0, _, _, _ => none
  | n + 1, x5, x6, w =>
  if (gI w 510 0) ≤ x6 then
    some (x5, w)
  else
    gd (vp_in x6 12) (
    (f_X5_right N x4 x6 w).bind (fun q4 =>
      gd (vp_in q4.1 12) (
      if 0 ≤ ((gA w 38 0 x6.toNatClampNeg) - (gA q4.2 38 0 q4.1.toNatClampNeg)) then
        X5_even_J82 N (X5_even_L2 N x1 x2 x3 x4 n) x1 x2 x3 x4 x5 x6 ((gA w 38 0 x6.toNatClampNeg) - (gA q4.2 38 0 q4.1.toNatClampNeg)) q4.2
      else
        X5_even_J82 N (X5_even_L2 N x1 x2 x3 x4 n) x1 x2 x3 x4 x5 x6 (-((gA w 38 0 x6.toNatClampNeg) - (gA q4.2 38 0 q4.1.toNatClampNeg))) q4.2)))
set_option maxRecDepth 20000 in
set_option maxHeartbeats 4000000 in
theorem z_X5_even_L2 {x : CX} (hC : Cx x RX5 cX5_even 8 13) (hr : (xM x).sig.returnType = (some .int)) (N : Nat) (x1 : Int32) (x2 : Int32) (x3 : Int32) (x4 : Int32) : ∀ (n : Nat) (x5 : Int32) (x6 : Int32) (w : Wd) (q : (Int32 × Wd)), X5_even_L2 N x1 x2 x3 x4 n x5 x6 w = some q → Z x 106 [some (vr 5 0), some (vi x1), some (vi x2), some (vi x3), some (vi x4), some (vi q.1), none, none] [] q.2 → Z x 37 [some (vr 5 0), some (vi x1), some (vi x2), some (vi x3), some (vi x4), some (vi x5), some (vi x6), none] [] w := by
  intro n
  induction n with
  | zero =>
    intro x5 x6 w q h
    cases h
  | succ n ih =>
    intro x5 x6 w q h ke
    rw [X5_even_L2] at h
    refine Z_iload hC (dk d_X5_even 21 rfl) 39 rfl rfl ?_
    refine Z_aload_n hC (dk d_X5_even 22 rfl) 40 rfl rfl rfl ?_
    refine G_X5_125 hC m_5 (dk d_X5_even 23 rfl) 43 rfl ?_
    refine Z_icmp_ge hC (dk d_X5_even 24 rfl) 46 106 rfl (by decide) (fun c => ?_) (fun c => ?_)
    · have h := it_t h c
      obtain rfl := Option.some.inj h
      refine Z_wk [true, true, true, true, true, true, false, false] [some (vr 5 0), some (vi x1), some (vi x2), some (vi x3), some (vi x4), some (vi x5), none, none] rfl ?_
      exact ke
    · have h := it_f h c
      refine Z_aload_n hC (dk d_X5_even 25 rfl) 47 rfl rfl rfl ?_
      refine G_X5_42 hC m_5 (dk d_X5_even 26 rfl) 50 rfl ?_
      refine Z_iload hC (dk d_X5_even 27 rfl) 52 rfl rfl ?_
      obtain ⟨g3, h⟩ := gd_some h
      refine Z_iaload hC m_38 (by decide) rfl g3 (dk d_X5_even 28 rfl) 53 rfl ?_
      refine Z_aload_n hC (dk d_X5_even 29 rfl) 54 rfl rfl rfl ?_
      refine G_X5_42 hC m_5 (dk d_X5_even 30 rfl) 57 rfl ?_
      refine Z_aload_n hC (dk d_X5_even 31 rfl) 58 rfl rfl rfl ?_
      refine Z_iload hC (dk d_X5_even 32 rfl) 60 rfl rfl ?_
      refine Z_iload hC (dk d_X5_even 33 rfl) 62 rfl rfl ?_
      obtain ⟨q4, hq4, h⟩ := bd_some h
      refine K_X5_191 [vi x4, vi x6] hC m_5 (s_X5_right (xG x) (xl x) N x4 x6 w q4 hq4) (Nat.le_of_ble_eq_true rfl) rfl rfl rfl (Nat.le_of_ble_eq_true rfl) (dk d_X5_even 34 rfl) 65 rfl ?_
      obtain ⟨g5, h⟩ := gd_some h
      refine Z_iaload hC m_38 (by decide) rfl g5 (dk d_X5_even 35 rfl) 66 rfl ?_
      refine Z_isub hC (dk d_X5_even 36 rfl) 67 rfl ?_
      refine Z_istore hC (dk d_X5_even 37 rfl) 69 rfl (Nat.le_of_ble_eq_true rfl) [some (vr 5 0), some (vi x1), some (vi x2), some (vi x3), some (vi x4), some (vi x5), some (vi x6), some (vi ((gA w 38 0 x6.toNatClampNeg) - (gA q4.2 38 0 q4.1.toNatClampNeg)))] rfl ?_
      refine Z_iload hC (dk d_X5_even 38 rfl) 71 rfl rfl ?_
      refine Z_if_ge hC (dk d_X5_even 39 rfl) 74 80 rfl (by decide) (fun c => ?_) (fun c => ?_)
      · have h := it_t h c
        refine Z_iload hC (dk d_X5_even 43 rfl) 82 rfl rfl ?_
        refine Z_wk [true, true, true, true, true, true, true, false] [some (vr 5 0), some (vi x1), some (vi x2), some (vi x3), some (vi x4), some (vi x5), some (vi x6), none] rfl ?_
        exact z_X5_even_J82 hC hr N x1 x2 x3 x4 x5 x6 ((gA w 38 0 x6.toNatClampNeg) - (gA q4.2 38 0 q4.1.toNatClampNeg)) ih q4.2 _ h ke
      · have h := it_f h c
        refine Z_iload hC (dk d_X5_even 40 rfl) 76 rfl rfl ?_
        refine Z_ineg hC (dk d_X5_even 41 rfl) 77 rfl ?_
        refine Z_goto hC (dk d_X5_even 42 rfl) 82 (by decide) ?_
        refine Z_wk [true, true, true, true, true, true, true, false] [some (vr 5 0), some (vi x1), some (vi x2), some (vi x3), some (vi x4), some (vi x5), some (vi x6), none] rfl ?_
        exact z_X5_even_J82 hC hr N x1 x2 x3 x4 x5 x6 (-((gA w 38 0 x6.toNatClampNeg) - (gA q4.2 38 0 q4.1.toNatClampNeg))) ih q4.2 _ h ke
noncomputable def X5_even_J118 (N : Nat) (go : Int32 → Int32 → Int32 → Wd → Option (Int32 × Int32 × Wd)) (x1 : Int32) (x3 : Int32) (x4 : Int32) (x5 : Int32) (s0 : Int32) (w : Wd) : Option (Int32 × Int32 × Wd) :=
  if x3 ≤ x5 then
    go s0 x3 (x4 + (1 : Int32)) w
  else
    go s0 x5 (x4 + (1 : Int32)) w
set_option maxRecDepth 20000 in
set_option maxHeartbeats 4000000 in
theorem z_X5_even_J118 {x : CX} (hC : Cx x RX5 cX5_even 8 13) (hr : (xM x).sig.returnType = (some .int)) (N : Nat) (x1 : Int32) (x3 : Int32) (x4 : Int32) (x5 : Int32) (s0 : Int32) {go : Int32 → Int32 → Int32 → Wd → Option (Int32 × Int32 × Wd)} (hgo : ∀ (x2 : Int32) (x3 : Int32) (x4 : Int32) (w : Wd) (q : (Int32 × Int32 × Wd)), go x2 x3 x4 w = some q → Z x 138 [some (vr 5 0), some (vi x1), some (vi q.1), some (vi q.2.1), none, none, none, none] [] q.2.2 → Z x 22 [some (vr 5 0), some (vi x1), some (vi x2), some (vi x3), some (vi x4), none, none, none] [] w) (w : Wd) (q : (Int32 × Int32 × Wd)) (h : X5_even_J118 N go x1 x3 x4 x5 s0 w = some q) (ke : Z x 138 [some (vr 5 0), some (vi x1), some (vi q.1), some (vi q.2.1), none, none, none, none] [] q.2.2) : Z x 118 [some (vr 5 0), some (vi x1), none, some (vi x3), some (vi x4), some (vi x5), none, none] [vi s0] w := by
  unfold X5_even_J118 at h
  refine Z_istore_n hC (dk d_X5_even 60 rfl) 119 rfl rfl (Nat.le_of_ble_eq_true rfl) [some (vr 5 0), some (vi x1), some (vi s0), some (vi x3), some (vi x4), some (vi x5), none, none] rfl ?_
  refine Z_iload hC (dk d_X5_even 61 rfl) 121 rfl rfl ?_
  refine Z_iload_n hC (dk d_X5_even 62 rfl) 122 rfl rfl rfl ?_
  refine Z_icmp_ge hC (dk d_X5_even 63 rfl) 125 130 rfl (by decide) (fun c => ?_) (fun c => ?_)
  · have h := it_t h c
    refine Z_iload_n hC (dk d_X5_even 66 rfl) 131 rfl rfl rfl ?_
    refine Z_istore_n hC (dk d_X5_even 67 rfl) 132 rfl rfl (Nat.le_of_ble_eq_true rfl) [some (vr 5 0), some (vi x1), some (vi s0), some (vi x3), some (vi x4), some (vi x5), none, none] rfl ?_
    refine Z_iinc hC (dk d_X5_even 68 rfl) 135 rfl rfl rfl [some (vr 5 0), some (vi x1), some (vi s0), some (vi x3), some (vi (x4 + (1 : Int32))), some (vi x5), none, none] rfl ?_
    refine Z_goto hC (dk d_X5_even 69 rfl) 22 (by decide) ?_
    refine Z_wk [true, true, true, true, true, false, false, false] [some (vr 5 0), some (vi x1), some (vi s0), some (vi x3), some (vi (x4 + (1 : Int32))), none, none, none] rfl ?_
    exact hgo s0 x3 (x4 + (1 : Int32)) w _ h ke
  · have h := it_f h c
    refine Z_iload hC (dk d_X5_even 64 rfl) 127 rfl rfl ?_
    refine Z_goto hC (dk d_X5_even 65 rfl) 131 (by decide) ?_
    refine Z_istore_n hC (dk d_X5_even 67 rfl) 132 rfl rfl (Nat.le_of_ble_eq_true rfl) [some (vr 5 0), some (vi x1), some (vi s0), some (vi x5), some (vi x4), some (vi x5), none, none] rfl ?_
    refine Z_iinc hC (dk d_X5_even 68 rfl) 135 rfl rfl rfl [some (vr 5 0), some (vi x1), some (vi s0), some (vi x5), some (vi (x4 + (1 : Int32))), some (vi x5), none, none] rfl ?_
    refine Z_goto hC (dk d_X5_even 69 rfl) 22 (by decide) ?_
    refine Z_wk [true, true, true, true, true, false, false, false] [some (vr 5 0), some (vi x1), some (vi s0), some (vi x5), some (vi (x4 + (1 : Int32))), none, none, none] rfl ?_
    exact hgo s0 x5 (x4 + (1 : Int32)) w _ h ke
noncomputable def X5_even_L1 (N : Nat) (x1 : Int32) : Nat → Int32 → Int32 → Int32 → Wd → Option (Int32 × Int32 × Wd)
  | 0, _, _, _, _ => none
  | n + 1, x2, x3, x4, w =>
  if (gI w 522 0) ≤ x4 then
    some (x2, x3, w)
  else
    (X5_even_L2 N x1 x2 x3 x4 N (0 : Int32) (0 : Int32) w).bind (fun q6 =>
      if x3 ≤ q6.1 then
        X5_even_J118 N (X5_even_L1 N x1 n) x1 x3 x4 q6.1 x2 q6.2
      else
        X5_even_J118 N (X5_even_L1 N x1 n) x1 x3 x4 q6.1 x4 q6.2)
set_option maxRecDepth 20000 in
set_option maxHeartbeats 4000000 in
theorem z_X5_even_L1 {x : CX} (hC : Cx x RX5 cX5_even 8 13) (hr : (xM x).sig.returnType = (some .int)) (N : Nat) (x1 : Int32) : ∀ (n : Nat) (x2 : Int32) (x3 : Int32) (x4 : Int32) (w : Wd) (q : (Int32 × Int32 × Wd)), X5_even_L1 N x1 n x2 x3 x4 w = some q → Z x 138 [some (vr 5 0), some (vi x1), some (vi q.1), some (vi q.2.1), none, none, none, none] [] q.2.2 → Z x 22 [some (vr 5 0), some (vi x1), some (vi x2), some (vi x3), some (vi x4), none, none, none] [] w := by
  intro n
  induction n with
  | zero =>
    intro x2 x3 x4 w q h
    cases h
  | succ n ih =>
    intro x2 x3 x4 w q h ke
    rw [X5_even_L1] at h
    refine Z_iload hC (dk d_X5_even 13 rfl) 24 rfl rfl ?_
    refine Z_aload_n hC (dk d_X5_even 14 rfl) 25 rfl rfl rfl ?_
    refine G_X5_175 hC m_5 (dk d_X5_even 15 rfl) 28 rfl ?_
    refine Z_icmp_ge hC (dk d_X5_even 16 rfl) 31 138 rfl (by decide) (fun c => ?_) (fun c => ?_)
    · have h := it_t h c
      obtain rfl := Option.some.inj h
      refine Z_wk [true, true, true, true, false, false, false, false] [some (vr 5 0), some (vi x1), some (vi x2), some (vi x3), none, none, none, none] rfl ?_
      exact ke
    · have h := it_f h c
      refine Z_iconst (v := 0) hC (dk d_X5_even 17 rfl) 32 rfl (by decide) ?_
      refine Z_istore hC (dk d_X5_even 18 rfl) 34 rfl (Nat.le_of_ble_eq_true rfl) [some (vr 5 0), some (vi x1), some (vi x2), some (vi x3), some (vi x4), some (vi (0 : Int32)), none, none] rfl ?_
      refine Z_iconst (v := 0) hC (dk d_X5_even 19 rfl) 35 rfl (by decide) ?_
      refine Z_istore hC (dk d_X5_even 20 rfl) 37 rfl (Nat.le_of_ble_eq_true rfl) [some (vr 5 0), some (vi x1), some (vi x2), some (vi x3), some (vi x4), some (vi (0 : Int32)), some (vi (0 : Int32)), none] rfl ?_
      obtain ⟨q6, hq6, h⟩ := bd_some h
      refine Z_wk [true, true, true, true, true, true, true, false] [some (vr 5 0), some (vi x1), some (vi x2), some (vi x3), some (vi x4), some (vi (0 : Int32)), some (vi (0 : Int32)), none] rfl ?_
      refine z_X5_even_L2 hC hr N x1 x2 x3 x4 N (0 : Int32) (0 : Int32) w q6 hq6 ?_
      refine Z_iload hC (dk d_X5_even 54 rfl) 108 rfl rfl ?_
      refine Z_iload_n hC (dk d_X5_even 55 rfl) 109 rfl rfl rfl ?_
      refine Z_icmp_ge hC (dk d_X5_even 56 rfl) 112 117 rfl (by decide) (fun c => ?_) (fun c => ?_)
      · have h := it_t h c
        refine Z_iload_n hC (dk d_X5_even 59 rfl) 118 rfl rfl rfl ?_
        refine Z_wk [true, true, false, true, true, true, false, false] [some (vr 5 0), some (vi x1), none, some (vi x3), some (vi x4), some (vi q6.1), none, none] rfl ?_
        exact z_X5_even_J118 hC hr N x1 x3 x4 q6.1 x2 ih q6.2 _ h ke
      · have h := it_f h c
        refine Z_iload hC (dk d_X5_even 57 rfl) 114 rfl rfl ?_
        refine Z_goto hC (dk d_X5_even 58 rfl) 118 (by decide) ?_
        refine Z_wk [true, true, false, true, true, true, false, false] [some (vr 5 0), some (vi x1), none, some (vi x3), some (vi x4), some (vi q6.1), none, none] rfl ?_
        exact z_X5_even_J118 hC hr N x1 x3 x4 q6.1 x4 ih q6.2 _ h ke
noncomputable def f_X5_even (N : Nat) (a1 : Int32) (w : Wd) : Option (Int32 × Wd) :=
  (f_X5_isRow N a1 w).bind (fun q1 =>
    if q1.1 = 0 then
      some ((-1 : Int32), q1.2)
    else
      (f_X5_setRights N q1.2).bind (fun q2 =>
        (X5_even_L1 N a1 N (-9 : Int32) (100 : Int32) (0 : Int32) q2).bind (fun q7 =>
          if q7.1 = (-9 : Int32) then
            some ((-9 : Int32), q7.2.2)
          else
            (f_X5_layRight N q7.1 a1 q7.2.2).bind (fun q8 =>
              some (q7.2.1, q8)))))
set_option maxRecDepth 20000 in
set_option maxHeartbeats 4000000 in
theorem s_X5_even (G : GT) (l : Launch) (N : Nat) (a1 : Int32) (w : Wd) (q : Int32 × Wd) (h : f_X5_even N a1 w = some q) : Sp G l yX5_even cw_X5_even 13 [vr 5 0, vi a1] w (some (vi q.1)) q.2 := by
  refine Sp_of (own := RX5) [some (vr 5 0), some (vi a1), none, none, none, none, none, none] (by decide) rfl rfl (Nat.le_of_ble_eq_true rfl) ?_
  intro x hG hl hC hr hQ _ _
  subst hG
  subst hl
  unfold f_X5_even at h
  refine Z_iload_n hC (dk d_X5_even 0 rfl) 1 rfl rfl rfl ?_
  obtain ⟨q1, hq1, h⟩ := bd_some h
  refine K_X5_76 [vi a1] hC (s_X5_isRow (xG x) (xl x) N a1 w q1 hq1) (Nat.le_of_ble_eq_true rfl) rfl rfl rfl (Nat.le_of_ble_eq_true rfl) (dk d_X5_even 1 rfl) 4 rfl ?_
  refine Z_if_ne hC (dk d_X5_even 2 rfl) 7 9 rfl (by decide) (fun c => ?_) (fun c => ?_)
  · have h := it_f h c
    refine Z_aload_n hC (dk d_X5_even 5 rfl) 10 rfl rfl rfl ?_
    obtain ⟨q2, hq2, h⟩ := bd_some h
    refine K_X5_185 [] hC m_5 (s_X5_setRights (xG x) (xl x) N q1.2 q2 hq2) (Nat.le_of_ble_eq_true rfl) rfl rfl rfl (Nat.le_of_ble_eq_true rfl) (dk d_X5_even 6 rfl) 13 rfl ?_
    refine Z_bipush (v := -9) hC (dk d_X5_even 7 rfl) 15 rfl (by decide) ?_
    refine Z_istore_n hC (dk d_X5_even 8 rfl) 16 rfl rfl (Nat.le_of_ble_eq_true rfl) [some (vr 5 0), some (vi a1), some (vi (-9 : Int32)), none, none, none, none, none] rfl ?_
    refine Z_bipush (v := 100) hC (dk d_X5_even 9 rfl) 18 rfl (by decide) ?_
    refine Z_istore_n hC (dk d_X5_even 10 rfl) 19 rfl rfl (Nat.le_of_ble_eq_true rfl) [some (vr 5 0), some (vi a1), some (vi (-9 : Int32)), some (vi (100 : Int32)), none, none, none, none] rfl ?_
    refine Z_iconst (v := 0) hC (dk d_X5_even 11 rfl) 20 rfl (by decide) ?_
    refine Z_istore hC (dk d_X5_even 12 rfl) 22 rfl (Nat.le_of_ble_eq_true rfl) [some (vr 5 0), some (vi a1), some (vi (-9 : Int32)), some (vi (100 : Int32)), some (vi (0 : Int32)), none, none, none] rfl ?_
    obtain ⟨q7, hq7, h⟩ := bd_some h
    refine Z_wk [true, true, true, true, true, false, false, false] [some (vr 5 0), some (vi a1), some (vi (-9 : Int32)), some (vi (100 : Int32)), some (vi (0 : Int32)), none, none, none] rfl ?_
    refine z_X5_even_L1 hC hr N a1 N (-9 : Int32) (100 : Int32) (0 : Int32) q2 q7 hq7 ?_
    refine Z_iload_n hC (dk d_X5_even 70 rfl) 139 rfl rfl rfl ?_
    refine Z_bipush (v := -9) hC (dk d_X5_even 71 rfl) 141 rfl (by decide) ?_
    refine Z_icmp_ne hC (dk d_X5_even 72 rfl) 144 147 rfl (by decide) (fun c => ?_) (fun c => ?_)
    · have h := it_f h c
      refine Z_aload_n hC (dk d_X5_even 75 rfl) 148 rfl rfl rfl ?_
      refine Z_iload_n hC (dk d_X5_even 76 rfl) 149 rfl rfl rfl ?_
      refine Z_iload_n hC (dk d_X5_even 77 rfl) 150 rfl rfl rfl ?_
      obtain ⟨q8, hq8, h⟩ := bd_some h
      refine K_X5_194 [vi q7.1, vi a1] hC m_5 (s_X5_layRight (xG x) (xl x) N q7.1 a1 q7.2.2 q8 hq8) (Nat.le_of_ble_eq_true rfl) rfl rfl rfl (Nat.le_of_ble_eq_true rfl) (dk d_X5_even 78 rfl) 153 rfl ?_
      refine Z_iload_n hC (dk d_X5_even 79 rfl) 154 rfl rfl rfl ?_
      obtain rfl := Option.some.inj h
      exact Z_ireturn (st := []) hC hr hQ (dk d_X5_even 80 rfl)
    · have h := it_t h c
      refine Z_bipush (v := -9) hC (dk d_X5_even 73 rfl) 146 rfl (by decide) ?_
      obtain rfl := Option.some.inj h
      exact Z_ireturn (st := []) hC hr hQ (dk d_X5_even 74 rfl)
  · have h := it_t h c
    refine Z_iconst (v := -1) hC (dk d_X5_even 3 rfl) 8 rfl (by decide) ?_
    obtain rfl := Option.some.inj h
    exact Z_ireturn (st := []) hC hr hQ (dk d_X5_even 4 rfl)
def t_X5_gain : List (Nat × Instr × Nat) := [(0, .iload_n 1, 1), (1, .invokestatic 76, 3), (4, .ifCond .eq 11, 3), (7, .aload_n 0, 1), (8, .iload_n 2, 1), (9, .invokevirtual 137, 3), (12, .ifCond .ne 5, 3), (15, .iconst (-1), 1), (16, .ireturn, 1), (17, .aload_n 0, 1), (18, .iload_n 1, 1), (19, .invokevirtual 169, 3), (22, .istore_n 3, 1), (23, .iload_n 3, 1), (24, .ifCond .ge 5, 3), (27, .iload_n 3, 1), (28, .ireturn, 1), (29, .iconst 0, 1), (30, .istore 4, 2), (32, .aload_n 0, 1), (33, .getfield 48, 3), (36, .iload 4, 2), (38, .iaload, 1), (39, .iload_n 2, 1), (40, .if_icmp .eq 9, 3), (43, .iinc 4 1, 3), (46, .goto (-14), 3), (49, .aload_n 0, 1), (50, .aload_n 0, 1), (51, .getfield 42, 3), (54, .iload 4, 2), (56, .iaload, 1), (57, .aload_n 0, 1), (58, .getfield 42, 3), (61, .iload_n 2, 1), (62, .iaload, 1), (63, .isub, 1), (64, .iconst 1, 1), (65, .invokevirtual 98, 3), (68, .ireturn, 1)]
set_option maxRecDepth 20000 in
theorem d_X5_gain : ∀ q ∈ t_X5_gain, decode cX5_gain q.1 = .ok q.2 := by decide +kernel
noncomputable def X5_gain_L1 (N : Nat) (x2 : Int32) : Nat → Int32 → Wd → Option (Int32 × Wd)
  | 0, _, _ => none
  | n + 1, x4, w =>
  gd (vp_in x4 6) (
  if (gA w 40 0 x4.toNatClampNeg) = x2 then
    some (x4, w)
  else
    X5_gain_L1 N x2 n (x4 + (1 : Int32)) w)
set_option maxRecDepth 20000 in
set_option maxHeartbeats 4000000 in
theorem z_X5_gain_L1 {x : CX} (hC : Cx x RX5 cX5_gain 5 4) (hr : (xM x).sig.returnType = (some .int)) (N : Nat) (x2 : Int32) : ∀ (n : Nat) (x4 : Int32) (w : Wd) (q : (Int32 × Wd)), X5_gain_L1 N x2 n x4 w = some q → Z x 49 [some (vr 5 0), none, some (vi x2), none, some (vi q.1)] [] q.2 → Z x 32 [some (vr 5 0), none, some (vi x2), none, some (vi x4)] [] w := by
  intro n
  induction n with
  | zero =>
    intro x4 w q h
    cases h
  | succ n ih =>
    intro x4 w q h ke
    rw [X5_gain_L1] at h
    refine Z_aload_n hC (dk d_X5_gain 19 rfl) 33 rfl rfl rfl ?_
    refine G_X5_48 hC m_5 (dk d_X5_gain 20 rfl) 36 rfl ?_
    refine Z_iload hC (dk d_X5_gain 21 rfl) 38 rfl rfl ?_
    obtain ⟨g4, h⟩ := gd_some h
    refine Z_iaload hC m_40 (by decide) rfl g4 (dk d_X5_gain 22 rfl) 39 rfl ?_
    refine Z_iload_n hC (dk d_X5_gain 23 rfl) 40 rfl rfl rfl ?_
    refine Z_icmp_eq hC (dk d_X5_gain 24 rfl) 43 49 rfl (by decide) (fun c => ?_) (fun c => ?_)
    · have h := it_t h c
      obtain rfl := Option.some.inj h
      refine Z_wk [true, false, true, false, true] [some (vr 5 0), none, some (vi x2), none, some (vi x4)] rfl ?_
      exact ke
    · have h := it_f h c
      refine Z_iinc hC (dk d_X5_gain 25 rfl) 46 rfl rfl rfl [some (vr 5 0), none, some (vi x2), none, some (vi (x4 + (1 : Int32)))] rfl ?_
      refine Z_goto hC (dk d_X5_gain 26 rfl) 32 (by decide) ?_
      refine Z_wk [true, false, true, false, true] [some (vr 5 0), none, some (vi x2), none, some (vi (x4 + (1 : Int32)))] rfl ?_
      exact ih (x4 + (1 : Int32)) w _ h ke
noncomputable def f_X5_gain (N : Nat) (a1 : Int32) (a2 : Int32) (w : Wd) : Option (Int32 × Wd) :=
  (f_X5_isRow N a1 w).bind (fun q1 =>
    if q1.1 = 0 then
      some ((-1 : Int32), q1.2)
    else
      (f_X5_isMate N a2 q1.2).bind (fun q2 =>
        if q2.1 = 0 then
          some ((-1 : Int32), q2.2)
        else
          (f_X5_askedDrawing N a1 q2.2).bind (fun q3 =>
            if 0 ≤ q3.1 then
              (X5_gain_L1 N a2 N (0 : Int32) q3.2).bind (fun q5 =>
                gd (vp_in q5.1 12) (
                gd (vp_in a2 12) (
                (f_X5_ask N ((gA q5.2 38 0 q5.1.toNatClampNeg) - (gA q5.2 38 0 a2.toNatClampNeg)) (1 : Int32) q5.2).bind (fun q8 =>
                  some (q8.1, q8.2)))))
            else
              some (q3.1, q3.2))))
set_option maxRecDepth 20000 in
set_option maxHeartbeats 4000000 in
theorem s_X5_gain (G : GT) (l : Launch) (N : Nat) (a1 : Int32) (a2 : Int32) (w : Wd) (q : Int32 × Wd) (h : f_X5_gain N a1 a2 w = some q) : Sp G l yX5_gain cw_X5_gain 4 [vr 5 0, vi a1, vi a2] w (some (vi q.1)) q.2 := by
  refine Sp_of (own := RX5) [some (vr 5 0), some (vi a1), some (vi a2), none, none] (by decide) rfl rfl (Nat.le_of_ble_eq_true rfl) ?_
  intro x hG hl hC hr hQ _ _
  subst hG
  subst hl
  unfold f_X5_gain at h
  refine Z_iload_n hC (dk d_X5_gain 0 rfl) 1 rfl rfl rfl ?_
  obtain ⟨q1, hq1, h⟩ := bd_some h
  refine K_X5_76 [vi a1] hC (s_X5_isRow (xG x) (xl x) N a1 w q1 hq1) (Nat.le_of_ble_eq_true rfl) rfl rfl rfl (Nat.le_of_ble_eq_true rfl) (dk d_X5_gain 1 rfl) 4 rfl ?_
  refine Z_if_eq hC (dk d_X5_gain 2 rfl) 7 15 rfl (by decide) (fun c => ?_) (fun c => ?_)
  · have h := it_t h c
    refine Z_iconst (v := -1) hC (dk d_X5_gain 7 rfl) 16 rfl (by decide) ?_
    obtain rfl := Option.some.inj h
    exact Z_ireturn (st := []) hC hr hQ (dk d_X5_gain 8 rfl)
  · have h := it_f h c
    refine Z_aload_n hC (dk d_X5_gain 3 rfl) 8 rfl rfl rfl ?_
    refine Z_iload_n hC (dk d_X5_gain 4 rfl) 9 rfl rfl rfl ?_
    obtain ⟨q2, hq2, h⟩ := bd_some h
    refine K_X5_137 [vi a2] hC m_5 (s_X5_isMate (xG x) (xl x) N a2 q1.2 q2 hq2) (Nat.le_of_ble_eq_true rfl) rfl rfl rfl (Nat.le_of_ble_eq_true rfl) (dk d_X5_gain 5 rfl) 12 rfl ?_
    refine Z_if_ne hC (dk d_X5_gain 6 rfl) 15 17 rfl (by decide) (fun c => ?_) (fun c => ?_)
    · have h := it_f h c
      refine Z_aload_n hC (dk d_X5_gain 9 rfl) 18 rfl rfl rfl ?_
      refine Z_iload_n hC (dk d_X5_gain 10 rfl) 19 rfl rfl rfl ?_
      obtain ⟨q3, hq3, h⟩ := bd_some h
      refine K_X5_169 [vi a1] hC m_5 (s_X5_askedDrawing (xG x) (xl x) N a1 q2.2 q3 hq3) (Nat.le_of_ble_eq_true rfl) rfl rfl rfl (Nat.le_of_ble_eq_true rfl) (dk d_X5_gain 11 rfl) 22 rfl ?_
      refine Z_istore_n hC (dk d_X5_gain 12 rfl) 23 rfl rfl (Nat.le_of_ble_eq_true rfl) [some (vr 5 0), some (vi a1), some (vi a2), some (vi q3.1), none] rfl ?_
      refine Z_iload_n hC (dk d_X5_gain 13 rfl) 24 rfl rfl rfl ?_
      refine Z_if_ge hC (dk d_X5_gain 14 rfl) 27 29 rfl (by decide) (fun c => ?_) (fun c => ?_)
      · have h := it_t h c
        refine Z_iconst (v := 0) hC (dk d_X5_gain 17 rfl) 30 rfl (by decide) ?_
        refine Z_istore hC (dk d_X5_gain 18 rfl) 32 rfl (Nat.le_of_ble_eq_true rfl) [some (vr 5 0), some (vi a1), some (vi a2), some (vi q3.1), some (vi (0 : Int32))] rfl ?_
        obtain ⟨q5, hq5, h⟩ := bd_some h
        refine Z_wk [true, false, true, false, true] [some (vr 5 0), none, some (vi a2), none, some (vi (0 : Int32))] rfl ?_
        refine z_X5_gain_L1 hC hr N a2 N (0 : Int32) q3.2 q5 hq5 ?_
        refine Z_aload_n hC (dk d_X5_gain 27 rfl) 50 rfl rfl rfl ?_
        refine Z_aload_n hC (dk d_X5_gain 28 rfl) 51 rfl rfl rfl ?_
        refine G_X5_42 hC m_5 (dk d_X5_gain 29 rfl) 54 rfl ?_
        refine Z_iload hC (dk d_X5_gain 30 rfl) 56 rfl rfl ?_
        obtain ⟨g6, h⟩ := gd_some h
        refine Z_iaload hC m_38 (by decide) rfl g6 (dk d_X5_gain 31 rfl) 57 rfl ?_
        refine Z_aload_n hC (dk d_X5_gain 32 rfl) 58 rfl rfl rfl ?_
        refine G_X5_42 hC m_5 (dk d_X5_gain 33 rfl) 61 rfl ?_
        refine Z_iload_n hC (dk d_X5_gain 34 rfl) 62 rfl rfl rfl ?_
        obtain ⟨g7, h⟩ := gd_some h
        refine Z_iaload hC m_38 (by decide) rfl g7 (dk d_X5_gain 35 rfl) 63 rfl ?_
        refine Z_isub hC (dk d_X5_gain 36 rfl) 64 rfl ?_
        refine Z_iconst (v := 1) hC (dk d_X5_gain 37 rfl) 65 rfl (by decide) ?_
        obtain ⟨q8, hq8, h⟩ := bd_some h
        refine K_X5_98 [vi ((gA q5.2 38 0 q5.1.toNatClampNeg) - (gA q5.2 38 0 a2.toNatClampNeg)), vi (1 : Int32)] hC m_5 (s_X5_ask (xG x) (xl x) N ((gA q5.2 38 0 q5.1.toNatClampNeg) - (gA q5.2 38 0 a2.toNatClampNeg)) (1 : Int32) q5.2 q8 hq8) (Nat.le_of_ble_eq_true rfl) rfl rfl rfl (Nat.le_of_ble_eq_true rfl) (dk d_X5_gain 38 rfl) 68 rfl ?_
        obtain rfl := Option.some.inj h
        exact Z_ireturn (st := []) hC hr hQ (dk d_X5_gain 39 rfl)
      · have h := it_f h c
        refine Z_iload_n hC (dk d_X5_gain 15 rfl) 28 rfl rfl rfl ?_
        obtain rfl := Option.some.inj h
        exact Z_ireturn (st := []) hC hr hQ (dk d_X5_gain 16 rfl)
    · have h := it_t h c
      refine Z_iconst (v := -1) hC (dk d_X5_gain 7 rfl) 16 rfl (by decide) ?_
      obtain rfl := Option.some.inj h
      exact Z_ireturn (st := []) hC hr hQ (dk d_X5_gain 8 rfl)
def t_X5_asked : List (Nat × Instr × Nat) := [(0, .aload_n 0, 1), (1, .getfield 66, 3), (4, .ireturn, 1)]
set_option maxRecDepth 20000 in
theorem d_X5_asked : ∀ q ∈ t_X5_asked, decode cX5_asked q.1 = .ok q.2 := by decide +kernel
noncomputable def f_X5_asked (N : Nat) (w : Wd) : Option (Int32 × Wd) :=
  some (gI w 502 0, w)
set_option maxRecDepth 20000 in
set_option maxHeartbeats 4000000 in
theorem s_X5_asked (G : GT) (l : Launch) (N : Nat) (w : Wd) (q : Int32 × Wd) (h : f_X5_asked N w = some q) : Sp G l yX5_asked cw_X5_asked 0 [vr 5 0] w (some (vi q.1)) q.2 := by
  refine Sp_of (own := RX5) [some (vr 5 0)] (by decide) rfl rfl (Nat.le_of_ble_eq_true rfl) ?_
  intro x hG hl hC hr hQ _ _
  subst hG
  subst hl
  unfold f_X5_asked at h
  refine Z_aload_n hC (dk d_X5_asked 0 rfl) 1 rfl rfl rfl ?_
  refine G_X5_66 hC m_5 (dk d_X5_asked 1 rfl) 4 rfl ?_
  obtain rfl := Option.some.inj h
  exact Z_ireturn (st := []) hC hr hQ (dk d_X5_asked 2 rfl)
def t_X5_upper : List (Nat × Instr × Nat) := [(0, .aload_n 0, 1), (1, .getfield 69, 3), (4, .lreturn, 1)]
set_option maxRecDepth 20000 in
theorem d_X5_upper : ∀ q ∈ t_X5_upper, decode cX5_upper q.1 = .ok q.2 := by decide +kernel
noncomputable def f_X5_upper (N : Nat) (w : Wd) : Option (Int64 × Wd) :=
  some (gL w 503 0, w)
set_option maxRecDepth 20000 in
set_option maxHeartbeats 4000000 in
theorem s_X5_upper (G : GT) (l : Launch) (N : Nat) (w : Wd) (q : Int64 × Wd) (h : f_X5_upper N w = some q) : Sp G l yX5_upper cw_X5_upper 0 [vr 5 0] w (some (vl q.1)) q.2 := by
  refine Sp_of (own := RX5) [some (vr 5 0)] (by decide) rfl rfl (Nat.le_of_ble_eq_true rfl) ?_
  intro x hG hl hC hr hQ _ _
  subst hG
  subst hl
  unfold f_X5_upper at h
  refine Z_aload_n hC (dk d_X5_upper 0 rfl) 1 rfl rfl rfl ?_
  refine G_X5_69 hC m_5 (dk d_X5_upper 1 rfl) 4 rfl ?_
  obtain rfl := Option.some.inj h
  exact Z_lreturn (st := []) hC hr hQ (dk d_X5_upper 2 rfl)
def t_X5_lower : List (Nat × Instr × Nat) := [(0, .aload_n 0, 1), (1, .getfield 13, 3), (4, .lreturn, 1)]
set_option maxRecDepth 20000 in
theorem d_X5_lower : ∀ q ∈ t_X5_lower, decode cX5_lower q.1 = .ok q.2 := by decide +kernel
noncomputable def f_X5_lower (N : Nat) (w : Wd) : Option (Int64 × Wd) :=
  some (gL w 504 0, w)
set_option maxRecDepth 20000 in
set_option maxHeartbeats 4000000 in
theorem s_X5_lower (G : GT) (l : Launch) (N : Nat) (w : Wd) (q : Int64 × Wd) (h : f_X5_lower N w = some q) : Sp G l yX5_lower cw_X5_lower 0 [vr 5 0] w (some (vl q.1)) q.2 := by
  refine Sp_of (own := RX5) [some (vr 5 0)] (by decide) rfl rfl (Nat.le_of_ble_eq_true rfl) ?_
  intro x hG hl hC hr hQ _ _
  subst hG
  subst hl
  unfold f_X5_lower at h
  refine Z_aload_n hC (dk d_X5_lower 0 rfl) 1 rfl rfl rfl ?_
  refine G_X5_13 hC m_5 (dk d_X5_lower 1 rfl) 4 rfl ?_
  obtain rfl := Option.some.inj h
  exact Z_lreturn (st := []) hC hr hQ (dk d_X5_lower 2 rfl)
def t_X5_tells : List (Nat × Instr × Nat) := [(0, .iconst 0, 1), (1, .istore_n 2, 1), (2, .iconst 0, 1), (3, .istore_n 3, 1), (4, .iload_n 3, 1), (5, .bipush 6, 2), (7, .if_icmp .ge 120, 3), (10, .iload_n 2, 1), (11, .iload_n 1, 1), (12, .iconst 3, 1), (13, .if_icmp .ne 20, 3), (16, .iload_n 3, 1), (17, .aload_n 0, 1), (18, .getfield 125, 3), (21, .if_icmp .ge 12, 3), (24, .aload_n 0, 1), (25, .iload_n 3, 1), (26, .iconst 1, 1), (27, .invokevirtual 143, 3), (30, .ifCond .ne 84, 3), (33, .iload_n 1, 1), (34, .iconst 4, 1), (35, .if_icmp .ne 20, 3), (38, .iload_n 3, 1), (39, .aload_n 0, 1), (40, .getfield 125, 3), (43, .if_icmp .ge 12, 3), (46, .aload_n 0, 1), (47, .iload_n 3, 1), (48, .iconst 2, 1), (49, .invokevirtual 143, 3), (52, .ifCond .ne 62, 3), (55, .iload_n 1, 1), (56, .iconst 5, 1), (57, .if_icmp .ne 22, 3), (60, .iload_n 3, 1), (61, .iconst 3, 1), (62, .if_icmp .ge 17, 3), (65, .aload_n 0, 1), (66, .getfield 60, 3), (69, .bipush 8, 2), (71, .iload_n 3, 1), (72, .imul, 1), (73, .iaload, 1), (74, .bipush (-9), 2), (76, .if_icmp .ne 38, 3), (79, .iload_n 1, 1), (80, .bipush 6, 2), (82, .if_icmp .ne 12, 3), (85, .aload_n 0, 1), (86, .getfield 17, 3), (89, .iload_n 3, 1), (90, .iaload, 1), (91, .ifCond .ge 23, 3), (94, .iload_n 1, 1), (95, .bipush 7, 2), (97, .if_icmp .ne 21, 3), (100, .iload_n 3, 1), (101, .iconst 4, 1), (102, .if_icmp .ge 16, 3), (105, .aload_n 0, 1), (106, .getfield 26, 3), (109, .iload_n 3, 1), (110, .iaload, 1), (111, .ifCond .lt 7, 3), (114, .iconst 1, 1), (115, .goto 4, 3), (118, .iconst 0, 1), (119, .iadd, 1), (120, .istore_n 2, 1), (121, .iinc 3 1, 3), (124, .goto (-120), 3), (127, .iload_n 1, 1), (128, .ifCond .ne 10, 3), (131, .aload_n 0, 1), (132, .getfield 125, 3), (135, .goto 28, 3), (138, .iload_n 1, 1), (139, .iconst 1, 1), (140, .if_icmp .ne 10, 3), (143, .aload_n 0, 1), (144, .getfield 128, 3), (147, .goto 16, 3), (150, .iload_n 1, 1), (151, .iconst 2, 1), (152, .if_icmp .ne 10, 3), (155, .aload_n 0, 1), (156, .getfield 131, 3), (159, .goto 4, 3), (162, .iload_n 2, 1), (163, .ireturn, 1)]
set_option maxRecDepth 20000 in
theorem d_X5_tells : ∀ q ∈ t_X5_tells, decode cX5_tells q.1 = .ok q.2 := by decide +kernel
noncomputable def X5_tells_J94 (N : Nat) (go : Int32 → Int32 → Wd → Option (Int32 × Wd)) (x1 : Int32) (x3 : Int32) (s0 : Int32) (w : Wd) : Option (Int32 × Wd) :=
  if x1 = (7 : Int32) then
    if (4 : Int32) ≤ x3 then
      go (s0 + (0 : Int32)) (x3 + (1 : Int32)) w
    else
      gd (vp_in x3 4) (
      if (gA w 34 0 x3.toNatClampNeg) < 0 then
        go (s0 + (0 : Int32)) (x3 + (1 : Int32)) w
      else
        go (s0 + (1 : Int32)) (x3 + (1 : Int32)) w)
  else
    go (s0 + (0 : Int32)) (x3 + (1 : Int32)) w
set_option maxRecDepth 20000 in
set_option maxHeartbeats 4000000 in
theorem z_X5_tells_J94 {x : CX} (hC : Cx x RX5 cX5_tells 4 1) (hr : (xM x).sig.returnType = (some .int)) (N : Nat) (x1 : Int32) (x3 : Int32) (s0 : Int32) {go : Int32 → Int32 → Wd → Option (Int32 × Wd)} (hgo : ∀ (x2 : Int32) (x3 : Int32) (w : Wd) (q : (Int32 × Wd)), go x2 x3 w = some q → Z x 127 [some (vr 5 0), some (vi x1), some (vi q.1), none] [] q.2 → Z x 4 [some (vr 5 0), some (vi x1), some (vi x2), some (vi x3)] [] w) (w : Wd) (q : (Int32 × Wd)) (h : X5_tells_J94 N go x1 x3 s0 w = some q) (ke : Z x 127 [some (vr 5 0), some (vi x1), some (vi q.1), none] [] q.2) : Z x 94 [some (vr 5 0), some (vi x1), none, some (vi x3)] [vi s0] w := by
  unfold X5_tells_J94 at h
  refine Z_iload_n hC (dk d_X5_tells 54 rfl) 95 rfl rfl rfl ?_
  refine Z_bipush (v := 7) hC (dk d_X5_tells 55 rfl) 97 rfl (by decide) ?_
  refine Z_icmp_ne hC (dk d_X5_tells 56 rfl) 100 118 rfl (by decide) (fun c => ?_) (fun c => ?_)
  · have h := it_f h c
    refine Z_iconst (v := 0) hC (dk d_X5_tells 67 rfl) 119 rfl (by decide) ?_
    refine Z_iadd hC (dk d_X5_tells 68 rfl) 120 rfl ?_
    refine Z_istore_n hC (dk d_X5_tells 69 rfl) 121 rfl rfl (Nat.le_of_ble_eq_true rfl) [some (vr 5 0), some (vi x1), some (vi (s0 + (0 : Int32))), some (vi x3)] rfl ?_
    refine Z_iinc hC (dk d_X5_tells 70 rfl) 124 rfl rfl rfl [some (vr 5 0), some (vi x1), some (vi (s0 + (0 : Int32))), some (vi (x3 + (1 : Int32)))] rfl ?_
    refine Z_goto hC (dk d_X5_tells 71 rfl) 4 (by decide) ?_
    refine Z_wk [true, true, true, true] [some (vr 5 0), some (vi x1), some (vi (s0 + (0 : Int32))), some (vi (x3 + (1 : Int32)))] rfl ?_
    exact hgo (s0 + (0 : Int32)) (x3 + (1 : Int32)) w _ h ke
  · have h := it_t h c
    refine Z_iload_n hC (dk d_X5_tells 57 rfl) 101 rfl rfl rfl ?_
    refine Z_iconst (v := 4) hC (dk d_X5_tells 58 rfl) 102 rfl (by decide) ?_
    refine Z_icmp_ge hC (dk d_X5_tells 59 rfl) 105 118 rfl (by decide) (fun c => ?_) (fun c => ?_)
    · have h := it_t h c
      refine Z_iconst (v := 0) hC (dk d_X5_tells 67 rfl) 119 rfl (by decide) ?_
      refine Z_iadd hC (dk d_X5_tells 68 rfl) 120 rfl ?_
      refine Z_istore_n hC (dk d_X5_tells 69 rfl) 121 rfl rfl (Nat.le_of_ble_eq_true rfl) [some (vr 5 0), some (vi x1), some (vi (s0 + (0 : Int32))), some (vi x3)] rfl ?_
      refine Z_iinc hC (dk d_X5_tells 70 rfl) 124 rfl rfl rfl [some (vr 5 0), some (vi x1), some (vi (s0 + (0 : Int32))), some (vi (x3 + (1 : Int32)))] rfl ?_
      refine Z_goto hC (dk d_X5_tells 71 rfl) 4 (by decide) ?_
      refine Z_wk [true, true, true, true] [some (vr 5 0), some (vi x1), some (vi (s0 + (0 : Int32))), some (vi (x3 + (1 : Int32)))] rfl ?_
      exact hgo (s0 + (0 : Int32)) (x3 + (1 : Int32)) w _ h ke
    · have h := it_f h c
      refine Z_aload_n hC (dk d_X5_tells 60 rfl) 106 rfl rfl rfl ?_
      refine G_X5_26 hC m_5 (dk d_X5_tells 61 rfl) 109 rfl ?_
      refine Z_iload_n hC (dk d_X5_tells 62 rfl) 110 rfl rfl rfl ?_
      obtain ⟨g1, h⟩ := gd_some h
      refine Z_iaload hC m_34 (by decide) rfl g1 (dk d_X5_tells 63 rfl) 111 rfl ?_
      refine Z_if_lt hC (dk d_X5_tells 64 rfl) 114 118 rfl (by decide) (fun c => ?_) (fun c => ?_)
      · have h := it_t h c
        refine Z_iconst (v := 0) hC (dk d_X5_tells 67 rfl) 119 rfl (by decide) ?_
        refine Z_iadd hC (dk d_X5_tells 68 rfl) 120 rfl ?_
        refine Z_istore_n hC (dk d_X5_tells 69 rfl) 121 rfl rfl (Nat.le_of_ble_eq_true rfl) [some (vr 5 0), some (vi x1), some (vi (s0 + (0 : Int32))), some (vi x3)] rfl ?_
        refine Z_iinc hC (dk d_X5_tells 70 rfl) 124 rfl rfl rfl [some (vr 5 0), some (vi x1), some (vi (s0 + (0 : Int32))), some (vi (x3 + (1 : Int32)))] rfl ?_
        refine Z_goto hC (dk d_X5_tells 71 rfl) 4 (by decide) ?_
        refine Z_wk [true, true, true, true] [some (vr 5 0), some (vi x1), some (vi (s0 + (0 : Int32))), some (vi (x3 + (1 : Int32)))] rfl ?_
        exact hgo (s0 + (0 : Int32)) (x3 + (1 : Int32)) w _ h ke
      · have h := it_f h c
        refine Z_iconst (v := 1) hC (dk d_X5_tells 65 rfl) 115 rfl (by decide) ?_
        refine Z_goto hC (dk d_X5_tells 66 rfl) 119 (by decide) ?_
        refine Z_iadd hC (dk d_X5_tells 68 rfl) 120 rfl ?_
        refine Z_istore_n hC (dk d_X5_tells 69 rfl) 121 rfl rfl (Nat.le_of_ble_eq_true rfl) [some (vr 5 0), some (vi x1), some (vi (s0 + (1 : Int32))), some (vi x3)] rfl ?_
        refine Z_iinc hC (dk d_X5_tells 70 rfl) 124 rfl rfl rfl [some (vr 5 0), some (vi x1), some (vi (s0 + (1 : Int32))), some (vi (x3 + (1 : Int32)))] rfl ?_
        refine Z_goto hC (dk d_X5_tells 71 rfl) 4 (by decide) ?_
        refine Z_wk [true, true, true, true] [some (vr 5 0), some (vi x1), some (vi (s0 + (1 : Int32))), some (vi (x3 + (1 : Int32)))] rfl ?_
        exact hgo (s0 + (1 : Int32)) (x3 + (1 : Int32)) w _ h ke
noncomputable def X5_tells_J79 (N : Nat) (go : Int32 → Int32 → Wd → Option (Int32 × Wd)) (x1 : Int32) (x3 : Int32) (s0 : Int32) (w : Wd) : Option (Int32 × Wd) :=
  if x1 = (6 : Int32) then
    gd (vp_in x3 6) (
    if 0 ≤ (gA w 31 0 x3.toNatClampNeg) then
      go (s0 + (1 : Int32)) (x3 + (1 : Int32)) w
    else
      X5_tells_J94 N go x1 x3 s0 w)
  else
    X5_tells_J94 N go x1 x3 s0 w
set_option maxRecDepth 20000 in
set_option maxHeartbeats 4000000 in
theorem z_X5_tells_J79 {x : CX} (hC : Cx x RX5 cX5_tells 4 1) (hr : (xM x).sig.returnType = (some .int)) (N : Nat) (x1 : Int32) (x3 : Int32) (s0 : Int32) {go : Int32 → Int32 → Wd → Option (Int32 × Wd)} (hgo : ∀ (x2 : Int32) (x3 : Int32) (w : Wd) (q : (Int32 × Wd)), go x2 x3 w = some q → Z x 127 [some (vr 5 0), some (vi x1), some (vi q.1), none] [] q.2 → Z x 4 [some (vr 5 0), some (vi x1), some (vi x2), some (vi x3)] [] w) (w : Wd) (q : (Int32 × Wd)) (h : X5_tells_J79 N go x1 x3 s0 w = some q) (ke : Z x 127 [some (vr 5 0), some (vi x1), some (vi q.1), none] [] q.2) : Z x 79 [some (vr 5 0), some (vi x1), none, some (vi x3)] [vi s0] w := by
  unfold X5_tells_J79 at h
  refine Z_iload_n hC (dk d_X5_tells 46 rfl) 80 rfl rfl rfl ?_
  refine Z_bipush (v := 6) hC (dk d_X5_tells 47 rfl) 82 rfl (by decide) ?_
  refine Z_icmp_ne hC (dk d_X5_tells 48 rfl) 85 94 rfl (by decide) (fun c => ?_) (fun c => ?_)
  · have h := it_f h c
    refine Z_wk [true, true, false, true] [some (vr 5 0), some (vi x1), none, some (vi x3)] rfl ?_
    exact z_X5_tells_J94 hC hr N x1 x3 s0 hgo w _ h ke
  · have h := it_t h c
    refine Z_aload_n hC (dk d_X5_tells 49 rfl) 86 rfl rfl rfl ?_
    refine G_X5_17 hC m_5 (dk d_X5_tells 50 rfl) 89 rfl ?_
    refine Z_iload_n hC (dk d_X5_tells 51 rfl) 90 rfl rfl rfl ?_
    obtain ⟨g2, h⟩ := gd_some h
    refine Z_iaload hC m_31 (by decide) rfl g2 (dk d_X5_tells 52 rfl) 91 rfl ?_
    refine Z_if_ge hC (dk d_X5_tells 53 rfl) 94 114 rfl (by decide) (fun c => ?_) (fun c => ?_)
    · have h := it_t h c
      refine Z_iconst (v := 1) hC (dk d_X5_tells 65 rfl) 115 rfl (by decide) ?_
      refine Z_goto hC (dk d_X5_tells 66 rfl) 119 (by decide) ?_
      refine Z_iadd hC (dk d_X5_tells 68 rfl) 120 rfl ?_
      refine Z_istore_n hC (dk d_X5_tells 69 rfl) 121 rfl rfl (Nat.le_of_ble_eq_true rfl) [some (vr 5 0), some (vi x1), some (vi (s0 + (1 : Int32))), some (vi x3)] rfl ?_
      refine Z_iinc hC (dk d_X5_tells 70 rfl) 124 rfl rfl rfl [some (vr 5 0), some (vi x1), some (vi (s0 + (1 : Int32))), some (vi (x3 + (1 : Int32)))] rfl ?_
      refine Z_goto hC (dk d_X5_tells 71 rfl) 4 (by decide) ?_
      refine Z_wk [true, true, true, true] [some (vr 5 0), some (vi x1), some (vi (s0 + (1 : Int32))), some (vi (x3 + (1 : Int32)))] rfl ?_
      exact hgo (s0 + (1 : Int32)) (x3 + (1 : Int32)) w _ h ke
    · have h := it_f h c
      refine Z_wk [true, true, false, true] [some (vr 5 0), some (vi x1), none, some (vi x3)] rfl ?_
      exact z_X5_tells_J94 hC hr N x1 x3 s0 hgo w _ h ke
noncomputable def X5_tells_J55 (N : Nat) (go : Int32 → Int32 → Wd → Option (Int32 × Wd)) (x1 : Int32) (x3 : Int32) (s0 : Int32) (w : Wd) : Option (Int32 × Wd) :=
  if x1 = (5 : Int32) then
    if (3 : Int32) ≤ x3 then
      X5_tells_J79 N go x1 x3 s0 w
    else
      gd (vp_in ((8 : Int32) * x3) 24) (
      if (gA w 44 0 ((8 : Int32) * x3).toNatClampNeg) = (-9 : Int32) then
        X5_tells_J79 N go x1 x3 s0 w
      else
        go (s0 + (1 : Int32)) (x3 + (1 : Int32)) w)
  else
    X5_tells_J79 N go x1 x3 s0 w
set_option maxRecDepth 20000 in
set_option maxHeartbeats 4000000 in
theorem z_X5_tells_J55 {x : CX} (hC : Cx x RX5 cX5_tells 4 1) (hr : (xM x).sig.returnType = (some .int)) (N : Nat) (x1 : Int32) (x3 : Int32) (s0 : Int32) {go : Int32 → Int32 → Wd → Option (Int32 × Wd)} (hgo : ∀ (x2 : Int32) (x3 : Int32) (w : Wd) (q : (Int32 × Wd)), go x2 x3 w = some q → Z x 127 [some (vr 5 0), some (vi x1), some (vi q.1), none] [] q.2 → Z x 4 [some (vr 5 0), some (vi x1), some (vi x2), some (vi x3)] [] w) (w : Wd) (q : (Int32 × Wd)) (h : X5_tells_J55 N go x1 x3 s0 w = some q) (ke : Z x 127 [some (vr 5 0), some (vi x1), some (vi q.1), none] [] q.2) : Z x 55 [some (vr 5 0), some (vi x1), none, some (vi x3)] [vi s0] w := by
  unfold X5_tells_J55 at h
  refine Z_iload_n hC (dk d_X5_tells 32 rfl) 56 rfl rfl rfl ?_
  refine Z_iconst (v := 5) hC (dk d_X5_tells 33 rfl) 57 rfl (by decide) ?_
  refine Z_icmp_ne hC (dk d_X5_tells 34 rfl) 60 79 rfl (by decide) (fun c => ?_) (fun c => ?_)
  · have h := it_f h c
    refine Z_wk [true, true, false, true] [some (vr 5 0), some (vi x1), none, some (vi x3)] rfl ?_
    exact z_X5_tells_J79 hC hr N x1 x3 s0 hgo w _ h ke
  · have h := it_t h c
    refine Z_iload_n hC (dk d_X5_tells 35 rfl) 61 rfl rfl rfl ?_
    refine Z_iconst (v := 3) hC (dk d_X5_tells 36 rfl) 62 rfl (by decide) ?_
    refine Z_icmp_ge hC (dk d_X5_tells 37 rfl) 65 79 rfl (by decide) (fun c => ?_) (fun c => ?_)
    · have h := it_t h c
      refine Z_wk [true, true, false, true] [some (vr 5 0), some (vi x1), none, some (vi x3)] rfl ?_
      exact z_X5_tells_J79 hC hr N x1 x3 s0 hgo w _ h ke
    · have h := it_f h c
      refine Z_aload_n hC (dk d_X5_tells 38 rfl) 66 rfl rfl rfl ?_
      refine G_X5_60 hC m_5 (dk d_X5_tells 39 rfl) 69 rfl ?_
      refine Z_bipush (v := 8) hC (dk d_X5_tells 40 rfl) 71 rfl (by decide) ?_
      refine Z_iload_n hC (dk d_X5_tells 41 rfl) 72 rfl rfl rfl ?_
      refine Z_imul hC (dk d_X5_tells 42 rfl) 73 rfl ?_
      obtain ⟨g3, h⟩ := gd_some h
      refine Z_iaload hC m_44 (by decide) rfl g3 (dk d_X5_tells 43 rfl) 74 rfl ?_
      refine Z_bipush (v := -9) hC (dk d_X5_tells 44 rfl) 76 rfl (by decide) ?_
      refine Z_icmp_ne hC (dk d_X5_tells 45 rfl) 79 114 rfl (by decide) (fun c => ?_) (fun c => ?_)
      · have h := it_f h c
        refine Z_iconst (v := 1) hC (dk d_X5_tells 65 rfl) 115 rfl (by decide) ?_
        refine Z_goto hC (dk d_X5_tells 66 rfl) 119 (by decide) ?_
        refine Z_iadd hC (dk d_X5_tells 68 rfl) 120 rfl ?_
        refine Z_istore_n hC (dk d_X5_tells 69 rfl) 121 rfl rfl (Nat.le_of_ble_eq_true rfl) [some (vr 5 0), some (vi x1), some (vi (s0 + (1 : Int32))), some (vi x3)] rfl ?_
        refine Z_iinc hC (dk d_X5_tells 70 rfl) 124 rfl rfl rfl [some (vr 5 0), some (vi x1), some (vi (s0 + (1 : Int32))), some (vi (x3 + (1 : Int32)))] rfl ?_
        refine Z_goto hC (dk d_X5_tells 71 rfl) 4 (by decide) ?_
        refine Z_wk [true, true, true, true] [some (vr 5 0), some (vi x1), some (vi (s0 + (1 : Int32))), some (vi (x3 + (1 : Int32)))] rfl ?_
        exact hgo (s0 + (1 : Int32)) (x3 + (1 : Int32)) w _ h ke
      · have h := it_t h c
        refine Z_wk [true, true, false, true] [some (vr 5 0), some (vi x1), none, some (vi x3)] rfl ?_
        exact z_X5_tells_J79 hC hr N x1 x3 s0 hgo w _ h ke
noncomputable def X5_tells_J33 (N : Nat) (go : Int32 → Int32 → Wd → Option (Int32 × Wd)) (x1 : Int32) (x3 : Int32) (s0 : Int32) (w : Wd) : Option (Int32 × Wd) :=
  if x1 = (4 : Int32) then
    if (gI w 510 0) ≤ x3 then
      X5_tells_J55 N go x1 x3 s0 w
    else
      (f_X5_isA N x3 (2 : Int32) w).bind (fun q4 =>
        if q4.1 = 0 then
          X5_tells_J55 N go x1 x3 s0 q4.2
        else
          go (s0 + (1 : Int32)) (x3 + (1 : Int32)) q4.2)
  else
    X5_tells_J55 N go x1 x3 s0 w
set_option maxRecDepth 20000 in
set_option maxHeartbeats 4000000 in
theorem z_X5_tells_J33 {x : CX} (hC : Cx x RX5 cX5_tells 4 1) (hr : (xM x).sig.returnType = (some .int)) (N : Nat) (x1 : Int32) (x3 : Int32) (s0 : Int32) {go : Int32 → Int32 → Wd → Option (Int32 × Wd)} (hgo : ∀ (x2 : Int32) (x3 : Int32) (w : Wd) (q : (Int32 × Wd)), go x2 x3 w = some q → Z x 127 [some (vr 5 0), some (vi x1), some (vi q.1), none] [] q.2 → Z x 4 [some (vr 5 0), some (vi x1), some (vi x2), some (vi x3)] [] w) (w : Wd) (q : (Int32 × Wd)) (h : X5_tells_J33 N go x1 x3 s0 w = some q) (ke : Z x 127 [some (vr 5 0), some (vi x1), some (vi q.1), none] [] q.2) : Z x 33 [some (vr 5 0), some (vi x1), none, some (vi x3)] [vi s0] w := by
  unfold X5_tells_J33 at h
  refine Z_iload_n hC (dk d_X5_tells 20 rfl) 34 rfl rfl rfl ?_
  refine Z_iconst (v := 4) hC (dk d_X5_tells 21 rfl) 35 rfl (by decide) ?_
  refine Z_icmp_ne hC (dk d_X5_tells 22 rfl) 38 55 rfl (by decide) (fun c => ?_) (fun c => ?_)
  · have h := it_f h c
    refine Z_wk [true, true, false, true] [some (vr 5 0), some (vi x1), none, some (vi x3)] rfl ?_
    exact z_X5_tells_J55 hC hr N x1 x3 s0 hgo w _ h ke
  · have h := it_t h c
    refine Z_iload_n hC (dk d_X5_tells 23 rfl) 39 rfl rfl rfl ?_
    refine Z_aload_n hC (dk d_X5_tells 24 rfl) 40 rfl rfl rfl ?_
    refine G_X5_125 hC m_5 (dk d_X5_tells 25 rfl) 43 rfl ?_
    refine Z_icmp_ge hC (dk d_X5_tells 26 rfl) 46 55 rfl (by decide) (fun c => ?_) (fun c => ?_)
    · have h := it_t h c
      refine Z_wk [true, true, false, true] [some (vr 5 0), some (vi x1), none, some (vi x3)] rfl ?_
      exact z_X5_tells_J55 hC hr N x1 x3 s0 hgo w _ h ke
    · have h := it_f h c
      refine Z_aload_n hC (dk d_X5_tells 27 rfl) 47 rfl rfl rfl ?_
      refine Z_iload_n hC (dk d_X5_tells 28 rfl) 48 rfl rfl rfl ?_
      refine Z_iconst (v := 2) hC (dk d_X5_tells 29 rfl) 49 rfl (by decide) ?_
      obtain ⟨q4, hq4, h⟩ := bd_some h
      refine K_X5_143 [vi x3, vi (2 : Int32)] hC m_5 (s_X5_isA (xG x) (xl x) N x3 (2 : Int32) w q4 hq4) (Nat.le_of_ble_eq_true rfl) rfl rfl rfl (Nat.le_of_ble_eq_true rfl) (dk d_X5_tells 30 rfl) 52 rfl ?_
      refine Z_if_ne hC (dk d_X5_tells 31 rfl) 55 114 rfl (by decide) (fun c => ?_) (fun c => ?_)
      · have h := it_f h c
        refine Z_iconst (v := 1) hC (dk d_X5_tells 65 rfl) 115 rfl (by decide) ?_
        refine Z_goto hC (dk d_X5_tells 66 rfl) 119 (by decide) ?_
        refine Z_iadd hC (dk d_X5_tells 68 rfl) 120 rfl ?_
        refine Z_istore_n hC (dk d_X5_tells 69 rfl) 121 rfl rfl (Nat.le_of_ble_eq_true rfl) [some (vr 5 0), some (vi x1), some (vi (s0 + (1 : Int32))), some (vi x3)] rfl ?_
        refine Z_iinc hC (dk d_X5_tells 70 rfl) 124 rfl rfl rfl [some (vr 5 0), some (vi x1), some (vi (s0 + (1 : Int32))), some (vi (x3 + (1 : Int32)))] rfl ?_
        refine Z_goto hC (dk d_X5_tells 71 rfl) 4 (by decide) ?_
        refine Z_wk [true, true, true, true] [some (vr 5 0), some (vi x1), some (vi (s0 + (1 : Int32))), some (vi (x3 + (1 : Int32)))] rfl ?_
        exact hgo (s0 + (1 : Int32)) (x3 + (1 : Int32)) q4.2 _ h ke
      · have h := it_t h c
        refine Z_wk [true, true, false, true] [some (vr 5 0), some (vi x1), none, some (vi x3)] rfl ?_
        exact z_X5_tells_J55 hC hr N x1 x3 s0 hgo q4.2 _ h ke
noncomputable def X5_tells_L1 (N : Nat) (x1 : Int32) : Nat → Int32 → Int32 → Wd → Option (Int32 × Wd)
  | 0, _, _, _ => none
  | n + 1, x2, x3, w =>
  if (6 : Int32) ≤ x3 then
    some (x2, w)
  else
    if x1 = (3 : Int32) then
      if (gI w 510 0) ≤ x3 then
        X5_tells_J33 N (X5_tells_L1 N x1 n) x1 x3 x2 w
      else
        (f_X5_isA N x3 (1 : Int32) w).bind (fun q5 =>
          if q5.1 = 0 then
            X5_tells_J33 N (X5_tells_L1 N x1 n) x1 x3 x2 q5.2
          else
            X5_tells_L1 N x1 n (x2 + (1 : Int32)) (x3 + (1 : Int32)) q5.2)
    else
      X5_tells_J33 N (X5_tells_L1 N x1 n) x1 x3 x2 w
set_option maxRecDepth 20000 in
set_option maxHeartbeats 4000000 in
theorem z_X5_tells_L1 {x : CX} (hC : Cx x RX5 cX5_tells 4 1) (hr : (xM x).sig.returnType = (some .int)) (N : Nat) (x1 : Int32) : ∀ (n : Nat) (x2 : Int32) (x3 : Int32) (w : Wd) (q : (Int32 × Wd)), X5_tells_L1 N x1 n x2 x3 w = some q → Z x 127 [some (vr 5 0), some (vi x1), some (vi q.1), none] [] q.2 → Z x 4 [some (vr 5 0), some (vi x1), some (vi x2), some (vi x3)] [] w := by
  intro n
  induction n with
  | zero =>
    intro x2 x3 w q h
    cases h
  | succ n ih =>
    intro x2 x3 w q h ke
    rw [X5_tells_L1] at h
    refine Z_iload_n hC (dk d_X5_tells 4 rfl) 5 rfl rfl rfl ?_
    refine Z_bipush (v := 6) hC (dk d_X5_tells 5 rfl) 7 rfl (by decide) ?_
    refine Z_icmp_ge hC (dk d_X5_tells 6 rfl) 10 127 rfl (by decide) (fun c => ?_) (fun c => ?_)
    · have h := it_t h c
      obtain rfl := Option.some.inj h
      refine Z_wk [true, true, true, false] [some (vr 5 0), some (vi x1), some (vi x2), none] rfl ?_
      exact ke
    · have h := it_f h c
      refine Z_iload_n hC (dk d_X5_tells 7 rfl) 11 rfl rfl rfl ?_
      refine Z_iload_n hC (dk d_X5_tells 8 rfl) 12 rfl rfl rfl ?_
      refine Z_iconst (v := 3) hC (dk d_X5_tells 9 rfl) 13 rfl (by decide) ?_
      refine Z_icmp_ne hC (dk d_X5_tells 10 rfl) 16 33 rfl (by decide) (fun c => ?_) (fun c => ?_)
      · have h := it_f h c
        refine Z_wk [true, true, false, true] [some (vr 5 0), some (vi x1), none, some (vi x3)] rfl ?_
        exact z_X5_tells_J33 hC hr N x1 x3 x2 ih w _ h ke
      · have h := it_t h c
        refine Z_iload_n hC (dk d_X5_tells 11 rfl) 17 rfl rfl rfl ?_
        refine Z_aload_n hC (dk d_X5_tells 12 rfl) 18 rfl rfl rfl ?_
        refine G_X5_125 hC m_5 (dk d_X5_tells 13 rfl) 21 rfl ?_
        refine Z_icmp_ge hC (dk d_X5_tells 14 rfl) 24 33 rfl (by decide) (fun c => ?_) (fun c => ?_)
        · have h := it_t h c
          refine Z_wk [true, true, false, true] [some (vr 5 0), some (vi x1), none, some (vi x3)] rfl ?_
          exact z_X5_tells_J33 hC hr N x1 x3 x2 ih w _ h ke
        · have h := it_f h c
          refine Z_aload_n hC (dk d_X5_tells 15 rfl) 25 rfl rfl rfl ?_
          refine Z_iload_n hC (dk d_X5_tells 16 rfl) 26 rfl rfl rfl ?_
          refine Z_iconst (v := 1) hC (dk d_X5_tells 17 rfl) 27 rfl (by decide) ?_
          obtain ⟨q5, hq5, h⟩ := bd_some h
          refine K_X5_143 [vi x3, vi (1 : Int32)] hC m_5 (s_X5_isA (xG x) (xl x) N x3 (1 : Int32) w q5 hq5) (Nat.le_of_ble_eq_true rfl) rfl rfl rfl (Nat.le_of_ble_eq_true rfl) (dk d_X5_tells 18 rfl) 30 rfl ?_
          refine Z_if_ne hC (dk d_X5_tells 19 rfl) 33 114 rfl (by decide) (fun c => ?_) (fun c => ?_)
          · have h := it_f h c
            refine Z_iconst (v := 1) hC (dk d_X5_tells 65 rfl) 115 rfl (by decide) ?_
            refine Z_goto hC (dk d_X5_tells 66 rfl) 119 (by decide) ?_
            refine Z_iadd hC (dk d_X5_tells 68 rfl) 120 rfl ?_
            refine Z_istore_n hC (dk d_X5_tells 69 rfl) 121 rfl rfl (Nat.le_of_ble_eq_true rfl) [some (vr 5 0), some (vi x1), some (vi (x2 + (1 : Int32))), some (vi x3)] rfl ?_
            refine Z_iinc hC (dk d_X5_tells 70 rfl) 124 rfl rfl rfl [some (vr 5 0), some (vi x1), some (vi (x2 + (1 : Int32))), some (vi (x3 + (1 : Int32)))] rfl ?_
            refine Z_goto hC (dk d_X5_tells 71 rfl) 4 (by decide) ?_
            refine Z_wk [true, true, true, true] [some (vr 5 0), some (vi x1), some (vi (x2 + (1 : Int32))), some (vi (x3 + (1 : Int32)))] rfl ?_
            exact ih (x2 + (1 : Int32)) (x3 + (1 : Int32)) q5.2 _ h ke
          · have h := it_t h c
            refine Z_wk [true, true, false, true] [some (vr 5 0), some (vi x1), none, some (vi x3)] rfl ?_
            exact z_X5_tells_J33 hC hr N x1 x3 x2 ih q5.2 _ h ke
noncomputable def f_X5_tells (N : Nat) (a1 : Int32) (w : Wd) : Option (Int32 × Wd) :=
  (X5_tells_L1 N a1 N (0 : Int32) (0 : Int32) w).bind (fun q6 =>
    if a1 = 0 then
      some (gI q6.2 510 0, q6.2)
    else
      if a1 = (1 : Int32) then
        some (gI q6.2 524 0, q6.2)
      else
        if a1 = (2 : Int32) then
          some (gI q6.2 518 0, q6.2)
        else
          some (q6.1, q6.2))
set_option maxRecDepth 20000 in
set_option maxHeartbeats 4000000 in
theorem s_X5_tells (G : GT) (l : Launch) (N : Nat) (a1 : Int32) (w : Wd) (q : Int32 × Wd) (h : f_X5_tells N a1 w = some q) : Sp G l yX5_tells cw_X5_tells 1 [vr 5 0, vi a1] w (some (vi q.1)) q.2 := by
  refine Sp_of (own := RX5) [some (vr 5 0), some (vi a1), none, none] (by decide) rfl rfl (Nat.le_of_ble_eq_true rfl) ?_
  intro x hG hl hC hr hQ _ _
  subst hG
  subst hl
  unfold f_X5_tells at h
  refine Z_iconst (v := 0) hC (dk d_X5_tells 0 rfl) 1 rfl (by decide) ?_
  refine Z_istore_n hC (dk d_X5_tells 1 rfl) 2 rfl rfl (Nat.le_of_ble_eq_true rfl) [some (vr 5 0), some (vi a1), some (vi (0 : Int32)), none] rfl ?_
  refine Z_iconst (v := 0) hC (dk d_X5_tells 2 rfl) 3 rfl (by decide) ?_
  refine Z_istore_n hC (dk d_X5_tells 3 rfl) 4 rfl rfl (Nat.le_of_ble_eq_true rfl) [some (vr 5 0), some (vi a1), some (vi (0 : Int32)), some (vi (0 : Int32))] rfl ?_
  obtain ⟨q6, hq6, h⟩ := bd_some h
  refine Z_wk [true, true, true, true] [some (vr 5 0), some (vi a1), some (vi (0 : Int32)), some (vi (0 : Int32))] rfl ?_
  refine z_X5_tells_L1 hC hr N a1 N (0 : Int32) (0 : Int32) w q6 hq6 ?_
  refine Z_iload_n hC (dk d_X5_tells 72 rfl) 128 rfl rfl rfl ?_
  refine Z_if_ne hC (dk d_X5_tells 73 rfl) 131 138 rfl (by decide) (fun c => ?_) (fun c => ?_)
  · have h := it_f h c
    refine Z_iload_n hC (dk d_X5_tells 77 rfl) 139 rfl rfl rfl ?_
    refine Z_iconst (v := 1) hC (dk d_X5_tells 78 rfl) 140 rfl (by decide) ?_
    refine Z_icmp_ne hC (dk d_X5_tells 79 rfl) 143 150 rfl (by decide) (fun c => ?_) (fun c => ?_)
    · have h := it_f h c
      refine Z_iload_n hC (dk d_X5_tells 83 rfl) 151 rfl rfl rfl ?_
      refine Z_iconst (v := 2) hC (dk d_X5_tells 84 rfl) 152 rfl (by decide) ?_
      refine Z_icmp_ne hC (dk d_X5_tells 85 rfl) 155 162 rfl (by decide) (fun c => ?_) (fun c => ?_)
      · have h := it_f h c
        refine Z_iload_n hC (dk d_X5_tells 89 rfl) 163 rfl rfl rfl ?_
        obtain rfl := Option.some.inj h
        exact Z_ireturn (st := []) hC hr hQ (dk d_X5_tells 90 rfl)
      · have h := it_t h c
        refine Z_aload_n hC (dk d_X5_tells 86 rfl) 156 rfl rfl rfl ?_
        refine G_X5_131 hC m_5 (dk d_X5_tells 87 rfl) 159 rfl ?_
        refine Z_goto hC (dk d_X5_tells 88 rfl) 163 (by decide) ?_
        obtain rfl := Option.some.inj h
        exact Z_ireturn (st := []) hC hr hQ (dk d_X5_tells 90 rfl)
    · have h := it_t h c
      refine Z_aload_n hC (dk d_X5_tells 80 rfl) 144 rfl rfl rfl ?_
      refine G_X5_128 hC m_5 (dk d_X5_tells 81 rfl) 147 rfl ?_
      refine Z_goto hC (dk d_X5_tells 82 rfl) 163 (by decide) ?_
      obtain rfl := Option.some.inj h
      exact Z_ireturn (st := []) hC hr hQ (dk d_X5_tells 90 rfl)
  · have h := it_t h c
    refine Z_aload_n hC (dk d_X5_tells 74 rfl) 132 rfl rfl rfl ?_
    refine G_X5_125 hC m_5 (dk d_X5_tells 75 rfl) 135 rfl ?_
    refine Z_goto hC (dk d_X5_tells 76 rfl) 163 (by decide) ?_
    obtain rfl := Option.some.inj h
    exact Z_ireturn (st := []) hC hr hQ (dk d_X5_tells 90 rfl)
def t_X5_count : List (Nat × Instr × Nat) := [(0, .iload_n 1, 1), (1, .iconst 0, 1), (2, .bipush 7, 2), (4, .invokestatic 72, 3), (7, .ifCond .eq 11, 3), (10, .aload_n 0, 1), (11, .iload_n 1, 1), (12, .invokevirtual 255, 3), (15, .goto 4, 3), (18, .iconst (-1), 1), (19, .ireturn, 1)]
set_option maxRecDepth 20000 in
theorem d_X5_count : ∀ q ∈ t_X5_count, decode cX5_count q.1 = .ok q.2 := by decide +kernel
noncomputable def f_X5_count (N : Nat) (a1 : Int32) (w : Wd) : Option (Int32 × Wd) :=
  (f_X5_in N a1 (0 : Int32) (7 : Int32) w).bind (fun q1 =>
    if q1.1 = 0 then
      some ((-1 : Int32), q1.2)
    else
      (f_X5_tells N a1 q1.2).bind (fun q2 =>
        some (q2.1, q2.2)))
set_option maxRecDepth 20000 in
set_option maxHeartbeats 4000000 in
theorem s_X5_count (G : GT) (l : Launch) (N : Nat) (a1 : Int32) (w : Wd) (q : Int32 × Wd) (h : f_X5_count N a1 w = some q) : Sp G l yX5_count cw_X5_count 2 [vr 5 0, vi a1] w (some (vi q.1)) q.2 := by
  refine Sp_of (own := RX5) [some (vr 5 0), some (vi a1)] (by decide) rfl rfl (Nat.le_of_ble_eq_true rfl) ?_
  intro x hG hl hC hr hQ _ _
  subst hG
  subst hl
  unfold f_X5_count at h
  refine Z_iload_n hC (dk d_X5_count 0 rfl) 1 rfl rfl rfl ?_
  refine Z_iconst (v := 0) hC (dk d_X5_count 1 rfl) 2 rfl (by decide) ?_
  refine Z_bipush (v := 7) hC (dk d_X5_count 2 rfl) 4 rfl (by decide) ?_
  obtain ⟨q1, hq1, h⟩ := bd_some h
  refine K_X5_72 [vi a1, vi (0 : Int32), vi (7 : Int32)] hC (s_X5_in (xG x) (xl x) N a1 (0 : Int32) (7 : Int32) w q1 hq1) (Nat.le_of_ble_eq_true rfl) rfl rfl rfl (Nat.le_of_ble_eq_true rfl) (dk d_X5_count 3 rfl) 7 rfl ?_
  refine Z_if_eq hC (dk d_X5_count 4 rfl) 10 18 rfl (by decide) (fun c => ?_) (fun c => ?_)
  · have h := it_t h c
    refine Z_iconst (v := -1) hC (dk d_X5_count 9 rfl) 19 rfl (by decide) ?_
    obtain rfl := Option.some.inj h
    exact Z_ireturn (st := []) hC hr hQ (dk d_X5_count 10 rfl)
  · have h := it_f h c
    refine Z_aload_n hC (dk d_X5_count 5 rfl) 11 rfl rfl rfl ?_
    refine Z_iload_n hC (dk d_X5_count 6 rfl) 12 rfl rfl rfl ?_
    obtain ⟨q2, hq2, h⟩ := bd_some h
    refine K_X5_255 [vi a1] hC m_5 (s_X5_tells (xG x) (xl x) N a1 q1.2 q2 hq2) (Nat.le_of_ble_eq_true rfl) rfl rfl rfl (Nat.le_of_ble_eq_true rfl) (dk d_X5_count 7 rfl) 15 rfl ?_
    refine Z_goto hC (dk d_X5_count 8 rfl) 19 (by decide) ?_
    obtain rfl := Option.some.inj h
    exact Z_ireturn (st := []) hC hr hQ (dk d_X5_count 10 rfl)
def t_X5_finding : List (Nat × Instr × Nat) := [(0, .aload_n 0, 1), (1, .getfield 63, 3), (4, .ireturn, 1)]
set_option maxRecDepth 20000 in
theorem d_X5_finding : ∀ q ∈ t_X5_finding, decode cX5_finding q.1 = .ok q.2 := by decide +kernel
noncomputable def f_X5_finding (N : Nat) (w : Wd) : Option (Int32 × Wd) :=
  some (gI w 500 0, w)
set_option maxRecDepth 20000 in
set_option maxHeartbeats 4000000 in
theorem s_X5_finding (G : GT) (l : Launch) (N : Nat) (w : Wd) (q : Int32 × Wd) (h : f_X5_finding N w = some q) : Sp G l yX5_finding cw_X5_finding 0 [vr 5 0] w (some (vi q.1)) q.2 := by
  refine Sp_of (own := RX5) [some (vr 5 0)] (by decide) rfl rfl (Nat.le_of_ble_eq_true rfl) ?_
  intro x hG hl hC hr hQ _ _
  subst hG
  subst hl
  unfold f_X5_finding at h
  refine Z_aload_n hC (dk d_X5_finding 0 rfl) 1 rfl rfl rfl ?_
  refine G_X5_63 hC m_5 (dk d_X5_finding 1 rfl) 4 rfl ?_
  obtain rfl := Option.some.inj h
  exact Z_ireturn (st := []) hC hr hQ (dk d_X5_finding 2 rfl)
def t_X5_findings : List (Nat × Instr × Nat) := [(0, .iload_n 1, 1), (1, .iconst 1, 1), (2, .iconst 5, 1), (3, .invokestatic 72, 3), (6, .ifCond .eq 12, 3), (9, .aload_n 0, 1), (10, .getfield 7, 3), (13, .iload_n 1, 1), (14, .iaload, 1), (15, .goto 4, 3), (18, .iconst (-1), 1), (19, .ireturn, 1)]
set_option maxRecDepth 20000 in
theorem d_X5_findings : ∀ q ∈ t_X5_findings, decode cX5_findings q.1 = .ok q.2 := by decide +kernel
noncomputable def f_X5_findings (N : Nat) (a1 : Int32) (w : Wd) : Option (Int32 × Wd) :=
  (f_X5_in N a1 (1 : Int32) (5 : Int32) w).bind (fun q1 =>
    if q1.1 = 0 then
      some ((-1 : Int32), q1.2)
    else
      gd (vp_in a1 6) (
      some (gA q1.2 30 0 a1.toNatClampNeg, q1.2)))
set_option maxRecDepth 20000 in
set_option maxHeartbeats 4000000 in
theorem s_X5_findings (G : GT) (l : Launch) (N : Nat) (a1 : Int32) (w : Wd) (q : Int32 × Wd) (h : f_X5_findings N a1 w = some q) : Sp G l yX5_findings cw_X5_findings 1 [vr 5 0, vi a1] w (some (vi q.1)) q.2 := by
  refine Sp_of (own := RX5) [some (vr 5 0), some (vi a1)] (by decide) rfl rfl (Nat.le_of_ble_eq_true rfl) ?_
  intro x hG hl hC hr hQ _ _
  subst hG
  subst hl
  unfold f_X5_findings at h
  refine Z_iload_n hC (dk d_X5_findings 0 rfl) 1 rfl rfl rfl ?_
  refine Z_iconst (v := 1) hC (dk d_X5_findings 1 rfl) 2 rfl (by decide) ?_
  refine Z_iconst (v := 5) hC (dk d_X5_findings 2 rfl) 3 rfl (by decide) ?_
  obtain ⟨q1, hq1, h⟩ := bd_some h
  refine K_X5_72 [vi a1, vi (1 : Int32), vi (5 : Int32)] hC (s_X5_in (xG x) (xl x) N a1 (1 : Int32) (5 : Int32) w q1 hq1) (Nat.le_of_ble_eq_true rfl) rfl rfl rfl (Nat.le_of_ble_eq_true rfl) (dk d_X5_findings 3 rfl) 6 rfl ?_
  refine Z_if_eq hC (dk d_X5_findings 4 rfl) 9 18 rfl (by decide) (fun c => ?_) (fun c => ?_)
  · have h := it_t h c
    refine Z_iconst (v := -1) hC (dk d_X5_findings 10 rfl) 19 rfl (by decide) ?_
    obtain rfl := Option.some.inj h
    exact Z_ireturn (st := []) hC hr hQ (dk d_X5_findings 11 rfl)
  · have h := it_f h c
    refine Z_aload_n hC (dk d_X5_findings 5 rfl) 10 rfl rfl rfl ?_
    refine G_X5_7 hC m_5 (dk d_X5_findings 6 rfl) 13 rfl ?_
    refine Z_iload_n hC (dk d_X5_findings 7 rfl) 14 rfl rfl rfl ?_
    obtain ⟨g2, h⟩ := gd_some h
    refine Z_iaload hC m_30 (by decide) rfl g2 (dk d_X5_findings 8 rfl) 15 rfl ?_
    refine Z_goto hC (dk d_X5_findings 9 rfl) 19 (by decide) ?_
    obtain rfl := Option.some.inj h
    exact Z_ireturn (st := []) hC hr hQ (dk d_X5_findings 11 rfl)
def t_X5_mix : List (Nat × Instr × Nat) := [(0, .aload_n 0, 1), (1, .ldc2_w 258, 3), (4, .aload_n 0, 1), (5, .getfield 260, 3), (8, .lmul, 1), (9, .iload_n 1, 1), (10, .i2l, 1), (11, .ladd, 1), (12, .putfield 260, 3), (15, .return_, 1)]
set_option maxRecDepth 20000 in
theorem d_X5_mix : ∀ q ∈ t_X5_mix, decode cX5_mix q.1 = .ok q.2 := by decide +kernel
noncomputable def f_X5_mix (N : Nat) (a1 : Int32) (w : Wd) : Option (Wd) :=
  some (sL w 531 0 (((31 : Int64) * (gL w 531 0)) + a1.toInt64))
set_option maxRecDepth 20000 in
set_option maxHeartbeats 4000000 in
theorem s_X5_mix (G : GT) (l : Launch) (N : Nat) (a1 : Int32) (w : Wd) (q : Wd) (h : f_X5_mix N a1 w = some q) : Sp G l yX5_mix cw_X5_mix 0 [vr 5 0, vi a1] w none q := by
  refine Sp_of (own := RX5) [some (vr 5 0), some (vi a1)] (by decide) rfl rfl (Nat.le_of_ble_eq_true rfl) ?_
  intro x hG hl hC hr hQ _ _
  subst hG
  subst hl
  unfold f_X5_mix at h
  refine Z_aload_n hC (dk d_X5_mix 0 rfl) 1 rfl rfl rfl ?_
  refine Z_ldc2 hC kc_X5_258 (dk d_X5_mix 1 rfl) 4 rfl ?_
  refine Z_aload_n hC (dk d_X5_mix 2 rfl) 5 rfl rfl rfl ?_
  refine G_X5_260 hC m_5 (dk d_X5_mix 3 rfl) 8 rfl ?_
  refine Z_lmul hC (dk d_X5_mix 4 rfl) 9 rfl ?_
  refine Z_iload_n hC (dk d_X5_mix 5 rfl) 10 rfl rfl rfl ?_
  refine Z_i2l hC (dk d_X5_mix 6 rfl) 11 rfl ?_
  refine Z_ladd hC (dk d_X5_mix 7 rfl) 12 rfl ?_
  refine P_X5_260 hC m_5 (dk d_X5_mix 8 rfl) 15 rfl ?_
  obtain rfl := Option.some.inj h
  exact Z_return (st := []) hC hr hQ (dk d_X5_mix 9 rfl)
def t_X5_mixOffice : List (Nat × Instr × Nat) := [(0, .aload_n 0, 1), (1, .aload_n 0, 1), (2, .getfield 32, 3), (5, .invokevirtual 263, 3), (8, .iconst 0, 1), (9, .istore_n 1, 1), (10, .iload_n 1, 1), (11, .aload_n 0, 1), (12, .getfield 125, 3), (15, .if_icmp .ge 32, 3), (18, .iconst 0, 1), (19, .istore_n 2, 1), (20, .iload_n 2, 1), (21, .iconst 3, 1), (22, .if_icmp .gt 19, 3), (25, .aload_n 0, 1), (26, .aload_n 0, 1), (27, .iload_n 1, 1), (28, .iload_n 2, 1), (29, .invokevirtual 140, 3), (32, .invokevirtual 263, 3), (35, .iinc 2 1, 3), (38, .goto (-18), 3), (41, .iinc 1 1, 3), (44, .goto (-34), 3), (47, .iconst 0, 1), (48, .istore_n 1, 1), (49, .iload_n 1, 1), (50, .aload_n 0, 1), (51, .getfield 128, 3), (54, .if_icmp .ge 19, 3), (57, .aload_n 0, 1), (58, .aload_n 0, 1), (59, .getfield 54, 3), (62, .iload_n 1, 1), (63, .iaload, 1), (64, .invokevirtual 263, 3), (67, .iinc 1 1, 3), (70, .goto (-21), 3), (73, .iconst 0, 1), (74, .istore_n 1, 1), (75, .iload_n 1, 1), (76, .aload_n 0, 1), (77, .getfield 131, 3), (80, .if_icmp .ge 40, 3), (83, .iconst 0, 1), (84, .istore_n 2, 1), (85, .iload_n 2, 1), (86, .aload_n 0, 1), (87, .getfield 125, 3), (90, .if_icmp .ge 24, 3), (93, .aload_n 0, 1), (94, .aload_n 0, 1), (95, .getfield 45, 3), (98, .bipush 6, 2), (100, .iload_n 1, 1), (101, .imul, 1), (102, .iload_n 2, 1), (103, .iadd, 1), (104, .iaload, 1), (105, .invokevirtual 263, 3), (108, .iinc 2 1, 3), (111, .goto (-26), 3), (114, .iinc 1 1, 3), (117, .goto (-42), 3), (120, .iconst 0, 1), (121, .istore_n 1, 1), (122, .iload_n 1, 1), (123, .iconst 3, 1), (124, .if_icmp .ge 40, 3), (127, .aload_n 0, 1), (128, .aload_n 0, 1), (129, .getfield 60, 3), (132, .bipush 8, 2), (134, .iload_n 1, 1), (135, .imul, 1), (136, .iaload, 1), (137, .bipush (-9), 2), (139, .if_icmp .ne 7, 3), (142, .iconst (-1), 1), (143, .goto 12, 3), (146, .aload_n 0, 1), (147, .getfield 60, 3), (150, .bipush 8, 2), (152, .iload_n 1, 1), (153, .imul, 1), (154, .iaload, 1), (155, .invokevirtual 263, 3), (158, .iinc 1 1, 3), (161, .goto (-39), 3), (164, .return_, 1)]
set_option maxRecDepth 20000 in
theorem d_X5_mixOffice : ∀ q ∈ t_X5_mixOffice, decode cX5_mixOffice q.1 = .ok q.2 := by decide +kernel
noncomputable def X5_mixOffice_L2 (N : Nat) (x1 : Int32) : Nat → Int32 → Wd → Option (Wd)
  | 0, _, _ => none
  | n + 1, x2, w =>
  if (3 : Int32) < x2 then
    some w
  else
    (f_X5_mateOf N x1 x2 w).bind (fun q2 =>
      (f_X5_mix N q2.1 q2.2).bind (fun q3 =>
        X5_mixOffice_L2 N x1 n (x2 + (1 : Int32)) q3))
set_option maxRecDepth 20000 in
set_option maxHeartbeats 4000000 in
theorem z_X5_mixOffice_L2 {x : CX} (hC : Cx x RX5 cX5_mixOffice 3 2) (hr : (xM x).sig.returnType = none) (N : Nat) (x1 : Int32) : ∀ (n : Nat) (x2 : Int32) (w : Wd) (q : (Wd)), X5_mixOffice_L2 N x1 n x2 w = some q → Z x 41 [some (vr 5 0), some (vi x1), none] [] q → Z x 20 [some (vr 5 0), some (vi x1), some (vi x2)] [] w := by
  intro n
  induction n with
  | zero =>
    intro x2 w q h
    cases h
  | succ n ih =>
    intro x2 w q h ke
    rw [X5_mixOffice_L2] at h
    refine Z_iload_n hC (dk d_X5_mixOffice 12 rfl) 21 rfl rfl rfl ?_
    refine Z_iconst (v := 3) hC (dk d_X5_mixOffice 13 rfl) 22 rfl (by decide) ?_
    refine Z_icmp_gt hC (dk d_X5_mixOffice 14 rfl) 25 41 rfl (by decide) (fun c => ?_) (fun c => ?_)
    · have h := it_t h c
      obtain rfl := Option.some.inj h
      refine Z_wk [true, true, false] [some (vr 5 0), some (vi x1), none] rfl ?_
      exact ke
    · have h := it_f h c
      refine Z_aload_n hC (dk d_X5_mixOffice 15 rfl) 26 rfl rfl rfl ?_
      refine Z_aload_n hC (dk d_X5_mixOffice 16 rfl) 27 rfl rfl rfl ?_
      refine Z_iload_n hC (dk d_X5_mixOffice 17 rfl) 28 rfl rfl rfl ?_
      refine Z_iload_n hC (dk d_X5_mixOffice 18 rfl) 29 rfl rfl rfl ?_
      obtain ⟨q2, hq2, h⟩ := bd_some h
      refine K_X5_140 [vi x1, vi x2] hC m_5 (s_X5_mateOf (xG x) (xl x) N x1 x2 w q2 hq2) (Nat.le_of_ble_eq_true rfl) rfl rfl rfl (Nat.le_of_ble_eq_true rfl) (dk d_X5_mixOffice 19 rfl) 32 rfl ?_
      obtain ⟨q3, hq3, h⟩ := bd_some h
      refine K_X5_263 [vi q2.1] hC m_5 (s_X5_mix (xG x) (xl x) N q2.1 q2.2 q3 hq3) (Nat.le_of_ble_eq_true rfl) rfl rfl rfl (Nat.le_of_ble_eq_true rfl) (dk d_X5_mixOffice 20 rfl) 35 rfl ?_
      refine Z_iinc hC (dk d_X5_mixOffice 21 rfl) 38 rfl rfl rfl [some (vr 5 0), some (vi x1), some (vi (x2 + (1 : Int32)))] rfl ?_
      refine Z_goto hC (dk d_X5_mixOffice 22 rfl) 20 (by decide) ?_
      refine Z_wk [true, true, true] [some (vr 5 0), some (vi x1), some (vi (x2 + (1 : Int32)))] rfl ?_
      exact ih (x2 + (1 : Int32)) q3 _ h ke
noncomputable def X5_mixOffice_L1 (N : Nat) : Nat → Int32 → Wd → Option (Wd)
  | 0, _, _ => none
  | n + 1, x1, w =>
  if (gI w 510 0) ≤ x1 then
    some w
  else
    (X5_mixOffice_L2 N x1 N (0 : Int32) w).bind (fun q4 =>
      X5_mixOffice_L1 N n (x1 + (1 : Int32)) q4)
set_option maxRecDepth 20000 in
set_option maxHeartbeats 4000000 in
theorem z_X5_mixOffice_L1 {x : CX} (hC : Cx x RX5 cX5_mixOffice 3 2) (hr : (xM x).sig.returnType = none) (N : Nat) : ∀ (n : Nat) (x1 : Int32) (w : Wd) (q : (Wd)), X5_mixOffice_L1 N n x1 w = some q → Z x 47 [some (vr 5 0), none, none] [] q → Z x 10 [some (vr 5 0), some (vi x1), none] [] w := by
  intro n
  induction n with
  | zero =>
    intro x1 w q h
    cases h
  | succ n ih =>
    intro x1 w q h ke
    rw [X5_mixOffice_L1] at h
    refine Z_iload_n hC (dk d_X5_mixOffice 6 rfl) 11 rfl rfl rfl ?_
    refine Z_aload_n hC (dk d_X5_mixOffice 7 rfl) 12 rfl rfl rfl ?_
    refine G_X5_125 hC m_5 (dk d_X5_mixOffice 8 rfl) 15 rfl ?_
    refine Z_icmp_ge hC (dk d_X5_mixOffice 9 rfl) 18 47 rfl (by decide) (fun c => ?_) (fun c => ?_)
    · have h := it_t h c
      obtain rfl := Option.some.inj h
      refine Z_wk [true, false, false] [some (vr 5 0), none, none] rfl ?_
      exact ke
    · have h := it_f h c
      refine Z_iconst (v := 0) hC (dk d_X5_mixOffice 10 rfl) 19 rfl (by decide) ?_
      refine Z_istore_n hC (dk d_X5_mixOffice 11 rfl) 20 rfl rfl (Nat.le_of_ble_eq_true rfl) [some (vr 5 0), some (vi x1), some (vi (0 : Int32))] rfl ?_
      obtain ⟨q4, hq4, h⟩ := bd_some h
      refine Z_wk [true, true, true] [some (vr 5 0), some (vi x1), some (vi (0 : Int32))] rfl ?_
      refine z_X5_mixOffice_L2 hC hr N x1 N (0 : Int32) w q4 hq4 ?_
      refine Z_iinc hC (dk d_X5_mixOffice 23 rfl) 44 rfl rfl rfl [some (vr 5 0), some (vi (x1 + (1 : Int32))), none] rfl ?_
      refine Z_goto hC (dk d_X5_mixOffice 24 rfl) 10 (by decide) ?_
      refine Z_wk [true, true, false] [some (vr 5 0), some (vi (x1 + (1 : Int32))), none] rfl ?_
      exact ih (x1 + (1 : Int32)) q4 _ h ke
noncomputable def X5_mixOffice_L3 (N : Nat) : Nat → Int32 → Wd → Option (Wd)
  | 0, _, _ => none
  | n + 1, x1, w =>
  if (gI w 524 0) ≤ x1 then
    some w
  else
    gd (vp_in x1 6) (
    (f_X5_mix N (gA w 42 0 x1.toNatClampNeg) w).bind (fun q7 =>
      X5_mixOffice_L3 N n (x1 + (1 : Int32)) q7))
set_option maxRecDepth 20000 in
set_option maxHeartbeats 4000000 in
theorem z_X5_mixOffice_L3 {x : CX} (hC : Cx x RX5 cX5_mixOffice 3 2) (hr : (xM x).sig.returnType = none) (N : Nat) : ∀ (n : Nat) (x1 : Int32) (w : Wd) (q : (Wd)), X5_mixOffice_L3 N n x1 w = some q → Z x 73 [some (vr 5 0), none, none] [] q → Z x 49 [some (vr 5 0), some (vi x1), none] [] w := by
  intro n
  induction n with
  | zero =>
    intro x1 w q h
    cases h
  | succ n ih =>
    intro x1 w q h ke
    rw [X5_mixOffice_L3] at h
    refine Z_iload_n hC (dk d_X5_mixOffice 27 rfl) 50 rfl rfl rfl ?_
    refine Z_aload_n hC (dk d_X5_mixOffice 28 rfl) 51 rfl rfl rfl ?_
    refine G_X5_128 hC m_5 (dk d_X5_mixOffice 29 rfl) 54 rfl ?_
    refine Z_icmp_ge hC (dk d_X5_mixOffice 30 rfl) 57 73 rfl (by decide) (fun c => ?_) (fun c => ?_)
    · have h := it_t h c
      obtain rfl := Option.some.inj h
      refine Z_wk [true, false, false] [some (vr 5 0), none, none] rfl ?_
      exact ke
    · have h := it_f h c
      refine Z_aload_n hC (dk d_X5_mixOffice 31 rfl) 58 rfl rfl rfl ?_
      refine Z_aload_n hC (dk d_X5_mixOffice 32 rfl) 59 rfl rfl rfl ?_
      refine G_X5_54 hC m_5 (dk d_X5_mixOffice 33 rfl) 62 rfl ?_
      refine Z_iload_n hC (dk d_X5_mixOffice 34 rfl) 63 rfl rfl rfl ?_
      obtain ⟨g6, h⟩ := gd_some h
      refine Z_iaload hC m_42 (by decide) rfl g6 (dk d_X5_mixOffice 35 rfl) 64 rfl ?_
      obtain ⟨q7, hq7, h⟩ := bd_some h
      refine K_X5_263 [vi (gA w 42 0 x1.toNatClampNeg)] hC m_5 (s_X5_mix (xG x) (xl x) N (gA w 42 0 x1.toNatClampNeg) w q7 hq7) (Nat.le_of_ble_eq_true rfl) rfl rfl rfl (Nat.le_of_ble_eq_true rfl) (dk d_X5_mixOffice 36 rfl) 67 rfl ?_
      refine Z_iinc hC (dk d_X5_mixOffice 37 rfl) 70 rfl rfl rfl [some (vr 5 0), some (vi (x1 + (1 : Int32))), none] rfl ?_
      refine Z_goto hC (dk d_X5_mixOffice 38 rfl) 49 (by decide) ?_
      refine Z_wk [true, true, false] [some (vr 5 0), some (vi (x1 + (1 : Int32))), none] rfl ?_
      exact ih (x1 + (1 : Int32)) q7 _ h ke
noncomputable def X5_mixOffice_L5 (N : Nat) (x1 : Int32) : Nat → Int32 → Wd → Option (Wd)
  | 0, _, _ => none
  | n + 1, x2, w =>
  if (gI w 510 0) ≤ x2 then
    some w
  else
    gd (vp_in (((6 : Int32) * x1) + x2) 252) (
    (f_X5_mix N (gA w 39 0 (((6 : Int32) * x1) + x2).toNatClampNeg) w).bind (fun q10 =>
      X5_mixOffice_L5 N x1 n (x2 + (1 : Int32)) q10))
set_option maxRecDepth 20000 in
set_option maxHeartbeats 4000000 in
theorem z_X5_mixOffice_L5 {x : CX} (hC : Cx x RX5 cX5_mixOffice 3 2) (hr : (xM x).sig.returnType = none) (N : Nat) (x1 : Int32) : ∀ (n : Nat) (x2 : Int32) (w : Wd) (q : (Wd)), X5_mixOffice_L5 N x1 n x2 w = some q → Z x 114 [some (vr 5 0), some (vi x1), none] [] q → Z x 85 [some (vr 5 0), some (vi x1), some (vi x2)] [] w := by
  intro n
  induction n with
  | zero =>
    intro x2 w q h
    cases h
  | succ n ih =>
    intro x2 w q h ke
    rw [X5_mixOffice_L5] at h
    refine Z_iload_n hC (dk d_X5_mixOffice 47 rfl) 86 rfl rfl rfl ?_
    refine Z_aload_n hC (dk d_X5_mixOffice 48 rfl) 87 rfl rfl rfl ?_
    refine G_X5_125 hC m_5 (dk d_X5_mixOffice 49 rfl) 90 rfl ?_
    refine Z_icmp_ge hC (dk d_X5_mixOffice 50 rfl) 93 114 rfl (by decide) (fun c => ?_) (fun c => ?_)
    · have h := it_t h c
      obtain rfl := Option.some.inj h
      refine Z_wk [true, true, false] [some (vr 5 0), some (vi x1), none] rfl ?_
      exact ke
    · have h := it_f h c
      refine Z_aload_n hC (dk d_X5_mixOffice 51 rfl) 94 rfl rfl rfl ?_
      refine Z_aload_n hC (dk d_X5_mixOffice 52 rfl) 95 rfl rfl rfl ?_
      refine G_X5_45 hC m_5 (dk d_X5_mixOffice 53 rfl) 98 rfl ?_
      refine Z_bipush (v := 6) hC (dk d_X5_mixOffice 54 rfl) 100 rfl (by decide) ?_
      refine Z_iload_n hC (dk d_X5_mixOffice 55 rfl) 101 rfl rfl rfl ?_
      refine Z_imul hC (dk d_X5_mixOffice 56 rfl) 102 rfl ?_
      refine Z_iload_n hC (dk d_X5_mixOffice 57 rfl) 103 rfl rfl rfl ?_
      refine Z_iadd hC (dk d_X5_mixOffice 58 rfl) 104 rfl ?_
      obtain ⟨g9, h⟩ := gd_some h
      refine Z_iaload hC m_39 (by decide) rfl g9 (dk d_X5_mixOffice 59 rfl) 105 rfl ?_
      obtain ⟨q10, hq10, h⟩ := bd_some h
      refine K_X5_263 [vi (gA w 39 0 (((6 : Int32) * x1) + x2).toNatClampNeg)] hC m_5 (s_X5_mix (xG x) (xl x) N (gA w 39 0 (((6 : Int32) * x1) + x2).toNatClampNeg) w q10 hq10) (Nat.le_of_ble_eq_true rfl) rfl rfl rfl (Nat.le_of_ble_eq_true rfl) (dk d_X5_mixOffice 60 rfl) 108 rfl ?_
      refine Z_iinc hC (dk d_X5_mixOffice 61 rfl) 111 rfl rfl rfl [some (vr 5 0), some (vi x1), some (vi (x2 + (1 : Int32)))] rfl ?_
      refine Z_goto hC (dk d_X5_mixOffice 62 rfl) 85 (by decide) ?_
      refine Z_wk [true, true, true] [some (vr 5 0), some (vi x1), some (vi (x2 + (1 : Int32)))] rfl ?_
      exact ih (x2 + (1 : Int32)) q10 _ h ke
noncomputable def X5_mixOffice_L4 (N : Nat) : Nat → Int32 → Wd → Option (Wd)
  | 0, _, _ => none
  | n + 1, x1, w =>
  if (gI w 518 0) ≤ x1 then
    some w
  else
    (X5_mixOffice_L5 N x1 N (0 : Int32) w).bind (fun q11 =>
      X5_mixOffice_L4 N n (x1 + (1 : Int32)) q11)
set_option maxRecDepth 20000 in
set_option maxHeartbeats 4000000 in
theorem z_X5_mixOffice_L4 {x : CX} (hC : Cx x RX5 cX5_mixOffice 3 2) (hr : (xM x).sig.returnType = none) (N : Nat) : ∀ (n : Nat) (x1 : Int32) (w : Wd) (q : (Wd)), X5_mixOffice_L4 N n x1 w = some q → Z x 120 [some (vr 5 0), none, none] [] q → Z x 75 [some (vr 5 0), some (vi x1), none] [] w := by
  intro n
  induction n with
  | zero =>
    intro x1 w q h
    cases h
  | succ n ih =>
    intro x1 w q h ke
    rw [X5_mixOffice_L4] at h
    refine Z_iload_n hC (dk d_X5_mixOffice 41 rfl) 76 rfl rfl rfl ?_
    refine Z_aload_n hC (dk d_X5_mixOffice 42 rfl) 77 rfl rfl rfl ?_
    refine G_X5_131 hC m_5 (dk d_X5_mixOffice 43 rfl) 80 rfl ?_
    refine Z_icmp_ge hC (dk d_X5_mixOffice 44 rfl) 83 120 rfl (by decide) (fun c => ?_) (fun c => ?_)
    · have h := it_t h c
      obtain rfl := Option.some.inj h
      refine Z_wk [true, false, false] [some (vr 5 0), none, none] rfl ?_
      exact ke
    · have h := it_f h c
      refine Z_iconst (v := 0) hC (dk d_X5_mixOffice 45 rfl) 84 rfl (by decide) ?_
      refine Z_istore_n hC (dk d_X5_mixOffice 46 rfl) 85 rfl rfl (Nat.le_of_ble_eq_true rfl) [some (vr 5 0), some (vi x1), some (vi (0 : Int32))] rfl ?_
      obtain ⟨q11, hq11, h⟩ := bd_some h
      refine Z_wk [true, true, true] [some (vr 5 0), some (vi x1), some (vi (0 : Int32))] rfl ?_
      refine z_X5_mixOffice_L5 hC hr N x1 N (0 : Int32) w q11 hq11 ?_
      refine Z_iinc hC (dk d_X5_mixOffice 63 rfl) 117 rfl rfl rfl [some (vr 5 0), some (vi (x1 + (1 : Int32))), none] rfl ?_
      refine Z_goto hC (dk d_X5_mixOffice 64 rfl) 75 (by decide) ?_
      refine Z_wk [true, true, false] [some (vr 5 0), some (vi (x1 + (1 : Int32))), none] rfl ?_
      exact ih (x1 + (1 : Int32)) q11 _ h ke
noncomputable def X5_mixOffice_L6 (N : Nat) : Nat → Int32 → Wd → Option (Wd)
  | 0, _, _ => none
  | n + 1, x1, w =>
  if (3 : Int32) ≤ x1 then
    some w
  else
    gd (vp_in ((8 : Int32) * x1) 24) (
    if (gA w 44 0 ((8 : Int32) * x1).toNatClampNeg) = (-9 : Int32) then
      (f_X5_mix N (-1 : Int32) w).bind (fun q16 =>
        X5_mixOffice_L6 N n (x1 + (1 : Int32)) q16)
    else
      gd (vp_in ((8 : Int32) * x1) 24) (
      (f_X5_mix N (gA w 44 0 ((8 : Int32) * x1).toNatClampNeg) w).bind (fun q15 =>
        X5_mixOffice_L6 N n (x1 + (1 : Int32)) q15)))
set_option maxRecDepth 20000 in
set_option maxHeartbeats 4000000 in
theorem z_X5_mixOffice_L6 {x : CX} (hC : Cx x RX5 cX5_mixOffice 3 2) (hr : (xM x).sig.returnType = none) (N : Nat) : ∀ (n : Nat) (x1 : Int32) (w : Wd) (q : (Wd)), X5_mixOffice_L6 N n x1 w = some q → Z x 164 [none, none, none] [] q → Z x 122 [some (vr 5 0), some (vi x1), none] [] w := by
  intro n
  induction n with
  | zero =>
    intro x1 w q h
    cases h
  | succ n ih =>
    intro x1 w q h ke
    rw [X5_mixOffice_L6] at h
    refine Z_iload_n hC (dk d_X5_mixOffice 67 rfl) 123 rfl rfl rfl ?_
    refine Z_iconst (v := 3) hC (dk d_X5_mixOffice 68 rfl) 124 rfl (by decide) ?_
    refine Z_icmp_ge hC (dk d_X5_mixOffice 69 rfl) 127 164 rfl (by decide) (fun c => ?_) (fun c => ?_)
    · have h := it_t h c
      obtain rfl := Option.some.inj h
      refine Z_wk [false, false, false] [none, none, none] rfl ?_
      exact ke
    · have h := it_f h c
      refine Z_aload_n hC (dk d_X5_mixOffice 70 rfl) 128 rfl rfl rfl ?_
      refine Z_aload_n hC (dk d_X5_mixOffice 71 rfl) 129 rfl rfl rfl ?_
      refine G_X5_60 hC m_5 (dk d_X5_mixOffice 72 rfl) 132 rfl ?_
      refine Z_bipush (v := 8) hC (dk d_X5_mixOffice 73 rfl) 134 rfl (by decide) ?_
      refine Z_iload_n hC (dk d_X5_mixOffice 74 rfl) 135 rfl rfl rfl ?_
      refine Z_imul hC (dk d_X5_mixOffice 75 rfl) 136 rfl ?_
      obtain ⟨g13, h⟩ := gd_some h
      refine Z_iaload hC m_44 (by decide) rfl g13 (dk d_X5_mixOffice 76 rfl) 137 rfl ?_
      refine Z_bipush (v := -9) hC (dk d_X5_mixOffice 77 rfl) 139 rfl (by decide) ?_
      refine Z_icmp_ne hC (dk d_X5_mixOffice 78 rfl) 142 146 rfl (by decide) (fun c => ?_) (fun c => ?_)
      · have h := it_f h c
        refine Z_aload_n hC (dk d_X5_mixOffice 81 rfl) 147 rfl rfl rfl ?_
        refine G_X5_60 hC m_5 (dk d_X5_mixOffice 82 rfl) 150 rfl ?_
        refine Z_bipush (v := 8) hC (dk d_X5_mixOffice 83 rfl) 152 rfl (by decide) ?_
        refine Z_iload_n hC (dk d_X5_mixOffice 84 rfl) 153 rfl rfl rfl ?_
        refine Z_imul hC (dk d_X5_mixOffice 85 rfl) 154 rfl ?_
        obtain ⟨g14, h⟩ := gd_some h
        refine Z_iaload hC m_44 (by decide) rfl g14 (dk d_X5_mixOffice 86 rfl) 155 rfl ?_
        obtain ⟨q15, hq15, h⟩ := bd_some h
        refine K_X5_263 [vi (gA w 44 0 ((8 : Int32) * x1).toNatClampNeg)] hC m_5 (s_X5_mix (xG x) (xl x) N (gA w 44 0 ((8 : Int32) * x1).toNatClampNeg) w q15 hq15) (Nat.le_of_ble_eq_true rfl) rfl rfl rfl (Nat.le_of_ble_eq_true rfl) (dk d_X5_mixOffice 87 rfl) 158 rfl ?_
        refine Z_iinc hC (dk d_X5_mixOffice 88 rfl) 161 rfl rfl rfl [some (vr 5 0), some (vi (x1 + (1 : Int32))), none] rfl ?_
        refine Z_goto hC (dk d_X5_mixOffice 89 rfl) 122 (by decide) ?_
        refine Z_wk [true, true, false] [some (vr 5 0), some (vi (x1 + (1 : Int32))), none] rfl ?_
        exact ih (x1 + (1 : Int32)) q15 _ h ke
      · have h := it_t h c
        refine Z_iconst (v := -1) hC (dk d_X5_mixOffice 79 rfl) 143 rfl (by decide) ?_
        refine Z_goto hC (dk d_X5_mixOffice 80 rfl) 155 (by decide) ?_
        obtain ⟨q16, hq16, h⟩ := bd_some h
        refine K_X5_263 [vi (-1 : Int32)] hC m_5 (s_X5_mix (xG x) (xl x) N (-1 : Int32) w q16 hq16) (Nat.le_of_ble_eq_true rfl) rfl rfl rfl (Nat.le_of_ble_eq_true rfl) (dk d_X5_mixOffice 87 rfl) 158 rfl ?_
        refine Z_iinc hC (dk d_X5_mixOffice 88 rfl) 161 rfl rfl rfl [some (vr 5 0), some (vi (x1 + (1 : Int32))), none] rfl ?_
        refine Z_goto hC (dk d_X5_mixOffice 89 rfl) 122 (by decide) ?_
        refine Z_wk [true, true, false] [some (vr 5 0), some (vi (x1 + (1 : Int32))), none] rfl ?_
        exact ih (x1 + (1 : Int32)) q16 _ h ke
noncomputable def f_X5_mixOffice (N : Nat) (w : Wd) : Option (Wd) :=
  (f_X5_mix N (gI w 511 0) w).bind (fun q1 =>
    (X5_mixOffice_L1 N N (0 : Int32) q1).bind (fun q5 =>
      (X5_mixOffice_L3 N N (0 : Int32) q5).bind (fun q8 =>
        (X5_mixOffice_L4 N N (0 : Int32) q8).bind (fun q12 =>
          (X5_mixOffice_L6 N N (0 : Int32) q12).bind (fun q17 =>
            some q17)))))
set_option maxRecDepth 20000 in
set_option maxHeartbeats 4000000 in
theorem s_X5_mixOffice (G : GT) (l : Launch) (N : Nat) (w : Wd) (q : Wd) (h : f_X5_mixOffice N w = some q) : Sp G l yX5_mixOffice cw_X5_mixOffice 2 [vr 5 0] w none q := by
  refine Sp_of (own := RX5) [some (vr 5 0), none, none] (by decide) rfl rfl (Nat.le_of_ble_eq_true rfl) ?_
  intro x hG hl hC hr hQ _ _
  subst hG
  subst hl
  unfold f_X5_mixOffice at h
  refine Z_aload_n hC (dk d_X5_mixOffice 0 rfl) 1 rfl rfl rfl ?_
  refine Z_aload_n hC (dk d_X5_mixOffice 1 rfl) 2 rfl rfl rfl ?_
  refine G_X5_32 hC m_5 (dk d_X5_mixOffice 2 rfl) 5 rfl ?_
  obtain ⟨q1, hq1, h⟩ := bd_some h
  refine K_X5_263 [vi (gI w 511 0)] hC m_5 (s_X5_mix (xG x) (xl x) N (gI w 511 0) w q1 hq1) (Nat.le_of_ble_eq_true rfl) rfl rfl rfl (Nat.le_of_ble_eq_true rfl) (dk d_X5_mixOffice 3 rfl) 8 rfl ?_
  refine Z_iconst (v := 0) hC (dk d_X5_mixOffice 4 rfl) 9 rfl (by decide) ?_
  refine Z_istore_n hC (dk d_X5_mixOffice 5 rfl) 10 rfl rfl (Nat.le_of_ble_eq_true rfl) [some (vr 5 0), some (vi (0 : Int32)), none] rfl ?_
  obtain ⟨q5, hq5, h⟩ := bd_some h
  refine Z_wk [true, true, false] [some (vr 5 0), some (vi (0 : Int32)), none] rfl ?_
  refine z_X5_mixOffice_L1 hC hr N N (0 : Int32) q1 q5 hq5 ?_
  refine Z_iconst (v := 0) hC (dk d_X5_mixOffice 25 rfl) 48 rfl (by decide) ?_
  refine Z_istore_n hC (dk d_X5_mixOffice 26 rfl) 49 rfl rfl (Nat.le_of_ble_eq_true rfl) [some (vr 5 0), some (vi (0 : Int32)), none] rfl ?_
  obtain ⟨q8, hq8, h⟩ := bd_some h
  refine Z_wk [true, true, false] [some (vr 5 0), some (vi (0 : Int32)), none] rfl ?_
  refine z_X5_mixOffice_L3 hC hr N N (0 : Int32) q5 q8 hq8 ?_
  refine Z_iconst (v := 0) hC (dk d_X5_mixOffice 39 rfl) 74 rfl (by decide) ?_
  refine Z_istore_n hC (dk d_X5_mixOffice 40 rfl) 75 rfl rfl (Nat.le_of_ble_eq_true rfl) [some (vr 5 0), some (vi (0 : Int32)), none] rfl ?_
  obtain ⟨q12, hq12, h⟩ := bd_some h
  refine Z_wk [true, true, false] [some (vr 5 0), some (vi (0 : Int32)), none] rfl ?_
  refine z_X5_mixOffice_L4 hC hr N N (0 : Int32) q8 q12 hq12 ?_
  refine Z_iconst (v := 0) hC (dk d_X5_mixOffice 65 rfl) 121 rfl (by decide) ?_
  refine Z_istore_n hC (dk d_X5_mixOffice 66 rfl) 122 rfl rfl (Nat.le_of_ble_eq_true rfl) [some (vr 5 0), some (vi (0 : Int32)), none] rfl ?_
  obtain ⟨q17, hq17, h⟩ := bd_some h
  refine Z_wk [true, true, false] [some (vr 5 0), some (vi (0 : Int32)), none] rfl ?_
  refine z_X5_mixOffice_L6 hC hr N N (0 : Int32) q12 q17 hq17 ?_
  obtain rfl := Option.some.inj h
  exact Z_return (st := []) hC hr hQ (dk d_X5_mixOffice 90 rfl)
def t_X5_digest : List (Nat × Instr × Nat) := [(0, .aload_n 0, 1), (1, .ldc2_w 266, 3), (4, .putfield 260, 3), (7, .iconst 0, 1), (8, .istore_n 1, 1), (9, .iload_n 1, 1), (10, .bipush 7, 2), (12, .if_icmp .gt 18, 3), (15, .aload_n 0, 1), (16, .aload_n 0, 1), (17, .iload_n 1, 1), (18, .invokevirtual 255, 3), (21, .invokevirtual 263, 3), (24, .iinc 1 1, 3), (27, .goto (-18), 3), (30, .aload_n 0, 1), (31, .invokevirtual 268, 3), (34, .iconst 0, 1), (35, .istore_n 1, 1), (36, .iload_n 1, 1), (37, .bipush 6, 2), (39, .if_icmp .ge 60, 3), (42, .aload_n 0, 1), (43, .aload_n 0, 1), (44, .getfield 17, 3), (47, .iload_n 1, 1), (48, .iaload, 1), (49, .ifCond .ge 7, 3), (52, .iconst (-1), 1), (53, .goto 9, 3), (56, .aload_n 0, 1), (57, .getfield 17, 3), (60, .iload_n 1, 1), (61, .iaload, 1), (62, .invokevirtual 263, 3), (65, .iconst 0, 1), (66, .istore_n 2, 1), (67, .iload_n 2, 1), (68, .aload_n 0, 1), (69, .getfield 17, 3), (72, .iload_n 1, 1), (73, .iaload, 1), (74, .if_icmp .ge 19, 3), (77, .aload_n 0, 1), (78, .aload_n 0, 1), (79, .iload_n 1, 1), (80, .iload_n 2, 1), (81, .invokevirtual 94, 3), (84, .invokevirtual 263, 3), (87, .iinc 2 1, 3), (90, .goto (-23), 3), (93, .iinc 1 1, 3), (96, .goto (-60), 3), (99, .iconst 0, 1), (100, .istore_n 1, 1), (101, .iload_n 1, 1), (102, .iconst 4, 1), (103, .if_icmp .ge 65, 3), (106, .aload_n 0, 1), (107, .aload_n 0, 1), (108, .getfield 26, 3), (111, .iload_n 1, 1), (112, .iaload, 1), (113, .ifCond .ge 7, 3), (116, .iconst (-1), 1), (117, .goto 9, 3), (120, .aload_n 0, 1), (121, .getfield 26, 3), (124, .iload_n 1, 1), (125, .iaload, 1), (126, .invokevirtual 263, 3), (129, .iconst 0, 1), (130, .istore_n 2, 1), (131, .iload_n 2, 1), (132, .aload_n 0, 1), (133, .getfield 26, 3), (136, .iload_n 1, 1), (137, .iaload, 1), (138, .if_icmp .ge 24, 3), (141, .aload_n 0, 1), (142, .aload_n 0, 1), (143, .getfield 29, 3), (146, .bipush 60, 2), (148, .iload_n 1, 1), (149, .imul, 1), (150, .iload_n 2, 1), (151, .iadd, 1), (152, .iaload, 1), (153, .invokevirtual 263, 3), (156, .iinc 2 1, 3), (159, .goto (-28), 3), (162, .iinc 1 1, 3), (165, .goto (-64), 3), (168, .aload_n 0, 1), (169, .getfield 260, 3), (172, .lreturn, 1)]
set_option maxRecDepth 20000 in
theorem d_X5_digest : ∀ q ∈ t_X5_digest, decode cX5_digest q.1 = .ok q.2 := by decide +kernel
noncomputable def X5_digest_L1 (N : Nat) : Nat → Int32 → Wd → Option (Wd)
  | 0, _, _ => none
  | n + 1, x1, w =>
  if (7 : Int32) < x1 then
    some w
  else
    (f_X5_tells N x1 w).bind (fun q1 =>
      (f_X5_mix N q1.1 q1.2).bind (fun q2 =>
        X5_digest_L1 N n (x1 + (1 : Int32)) q2))
set_option maxRecDepth 20000 in
set_option maxHeartbeats 4000000 in
theorem z_X5_digest_L1 {x : CX} (hC : Cx x RX5 cX5_digest 3 3) (hr : (xM x).sig.returnType = (some .long)) (N : Nat) : ∀ (n : Nat) (x1 : Int32) (w : Wd) (q : (Wd)), X5_digest_L1 N n x1 w = some q → Z x 30 [some (vr 5 0), none, none] [] q → Z x 9 [some (vr 5 0), some (vi x1), none] [] w := by
  intro n
  induction n with
  | zero =>
    intro x1 w q h
    cases h
  | succ n ih =>
    intro x1 w q h ke
    rw [X5_digest_L1] at h
    refine Z_iload_n hC (dk d_X5_digest 5 rfl) 10 rfl rfl rfl ?_
    refine Z_bipush (v := 7) hC (dk d_X5_digest 6 rfl) 12 rfl (by decide) ?_
    refine Z_icmp_gt hC (dk d_X5_digest 7 rfl) 15 30 rfl (by decide) (fun c => ?_) (fun c => ?_)
    · have h := it_t h c
      obtain rfl := Option.some.inj h
      refine Z_wk [true, false, false] [some (vr 5 0), none, none] rfl ?_
      exact ke
    · have h := it_f h c
      refine Z_aload_n hC (dk d_X5_digest 8 rfl) 16 rfl rfl rfl ?_
      refine Z_aload_n hC (dk d_X5_digest 9 rfl) 17 rfl rfl rfl ?_
      refine Z_iload_n hC (dk d_X5_digest 10 rfl) 18 rfl rfl rfl ?_
      obtain ⟨q1, hq1, h⟩ := bd_some h
      refine K_X5_255 [vi x1] hC m_5 (s_X5_tells (xG x) (xl x) N x1 w q1 hq1) (Nat.le_of_ble_eq_true rfl) rfl rfl rfl (Nat.le_of_ble_eq_true rfl) (dk d_X5_digest 11 rfl) 21 rfl ?_
      obtain ⟨q2, hq2, h⟩ := bd_some h
      refine K_X5_263 [vi q1.1] hC m_5 (s_X5_mix (xG x) (xl x) N q1.1 q1.2 q2 hq2) (Nat.le_of_ble_eq_true rfl) rfl rfl rfl (Nat.le_of_ble_eq_true rfl) (dk d_X5_digest 12 rfl) 24 rfl ?_
      refine Z_iinc hC (dk d_X5_digest 13 rfl) 27 rfl rfl rfl [some (vr 5 0), some (vi (x1 + (1 : Int32))), none] rfl ?_
      refine Z_goto hC (dk d_X5_digest 14 rfl) 9 (by decide) ?_
      refine Z_wk [true, true, false] [some (vr 5 0), some (vi (x1 + (1 : Int32))), none] rfl ?_
      exact ih (x1 + (1 : Int32)) q2 _ h ke
noncomputable def X5_digest_L3 (N : Nat) (x1 : Int32) : Nat → Int32 → Wd → Option (Wd)
  | 0, _, _ => none
  | n + 1, x2, w =>
  gd (vp_in x1 6) (
  if (gA w 31 0 x1.toNatClampNeg) ≤ x2 then
    some w
  else
    (f_X5_rowAt N x1 x2 w).bind (fun q9 =>
      (f_X5_mix N q9.1 q9.2).bind (fun q10 =>
        X5_digest_L3 N x1 n (x2 + (1 : Int32)) q10)))
set_option maxRecDepth 20000 in
set_option maxHeartbeats 4000000 in
theorem z_X5_digest_L3 {x : CX} (hC : Cx x RX5 cX5_digest 3 3) (hr : (xM x).sig.returnType = (some .long)) (N : Nat) (x1 : Int32) : ∀ (n : Nat) (x2 : Int32) (w : Wd) (q : (Wd)), X5_digest_L3 N x1 n x2 w = some q → Z x 93 [some (vr 5 0), some (vi x1), none] [] q → Z x 67 [some (vr 5 0), some (vi x1), some (vi x2)] [] w := by
  intro n
  induction n with
  | zero =>
    intro x2 w q h
    cases h
  | succ n ih =>
    intro x2 w q h ke
    rw [X5_digest_L3] at h
    refine Z_iload_n hC (dk d_X5_digest 37 rfl) 68 rfl rfl rfl ?_
    refine Z_aload_n hC (dk d_X5_digest 38 rfl) 69 rfl rfl rfl ?_
    refine G_X5_17 hC m_5 (dk d_X5_digest 39 rfl) 72 rfl ?_
    refine Z_iload_n hC (dk d_X5_digest 40 rfl) 73 rfl rfl rfl ?_
    obtain ⟨g8, h⟩ := gd_some h
    refine Z_iaload hC m_31 (by decide) rfl g8 (dk d_X5_digest 41 rfl) 74 rfl ?_
    refine Z_icmp_ge hC (dk d_X5_digest 42 rfl) 77 93 rfl (by decide) (fun c => ?_) (fun c => ?_)
    · have h := it_t h c
      obtain rfl := Option.some.inj h
      refine Z_wk [true, true, false] [some (vr 5 0), some (vi x1), none] rfl ?_
      exact ke
    · have h := it_f h c
      refine Z_aload_n hC (dk d_X5_digest 43 rfl) 78 rfl rfl rfl ?_
      refine Z_aload_n hC (dk d_X5_digest 44 rfl) 79 rfl rfl rfl ?_
      refine Z_iload_n hC (dk d_X5_digest 45 rfl) 80 rfl rfl rfl ?_
      refine Z_iload_n hC (dk d_X5_digest 46 rfl) 81 rfl rfl rfl ?_
      obtain ⟨q9, hq9, h⟩ := bd_some h
      refine K_X5_94 [vi x1, vi x2] hC m_5 (s_X5_rowAt (xG x) (xl x) N x1 x2 w q9 hq9) (Nat.le_of_ble_eq_true rfl) rfl rfl rfl (Nat.le_of_ble_eq_true rfl) (dk d_X5_digest 47 rfl) 84 rfl ?_
      obtain ⟨q10, hq10, h⟩ := bd_some h
      refine K_X5_263 [vi q9.1] hC m_5 (s_X5_mix (xG x) (xl x) N q9.1 q9.2 q10 hq10) (Nat.le_of_ble_eq_true rfl) rfl rfl rfl (Nat.le_of_ble_eq_true rfl) (dk d_X5_digest 48 rfl) 87 rfl ?_
      refine Z_iinc hC (dk d_X5_digest 49 rfl) 90 rfl rfl rfl [some (vr 5 0), some (vi x1), some (vi (x2 + (1 : Int32)))] rfl ?_
      refine Z_goto hC (dk d_X5_digest 50 rfl) 67 (by decide) ?_
      refine Z_wk [true, true, true] [some (vr 5 0), some (vi x1), some (vi (x2 + (1 : Int32)))] rfl ?_
      exact ih (x2 + (1 : Int32)) q10 _ h ke
noncomputable def X5_digest_J62 (N : Nat) (go : Int32 → Wd → Option (Wd)) (x1 : Int32) (s0 : Int32) (w : Wd) : Option (Wd) :=
  (f_X5_mix N s0 w).bind (fun q7 =>
    (X5_digest_L3 N x1 N (0 : Int32) q7).bind (fun q11 =>
      go (x1 + (1 : Int32)) q11))
set_option maxRecDepth 20000 in
set_option maxHeartbeats 4000000 in
theorem z_X5_digest_J62 {x : CX} (hC : Cx x RX5 cX5_digest 3 3) (hr : (xM x).sig.returnType = (some .long)) (N : Nat) (x1 : Int32) (s0 : Int32) {go : Int32 → Wd → Option (Wd)} (hgo : ∀ (x1 : Int32) (w : Wd) (q : (Wd)), go x1 w = some q → Z x 99 [some (vr 5 0), none, none] [] q → Z x 36 [some (vr 5 0), some (vi x1), none] [] w) (w : Wd) (q : (Wd)) (h : X5_digest_J62 N go x1 s0 w = some q) (ke : Z x 99 [some (vr 5 0), none, none] [] q) : Z x 62 [some (vr 5 0), some (vi x1), none] [vi s0, vr 5 0] w := by
  unfold X5_digest_J62 at h
  obtain ⟨q7, hq7, h⟩ := bd_some h
  refine K_X5_263 [vi s0] hC m_5 (s_X5_mix (xG x) (xl x) N s0 w q7 hq7) (Nat.le_of_ble_eq_true rfl) rfl rfl rfl (Nat.le_of_ble_eq_true rfl) (dk d_X5_digest 34 rfl) 65 rfl ?_
  refine Z_iconst (v := 0) hC (dk d_X5_digest 35 rfl) 66 rfl (by decide) ?_
  refine Z_istore_n hC (dk d_X5_digest 36 rfl) 67 rfl rfl (Nat.le_of_ble_eq_true rfl) [some (vr 5 0), some (vi x1), some (vi (0 : Int32))] rfl ?_
  obtain ⟨q11, hq11, h⟩ := bd_some h
  refine Z_wk [true, true, true] [some (vr 5 0), some (vi x1), some (vi (0 : Int32))] rfl ?_
  refine z_X5_digest_L3 hC hr N x1 N (0 : Int32) q7 q11 hq11 ?_
  refine Z_iinc hC (dk d_X5_digest 51 rfl) 96 rfl rfl rfl [some (vr 5 0), some (vi (x1 + (1 : Int32))), none] rfl ?_
  refine Z_goto hC (dk d_X5_digest 52 rfl) 36 (by decide) ?_
  refine Z_wk [true, true, false] [some (vr 5 0), some (vi (x1 + (1 : Int32))), none] rfl ?_
  exact hgo (x1 + (1 : Int32)) q11 _ h ke
noncomputable def X5_digest_L2 (N : Nat) : Nat → Int32 → Wd → Option (Wd)
  | 0, _, _ => none
  | n + 1, x1, w =>
  if (6 : Int32) ≤ x1 then
    some w
  else
    gd (vp_in x1 6) (
    if 0 ≤ (gA w 31 0 x1.toNatClampNeg) then
      gd (vp_in x1 6) (
      X5_digest_J62 N (X5_digest_L2 N n) x1 (gA w 31 0 x1.toNatClampNeg) w)
    else
      X5_digest_J62 N (X5_digest_L2 N n) x1 (-1 : Int32) w)
set_option maxRecDepth 20000 in
set_option maxHeartbeats 4000000 in
theorem z_X5_digest_L2 {x : CX} (hC : Cx x RX5 cX5_digest 3 3) (hr : (xM x).sig.returnType = (some .long)) (N : Nat) : ∀ (n : Nat) (x1 : Int32) (w : Wd) (q : (Wd)), X5_digest_L2 N n x1 w = some q → Z x 99 [some (vr 5 0), none, none] [] q → Z x 36 [some (vr 5 0), some (vi x1), none] [] w := by
  intro n
  induction n with
  | zero =>
    intro x1 w q h
    cases h
  | succ n ih =>
    intro x1 w q h ke
    rw [X5_digest_L2] at h
    refine Z_iload_n hC (dk d_X5_digest 19 rfl) 37 rfl rfl rfl ?_
    refine Z_bipush (v := 6) hC (dk d_X5_digest 20 rfl) 39 rfl (by decide) ?_
    refine Z_icmp_ge hC (dk d_X5_digest 21 rfl) 42 99 rfl (by decide) (fun c => ?_) (fun c => ?_)
    · have h := it_t h c
      obtain rfl := Option.some.inj h
      refine Z_wk [true, false, false] [some (vr 5 0), none, none] rfl ?_
      exact ke
    · have h := it_f h c
      refine Z_aload_n hC (dk d_X5_digest 22 rfl) 43 rfl rfl rfl ?_
      refine Z_aload_n hC (dk d_X5_digest 23 rfl) 44 rfl rfl rfl ?_
      refine G_X5_17 hC m_5 (dk d_X5_digest 24 rfl) 47 rfl ?_
      refine Z_iload_n hC (dk d_X5_digest 25 rfl) 48 rfl rfl rfl ?_
      obtain ⟨g5, h⟩ := gd_some h
      refine Z_iaload hC m_31 (by decide) rfl g5 (dk d_X5_digest 26 rfl) 49 rfl ?_
      refine Z_if_ge hC (dk d_X5_digest 27 rfl) 52 56 rfl (by decide) (fun c => ?_) (fun c => ?_)
      · have h := it_t h c
        refine Z_aload_n hC (dk d_X5_digest 30 rfl) 57 rfl rfl rfl ?_
        refine G_X5_17 hC m_5 (dk d_X5_digest 31 rfl) 60 rfl ?_
        refine Z_iload_n hC (dk d_X5_digest 32 rfl) 61 rfl rfl rfl ?_
        obtain ⟨g6, h⟩ := gd_some h
        refine Z_iaload hC m_31 (by decide) rfl g6 (dk d_X5_digest 33 rfl) 62 rfl ?_
        refine Z_wk [true, true, false] [some (vr 5 0), some (vi x1), none] rfl ?_
        exact z_X5_digest_J62 hC hr N x1 (gA w 31 0 x1.toNatClampNeg) ih w _ h ke
      · have h := it_f h c
        refine Z_iconst (v := -1) hC (dk d_X5_digest 28 rfl) 53 rfl (by decide) ?_
        refine Z_goto hC (dk d_X5_digest 29 rfl) 62 (by decide) ?_
        refine Z_wk [true, true, false] [some (vr 5 0), some (vi x1), none] rfl ?_
        exact z_X5_digest_J62 hC hr N x1 (-1 : Int32) ih w _ h ke
noncomputable def X5_digest_L5 (N : Nat) (x1 : Int32) : Nat → Int32 → Wd → Option (Wd)
  | 0, _, _ => none
  | n + 1, x2, w =>
  gd (vp_in x1 4) (
  if (gA w 34 0 x1.toNatClampNeg) ≤ x2 then
    some w
  else
    gd (vp_in (((60 : Int32) * x1) + x2) 240) (
    (f_X5_mix N (gA w 35 0 (((60 : Int32) * x1) + x2).toNatClampNeg) w).bind (fun q18 =>
      X5_digest_L5 N x1 n (x2 + (1 : Int32)) q18)))
set_option maxRecDepth 20000 in
set_option maxHeartbeats 4000000 in
theorem z_X5_digest_L5 {x : CX} (hC : Cx x RX5 cX5_digest 3 3) (hr : (xM x).sig.returnType = (some .long)) (N : Nat) (x1 : Int32) : ∀ (n : Nat) (x2 : Int32) (w : Wd) (q : (Wd)), X5_digest_L5 N x1 n x2 w = some q → Z x 162 [some (vr 5 0), some (vi x1), none] [] q → Z x 131 [some (vr 5 0), some (vi x1), some (vi x2)] [] w := by
  intro n
  induction n with
  | zero =>
    intro x2 w q h
    cases h
  | succ n ih =>
    intro x2 w q h ke
    rw [X5_digest_L5] at h
    refine Z_iload_n hC (dk d_X5_digest 73 rfl) 132 rfl rfl rfl ?_
    refine Z_aload_n hC (dk d_X5_digest 74 rfl) 133 rfl rfl rfl ?_
    refine G_X5_26 hC m_5 (dk d_X5_digest 75 rfl) 136 rfl ?_
    refine Z_iload_n hC (dk d_X5_digest 76 rfl) 137 rfl rfl rfl ?_
    obtain ⟨g16, h⟩ := gd_some h
    refine Z_iaload hC m_34 (by decide) rfl g16 (dk d_X5_digest 77 rfl) 138 rfl ?_
    refine Z_icmp_ge hC (dk d_X5_digest 78 rfl) 141 162 rfl (by decide) (fun c => ?_) (fun c => ?_)
    · have h := it_t h c
      obtain rfl := Option.some.inj h
      refine Z_wk [true, true, false] [some (vr 5 0), some (vi x1), none] rfl ?_
      exact ke
    · have h := it_f h c
      refine Z_aload_n hC (dk d_X5_digest 79 rfl) 142 rfl rfl rfl ?_
      refine Z_aload_n hC (dk d_X5_digest 80 rfl) 143 rfl rfl rfl ?_
      refine G_X5_29 hC m_5 (dk d_X5_digest 81 rfl) 146 rfl ?_
      refine Z_bipush (v := 60) hC (dk d_X5_digest 82 rfl) 148 rfl (by decide) ?_
      refine Z_iload_n hC (dk d_X5_digest 83 rfl) 149 rfl rfl rfl ?_
      refine Z_imul hC (dk d_X5_digest 84 rfl) 150 rfl ?_
      refine Z_iload_n hC (dk d_X5_digest 85 rfl) 151 rfl rfl rfl ?_
      refine Z_iadd hC (dk d_X5_digest 86 rfl) 152 rfl ?_
      obtain ⟨g17, h⟩ := gd_some h
      refine Z_iaload hC m_35 (by decide) rfl g17 (dk d_X5_digest 87 rfl) 153 rfl ?_
      obtain ⟨q18, hq18, h⟩ := bd_some h
      refine K_X5_263 [vi (gA w 35 0 (((60 : Int32) * x1) + x2).toNatClampNeg)] hC m_5 (s_X5_mix (xG x) (xl x) N (gA w 35 0 (((60 : Int32) * x1) + x2).toNatClampNeg) w q18 hq18) (Nat.le_of_ble_eq_true rfl) rfl rfl rfl (Nat.le_of_ble_eq_true rfl) (dk d_X5_digest 88 rfl) 156 rfl ?_
      refine Z_iinc hC (dk d_X5_digest 89 rfl) 159 rfl rfl rfl [some (vr 5 0), some (vi x1), some (vi (x2 + (1 : Int32)))] rfl ?_
      refine Z_goto hC (dk d_X5_digest 90 rfl) 131 (by decide) ?_
      refine Z_wk [true, true, true] [some (vr 5 0), some (vi x1), some (vi (x2 + (1 : Int32)))] rfl ?_
      exact ih (x2 + (1 : Int32)) q18 _ h ke
noncomputable def X5_digest_J126 (N : Nat) (go : Int32 → Wd → Option (Wd)) (x1 : Int32) (s0 : Int32) (w : Wd) : Option (Wd) :=
  (f_X5_mix N s0 w).bind (fun q15 =>
    (X5_digest_L5 N x1 N (0 : Int32) q15).bind (fun q19 =>
      go (x1 + (1 : Int32)) q19))
set_option maxRecDepth 20000 in
set_option maxHeartbeats 4000000 in
theorem z_X5_digest_J126 {x : CX} (hC : Cx x RX5 cX5_digest 3 3) (hr : (xM x).sig.returnType = (some .long)) (N : Nat) (x1 : Int32) (s0 : Int32) {go : Int32 → Wd → Option (Wd)} (hgo : ∀ (x1 : Int32) (w : Wd) (q : (Wd)), go x1 w = some q → Z x 168 [some (vr 5 0), none, none] [] q → Z x 101 [some (vr 5 0), some (vi x1), none] [] w) (w : Wd) (q : (Wd)) (h : X5_digest_J126 N go x1 s0 w = some q) (ke : Z x 168 [some (vr 5 0), none, none] [] q) : Z x 126 [some (vr 5 0), some (vi x1), none] [vi s0, vr 5 0] w := by
  unfold X5_digest_J126 at h
  obtain ⟨q15, hq15, h⟩ := bd_some h
  refine K_X5_263 [vi s0] hC m_5 (s_X5_mix (xG x) (xl x) N s0 w q15 hq15) (Nat.le_of_ble_eq_true rfl) rfl rfl rfl (Nat.le_of_ble_eq_true rfl) (dk d_X5_digest 70 rfl) 129 rfl ?_
  refine Z_iconst (v := 0) hC (dk d_X5_digest 71 rfl) 130 rfl (by decide) ?_
  refine Z_istore_n hC (dk d_X5_digest 72 rfl) 131 rfl rfl (Nat.le_of_ble_eq_true rfl) [some (vr 5 0), some (vi x1), some (vi (0 : Int32))] rfl ?_
  obtain ⟨q19, hq19, h⟩ := bd_some h
  refine Z_wk [true, true, true] [some (vr 5 0), some (vi x1), some (vi (0 : Int32))] rfl ?_
  refine z_X5_digest_L5 hC hr N x1 N (0 : Int32) q15 q19 hq19 ?_
  refine Z_iinc hC (dk d_X5_digest 91 rfl) 165 rfl rfl rfl [some (vr 5 0), some (vi (x1 + (1 : Int32))), none] rfl ?_
  refine Z_goto hC (dk d_X5_digest 92 rfl) 101 (by decide) ?_
  refine Z_wk [true, true, false] [some (vr 5 0), some (vi (x1 + (1 : Int32))), none] rfl ?_
  exact hgo (x1 + (1 : Int32)) q19 _ h ke
noncomputable def X5_digest_L4 (N : Nat) : Nat → Int32 → Wd → Option (Wd)
  | 0, _, _ => none
  | n + 1, x1, w =>
  if (4 : Int32) ≤ x1 then
    some w
  else
    gd (vp_in x1 4) (
    if 0 ≤ (gA w 34 0 x1.toNatClampNeg) then
      gd (vp_in x1 4) (
      X5_digest_J126 N (X5_digest_L4 N n) x1 (gA w 34 0 x1.toNatClampNeg) w)
    else
      X5_digest_J126 N (X5_digest_L4 N n) x1 (-1 : Int32) w)
set_option maxRecDepth 20000 in
set_option maxHeartbeats 4000000 in
theorem z_X5_digest_L4 {x : CX} (hC : Cx x RX5 cX5_digest 3 3) (hr : (xM x).sig.returnType = (some .long)) (N : Nat) : ∀ (n : Nat) (x1 : Int32) (w : Wd) (q : (Wd)), X5_digest_L4 N n x1 w = some q → Z x 168 [some (vr 5 0), none, none] [] q → Z x 101 [some (vr 5 0), some (vi x1), none] [] w := by
  intro n
  induction n with
  | zero =>
    intro x1 w q h
    cases h
  | succ n ih =>
    intro x1 w q h ke
    rw [X5_digest_L4] at h
    refine Z_iload_n hC (dk d_X5_digest 55 rfl) 102 rfl rfl rfl ?_
    refine Z_iconst (v := 4) hC (dk d_X5_digest 56 rfl) 103 rfl (by decide) ?_
    refine Z_icmp_ge hC (dk d_X5_digest 57 rfl) 106 168 rfl (by decide) (fun c => ?_) (fun c => ?_)
    · have h := it_t h c
      obtain rfl := Option.some.inj h
      refine Z_wk [true, false, false] [some (vr 5 0), none, none] rfl ?_
      exact ke
    · have h := it_f h c
      refine Z_aload_n hC (dk d_X5_digest 58 rfl) 107 rfl rfl rfl ?_
      refine Z_aload_n hC (dk d_X5_digest 59 rfl) 108 rfl rfl rfl ?_
      refine G_X5_26 hC m_5 (dk d_X5_digest 60 rfl) 111 rfl ?_
      refine Z_iload_n hC (dk d_X5_digest 61 rfl) 112 rfl rfl rfl ?_
      obtain ⟨g13, h⟩ := gd_some h
      refine Z_iaload hC m_34 (by decide) rfl g13 (dk d_X5_digest 62 rfl) 113 rfl ?_
      refine Z_if_ge hC (dk d_X5_digest 63 rfl) 116 120 rfl (by decide) (fun c => ?_) (fun c => ?_)
      · have h := it_t h c
        refine Z_aload_n hC (dk d_X5_digest 66 rfl) 121 rfl rfl rfl ?_
        refine G_X5_26 hC m_5 (dk d_X5_digest 67 rfl) 124 rfl ?_
        refine Z_iload_n hC (dk d_X5_digest 68 rfl) 125 rfl rfl rfl ?_
        obtain ⟨g14, h⟩ := gd_some h
        refine Z_iaload hC m_34 (by decide) rfl g14 (dk d_X5_digest 69 rfl) 126 rfl ?_
        refine Z_wk [true, true, false] [some (vr 5 0), some (vi x1), none] rfl ?_
        exact z_X5_digest_J126 hC hr N x1 (gA w 34 0 x1.toNatClampNeg) ih w _ h ke
      · have h := it_f h c
        refine Z_iconst (v := -1) hC (dk d_X5_digest 64 rfl) 117 rfl (by decide) ?_
        refine Z_goto hC (dk d_X5_digest 65 rfl) 126 (by decide) ?_
        refine Z_wk [true, true, false] [some (vr 5 0), some (vi x1), none] rfl ?_
        exact z_X5_digest_J126 hC hr N x1 (-1 : Int32) ih w _ h ke
noncomputable def f_X5_digest (N : Nat) (w : Wd) : Option (Int64 × Wd) :=
  (X5_digest_L1 N N (0 : Int32) (sL w 531 0 (17 : Int64))).bind (fun q3 =>
    (f_X5_mixOffice N q3).bind (fun q4 =>
      (X5_digest_L2 N N (0 : Int32) q4).bind (fun q12 =>
        (X5_digest_L4 N N (0 : Int32) q12).bind (fun q20 =>
          some (gL q20 531 0, q20)))))
set_option maxRecDepth 20000 in
set_option maxHeartbeats 4000000 in
theorem s_X5_digest (G : GT) (l : Launch) (N : Nat) (w : Wd) (q : Int64 × Wd) (h : f_X5_digest N w = some q) : Sp G l yX5_digest cw_X5_digest 3 [vr 5 0] w (some (vl q.1)) q.2 := by
  refine Sp_of (own := RX5) [some (vr 5 0), none, none] (by decide) rfl rfl (Nat.le_of_ble_eq_true rfl) ?_
  intro x hG hl hC hr hQ _ _
  subst hG
  subst hl
  unfold f_X5_digest at h
  refine Z_aload_n hC (dk d_X5_digest 0 rfl) 1 rfl rfl rfl ?_
  refine Z_ldc2 hC kc_X5_266 (dk d_X5_digest 1 rfl) 4 rfl ?_
  refine P_X5_260 hC m_5 (dk d_X5_digest 2 rfl) 7 rfl ?_
  refine Z_iconst (v := 0) hC (dk d_X5_digest 3 rfl) 8 rfl (by decide) ?_
  refine Z_istore_n hC (dk d_X5_digest 4 rfl) 9 rfl rfl (Nat.le_of_ble_eq_true rfl) [some (vr 5 0), some (vi (0 : Int32)), none] rfl ?_
  obtain ⟨q3, hq3, h⟩ := bd_some h
  refine Z_wk [true, true, false] [some (vr 5 0), some (vi (0 : Int32)), none] rfl ?_
  refine z_X5_digest_L1 hC hr N N (0 : Int32) (sL w 531 0 (17 : Int64)) q3 hq3 ?_
  refine Z_aload_n hC (dk d_X5_digest 15 rfl) 31 rfl rfl rfl ?_
  obtain ⟨q4, hq4, h⟩ := bd_some h
  refine K_X5_268 [] hC m_5 (s_X5_mixOffice (xG x) (xl x) N q3 q4 hq4) (Nat.le_of_ble_eq_true rfl) rfl rfl rfl (Nat.le_of_ble_eq_true rfl) (dk d_X5_digest 16 rfl) 34 rfl ?_
  refine Z_iconst (v := 0) hC (dk d_X5_digest 17 rfl) 35 rfl (by decide) ?_
  refine Z_istore_n hC (dk d_X5_digest 18 rfl) 36 rfl rfl (Nat.le_of_ble_eq_true rfl) [some (vr 5 0), some (vi (0 : Int32)), none] rfl ?_
  obtain ⟨q12, hq12, h⟩ := bd_some h
  refine Z_wk [true, true, false] [some (vr 5 0), some (vi (0 : Int32)), none] rfl ?_
  refine z_X5_digest_L2 hC hr N N (0 : Int32) q4 q12 hq12 ?_
  refine Z_iconst (v := 0) hC (dk d_X5_digest 53 rfl) 100 rfl (by decide) ?_
  refine Z_istore_n hC (dk d_X5_digest 54 rfl) 101 rfl rfl (Nat.le_of_ble_eq_true rfl) [some (vr 5 0), some (vi (0 : Int32)), none] rfl ?_
  obtain ⟨q20, hq20, h⟩ := bd_some h
  refine Z_wk [true, true, false] [some (vr 5 0), some (vi (0 : Int32)), none] rfl ?_
  refine z_X5_digest_L4 hC hr N N (0 : Int32) q12 q20 hq20 ?_
  refine Z_aload_n hC (dk d_X5_digest 93 rfl) 169 rfl rfl rfl ?_
  refine G_X5_260 hC m_5 (dk d_X5_digest 94 rfl) 172 rfl ?_
  obtain rfl := Option.some.inj h
  exact Z_lreturn (st := []) hC hr hQ (dk d_X5_digest 95 rfl)
