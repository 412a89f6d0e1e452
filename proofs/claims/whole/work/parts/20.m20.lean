def t_X5_alike : List (Nat × Instr × Nat) := [(0, .aload_n 0, 1), (1, .iload_n 1, 1), (2, .invokevirtual 137, 3), (5, .ifCond .eq 11, 3), (8, .aload_n 0, 1), (9, .iload_n 2, 1), (10, .invokevirtual 137, 3), (13, .ifCond .ne 5, 3), (16, .iconst (-1), 1), (17, .ireturn, 1), (18, .aload_n 0, 1), (19, .invokevirtual 185, 3), (22, .iconst 0, 1), (23, .istore_n 3, 1), (24, .iconst 0, 1), (25, .istore 4, 2), (27, .iconst 0, 1), (28, .istore 5, 2), (30, .iload 5, 2), (32, .aload_n 0, 1), (33, .getfield 175, 3), (36, .if_icmp .ge 60, 3), (39, .aload_n 0, 1), (40, .iload 5, 2), (42, .aload_n 0, 1), (43, .getfield 128, 3), (46, .invokevirtual 212, 3), (49, .istore 6, 2), (51, .iload_n 3, 1), (52, .iload 6, 2), (54, .ifCond .eq 7, 3), (57, .iconst 1, 1), (58, .goto 4, 3), (61, .iconst 0, 1), (62, .iadd, 1), (63, .istore_n 3, 1), (64, .iload 4, 2), (66, .iload 6, 2), (68, .ifCond .eq 18, 3), (71, .aload_n 0, 1), (72, .iload 5, 2), (74, .iload_n 1, 1), (75, .invokevirtual 191, 3), (78, .iload_n 2, 1), (79, .if_icmp .ne 7, 3), (82, .iconst 1, 1), (83, .goto 4, 3), (86, .iconst 0, 1), (87, .iadd, 1), (88, .istore 4, 2), (90, .iinc 5 1, 3), (93, .goto (-63), 3), (96, .iload_n 3, 1), (97, .ifCond .ne 11, 3), (100, .aload_n 0, 1), (101, .iconst 4, 1), (102, .invokevirtual 80, 3), (105, .goto 13, 3), (108, .aload_n 0, 1), (109, .iload 4, 2), (111, .i2l, 1), (112, .iload_n 3, 1), (113, .i2l, 1), (114, .iconst 1, 1), (115, .invokevirtual 227, 3), (118, .ireturn, 1)]
set_option maxRecDepth 20000 in
theorem d_X5_alike : ∀ q ∈ t_X5_alike, decode cX5_alike q.1 = .ok q.2 := by decide +kernel
noncomputable def X5_alike_J62 (N : Nat) (go : Int32 → Int32 → Int32 → Wd → Option (Int32 × Int32 × Wd)) (x1 : Int32) (x2 : Int32) (x4 : Int32) (x5 : Int32) (x6 : Int32) (s0 : Int32) (s1 : Int32) (w : Wd) : Option (Int32 × Int32 × Wd) :=
  if x6 = 0 then
    go (s0 + s1) (x4 + (0 : Int32)) (x5 + (1 : Int32)) w
  else
    (f_X5_right N x5 x1 w).bind (fun q5 =>
      if q5.1 = x2 then
        go (s0 + s1) (x4 + (1 : Int32)) (x5 + (1 : Int32)) q5.2
      else
        go (s0 + s1) (x4 + (0 : Int32)) (x5 + (1 : Int32)) q5.2)
set_option maxRecDepth 20000 in
set_option maxHeartbeats 4000000 in
theorem z_X5_alike_J62 {x : CX} (hC : Cx x RX5 cX5_alike 7 13) (hr : (xM x).sig.returnType = (some .int)) (N : Nat) (x1 : Int32) (x2 : Int32) (x4 : Int32) (x5 : Int32) (x6 : Int32) (s0 : Int32) (s1 : Int32) {go : Int32 → Int32 → Int32 → Wd → Option (Int32 × Int32 × Wd)} (hgo : ∀ (x3 : Int32) (x4 : Int32) (x5 : Int32) (w : Wd) (q : (Int32 × Int32 × Wd)), go x3 x4 x5 w = some q → Z x 96 [some (vr 5 0), none, none, some (vi q.1), some (vi q.2.1), none, none] [] q.2.2 → Z x 30 [some (vr 5 0), some (vi x1), some (vi x2), some (vi x3), some (vi x4), some (vi x5), none] [] w) (w : Wd) (q : (Int32 × Int32 × Wd)) (h : X5_alike_J62 N go x1 x2 x4 x5 x6 s0 s1 w = some q) (ke : Z x 96 [some (vr 5 0), none, none, some (vi q.1), some (vi q.2.1), none, none] [] q.2.2) : Z x 62 [some (vr 5 0), some (vi x1), some (vi x2), none, some (vi x4), some (vi x5), some (vi x6)] [vi s1, vi s0] w := by
  unfold X5_alike_J62 at h
  refine Z_iadd hC (dk d_X5_alike 34 rfl) 63 rfl ?_
  refine Z_istore_n hC (dk d_X5_alike 35 rfl) 64 rfl rfl (Nat.le_of_ble_eq_true rfl) [some (vr 5 0), some (vi x1), some (vi x2), some (vi (s0 + s1)), some (vi x4), some (vi x5), some (vi x6)] rfl ?_
  refine Z_iload hC (dk d_X5_alike 36 rfl) 66 rfl rfl ?_
  refine Z_iload hC (dk d_X5_alike 37 rfl) 68 rfl rfl ?_
  refine Z_if_eq hC (dk d_X5_alike 38 rfl) 71 86 rfl (by decide) (fun c => ?_) (fun c => ?_)
  · have h := it_t h c
    refine Z_iconst (v := 0) hC (dk d_X5_alike 47 rfl) 87 rfl (by decide) ?_
    refine Z_iadd hC (dk d_X5_alike 48 rfl) 88 rfl ?_
    refine Z_istore hC (dk d_X5_alike 49 rfl) 90 rfl (Nat.le_of_ble_eq_true rfl) [some (vr 5 0), some (vi x1), some (vi x2), some (vi (s0 + s1)), some (vi (x4 + (0 : Int32))), some (vi x5), some (vi x6)] rfl ?_
    refine Z_iinc hC (dk d_X5_alike 50 rfl) 93 rfl rfl rfl [some (vr 5 0), some (vi x1), some (vi x2), some (vi (s0 + s1)), some (vi (x4 + (0 : Int32))), some (vi (x5 + (1 : Int32))), some (vi x6)] rfl ?_
    refine Z_goto hC (dk d_X5_alike 51 rfl) 30 (by decide) ?_
    refine Z_wk [true, true, true, true, true, true, false] [some (vr 5 0), some (vi x1), some (vi x2), some (vi (s0 + s1)), some (vi (x4 + (0 : Int32))), some (vi (x5 + (1 : Int32))), none] rfl ?_
    exact hgo (s0 + s1) (x4 + (0 : Int32)) (x5 + (1 : Int32)) w _ h ke
  · have h := it_f h c
    refine Z_aload_n hC (dk d_X5_alike 39 rfl) 72 rfl rfl rfl ?_
    refine Z_iload hC (dk d_X5_alike 40 rfl) 74 rfl rfl ?_
    refine Z_iload_n hC (dk d_X5_alike 41 rfl) 75 rfl rfl rfl ?_
    obtain ⟨q5, hq5, h⟩ := bd_some h
    refine K_X5_191 [vi x5, vi x1] hC m_5 (s_X5_right (xG x) (xl x) N x5 x1 w q5 hq5) (Nat.le_of_ble_eq_true rfl) rfl rfl rfl (Nat.le_of_ble_eq_true rfl) (dk d_X5_alike 42 rfl) 78 rfl ?_
    refine Z_iload_n hC (dk d_X5_alike 43 rfl) 79 rfl rfl rfl ?_
    refine Z_icmp_ne hC (dk d_X5_alike 44 rfl) 82 86 rfl (by decide) (fun c => ?_) (fun c => ?_)
    · have h := it_f h c
      refine Z_iconst (v := 0) hC (dk d_X5_alike 47 rfl) 87 rfl (by decide) ?_
      refine Z_iadd hC (dk d_X5_alike 48 rfl) 88 rfl ?_
      refine Z_istore hC (dk d_X5_alike 49 rfl) 90 rfl (Nat.le_of_ble_eq_true rfl) [some (vr 5 0), some (vi x1), some (vi x2), some (vi (s0 + s1)), some (vi (x4 + (0 : Int32))), some (vi x5), some (vi x6)] rfl ?_
      refine Z_iinc hC (dk d_X5_alike 50 rfl) 93 rfl rfl rfl [some (vr 5 0), some (vi x1), some (vi x2), some (vi (s0 + s1)), some (vi (x4 + (0 : Int32))), some (vi (x5 + (1 : Int32))), some (vi x6)] rfl ?_
      refine Z_goto hC (dk d_X5_alike 51 rfl) 30 (by decide) ?_
      refine Z_wk [true, true, true, true, true, true, false] [some (vr 5 0), some (vi x1), some (vi x2), some (vi (s0 + s1)), some (vi (x4 + (0 : Int32))), some (vi (x5 + (1 : Int32))), none] rfl ?_
      exact hgo (s0 + s1) (x4 + (0 : Int32)) (x5 + (1 : Int32)) q5.2 _ h ke
    · have h := it_t h c
      refine Z_iconst (v := 1) hC (dk d_X5_alike 45 rfl) 83 rfl (by decide) ?_
      refine Z_goto hC (dk d_X5_alike 46 rfl) 87 (by decide) ?_
      refine Z_iadd hC (dk d_X5_alike 48 rfl) 88 rfl ?_
      refine Z_istore hC (dk d_X5_alike 49 rfl) 90 rfl (Nat.le_of_ble_eq_true rfl) [some (vr 5 0), some (vi x1), some (vi x2), some (vi (s0 + s1)), some (vi (x4 + (1 : Int32))), some (vi x5), some (vi x6)] rfl ?_
      refine Z_iinc hC (dk d_X5_alike 50 rfl) 93 rfl rfl rfl [some (vr 5 0), some (vi x1), some (vi x2), some (vi (s0 + s1)), some (vi (x4 + (1 : Int32))), some (vi (x5 + (1 : Int32))), some (vi x6)] rfl ?_
      refine Z_goto hC (dk d_X5_alike 51 rfl) 30 (by decide) ?_
      refine Z_wk [true, true, true, true, true, true, false] [some (vr 5 0), some (vi x1), some (vi x2), some (vi (s0 + s1)), some (vi (x4 + (1 : Int32))), some (vi (x5 + (1 : Int32))), none] rfl ?_
      exact hgo (s0 + s1) (x4 + (1 : Int32)) (x5 + (1 : Int32)) q5.2 _ h ke
noncomputable def X5_alike_L1 (N : Nat) (x1 : Int32) (x2 : Int32) : Nat → Int32 → Int32 → Int32 → Wd → Option (Int32 × Int32 × Wd)
  | 0, _, _, _, _ => none
  | n + 1, x3, x4, x5, w =>
  if (gI w 522 0) ≤ x5 then
    some (x3, x4, w)
  else
    (f_X5_begins N x5 (gI w 524 0) w).bind (fun q4 =>
      if q4.1 = 0 then
        X5_alike_J62 N (X5_alike_L1 N x1 x2 n) x1 x2 x4 x5 q4.1 x3 (0 : Int32) q4.2
      else
        X5_alike_J62 N (X5_alike_L1 N x1 x2 n) x1 x2 x4 x5 q4.1 x3 (1 : Int32) q4.2)
set_option maxRecDepth 20000 in
set_option maxHeartbeats 4000000 in
theorem z_X5_alike_L1 {x : CX} (hC : Cx x RX5 cX5_alike 7 13) (hr : (xM x).sig.returnType = (some .int)) (N : Nat) (x1 : Int32) (x2 : Int32) : ∀ (n : Nat) (x3 : Int32) (x4 : Int32) (x5 : Int32) (w : Wd) (q : (Int32 × Int32 × Wd)), X5_alike_L1 N x1 x2 n x3 x4 x5 w = some q → Z x 96 [some (vr 5 0), none, none, some (vi q.1), some (vi q.2.1), none, none] [] q.2.2 → Z x 30 [some (vr 5 0), some (vi x1), some (vi x2), some (vi x3), some (vi x4), some (vi x5), none] [] w := by
  intro n
  induction n with
  | zero =>
    intro x3 x4 x5 w q h
    cases h
  | succ n ih =>
    intro x3 x4 x5 w q h ke
    rw [X5_alike_L1] at h
    refine Z_iload hC (dk d_X5_alike 18 rfl) 32 rfl rfl ?_
    refine Z_aload_n hC (dk d_X5_alike 19 rfl) 33 rfl rfl rfl ?_
    refine G_X5_175 hC m_5 (dk d_X5_alike 20 rfl) 36 rfl ?_
    refine Z_icmp_ge hC (dk d_X5_alike 21 rfl) 39 96 rfl (by decide) (fun c => ?_) (fun c => ?_)
    · have h := it_t h c
      obtain rfl := Option.some.inj h
      refine Z_wk [true, false, false, true, true, false, false] [some (vr 5 0), none, none, some (vi x3), some (vi x4), none, none] rfl ?_
      exact ke
    · have h := it_f h c
      refine Z_aload_n hC (dk d_X5_alike 22 rfl) 40 rfl rfl rfl ?_
      refine Z_iload hC (dk d_X5_alike 23 rfl) 42 rfl rfl ?_
      refine Z_aload_n hC (dk d_X5_alike 24 rfl) 43 rfl rfl rfl ?_
      refine G_X5_128 hC m_5 (dk d_X5_alike 25 rfl) 46 rfl ?_
      obtain ⟨q4, hq4, h⟩ := bd_some h
      refine K_X5_212 [vi x5, vi (gI w 524 0)] hC m_5 (s_X5_begins (xG x) (xl x) N x5 (gI w 524 0) w q4 hq4) (Nat.le_of_ble_eq_true rfl) rfl rfl rfl (Nat.le_of_ble_eq_true rfl) (dk d_X5_alike 26 rfl) 49 rfl ?_
      refine Z_istore hC (dk d_X5_alike 27 rfl) 51 rfl (Nat.le_of_ble_eq_true rfl) [some (vr 5 0), some (vi x1), some (vi x2), some (vi x3), some (vi x4), some (vi x5), some (vi q4.1)] rfl ?_
      refine Z_iload_n hC (dk d_X5_alike 28 rfl) 52 rfl rfl rfl ?_
      refine Z_iload hC (dk d_X5_alike 29 rfl) 54 rfl rfl ?_
      refine Z_if_eq hC (dk d_X5_alike 30 rfl) 57 61 rfl (by decide) (fun c => ?_) (fun c => ?_)
      · have h := it_t h c
        refine Z_iconst (v := 0) hC (dk d_X5_alike 33 rfl) 62 rfl (by decide) ?_
        refine Z_wk [true, true, true, false, true, true, true] [some (vr 5 0), some (vi x1), some (vi x2), none, some (vi x4), some (vi x5), some (vi q4.1)] rfl ?_
        exact z_X5_alike_J62 hC hr N x1 x2 x4 x5 q4.1 x3 (0 : Int32) ih q4.2 _ h ke
      · have h := it_f h c
        refine Z_iconst (v := 1) hC (dk d_X5_alike 31 rfl) 58 rfl (by decide) ?_
        refine Z_goto hC (dk d_X5_alike 32 rfl) 62 (by decide) ?_
        refine Z_wk [true, true, true, false, true, true, true] [some (vr 5 0), some (vi x1), some (vi x2), none, some (vi x4), some (vi x5), some (vi q4.1)] rfl ?_
        exact z_X5_alike_J62 hC hr N x1 x2 x4 x5 q4.1 x3 (1 : Int32) ih q4.2 _ h ke
noncomputable def f_X5_alike (N : Nat) (a1 : Int32) (a2 : Int32) (w : Wd) : Option (Int32 × Wd) :=
  (f_X5_isMate N a1 w).bind (fun q1 =>
    if q1.1 = 0 then
      some ((-1 : Int32), q1.2)
    else
      (f_X5_isMate N a2 q1.2).bind (fun q2 =>
        if q2.1 = 0 then
          some ((-1 : Int32), q2.2)
        else
          (f_X5_setRights N q2.2).bind (fun q3 =>
            (X5_alike_L1 N a1 a2 N (0 : Int32) (0 : Int32) (0 : Int32) q3).bind (fun q6 =>
              if q6.1 = 0 then
                (f_X5_meet N (4 : Int32) q6.2.2).bind (fun q8 =>
                  some (q8.1, q8.2))
              else
                (f_X5_part N q6.2.1.toInt64 q6.1.toInt64 (1 : Int32) q6.2.2).bind (fun q7 =>
                  some (q7.1, q7.2))))))
set_option maxRecDepth 20000 in
set_option maxHeartbeats 4000000 in
theorem s_X5_alike (G : GT) (l : Launch) (N : Nat) (a1 : Int32) (a2 : Int32) (w : Wd) (q : Int32 × Wd) (h : f_X5_alike N a1 a2 w = some q) : Sp G l yX5_alike cw_X5_alike 13 [vr 5 0, vi a1, vi a2] w (some (vi q.1)) q.2 := by
  refine Sp_of (own := RX5) [some (vr 5 0), some (vi a1), some (vi a2), none, none, none, none] (by decide) rfl rfl (Nat.le_of_ble_eq_true rfl) ?_
  intro x hG hl hC hr hQ _ _
  subst hG
  subst hl
  unfold f_X5_alike at h
  refine Z_aload_n hC (dk d_X5_alike 0 rfl) 1 rfl rfl rfl ?_
  refine Z_iload_n hC (dk d_X5_alike 1 rfl) 2 rfl rfl rfl ?_
  obtain ⟨q1, hq1, h⟩ := bd_some h
  refine K_X5_137 [vi a1] hC m_5 (s_X5_isMate (xG x) (xl x) N a1 w q1 hq1) (Nat.le_of_ble_eq_true rfl) rfl rfl rfl (Nat.le_of_ble_eq_true rfl) (dk d_X5_alike 2 rfl) 5 rfl ?_
  refine Z_if_eq hC (dk d_X5_alike 3 rfl) 8 16 rfl (by decide) (fun c => ?_) (fun c => ?_)
  · have h := it_t h c
    refine Z_iconst (v := -1) hC (dk d_X5_alike 8 rfl) 17 rfl (by decide) ?_
    obtain rfl := Option.some.inj h
    exact Z_ireturn (st := []) hC hr hQ (dk d_X5_alike 9 rfl)
  · have h := it_f h c
    refine Z_aload_n hC (dk d_X5_alike 4 rfl) 9 rfl rfl rfl ?_
    refine Z_iload_n hC (dk d_X5_alike 5 rfl) 10 rfl rfl rfl ?_
    obtain ⟨q2, hq2, h⟩ := bd_some h
    refine K_X5_137 [vi a2] hC m_5 (s_X5_isMate (xG x) (xl x) N a2 q1.2 q2 hq2) (Nat.le_of_ble_eq_true rfl) rfl rfl rfl (Nat.le_of_ble_eq_true rfl) (dk d_X5_alike 6 rfl) 13 rfl ?_
    refine Z_if_ne hC (dk d_X5_alike 7 rfl) 16 18 rfl (by decide) (fun c => ?_) (fun c => ?_)
    · have h := it_f h c
      refine Z_aload_n hC (dk d_X5_alike 10 rfl) 19 rfl rfl rfl ?_
      obtain ⟨q3, hq3, h⟩ := bd_some h
      refine K_X5_185 [] hC m_5 (s_X5_setRights (xG x) (xl x) N q2.2 q3 hq3) (Nat.le_of_ble_eq_true rfl) rfl rfl rfl (Nat.le_of_ble_eq_true rfl) (dk d_X5_alike 11 rfl) 22 rfl ?_
      refine Z_iconst (v := 0) hC (dk d_X5_alike 12 rfl) 23 rfl (by decide) ?_
      refine Z_istore_n hC (dk d_X5_alike 13 rfl) 24 rfl rfl (Nat.le_of_ble_eq_true rfl) [some (vr 5 0), some (vi a1), some (vi a2), some (vi (0 : Int32)), none, none, none] rfl ?_
      refine Z_iconst (v := 0) hC (dk d_X5_alike 14 rfl) 25 rfl (by decide) ?_
      refine Z_istore hC (dk d_X5_alike 15 rfl) 27 rfl (Nat.le_of_ble_eq_true rfl) [some (vr 5 0), some (vi a1), some (vi a2), some (vi (0 : Int32)), some (vi (0 : Int32)), none, none] rfl ?_
      refine Z_iconst (v := 0) hC (dk d_X5_alike 16 rfl) 28 rfl (by decide) ?_
      refine Z_istore hC (dk d_X5_alike 17 rfl) 30 rfl (Nat.le_of_ble_eq_true rfl) [some (vr 5 0), some (vi a1), some (vi a2), some (vi (0 : Int32)), some (vi (0 : Int32)), some (vi (0 : Int32)), none] rfl ?_
      obtain ⟨q6, hq6, h⟩ := bd_some h
      refine Z_wk [true, true, true, true, true, true, false] [some (vr 5 0), some (vi a1), some (vi a2), some (vi (0 : Int32)), some (vi (0 : Int32)), some (vi (0 : Int32)), none] rfl ?_
      refine z_X5_alike_L1 hC hr N a1 a2 N (0 : Int32) (0 : Int32) (0 : Int32) q3 q6 hq6 ?_
      refine Z_iload_n hC (dk d_X5_alike 52 rfl) 97 rfl rfl rfl ?_
      refine Z_if_ne hC (dk d_X5_alike 53 rfl) 100 108 rfl (by decide) (fun c => ?_) (fun c => ?_)
      · have h := it_f h c
        refine Z_aload_n hC (dk d_X5_alike 58 rfl) 109 rfl rfl rfl ?_
        refine Z_iload hC (dk d_X5_alike 59 rfl) 111 rfl rfl ?_
        refine Z_i2l hC (dk d_X5_alike 60 rfl) 112 rfl ?_
        refine Z_iload_n hC (dk d_X5_alike 61 rfl) 113 rfl rfl rfl ?_
        refine Z_i2l hC (dk d_X5_alike 62 rfl) 114 rfl ?_
        refine Z_iconst (v := 1) hC (dk d_X5_alike 63 rfl) 115 rfl (by decide) ?_
        obtain ⟨q7, hq7, h⟩ := bd_some h
        refine K_X5_227 [vl q6.2.1.toInt64, vl q6.1.toInt64, vi (1 : Int32)] hC m_5 (s_X5_part (xG x) (xl x) N q6.2.1.toInt64 q6.1.toInt64 (1 : Int32) q6.2.2 q7 hq7) (Nat.le_of_ble_eq_true rfl) rfl rfl rfl (Nat.le_of_ble_eq_true rfl) (dk d_X5_alike 64 rfl) 118 rfl ?_
        obtain rfl := Option.some.inj h
        exact Z_ireturn (st := []) hC hr hQ (dk d_X5_alike 65 rfl)
      · have h := it_t h c
        refine Z_aload_n hC (dk d_X5_alike 54 rfl) 101 rfl rfl rfl ?_
        refine Z_iconst (v := 4) hC (dk d_X5_alike 55 rfl) 102 rfl (by decide) ?_
        obtain ⟨q8, hq8, h⟩ := bd_some h
        refine K_X5_80 [vi (4 : Int32)] hC m_5 (s_X5_meet (xG x) (xl x) N (4 : Int32) q6.2.2 q8 hq8) (Nat.le_of_ble_eq_true rfl) rfl rfl rfl (Nat.le_of_ble_eq_true rfl) (dk d_X5_alike 56 rfl) 105 rfl ?_
        refine Z_goto hC (dk d_X5_alike 57 rfl) 118 (by decide) ?_
        obtain rfl := Option.some.inj h
        exact Z_ireturn (st := []) hC hr hQ (dk d_X5_alike 65 rfl)
    · have h := it_t h c
      refine Z_iconst (v := -1) hC (dk d_X5_alike 8 rfl) 17 rfl (by decide) ?_
      obtain rfl := Option.some.inj h
      exact Z_ireturn (st := []) hC hr hQ (dk d_X5_alike 9 rfl)
def t_X5_play : List (Nat × Instr × Nat) := [(0, .iload_n 1, 1), (1, .invokestatic 202, 3), (4, .ifCond .ne 5, 3), (7, .iconst (-1), 1), (8, .ireturn, 1), (9, .aload_n 0, 1), (10, .invokevirtual 185, 3), (13, .iload_n 1, 1), (14, .i2l, 1), (15, .lstore_n 2, 1), (16, .aload_n 0, 1), (17, .aload_n 0, 1), (18, .getfield 128, 3), (21, .invokevirtual 215, 3), (24, .istore 4, 2), (26, .iload 4, 2), (28, .ifCond .eq 102, 3), (31, .ldc2_w 205, 3), (34, .lload_n 2, 1), (35, .lmul, 1), (36, .ldc2_w 207, 3), (39, .lrem, 1), (40, .lstore_n 2, 1), (41, .lload_n 2, 1), (42, .iload 4, 2), (44, .invokestatic 156, 3), (47, .i2l, 1), (48, .lrem, 1), (49, .l2i, 1), (50, .istore 5, 2), (52, .iconst 0, 1), (53, .istore 6, 2), (55, .iload 4, 2), (57, .iload 6, 2), (59, .invokestatic 147, 3), (62, .ifCond .eq 8, 3), (65, .iload 5, 2), (67, .ifCond .le 29, 3), (70, .iload 5, 2), (72, .iload 4, 2), (74, .iload 6, 2), (76, .invokestatic 147, 3), (79, .ifCond .eq 7, 3), (82, .iconst 1, 1), (83, .goto 4, 3), (86, .iconst 0, 1), (87, .isub, 1), (88, .istore 5, 2), (90, .iinc 6 1, 3), (93, .goto (-38), 3), (96, .aload_n 0, 1), (97, .getfield 54, 3), (100, .aload_n 0, 1), (101, .getfield 128, 3), (104, .iload 6, 2), (106, .iastore, 1), (107, .aload_n 0, 1), (108, .dup, 1), (109, .getfield 128, 3), (112, .iconst 1, 1), (113, .iadd, 1), (114, .putfield 128, 3), (117, .aload_n 0, 1), (118, .aload_n 0, 1), (119, .getfield 128, 3), (122, .invokevirtual 215, 3), (125, .istore 4, 2), (127, .goto (-101), 3), (130, .aload_n 0, 1), (131, .getfield 128, 3), (134, .ireturn, 1)]
set_option maxRecDepth 20000 in
theorem d_X5_play : ∀ q ∈ t_X5_play, decode cX5_play q.1 = .ok q.2 := by decide +kernel
noncomputable def X5_play_J70 (N : Nat) (go : Int32 → Int32 → Wd → Option (Int32 × Wd)) (x2 : Int64) (x4 : Int32) (x5 : Int32) (x6 : Int32) (w : Wd) : Option (Int32 × Wd) :=
  (f_X5_has N x4 x6 w).bind (fun q8 =>
    if q8.1 = 0 then
      go (x5 - (0 : Int32)) (x6 + (1 : Int32)) q8.2
    else
      go (x5 - (1 : Int32)) (x6 + (1 : Int32)) q8.2)
set_option maxRecDepth 20000 in
set_option maxHeartbeats 4000000 in
theorem z_X5_play_J70 {x : CX} (hC : Cx x RX5 cX5_play 7 13) (hr : (xM x).sig.returnType = (some .int)) (N : Nat) (x2 : Int64) (x4 : Int32) (x5 : Int32) (x6 : Int32) {go : Int32 → Int32 → Wd → Option (Int32 × Wd)} (hgo : ∀ (x5 : Int32) (x6 : Int32) (w : Wd) (q : (Int32 × Wd)), go x5 x6 w = some q → Z x 96 [some (vr 5 0), none, some (vl x2), none, none, none, some (vi q.1)] [] q.2 → Z x 55 [some (vr 5 0), none, some (vl x2), none, some (vi x4), some (vi x5), some (vi x6)] [] w) (w : Wd) (q : (Int32 × Wd)) (h : X5_play_J70 N go x2 x4 x5 x6 w = some q) (ke : Z x 96 [some (vr 5 0), none, some (vl x2), none, none, none, some (vi q.1)] [] q.2) : Z x 70 [some (vr 5 0), none, some (vl x2), none, some (vi x4), some (vi x5), some (vi x6)] [] w := by
  unfold X5_play_J70 at h
  refine Z_iload hC (dk d_X5_play 38 rfl) 72 rfl rfl ?_
  refine Z_iload hC (dk d_X5_play 39 rfl) 74 rfl rfl ?_
  refine Z_iload hC (dk d_X5_play 40 rfl) 76 rfl rfl ?_
  obtain ⟨q8, hq8, h⟩ := bd_some h
  refine K_X5_147 [vi x4, vi x6] hC (s_X5_has (xG x) (xl x) N x4 x6 w q8 hq8) (Nat.le_of_ble_eq_true rfl) rfl rfl rfl (Nat.le_of_ble_eq_true rfl) (dk d_X5_play 41 rfl) 79 rfl ?_
  refine Z_if_eq hC (dk d_X5_play 42 rfl) 82 86 rfl (by decide) (fun c => ?_) (fun c => ?_)
  · have h := it_t h c
    refine Z_iconst (v := 0) hC (dk d_X5_play 45 rfl) 87 rfl (by decide) ?_
    refine Z_isub hC (dk d_X5_play 46 rfl) 88 rfl ?_
    refine Z_istore hC (dk d_X5_play 47 rfl) 90 rfl (Nat.le_of_ble_eq_true rfl) [some (vr 5 0), none, some (vl x2), none, some (vi x4), some (vi (x5 - (0 : Int32))), some (vi x6)] rfl ?_
    refine Z_iinc hC (dk d_X5_play 48 rfl) 93 rfl rfl rfl [some (vr 5 0), none, some (vl x2), none, some (vi x4), some (vi (x5 - (0 : Int32))), some (vi (x6 + (1 : Int32)))] rfl ?_
    refine Z_goto hC (dk d_X5_play 49 rfl) 55 (by decide) ?_
    refine Z_wk [true, false, true, false, true, true, true] [some (vr 5 0), none, some (vl x2), none, some (vi x4), some (vi (x5 - (0 : Int32))), some (vi (x6 + (1 : Int32)))] rfl ?_
    exact hgo (x5 - (0 : Int32)) (x6 + (1 : Int32)) q8.2 _ h ke
  · have h := it_f h c
    refine Z_iconst (v := 1) hC (dk d_X5_play 43 rfl) 83 rfl (by decide) ?_
    refine Z_goto hC (dk d_X5_play 44 rfl) 87 (by decide) ?_
    refine Z_isub hC (dk d_X5_play 46 rfl) 88 rfl ?_
    refine Z_istore hC (dk d_X5_play 47 rfl) 90 rfl (Nat.le_of_ble_eq_true rfl) [some (vr 5 0), none, some (vl x2), none, some (vi x4), some (vi (x5 - (1 : Int32))), some (vi x6)] rfl ?_
    refine Z_iinc hC (dk d_X5_play 48 rfl) 93 rfl rfl rfl [some (vr 5 0), none, some (vl x2), none, some (vi x4), some (vi (x5 - (1 : Int32))), some (vi (x6 + (1 : Int32)))] rfl ?_
    refine Z_goto hC (dk d_X5_play 49 rfl) 55 (by decide) ?_
    refine Z_wk [true, false, true, false, true, true, true] [some (vr 5 0), none, some (vl x2), none, some (vi x4), some (vi (x5 - (1 : Int32))), some (vi (x6 + (1 : Int32)))] rfl ?_
    exact hgo (x5 - (1 : Int32)) (x6 + (1 : Int32)) q8.2 _ h ke
noncomputable def X5_play_L2 (N : Nat) (x2 : Int64) (x4 : Int32) : Nat → Int32 → Int32 → Wd → Option (Int32 × Wd)
  | 0, _, _, _ => none
  | n + 1, x5, x6, w =>
  (f_X5_has N x4 x6 w).bind (fun q7 =>
    if q7.1 = 0 then
      X5_play_J70 N (X5_play_L2 N x2 x4 n) x2 x4 x5 x6 q7.2
    else
      if x5 ≤ 0 then
        some (x6, q7.2)
      else
        X5_play_J70 N (X5_play_L2 N x2 x4 n) x2 x4 x5 x6 q7.2)
set_option maxRecDepth 20000 in
set_option maxHeartbeats 4000000 in
theorem z_X5_play_L2 {x : CX} (hC : Cx x RX5 cX5_play 7 13) (hr : (xM x).sig.returnType = (some .int)) (N : Nat) (x2 : Int64) (x4 : Int32) : ∀ (n : Nat) (x5 : Int32) (x6 : Int32) (w : Wd) (q : (Int32 × Wd)), X5_play_L2 N x2 x4 n x5 x6 w = some q → Z x 96 [some (vr 5 0), none, some (vl x2), none, none, none, some (vi q.1)] [] q.2 → Z x 55 [some (vr 5 0), none, some (vl x2), none, some (vi x4), some (vi x5), some (vi x6)] [] w := by
  intro n
  induction n with
  | zero =>
    intro x5 x6 w q h
    cases h
  | succ n ih =>
    intro x5 x6 w q h ke
    rw [X5_play_L2] at h
    refine Z_iload hC (dk d_X5_play 32 rfl) 57 rfl rfl ?_
    refine Z_iload hC (dk d_X5_play 33 rfl) 59 rfl rfl ?_
    obtain ⟨q7, hq7, h⟩ := bd_some h
    refine K_X5_147 [vi x4, vi x6] hC (s_X5_has (xG x) (xl x) N x4 x6 w q7 hq7) (Nat.le_of_ble_eq_true rfl) rfl rfl rfl (Nat.le_of_ble_eq_true rfl) (dk d_X5_play 34 rfl) 62 rfl ?_
    refine Z_if_eq hC (dk d_X5_play 35 rfl) 65 70 rfl (by decide) (fun c => ?_) (fun c => ?_)
    · have h := it_t h c
      refine Z_wk [true, false, true, false, true, true, true] [some (vr 5 0), none, some (vl x2), none, some (vi x4), some (vi x5), some (vi x6)] rfl ?_
      exact z_X5_play_J70 hC hr N x2 x4 x5 x6 ih q7.2 _ h ke
    · have h := it_f h c
      refine Z_iload hC (dk d_X5_play 36 rfl) 67 rfl rfl ?_
      refine Z_if_le hC (dk d_X5_play 37 rfl) 70 96 rfl (by decide) (fun c => ?_) (fun c => ?_)
      · have h := it_t h c
        obtain rfl := Option.some.inj h
        refine Z_wk [true, false, true, false, false, false, true] [some (vr 5 0), none, some (vl x2), none, none, none, some (vi x6)] rfl ?_
        exact ke
      · have h := it_f h c
        refine Z_wk [true, false, true, false, true, true, true] [some (vr 5 0), none, some (vl x2), none, some (vi x4), some (vi x5), some (vi x6)] rfl ?_
        exact z_X5_play_J70 hC hr N x2 x4 x5 x6 ih q7.2 _ h ke
noncomputable def X5_play_L1 (N : Nat) : Nat → Int64 → Int32 → Wd → Option (Wd)
  | 0, _, _, _ => none
  | n + 1, x2, x4, w =>
  if x4 = 0 then
    some w
  else
    gd (¬ (2147483647 : Int64) = 0) (
    (f_X5_sizeOf N x4 w).bind (fun q5 =>
      gd (¬ q5.1.toInt64 = 0) (
      (X5_play_L2 N (((48271 : Int64) * x2) - ((48271 : Int64) * x2) / (2147483647 : Int64) * (2147483647 : Int64)) x4 N (((((48271 : Int64) * x2) - ((48271 : Int64) * x2) / (2147483647 : Int64) * (2147483647 : Int64)) - (((48271 : Int64) * x2) - ((48271 : Int64) * x2) / (2147483647 : Int64) * (2147483647 : Int64)) / q5.1.toInt64 * q5.1.toInt64).toInt32) (0 : Int32) q5.2).bind (fun q9 =>
        gd (vp_in (gI q9.2 524 0) 6) (
        (f_X5_cans N (gI (sI (sA q9.2 42 0 (upd (gA q9.2 42 0) (gI q9.2 524 0).toNatClampNeg q9.1)) 524 0 ((gI (sA q9.2 42 0 (upd (gA q9.2 42 0) (gI q9.2 524 0).toNatClampNeg q9.1)) 524 0) + (1 : Int32))) 524 0) (sI (sA q9.2 42 0 (upd (gA q9.2 42 0) (gI q9.2 524 0).toNatClampNeg q9.1)) 524 0 ((gI (sA q9.2 42 0 (upd (gA q9.2 42 0) (gI q9.2 524 0).toNatClampNeg q9.1)) 524 0) + (1 : Int32)))).bind (fun q11 =>
          X5_play_L1 N n (((48271 : Int64) * x2) - ((48271 : Int64) * x2) / (2147483647 : Int64) * (2147483647 : Int64)) q11.1 q11.2))))))
set_option maxRecDepth 20000 in
set_option maxHeartbeats 4000000 in
theorem z_X5_play_L1 {x : CX} (hC : Cx x RX5 cX5_play 7 13) (hr : (xM x).sig.returnType = (some .int)) (N : Nat) : ∀ (n : Nat) (x2 : Int64) (x4 : Int32) (w : Wd) (q : (Wd)), X5_play_L1 N n x2 x4 w = some q → Z x 130 [some (vr 5 0), none, none, none, none, none, none] [] q → Z x 26 [some (vr 5 0), none, some (vl x2), none, some (vi x4), none, none] [] w := by
  intro n
  induction n with
  | zero =>
    intro x2 x4 w q h
    cases h
  | succ n ih =>
    intro x2 x4 w q h ke
    rw [X5_play_L1] at h
    refine Z_iload hC (dk d_X5_play 15 rfl) 28 rfl rfl ?_
    refine Z_if_eq hC (dk d_X5_play 16 rfl) 31 130 rfl (by decide) (fun c => ?_) (fun c => ?_)
    · have h := it_t h c
      obtain rfl := Option.some.inj h
      refine Z_wk [true, false, false, false, false, false, false] [some (vr 5 0), none, none, none, none, none, none] rfl ?_
      exact ke
    · have h := it_f h c
      refine Z_ldc2 hC kc_X5_205 (dk d_X5_play 17 rfl) 34 rfl ?_
      refine Z_lload_n hC (dk d_X5_play 18 rfl) 35 rfl rfl rfl ?_
      refine Z_lmul hC (dk d_X5_play 19 rfl) 36 rfl ?_
      refine Z_ldc2 hC kc_X5_207 (dk d_X5_play 20 rfl) 39 rfl ?_
      obtain ⟨g4, h⟩ := gd_some h
      refine Z_lrem hC (dk d_X5_play 21 rfl) 40 rfl g4 ?_
      refine Z_lstore_n hC (dk d_X5_play 22 rfl) 41 rfl rfl (Nat.le_of_ble_eq_true rfl) [some (vr 5 0), none, some (vl (((48271 : Int64) * x2) - ((48271 : Int64) * x2) / (2147483647 : Int64) * (2147483647 : Int64))), none, some (vi x4), none, none] rfl ?_
      refine Z_lload_n hC (dk d_X5_play 23 rfl) 42 rfl rfl rfl ?_
      refine Z_iload hC (dk d_X5_play 24 rfl) 44 rfl rfl ?_
      obtain ⟨q5, hq5, h⟩ := bd_some h
      refine K_X5_156 [vi x4] hC (s_X5_sizeOf (xG x) (xl x) N x4 w q5 hq5) (Nat.le_of_ble_eq_true rfl) rfl rfl rfl (Nat.le_of_ble_eq_true rfl) (dk d_X5_play 25 rfl) 47 rfl ?_
      refine Z_i2l hC (dk d_X5_play 26 rfl) 48 rfl ?_
      obtain ⟨g6, h⟩ := gd_some h
      refine Z_lrem hC (dk d_X5_play 27 rfl) 49 rfl g6 ?_
      refine Z_l2i hC (dk d_X5_play 28 rfl) 50 rfl ?_
      refine Z_istore hC (dk d_X5_play 29 rfl) 52 rfl (Nat.le_of_ble_eq_true rfl) [some (vr 5 0), none, some (vl (((48271 : Int64) * x2) - ((48271 : Int64) * x2) / (2147483647 : Int64) * (2147483647 : Int64))), none, some (vi x4), some (vi (((((48271 : Int64) * x2) - ((48271 : Int64) * x2) / (2147483647 : Int64) * (2147483647 : Int64)) - (((48271 : Int64) * x2) - ((48271 : Int64) * x2) / (2147483647 : Int64) * (2147483647 : Int64)) / q5.1.toInt64 * q5.1.toInt64).toInt32)), none] rfl ?_
      refine Z_iconst (v := 0) hC (dk d_X5_play 30 rfl) 53 rfl (by decide) ?_
      refine Z_istore hC (dk d_X5_play 31 rfl) 55 rfl (Nat.le_of_ble_eq_true rfl) [some (vr 5 0), none, some (vl (((48271 : Int64) * x2) - ((48271 : Int64) * x2) / (2147483647 : Int64) * (2147483647 : Int64))), none, some (vi x4), some (vi (((((48271 : Int64) * x2) - ((48271 : Int64) * x2) / (2147483647 : Int64) * (2147483647 : Int64)) - (((48271 : Int64) * x2) - ((48271 : Int64) * x2) / (2147483647 : Int64) * (2147483647 : Int64)) / q5.1.toInt64 * q5.1.toInt64).toInt32)), some (vi (0 : Int32))] rfl ?_
      obtain ⟨q9, hq9, h⟩ := bd_some h
      refine Z_wk [true, false, true, false, true, true, true] [some (vr 5 0), none, some (vl (((48271 : Int64) * x2) - ((48271 : Int64) * x2) / (2147483647 : Int64) * (2147483647 : Int64))), none, some (vi x4), some (vi (((((48271 : Int64) * x2) - ((48271 : Int64) * x2) / (2147483647 : Int64) * (2147483647 : Int64)) - (((48271 : Int64) * x2) - ((48271 : Int64) * x2) / (2147483647 : Int64) * (2147483647 : Int64)) / q5.1.toInt64 * q5.1.toInt64).toInt32)), some (vi (0 : Int32))] rfl ?_
      refine z_X5_play_L2 hC hr N (((48271 : Int64) * x2) - ((48271 : Int64) * x2) / (2147483647 : Int64) * (2147483647 : Int64)) x4 N (((((48271 : Int64) * x2) - ((48271 : Int64) * x2) / (2147483647 : Int64) * (2147483647 : Int64)) - (((48271 : Int64) * x2) - ((48271 : Int64) * x2) / (2147483647 : Int64) * (2147483647 : Int64)) / q5.1.toInt64 * q5.1.toInt64).toInt32) (0 : Int32) q5.2 q9 hq9 ?_
      refine Z_aload_n hC (dk d_X5_play 50 rfl) 97 rfl rfl rfl ?_
      refine G_X5_54 hC m_5 (dk d_X5_play 51 rfl) 100 rfl ?_
      refine Z_aload_n hC (dk d_X5_play 52 rfl) 101 rfl rfl rfl ?_
      refine G_X5_128 hC m_5 (dk d_X5_play 53 rfl) 104 rfl ?_
      refine Z_iload hC (dk d_X5_play 54 rfl) 106 rfl rfl ?_
      obtain ⟨g10, h⟩ := gd_some h
      refine Z_iastore hC m_42 (by decide) rfl g10 (dk d_X5_play 55 rfl) 107 rfl ?_
      refine Z_aload_n hC (dk d_X5_play 56 rfl) 108 rfl rfl rfl ?_
      refine Z_dup hC (dk d_X5_play 57 rfl) 109 rfl rfl ?_
      refine G_X5_128 hC m_5 (dk d_X5_play 58 rfl) 112 rfl ?_
      refine Z_iconst (v := 1) hC (dk d_X5_play 59 rfl) 113 rfl (by decide) ?_
      refine Z_iadd hC (dk d_X5_play 60 rfl) 114 rfl ?_
      refine P_X5_128 hC m_5 (dk d_X5_play 61 rfl) 117 rfl ?_
      refine Z_aload_n hC (dk d_X5_play 62 rfl) 118 rfl rfl rfl ?_
      refine Z_aload_n hC (dk d_X5_play 63 rfl) 119 rfl rfl rfl ?_
      refine G_X5_128 hC m_5 (dk d_X5_play 64 rfl) 122 rfl ?_
      obtain ⟨q11, hq11, h⟩ := bd_some h
      refine K_X5_215 [vi (gI (sI (sA q9.2 42 0 (upd (gA q9.2 42 0) (gI q9.2 524 0).toNatClampNeg q9.1)) 524 0 ((gI (sA q9.2 42 0 (upd (gA q9.2 42 0) (gI q9.2 524 0).toNatClampNeg q9.1)) 524 0) + (1 : Int32))) 524 0)] hC m_5 (s_X5_cans (xG x) (xl x) N (gI (sI (sA q9.2 42 0 (upd (gA q9.2 42 0) (gI q9.2 524 0).toNatClampNeg q9.1)) 524 0 ((gI (sA q9.2 42 0 (upd (gA q9.2 42 0) (gI q9.2 524 0).toNatClampNeg q9.1)) 524 0) + (1 : Int32))) 524 0) (sI (sA q9.2 42 0 (upd (gA q9.2 42 0) (gI q9.2 524 0).toNatClampNeg q9.1)) 524 0 ((gI (sA q9.2 42 0 (upd (gA q9.2 42 0) (gI q9.2 524 0).toNatClampNeg q9.1)) 524 0) + (1 : Int32))) q11 hq11) (Nat.le_of_ble_eq_true rfl) rfl rfl rfl (Nat.le_of_ble_eq_true rfl) (dk d_X5_play 65 rfl) 125 rfl ?_
      refine Z_istore hC (dk d_X5_play 66 rfl) 127 rfl (Nat.le_of_ble_eq_true rfl) [some (vr 5 0), none, some (vl (((48271 : Int64) * x2) - ((48271 : Int64) * x2) / (2147483647 : Int64) * (2147483647 : Int64))), none, some (vi q11.1), none, some (vi q9.1)] rfl ?_
      refine Z_goto hC (dk d_X5_play 67 rfl) 26 (by decide) ?_
      refine Z_wk [true, false, true, false, true, false, false] [some (vr 5 0), none, some (vl (((48271 : Int64) * x2) - ((48271 : Int64) * x2) / (2147483647 : Int64) * (2147483647 : Int64))), none, some (vi q11.1), none, none] rfl ?_
      exact ih (((48271 : Int64) * x2) - ((48271 : Int64) * x2) / (2147483647 : Int64) * (2147483647 : Int64)) q11.1 q11.2 _ h ke
noncomputable def f_X5_play (N : Nat) (a1 : Int32) (w : Wd) : Option (Int32 × Wd) :=
  (f_X5_isSeed N a1 w).bind (fun q1 =>
    if q1.1 = 0 then
      some ((-1 : Int32), q1.2)
    else
      (f_X5_setRights N q1.2).bind (fun q2 =>
        (f_X5_cans N (gI q2 524 0) q2).bind (fun q3 =>
          (X5_play_L1 N N a1.toInt64 q3.1 q3.2).bind (fun q12 =>
            some (gI q12 524 0, q12)))))
set_option maxRecDepth 20000 in
set_option maxHeartbeats 4000000 in
theorem s_X5_play (G : GT) (l : Launch) (N : Nat) (a1 : Int32) (w : Wd) (q : Int32 × Wd) (h : f_X5_play N a1 w = some q) : Sp G l yX5_play cw_X5_play 13 [vr 5 0, vi a1] w (some (vi q.1)) q.2 := by
  refine Sp_of (own := RX5) [some (vr 5 0), some (vi a1), none, none, none, none, none] (by decide) rfl rfl (Nat.le_of_ble_eq_true rfl) ?_
  intro x hG hl hC hr hQ _ _
  subst hG
  subst hl
  unfold f_X5_play at h
  refine Z_iload_n hC (dk d_X5_play 0 rfl) 1 rfl rfl rfl ?_
  obtain ⟨q1, hq1, h⟩ := bd_some h
  refine K_X5_202 [vi a1] hC (s_X5_isSeed (xG x) (xl x) N a1 w q1 hq1) (Nat.le_of_ble_eq_true rfl) rfl rfl rfl (Nat.le_of_ble_eq_true rfl) (dk d_X5_play 1 rfl) 4 rfl ?_
  refine Z_if_ne hC (dk d_X5_play 2 rfl) 7 9 rfl (by decide) (fun c => ?_) (fun c => ?_)
  · have h := it_f h c
    refine Z_aload_n hC (dk d_X5_play 5 rfl) 10 rfl rfl rfl ?_
    obtain ⟨q2, hq2, h⟩ := bd_some h
    refine K_X5_185 [] hC m_5 (s_X5_setRights (xG x) (xl x) N q1.2 q2 hq2) (Nat.le_of_ble_eq_true rfl) rfl rfl rfl (Nat.le_of_ble_eq_true rfl) (dk d_X5_play 6 rfl) 13 rfl ?_
    refine Z_iload_n hC (dk d_X5_play 7 rfl) 14 rfl rfl rfl ?_
    refine Z_i2l hC (dk d_X5_play 8 rfl) 15 rfl ?_
    refine Z_lstore_n hC (dk d_X5_play 9 rfl) 16 rfl rfl (Nat.le_of_ble_eq_true rfl) [some (vr 5 0), some (vi a1), some (vl a1.toInt64), none, none, none, none] rfl ?_
    refine Z_aload_n hC (dk d_X5_play 10 rfl) 17 rfl rfl rfl ?_
    refine Z_aload_n hC (dk d_X5_play 11 rfl) 18 rfl rfl rfl ?_
    refine G_X5_128 hC m_5 (dk d_X5_play 12 rfl) 21 rfl ?_
    obtain ⟨q3, hq3, h⟩ := bd_some h
    refine K_X5_215 [vi (gI q2 524 0)] hC m_5 (s_X5_cans (xG x) (xl x) N (gI q2 524 0) q2 q3 hq3) (Nat.le_of_ble_eq_true rfl) rfl rfl rfl (Nat.le_of_ble_eq_true rfl) (dk d_X5_play 13 rfl) 24 rfl ?_
    refine Z_istore hC (dk d_X5_play 14 rfl) 26 rfl (Nat.le_of_ble_eq_true rfl) [some (vr 5 0), some (vi a1), some (vl a1.toInt64), none, some (vi q3.1), none, none] rfl ?_
    obtain ⟨q12, hq12, h⟩ := bd_some h
    refine Z_wk [true, false, true, false, true, false, false] [some (vr 5 0), none, some (vl a1.toInt64), none, some (vi q3.1), none, none] rfl ?_
    refine z_X5_play_L1 hC hr N N a1.toInt64 q3.1 q3.2 q12 hq12 ?_
    refine Z_aload_n hC (dk d_X5_play 68 rfl) 131 rfl rfl rfl ?_
    refine G_X5_128 hC m_5 (dk d_X5_play 69 rfl) 134 rfl ?_
    obtain rfl := Option.some.inj h
    exact Z_ireturn (st := []) hC hr hQ (dk d_X5_play 70 rfl)
  · have h := it_t h c
    refine Z_iconst (v := -1) hC (dk d_X5_play 3 rfl) 8 rfl (by decide) ?_
    obtain rfl := Option.some.inj h
    exact Z_ireturn (st := []) hC hr hQ (dk d_X5_play 4 rfl)
def t_X5_keep : List (Nat × Instr × Nat) := [(0, .iload_n 1, 1), (1, .iconst 0, 1), (2, .iconst 2, 1), (3, .invokestatic 72, 3), (6, .ifCond .ne 5, 3), (9, .iconst (-1), 1), (10, .ireturn, 1), (11, .aload_n 0, 1), (12, .getfield 125, 3), (15, .ifCond .ne 6, 3), (18, .bipush (-4), 2), (20, .ireturn, 1), (21, .aload_n 0, 1), (22, .getfield 60, 3), (25, .bipush 8, 2), (27, .iload_n 1, 1), (28, .imul, 1), (29, .aload_n 0, 1), (30, .getfield 128, 3), (33, .iastore, 1), (34, .aload_n 0, 1), (35, .getfield 60, 3), (38, .bipush 8, 2), (40, .iload_n 1, 1), (41, .imul, 1), (42, .iconst 1, 1), (43, .iadd, 1), (44, .aload_n 0, 1), (45, .getfield 32, 3), (48, .iastore, 1), (49, .iconst 0, 1), (50, .istore_n 2, 1), (51, .iload_n 2, 1), (52, .bipush 6, 2), (54, .if_icmp .ge 28, 3), (57, .aload_n 0, 1), (58, .getfield 60, 3), (61, .bipush 8, 2), (63, .iload_n 1, 1), (64, .imul, 1), (65, .iconst 2, 1), (66, .iadd, 1), (67, .iload_n 2, 1), (68, .iadd, 1), (69, .aload_n 0, 1), (70, .getfield 54, 3), (73, .iload_n 2, 1), (74, .iaload, 1), (75, .iastore, 1), (76, .iinc 2 1, 3), (79, .goto (-28), 3), (82, .aload_n 0, 1), (83, .getfield 128, 3), (86, .ireturn, 1)]
set_option maxRecDepth 20000 in
theorem d_X5_keep : ∀ q ∈ t_X5_keep, decode cX5_keep q.1 = .ok q.2 := by decide +kernel
noncomputable def X5_keep_L1 (N : Nat) (x1 : Int32) : Nat → Int32 → Wd → Option (Wd)
  | 0, _, _ => none
  | n + 1, x2, w =>
  if (6 : Int32) ≤ x2 then
    some w
  else
    gd (vp_in x2 6) (
    gd (vp_in ((((8 : Int32) * x1) + (2 : Int32)) + x2) 24) (
    X5_keep_L1 N x1 n (x2 + (1 : Int32)) (sA w 44 0 (upd (gA w 44 0) ((((8 : Int32) * x1) + (2 : Int32)) + x2).toNatClampNeg (gA w 42 0 x2.toNatClampNeg)))))
set_option maxRecDepth 20000 in
set_option maxHeartbeats 4000000 in
theorem z_X5_keep_L1 {x : CX} (hC : Cx x RX5 cX5_keep 3 1) (hr : (xM x).sig.returnType = (some .int)) (N : Nat) (x1 : Int32) : ∀ (n : Nat) (x2 : Int32) (w : Wd) (q : (Wd)), X5_keep_L1 N x1 n x2 w = some q → Z x 82 [some (vr 5 0), none, none] [] q → Z x 51 [some (vr 5 0), some (vi x1), some (vi x2)] [] w := by
  intro n
  induction n with
  | zero =>
    intro x2 w q h
    cases h
  | succ n ih =>
    intro x2 w q h ke
    rw [X5_keep_L1] at h
    refine Z_iload_n hC (dk d_X5_keep 32 rfl) 52 rfl rfl rfl ?_
    refine Z_bipush (v := 6) hC (dk d_X5_keep 33 rfl) 54 rfl (by decide) ?_
    refine Z_icmp_ge hC (dk d_X5_keep 34 rfl) 57 82 rfl (by decide) (fun c => ?_) (fun c => ?_)
    · have h := it_t h c
      obtain rfl := Option.some.inj h
      refine Z_wk [true, false, false] [some (vr 5 0), none, none] rfl ?_
      exact ke
    · have h := it_f h c
      refine Z_aload_n hC (dk d_X5_keep 35 rfl) 58 rfl rfl rfl ?_
      refine G_X5_60 hC m_5 (dk d_X5_keep 36 rfl) 61 rfl ?_
      refine Z_bipush (v := 8) hC (dk d_X5_keep 37 rfl) 63 rfl (by decide) ?_
      refine Z_iload_n hC (dk d_X5_keep 38 rfl) 64 rfl rfl rfl ?_
      refine Z_imul hC (dk d_X5_keep 39 rfl) 65 rfl ?_
      refine Z_iconst (v := 2) hC (dk d_X5_keep 40 rfl) 66 rfl (by decide) ?_
      refine Z_iadd hC (dk d_X5_keep 41 rfl) 67 rfl ?_
      refine Z_iload_n hC (dk d_X5_keep 42 rfl) 68 rfl rfl rfl ?_
      refine Z_iadd hC (dk d_X5_keep 43 rfl) 69 rfl ?_
      refine Z_aload_n hC (dk d_X5_keep 44 rfl) 70 rfl rfl rfl ?_
      refine G_X5_54 hC m_5 (dk d_X5_keep 45 rfl) 73 rfl ?_
      refine Z_iload_n hC (dk d_X5_keep 46 rfl) 74 rfl rfl rfl ?_
      obtain ⟨g4, h⟩ := gd_some h
      refine Z_iaload hC m_42 (by decide) rfl g4 (dk d_X5_keep 47 rfl) 75 rfl ?_
      obtain ⟨g5, h⟩ := gd_some h
      refine Z_iastore hC m_44 (by decide) rfl g5 (dk d_X5_keep 48 rfl) 76 rfl ?_
      refine Z_iinc hC (dk d_X5_keep 49 rfl) 79 rfl rfl rfl [some (vr 5 0), some (vi x1), some (vi (x2 + (1 : Int32)))] rfl ?_
      refine Z_goto hC (dk d_X5_keep 50 rfl) 51 (by decide) ?_
      refine Z_wk [true, true, true] [some (vr 5 0), some (vi x1), some (vi (x2 + (1 : Int32)))] rfl ?_
      exact ih (x2 + (1 : Int32)) (sA w 44 0 (upd (gA w 44 0) ((((8 : Int32) * x1) + (2 : Int32)) + x2).toNatClampNeg (gA w 42 0 x2.toNatClampNeg))) _ h ke
noncomputable def f_X5_keep (N : Nat) (a1 : Int32) (w : Wd) : Option (Int32 × Wd) :=
  (f_X5_in N a1 (0 : Int32) (2 : Int32) w).bind (fun q1 =>
    if q1.1 = 0 then
      some ((-1 : Int32), q1.2)
    else
      if (gI q1.2 510 0) = 0 then
        some ((-4 : Int32), q1.2)
      else
        gd (vp_in ((8 : Int32) * a1) 24) (
        gd (vp_in (((8 : Int32) * a1) + (1 : Int32)) 24) (
        (X5_keep_L1 N a1 N (0 : Int32) (sA (sA q1.2 44 0 (upd (gA q1.2 44 0) ((8 : Int32) * a1).toNatClampNeg (gI q1.2 524 0))) 44 0 (upd (gA (sA q1.2 44 0 (upd (gA q1.2 44 0) ((8 : Int32) * a1).toNatClampNeg (gI q1.2 524 0))) 44 0) (((8 : Int32) * a1) + (1 : Int32)).toNatClampNeg (gI (sA q1.2 44 0 (upd (gA q1.2 44 0) ((8 : Int32) * a1).toNatClampNeg (gI q1.2 524 0))) 511 0)))).bind (fun q6 =>
          some (gI q6 524 0, q6)))))
set_option maxRecDepth 20000 in
set_option maxHeartbeats 4000000 in
theorem s_X5_keep (G : GT) (l : Launch) (N : Nat) (a1 : Int32) (w : Wd) (q : Int32 × Wd) (h : f_X5_keep N a1 w = some q) : Sp G l yX5_keep cw_X5_keep 1 [vr 5 0, vi a1] w (some (vi q.1)) q.2 := by
  refine Sp_of (own := RX5) [some (vr 5 0), some (vi a1), none] (by decide) rfl rfl (Nat.le_of_ble_eq_true rfl) ?_
  intro x hG hl hC hr hQ _ _
  subst hG
  subst hl
  unfold f_X5_keep at h
  refine Z_iload_n hC (dk d_X5_keep 0 rfl) 1 rfl rfl rfl ?_
  refine Z_iconst (v := 0) hC (dk d_X5_keep 1 rfl) 2 rfl (by decide) ?_
  refine Z_iconst (v := 2) hC (dk d_X5_keep 2 rfl) 3 rfl (by decide) ?_
  obtain ⟨q1, hq1, h⟩ := bd_some h
  refine K_X5_72 [vi a1, vi (0 : Int32), vi (2 : Int32)] hC (s_X5_in (xG x) (xl x) N a1 (0 : Int32) (2 : Int32) w q1 hq1) (Nat.le_of_ble_eq_true rfl) rfl rfl rfl (Nat.le_of_ble_eq_true rfl) (dk d_X5_keep 3 rfl) 6 rfl ?_
  refine Z_if_ne hC (dk d_X5_keep 4 rfl) 9 11 rfl (by decide) (fun c => ?_) (fun c => ?_)
  · have h := it_f h c
    refine Z_aload_n hC (dk d_X5_keep 7 rfl) 12 rfl rfl rfl ?_
    refine G_X5_125 hC m_5 (dk d_X5_keep 8 rfl) 15 rfl ?_
    refine Z_if_ne hC (dk d_X5_keep 9 rfl) 18 21 rfl (by decide) (fun c => ?_) (fun c => ?_)
    · have h := it_f h c
      refine Z_aload_n hC (dk d_X5_keep 12 rfl) 22 rfl rfl rfl ?_
      refine G_X5_60 hC m_5 (dk d_X5_keep 13 rfl) 25 rfl ?_
      refine Z_bipush (v := 8) hC (dk d_X5_keep 14 rfl) 27 rfl (by decide) ?_
      refine Z_iload_n hC (dk d_X5_keep 15 rfl) 28 rfl rfl rfl ?_
      refine Z_imul hC (dk d_X5_keep 16 rfl) 29 rfl ?_
      refine Z_aload_n hC (dk d_X5_keep 17 rfl) 30 rfl rfl rfl ?_
      refine G_X5_128 hC m_5 (dk d_X5_keep 18 rfl) 33 rfl ?_
      obtain ⟨g2, h⟩ := gd_some h
      refine Z_iastore hC m_44 (by decide) rfl g2 (dk d_X5_keep 19 rfl) 34 rfl ?_
      refine Z_aload_n hC (dk d_X5_keep 20 rfl) 35 rfl rfl rfl ?_
      refine G_X5_60 hC m_5 (dk d_X5_keep 21 rfl) 38 rfl ?_
      refine Z_bipush (v := 8) hC (dk d_X5_keep 22 rfl) 40 rfl (by decide) ?_
      refine Z_iload_n hC (dk d_X5_keep 23 rfl) 41 rfl rfl rfl ?_
      refine Z_imul hC (dk d_X5_keep 24 rfl) 42 rfl ?_
      refine Z_iconst (v := 1) hC (dk d_X5_keep 25 rfl) 43 rfl (by decide) ?_
      refine Z_iadd hC (dk d_X5_keep 26 rfl) 44 rfl ?_
      refine Z_aload_n hC (dk d_X5_keep 27 rfl) 45 rfl rfl rfl ?_
      refine G_X5_32 hC m_5 (dk d_X5_keep 28 rfl) 48 rfl ?_
      obtain ⟨g3, h⟩ := gd_some h
      refine Z_iastore hC m_44 (by decide) rfl g3 (dk d_X5_keep 29 rfl) 49 rfl ?_
      refine Z_iconst (v := 0) hC (dk d_X5_keep 30 rfl) 50 rfl (by decide) ?_
      refine Z_istore_n hC (dk d_X5_keep 31 rfl) 51 rfl rfl (Nat.le_of_ble_eq_true rfl) [some (vr 5 0), some (vi a1), some (vi (0 : Int32))] rfl ?_
      obtain ⟨q6, hq6, h⟩ := bd_some h
      refine Z_wk [true, true, true] [some (vr 5 0), some (vi a1), some (vi (0 : Int32))] rfl ?_
      refine z_X5_keep_L1 hC hr N a1 N (0 : Int32) (sA (sA q1.2 44 0 (upd (gA q1.2 44 0) ((8 : Int32) * a1).toNatClampNeg (gI q1.2 524 0))) 44 0 (upd (gA (sA q1.2 44 0 (upd (gA q1.2 44 0) ((8 : Int32) * a1).toNatClampNeg (gI q1.2 524 0))) 44 0) (((8 : Int32) * a1) + (1 : Int32)).toNatClampNeg (gI (sA q1.2 44 0 (upd (gA q1.2 44 0) ((8 : Int32) * a1).toNatClampNeg (gI q1.2 524 0))) 511 0))) q6 hq6 ?_
      refine Z_aload_n hC (dk d_X5_keep 51 rfl) 83 rfl rfl rfl ?_
      refine G_X5_128 hC m_5 (dk d_X5_keep 52 rfl) 86 rfl ?_
      obtain rfl := Option.some.inj h
      exact Z_ireturn (st := []) hC hr hQ (dk d_X5_keep 53 rfl)
    · have h := it_t h c
      refine Z_bipush (v := -4) hC (dk d_X5_keep 10 rfl) 20 rfl (by decide) ?_
      obtain rfl := Option.some.inj h
      exact Z_ireturn (st := []) hC hr hQ (dk d_X5_keep 11 rfl)
  · have h := it_t h c
    refine Z_iconst (v := -1) hC (dk d_X5_keep 5 rfl) 10 rfl (by decide) ?_
    obtain rfl := Option.some.inj h
    exact Z_ireturn (st := []) hC hr hQ (dk d_X5_keep 6 rfl)
def t_X5_on : List (Nat × Instr × Nat) := [(0, .iload_n 1, 1), (1, .iconst 0, 1), (2, .iconst 2, 1), (3, .invokestatic 72, 3), (6, .ifCond .ne 5, 3), (9, .iconst (-1), 1), (10, .ireturn, 1), (11, .aload_n 0, 1), (12, .getfield 60, 3), (15, .bipush 8, 2), (17, .iload_n 1, 1), (18, .imul, 1), (19, .iaload, 1), (20, .bipush (-9), 2), (22, .if_icmp .ne 9, 3), (25, .aload_n 0, 1), (26, .iconst 1, 1), (27, .invokevirtual 80, 3), (30, .ireturn, 1), (31, .aload_n 0, 1), (32, .aload_n 0, 1), (33, .getfield 60, 3), (36, .bipush 8, 2), (38, .iload_n 1, 1), (39, .imul, 1), (40, .iaload, 1), (41, .putfield 128, 3), (44, .aload_n 0, 1), (45, .aload_n 0, 1), (46, .getfield 60, 3), (49, .bipush 8, 2), (51, .iload_n 1, 1), (52, .imul, 1), (53, .iconst 1, 1), (54, .iadd, 1), (55, .iaload, 1), (56, .putfield 32, 3), (59, .iconst 0, 1), (60, .istore_n 2, 1), (61, .iload_n 2, 1), (62, .bipush 6, 2), (64, .if_icmp .ge 28, 3), (67, .aload_n 0, 1), (68, .getfield 54, 3), (71, .iload_n 2, 1), (72, .aload_n 0, 1), (73, .getfield 60, 3), (76, .bipush 8, 2), (78, .iload_n 1, 1), (79, .imul, 1), (80, .iconst 2, 1), (81, .iadd, 1), (82, .iload_n 2, 1), (83, .iadd, 1), (84, .iaload, 1), (85, .iastore, 1), (86, .iinc 2 1, 3), (89, .goto (-28), 3), (92, .aload_n 0, 1), (93, .getfield 128, 3), (96, .ireturn, 1)]
set_option maxRecDepth 20000 in
theorem d_X5_on : ∀ q ∈ t_X5_on, decode cX5_on q.1 = .ok q.2 := by decide +kernel
noncomputable def X5_on_L1 (N : Nat) (x1 : Int32) : Nat → Int32 → Wd → Option (Wd)
  | 0, _, _ => none
  | n + 1, x2, w =>
  if (6 : Int32) ≤ x2 then
    some w
  else
    gd (vp_in ((((8 : Int32) * x1) + (2 : Int32)) + x2) 24) (
    gd (vp_in x2 6) (
    X5_on_L1 N x1 n (x2 + (1 : Int32)) (sA w 42 0 (upd (gA w 42 0) x2.toNatClampNeg (gA w 44 0 ((((8 : Int32) * x1) + (2 : Int32)) + x2).toNatClampNeg)))))
set_option maxRecDepth 20000 in
set_option maxHeartbeats 4000000 in
theorem z_X5_on_L1 {x : CX} (hC : Cx x RX5 cX5_on 3 1) (hr : (xM x).sig.returnType = (some .int)) (N : Nat) (x1 : Int32) : ∀ (n : Nat) (x2 : Int32) (w : Wd) (q : (Wd)), X5_on_L1 N x1 n x2 w = some q → Z x 92 [some (vr 5 0), none, none] [] q → Z x 61 [some (vr 5 0), some (vi x1), some (vi x2)] [] w := by
  intro n
  induction n with
  | zero =>
    intro x2 w q h
    cases h
  | succ n ih =>
    intro x2 w q h ke
    rw [X5_on_L1] at h
    refine Z_iload_n hC (dk d_X5_on 39 rfl) 62 rfl rfl rfl ?_
    refine Z_bipush (v := 6) hC (dk d_X5_on 40 rfl) 64 rfl (by decide) ?_
    refine Z_icmp_ge hC (dk d_X5_on 41 rfl) 67 92 rfl (by decide) (fun c => ?_) (fun c => ?_)
    · have h := it_t h c
      obtain rfl := Option.some.inj h
      refine Z_wk [true, false, false] [some (vr 5 0), none, none] rfl ?_
      exact ke
    · have h := it_f h c
      refine Z_aload_n hC (dk d_X5_on 42 rfl) 68 rfl rfl rfl ?_
      refine G_X5_54 hC m_5 (dk d_X5_on 43 rfl) 71 rfl ?_
      refine Z_iload_n hC (dk d_X5_on 44 rfl) 72 rfl rfl rfl ?_
      refine Z_aload_n hC (dk d_X5_on 45 rfl) 73 rfl rfl rfl ?_
      refine G_X5_60 hC m_5 (dk d_X5_on 46 rfl) 76 rfl ?_
      refine Z_bipush (v := 8) hC (dk d_X5_on 47 rfl) 78 rfl (by decide) ?_
      refine Z_iload_n hC (dk d_X5_on 48 rfl) 79 rfl rfl rfl ?_
      refine Z_imul hC (dk d_X5_on 49 rfl) 80 rfl ?_
      refine Z_iconst (v := 2) hC (dk d_X5_on 50 rfl) 81 rfl (by decide) ?_
      refine Z_iadd hC (dk d_X5_on 51 rfl) 82 rfl ?_
      refine Z_iload_n hC (dk d_X5_on 52 rfl) 83 rfl rfl rfl ?_
      refine Z_iadd hC (dk d_X5_on 53 rfl) 84 rfl ?_
      obtain ⟨g5, h⟩ := gd_some h
      refine Z_iaload hC m_44 (by decide) rfl g5 (dk d_X5_on 54 rfl) 85 rfl ?_
      obtain ⟨g6, h⟩ := gd_some h
      refine Z_iastore hC m_42 (by decide) rfl g6 (dk d_X5_on 55 rfl) 86 rfl ?_
      refine Z_iinc hC (dk d_X5_on 56 rfl) 89 rfl rfl rfl [some (vr 5 0), some (vi x1), some (vi (x2 + (1 : Int32)))] rfl ?_
      refine Z_goto hC (dk d_X5_on 57 rfl) 61 (by decide) ?_
      refine Z_wk [true, true, true] [some (vr 5 0), some (vi x1), some (vi (x2 + (1 : Int32)))] rfl ?_
      exact ih (x2 + (1 : Int32)) (sA w 42 0 (upd (gA w 42 0) x2.toNatClampNeg (gA w 44 0 ((((8 : Int32) * x1) + (2 : Int32)) + x2).toNatClampNeg))) _ h ke
noncomputable def f_X5_on (N : Nat) (a1 : Int32) (w : Wd) : Option (Int32 × Wd) :=
  (f_X5_in N a1 (0 : Int32) (2 : Int32) w).bind (fun q1 =>
    if q1.1 = 0 then
      some ((-1 : Int32), q1.2)
    else
      gd (vp_in ((8 : Int32) * a1) 24) (
      if (gA q1.2 44 0 ((8 : Int32) * a1).toNatClampNeg) = (-9 : Int32) then
        (f_X5_meet N (1 : Int32) q1.2).bind (fun q8 =>
          some (q8.1, q8.2))
      else
        gd (vp_in ((8 : Int32) * a1) 24) (
        gd (vp_in (((8 : Int32) * a1) + (1 : Int32)) 24) (
        (X5_on_L1 N a1 N (0 : Int32) (sI (sI q1.2 524 0 (gA q1.2 44 0 ((8 : Int32) * a1).toNatClampNeg)) 511 0 (gA (sI q1.2 524 0 (gA q1.2 44 0 ((8 : Int32) * a1).toNatClampNeg)) 44 0 (((8 : Int32) * a1) + (1 : Int32)).toNatClampNeg))).bind (fun q7 =>
          some (gI q7 524 0, q7))))))
set_option maxRecDepth 20000 in
set_option maxHeartbeats 4000000 in
theorem s_X5_on (G : GT) (l : Launch) (N : Nat) (a1 : Int32) (w : Wd) (q : Int32 × Wd) (h : f_X5_on N a1 w = some q) : Sp G l yX5_on cw_X5_on 1 [vr 5 0, vi a1] w (some (vi q.1)) q.2 := by
  refine Sp_of (own := RX5) [some (vr 5 0), some (vi a1), none] (by decide) rfl rfl (Nat.le_of_ble_eq_true rfl) ?_
  intro x hG hl hC hr hQ _ _
  subst hG
  subst hl
  unfold f_X5_on at h
  refine Z_iload_n hC (dk d_X5_on 0 rfl) 1 rfl rfl rfl ?_
  refine Z_iconst (v := 0) hC (dk d_X5_on 1 rfl) 2 rfl (by decide) ?_
  refine Z_iconst (v := 2) hC (dk d_X5_on 2 rfl) 3 rfl (by decide) ?_
  obtain ⟨q1, hq1, h⟩ := bd_some h
  refine K_X5_72 [vi a1, vi (0 : Int32), vi (2 : Int32)] hC (s_X5_in (xG x) (xl x) N a1 (0 : Int32) (2 : Int32) w q1 hq1) (Nat.le_of_ble_eq_true rfl) rfl rfl rfl (Nat.le_of_ble_eq_true rfl) (dk d_X5_on 3 rfl) 6 rfl ?_
  refine Z_if_ne hC (dk d_X5_on 4 rfl) 9 11 rfl (by decide) (fun c => ?_) (fun c => ?_)
  · have h := it_f h c
    refine Z_aload_n hC (dk d_X5_on 7 rfl) 12 rfl rfl rfl ?_
    refine G_X5_60 hC m_5 (dk d_X5_on 8 rfl) 15 rfl ?_
    refine Z_bipush (v := 8) hC (dk d_X5_on 9 rfl) 17 rfl (by decide) ?_
    refine Z_iload_n hC (dk d_X5_on 10 rfl) 18 rfl rfl rfl ?_
    refine Z_imul hC (dk d_X5_on 11 rfl) 19 rfl ?_
    obtain ⟨g2, h⟩ := gd_some h
    refine Z_iaload hC m_44 (by decide) rfl g2 (dk d_X5_on 12 rfl) 20 rfl ?_
    refine Z_bipush (v := -9) hC (dk d_X5_on 13 rfl) 22 rfl (by decide) ?_
    refine Z_icmp_ne hC (dk d_X5_on 14 rfl) 25 31 rfl (by decide) (fun c => ?_) (fun c => ?_)
    · have h := it_f h c
      refine Z_aload_n hC (dk d_X5_on 19 rfl) 32 rfl rfl rfl ?_
      refine Z_aload_n hC (dk d_X5_on 20 rfl) 33 rfl rfl rfl ?_
      refine G_X5_60 hC m_5 (dk d_X5_on 21 rfl) 36 rfl ?_
      refine Z_bipush (v := 8) hC (dk d_X5_on 22 rfl) 38 rfl (by decide) ?_
      refine Z_iload_n hC (dk d_X5_on 23 rfl) 39 rfl rfl rfl ?_
      refine Z_imul hC (dk d_X5_on 24 rfl) 40 rfl ?_
      obtain ⟨g3, h⟩ := gd_some h
      refine Z_iaload hC m_44 (by decide) rfl g3 (dk d_X5_on 25 rfl) 41 rfl ?_
      refine P_X5_128 hC m_5 (dk d_X5_on 26 rfl) 44 rfl ?_
      refine Z_aload_n hC (dk d_X5_on 27 rfl) 45 rfl rfl rfl ?_
      refine Z_aload_n hC (dk d_X5_on 28 rfl) 46 rfl rfl rfl ?_
      refine G_X5_60 hC m_5 (dk d_X5_on 29 rfl) 49 rfl ?_
      refine Z_bipush (v := 8) hC (dk d_X5_on 30 rfl) 51 rfl (by decide) ?_
      refine Z_iload_n hC (dk d_X5_on 31 rfl) 52 rfl rfl rfl ?_
      refine Z_imul hC (dk d_X5_on 32 rfl) 53 rfl ?_
      refine Z_iconst (v := 1) hC (dk d_X5_on 33 rfl) 54 rfl (by decide) ?_
      refine Z_iadd hC (dk d_X5_on 34 rfl) 55 rfl ?_
      obtain ⟨g4, h⟩ := gd_some h
      refine Z_iaload hC m_44 (by decide) rfl g4 (dk d_X5_on 35 rfl) 56 rfl ?_
      refine P_X5_32 hC m_5 (dk d_X5_on 36 rfl) 59 rfl ?_
      refine Z_iconst (v := 0) hC (dk d_X5_on 37 rfl) 60 rfl (by decide) ?_
      refine Z_istore_n hC (dk d_X5_on 38 rfl) 61 rfl rfl (Nat.le_of_ble_eq_true rfl) [some (vr 5 0), some (vi a1), some (vi (0 : Int32))] rfl ?_
      obtain ⟨q7, hq7, h⟩ := bd_some h
      refine Z_wk [true, true, true] [some (vr 5 0), some (vi a1), some (vi (0 : Int32))] rfl ?_
      refine z_X5_on_L1 hC hr N a1 N (0 : Int32) (sI (sI q1.2 524 0 (gA q1.2 44 0 ((8 : Int32) * a1).toNatClampNeg)) 511 0 (gA (sI q1.2 524 0 (gA q1.2 44 0 ((8 : Int32) * a1).toNatClampNeg)) 44 0 (((8 : Int32) * a1) + (1 : Int32)).toNatClampNeg)) q7 hq7 ?_
      refine Z_aload_n hC (dk d_X5_on 58 rfl) 93 rfl rfl rfl ?_
      refine G_X5_128 hC m_5 (dk d_X5_on 59 rfl) 96 rfl ?_
      obtain rfl := Option.some.inj h
      exact Z_ireturn (st := []) hC hr hQ (dk d_X5_on 60 rfl)
    · have h := it_t h c
      refine Z_aload_n hC (dk d_X5_on 15 rfl) 26 rfl rfl rfl ?_
      refine Z_iconst (v := 1) hC (dk d_X5_on 16 rfl) 27 rfl (by decide) ?_
      obtain ⟨q8, hq8, h⟩ := bd_some h
      refine K_X5_80 [vi (1 : Int32)] hC m_5 (s_X5_meet (xG x) (xl x) N (1 : Int32) q1.2 q8 hq8) (Nat.le_of_ble_eq_true rfl) rfl rfl rfl (Nat.le_of_ble_eq_true rfl) (dk d_X5_on 17 rfl) 30 rfl ?_
      obtain rfl := Option.some.inj h
      exact Z_ireturn (st := []) hC hr hQ (dk d_X5_on 18 rfl)
  · have h := it_t h c
    refine Z_iconst (v := -1) hC (dk d_X5_on 5 rfl) 10 rfl (by decide) ?_
    obtain rfl := Option.some.inj h
    exact Z_ireturn (st := []) hC hr hQ (dk d_X5_on 6 rfl)
def t_X5_year : List (Nat × Instr × Nat) := [(0, .iload_n 1, 1), (1, .invokestatic 76, 3), (4, .ifCond .ne 5, 3), (7, .iconst (-1), 1), (8, .ireturn, 1), (9, .aload_n 0, 1), (10, .getfield 131, 3), (13, .bipush 12, 2), (15, .if_icmp .ne 6, 3), (18, .bipush (-2), 2), (20, .ireturn, 1), (21, .aload_n 0, 1), (22, .getfield 125, 3), (25, .ifCond .ne 6, 3), (28, .bipush (-4), 2), (30, .ireturn, 1), (31, .aload_n 0, 1), (32, .iload_n 1, 1), (33, .invokevirtual 169, 3), (36, .istore_n 2, 1), (37, .iload_n 2, 1), (38, .ifCond .ge 5, 3), (41, .iload_n 2, 1), (42, .ireturn, 1), (43, .iconst 0, 1), (44, .istore_n 3, 1), (45, .iload_n 3, 1), (46, .aload_n 0, 1), (47, .getfield 125, 3), (50, .if_icmp .ge 29, 3), (53, .aload_n 0, 1), (54, .getfield 45, 3), (57, .bipush 6, 2), (59, .aload_n 0, 1), (60, .getfield 131, 3), (63, .imul, 1), (64, .iload_n 3, 1), (65, .iadd, 1), (66, .aload_n 0, 1), (67, .getfield 48, 3), (70, .iload_n 3, 1), (71, .iaload, 1), (72, .iastore, 1), (73, .iinc 3 1, 3), (76, .goto (-31), 3), (79, .aload_n 0, 1), (80, .dup, 1), (81, .getfield 131, 3), (84, .iconst 1, 1), (85, .iadd, 1), (86, .putfield 131, 3), (89, .aload_n 0, 1), (90, .getfield 131, 3), (93, .iconst 1, 1), (94, .isub, 1), (95, .ireturn, 1)]
set_option maxRecDepth 20000 in
theorem d_X5_year : ∀ q ∈ t_X5_year, decode cX5_year q.1 = .ok q.2 := by decide +kernel
noncomputable def X5_year_L1 (N : Nat) : Nat → Int32 → Wd → Option (Wd)
  | 0, _, _ => none
  | n + 1, x3, w =>
  if (gI w 510 0) ≤ x3 then
    some w
  else
    gd (vp_in x3 6) (
    gd (vp_in (((6 : Int32) * (gI w 518 0)) + x3) 252) (
    X5_year_L1 N n (x3 + (1 : Int32)) (sA w 39 0 (upd (gA w 39 0) (((6 : Int32) * (gI w 518 0)) + x3).toNatClampNeg (gA w 40 0 x3.toNatClampNeg)))))
set_option maxRecDepth 20000 in
set_option maxHeartbeats 4000000 in
theorem z_X5_year_L1 {x : CX} (hC : Cx x RX5 cX5_year 4 4) (hr : (xM x).sig.returnType = (some .int)) (N : Nat) : ∀ (n : Nat) (x3 : Int32) (w : Wd) (q : (Wd)), X5_year_L1 N n x3 w = some q → Z x 79 [some (vr 5 0), none, none, none] [] q → Z x 45 [some (vr 5 0), none, none, some (vi x3)] [] w := by
  intro n
  induction n with
  | zero =>
    intro x3 w q h
    cases h
  | succ n ih =>
    intro x3 w q h ke
    rw [X5_year_L1] at h
    refine Z_iload_n hC (dk d_X5_year 26 rfl) 46 rfl rfl rfl ?_
    refine Z_aload_n hC (dk d_X5_year 27 rfl) 47 rfl rfl rfl ?_
    refine G_X5_125 hC m_5 (dk d_X5_year 28 rfl) 50 rfl ?_
    refine Z_icmp_ge hC (dk d_X5_year 29 rfl) 53 79 rfl (by decide) (fun c => ?_) (fun c => ?_)
    · have h := it_t h c
      obtain rfl := Option.some.inj h
      refine Z_wk [true, false, false, false] [some (vr 5 0), none, none, none] rfl ?_
      exact ke
    · have h := it_f h c
      refine Z_aload_n hC (dk d_X5_year 30 rfl) 54 rfl rfl rfl ?_
      refine G_X5_45 hC m_5 (dk d_X5_year 31 rfl) 57 rfl ?_
      refine Z_bipush (v := 6) hC (dk d_X5_year 32 rfl) 59 rfl (by decide) ?_
      refine Z_aload_n hC (dk d_X5_year 33 rfl) 60 rfl rfl rfl ?_
      refine G_X5_131 hC m_5 (dk d_X5_year 34 rfl) 63 rfl ?_
      refine Z_imul hC (dk d_X5_year 35 rfl) 64 rfl ?_
      refine Z_iload_n hC (dk d_X5_year 36 rfl) 65 rfl rfl rfl ?_
      refine Z_iadd hC (dk d_X5_year 37 rfl) 66 rfl ?_
      refine Z_aload_n hC (dk d_X5_year 38 rfl) 67 rfl rfl rfl ?_
      refine G_X5_48 hC m_5 (dk d_X5_year 39 rfl) 70 rfl ?_
      refine Z_iload_n hC (dk d_X5_year 40 rfl) 71 rfl rfl rfl ?_
      obtain ⟨g3, h⟩ := gd_some h
      refine Z_iaload hC m_40 (by decide) rfl g3 (dk d_X5_year 41 rfl) 72 rfl ?_
      obtain ⟨g4, h⟩ := gd_some h
      refine Z_iastore hC m_39 (by decide) rfl g4 (dk d_X5_year 42 rfl) 73 rfl ?_
      refine Z_iinc hC (dk d_X5_year 43 rfl) 76 rfl rfl rfl [some (vr 5 0), none, none, some (vi (x3 + (1 : Int32)))] rfl ?_
      refine Z_goto hC (dk d_X5_year 44 rfl) 45 (by decide) ?_
      refine Z_wk [true, false, false, true] [some (vr 5 0), none, none, some (vi (x3 + (1 : Int32)))] rfl ?_
      exact ih (x3 + (1 : Int32)) (sA w 39 0 (upd (gA w 39 0) (((6 : Int32) * (gI w 518 0)) + x3).toNatClampNeg (gA w 40 0 x3.toNatClampNeg))) _ h ke
noncomputable def f_X5_year (N : Nat) (a1 : Int32) (w : Wd) : Option (Int32 × Wd) :=
  (f_X5_isRow N a1 w).bind (fun q1 =>
    if q1.1 = 0 then
      some ((-1 : Int32), q1.2)
    else
      if (gI q1.2 518 0) = (12 : Int32) then
        some ((-2 : Int32), q1.2)
      else
        if (gI q1.2 510 0) = 0 then
          some ((-4 : Int32), q1.2)
        else
          (f_X5_askedDrawing N a1 q1.2).bind (fun q2 =>
            if 0 ≤ q2.1 then
              (X5_year_L1 N N (0 : Int32) q2.2).bind (fun q5 =>
                some ((gI (sI q5 518 0 ((gI q5 518 0) + (1 : Int32))) 518 0) - (1 : Int32), sI q5 518 0 ((gI q5 518 0) + (1 : Int32))))
            else
              some (q2.1, q2.2)))
set_option maxRecDepth 20000 in
set_option maxHeartbeats 4000000 in
theorem s_X5_year (G : GT) (l : Launch) (N : Nat) (a1 : Int32) (w : Wd) (q : Int32 × Wd) (h : f_X5_year N a1 w = some q) : Sp G l yX5_year cw_X5_year 4 [vr 5 0, vi a1] w (some (vi q.1)) q.2 := by
  refine Sp_of (own := RX5) [some (vr 5 0), some (vi a1), none, none] (by decide) rfl rfl (Nat.le_of_ble_eq_true rfl) ?_
  intro x hG hl hC hr hQ _ _
  subst hG
  subst hl
  unfold f_X5_year at h
  refine Z_iload_n hC (dk d_X5_year 0 rfl) 1 rfl rfl rfl ?_
  obtain ⟨q1, hq1, h⟩ := bd_some h
  refine K_X5_76 [vi a1] hC (s_X5_isRow (xG x) (xl x) N a1 w q1 hq1) (Nat.le_of_ble_eq_true rfl) rfl rfl rfl (Nat.le_of_ble_eq_true rfl) (dk d_X5_year 1 rfl) 4 rfl ?_
  refine Z_if_ne hC (dk d_X5_year 2 rfl) 7 9 rfl (by decide) (fun c => ?_) (fun c => ?_)
  · have h := it_f h c
    refine Z_aload_n hC (dk d_X5_year 5 rfl) 10 rfl rfl rfl ?_
    refine G_X5_131 hC m_5 (dk d_X5_year 6 rfl) 13 rfl ?_
    refine Z_bipush (v := 12) hC (dk d_X5_year 7 rfl) 15 rfl (by decide) ?_
    refine Z_icmp_ne hC (dk d_X5_year 8 rfl) 18 21 rfl (by decide) (fun c => ?_) (fun c => ?_)
    · have h := it_f h c
      refine Z_aload_n hC (dk d_X5_year 11 rfl) 22 rfl rfl rfl ?_
      refine G_X5_125 hC m_5 (dk d_X5_year 12 rfl) 25 rfl ?_
      refine Z_if_ne hC (dk d_X5_year 13 rfl) 28 31 rfl (by decide) (fun c => ?_) (fun c => ?_)
      · have h := it_f h c
        refine Z_aload_n hC (dk d_X5_year 16 rfl) 32 rfl rfl rfl ?_
        refine Z_iload_n hC (dk d_X5_year 17 rfl) 33 rfl rfl rfl ?_
        obtain ⟨q2, hq2, h⟩ := bd_some h
        refine K_X5_169 [vi a1] hC m_5 (s_X5_askedDrawing (xG x) (xl x) N a1 q1.2 q2 hq2) (Nat.le_of_ble_eq_true rfl) rfl rfl rfl (Nat.le_of_ble_eq_true rfl) (dk d_X5_year 18 rfl) 36 rfl ?_
        refine Z_istore_n hC (dk d_X5_year 19 rfl) 37 rfl rfl (Nat.le_of_ble_eq_true rfl) [some (vr 5 0), some (vi a1), some (vi q2.1), none] rfl ?_
        refine Z_iload_n hC (dk d_X5_year 20 rfl) 38 rfl rfl rfl ?_
        refine Z_if_ge hC (dk d_X5_year 21 rfl) 41 43 rfl (by decide) (fun c => ?_) (fun c => ?_)
        · have h := it_t h c
          refine Z_iconst (v := 0) hC (dk d_X5_year 24 rfl) 44 rfl (by decide) ?_
          refine Z_istore_n hC (dk d_X5_year 25 rfl) 45 rfl rfl (Nat.le_of_ble_eq_true rfl) [some (vr 5 0), some (vi a1), some (vi q2.1), some (vi (0 : Int32))] rfl ?_
          obtain ⟨q5, hq5, h⟩ := bd_some h
          refine Z_wk [true, false, false, true] [some (vr 5 0), none, none, some (vi (0 : Int32))] rfl ?_
          refine z_X5_year_L1 hC hr N N (0 : Int32) q2.2 q5 hq5 ?_
          refine Z_aload_n hC (dk d_X5_year 45 rfl) 80 rfl rfl rfl ?_
          refine Z_dup hC (dk d_X5_year 46 rfl) 81 rfl rfl ?_
          refine G_X5_131 hC m_5 (dk d_X5_year 47 rfl) 84 rfl ?_
          refine Z_iconst (v := 1) hC (dk d_X5_year 48 rfl) 85 rfl (by decide) ?_
          refine Z_iadd hC (dk d_X5_year 49 rfl) 86 rfl ?_
          refine P_X5_131 hC m_5 (dk d_X5_year 50 rfl) 89 rfl ?_
          refine Z_aload_n hC (dk d_X5_year 51 rfl) 90 rfl rfl rfl ?_
          refine G_X5_131 hC m_5 (dk d_X5_year 52 rfl) 93 rfl ?_
          refine Z_iconst (v := 1) hC (dk d_X5_year 53 rfl) 94 rfl (by decide) ?_
          refine Z_isub hC (dk d_X5_year 54 rfl) 95 rfl ?_
          obtain rfl := Option.some.inj h
          exact Z_ireturn (st := []) hC hr hQ (dk d_X5_year 55 rfl)
        · have h := it_f h c
          refine Z_iload_n hC (dk d_X5_year 22 rfl) 42 rfl rfl rfl ?_
          obtain rfl := Option.some.inj h
          exact Z_ireturn (st := []) hC hr hQ (dk d_X5_year 23 rfl)
      · have h := it_t h c
        refine Z_bipush (v := -4) hC (dk d_X5_year 14 rfl) 30 rfl (by decide) ?_
        obtain rfl := Option.some.inj h
        exact Z_ireturn (st := []) hC hr hQ (dk d_X5_year 15 rfl)
    · have h := it_t h c
      refine Z_bipush (v := -2) hC (dk d_X5_year 9 rfl) 20 rfl (by decide) ?_
      obtain rfl := Option.some.inj h
      exact Z_ireturn (st := []) hC hr hQ (dk d_X5_year 10 rfl)
  · have h := it_t h c
    refine Z_iconst (v := -1) hC (dk d_X5_year 3 rfl) 8 rfl (by decide) ?_
    obtain rfl := Option.some.inj h
    exact Z_ireturn (st := []) hC hr hQ (dk d_X5_year 4 rfl)
def t_X5_forget : List (Nat × Instr × Nat) := [(0, .iload_n 1, 1), (1, .iconst 0, 1), (2, .aload_n 0, 1), (3, .getfield 131, 3), (6, .invokestatic 72, 3), (9, .ifCond .ne 5, 3), (12, .iconst (-1), 1), (13, .ireturn, 1), (14, .aload_n 0, 1), (15, .getfield 131, 3), (18, .iload_n 1, 1), (19, .isub, 1), (20, .istore_n 2, 1), (21, .aload_n 0, 1), (22, .iload_n 1, 1), (23, .putfield 131, 3), (26, .iload_n 2, 1), (27, .ireturn, 1)]
set_option maxRecDepth 20000 in
theorem d_X5_forget : ∀ q ∈ t_X5_forget, decode cX5_forget q.1 = .ok q.2 := by decide +kernel
noncomputable def f_X5_forget (N : Nat) (a1 : Int32) (w : Wd) : Option (Int32 × Wd) :=
  (f_X5_in N a1 (0 : Int32) (gI w 518 0) w).bind (fun q1 =>
    if q1.1 = 0 then
      some ((-1 : Int32), q1.2)
    else
      some ((gI q1.2 518 0) - a1, sI q1.2 518 0 a1))
set_option maxRecDepth 20000 in
set_option maxHeartbeats 4000000 in
theorem s_X5_forget (G : GT) (l : Launch) (N : Nat) (a1 : Int32) (w : Wd) (q : Int32 × Wd) (h : f_X5_forget N a1 w = some q) : Sp G l yX5_forget cw_X5_forget 1 [vr 5 0, vi a1] w (some (vi q.1)) q.2 := by
  refine Sp_of (own := RX5) [some (vr 5 0), some (vi a1), none] (by decide) rfl rfl (Nat.le_of_ble_eq_true rfl) ?_
  intro x hG hl hC hr hQ _ _
  subst hG
  subst hl
  unfold f_X5_forget at h
  refine Z_iload_n hC (dk d_X5_forget 0 rfl) 1 rfl rfl rfl ?_
  refine Z_iconst (v := 0) hC (dk d_X5_forget 1 rfl) 2 rfl (by decide) ?_
  refine Z_aload_n hC (dk d_X5_forget 2 rfl) 3 rfl rfl rfl ?_
  refine G_X5_131 hC m_5 (dk d_X5_forget 3 rfl) 6 rfl ?_
  obtain ⟨q1, hq1, h⟩ := bd_some h
  refine K_X5_72 [vi a1, vi (0 : Int32), vi (gI w 518 0)] hC (s_X5_in (xG x) (xl x) N a1 (0 : Int32) (gI w 518 0) w q1 hq1) (Nat.le_of_ble_eq_true rfl) rfl rfl rfl (Nat.le_of_ble_eq_true rfl) (dk d_X5_forget 4 rfl) 9 rfl ?_
  refine Z_if_ne hC (dk d_X5_forget 5 rfl) 12 14 rfl (by decide) (fun c => ?_) (fun c => ?_)
  · have h := it_f h c
    refine Z_aload_n hC (dk d_X5_forget 8 rfl) 15 rfl rfl rfl ?_
    refine G_X5_131 hC m_5 (dk d_X5_forget 9 rfl) 18 rfl ?_
    refine Z_iload_n hC (dk d_X5_forget 10 rfl) 19 rfl rfl rfl ?_
    refine Z_isub hC (dk d_X5_forget 11 rfl) 20 rfl ?_
    refine Z_istore_n hC (dk d_X5_forget 12 rfl) 21 rfl rfl (Nat.le_of_ble_eq_true rfl) [some (vr 5 0), some (vi a1), some (vi ((gI q1.2 518 0) - a1))] rfl ?_
    refine Z_aload_n hC (dk d_X5_forget 13 rfl) 22 rfl rfl rfl ?_
    refine Z_iload_n hC (dk d_X5_forget 14 rfl) 23 rfl rfl rfl ?_
    refine P_X5_131 hC m_5 (dk d_X5_forget 15 rfl) 26 rfl ?_
    refine Z_iload_n hC (dk d_X5_forget 16 rfl) 27 rfl rfl rfl ?_
    obtain rfl := Option.some.inj h
    exact Z_ireturn (st := []) hC hr hQ (dk d_X5_forget 17 rfl)
  · have h := it_t h c
    refine Z_iconst (v := -1) hC (dk d_X5_forget 6 rfl) 13 rfl (by decide) ?_
    obtain rfl := Option.some.inj h
    exact Z_ireturn (st := []) hC hr hQ (dk d_X5_forget 7 rfl)
def t_X5_isYear : List (Nat × Instr × Nat) := [(0, .iconst 0, 1), (1, .istore_n 2, 1), (2, .iload_n 2, 1), (3, .aload_n 0, 1), (4, .getfield 131, 3), (7, .if_icmp .ge 67, 3), (10, .iconst 1, 1), (11, .istore_n 3, 1), (12, .iconst 0, 1), (13, .istore 4, 2), (15, .iload 4, 2), (17, .aload_n 0, 1), (18, .getfield 125, 3), (21, .if_icmp .ge 41, 3), (24, .iload_n 3, 1), (25, .ifCond .eq 29, 3), (28, .aload_n 0, 1), (29, .getfield 45, 3), (32, .bipush 6, 2), (34, .iload_n 2, 1), (35, .imul, 1), (36, .iload 4, 2), (38, .iadd, 1), (39, .iaload, 1), (40, .aload_n 0, 1), (41, .iload_n 1, 1), (42, .iload 4, 2), (44, .invokevirtual 191, 3), (47, .if_icmp .ne 7, 3), (50, .iconst 1, 1), (51, .goto 4, 3), (54, .iconst 0, 1), (55, .istore_n 3, 1), (56, .iinc 4 1, 3), (59, .goto (-44), 3), (62, .iload_n 3, 1), (63, .ifCond .eq 5, 3), (66, .iconst 1, 1), (67, .ireturn, 1), (68, .iinc 2 1, 3), (71, .goto (-69), 3), (74, .iconst 0, 1), (75, .ireturn, 1)]
set_option maxRecDepth 20000 in
theorem d_X5_isYear : ∀ q ∈ t_X5_isYear, decode cX5_isYear q.1 = .ok q.2 := by decide +kernel
noncomputable def X5_isYear_L2 (N : Nat) (x1 : Int32) (x2 : Int32) : Nat → Int32 → Int32 → Wd → Option (Int32 × Wd)
  | 0, _, _, _ => none
  | n + 1, x3, x4, w =>
  if (gI w 510 0) ≤ x4 then
    some (x3, w)
  else
    if x3 = 0 then
      X5_isYear_L2 N x1 x2 n (0 : Int32) (x4 + (1 : Int32)) w
    else
      gd (vp_in (((6 : Int32) * x2) + x4) 252) (
      (f_X5_right N x1 x4 w).bind (fun q2 =>
        if (gA w 39 0 (((6 : Int32) * x2) + x4).toNatClampNeg) = q2.1 then
          X5_isYear_L2 N x1 x2 n (1 : Int32) (x4 + (1 : Int32)) q2.2
        else
          X5_isYear_L2 N x1 x2 n (0 : Int32) (x4 + (1 : Int32)) q2.2))
set_option maxRecDepth 20000 in
set_option maxHeartbeats 4000000 in
theorem z_X5_isYear_L2 {x : CX} (hC : Cx x RX5 cX5_isYear 5 1) (hr : (xM x).sig.returnType = (some .boolean)) (N : Nat) (x1 : Int32) (x2 : Int32) : ∀ (n : Nat) (x3 : Int32) (x4 : Int32) (w : Wd) (q : (Int32 × Wd)), X5_isYear_L2 N x1 x2 n x3 x4 w = some q → Z x 62 [some (vr 5 0), some (vi x1), some (vi x2), some (vi q.1), none] [] q.2 → Z x 15 [some (vr 5 0), some (vi x1), some (vi x2), some (vi x3), some (vi x4)] [] w := by
  intro n
  induction n with
  | zero =>
    intro x3 x4 w q h
    cases h
  | succ n ih =>
    intro x3 x4 w q h ke
    rw [X5_isYear_L2] at h
    refine Z_iload hC (dk d_X5_isYear 10 rfl) 17 rfl rfl ?_
    refine Z_aload_n hC (dk d_X5_isYear 11 rfl) 18 rfl rfl rfl ?_
    refine G_X5_125 hC m_5 (dk d_X5_isYear 12 rfl) 21 rfl ?_
    refine Z_icmp_ge hC (dk d_X5_isYear 13 rfl) 24 62 rfl (by decide) (fun c => ?_) (fun c => ?_)
    · have h := it_t h c
      obtain rfl := Option.some.inj h
      refine Z_wk [true, true, true, true, false] [some (vr 5 0), some (vi x1), some (vi x2), some (vi x3), none] rfl ?_
      exact ke
    · have h := it_f h c
      refine Z_iload_n hC (dk d_X5_isYear 14 rfl) 25 rfl rfl rfl ?_
      refine Z_if_eq hC (dk d_X5_isYear 15 rfl) 28 54 rfl (by decide) (fun c => ?_) (fun c => ?_)
      · have h := it_t h c
        refine Z_iconst (v := 0) hC (dk d_X5_isYear 31 rfl) 55 rfl (by decide) ?_
        refine Z_istore_n hC (dk d_X5_isYear 32 rfl) 56 rfl rfl (Nat.le_of_ble_eq_true rfl) [some (vr 5 0), some (vi x1), some (vi x2), some (vi (0 : Int32)), some (vi x4)] rfl ?_
        refine Z_iinc hC (dk d_X5_isYear 33 rfl) 59 rfl rfl rfl [some (vr 5 0), some (vi x1), some (vi x2), some (vi (0 : Int32)), some (vi (x4 + (1 : Int32)))] rfl ?_
        refine Z_goto hC (dk d_X5_isYear 34 rfl) 15 (by decide) ?_
        refine Z_wk [true, true, true, true, true] [some (vr 5 0), some (vi x1), some (vi x2), some (vi (0 : Int32)), some (vi (x4 + (1 : Int32)))] rfl ?_
        exact ih (0 : Int32) (x4 + (1 : Int32)) w _ h ke
      · have h := it_f h c
        refine Z_aload_n hC (dk d_X5_isYear 16 rfl) 29 rfl rfl rfl ?_
        refine G_X5_45 hC m_5 (dk d_X5_isYear 17 rfl) 32 rfl ?_
        refine Z_bipush (v := 6) hC (dk d_X5_isYear 18 rfl) 34 rfl (by decide) ?_
        refine Z_iload_n hC (dk d_X5_isYear 19 rfl) 35 rfl rfl rfl ?_
        refine Z_imul hC (dk d_X5_isYear 20 rfl) 36 rfl ?_
        refine Z_iload hC (dk d_X5_isYear 21 rfl) 38 rfl rfl ?_
        refine Z_iadd hC (dk d_X5_isYear 22 rfl) 39 rfl ?_
        obtain ⟨g1, h⟩ := gd_some h
        refine Z_iaload hC m_39 (by decide) rfl g1 (dk d_X5_isYear 23 rfl) 40 rfl ?_
        refine Z_aload_n hC (dk d_X5_isYear 24 rfl) 41 rfl rfl rfl ?_
        refine Z_iload_n hC (dk d_X5_isYear 25 rfl) 42 rfl rfl rfl ?_
        refine Z_iload hC (dk d_X5_isYear 26 rfl) 44 rfl rfl ?_
        obtain ⟨q2, hq2, h⟩ := bd_some h
        refine K_X5_191 [vi x1, vi x4] hC m_5 (s_X5_right (xG x) (xl x) N x1 x4 w q2 hq2) (Nat.le_of_ble_eq_true rfl) rfl rfl rfl (Nat.le_of_ble_eq_true rfl) (dk d_X5_isYear 27 rfl) 47 rfl ?_
        refine Z_icmp_ne hC (dk d_X5_isYear 28 rfl) 50 54 rfl (by decide) (fun c => ?_) (fun c => ?_)
        · have h := it_f h c
          refine Z_iconst (v := 0) hC (dk d_X5_isYear 31 rfl) 55 rfl (by decide) ?_
          refine Z_istore_n hC (dk d_X5_isYear 32 rfl) 56 rfl rfl (Nat.le_of_ble_eq_true rfl) [some (vr 5 0), some (vi x1), some (vi x2), some (vi (0 : Int32)), some (vi x4)] rfl ?_
          refine Z_iinc hC (dk d_X5_isYear 33 rfl) 59 rfl rfl rfl [some (vr 5 0), some (vi x1), some (vi x2), some (vi (0 : Int32)), some (vi (x4 + (1 : Int32)))] rfl ?_
          refine Z_goto hC (dk d_X5_isYear 34 rfl) 15 (by decide) ?_
          refine Z_wk [true, true, true, true, true] [some (vr 5 0), some (vi x1), some (vi x2), some (vi (0 : Int32)), some (vi (x4 + (1 : Int32)))] rfl ?_
          exact ih (0 : Int32) (x4 + (1 : Int32)) q2.2 _ h ke
        · have h := it_t h c
          refine Z_iconst (v := 1) hC (dk d_X5_isYear 29 rfl) 51 rfl (by decide) ?_
          refine Z_goto hC (dk d_X5_isYear 30 rfl) 55 (by decide) ?_
          refine Z_istore_n hC (dk d_X5_isYear 32 rfl) 56 rfl rfl (Nat.le_of_ble_eq_true rfl) [some (vr 5 0), some (vi x1), some (vi x2), some (vi (1 : Int32)), some (vi x4)] rfl ?_
          refine Z_iinc hC (dk d_X5_isYear 33 rfl) 59 rfl rfl rfl [some (vr 5 0), some (vi x1), some (vi x2), some (vi (1 : Int32)), some (vi (x4 + (1 : Int32)))] rfl ?_
          refine Z_goto hC (dk d_X5_isYear 34 rfl) 15 (by decide) ?_
          refine Z_wk [true, true, true, true, true] [some (vr 5 0), some (vi x1), some (vi x2), some (vi (1 : Int32)), some (vi (x4 + (1 : Int32)))] rfl ?_
          exact ih (1 : Int32) (x4 + (1 : Int32)) q2.2 _ h ke
noncomputable def X5_isYear_L1 (N : Nat) (x1 : Int32) : Nat → Int32 → Wd → Option ((Int32 × Wd) ⊕ (Wd))
  | 0, _, _ => none
  | n + 1, x2, w =>
  if (gI w 518 0) ≤ x2 then
    some (.inr w)
  else
    (X5_isYear_L2 N x1 x2 N (1 : Int32) (0 : Int32) w).bind (fun q3 =>
      if q3.1 = 0 then
        X5_isYear_L1 N x1 n (x2 + (1 : Int32)) q3.2
      else
        some (.inl ((1 : Int32), q3.2)))
set_option maxRecDepth 20000 in
set_option maxHeartbeats 4000000 in
theorem z_X5_isYear_L1 {x : CX} (hC : Cx x RX5 cX5_isYear 5 1) (hr : (xM x).sig.returnType = (some .boolean)) (N : Nat) (x1 : Int32) : ∀ (n : Nat) (x2 : Int32) (w : Wd) (q : ((Int32 × Wd) ⊕ (Wd))), X5_isYear_L1 N x1 n x2 w = some q → (∀ r : Int32 × Wd, q = .inl r → Rt x (some (vi r.1)) r.2) → (∀ o : Wd, q = .inr o → Z x 74 [none, none, none, none, none] [] o) → Z x 2 [some (vr 5 0), some (vi x1), some (vi x2), none, none] [] w := by
  intro n
  induction n with
  | zero =>
    intro x2 w q h
    cases h
  | succ n ih =>
    intro x2 w q h kr ke
    rw [X5_isYear_L1] at h
    refine Z_iload_n hC (dk d_X5_isYear 2 rfl) 3 rfl rfl rfl ?_
    refine Z_aload_n hC (dk d_X5_isYear 3 rfl) 4 rfl rfl rfl ?_
    refine G_X5_131 hC m_5 (dk d_X5_isYear 4 rfl) 7 rfl ?_
    refine Z_icmp_ge hC (dk d_X5_isYear 5 rfl) 10 74 rfl (by decide) (fun c => ?_) (fun c => ?_)
    · have h := it_t h c
      obtain rfl := Option.some.inj h
      refine Z_wk [false, false, false, false, false] [none, none, none, none, none] rfl ?_
      exact ke _ rfl
    · have h := it_f h c
      refine Z_iconst (v := 1) hC (dk d_X5_isYear 6 rfl) 11 rfl (by decide) ?_
      refine Z_istore_n hC (dk d_X5_isYear 7 rfl) 12 rfl rfl (Nat.le_of_ble_eq_true rfl) [some (vr 5 0), some (vi x1), some (vi x2), some (vi (1 : Int32)), none] rfl ?_
      refine Z_iconst (v := 0) hC (dk d_X5_isYear 8 rfl) 13 rfl (by decide) ?_
      refine Z_istore hC (dk d_X5_isYear 9 rfl) 15 rfl (Nat.le_of_ble_eq_true rfl) [some (vr 5 0), some (vi x1), some (vi x2), some (vi (1 : Int32)), some (vi (0 : Int32))] rfl ?_
      obtain ⟨q3, hq3, h⟩ := bd_some h
      refine Z_wk [true, true, true, true, true] [some (vr 5 0), some (vi x1), some (vi x2), some (vi (1 : Int32)), some (vi (0 : Int32))] rfl ?_
      refine z_X5_isYear_L2 hC hr N x1 x2 N (1 : Int32) (0 : Int32) w q3 hq3 ?_
      refine Z_iload_n hC (dk d_X5_isYear 35 rfl) 63 rfl rfl rfl ?_
      refine Z_if_eq hC (dk d_X5_isYear 36 rfl) 66 68 rfl (by decide) (fun c => ?_) (fun c => ?_)
      · have h := it_t h c
        refine Z_iinc hC (dk d_X5_isYear 39 rfl) 71 rfl rfl rfl [some (vr 5 0), some (vi x1), some (vi (x2 + (1 : Int32))), some (vi q3.1), none] rfl ?_
        refine Z_goto hC (dk d_X5_isYear 40 rfl) 2 (by decide) ?_
        refine Z_wk [true, true, true, false, false] [some (vr 5 0), some (vi x1), some (vi (x2 + (1 : Int32))), none, none] rfl ?_
        exact ih (x2 + (1 : Int32)) q3.2 _ h kr ke
      · have h := it_f h c
        refine Z_iconst (v := 1) hC (dk d_X5_isYear 37 rfl) 67 rfl (by decide) ?_
        obtain rfl := Option.some.inj h
        exact Z_zreturn (st := []) hC hr rfl (kr _ rfl) (dk d_X5_isYear 38 rfl)
noncomputable def f_X5_isYear (N : Nat) (a1 : Int32) (w : Wd) : Option (Int32 × Wd) :=
  (X5_isYear_L1 N a1 N (0 : Int32) w).bind (Sum.elim some (fun q4 =>
    some ((0 : Int32), q4)))
set_option maxRecDepth 20000 in
set_option maxHeartbeats 4000000 in
theorem s_X5_isYear (G : GT) (l : Launch) (N : Nat) (a1 : Int32) (w : Wd) (q : Int32 × Wd) (h : f_X5_isYear N a1 w = some q) : Sp G l yX5_isYear cw_X5_isYear 1 [vr 5 0, vi a1] w (some (vi q.1)) q.2 := by
  refine Sp_of (own := RX5) [some (vr 5 0), some (vi a1), none, none, none] (by decide) rfl rfl (Nat.le_of_ble_eq_true rfl) ?_
  intro x hG hl hC hr hQ _ _
  subst hG
  subst hl
  unfold f_X5_isYear at h
  refine Z_iconst (v := 0) hC (dk d_X5_isYear 0 rfl) 1 rfl (by decide) ?_
  refine Z_istore_n hC (dk d_X5_isYear 1 rfl) 2 rfl rfl (Nat.le_of_ble_eq_true rfl) [some (vr 5 0), some (vi a1), some (vi (0 : Int32)), none, none] rfl ?_
  obtain ⟨q4, hq4, h⟩ := bd_some h
  refine Z_wk [true, true, true, false, false] [some (vr 5 0), some (vi a1), some (vi (0 : Int32)), none, none] rfl ?_
  refine z_X5_isYear_L1 hC hr N a1 N (0 : Int32) w q4 hq4 (fun r e => ?_) (fun o e => ?_)
  · subst e
    obtain rfl := Option.some.inj h
    exact hQ
  · subst e
    obtain ⟨q4, rfl⟩ : ∃ z, z = o := ⟨_, rfl⟩
    refine Z_iconst (v := 0) hC (dk d_X5_isYear 41 rfl) 75 rfl (by decide) ?_
    obtain rfl := Option.some.inj h
    exact Z_zreturn (st := []) hC hr rfl hQ (dk d_X5_isYear 42 rfl)
def t_X5_run : List (Nat × Instr × Nat) := [(0, .aload_n 0, 1), (1, .getfield 131, 3), (4, .istore_n 1, 1), (5, .aload_n 0, 1), (6, .getfield 125, 3), (9, .ifCond .le 7, 3), (12, .iconst 1, 1), (13, .goto 4, 3), (16, .iconst 0, 1), (17, .istore_n 2, 1), (18, .iload_n 2, 1), (19, .ifCond .eq 113, 3), (22, .aload_n 0, 1), (23, .getfield 131, 3), (26, .iload_n 1, 1), (27, .isub, 1), (28, .bipush 30, 2), (30, .if_icmp .ge 102, 3), (33, .aload_n 0, 1), (34, .invokevirtual 185, 3), (37, .iconst 0, 1), (38, .istore_n 3, 1), (39, .iload_n 3, 1), (40, .aload_n 0, 1), (41, .getfield 175, 3), (44, .if_icmp .ge 17, 3), (47, .aload_n 0, 1), (48, .iload_n 3, 1), (49, .invokevirtual 231, 3), (52, .ifCond .eq 9, 3), (55, .iinc 3 1, 3), (58, .goto (-19), 3), (61, .iload_n 3, 1), (62, .aload_n 0, 1), (63, .getfield 175, 3), (66, .if_icmp .ge 7, 3), (69, .iconst 1, 1), (70, .goto 4, 3), (73, .iconst 0, 1), (74, .istore_n 2, 1), (75, .iload_n 2, 1), (76, .ifCond .eq 53, 3), (79, .iconst 0, 1), (80, .istore 4, 2), (82, .iload 4, 2), (84, .aload_n 0, 1), (85, .getfield 125, 3), (88, .if_icmp .ge 31, 3), (91, .aload_n 0, 1), (92, .getfield 45, 3), (95, .bipush 6, 2), (97, .aload_n 0, 1), (98, .getfield 131, 3), (101, .imul, 1), (102, .iload 4, 2), (104, .iadd, 1), (105, .aload_n 0, 1), (106, .iload_n 3, 1), (107, .iload 4, 2), (109, .invokevirtual 191, 3), (112, .iastore, 1), (113, .iinc 4 1, 3), (116, .goto (-34), 3), (119, .aload_n 0, 1), (120, .dup, 1), (121, .getfield 131, 3), (124, .iconst 1, 1), (125, .iadd, 1), (126, .putfield 131, 3), (129, .goto (-111), 3), (132, .aload_n 0, 1), (133, .getfield 131, 3), (136, .iload_n 1, 1), (137, .isub, 1), (138, .istore_n 3, 1), (139, .aload_n 0, 1), (140, .iload_n 1, 1), (141, .putfield 131, 3), (144, .iload_n 3, 1), (145, .ireturn, 1)]
set_option maxRecDepth 20000 in
theorem d_X5_run : ∀ q ∈ t_X5_run, decode cX5_run q.1 = .ok q.2 := by decide +kernel
noncomputable def X5_run_L2 (N : Nat) (x1 : Int32) : Nat → Int32 → Wd → Option (Int32 × Wd)
  | 0, _, _ => none
  | n + 1, x3, w =>
  if (gI w 522 0) ≤ x3 then
    some (x3, w)
  else
    (f_X5_isYear N x3 w).bind (fun q2 =>
      if q2.1 = 0 then
        some (x3, q2.2)
      else
        X5_run_L2 N x1 n (x3 + (1 : Int32)) q2.2)
set_option maxRecDepth 20000 in
set_option maxHeartbeats 4000000 in
theorem z_X5_run_L2 {x : CX} (hC : Cx x RX5 cX5_run 5 13) (hr : (xM x).sig.returnType = (some .int)) (N : Nat) (x1 : Int32) : ∀ (n : Nat) (x3 : Int32) (w : Wd) (q : (Int32 × Wd)), X5_run_L2 N x1 n x3 w = some q → Z x 61 [some (vr 5 0), some (vi x1), none, some (vi q.1), none] [] q.2 → Z x 39 [some (vr 5 0), some (vi x1), none, some (vi x3), none] [] w := by
  intro n
  induction n with
  | zero =>
    intro x3 w q h
    cases h
  | succ n ih =>
    intro x3 w q h ke
    rw [X5_run_L2] at h
    refine Z_iload_n hC (dk d_X5_run 22 rfl) 40 rfl rfl rfl ?_
    refine Z_aload_n hC (dk d_X5_run 23 rfl) 41 rfl rfl rfl ?_
    refine G_X5_175 hC m_5 (dk d_X5_run 24 rfl) 44 rfl ?_
    refine Z_icmp_ge hC (dk d_X5_run 25 rfl) 47 61 rfl (by decide) (fun c => ?_) (fun c => ?_)
    · have h := it_t h c
      obtain rfl := Option.some.inj h
      refine Z_wk [true, true, false, true, false] [some (vr 5 0), some (vi x1), none, some (vi x3), none] rfl ?_
      exact ke
    · have h := it_f h c
      refine Z_aload_n hC (dk d_X5_run 26 rfl) 48 rfl rfl rfl ?_
      refine Z_iload_n hC (dk d_X5_run 27 rfl) 49 rfl rfl rfl ?_
      obtain ⟨q2, hq2, h⟩ := bd_some h
      refine K_X5_231 [vi x3] hC m_5 (s_X5_isYear (xG x) (xl x) N x3 w q2 hq2) (Nat.le_of_ble_eq_true rfl) rfl rfl rfl (Nat.le_of_ble_eq_true rfl) (dk d_X5_run 28 rfl) 52 rfl ?_
      refine Z_if_eq hC (dk d_X5_run 29 rfl) 55 61 rfl (by decide) (fun c => ?_) (fun c => ?_)
      · have h := it_t h c
        obtain rfl := Option.some.inj h
        refine Z_wk [true, true, false, true, false] [some (vr 5 0), some (vi x1), none, some (vi x3), none] rfl ?_
        exact ke
      · have h := it_f h c
        refine Z_iinc hC (dk d_X5_run 30 rfl) 58 rfl rfl rfl [some (vr 5 0), some (vi x1), none, some (vi (x3 + (1 : Int32))), none] rfl ?_
        refine Z_goto hC (dk d_X5_run 31 rfl) 39 (by decide) ?_
        refine Z_wk [true, true, false, true, false] [some (vr 5 0), some (vi x1), none, some (vi (x3 + (1 : Int32))), none] rfl ?_
        exact ih (x3 + (1 : Int32)) q2.2 _ h ke
noncomputable def X5_run_L3 (N : Nat) (x1 : Int32) (x2 : Int32) (x3 : Int32) : Nat → Int32 → Wd → Option (Wd)
  | 0, _, _ => none
  | n + 1, x4, w =>
  if (gI w 510 0) ≤ x4 then
    some w
  else
    (f_X5_right N x3 x4 w).bind (fun q4 =>
      gd (vp_in (((6 : Int32) * (gI w 518 0)) + x4) 252) (
      X5_run_L3 N x1 x2 x3 n (x4 + (1 : Int32)) (sA q4.2 39 0 (upd (gA q4.2 39 0) (((6 : Int32) * (gI w 518 0)) + x4).toNatClampNeg q4.1))))
set_option maxRecDepth 20000 in
set_option maxHeartbeats 4000000 in
theorem z_X5_run_L3 {x : CX} (hC : Cx x RX5 cX5_run 5 13) (hr : (xM x).sig.returnType = (some .int)) (N : Nat) (x1 : Int32) (x2 : Int32) (x3 : Int32) : ∀ (n : Nat) (x4 : Int32) (w : Wd) (q : (Wd)), X5_run_L3 N x1 x2 x3 n x4 w = some q → Z x 119 [some (vr 5 0), some (vi x1), some (vi x2), none, none] [] q → Z x 82 [some (vr 5 0), some (vi x1), some (vi x2), some (vi x3), some (vi x4)] [] w := by
  intro n
  induction n with
  | zero =>
    intro x4 w q h
    cases h
  | succ n ih =>
    intro x4 w q h ke
    rw [X5_run_L3] at h
    refine Z_iload hC (dk d_X5_run 44 rfl) 84 rfl rfl ?_
    refine Z_aload_n hC (dk d_X5_run 45 rfl) 85 rfl rfl rfl ?_
    refine G_X5_125 hC m_5 (dk d_X5_run 46 rfl) 88 rfl ?_
    refine Z_icmp_ge hC (dk d_X5_run 47 rfl) 91 119 rfl (by decide) (fun c => ?_) (fun c => ?_)
    · have h := it_t h c
      obtain rfl := Option.some.inj h
      refine Z_wk [true, true, true, false, false] [some (vr 5 0), some (vi x1), some (vi x2), none, none] rfl ?_
      exact ke
    · have h := it_f h c
      refine Z_aload_n hC (dk d_X5_run 48 rfl) 92 rfl rfl rfl ?_
      refine G_X5_45 hC m_5 (dk d_X5_run 49 rfl) 95 rfl ?_
      refine Z_bipush (v := 6) hC (dk d_X5_run 50 rfl) 97 rfl (by decide) ?_
      refine Z_aload_n hC (dk d_X5_run 51 rfl) 98 rfl rfl rfl ?_
      refine G_X5_131 hC m_5 (dk d_X5_run 52 rfl) 101 rfl ?_
      refine Z_imul hC (dk d_X5_run 53 rfl) 102 rfl ?_
      refine Z_iload hC (dk d_X5_run 54 rfl) 104 rfl rfl ?_
      refine Z_iadd hC (dk d_X5_run 55 rfl) 105 rfl ?_
      refine Z_aload_n hC (dk d_X5_run 56 rfl) 106 rfl rfl rfl ?_
      refine Z_iload_n hC (dk d_X5_run 57 rfl) 107 rfl rfl rfl ?_
      refine Z_iload hC (dk d_X5_run 58 rfl) 109 rfl rfl ?_
      obtain ⟨q4, hq4, h⟩ := bd_some h
      refine K_X5_191 [vi x3, vi x4] hC m_5 (s_X5_right (xG x) (xl x) N x3 x4 w q4 hq4) (Nat.le_of_ble_eq_true rfl) rfl rfl rfl (Nat.le_of_ble_eq_true rfl) (dk d_X5_run 59 rfl) 112 rfl ?_
      obtain ⟨g5, h⟩ := gd_some h
      refine Z_iastore hC m_39 (by decide) rfl g5 (dk d_X5_run 60 rfl) 113 rfl ?_
      refine Z_iinc hC (dk d_X5_run 61 rfl) 116 rfl rfl rfl [some (vr 5 0), some (vi x1), some (vi x2), some (vi x3), some (vi (x4 + (1 : Int32)))] rfl ?_
      refine Z_goto hC (dk d_X5_run 62 rfl) 82 (by decide) ?_
      refine Z_wk [true, true, true, true, true] [some (vr 5 0), some (vi x1), some (vi x2), some (vi x3), some (vi (x4 + (1 : Int32)))] rfl ?_
      exact ih (x4 + (1 : Int32)) (sA q4.2 39 0 (upd (gA q4.2 39 0) (((6 : Int32) * (gI w 518 0)) + x4).toNatClampNeg q4.1)) _ h ke
noncomputable def X5_run_J74 (N : Nat) (go : Int32 → Wd → Option (Wd)) (x1 : Int32) (x3 : Int32) (s0 : Int32) (w : Wd) : Option (Wd) :=
  if s0 = 0 then
    go s0 w
  else
    (X5_run_L3 N x1 s0 x3 N (0 : Int32) w).bind (fun q6 =>
      go s0 (sI q6 518 0 ((gI q6 518 0) + (1 : Int32))))
set_option maxRecDepth 20000 in
set_option maxHeartbeats 4000000 in
theorem z_X5_run_J74 {x : CX} (hC : Cx x RX5 cX5_run 5 13) (hr : (xM x).sig.returnType = (some .int)) (N : Nat) (x1 : Int32) (x3 : Int32) (s0 : Int32) {go : Int32 → Wd → Option (Wd)} (hgo : ∀ (x2 : Int32) (w : Wd) (q : (Wd)), go x2 w = some q → Z x 132 [some (vr 5 0), some (vi x1), none, none, none] [] q → Z x 18 [some (vr 5 0), some (vi x1), some (vi x2), none, none] [] w) (w : Wd) (q : (Wd)) (h : X5_run_J74 N go x1 x3 s0 w = some q) (ke : Z x 132 [some (vr 5 0), some (vi x1), none, none, none] [] q) : Z x 74 [some (vr 5 0), some (vi x1), none, some (vi x3), none] [vi s0] w := by
  unfold X5_run_J74 at h
  refine Z_istore_n hC (dk d_X5_run 39 rfl) 75 rfl rfl (Nat.le_of_ble_eq_true rfl) [some (vr 5 0), some (vi x1), some (vi s0), some (vi x3), none] rfl ?_
  refine Z_iload_n hC (dk d_X5_run 40 rfl) 76 rfl rfl rfl ?_
  refine Z_if_eq hC (dk d_X5_run 41 rfl) 79 129 rfl (by decide) (fun c => ?_) (fun c => ?_)
  · have h := it_t h c
    refine Z_goto hC (dk d_X5_run 69 rfl) 18 (by decide) ?_
    refine Z_wk [true, true, true, false, false] [some (vr 5 0), some (vi x1), some (vi s0), none, none] rfl ?_
    exact hgo s0 w _ h ke
  · have h := it_f h c
    refine Z_iconst (v := 0) hC (dk d_X5_run 42 rfl) 80 rfl (by decide) ?_
    refine Z_istore hC (dk d_X5_run 43 rfl) 82 rfl (Nat.le_of_ble_eq_true rfl) [some (vr 5 0), some (vi x1), some (vi s0), some (vi x3), some (vi (0 : Int32))] rfl ?_
    obtain ⟨q6, hq6, h⟩ := bd_some h
    refine Z_wk [true, true, true, true, true] [some (vr 5 0), some (vi x1), some (vi s0), some (vi x3), some (vi (0 : Int32))] rfl ?_
    refine z_X5_run_L3 hC hr N x1 s0 x3 N (0 : Int32) w q6 hq6 ?_
    refine Z_aload_n hC (dk d_X5_run 63 rfl) 120 rfl rfl rfl ?_
    refine Z_dup hC (dk d_X5_run 64 rfl) 121 rfl rfl ?_
    refine G_X5_131 hC m_5 (dk d_X5_run 65 rfl) 124 rfl ?_
    refine Z_iconst (v := 1) hC (dk d_X5_run 66 rfl) 125 rfl (by decide) ?_
    refine Z_iadd hC (dk d_X5_run 67 rfl) 126 rfl ?_
    refine P_X5_131 hC m_5 (dk d_X5_run 68 rfl) 129 rfl ?_
    refine Z_goto hC (dk d_X5_run 69 rfl) 18 (by decide) ?_
    refine Z_wk [true, true, true, false, false] [some (vr 5 0), some (vi x1), some (vi s0), none, none] rfl ?_
    exact hgo s0 (sI q6 518 0 ((gI q6 518 0) + (1 : Int32))) _ h ke
noncomputable def X5_run_J61 (N : Nat) (go : Int32 → Wd → Option (Wd)) (x1 : Int32) (x3 : Int32) (w : Wd) : Option (Wd) :=
  if (gI w 522 0) ≤ x3 then
    X5_run_J74 N go x1 x3 (0 : Int32) w
  else
    X5_run_J74 N go x1 x3 (1 : Int32) w
set_option maxRecDepth 20000 in
set_option maxHeartbeats 4000000 in
theorem z_X5_run_J61 {x : CX} (hC : Cx x RX5 cX5_run 5 13) (hr : (xM x).sig.returnType = (some .int)) (N : Nat) (x1 : Int32) (x3 : Int32) {go : Int32 → Wd → Option (Wd)} (hgo : ∀ (x2 : Int32) (w : Wd) (q : (Wd)), go x2 w = some q → Z x 132 [some (vr 5 0), some (vi x1), none, none, none] [] q → Z x 18 [some (vr 5 0), some (vi x1), some (vi x2), none, none] [] w) (w : Wd) (q : (Wd)) (h : X5_run_J61 N go x1 x3 w = some q) (ke : Z x 132 [some (vr 5 0), some (vi x1), none, none, none] [] q) : Z x 61 [some (vr 5 0), some (vi x1), none, some (vi x3), none] [] w := by
  unfold X5_run_J61 at h
  refine Z_iload_n hC (dk d_X5_run 32 rfl) 62 rfl rfl rfl ?_
  refine Z_aload_n hC (dk d_X5_run 33 rfl) 63 rfl rfl rfl ?_
  refine G_X5_175 hC m_5 (dk d_X5_run 34 rfl) 66 rfl ?_
  refine Z_icmp_ge hC (dk d_X5_run 35 rfl) 69 73 rfl (by decide) (fun c => ?_) (fun c => ?_)
  · have h := it_t h c
    refine Z_iconst (v := 0) hC (dk d_X5_run 38 rfl) 74 rfl (by decide) ?_
    refine Z_wk [true, true, false, true, false] [some (vr 5 0), some (vi x1), none, some (vi x3), none] rfl ?_
    exact z_X5_run_J74 hC hr N x1 x3 (0 : Int32) hgo w _ h ke
  · have h := it_f h c
    refine Z_iconst (v := 1) hC (dk d_X5_run 36 rfl) 70 rfl (by decide) ?_
    refine Z_goto hC (dk d_X5_run 37 rfl) 74 (by decide) ?_
    refine Z_wk [true, true, false, true, false] [some (vr 5 0), some (vi x1), none, some (vi x3), none] rfl ?_
    exact z_X5_run_J74 hC hr N x1 x3 (1 : Int32) hgo w _ h ke
noncomputable def X5_run_L1 (N : Nat) (x1 : Int32) : Nat → Int32 → Wd → Option (Wd)
  | 0, _, _ => none
  | n + 1, x2, w =>
  if x2 = 0 then
    some w
  else
    if (30 : Int32) ≤ ((gI w 518 0) - x1) then
      some w
    else
      (f_X5_setRights N w).bind (fun q1 =>
        (X5_run_L2 N x1 N (0 : Int32) q1).bind (fun q3 =>
          X5_run_J61 N (X5_run_L1 N x1 n) x1 q3.1 q3.2))
set_option maxRecDepth 20000 in
set_option maxHeartbeats 4000000 in
theorem z_X5_run_L1 {x : CX} (hC : Cx x RX5 cX5_run 5 13) (hr : (xM x).sig.returnType = (some .int)) (N : Nat) (x1 : Int32) : ∀ (n : Nat) (x2 : Int32) (w : Wd) (q : (Wd)), X5_run_L1 N x1 n x2 w = some q → Z x 132 [some (vr 5 0), some (vi x1), none, none, none] [] q → Z x 18 [some (vr 5 0), some (vi x1), some (vi x2), none, none] [] w := by
  intro n
  induction n with
  | zero =>
    intro x2 w q h
    cases h
  | succ n ih =>
    intro x2 w q h ke
    rw [X5_run_L1] at h
    refine Z_iload_n hC (dk d_X5_run 10 rfl) 19 rfl rfl rfl ?_
    refine Z_if_eq hC (dk d_X5_run 11 rfl) 22 132 rfl (by decide) (fun c => ?_) (fun c => ?_)
    · have h := it_t h c
      obtain rfl := Option.some.inj h
      refine Z_wk [true, true, false, false, false] [some (vr 5 0), some (vi x1), none, none, none] rfl ?_
      exact ke
    · have h := it_f h c
      refine Z_aload_n hC (dk d_X5_run 12 rfl) 23 rfl rfl rfl ?_
      refine G_X5_131 hC m_5 (dk d_X5_run 13 rfl) 26 rfl ?_
      refine Z_iload_n hC (dk d_X5_run 14 rfl) 27 rfl rfl rfl ?_
      refine Z_isub hC (dk d_X5_run 15 rfl) 28 rfl ?_
      refine Z_bipush (v := 30) hC (dk d_X5_run 16 rfl) 30 rfl (by decide) ?_
      refine Z_icmp_ge hC (dk d_X5_run 17 rfl) 33 132 rfl (by decide) (fun c => ?_) (fun c => ?_)
      · have h := it_t h c
        obtain rfl := Option.some.inj h
        refine Z_wk [true, true, false, false, false] [some (vr 5 0), some (vi x1), none, none, none] rfl ?_
        exact ke
      · have h := it_f h c
        refine Z_aload_n hC (dk d_X5_run 18 rfl) 34 rfl rfl rfl ?_
        obtain ⟨q1, hq1, h⟩ := bd_some h
        refine K_X5_185 [] hC m_5 (s_X5_setRights (xG x) (xl x) N w q1 hq1) (Nat.le_of_ble_eq_true rfl) rfl rfl rfl (Nat.le_of_ble_eq_true rfl) (dk d_X5_run 19 rfl) 37 rfl ?_
        refine Z_iconst (v := 0) hC (dk d_X5_run 20 rfl) 38 rfl (by decide) ?_
        refine Z_istore_n hC (dk d_X5_run 21 rfl) 39 rfl rfl (Nat.le_of_ble_eq_true rfl) [some (vr 5 0), some (vi x1), some (vi x2), some (vi (0 : Int32)), none] rfl ?_
        obtain ⟨q3, hq3, h⟩ := bd_some h
        refine Z_wk [true, true, false, true, false] [some (vr 5 0), some (vi x1), none, some (vi (0 : Int32)), none] rfl ?_
        refine z_X5_run_L2 hC hr N x1 N (0 : Int32) q1 q3 hq3 ?_
        refine Z_wk [true, true, false, true, false] [some (vr 5 0), some (vi x1), none, some (vi q3.1), none] rfl ?_
        exact z_X5_run_J61 hC hr N x1 q3.1 ih q3.2 _ h ke
noncomputable def X5_run_J132 (N : Nat) (x1 : Int32) (w : Wd) : Option (Int32 × Wd) :=
  some ((gI w 518 0) - x1, sI w 518 0 x1)
set_option maxRecDepth 20000 in
set_option maxHeartbeats 4000000 in
theorem z_X5_run_J132 {x : CX} (hC : Cx x RX5 cX5_run 5 13) (hr : (xM x).sig.returnType = (some .int)) (N : Nat) (x1 : Int32) (w : Wd) (q : (Int32 × Wd)) (h : X5_run_J132 N x1 w = some q) (hQ : Rt x (some (vi q.1)) q.2) : Z x 132 [some (vr 5 0), some (vi x1), none, none, none] [] w := by
  unfold X5_run_J132 at h
  refine Z_aload_n hC (dk d_X5_run 70 rfl) 133 rfl rfl rfl ?_
  refine G_X5_131 hC m_5 (dk d_X5_run 71 rfl) 136 rfl ?_
  refine Z_iload_n hC (dk d_X5_run 72 rfl) 137 rfl rfl rfl ?_
  refine Z_isub hC (dk d_X5_run 73 rfl) 138 rfl ?_
  refine Z_istore_n hC (dk d_X5_run 74 rfl) 139 rfl rfl (Nat.le_of_ble_eq_true rfl) [some (vr 5 0), some (vi x1), none, some (vi ((gI w 518 0) - x1)), none] rfl ?_
  refine Z_aload_n hC (dk d_X5_run 75 rfl) 140 rfl rfl rfl ?_
  refine Z_iload_n hC (dk d_X5_run 76 rfl) 141 rfl rfl rfl ?_
  refine P_X5_131 hC m_5 (dk d_X5_run 77 rfl) 144 rfl ?_
  refine Z_iload_n hC (dk d_X5_run 78 rfl) 145 rfl rfl rfl ?_
  obtain rfl := Option.some.inj h
  exact Z_ireturn (st := []) hC hr hQ (dk d_X5_run 79 rfl)
noncomputable def X5_run_J17 (N : Nat) (x1 : Int32) (s0 : Int32) (w : Wd) : Option (Int32 × Wd) :=
  (X5_run_L1 N x1 N s0 w).bind (fun q7 =>
    X5_run_J132 N x1 q7)
set_option maxRecDepth 20000 in
set_option maxHeartbeats 4000000 in
theorem z_X5_run_J17 {x : CX} (hC : Cx x RX5 cX5_run 5 13) (hr : (xM x).sig.returnType = (some .int)) (N : Nat) (x1 : Int32) (s0 : Int32) (w : Wd) (q : (Int32 × Wd)) (h : X5_run_J17 N x1 s0 w = some q) (hQ : Rt x (some (vi q.1)) q.2) : Z x 17 [some (vr 5 0), some (vi x1), none, none, none] [vi s0] w := by
  unfold X5_run_J17 at h
  refine Z_istore_n hC (dk d_X5_run 9 rfl) 18 rfl rfl (Nat.le_of_ble_eq_true rfl) [some (vr 5 0), some (vi x1), some (vi s0), none, none] rfl ?_
  obtain ⟨q7, hq7, h⟩ := bd_some h
  refine Z_wk [true, true, true, false, false] [some (vr 5 0), some (vi x1), some (vi s0), none, none] rfl ?_
  refine z_X5_run_L1 hC hr N x1 N s0 w q7 hq7 ?_
  refine Z_wk [true, true, false, false, false] [some (vr 5 0), some (vi x1), none, none, none] rfl ?_
  exact z_X5_run_J132 hC hr N x1 q7 _ h hQ
noncomputable def f_X5_run (N : Nat) (w : Wd) : Option (Int32 × Wd) :=
  if (gI w 510 0) ≤ 0 then
    X5_run_J17 N (gI w 518 0) (0 : Int32) w
  else
    X5_run_J17 N (gI w 518 0) (1 : Int32) w
set_option maxRecDepth 20000 in
set_option maxHeartbeats 4000000 in
theorem s_X5_run (G : GT) (l : Launch) (N : Nat) (w : Wd) (q : Int32 × Wd) (h : f_X5_run N w = some q) : Sp G l yX5_run cw_X5_run 13 [vr 5 0] w (some (vi q.1)) q.2 := by
  refine Sp_of (own := RX5) [some (vr 5 0), none, none, none, none] (by decide) rfl rfl (Nat.le_of_ble_eq_true rfl) ?_
  intro x hG hl hC hr hQ _ _
  subst hG
  subst hl
  unfold f_X5_run at h
  refine Z_aload_n hC (dk d_X5_run 0 rfl) 1 rfl rfl rfl ?_
  refine G_X5_131 hC m_5 (dk d_X5_run 1 rfl) 4 rfl ?_
  refine Z_istore_n hC (dk d_X5_run 2 rfl) 5 rfl rfl (Nat.le_of_ble_eq_true rfl) [some (vr 5 0), some (vi (gI w 518 0)), none, none, none] rfl ?_
  refine Z_aload_n hC (dk d_X5_run 3 rfl) 6 rfl rfl rfl ?_
  refine G_X5_125 hC m_5 (dk d_X5_run 4 rfl) 9 rfl ?_
  refine Z_if_le hC (dk d_X5_run 5 rfl) 12 16 rfl (by decide) (fun c => ?_) (fun c => ?_)
  · have h := it_t h c
    refine Z_iconst (v := 0) hC (dk d_X5_run 8 rfl) 17 rfl (by decide) ?_
    refine Z_wk [true, true, false, false, false] [some (vr 5 0), some (vi (gI w 518 0)), none, none, none] rfl ?_
    exact z_X5_run_J17 hC hr N (gI w 518 0) (0 : Int32) w _ h hQ
  · have h := it_f h c
    refine Z_iconst (v := 1) hC (dk d_X5_run 6 rfl) 13 rfl (by decide) ?_
    refine Z_goto hC (dk d_X5_run 7 rfl) 17 (by decide) ?_
    refine Z_wk [true, true, false, false, false] [some (vr 5 0), some (vi (gI w 518 0)), none, none, none] rfl ?_
    exact z_X5_run_J17 hC hr N (gI w 518 0) (1 : Int32) w _ h hQ
def t_X5_times : List (Nat × Instr × Nat) := [(0, .aload_n 0, 1), (1, .iload_n 1, 1), (2, .invokevirtual 137, 3), (5, .ifCond .eq 16, 3), (8, .aload_n 0, 1), (9, .iload_n 2, 1), (10, .invokevirtual 137, 3), (13, .ifCond .eq 8, 3), (16, .iload_n 1, 1), (17, .iload_n 2, 1), (18, .if_icmp .ne 5, 3), (21, .iconst (-1), 1), (22, .ireturn, 1), (23, .iconst 0, 1), (24, .istore_n 3, 1), (25, .iconst 0, 1), (26, .istore 4, 2), (28, .iload 4, 2), (30, .aload_n 0, 1), (31, .getfield 131, 3), (34, .if_icmp .ge 33, 3), (37, .iload_n 3, 1), (38, .aload_n 0, 1), (39, .getfield 45, 3), (42, .bipush 6, 2), (44, .iload 4, 2), (46, .imul, 1), (47, .iload_n 1, 1), (48, .iadd, 1), (49, .iaload, 1), (50, .iload_n 2, 1), (51, .if_icmp .ne 7, 3), (54, .iconst 1, 1), (55, .goto 4, 3), (58, .iconst 0, 1), (59, .iadd, 1), (60, .istore_n 3, 1), (61, .iinc 4 1, 3), (64, .goto (-36), 3), (67, .iload_n 3, 1), (68, .ireturn, 1)]
set_option maxRecDepth 20000 in
theorem d_X5_times : ∀ q ∈ t_X5_times, decode cX5_times q.1 = .ok q.2 := by decide +kernel
noncomputable def X5_times_L1 (N : Nat) (x1 : Int32) (x2 : Int32) : Nat → Int32 → Int32 → Wd → Option (Int32 × Wd)
  | 0, _, _, _ => none
  | n + 1, x3, x4, w =>
  if (gI w 518 0) ≤ x4 then
    some (x3, w)
  else
    gd (vp_in (((6 : Int32) * x4) + x1) 252) (
    if (gA w 39 0 (((6 : Int32) * x4) + x1).toNatClampNeg) = x2 then
      X5_times_L1 N x1 x2 n (x3 + (1 : Int32)) (x4 + (1 : Int32)) w
    else
      X5_times_L1 N x1 x2 n (x3 + (0 : Int32)) (x4 + (1 : Int32)) w)
set_option maxRecDepth 20000 in
set_option maxHeartbeats 4000000 in
theorem z_X5_times_L1 {x : CX} (hC : Cx x RX5 cX5_times 5 2) (hr : (xM x).sig.returnType = (some .int)) (N : Nat) (x1 : Int32) (x2 : Int32) : ∀ (n : Nat) (x3 : Int32) (x4 : Int32) (w : Wd) (q : (Int32 × Wd)), X5_times_L1 N x1 x2 n x3 x4 w = some q → Z x 67 [none, none, none, some (vi q.1), none] [] q.2 → Z x 28 [some (vr 5 0), some (vi x1), some (vi x2), some (vi x3), some (vi x4)] [] w := by
  intro n
  induction n with
  | zero =>
    intro x3 x4 w q h
    cases h
  | succ n ih =>
    intro x3 x4 w q h ke
    rw [X5_times_L1] at h
    refine Z_iload hC (dk d_X5_times 17 rfl) 30 rfl rfl ?_
    refine Z_aload_n hC (dk d_X5_times 18 rfl) 31 rfl rfl rfl ?_
    refine G_X5_131 hC m_5 (dk d_X5_times 19 rfl) 34 rfl ?_
    refine Z_icmp_ge hC (dk d_X5_times 20 rfl) 37 67 rfl (by decide) (fun c => ?_) (fun c => ?_)
    · have h := it_t h c
      obtain rfl := Option.some.inj h
      refine Z_wk [false, false, false, true, false] [none, none, none, some (vi x3), none] rfl ?_
      exact ke
    · have h := it_f h c
      refine Z_iload_n hC (dk d_X5_times 21 rfl) 38 rfl rfl rfl ?_
      refine Z_aload_n hC (dk d_X5_times 22 rfl) 39 rfl rfl rfl ?_
      refine G_X5_45 hC m_5 (dk d_X5_times 23 rfl) 42 rfl ?_
      refine Z_bipush (v := 6) hC (dk d_X5_times 24 rfl) 44 rfl (by decide) ?_
      refine Z_iload hC (dk d_X5_times 25 rfl) 46 rfl rfl ?_
      refine Z_imul hC (dk d_X5_times 26 rfl) 47 rfl ?_
      refine Z_iload_n hC (dk d_X5_times 27 rfl) 48 rfl rfl rfl ?_
      refine Z_iadd hC (dk d_X5_times 28 rfl) 49 rfl ?_
      obtain ⟨g3, h⟩ := gd_some h
      refine Z_iaload hC m_39 (by decide) rfl g3 (dk d_X5_times 29 rfl) 50 rfl ?_
      refine Z_iload_n hC (dk d_X5_times 30 rfl) 51 rfl rfl rfl ?_
      refine Z_icmp_ne hC (dk d_X5_times 31 rfl) 54 58 rfl (by decide) (fun c => ?_) (fun c => ?_)
      · have h := it_f h c
        refine Z_iconst (v := 0) hC (dk d_X5_times 34 rfl) 59 rfl (by decide) ?_
        refine Z_iadd hC (dk d_X5_times 35 rfl) 60 rfl ?_
        refine Z_istore_n hC (dk d_X5_times 36 rfl) 61 rfl rfl (Nat.le_of_ble_eq_true rfl) [some (vr 5 0), some (vi x1), some (vi x2), some (vi (x3 + (0 : Int32))), some (vi x4)] rfl ?_
        refine Z_iinc hC (dk d_X5_times 37 rfl) 64 rfl rfl rfl [some (vr 5 0), some (vi x1), some (vi x2), some (vi (x3 + (0 : Int32))), some (vi (x4 + (1 : Int32)))] rfl ?_
        refine Z_goto hC (dk d_X5_times 38 rfl) 28 (by decide) ?_
        refine Z_wk [true, true, true, true, true] [some (vr 5 0), some (vi x1), some (vi x2), some (vi (x3 + (0 : Int32))), some (vi (x4 + (1 : Int32)))] rfl ?_
        exact ih (x3 + (0 : Int32)) (x4 + (1 : Int32)) w _ h ke
      · have h := it_t h c
        refine Z_iconst (v := 1) hC (dk d_X5_times 32 rfl) 55 rfl (by decide) ?_
        refine Z_goto hC (dk d_X5_times 33 rfl) 59 (by decide) ?_
        refine Z_iadd hC (dk d_X5_times 35 rfl) 60 rfl ?_
        refine Z_istore_n hC (dk d_X5_times 36 rfl) 61 rfl rfl (Nat.le_of_ble_eq_true rfl) [some (vr 5 0), some (vi x1), some (vi x2), some (vi (x3 + (1 : Int32))), some (vi x4)] rfl ?_
        refine Z_iinc hC (dk d_X5_times 37 rfl) 64 rfl rfl rfl [some (vr 5 0), some (vi x1), some (vi x2), some (vi (x3 + (1 : Int32))), some (vi (x4 + (1 : Int32)))] rfl ?_
        refine Z_goto hC (dk d_X5_times 38 rfl) 28 (by decide) ?_
        refine Z_wk [true, true, true, true, true] [some (vr 5 0), some (vi x1), some (vi x2), some (vi (x3 + (1 : Int32))), some (vi (x4 + (1 : Int32)))] rfl ?_
        exact ih (x3 + (1 : Int32)) (x4 + (1 : Int32)) w _ h ke
noncomputable def f_X5_times (N : Nat) (a1 : Int32) (a2 : Int32) (w : Wd) : Option (Int32 × Wd) :=
  (f_X5_isMate N a1 w).bind (fun q1 =>
    if q1.1 = 0 then
      some ((-1 : Int32), q1.2)
    else
      (f_X5_isMate N a2 q1.2).bind (fun q2 =>
        if q2.1 = 0 then
          some ((-1 : Int32), q2.2)
        else
          if a1 = a2 then
            some ((-1 : Int32), q2.2)
          else
            (X5_times_L1 N a1 a2 N (0 : Int32) (0 : Int32) q2.2).bind (fun q4 =>
              some (q4.1, q4.2))))
set_option maxRecDepth 20000 in
set_option maxHeartbeats 4000000 in
theorem s_X5_times (G : GT) (l : Launch) (N : Nat) (a1 : Int32) (a2 : Int32) (w : Wd) (q : Int32 × Wd) (h : f_X5_times N a1 a2 w = some q) : Sp G l yX5_times cw_X5_times 2 [vr 5 0, vi a1, vi a2] w (some (vi q.1)) q.2 := by
  refine Sp_of (own := RX5) [some (vr 5 0), some (vi a1), some (vi a2), none, none] (by decide) rfl rfl (Nat.le_of_ble_eq_true rfl) ?_
  intro x hG hl hC hr hQ _ _
  subst hG
  subst hl
  unfold f_X5_times at h
  refine Z_aload_n hC (dk d_X5_times 0 rfl) 1 rfl rfl rfl ?_
  refine Z_iload_n hC (dk d_X5_times 1 rfl) 2 rfl rfl rfl ?_
  obtain ⟨q1, hq1, h⟩ := bd_some h
  refine K_X5_137 [vi a1] hC m_5 (s_X5_isMate (xG x) (xl x) N a1 w q1 hq1) (Nat.le_of_ble_eq_true rfl) rfl rfl rfl (Nat.le_of_ble_eq_true rfl) (dk d_X5_times 2 rfl) 5 rfl ?_
  refine Z_if_eq hC (dk d_X5_times 3 rfl) 8 21 rfl (by decide) (fun c => ?_) (fun c => ?_)
  · have h := it_t h c
    refine Z_iconst (v := -1) hC (dk d_X5_times 11 rfl) 22 rfl (by decide) ?_
    obtain rfl := Option.some.inj h
    exact Z_ireturn (st := []) hC hr hQ (dk d_X5_times 12 rfl)
  · have h := it_f h c
    refine Z_aload_n hC (dk d_X5_times 4 rfl) 9 rfl rfl rfl ?_
    refine Z_iload_n hC (dk d_X5_times 5 rfl) 10 rfl rfl rfl ?_
    obtain ⟨q2, hq2, h⟩ := bd_some h
    refine K_X5_137 [vi a2] hC m_5 (s_X5_isMate (xG x) (xl x) N a2 q1.2 q2 hq2) (Nat.le_of_ble_eq_true rfl) rfl rfl rfl (Nat.le_of_ble_eq_true rfl) (dk d_X5_times 6 rfl) 13 rfl ?_
    refine Z_if_eq hC (dk d_X5_times 7 rfl) 16 21 rfl (by decide) (fun c => ?_) (fun c => ?_)
    · have h := it_t h c
      refine Z_iconst (v := -1) hC (dk d_X5_times 11 rfl) 22 rfl (by decide) ?_
      obtain rfl := Option.some.inj h
      exact Z_ireturn (st := []) hC hr hQ (dk d_X5_times 12 rfl)
    · have h := it_f h c
      refine Z_iload_n hC (dk d_X5_times 8 rfl) 17 rfl rfl rfl ?_
      refine Z_iload_n hC (dk d_X5_times 9 rfl) 18 rfl rfl rfl ?_
      refine Z_icmp_ne hC (dk d_X5_times 10 rfl) 21 23 rfl (by decide) (fun c => ?_) (fun c => ?_)
      · have h := it_f h c
        refine Z_iconst (v := 0) hC (dk d_X5_times 13 rfl) 24 rfl (by decide) ?_
        refine Z_istore_n hC (dk d_X5_times 14 rfl) 25 rfl rfl (Nat.le_of_ble_eq_true rfl) [some (vr 5 0), some (vi a1), some (vi a2), some (vi (0 : Int32)), none] rfl ?_
        refine Z_iconst (v := 0) hC (dk d_X5_times 15 rfl) 26 rfl (by decide) ?_
        refine Z_istore hC (dk d_X5_times 16 rfl) 28 rfl (Nat.le_of_ble_eq_true rfl) [some (vr 5 0), some (vi a1), some (vi a2), some (vi (0 : Int32)), some (vi (0 : Int32))] rfl ?_
        obtain ⟨q4, hq4, h⟩ := bd_some h
        refine Z_wk [true, true, true, true, true] [some (vr 5 0), some (vi a1), some (vi a2), some (vi (0 : Int32)), some (vi (0 : Int32))] rfl ?_
        refine z_X5_times_L1 hC hr N a1 a2 N (0 : Int32) (0 : Int32) q2.2 q4 hq4 ?_
        refine Z_iload_n hC (dk d_X5_times 39 rfl) 68 rfl rfl rfl ?_
        obtain rfl := Option.some.inj h
        exact Z_ireturn (st := []) hC hr hQ (dk d_X5_times 40 rfl)
      · have h := it_t h c
        refine Z_iconst (v := -1) hC (dk d_X5_times 11 rfl) 22 rfl (by decide) ?_
        obtain rfl := Option.some.inj h
        exact Z_ireturn (st := []) hC hr hQ (dk d_X5_times 12 rfl)
def t_X5_askedRight : List (Nat × Instr × Nat) := [(0, .aload_n 0, 1), (1, .iload_n 1, 1), (2, .invokevirtual 169, 3), (5, .istore_n 2, 1), (6, .iload_n 2, 1), (7, .ifCond .ge 5, 3), (10, .iload_n 2, 1), (11, .ireturn, 1), (12, .aload_n 0, 1), (13, .iload_n 1, 1), (14, .invokevirtual 198, 3), (17, .bipush (-9), 2), (19, .if_icmp .ne 11, 3), (22, .aload_n 0, 1), (23, .iconst 3, 1), (24, .invokevirtual 80, 3), (27, .goto 4, 3), (30, .iconst 0, 1), (31, .ireturn, 1)]
set_option maxRecDepth 20000 in
theorem d_X5_askedRight : ∀ q ∈ t_X5_askedRight, decode cX5_askedRight q.1 = .ok q.2 := by decide +kernel
noncomputable def f_X5_askedRight (N : Nat) (a1 : Int32) (w : Wd) : Option (Int32 × Wd) :=
  (f_X5_askedDrawing N a1 w).bind (fun q1 =>
    if 0 ≤ q1.1 then
      (f_X5_numberOf N a1 q1.2).bind (fun q2 =>
        if q2.1 = (-9 : Int32) then
          (f_X5_meet N (3 : Int32) q2.2).bind (fun q3 =>
            some (q3.1, q3.2))
        else
          some ((0 : Int32), q2.2))
    else
      some (q1.1, q1.2))
set_option maxRecDepth 20000 in
set_option maxHeartbeats 4000000 in
theorem s_X5_askedRight (G : GT) (l : Launch) (N : Nat) (a1 : Int32) (w : Wd) (q : Int32 × Wd) (h : f_X5_askedRight N a1 w = some q) : Sp G l yX5_askedRight cw_X5_askedRight 14 [vr 5 0, vi a1] w (some (vi q.1)) q.2 := by
  refine Sp_of (own := RX5) [some (vr 5 0), some (vi a1), none] (by decide) rfl rfl (Nat.le_of_ble_eq_true rfl) ?_
  intro x hG hl hC hr hQ _ _
  subst hG
  subst hl
  unfold f_X5_askedRight at h
  refine Z_aload_n hC (dk d_X5_askedRight 0 rfl) 1 rfl rfl rfl ?_
  refine Z_iload_n hC (dk d_X5_askedRight 1 rfl) 2 rfl rfl rfl ?_
  obtain ⟨q1, hq1, h⟩ := bd_some h
  refine K_X5_169 [vi a1] hC m_5 (s_X5_askedDrawing (xG x) (xl x) N a1 w q1 hq1) (Nat.le_of_ble_eq_true rfl) rfl rfl rfl (Nat.le_of_ble_eq_true rfl) (dk d_X5_askedRight 2 rfl) 5 rfl ?_
  refine Z_istore_n hC (dk d_X5_askedRight 3 rfl) 6 rfl rfl (Nat.le_of_ble_eq_true rfl) [some (vr 5 0), some (vi a1), some (vi q1.1)] rfl ?_
  refine Z_iload_n hC (dk d_X5_askedRight 4 rfl) 7 rfl rfl rfl ?_
  refine Z_if_ge hC (dk d_X5_askedRight 5 rfl) 10 12 rfl (by decide) (fun c => ?_) (fun c => ?_)
  · have h := it_t h c
    refine Z_aload_n hC (dk d_X5_askedRight 8 rfl) 13 rfl rfl rfl ?_
    refine Z_iload_n hC (dk d_X5_askedRight 9 rfl) 14 rfl rfl rfl ?_
    obtain ⟨q2, hq2, h⟩ := bd_some h
    refine K_X5_198 [vi a1] hC m_5 (s_X5_numberOf (xG x) (xl x) N a1 q1.2 q2 hq2) (Nat.le_of_ble_eq_true rfl) rfl rfl rfl (Nat.le_of_ble_eq_true rfl) (dk d_X5_askedRight 10 rfl) 17 rfl ?_
    refine Z_bipush (v := -9) hC (dk d_X5_askedRight 11 rfl) 19 rfl (by decide) ?_
    refine Z_icmp_ne hC (dk d_X5_askedRight 12 rfl) 22 30 rfl (by decide) (fun c => ?_) (fun c => ?_)
    · have h := it_f h c
      refine Z_iconst (v := 0) hC (dk d_X5_askedRight 17 rfl) 31 rfl (by decide) ?_
      obtain rfl := Option.some.inj h
      exact Z_ireturn (st := []) hC hr hQ (dk d_X5_askedRight 18 rfl)
    · have h := it_t h c
      refine Z_aload_n hC (dk d_X5_askedRight 13 rfl) 23 rfl rfl rfl ?_
      refine Z_iconst (v := 3) hC (dk d_X5_askedRight 14 rfl) 24 rfl (by decide) ?_
      obtain ⟨q3, hq3, h⟩ := bd_some h
      refine K_X5_80 [vi (3 : Int32)] hC m_5 (s_X5_meet (xG x) (xl x) N (3 : Int32) q2.2 q3 hq3) (Nat.le_of_ble_eq_true rfl) rfl rfl rfl (Nat.le_of_ble_eq_true rfl) (dk d_X5_askedRight 15 rfl) 27 rfl ?_
      refine Z_goto hC (dk d_X5_askedRight 16 rfl) 31 (by decide) ?_
      obtain rfl := Option.some.inj h
      exact Z_ireturn (st := []) hC hr hQ (dk d_X5_askedRight 18 rfl)
  · have h := it_f h c
    refine Z_iload_n hC (dk d_X5_askedRight 6 rfl) 11 rfl rfl rfl ?_
    obtain rfl := Option.some.inj h
    exact Z_ireturn (st := []) hC hr hQ (dk d_X5_askedRight 7 rfl)
