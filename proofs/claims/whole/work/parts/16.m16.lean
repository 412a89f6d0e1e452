def t_X4_even : List (Nat × Instr × Nat) := [(0, .iload_n 1, 1), (1, .invokestatic 70, 3), (4, .ifCond .ne 5, 3), (7, .iconst (-1), 1), (8, .ireturn, 1), (9, .aload_n 0, 1), (10, .invokevirtual 183, 3), (13, .bipush (-9), 2), (15, .istore_n 2, 1), (16, .bipush 10, 2), (18, .istore_n 3, 1), (19, .iconst 0, 1), (20, .istore 4, 2), (22, .iload 4, 2), (24, .aload_n 0, 1), (25, .getfield 36, 3), (28, .getfield 186, 3), (31, .if_icmp .ge 40, 3), (34, .aload_n 0, 1), (35, .getfield 26, 3), (38, .aload_n 0, 1), (39, .getfield 36, 3), (42, .getfield 189, 3), (45, .iload 4, 2), (47, .iaload, 1), (48, .invokevirtual 282, 3), (51, .istore 5, 2), (53, .iload 5, 2), (55, .iload_n 3, 1), (56, .if_icmp .ge 9, 3), (59, .iload 5, 2), (61, .istore_n 3, 1), (62, .iload 4, 2), (64, .istore_n 2, 1), (65, .iinc 4 1, 3), (68, .goto (-46), 3), (71, .iload_n 2, 1), (72, .bipush (-9), 2), (74, .if_icmp .ne 6, 3), (77, .bipush (-9), 2), (79, .ireturn, 1), (80, .aload_n 0, 1), (81, .iload_n 1, 1), (82, .aload_n 0, 1), (83, .getfield 36, 3), (86, .getfield 189, 3), (89, .iload_n 2, 1), (90, .iaload, 1), (91, .invokevirtual 192, 3), (94, .iload_n 3, 1), (95, .ireturn, 1)]
set_option maxRecDepth 20000 in
theorem d_X4_even : ∀ q ∈ t_X4_even, decode cX4_even q.1 = .ok q.2 := by decide +kernel
noncomputable def X4_even_L1 (N : Nat) (x1 : Int32) : Nat → Int32 → Int32 → Int32 → Wd → Option (Int32 × Int32 × Wd)
  | 0, _, _, _, _ => none
  | n + 1, x2, x3, x4, w =>
  if (gI w 201 0) ≤ x4 then
    some (x2, x3, w)
  else
    gd (vp_in x4 265) (
    (f_X0_greatestDifference N 0 (gA w 20 0 x4.toNatClampNeg) w).bind (fun q4 =>
      if x3 ≤ q4.1 then
        X4_even_L1 N x1 n x2 x3 (x4 + (1 : Int32)) q4.2
      else
        X4_even_L1 N x1 n x4 q4.1 (x4 + (1 : Int32)) q4.2))
set_option maxRecDepth 20000 in
set_option maxHeartbeats 4000000 in
theorem z_X4_even_L1 {x : CX} (hC : Cx x RX4 cX4_even 6 14) (hr : (xM x).sig.returnType = (some .int)) (N : Nat) (x1 : Int32) : ∀ (n : Nat) (x2 : Int32) (x3 : Int32) (x4 : Int32) (w : Wd) (q : (Int32 × Int32 × Wd)), X4_even_L1 N x1 n x2 x3 x4 w = some q → Z x 71 [some (vr 0 0), some (vi x1), some (vi q.1), some (vi q.2.1), none, none] [] q.2.2 → Z x 22 [some (vr 0 0), some (vi x1), some (vi x2), some (vi x3), some (vi x4), none] [] w := by
  intro n
  induction n with
  | zero =>
    intro x2 x3 x4 w q h
    cases h
  | succ n ih =>
    intro x2 x3 x4 w q h ke
    rw [X4_even_L1] at h
    refine Z_iload hC (dk d_X4_even 13 rfl) 24 rfl rfl ?_
    refine Z_aload_n hC (dk d_X4_even 14 rfl) 25 rfl rfl rfl ?_
    refine G_X4_36 hC m_0 (dk d_X4_even 15 rfl) 28 rfl ?_
    refine G_X4_186 hC (m_4 (by decide)) (dk d_X4_even 16 rfl) 31 rfl ?_
    refine Z_icmp_ge hC (dk d_X4_even 17 rfl) 34 71 rfl (by decide) (fun c => ?_) (fun c => ?_)
    · have h := it_t h c
      obtain rfl := Option.some.inj h
      refine Z_wk [true, true, true, true, false, false] [some (vr 0 0), some (vi x1), some (vi x2), some (vi x3), none, none] rfl ?_
      exact ke
    · have h := it_f h c
      refine Z_aload_n hC (dk d_X4_even 18 rfl) 35 rfl rfl rfl ?_
      refine G_X4_26 hC m_0 (dk d_X4_even 19 rfl) 38 rfl ?_
      refine Z_aload_n hC (dk d_X4_even 20 rfl) 39 rfl rfl rfl ?_
      refine G_X4_36 hC m_0 (dk d_X4_even 21 rfl) 42 rfl ?_
      refine G_X4_189 hC (m_4 (by decide)) (dk d_X4_even 22 rfl) 45 rfl ?_
      refine Z_iload hC (dk d_X4_even 23 rfl) 47 rfl rfl ?_
      obtain ⟨g3, h⟩ := gd_some h
      refine Z_iaload hC (m_20 (by decide)) (by decide) rfl g3 (dk d_X4_even 24 rfl) 48 rfl ?_
      obtain ⟨q4, hq4, h⟩ := bd_some h
      refine K_X4_282 [vi (gA w 20 0 x4.toNatClampNeg)] hC (m_3 (by decide)) (s_X0_greatestDifference (xG x) (xl x) N 0 (by decide) (gA w 20 0 x4.toNatClampNeg) w q4 hq4) (Nat.le_of_ble_eq_true rfl) rfl rfl rfl (Nat.le_of_ble_eq_true rfl) (dk d_X4_even 25 rfl) 51 rfl ?_
      refine Z_istore hC (dk d_X4_even 26 rfl) 53 rfl (Nat.le_of_ble_eq_true rfl) [some (vr 0 0), some (vi x1), some (vi x2), some (vi x3), some (vi x4), some (vi q4.1)] rfl ?_
      refine Z_iload hC (dk d_X4_even 27 rfl) 55 rfl rfl ?_
      refine Z_iload_n hC (dk d_X4_even 28 rfl) 56 rfl rfl rfl ?_
      refine Z_icmp_ge hC (dk d_X4_even 29 rfl) 59 65 rfl (by decide) (fun c => ?_) (fun c => ?_)
      · have h := it_t h c
        refine Z_iinc hC (dk d_X4_even 34 rfl) 68 rfl rfl rfl [some (vr 0 0), some (vi x1), some (vi x2), some (vi x3), some (vi (x4 + (1 : Int32))), some (vi q4.1)] rfl ?_
        refine Z_goto hC (dk d_X4_even 35 rfl) 22 (by decide) ?_
        refine Z_wk [true, true, true, true, true, false] [some (vr 0 0), some (vi x1), some (vi x2), some (vi x3), some (vi (x4 + (1 : Int32))), none] rfl ?_
        exact ih x2 x3 (x4 + (1 : Int32)) q4.2 _ h ke
      · have h := it_f h c
        refine Z_iload hC (dk d_X4_even 30 rfl) 61 rfl rfl ?_
        refine Z_istore_n hC (dk d_X4_even 31 rfl) 62 rfl rfl (Nat.le_of_ble_eq_true rfl) [some (vr 0 0), some (vi x1), some (vi x2), some (vi q4.1), some (vi x4), some (vi q4.1)] rfl ?_
        refine Z_iload hC (dk d_X4_even 32 rfl) 64 rfl rfl ?_
        refine Z_istore_n hC (dk d_X4_even 33 rfl) 65 rfl rfl (Nat.le_of_ble_eq_true rfl) [some (vr 0 0), some (vi x1), some (vi x4), some (vi q4.1), some (vi x4), some (vi q4.1)] rfl ?_
        refine Z_iinc hC (dk d_X4_even 34 rfl) 68 rfl rfl rfl [some (vr 0 0), some (vi x1), some (vi x4), some (vi q4.1), some (vi (x4 + (1 : Int32))), some (vi q4.1)] rfl ?_
        refine Z_goto hC (dk d_X4_even 35 rfl) 22 (by decide) ?_
        refine Z_wk [true, true, true, true, true, false] [some (vr 0 0), some (vi x1), some (vi x4), some (vi q4.1), some (vi (x4 + (1 : Int32))), none] rfl ?_
        exact ih x4 q4.1 (x4 + (1 : Int32)) q4.2 _ h ke
noncomputable def f_X4_even (N : Nat) (a1 : Int32) (w : Wd) : Option (Int32 × Wd) :=
  (f_X4_isRow N a1 w).bind (fun q1 =>
    if q1.1 = 0 then
      some ((-1 : Int32), q1.2)
    else
      (f_X4_listRight N q1.2).bind (fun q2 =>
        (X4_even_L1 N a1 N (-9 : Int32) (10 : Int32) (0 : Int32) q2).bind (fun q5 =>
          if q5.1 = (-9 : Int32) then
            some ((-9 : Int32), q5.2.2)
          else
            gd (vp_in q5.1 265) (
            (f_X4_layDrawing N a1 (gA q5.2.2 20 0 q5.1.toNatClampNeg) q5.2.2).bind (fun q7 =>
              some (q5.2.1, q7))))))
set_option maxRecDepth 20000 in
set_option maxHeartbeats 4000000 in
theorem s_X4_even (G : GT) (l : Launch) (N : Nat) (a1 : Int32) (w : Wd) (q : Int32 × Wd) (h : f_X4_even N a1 w = some q) : Sp G l yX4_even cw_X4_even 14 [vr 0 0, vi a1] w (some (vi q.1)) q.2 := by
  refine Sp_of (own := RX4) [some (vr 0 0), some (vi a1), none, none, none, none] (by decide) rfl rfl (Nat.le_of_ble_eq_true rfl) ?_
  intro x hG hl hC hr hQ _ _
  subst hG
  subst hl
  unfold f_X4_even at h
  refine Z_iload_n hC (dk d_X4_even 0 rfl) 1 rfl rfl rfl ?_
  obtain ⟨q1, hq1, h⟩ := bd_some h
  refine K_X4_70 [vi a1] hC (s_X4_isRow (xG x) (xl x) N a1 w q1 hq1) (Nat.le_of_ble_eq_true rfl) rfl rfl rfl (Nat.le_of_ble_eq_true rfl) (dk d_X4_even 1 rfl) 4 rfl ?_
  refine Z_if_ne hC (dk d_X4_even 2 rfl) 7 9 rfl (by decide) (fun c => ?_) (fun c => ?_)
  · have h := it_f h c
    refine Z_aload_n hC (dk d_X4_even 5 rfl) 10 rfl rfl rfl ?_
    obtain ⟨q2, hq2, h⟩ := bd_some h
    refine K_X4_183 [] hC m_0 (s_X4_listRight (xG x) (xl x) N q1.2 q2 hq2) (Nat.le_of_ble_eq_true rfl) rfl rfl rfl (Nat.le_of_ble_eq_true rfl) (dk d_X4_even 6 rfl) 13 rfl ?_
    refine Z_bipush (v := -9) hC (dk d_X4_even 7 rfl) 15 rfl (by decide) ?_
    refine Z_istore_n hC (dk d_X4_even 8 rfl) 16 rfl rfl (Nat.le_of_ble_eq_true rfl) [some (vr 0 0), some (vi a1), some (vi (-9 : Int32)), none, none, none] rfl ?_
    refine Z_bipush (v := 10) hC (dk d_X4_even 9 rfl) 18 rfl (by decide) ?_
    refine Z_istore_n hC (dk d_X4_even 10 rfl) 19 rfl rfl (Nat.le_of_ble_eq_true rfl) [some (vr 0 0), some (vi a1), some (vi (-9 : Int32)), some (vi (10 : Int32)), none, none] rfl ?_
    refine Z_iconst (v := 0) hC (dk d_X4_even 11 rfl) 20 rfl (by decide) ?_
    refine Z_istore hC (dk d_X4_even 12 rfl) 22 rfl (Nat.le_of_ble_eq_true rfl) [some (vr 0 0), some (vi a1), some (vi (-9 : Int32)), some (vi (10 : Int32)), some (vi (0 : Int32)), none] rfl ?_
    obtain ⟨q5, hq5, h⟩ := bd_some h
    refine Z_wk [true, true, true, true, true, false] [some (vr 0 0), some (vi a1), some (vi (-9 : Int32)), some (vi (10 : Int32)), some (vi (0 : Int32)), none] rfl ?_
    refine z_X4_even_L1 hC hr N a1 N (-9 : Int32) (10 : Int32) (0 : Int32) q2 q5 hq5 ?_
    refine Z_iload_n hC (dk d_X4_even 36 rfl) 72 rfl rfl rfl ?_
    refine Z_bipush (v := -9) hC (dk d_X4_even 37 rfl) 74 rfl (by decide) ?_
    refine Z_icmp_ne hC (dk d_X4_even 38 rfl) 77 80 rfl (by decide) (fun c => ?_) (fun c => ?_)
    · have h := it_f h c
      refine Z_aload_n hC (dk d_X4_even 41 rfl) 81 rfl rfl rfl ?_
      refine Z_iload_n hC (dk d_X4_even 42 rfl) 82 rfl rfl rfl ?_
      refine Z_aload_n hC (dk d_X4_even 43 rfl) 83 rfl rfl rfl ?_
      refine G_X4_36 hC m_0 (dk d_X4_even 44 rfl) 86 rfl ?_
      refine G_X4_189 hC (m_4 (by decide)) (dk d_X4_even 45 rfl) 89 rfl ?_
      refine Z_iload_n hC (dk d_X4_even 46 rfl) 90 rfl rfl rfl ?_
      obtain ⟨g6, h⟩ := gd_some h
      refine Z_iaload hC (m_20 (by decide)) (by decide) rfl g6 (dk d_X4_even 47 rfl) 91 rfl ?_
      obtain ⟨q7, hq7, h⟩ := bd_some h
      refine K_X4_192 [vi a1, vi (gA q5.2.2 20 0 q5.1.toNatClampNeg)] hC m_0 (s_X4_layDrawing (xG x) (xl x) N a1 (gA q5.2.2 20 0 q5.1.toNatClampNeg) q5.2.2 q7 hq7) (Nat.le_of_ble_eq_true rfl) rfl rfl rfl (Nat.le_of_ble_eq_true rfl) (dk d_X4_even 48 rfl) 94 rfl ?_
      refine Z_iload_n hC (dk d_X4_even 49 rfl) 95 rfl rfl rfl ?_
      obtain rfl := Option.some.inj h
      exact Z_ireturn (st := []) hC hr hQ (dk d_X4_even 50 rfl)
    · have h := it_t h c
      refine Z_bipush (v := -9) hC (dk d_X4_even 39 rfl) 79 rfl (by decide) ?_
      obtain rfl := Option.some.inj h
      exact Z_ireturn (st := []) hC hr hQ (dk d_X4_even 40 rfl)
  · have h := it_t h c
    refine Z_iconst (v := -1) hC (dk d_X4_even 3 rfl) 8 rfl (by decide) ?_
    obtain rfl := Option.some.inj h
    exact Z_ireturn (st := []) hC hr hQ (dk d_X4_even 4 rfl)
def t_X4_gain : List (Nat × Instr × Nat) := [(0, .iload_n 1, 1), (1, .invokestatic 70, 3), (4, .ifCond .eq 11, 3), (7, .aload_n 0, 1), (8, .iload_n 2, 1), (9, .invokevirtual 135, 3), (12, .ifCond .ne 5, 3), (15, .iconst (-1), 1), (16, .ireturn, 1), (17, .aload_n 0, 1), (18, .iload_n 1, 1), (19, .invokevirtual 174, 3), (22, .istore_n 3, 1), (23, .iload_n 3, 1), (24, .ifCond .ge 10, 3), (27, .aload_n 0, 1), (28, .iload_n 3, 1), (29, .ineg, 1), (30, .invokevirtual 74, 3), (33, .ireturn, 1), (34, .iconst 0, 1), (35, .istore 4, 2), (37, .iload 4, 2), (39, .aload_n 0, 1), (40, .getfield 26, 3), (43, .getfield 132, 3), (46, .if_icmp .ge 43, 3), (49, .iload_n 3, 1), (50, .iload 4, 2), (52, .invokestatic 220, 3), (55, .iload_n 2, 1), (56, .if_icmp .ne 27, 3), (59, .aload_n 0, 1), (60, .aload_n 0, 1), (61, .getfield 26, 3), (64, .getfield 285, 3), (67, .iload 4, 2), (69, .iaload, 1), (70, .aload_n 0, 1), (71, .getfield 26, 3), (74, .getfield 285, 3), (77, .iload_n 2, 1), (78, .iaload, 1), (79, .isub, 1), (80, .putfield 90, 3), (83, .iinc 4 1, 3), (86, .goto (-49), 3), (89, .iconst 1, 1), (90, .ireturn, 1)]
set_option maxRecDepth 20000 in
theorem d_X4_gain : ∀ q ∈ t_X4_gain, decode cX4_gain q.1 = .ok q.2 := by decide +kernel
noncomputable def X4_gain_L1 (N : Nat) (x2 : Int32) (x3 : Int32) : Nat → Int32 → Wd → Option (Wd)
  | 0, _, _ => none
  | n + 1, x4, w =>
  if (gI w 4 0) ≤ x4 then
    some w
  else
    (f_X4_paper N x3 x4 w).bind (fun q4 =>
      if q4.1 = x2 then
        gd (vp_in x4 6) (
        gd (vp_in x2 6) (
        X4_gain_L1 N x2 x3 n (x4 + (1 : Int32)) (sI q4.2 412 0 ((gA q4.2 18 0 x4.toNatClampNeg) - (gA q4.2 18 0 x2.toNatClampNeg)))))
      else
        X4_gain_L1 N x2 x3 n (x4 + (1 : Int32)) q4.2)
set_option maxRecDepth 20000 in
set_option maxHeartbeats 4000000 in
theorem z_X4_gain_L1 {x : CX} (hC : Cx x RX4 cX4_gain 5 2) (hr : (xM x).sig.returnType = (some .int)) (N : Nat) (x2 : Int32) (x3 : Int32) : ∀ (n : Nat) (x4 : Int32) (w : Wd) (q : (Wd)), X4_gain_L1 N x2 x3 n x4 w = some q → Z x 89 [none, none, none, none, none] [] q → Z x 37 [some (vr 0 0), none, some (vi x2), some (vi x3), some (vi x4)] [] w := by
  intro n
  induction n with
  | zero =>
    intro x4 w q h
    cases h
  | succ n ih =>
    intro x4 w q h ke
    rw [X4_gain_L1] at h
    refine Z_iload hC (dk d_X4_gain 22 rfl) 39 rfl rfl ?_
    refine Z_aload_n hC (dk d_X4_gain 23 rfl) 40 rfl rfl rfl ?_
    refine G_X4_26 hC m_0 (dk d_X4_gain 24 rfl) 43 rfl ?_
    refine G_X4_132 hC (m_3 (by decide)) (dk d_X4_gain 25 rfl) 46 rfl ?_
    refine Z_icmp_ge hC (dk d_X4_gain 26 rfl) 49 89 rfl (by decide) (fun c => ?_) (fun c => ?_)
    · have h := it_t h c
      obtain rfl := Option.some.inj h
      refine Z_wk [false, false, false, false, false] [none, none, none, none, none] rfl ?_
      exact ke
    · have h := it_f h c
      refine Z_iload_n hC (dk d_X4_gain 27 rfl) 50 rfl rfl rfl ?_
      refine Z_iload hC (dk d_X4_gain 28 rfl) 52 rfl rfl ?_
      obtain ⟨q4, hq4, h⟩ := bd_some h
      refine K_X4_220 [vi x3, vi x4] hC (s_X4_paper (xG x) (xl x) N x3 x4 w q4 hq4) (Nat.le_of_ble_eq_true rfl) rfl rfl rfl (Nat.le_of_ble_eq_true rfl) (dk d_X4_gain 29 rfl) 55 rfl ?_
      refine Z_iload_n hC (dk d_X4_gain 30 rfl) 56 rfl rfl rfl ?_
      refine Z_icmp_ne hC (dk d_X4_gain 31 rfl) 59 83 rfl (by decide) (fun c => ?_) (fun c => ?_)
      · have h := it_f h c
        refine Z_iinc hC (dk d_X4_gain 45 rfl) 86 rfl rfl rfl [some (vr 0 0), none, some (vi x2), some (vi x3), some (vi (x4 + (1 : Int32)))] rfl ?_
        refine Z_goto hC (dk d_X4_gain 46 rfl) 37 (by decide) ?_
        refine Z_wk [true, false, true, true, true] [some (vr 0 0), none, some (vi x2), some (vi x3), some (vi (x4 + (1 : Int32)))] rfl ?_
        exact ih (x4 + (1 : Int32)) q4.2 _ h ke
      · have h := it_t h c
        refine Z_aload_n hC (dk d_X4_gain 32 rfl) 60 rfl rfl rfl ?_
        refine Z_aload_n hC (dk d_X4_gain 33 rfl) 61 rfl rfl rfl ?_
        refine G_X4_26 hC m_0 (dk d_X4_gain 34 rfl) 64 rfl ?_
        refine G_X4_285 hC (m_3 (by decide)) (dk d_X4_gain 35 rfl) 67 rfl ?_
        refine Z_iload hC (dk d_X4_gain 36 rfl) 69 rfl rfl ?_
        obtain ⟨g5, h⟩ := gd_some h
        refine Z_iaload hC (m_18 (by decide)) (by decide) rfl g5 (dk d_X4_gain 37 rfl) 70 rfl ?_
        refine Z_aload_n hC (dk d_X4_gain 38 rfl) 71 rfl rfl rfl ?_
        refine G_X4_26 hC m_0 (dk d_X4_gain 39 rfl) 74 rfl ?_
        refine G_X4_285 hC (m_3 (by decide)) (dk d_X4_gain 40 rfl) 77 rfl ?_
        refine Z_iload_n hC (dk d_X4_gain 41 rfl) 78 rfl rfl rfl ?_
        obtain ⟨g6, h⟩ := gd_some h
        refine Z_iaload hC (m_18 (by decide)) (by decide) rfl g6 (dk d_X4_gain 42 rfl) 79 rfl ?_
        refine Z_isub hC (dk d_X4_gain 43 rfl) 80 rfl ?_
        refine P_X4_90 hC m_0 (dk d_X4_gain 44 rfl) 83 rfl ?_
        refine Z_iinc hC (dk d_X4_gain 45 rfl) 86 rfl rfl rfl [some (vr 0 0), none, some (vi x2), some (vi x3), some (vi (x4 + (1 : Int32)))] rfl ?_
        refine Z_goto hC (dk d_X4_gain 46 rfl) 37 (by decide) ?_
        refine Z_wk [true, false, true, true, true] [some (vr 0 0), none, some (vi x2), some (vi x3), some (vi (x4 + (1 : Int32)))] rfl ?_
        exact ih (x4 + (1 : Int32)) (sI q4.2 412 0 ((gA q4.2 18 0 x4.toNatClampNeg) - (gA q4.2 18 0 x2.toNatClampNeg))) _ h ke
noncomputable def f_X4_gain (N : Nat) (a1 : Int32) (a2 : Int32) (w : Wd) : Option (Int32 × Wd) :=
  (f_X4_isRow N a1 w).bind (fun q1 =>
    if q1.1 = 0 then
      some ((-1 : Int32), q1.2)
    else
      (f_X4_isMate N a2 q1.2).bind (fun q2 =>
        if q2.1 = 0 then
          some ((-1 : Int32), q2.2)
        else
          (f_X4_drawingIn N a1 q2.2).bind (fun q3 =>
            if 0 ≤ q3.1 then
              (X4_gain_L1 N a2 q3.1 N (0 : Int32) q3.2).bind (fun q7 =>
                some ((1 : Int32), q7))
            else
              (f_X4_refuse N (-q3.1) q3.2).bind (fun q8 =>
                some (q8.1, q8.2)))))
set_option maxRecDepth 20000 in
set_option maxHeartbeats 4000000 in
theorem s_X4_gain (G : GT) (l : Launch) (N : Nat) (a1 : Int32) (a2 : Int32) (w : Wd) (q : Int32 × Wd) (h : f_X4_gain N a1 a2 w = some q) : Sp G l yX4_gain cw_X4_gain 2 [vr 0 0, vi a1, vi a2] w (some (vi q.1)) q.2 := by
  refine Sp_of (own := RX4) [some (vr 0 0), some (vi a1), some (vi a2), none, none] (by decide) rfl rfl (Nat.le_of_ble_eq_true rfl) ?_
  intro x hG hl hC hr hQ _ _
  subst hG
  subst hl
  unfold f_X4_gain at h
  refine Z_iload_n hC (dk d_X4_gain 0 rfl) 1 rfl rfl rfl ?_
  obtain ⟨q1, hq1, h⟩ := bd_some h
  refine K_X4_70 [vi a1] hC (s_X4_isRow (xG x) (xl x) N a1 w q1 hq1) (Nat.le_of_ble_eq_true rfl) rfl rfl rfl (Nat.le_of_ble_eq_true rfl) (dk d_X4_gain 1 rfl) 4 rfl ?_
  refine Z_if_eq hC (dk d_X4_gain 2 rfl) 7 15 rfl (by decide) (fun c => ?_) (fun c => ?_)
  · have h := it_t h c
    refine Z_iconst (v := -1) hC (dk d_X4_gain 7 rfl) 16 rfl (by decide) ?_
    obtain rfl := Option.some.inj h
    exact Z_ireturn (st := []) hC hr hQ (dk d_X4_gain 8 rfl)
  · have h := it_f h c
    refine Z_aload_n hC (dk d_X4_gain 3 rfl) 8 rfl rfl rfl ?_
    refine Z_iload_n hC (dk d_X4_gain 4 rfl) 9 rfl rfl rfl ?_
    obtain ⟨q2, hq2, h⟩ := bd_some h
    refine K_X4_135 [vi a2] hC m_0 (s_X4_isMate (xG x) (xl x) N a2 q1.2 q2 hq2) (Nat.le_of_ble_eq_true rfl) rfl rfl rfl (Nat.le_of_ble_eq_true rfl) (dk d_X4_gain 5 rfl) 12 rfl ?_
    refine Z_if_ne hC (dk d_X4_gain 6 rfl) 15 17 rfl (by decide) (fun c => ?_) (fun c => ?_)
    · have h := it_f h c
      refine Z_aload_n hC (dk d_X4_gain 9 rfl) 18 rfl rfl rfl ?_
      refine Z_iload_n hC (dk d_X4_gain 10 rfl) 19 rfl rfl rfl ?_
      obtain ⟨q3, hq3, h⟩ := bd_some h
      refine K_X4_174 [vi a1] hC m_0 (s_X4_drawingIn (xG x) (xl x) N a1 q2.2 q3 hq3) (Nat.le_of_ble_eq_true rfl) rfl rfl rfl (Nat.le_of_ble_eq_true rfl) (dk d_X4_gain 11 rfl) 22 rfl ?_
      refine Z_istore_n hC (dk d_X4_gain 12 rfl) 23 rfl rfl (Nat.le_of_ble_eq_true rfl) [some (vr 0 0), some (vi a1), some (vi a2), some (vi q3.1), none] rfl ?_
      refine Z_iload_n hC (dk d_X4_gain 13 rfl) 24 rfl rfl rfl ?_
      refine Z_if_ge hC (dk d_X4_gain 14 rfl) 27 34 rfl (by decide) (fun c => ?_) (fun c => ?_)
      · have h := it_t h c
        refine Z_iconst (v := 0) hC (dk d_X4_gain 20 rfl) 35 rfl (by decide) ?_
        refine Z_istore hC (dk d_X4_gain 21 rfl) 37 rfl (Nat.le_of_ble_eq_true rfl) [some (vr 0 0), some (vi a1), some (vi a2), some (vi q3.1), some (vi (0 : Int32))] rfl ?_
        obtain ⟨q7, hq7, h⟩ := bd_some h
        refine Z_wk [true, false, true, true, true] [some (vr 0 0), none, some (vi a2), some (vi q3.1), some (vi (0 : Int32))] rfl ?_
        refine z_X4_gain_L1 hC hr N a2 q3.1 N (0 : Int32) q3.2 q7 hq7 ?_
        refine Z_iconst (v := 1) hC (dk d_X4_gain 47 rfl) 90 rfl (by decide) ?_
        obtain rfl := Option.some.inj h
        exact Z_ireturn (st := []) hC hr hQ (dk d_X4_gain 48 rfl)
      · have h := it_f h c
        refine Z_aload_n hC (dk d_X4_gain 15 rfl) 28 rfl rfl rfl ?_
        refine Z_iload_n hC (dk d_X4_gain 16 rfl) 29 rfl rfl rfl ?_
        refine Z_ineg hC (dk d_X4_gain 17 rfl) 30 rfl ?_
        obtain ⟨q8, hq8, h⟩ := bd_some h
        refine K_X4_74 [vi (-q3.1)] hC m_0 (s_X4_refuse (xG x) (xl x) N (-q3.1) q3.2 q8 hq8) (Nat.le_of_ble_eq_true rfl) rfl rfl rfl (Nat.le_of_ble_eq_true rfl) (dk d_X4_gain 18 rfl) 33 rfl ?_
        obtain rfl := Option.some.inj h
        exact Z_ireturn (st := []) hC hr hQ (dk d_X4_gain 19 rfl)
    · have h := it_t h c
      refine Z_iconst (v := -1) hC (dk d_X4_gain 7 rfl) 16 rfl (by decide) ?_
      obtain rfl := Option.some.inj h
      exact Z_ireturn (st := []) hC hr hQ (dk d_X4_gain 8 rfl)
def t_X4_asked : List (Nat × Instr × Nat) := [(0, .aload_n 0, 1), (1, .getfield 90, 3), (4, .ireturn, 1)]
set_option maxRecDepth 20000 in
theorem d_X4_asked : ∀ q ∈ t_X4_asked, decode cX4_asked q.1 = .ok q.2 := by decide +kernel
noncomputable def f_X4_asked (N : Nat) (w : Wd) : Option (Int32 × Wd) :=
  some (gI w 412 0, w)
set_option maxRecDepth 20000 in
set_option maxHeartbeats 4000000 in
theorem s_X4_asked (G : GT) (l : Launch) (N : Nat) (w : Wd) (q : Int32 × Wd) (h : f_X4_asked N w = some q) : Sp G l yX4_asked cw_X4_asked 0 [vr 0 0] w (some (vi q.1)) q.2 := by
  refine Sp_of (own := RX4) [some (vr 0 0)] (by decide) rfl rfl (Nat.le_of_ble_eq_true rfl) ?_
  intro x hG hl hC hr hQ _ _
  subst hG
  subst hl
  unfold f_X4_asked at h
  refine Z_aload_n hC (dk d_X4_asked 0 rfl) 1 rfl rfl rfl ?_
  refine G_X4_90 hC m_0 (dk d_X4_asked 1 rfl) 4 rfl ?_
  obtain rfl := Option.some.inj h
  exact Z_ireturn (st := []) hC hr hQ (dk d_X4_asked 2 rfl)
def t_X4_upper : List (Nat × Instr × Nat) := [(0, .aload_n 0, 1), (1, .getfield 288, 3), (4, .lreturn, 1)]
set_option maxRecDepth 20000 in
theorem d_X4_upper : ∀ q ∈ t_X4_upper, decode cX4_upper q.1 = .ok q.2 := by decide +kernel
noncomputable def f_X4_upper (N : Nat) (w : Wd) : Option (Int64 × Wd) :=
  some (gL w 413 0, w)
set_option maxRecDepth 20000 in
set_option maxHeartbeats 4000000 in
theorem s_X4_upper (G : GT) (l : Launch) (N : Nat) (w : Wd) (q : Int64 × Wd) (h : f_X4_upper N w = some q) : Sp G l yX4_upper cw_X4_upper 0 [vr 0 0] w (some (vl q.1)) q.2 := by
  refine Sp_of (own := RX4) [some (vr 0 0)] (by decide) rfl rfl (Nat.le_of_ble_eq_true rfl) ?_
  intro x hG hl hC hr hQ _ _
  subst hG
  subst hl
  unfold f_X4_upper at h
  refine Z_aload_n hC (dk d_X4_upper 0 rfl) 1 rfl rfl rfl ?_
  refine G_X4_288 hC m_0 (dk d_X4_upper 1 rfl) 4 rfl ?_
  obtain rfl := Option.some.inj h
  exact Z_lreturn (st := []) hC hr hQ (dk d_X4_upper 2 rfl)
def t_X4_lower : List (Nat × Instr × Nat) := [(0, .aload_n 0, 1), (1, .getfield 62, 3), (4, .lreturn, 1)]
set_option maxRecDepth 20000 in
theorem d_X4_lower : ∀ q ∈ t_X4_lower, decode cX4_lower q.1 = .ok q.2 := by decide +kernel
noncomputable def f_X4_lower (N : Nat) (w : Wd) : Option (Int64 × Wd) :=
  some (gL w 414 0, w)
set_option maxRecDepth 20000 in
set_option maxHeartbeats 4000000 in
theorem s_X4_lower (G : GT) (l : Launch) (N : Nat) (w : Wd) (q : Int64 × Wd) (h : f_X4_lower N w = some q) : Sp G l yX4_lower cw_X4_lower 0 [vr 0 0] w (some (vl q.1)) q.2 := by
  refine Sp_of (own := RX4) [some (vr 0 0)] (by decide) rfl rfl (Nat.le_of_ble_eq_true rfl) ?_
  intro x hG hl hC hr hQ _ _
  subst hG
  subst hl
  unfold f_X4_lower at h
  refine Z_aload_n hC (dk d_X4_lower 0 rfl) 1 rfl rfl rfl ?_
  refine G_X4_62 hC m_0 (dk d_X4_lower 1 rfl) 4 rfl ?_
  obtain rfl := Option.some.inj h
  exact Z_lreturn (st := []) hC hr hQ (dk d_X4_lower 2 rfl)
def t_X4_howManyThere : List (Nat × Instr × Nat) := [(0, .iconst 0, 1), (1, .istore_n 1, 1), (2, .iconst 0, 1), (3, .istore_n 2, 1), (4, .iload_n 2, 1), (5, .aload_n 0, 1), (6, .arraylength, 1), (7, .if_icmp .ge 19, 3), (10, .aload_n 0, 1), (11, .iload_n 2, 1), (12, .iaload, 1), (13, .iconst (-1), 1), (14, .if_icmp .eq 6, 3), (17, .iinc 1 1, 3), (20, .iinc 2 1, 3), (23, .goto (-19), 3), (26, .iload_n 1, 1), (27, .ireturn, 1)]
set_option maxRecDepth 20000 in
theorem d_X4_howManyThere : ∀ q ∈ t_X4_howManyThere, decode cX4_howManyThere q.1 = .ok q.2 := by decide +kernel
noncomputable def X4_howManyThere_L1 (N : Nat) (g i : Nat) : Nat → Int32 → Int32 → Wd → Option (Int32 × Wd)
  | 0, _, _, _ => none
  | n + 1, x1, x2, w =>
  if (Int32.ofNat (arr g).2) ≤ x2 then
    some (x1, w)
  else
    gd (vp_in x2 (arr g).2) (
    if (gA w g i x2.toNatClampNeg) = (-1 : Int32) then
      X4_howManyThere_L1 N g i n x1 (x2 + (1 : Int32)) w
    else
      X4_howManyThere_L1 N g i n (x1 + (1 : Int32)) (x2 + (1 : Int32)) w)
set_option maxRecDepth 20000 in
set_option maxHeartbeats 4000000 in
theorem z_X4_howManyThere_L1 {x : CX} (hC : Cx x RX4 cX4_howManyThere 3 0) (hr : (xM x).sig.returnType = (some .int)) (N : Nat) (g i : Nat) (hm : (g, i) ∈ gis) (h10 : ¬ g < 10) (hk : (arr g).1 = 0) : ∀ (n : Nat) (x1 : Int32) (x2 : Int32) (w : Wd) (q : (Int32 × Wd)), X4_howManyThere_L1 N g i n x1 x2 w = some q → Z x 26 [none, some (vi q.1), none] [] q.2 → Z x 4 [some (vr g i), some (vi x1), some (vi x2)] [] w := by
  intro n
  induction n with
  | zero =>
    intro x1 x2 w q h
    cases h
  | succ n ih =>
    intro x1 x2 w q h ke
    rw [X4_howManyThere_L1] at h
    refine Z_iload_n hC (dk d_X4_howManyThere 4 rfl) 5 rfl rfl rfl ?_
    refine Z_aload_n hC (dk d_X4_howManyThere 5 rfl) 6 rfl rfl rfl ?_
    refine Z_alen hC hm h10 (by rw [hk]; decide) rfl (dk d_X4_howManyThere 6 rfl) 7 rfl ?_
    refine Z_icmp_ge hC (dk d_X4_howManyThere 7 rfl) 10 26 rfl (by decide) (fun c => ?_) (fun c => ?_)
    · have h := it_t h c
      obtain rfl := Option.some.inj h
      refine Z_wk [false, true, false] [none, some (vi x1), none] rfl ?_
      exact ke
    · have h := it_f h c
      refine Z_aload_n hC (dk d_X4_howManyThere 8 rfl) 11 rfl rfl rfl ?_
      refine Z_iload_n hC (dk d_X4_howManyThere 9 rfl) 12 rfl rfl rfl ?_
      obtain ⟨g1, h⟩ := gd_some h
      refine Z_iaload hC hm h10 hk g1 (dk d_X4_howManyThere 10 rfl) 13 rfl ?_
      refine Z_iconst (v := -1) hC (dk d_X4_howManyThere 11 rfl) 14 rfl (by decide) ?_
      refine Z_icmp_eq hC (dk d_X4_howManyThere 12 rfl) 17 20 rfl (by decide) (fun c => ?_) (fun c => ?_)
      · have h := it_t h c
        refine Z_iinc hC (dk d_X4_howManyThere 14 rfl) 23 rfl rfl rfl [some (vr g i), some (vi x1), some (vi (x2 + (1 : Int32)))] rfl ?_
        refine Z_goto hC (dk d_X4_howManyThere 15 rfl) 4 (by decide) ?_
        refine Z_wk [true, true, true] [some (vr g i), some (vi x1), some (vi (x2 + (1 : Int32)))] rfl ?_
        exact ih x1 (x2 + (1 : Int32)) w _ h ke
      · have h := it_f h c
        refine Z_iinc hC (dk d_X4_howManyThere 13 rfl) 20 rfl rfl rfl [some (vr g i), some (vi (x1 + (1 : Int32))), some (vi x2)] rfl ?_
        refine Z_iinc hC (dk d_X4_howManyThere 14 rfl) 23 rfl rfl rfl [some (vr g i), some (vi (x1 + (1 : Int32))), some (vi (x2 + (1 : Int32)))] rfl ?_
        refine Z_goto hC (dk d_X4_howManyThere 15 rfl) 4 (by decide) ?_
        refine Z_wk [true, true, true] [some (vr g i), some (vi (x1 + (1 : Int32))), some (vi (x2 + (1 : Int32)))] rfl ?_
        exact ih (x1 + (1 : Int32)) (x2 + (1 : Int32)) w _ h ke
noncomputable def f_X4_howManyThere (N : Nat) (g i : Nat) (w : Wd) : Option (Int32 × Wd) :=
  (X4_howManyThere_L1 N g i N (0 : Int32) (0 : Int32) w).bind (fun q2 =>
    some (q2.1, q2.2))
set_option maxRecDepth 20000 in
set_option maxHeartbeats 4000000 in
theorem s_X4_howManyThere (G : GT) (l : Launch) (N : Nat) (g i : Nat) (hm : (g, i) ∈ gis) (h10 : ¬ g < 10) (hk : (arr g).1 = 0) (w : Wd) (q : Int32 × Wd) (h : f_X4_howManyThere N g i w = some q) : Sp G l yX4_howManyThere cw_X4_howManyThere 0 [vr g i] w (some (vi q.1)) q.2 := by
  refine Sp_of (own := RX4) [some (vr g i), none, none] (by decide) rfl rfl (Nat.le_of_ble_eq_true rfl) ?_
  intro x hG hl hC hr hQ _ _
  subst hG
  subst hl
  unfold f_X4_howManyThere at h
  refine Z_iconst (v := 0) hC (dk d_X4_howManyThere 0 rfl) 1 rfl (by decide) ?_
  refine Z_istore_n hC (dk d_X4_howManyThere 1 rfl) 2 rfl rfl (Nat.le_of_ble_eq_true rfl) [some (vr g i), some (vi (0 : Int32)), none] rfl ?_
  refine Z_iconst (v := 0) hC (dk d_X4_howManyThere 2 rfl) 3 rfl (by decide) ?_
  refine Z_istore_n hC (dk d_X4_howManyThere 3 rfl) 4 rfl rfl (Nat.le_of_ble_eq_true rfl) [some (vr g i), some (vi (0 : Int32)), some (vi (0 : Int32))] rfl ?_
  obtain ⟨q2, hq2, h⟩ := bd_some h
  refine Z_wk [true, true, true] [some (vr g i), some (vi (0 : Int32)), some (vi (0 : Int32))] rfl ?_
  refine z_X4_howManyThere_L1 hC hr N g i hm h10 hk N (0 : Int32) (0 : Int32) w q2 hq2 ?_
  refine Z_iload_n hC (dk d_X4_howManyThere 16 rfl) 27 rfl rfl rfl ?_
  obtain rfl := Option.some.inj h
  exact Z_ireturn (st := []) hC hr hQ (dk d_X4_howManyThere 17 rfl)
def t_X4_count : List (Nat × Instr × Nat) := [(0, .iload_n 1, 1), (1, .tableswitch 116 0 7 #[47, 55, 60, 68, 77, 86, 94, 105], 47), (48, .aload_n 0, 1), (49, .getfield 26, 3), (52, .getfield 132, 3), (55, .ireturn, 1), (56, .aload_n 0, 1), (57, .getfield 129, 3), (60, .ireturn, 1), (61, .aload_n 0, 1), (62, .getfield 26, 3), (65, .getfield 247, 3), (68, .ireturn, 1), (69, .aload_n 0, 1), (70, .getfield 26, 3), (73, .iconst 1, 1), (74, .invokevirtual 291, 3), (77, .ireturn, 1), (78, .aload_n 0, 1), (79, .getfield 26, 3), (82, .iconst 2, 1), (83, .invokevirtual 291, 3), (86, .ireturn, 1), (87, .aload_n 0, 1), (88, .getfield 47, 3), (91, .invokestatic 294, 3), (94, .ireturn, 1), (95, .aload_n 0, 1), (96, .getfield 10, 3), (99, .getfield 97, 3), (102, .invokestatic 294, 3), (105, .ireturn, 1), (106, .aload_n 0, 1), (107, .getfield 19, 3), (110, .getfield 115, 3), (113, .invokestatic 294, 3), (116, .ireturn, 1), (117, .iconst (-1), 1), (118, .ireturn, 1)]
set_option maxRecDepth 20000 in
theorem d_X4_count : ∀ q ∈ t_X4_count, decode cX4_count q.1 = .ok q.2 := by decide +kernel
noncomputable def f_X4_count (N : Nat) (a1 : Int32) (w : Wd) : Option (Int32 × Wd) :=
  if a1 = (0 : Int32) then
    some (gI w 4 0, w)
  else
  if a1 = (1 : Int32) then
    some (gI w 407 0, w)
  else
  if a1 = (2 : Int32) then
    some (gI w 5 0, w)
  else
  if a1 = (3 : Int32) then
    (f_X0_howManyOf N 0 (1 : Int32) w).bind (fun q1 =>
      some (q1.1, q1.2))
  else
  if a1 = (4 : Int32) then
    (f_X0_howManyOf N 0 (2 : Int32) w).bind (fun q2 =>
      some (q2.1, q2.2))
  else
  if a1 = (5 : Int32) then
    (f_X4_howManyThere N 23 0 w).bind (fun q3 =>
      some (q3.1, q3.2))
  else
  if a1 = (6 : Int32) then
    (f_X4_howManyThere N 12 0 w).bind (fun q4 =>
      some (q4.1, q4.2))
  else
  if a1 = (7 : Int32) then
    (f_X4_howManyThere N 15 0 w).bind (fun q5 =>
      some (q5.1, q5.2))
  else
    some ((-1 : Int32), w)
set_option maxRecDepth 20000 in
set_option maxHeartbeats 4000000 in
theorem s_X4_count (G : GT) (l : Launch) (N : Nat) (a1 : Int32) (w : Wd) (q : Int32 × Wd) (h : f_X4_count N a1 w = some q) : Sp G l yX4_count cw_X4_count 2 [vr 0 0, vi a1] w (some (vi q.1)) q.2 := by
  refine Sp_of (own := RX4) [some (vr 0 0), some (vi a1)] (by decide) rfl rfl (Nat.le_of_ble_eq_true rfl) ?_
  intro x hG hl hC hr hQ _ _
  subst hG
  subst hl
  unfold f_X4_count at h
  refine Z_iload_n hC (dk d_X4_count 0 rfl) 1 rfl rfl rfl ?_
  by_cases c0 : a1 = (0 : Int32)
  · have h := it_t h c0
    refine Z_swIn hC (dk d_X4_count 1 rfl) (m := 0) (by rw [c0]; rfl) (by decide) (by decide) rfl 48 (by decide) ?_
    refine Z_aload_n hC (dk d_X4_count 2 rfl) 49 rfl rfl rfl ?_
    refine G_X4_26 hC m_0 (dk d_X4_count 3 rfl) 52 rfl ?_
    refine G_X4_132 hC (m_3 (by decide)) (dk d_X4_count 4 rfl) 55 rfl ?_
    obtain rfl := Option.some.inj h
    exact Z_ireturn (st := []) hC hr hQ (dk d_X4_count 5 rfl)
  have h := it_f h c0
  by_cases c1 : a1 = (1 : Int32)
  · have h := it_t h c1
    refine Z_swIn hC (dk d_X4_count 1 rfl) (m := 1) (by rw [c1]; rfl) (by decide) (by decide) rfl 56 (by decide) ?_
    refine Z_aload_n hC (dk d_X4_count 6 rfl) 57 rfl rfl rfl ?_
    refine G_X4_129 hC m_0 (dk d_X4_count 7 rfl) 60 rfl ?_
    obtain rfl := Option.some.inj h
    exact Z_ireturn (st := []) hC hr hQ (dk d_X4_count 8 rfl)
  have h := it_f h c1
  by_cases c2 : a1 = (2 : Int32)
  · have h := it_t h c2
    refine Z_swIn hC (dk d_X4_count 1 rfl) (m := 2) (by rw [c2]; rfl) (by decide) (by decide) rfl 61 (by decide) ?_
    refine Z_aload_n hC (dk d_X4_count 9 rfl) 62 rfl rfl rfl ?_
    refine G_X4_26 hC m_0 (dk d_X4_count 10 rfl) 65 rfl ?_
    refine G_X4_247 hC (m_3 (by decide)) (dk d_X4_count 11 rfl) 68 rfl ?_
    obtain rfl := Option.some.inj h
    exact Z_ireturn (st := []) hC hr hQ (dk d_X4_count 12 rfl)
  have h := it_f h c2
  by_cases c3 : a1 = (3 : Int32)
  · have h := it_t h c3
    refine Z_swIn hC (dk d_X4_count 1 rfl) (m := 3) (by rw [c3]; rfl) (by decide) (by decide) rfl 69 (by decide) ?_
    refine Z_aload_n hC (dk d_X4_count 13 rfl) 70 rfl rfl rfl ?_
    refine G_X4_26 hC m_0 (dk d_X4_count 14 rfl) 73 rfl ?_
    refine Z_iconst (v := 1) hC (dk d_X4_count 15 rfl) 74 rfl (by decide) ?_
    obtain ⟨q1, hq1, h⟩ := bd_some h
    refine K_X4_291 [vi (1 : Int32)] hC (m_3 (by decide)) (s_X0_howManyOf (xG x) (xl x) N 0 (by decide) (1 : Int32) w q1 hq1) (Nat.le_of_ble_eq_true rfl) rfl rfl rfl (Nat.le_of_ble_eq_true rfl) (dk d_X4_count 16 rfl) 77 rfl ?_
    obtain rfl := Option.some.inj h
    exact Z_ireturn (st := []) hC hr hQ (dk d_X4_count 17 rfl)
  have h := it_f h c3
  by_cases c4 : a1 = (4 : Int32)
  · have h := it_t h c4
    refine Z_swIn hC (dk d_X4_count 1 rfl) (m := 4) (by rw [c4]; rfl) (by decide) (by decide) rfl 78 (by decide) ?_
    refine Z_aload_n hC (dk d_X4_count 18 rfl) 79 rfl rfl rfl ?_
    refine G_X4_26 hC m_0 (dk d_X4_count 19 rfl) 82 rfl ?_
    refine Z_iconst (v := 2) hC (dk d_X4_count 20 rfl) 83 rfl (by decide) ?_
    obtain ⟨q2, hq2, h⟩ := bd_some h
    refine K_X4_291 [vi (2 : Int32)] hC (m_3 (by decide)) (s_X0_howManyOf (xG x) (xl x) N 0 (by decide) (2 : Int32) w q2 hq2) (Nat.le_of_ble_eq_true rfl) rfl rfl rfl (Nat.le_of_ble_eq_true rfl) (dk d_X4_count 21 rfl) 86 rfl ?_
    obtain rfl := Option.some.inj h
    exact Z_ireturn (st := []) hC hr hQ (dk d_X4_count 22 rfl)
  have h := it_f h c4
  by_cases c5 : a1 = (5 : Int32)
  · have h := it_t h c5
    refine Z_swIn hC (dk d_X4_count 1 rfl) (m := 5) (by rw [c5]; rfl) (by decide) (by decide) rfl 87 (by decide) ?_
    refine Z_aload_n hC (dk d_X4_count 23 rfl) 88 rfl rfl rfl ?_
    refine G_X4_47 hC m_0 (dk d_X4_count 24 rfl) 91 rfl ?_
    obtain ⟨q3, hq3, h⟩ := bd_some h
    refine K_X4_294 [vr 23 0] hC (s_X4_howManyThere (xG x) (xl x) N 23 0 m_23 (by decide) rfl w q3 hq3) (Nat.le_of_ble_eq_true rfl) rfl rfl rfl (Nat.le_of_ble_eq_true rfl) (dk d_X4_count 25 rfl) 94 rfl ?_
    obtain rfl := Option.some.inj h
    exact Z_ireturn (st := []) hC hr hQ (dk d_X4_count 26 rfl)
  have h := it_f h c5
  by_cases c6 : a1 = (6 : Int32)
  · have h := it_t h c6
    refine Z_swIn hC (dk d_X4_count 1 rfl) (m := 6) (by rw [c6]; rfl) (by decide) (by decide) rfl 95 (by decide) ?_
    refine Z_aload_n hC (dk d_X4_count 27 rfl) 96 rfl rfl rfl ?_
    refine G_X4_10 hC m_0 (dk d_X4_count 28 rfl) 99 rfl ?_
    refine G_X4_97 hC m_1 (dk d_X4_count 29 rfl) 102 rfl ?_
    obtain ⟨q4, hq4, h⟩ := bd_some h
    refine K_X4_294 [vr 12 0] hC (s_X4_howManyThere (xG x) (xl x) N 12 0 m_12 (by decide) rfl w q4 hq4) (Nat.le_of_ble_eq_true rfl) rfl rfl rfl (Nat.le_of_ble_eq_true rfl) (dk d_X4_count 30 rfl) 105 rfl ?_
    obtain rfl := Option.some.inj h
    exact Z_ireturn (st := []) hC hr hQ (dk d_X4_count 31 rfl)
  have h := it_f h c6
  by_cases c7 : a1 = (7 : Int32)
  · have h := it_t h c7
    refine Z_swIn hC (dk d_X4_count 1 rfl) (m := 7) (by rw [c7]; rfl) (by decide) (by decide) rfl 106 (by decide) ?_
    refine Z_aload_n hC (dk d_X4_count 32 rfl) 107 rfl rfl rfl ?_
    refine G_X4_19 hC m_0 (dk d_X4_count 33 rfl) 110 rfl ?_
    refine G_X4_115 hC m_2 (dk d_X4_count 34 rfl) 113 rfl ?_
    obtain ⟨q5, hq5, h⟩ := bd_some h
    refine K_X4_294 [vr 15 0] hC (s_X4_howManyThere (xG x) (xl x) N 15 0 m_15 (by decide) rfl w q5 hq5) (Nat.le_of_ble_eq_true rfl) rfl rfl rfl (Nat.le_of_ble_eq_true rfl) (dk d_X4_count 35 rfl) 116 rfl ?_
    obtain rfl := Option.some.inj h
    exact Z_ireturn (st := []) hC hr hQ (dk d_X4_count 36 rfl)
  have h := it_f h c7
  refine Z_swOut hC (dk d_X4_count 1 rfl) 117 (by decide) (by have e0 := ne_toInt (m := 0) rfl c0; have e1 := ne_toInt (m := 1) rfl c1; have e2 := ne_toInt (m := 2) rfl c2; have e3 := ne_toInt (m := 3) rfl c3; have e4 := ne_toInt (m := 4) rfl c4; have e5 := ne_toInt (m := 5) rfl c5; have e6 := ne_toInt (m := 6) rfl c6; have e7 := ne_toInt (m := 7) rfl c7; omega) ?_
  refine Z_iconst (v := -1) hC (dk d_X4_count 37 rfl) 118 rfl (by decide) ?_
  obtain rfl := Option.some.inj h
  exact Z_ireturn (st := []) hC hr hQ (dk d_X4_count 38 rfl)
def t_X4_finding : List (Nat × Instr × Nat) := [(0, .aload_n 0, 1), (1, .getfield 298, 3), (4, .ireturn, 1)]
set_option maxRecDepth 20000 in
theorem d_X4_finding : ∀ q ∈ t_X4_finding, decode cX4_finding q.1 = .ok q.2 := by decide +kernel
noncomputable def f_X4_finding (N : Nat) (w : Wd) : Option (Int32 × Wd) :=
  some (gI w 415 0, w)
set_option maxRecDepth 20000 in
set_option maxHeartbeats 4000000 in
theorem s_X4_finding (G : GT) (l : Launch) (N : Nat) (w : Wd) (q : Int32 × Wd) (h : f_X4_finding N w = some q) : Sp G l yX4_finding cw_X4_finding 0 [vr 0 0] w (some (vi q.1)) q.2 := by
  refine Sp_of (own := RX4) [some (vr 0 0)] (by decide) rfl rfl (Nat.le_of_ble_eq_true rfl) ?_
  intro x hG hl hC hr hQ _ _
  subst hG
  subst hl
  unfold f_X4_finding at h
  refine Z_aload_n hC (dk d_X4_finding 0 rfl) 1 rfl rfl rfl ?_
  refine G_X4_298 hC m_0 (dk d_X4_finding 1 rfl) 4 rfl ?_
  obtain rfl := Option.some.inj h
  exact Z_ireturn (st := []) hC hr hQ (dk d_X4_finding 2 rfl)
def t_X4_findings : List (Nat × Instr × Nat) := [(0, .iload_n 1, 1), (1, .iconst 1, 1), (2, .if_icmp .lt 8, 3), (5, .iload_n 1, 1), (6, .iconst 5, 1), (7, .if_icmp .le 5, 3), (10, .iconst (-1), 1), (11, .ireturn, 1), (12, .aload_n 0, 1), (13, .getfield 53, 3), (16, .iload_n 1, 1), (17, .iaload, 1), (18, .ireturn, 1)]
set_option maxRecDepth 20000 in
theorem d_X4_findings : ∀ q ∈ t_X4_findings, decode cX4_findings q.1 = .ok q.2 := by decide +kernel
noncomputable def f_X4_findings (N : Nat) (a1 : Int32) (w : Wd) : Option (Int32 × Wd) :=
  if a1 < (1 : Int32) then
    some ((-1 : Int32), w)
  else
    if a1 ≤ (5 : Int32) then
      gd (vp_in a1 6) (
      some (gA w 25 0 a1.toNatClampNeg, w))
    else
      some ((-1 : Int32), w)
set_option maxRecDepth 20000 in
set_option maxHeartbeats 4000000 in
theorem s_X4_findings (G : GT) (l : Launch) (N : Nat) (a1 : Int32) (w : Wd) (q : Int32 × Wd) (h : f_X4_findings N a1 w = some q) : Sp G l yX4_findings cw_X4_findings 0 [vr 0 0, vi a1] w (some (vi q.1)) q.2 := by
  refine Sp_of (own := RX4) [some (vr 0 0), some (vi a1)] (by decide) rfl rfl (Nat.le_of_ble_eq_true rfl) ?_
  intro x hG hl hC hr hQ _ _
  subst hG
  subst hl
  unfold f_X4_findings at h
  refine Z_iload_n hC (dk d_X4_findings 0 rfl) 1 rfl rfl rfl ?_
  refine Z_iconst (v := 1) hC (dk d_X4_findings 1 rfl) 2 rfl (by decide) ?_
  refine Z_icmp_lt hC (dk d_X4_findings 2 rfl) 5 10 rfl (by decide) (fun c => ?_) (fun c => ?_)
  · have h := it_t h c
    refine Z_iconst (v := -1) hC (dk d_X4_findings 6 rfl) 11 rfl (by decide) ?_
    obtain rfl := Option.some.inj h
    exact Z_ireturn (st := []) hC hr hQ (dk d_X4_findings 7 rfl)
  · have h := it_f h c
    refine Z_iload_n hC (dk d_X4_findings 3 rfl) 6 rfl rfl rfl ?_
    refine Z_iconst (v := 5) hC (dk d_X4_findings 4 rfl) 7 rfl (by decide) ?_
    refine Z_icmp_le hC (dk d_X4_findings 5 rfl) 10 12 rfl (by decide) (fun c => ?_) (fun c => ?_)
    · have h := it_t h c
      refine Z_aload_n hC (dk d_X4_findings 8 rfl) 13 rfl rfl rfl ?_
      refine G_X4_53 hC m_0 (dk d_X4_findings 9 rfl) 16 rfl ?_
      refine Z_iload_n hC (dk d_X4_findings 10 rfl) 17 rfl rfl rfl ?_
      obtain ⟨g1, h⟩ := gd_some h
      refine Z_iaload hC m_25 (by decide) rfl g1 (dk d_X4_findings 11 rfl) 18 rfl ?_
      obtain rfl := Option.some.inj h
      exact Z_ireturn (st := []) hC hr hQ (dk d_X4_findings 12 rfl)
    · have h := it_f h c
      refine Z_iconst (v := -1) hC (dk d_X4_findings 6 rfl) 11 rfl (by decide) ?_
      obtain rfl := Option.some.inj h
      exact Z_ireturn (st := []) hC hr hQ (dk d_X4_findings 7 rfl)
def t_X4_mixPapers : List (Nat × Instr × Nat) := [(0, .lload_n 0, 1), (1, .lstore 4, 2), (3, .iconst 0, 1), (4, .istore 6, 2), (6, .iload 6, 2), (8, .iload_n 3, 1), (9, .if_icmp .ge 25, 3), (12, .ldc2_w 303, 3), (15, .lload 4, 2), (17, .lmul, 1), (18, .iload_n 2, 1), (19, .iload 6, 2), (21, .invokestatic 220, 3), (24, .i2l, 1), (25, .ladd, 1), (26, .lstore 4, 2), (28, .iinc 6 1, 3), (31, .goto (-25), 3), (34, .lload 4, 2), (36, .lreturn, 1)]
set_option maxRecDepth 20000 in
theorem d_X4_mixPapers : ∀ q ∈ t_X4_mixPapers, decode cX4_mixPapers q.1 = .ok q.2 := by decide +kernel
noncomputable def X4_mixPapers_L1 (N : Nat) (x2 : Int32) (x3 : Int32) : Nat → Int64 → Int32 → Wd → Option (Int64 × Wd)
  | 0, _, _, _ => none
  | n + 1, x4, x6, w =>
  if x3 ≤ x6 then
    some (x4, w)
  else
    (f_X4_paper N x2 x6 w).bind (fun q1 =>
      X4_mixPapers_L1 N x2 x3 n (((31 : Int64) * x4) + q1.1.toInt64) (x6 + (1 : Int32)) q1.2)
set_option maxRecDepth 20000 in
set_option maxHeartbeats 4000000 in
theorem z_X4_mixPapers_L1 {x : CX} (hC : Cx x RX4 cX4_mixPapers 7 1) (hr : (xM x).sig.returnType = (some .long)) (N : Nat) (x2 : Int32) (x3 : Int32) : ∀ (n : Nat) (x4 : Int64) (x6 : Int32) (w : Wd) (q : (Int64 × Wd)), X4_mixPapers_L1 N x2 x3 n x4 x6 w = some q → Z x 34 [none, none, none, none, some (vl q.1), none, none] [] q.2 → Z x 6 [none, none, some (vi x2), some (vi x3), some (vl x4), none, some (vi x6)] [] w := by
  intro n
  induction n with
  | zero =>
    intro x4 x6 w q h
    cases h
  | succ n ih =>
    intro x4 x6 w q h ke
    rw [X4_mixPapers_L1] at h
    refine Z_iload hC (dk d_X4_mixPapers 4 rfl) 8 rfl rfl ?_
    refine Z_iload_n hC (dk d_X4_mixPapers 5 rfl) 9 rfl rfl rfl ?_
    refine Z_icmp_ge hC (dk d_X4_mixPapers 6 rfl) 12 34 rfl (by decide) (fun c => ?_) (fun c => ?_)
    · have h := it_t h c
      obtain rfl := Option.some.inj h
      refine Z_wk [false, false, false, false, true, false, false] [none, none, none, none, some (vl x4), none, none] rfl ?_
      exact ke
    · have h := it_f h c
      refine Z_ldc2 hC kc_X4_303 (dk d_X4_mixPapers 7 rfl) 15 rfl ?_
      refine Z_lload hC (dk d_X4_mixPapers 8 rfl) 17 rfl rfl ?_
      refine Z_lmul hC (dk d_X4_mixPapers 9 rfl) 18 rfl ?_
      refine Z_iload_n hC (dk d_X4_mixPapers 10 rfl) 19 rfl rfl rfl ?_
      refine Z_iload hC (dk d_X4_mixPapers 11 rfl) 21 rfl rfl ?_
      obtain ⟨q1, hq1, h⟩ := bd_some h
      refine K_X4_220 [vi x2, vi x6] hC (s_X4_paper (xG x) (xl x) N x2 x6 w q1 hq1) (Nat.le_of_ble_eq_true rfl) rfl rfl rfl (Nat.le_of_ble_eq_true rfl) (dk d_X4_mixPapers 12 rfl) 24 rfl ?_
      refine Z_i2l hC (dk d_X4_mixPapers 13 rfl) 25 rfl ?_
      refine Z_ladd hC (dk d_X4_mixPapers 14 rfl) 26 rfl ?_
      refine Z_lstore hC (dk d_X4_mixPapers 15 rfl) 28 rfl (Nat.le_of_ble_eq_true rfl) [none, none, some (vi x2), some (vi x3), some (vl (((31 : Int64) * x4) + q1.1.toInt64)), none, some (vi x6)] rfl ?_
      refine Z_iinc hC (dk d_X4_mixPapers 16 rfl) 31 rfl rfl rfl [none, none, some (vi x2), some (vi x3), some (vl (((31 : Int64) * x4) + q1.1.toInt64)), none, some (vi (x6 + (1 : Int32)))] rfl ?_
      refine Z_goto hC (dk d_X4_mixPapers 17 rfl) 6 (by decide) ?_
      refine Z_wk [false, false, true, true, true, false, true] [none, none, some (vi x2), some (vi x3), some (vl (((31 : Int64) * x4) + q1.1.toInt64)), none, some (vi (x6 + (1 : Int32)))] rfl ?_
      exact ih (((31 : Int64) * x4) + q1.1.toInt64) (x6 + (1 : Int32)) q1.2 _ h ke
noncomputable def f_X4_mixPapers (N : Nat) (a1 : Int64) (a2 : Int32) (a3 : Int32) (w : Wd) : Option (Int64 × Wd) :=
  (X4_mixPapers_L1 N a2 a3 N a1 (0 : Int32) w).bind (fun q2 =>
    some (q2.1, q2.2))
set_option maxRecDepth 20000 in
set_option maxHeartbeats 4000000 in
theorem s_X4_mixPapers (G : GT) (l : Launch) (N : Nat) (a1 : Int64) (a2 : Int32) (a3 : Int32) (w : Wd) (q : Int64 × Wd) (h : f_X4_mixPapers N a1 a2 a3 w = some q) : Sp G l yX4_mixPapers cw_X4_mixPapers 1 [vl a1, vi a2, vi a3] w (some (vl q.1)) q.2 := by
  refine Sp_of (own := RX4) [some (vl a1), none, some (vi a2), some (vi a3), none, none, none] (by decide) rfl rfl (Nat.le_of_ble_eq_true rfl) ?_
  intro x hG hl hC hr hQ _ _
  subst hG
  subst hl
  unfold f_X4_mixPapers at h
  refine Z_lload_n hC (dk d_X4_mixPapers 0 rfl) 1 rfl rfl rfl ?_
  refine Z_lstore hC (dk d_X4_mixPapers 1 rfl) 3 rfl (Nat.le_of_ble_eq_true rfl) [some (vl a1), none, some (vi a2), some (vi a3), some (vl a1), none, none] rfl ?_
  refine Z_iconst (v := 0) hC (dk d_X4_mixPapers 2 rfl) 4 rfl (by decide) ?_
  refine Z_istore hC (dk d_X4_mixPapers 3 rfl) 6 rfl (Nat.le_of_ble_eq_true rfl) [some (vl a1), none, some (vi a2), some (vi a3), some (vl a1), none, some (vi (0 : Int32))] rfl ?_
  obtain ⟨q2, hq2, h⟩ := bd_some h
  refine Z_wk [false, false, true, true, true, false, true] [none, none, some (vi a2), some (vi a3), some (vl a1), none, some (vi (0 : Int32))] rfl ?_
  refine z_X4_mixPapers_L1 hC hr N a2 a3 N a1 (0 : Int32) w q2 hq2 ?_
  refine Z_lload hC (dk d_X4_mixPapers 18 rfl) 36 rfl rfl ?_
  obtain rfl := Option.some.inj h
  exact Z_lreturn (st := []) hC hr hQ (dk d_X4_mixPapers 19 rfl)
def t_X4_digest : List (Nat × Instr × Nat) := [(0, .ldc2_w 301, 3), (3, .lstore_n 1, 1), (4, .iconst 0, 1), (5, .istore_n 3, 1), (6, .iload_n 3, 1), (7, .bipush 7, 2), (9, .if_icmp .gt 22, 3), (12, .ldc2_w 303, 3), (15, .lload_n 1, 1), (16, .lmul, 1), (17, .aload_n 0, 1), (18, .iload_n 3, 1), (19, .invokevirtual 305, 3), (22, .i2l, 1), (23, .ladd, 1), (24, .lstore_n 1, 1), (25, .iinc 3 1, 3), (28, .goto (-22), 3), (31, .ldc2_w 303, 3), (34, .lload_n 1, 1), (35, .lmul, 1), (36, .aload_n 0, 1), (37, .getfield 26, 3), (40, .getfield 168, 3), (43, .i2l, 1), (44, .ladd, 1), (45, .lstore_n 1, 1), (46, .iconst 0, 1), (47, .istore_n 3, 1), (48, .iload_n 3, 1), (49, .aload_n 0, 1), (50, .getfield 26, 3), (53, .getfield 132, 3), (56, .if_icmp .ge 42, 3), (59, .iconst 0, 1), (60, .istore 4, 2), (62, .iload 4, 2), (64, .iconst 3, 1), (65, .if_icmp .gt 27, 3), (68, .ldc2_w 303, 3), (71, .lload_n 1, 1), (72, .lmul, 1), (73, .aload_n 0, 1), (74, .getfield 26, 3), (77, .iload_n 3, 1), (78, .iload 4, 2), (80, .invokevirtual 138, 3), (83, .i2l, 1), (84, .ladd, 1), (85, .lstore_n 1, 1), (86, .iinc 4 1, 3), (89, .goto (-27), 3), (92, .iinc 3 1, 3), (95, .goto (-47), 3), (98, .lload_n 1, 1), (99, .aload_n 0, 1), (100, .getfield 126, 3), (103, .aload_n 0, 1), (104, .getfield 129, 3), (107, .invokestatic 308, 3), (110, .lstore_n 1, 1), (111, .iconst 0, 1), (112, .istore_n 3, 1), (113, .iload_n 3, 1), (114, .aload_n 0, 1), (115, .getfield 26, 3), (118, .getfield 247, 3), (121, .if_icmp .ge 30, 3), (124, .lload_n 1, 1), (125, .aload_n 0, 1), (126, .getfield 26, 3), (129, .getfield 261, 3), (132, .iload_n 3, 1), (133, .iaload, 1), (134, .aload_n 0, 1), (135, .getfield 26, 3), (138, .getfield 132, 3), (141, .invokestatic 308, 3), (144, .lstore_n 1, 1), (145, .iinc 3 1, 3), (148, .goto (-35), 3), (151, .iconst 0, 1), (152, .istore_n 3, 1), (153, .iload_n 3, 1), (154, .iconst 3, 1), (155, .if_icmp .ge 23, 3), (158, .ldc2_w 303, 3), (161, .lload_n 1, 1), (162, .lmul, 1), (163, .aload_n 0, 1), (164, .getfield 47, 3), (167, .iload_n 3, 1), (168, .iaload, 1), (169, .i2l, 1), (170, .ladd, 1), (171, .lstore_n 1, 1), (172, .iinc 3 1, 3), (175, .goto (-22), 3), (178, .aload_n 0, 1), (179, .getfield 19, 3), (182, .aload_n 0, 1), (183, .getfield 10, 3), (186, .lload_n 1, 1), (187, .invokevirtual 312, 3), (190, .invokevirtual 316, 3), (193, .lreturn, 1)]
set_option maxRecDepth 20000 in
theorem d_X4_digest : ∀ q ∈ t_X4_digest, decode cX4_digest q.1 = .ok q.2 := by decide +kernel
noncomputable def X4_digest_L1 (N : Nat) : Nat → Int64 → Int32 → Wd → Option (Int64 × Wd)
  | 0, _, _, _ => none
  | n + 1, x1, x3, w =>
  if (7 : Int32) < x3 then
    some (x1, w)
  else
    (f_X4_count N x3 w).bind (fun q1 =>
      X4_digest_L1 N n (((31 : Int64) * x1) + q1.1.toInt64) (x3 + (1 : Int32)) q1.2)
set_option maxRecDepth 20000 in
set_option maxHeartbeats 4000000 in
theorem z_X4_digest_L1 {x : CX} (hC : Cx x RX4 cX4_digest 5 3) (hr : (xM x).sig.returnType = (some .long)) (N : Nat) : ∀ (n : Nat) (x1 : Int64) (x3 : Int32) (w : Wd) (q : (Int64 × Wd)), X4_digest_L1 N n x1 x3 w = some q → Z x 31 [some (vr 0 0), some (vl q.1), none, none, none] [] q.2 → Z x 6 [some (vr 0 0), some (vl x1), none, some (vi x3), none] [] w := by
  intro n
  induction n with
  | zero =>
    intro x1 x3 w q h
    cases h
  | succ n ih =>
    intro x1 x3 w q h ke
    rw [X4_digest_L1] at h
    refine Z_iload_n hC (dk d_X4_digest 4 rfl) 7 rfl rfl rfl ?_
    refine Z_bipush (v := 7) hC (dk d_X4_digest 5 rfl) 9 rfl (by decide) ?_
    refine Z_icmp_gt hC (dk d_X4_digest 6 rfl) 12 31 rfl (by decide) (fun c => ?_) (fun c => ?_)
    · have h := it_t h c
      obtain rfl := Option.some.inj h
      refine Z_wk [true, true, false, false, false] [some (vr 0 0), some (vl x1), none, none, none] rfl ?_
      exact ke
    · have h := it_f h c
      refine Z_ldc2 hC kc_X4_303 (dk d_X4_digest 7 rfl) 15 rfl ?_
      refine Z_lload_n hC (dk d_X4_digest 8 rfl) 16 rfl rfl rfl ?_
      refine Z_lmul hC (dk d_X4_digest 9 rfl) 17 rfl ?_
      refine Z_aload_n hC (dk d_X4_digest 10 rfl) 18 rfl rfl rfl ?_
      refine Z_iload_n hC (dk d_X4_digest 11 rfl) 19 rfl rfl rfl ?_
      obtain ⟨q1, hq1, h⟩ := bd_some h
      refine K_X4_305 [vi x3] hC m_0 (s_X4_count (xG x) (xl x) N x3 w q1 hq1) (Nat.le_of_ble_eq_true rfl) rfl rfl rfl (Nat.le_of_ble_eq_true rfl) (dk d_X4_digest 12 rfl) 22 rfl ?_
      refine Z_i2l hC (dk d_X4_digest 13 rfl) 23 rfl ?_
      refine Z_ladd hC (dk d_X4_digest 14 rfl) 24 rfl ?_
      refine Z_lstore_n hC (dk d_X4_digest 15 rfl) 25 rfl rfl (Nat.le_of_ble_eq_true rfl) [some (vr 0 0), some (vl (((31 : Int64) * x1) + q1.1.toInt64)), none, some (vi x3), none] rfl ?_
      refine Z_iinc hC (dk d_X4_digest 16 rfl) 28 rfl rfl rfl [some (vr 0 0), some (vl (((31 : Int64) * x1) + q1.1.toInt64)), none, some (vi (x3 + (1 : Int32))), none] rfl ?_
      refine Z_goto hC (dk d_X4_digest 17 rfl) 6 (by decide) ?_
      refine Z_wk [true, true, false, true, false] [some (vr 0 0), some (vl (((31 : Int64) * x1) + q1.1.toInt64)), none, some (vi (x3 + (1 : Int32))), none] rfl ?_
      exact ih (((31 : Int64) * x1) + q1.1.toInt64) (x3 + (1 : Int32)) q1.2 _ h ke
noncomputable def X4_digest_L3 (N : Nat) (x3 : Int32) : Nat → Int64 → Int32 → Wd → Option (Int64 × Wd)
  | 0, _, _, _ => none
  | n + 1, x1, x4, w =>
  if (3 : Int32) < x4 then
    some (x1, w)
  else
    (f_X0_fact N 0 x3 x4 w).bind (fun q3 =>
      X4_digest_L3 N x3 n (((31 : Int64) * x1) + q3.1.toInt64) (x4 + (1 : Int32)) q3.2)
set_option maxRecDepth 20000 in
set_option maxHeartbeats 4000000 in
theorem z_X4_digest_L3 {x : CX} (hC : Cx x RX4 cX4_digest 5 3) (hr : (xM x).sig.returnType = (some .long)) (N : Nat) (x3 : Int32) : ∀ (n : Nat) (x1 : Int64) (x4 : Int32) (w : Wd) (q : (Int64 × Wd)), X4_digest_L3 N x3 n x1 x4 w = some q → Z x 92 [some (vr 0 0), some (vl q.1), none, some (vi x3), none] [] q.2 → Z x 62 [some (vr 0 0), some (vl x1), none, some (vi x3), some (vi x4)] [] w := by
  intro n
  induction n with
  | zero =>
    intro x1 x4 w q h
    cases h
  | succ n ih =>
    intro x1 x4 w q h ke
    rw [X4_digest_L3] at h
    refine Z_iload hC (dk d_X4_digest 36 rfl) 64 rfl rfl ?_
    refine Z_iconst (v := 3) hC (dk d_X4_digest 37 rfl) 65 rfl (by decide) ?_
    refine Z_icmp_gt hC (dk d_X4_digest 38 rfl) 68 92 rfl (by decide) (fun c => ?_) (fun c => ?_)
    · have h := it_t h c
      obtain rfl := Option.some.inj h
      refine Z_wk [true, true, false, true, false] [some (vr 0 0), some (vl x1), none, some (vi x3), none] rfl ?_
      exact ke
    · have h := it_f h c
      refine Z_ldc2 hC kc_X4_303 (dk d_X4_digest 39 rfl) 71 rfl ?_
      refine Z_lload_n hC (dk d_X4_digest 40 rfl) 72 rfl rfl rfl ?_
      refine Z_lmul hC (dk d_X4_digest 41 rfl) 73 rfl ?_
      refine Z_aload_n hC (dk d_X4_digest 42 rfl) 74 rfl rfl rfl ?_
      refine G_X4_26 hC m_0 (dk d_X4_digest 43 rfl) 77 rfl ?_
      refine Z_iload_n hC (dk d_X4_digest 44 rfl) 78 rfl rfl rfl ?_
      refine Z_iload hC (dk d_X4_digest 45 rfl) 80 rfl rfl ?_
      obtain ⟨q3, hq3, h⟩ := bd_some h
      refine K_X4_138 [vi x3, vi x4] hC (m_3 (by decide)) (s_X0_fact (xG x) (xl x) N 0 (by decide) x3 x4 w q3 hq3) (Nat.le_of_ble_eq_true rfl) rfl rfl rfl (Nat.le_of_ble_eq_true rfl) (dk d_X4_digest 46 rfl) 83 rfl ?_
      refine Z_i2l hC (dk d_X4_digest 47 rfl) 84 rfl ?_
      refine Z_ladd hC (dk d_X4_digest 48 rfl) 85 rfl ?_
      refine Z_lstore_n hC (dk d_X4_digest 49 rfl) 86 rfl rfl (Nat.le_of_ble_eq_true rfl) [some (vr 0 0), some (vl (((31 : Int64) * x1) + q3.1.toInt64)), none, some (vi x3), some (vi x4)] rfl ?_
      refine Z_iinc hC (dk d_X4_digest 50 rfl) 89 rfl rfl rfl [some (vr 0 0), some (vl (((31 : Int64) * x1) + q3.1.toInt64)), none, some (vi x3), some (vi (x4 + (1 : Int32)))] rfl ?_
      refine Z_goto hC (dk d_X4_digest 51 rfl) 62 (by decide) ?_
      refine Z_wk [true, true, false, true, true] [some (vr 0 0), some (vl (((31 : Int64) * x1) + q3.1.toInt64)), none, some (vi x3), some (vi (x4 + (1 : Int32)))] rfl ?_
      exact ih (((31 : Int64) * x1) + q3.1.toInt64) (x4 + (1 : Int32)) q3.2 _ h ke
noncomputable def X4_digest_L2 (N : Nat) : Nat → Int64 → Int32 → Wd → Option (Int64 × Wd)
  | 0, _, _, _ => none
  | n + 1, x1, x3, w =>
  if (gI w 4 0) ≤ x3 then
    some (x1, w)
  else
    (X4_digest_L3 N x3 N x1 (0 : Int32) w).bind (fun q4 =>
      X4_digest_L2 N n q4.1 (x3 + (1 : Int32)) q4.2)
set_option maxRecDepth 20000 in
set_option maxHeartbeats 4000000 in
theorem z_X4_digest_L2 {x : CX} (hC : Cx x RX4 cX4_digest 5 3) (hr : (xM x).sig.returnType = (some .long)) (N : Nat) : ∀ (n : Nat) (x1 : Int64) (x3 : Int32) (w : Wd) (q : (Int64 × Wd)), X4_digest_L2 N n x1 x3 w = some q → Z x 98 [some (vr 0 0), some (vl q.1), none, none, none] [] q.2 → Z x 48 [some (vr 0 0), some (vl x1), none, some (vi x3), none] [] w := by
  intro n
  induction n with
  | zero =>
    intro x1 x3 w q h
    cases h
  | succ n ih =>
    intro x1 x3 w q h ke
    rw [X4_digest_L2] at h
    refine Z_iload_n hC (dk d_X4_digest 29 rfl) 49 rfl rfl rfl ?_
    refine Z_aload_n hC (dk d_X4_digest 30 rfl) 50 rfl rfl rfl ?_
    refine G_X4_26 hC m_0 (dk d_X4_digest 31 rfl) 53 rfl ?_
    refine G_X4_132 hC (m_3 (by decide)) (dk d_X4_digest 32 rfl) 56 rfl ?_
    refine Z_icmp_ge hC (dk d_X4_digest 33 rfl) 59 98 rfl (by decide) (fun c => ?_) (fun c => ?_)
    · have h := it_t h c
      obtain rfl := Option.some.inj h
      refine Z_wk [true, true, false, false, false] [some (vr 0 0), some (vl x1), none, none, none] rfl ?_
      exact ke
    · have h := it_f h c
      refine Z_iconst (v := 0) hC (dk d_X4_digest 34 rfl) 60 rfl (by decide) ?_
      refine Z_istore hC (dk d_X4_digest 35 rfl) 62 rfl (Nat.le_of_ble_eq_true rfl) [some (vr 0 0), some (vl x1), none, some (vi x3), some (vi (0 : Int32))] rfl ?_
      obtain ⟨q4, hq4, h⟩ := bd_some h
      refine Z_wk [true, true, false, true, true] [some (vr 0 0), some (vl x1), none, some (vi x3), some (vi (0 : Int32))] rfl ?_
      refine z_X4_digest_L3 hC hr N x3 N x1 (0 : Int32) w q4 hq4 ?_
      refine Z_iinc hC (dk d_X4_digest 52 rfl) 95 rfl rfl rfl [some (vr 0 0), some (vl q4.1), none, some (vi (x3 + (1 : Int32))), none] rfl ?_
      refine Z_goto hC (dk d_X4_digest 53 rfl) 48 (by decide) ?_
      refine Z_wk [true, true, false, true, false] [some (vr 0 0), some (vl q4.1), none, some (vi (x3 + (1 : Int32))), none] rfl ?_
      exact ih q4.1 (x3 + (1 : Int32)) q4.2 _ h ke
noncomputable def X4_digest_L4 (N : Nat) : Nat → Int64 → Int32 → Wd → Option (Int64 × Wd)
  | 0, _, _, _ => none
  | n + 1, x1, x3, w =>
  if (gI w 5 0) ≤ x3 then
    some (x1, w)
  else
    gd (vp_in x3 42) (
    (f_X4_mixPapers N x1 (gA w 19 0 x3.toNatClampNeg) (gI w 4 0) w).bind (fun q8 =>
      X4_digest_L4 N n q8.1 (x3 + (1 : Int32)) q8.2))
set_option maxRecDepth 20000 in
set_option maxHeartbeats 4000000 in
theorem z_X4_digest_L4 {x : CX} (hC : Cx x RX4 cX4_digest 5 3) (hr : (xM x).sig.returnType = (some .long)) (N : Nat) : ∀ (n : Nat) (x1 : Int64) (x3 : Int32) (w : Wd) (q : (Int64 × Wd)), X4_digest_L4 N n x1 x3 w = some q → Z x 151 [some (vr 0 0), some (vl q.1), none, none, none] [] q.2 → Z x 113 [some (vr 0 0), some (vl x1), none, some (vi x3), none] [] w := by
  intro n
  induction n with
  | zero =>
    intro x1 x3 w q h
    cases h
  | succ n ih =>
    intro x1 x3 w q h ke
    rw [X4_digest_L4] at h
    refine Z_iload_n hC (dk d_X4_digest 63 rfl) 114 rfl rfl rfl ?_
    refine Z_aload_n hC (dk d_X4_digest 64 rfl) 115 rfl rfl rfl ?_
    refine G_X4_26 hC m_0 (dk d_X4_digest 65 rfl) 118 rfl ?_
    refine G_X4_247 hC (m_3 (by decide)) (dk d_X4_digest 66 rfl) 121 rfl ?_
    refine Z_icmp_ge hC (dk d_X4_digest 67 rfl) 124 151 rfl (by decide) (fun c => ?_) (fun c => ?_)
    · have h := it_t h c
      obtain rfl := Option.some.inj h
      refine Z_wk [true, true, false, false, false] [some (vr 0 0), some (vl x1), none, none, none] rfl ?_
      exact ke
    · have h := it_f h c
      refine Z_lload_n hC (dk d_X4_digest 68 rfl) 125 rfl rfl rfl ?_
      refine Z_aload_n hC (dk d_X4_digest 69 rfl) 126 rfl rfl rfl ?_
      refine G_X4_26 hC m_0 (dk d_X4_digest 70 rfl) 129 rfl ?_
      refine G_X4_261 hC (m_3 (by decide)) (dk d_X4_digest 71 rfl) 132 rfl ?_
      refine Z_iload_n hC (dk d_X4_digest 72 rfl) 133 rfl rfl rfl ?_
      obtain ⟨g7, h⟩ := gd_some h
      refine Z_iaload hC (m_19 (by decide)) (by decide) rfl g7 (dk d_X4_digest 73 rfl) 134 rfl ?_
      refine Z_aload_n hC (dk d_X4_digest 74 rfl) 135 rfl rfl rfl ?_
      refine G_X4_26 hC m_0 (dk d_X4_digest 75 rfl) 138 rfl ?_
      refine G_X4_132 hC (m_3 (by decide)) (dk d_X4_digest 76 rfl) 141 rfl ?_
      obtain ⟨q8, hq8, h⟩ := bd_some h
      refine K_X4_308 [vl x1, vi (gA w 19 0 x3.toNatClampNeg), vi (gI w 4 0)] hC (s_X4_mixPapers (xG x) (xl x) N x1 (gA w 19 0 x3.toNatClampNeg) (gI w 4 0) w q8 hq8) (Nat.le_of_ble_eq_true rfl) rfl rfl rfl (Nat.le_of_ble_eq_true rfl) (dk d_X4_digest 77 rfl) 144 rfl ?_
      refine Z_lstore_n hC (dk d_X4_digest 78 rfl) 145 rfl rfl (Nat.le_of_ble_eq_true rfl) [some (vr 0 0), some (vl q8.1), none, some (vi x3), none] rfl ?_
      refine Z_iinc hC (dk d_X4_digest 79 rfl) 148 rfl rfl rfl [some (vr 0 0), some (vl q8.1), none, some (vi (x3 + (1 : Int32))), none] rfl ?_
      refine Z_goto hC (dk d_X4_digest 80 rfl) 113 (by decide) ?_
      refine Z_wk [true, true, false, true, false] [some (vr 0 0), some (vl q8.1), none, some (vi (x3 + (1 : Int32))), none] rfl ?_
      exact ih q8.1 (x3 + (1 : Int32)) q8.2 _ h ke
noncomputable def X4_digest_L5 (N : Nat) : Nat → Int64 → Int32 → Wd → Option (Int64 × Wd)
  | 0, _, _, _ => none
  | n + 1, x1, x3, w =>
  if (3 : Int32) ≤ x3 then
    some (x1, w)
  else
    gd (vp_in x3 3) (
    X4_digest_L5 N n (((31 : Int64) * x1) + ((gA w 23 0 x3.toNatClampNeg).toInt64)) (x3 + (1 : Int32)) w)
set_option maxRecDepth 20000 in
set_option maxHeartbeats 4000000 in
theorem z_X4_digest_L5 {x : CX} (hC : Cx x RX4 cX4_digest 5 3) (hr : (xM x).sig.returnType = (some .long)) (N : Nat) : ∀ (n : Nat) (x1 : Int64) (x3 : Int32) (w : Wd) (q : (Int64 × Wd)), X4_digest_L5 N n x1 x3 w = some q → Z x 178 [some (vr 0 0), some (vl q.1), none, none, none] [] q.2 → Z x 153 [some (vr 0 0), some (vl x1), none, some (vi x3), none] [] w := by
  intro n
  induction n with
  | zero =>
    intro x1 x3 w q h
    cases h
  | succ n ih =>
    intro x1 x3 w q h ke
    rw [X4_digest_L5] at h
    refine Z_iload_n hC (dk d_X4_digest 83 rfl) 154 rfl rfl rfl ?_
    refine Z_iconst (v := 3) hC (dk d_X4_digest 84 rfl) 155 rfl (by decide) ?_
    refine Z_icmp_ge hC (dk d_X4_digest 85 rfl) 158 178 rfl (by decide) (fun c => ?_) (fun c => ?_)
    · have h := it_t h c
      obtain rfl := Option.some.inj h
      refine Z_wk [true, true, false, false, false] [some (vr 0 0), some (vl x1), none, none, none] rfl ?_
      exact ke
    · have h := it_f h c
      refine Z_ldc2 hC kc_X4_303 (dk d_X4_digest 86 rfl) 161 rfl ?_
      refine Z_lload_n hC (dk d_X4_digest 87 rfl) 162 rfl rfl rfl ?_
      refine Z_lmul hC (dk d_X4_digest 88 rfl) 163 rfl ?_
      refine Z_aload_n hC (dk d_X4_digest 89 rfl) 164 rfl rfl rfl ?_
      refine G_X4_47 hC m_0 (dk d_X4_digest 90 rfl) 167 rfl ?_
      refine Z_iload_n hC (dk d_X4_digest 91 rfl) 168 rfl rfl rfl ?_
      obtain ⟨g10, h⟩ := gd_some h
      refine Z_iaload hC m_23 (by decide) rfl g10 (dk d_X4_digest 92 rfl) 169 rfl ?_
      refine Z_i2l hC (dk d_X4_digest 93 rfl) 170 rfl ?_
      refine Z_ladd hC (dk d_X4_digest 94 rfl) 171 rfl ?_
      refine Z_lstore_n hC (dk d_X4_digest 95 rfl) 172 rfl rfl (Nat.le_of_ble_eq_true rfl) [some (vr 0 0), some (vl (((31 : Int64) * x1) + ((gA w 23 0 x3.toNatClampNeg).toInt64))), none, some (vi x3), none] rfl ?_
      refine Z_iinc hC (dk d_X4_digest 96 rfl) 175 rfl rfl rfl [some (vr 0 0), some (vl (((31 : Int64) * x1) + ((gA w 23 0 x3.toNatClampNeg).toInt64))), none, some (vi (x3 + (1 : Int32))), none] rfl ?_
      refine Z_goto hC (dk d_X4_digest 97 rfl) 153 (by decide) ?_
      refine Z_wk [true, true, false, true, false] [some (vr 0 0), some (vl (((31 : Int64) * x1) + ((gA w 23 0 x3.toNatClampNeg).toInt64))), none, some (vi (x3 + (1 : Int32))), none] rfl ?_
      exact ih (((31 : Int64) * x1) + ((gA w 23 0 x3.toNatClampNeg).toInt64)) (x3 + (1 : Int32)) w _ h ke
noncomputable def f_X4_digest (N : Nat) (w : Wd) : Option (Int64 × Wd) :=
  (X4_digest_L1 N N (17 : Int64) (0 : Int32) w).bind (fun q2 =>
    (X4_digest_L2 N N (((31 : Int64) * q2.1) + ((gI q2.2 6 0).toInt64)) (0 : Int32) q2.2).bind (fun q5 =>
      (f_X4_mixPapers N q5.1 (gI q5.2 406 0) (gI q5.2 407 0) q5.2).bind (fun q6 =>
        (X4_digest_L4 N N q6.1 (0 : Int32) q6.2).bind (fun q9 =>
          (X4_digest_L5 N N q9.1 (0 : Int32) q9.2).bind (fun q11 =>
            (f_X1_mixAll N q11.1 q11.2).bind (fun q12 =>
              (f_X3_mixAll N q12.1 q12.2).bind (fun q13 =>
                some (q13.1, q13.2))))))))
set_option maxRecDepth 20000 in
set_option maxHeartbeats 4000000 in
theorem s_X4_digest (G : GT) (l : Launch) (N : Nat) (w : Wd) (q : Int64 × Wd) (h : f_X4_digest N w = some q) : Sp G l yX4_digest cw_X4_digest 3 [vr 0 0] w (some (vl q.1)) q.2 := by
  refine Sp_of (own := RX4) [some (vr 0 0), none, none, none, none] (by decide) rfl rfl (Nat.le_of_ble_eq_true rfl) ?_
  intro x hG hl hC hr hQ _ _
  subst hG
  subst hl
  unfold f_X4_digest at h
  refine Z_ldc2 hC kc_X4_301 (dk d_X4_digest 0 rfl) 3 rfl ?_
  refine Z_lstore_n hC (dk d_X4_digest 1 rfl) 4 rfl rfl (Nat.le_of_ble_eq_true rfl) [some (vr 0 0), some (vl (17 : Int64)), none, none, none] rfl ?_
  refine Z_iconst (v := 0) hC (dk d_X4_digest 2 rfl) 5 rfl (by decide) ?_
  refine Z_istore_n hC (dk d_X4_digest 3 rfl) 6 rfl rfl (Nat.le_of_ble_eq_true rfl) [some (vr 0 0), some (vl (17 : Int64)), none, some (vi (0 : Int32)), none] rfl ?_
  obtain ⟨q2, hq2, h⟩ := bd_some h
  refine Z_wk [true, true, false, true, false] [some (vr 0 0), some (vl (17 : Int64)), none, some (vi (0 : Int32)), none] rfl ?_
  refine z_X4_digest_L1 hC hr N N (17 : Int64) (0 : Int32) w q2 hq2 ?_
  refine Z_ldc2 hC kc_X4_303 (dk d_X4_digest 18 rfl) 34 rfl ?_
  refine Z_lload_n hC (dk d_X4_digest 19 rfl) 35 rfl rfl rfl ?_
  refine Z_lmul hC (dk d_X4_digest 20 rfl) 36 rfl ?_
  refine Z_aload_n hC (dk d_X4_digest 21 rfl) 37 rfl rfl rfl ?_
  refine G_X4_26 hC m_0 (dk d_X4_digest 22 rfl) 40 rfl ?_
  refine G_X4_168 hC (m_3 (by decide)) (dk d_X4_digest 23 rfl) 43 rfl ?_
  refine Z_i2l hC (dk d_X4_digest 24 rfl) 44 rfl ?_
  refine Z_ladd hC (dk d_X4_digest 25 rfl) 45 rfl ?_
  refine Z_lstore_n hC (dk d_X4_digest 26 rfl) 46 rfl rfl (Nat.le_of_ble_eq_true rfl) [some (vr 0 0), some (vl (((31 : Int64) * q2.1) + ((gI q2.2 6 0).toInt64))), none, none, none] rfl ?_
  refine Z_iconst (v := 0) hC (dk d_X4_digest 27 rfl) 47 rfl (by decide) ?_
  refine Z_istore_n hC (dk d_X4_digest 28 rfl) 48 rfl rfl (Nat.le_of_ble_eq_true rfl) [some (vr 0 0), some (vl (((31 : Int64) * q2.1) + ((gI q2.2 6 0).toInt64))), none, some (vi (0 : Int32)), none] rfl ?_
  obtain ⟨q5, hq5, h⟩ := bd_some h
  refine Z_wk [true, true, false, true, false] [some (vr 0 0), some (vl (((31 : Int64) * q2.1) + ((gI q2.2 6 0).toInt64))), none, some (vi (0 : Int32)), none] rfl ?_
  refine z_X4_digest_L2 hC hr N N (((31 : Int64) * q2.1) + ((gI q2.2 6 0).toInt64)) (0 : Int32) q2.2 q5 hq5 ?_
  refine Z_lload_n hC (dk d_X4_digest 54 rfl) 99 rfl rfl rfl ?_
  refine Z_aload_n hC (dk d_X4_digest 55 rfl) 100 rfl rfl rfl ?_
  refine G_X4_126 hC m_0 (dk d_X4_digest 56 rfl) 103 rfl ?_
  refine Z_aload_n hC (dk d_X4_digest 57 rfl) 104 rfl rfl rfl ?_
  refine G_X4_129 hC m_0 (dk d_X4_digest 58 rfl) 107 rfl ?_
  obtain ⟨q6, hq6, h⟩ := bd_some h
  refine K_X4_308 [vl q5.1, vi (gI q5.2 406 0), vi (gI q5.2 407 0)] hC (s_X4_mixPapers (xG x) (xl x) N q5.1 (gI q5.2 406 0) (gI q5.2 407 0) q5.2 q6 hq6) (Nat.le_of_ble_eq_true rfl) rfl rfl rfl (Nat.le_of_ble_eq_true rfl) (dk d_X4_digest 59 rfl) 110 rfl ?_
  refine Z_lstore_n hC (dk d_X4_digest 60 rfl) 111 rfl rfl (Nat.le_of_ble_eq_true rfl) [some (vr 0 0), some (vl q6.1), none, none, none] rfl ?_
  refine Z_iconst (v := 0) hC (dk d_X4_digest 61 rfl) 112 rfl (by decide) ?_
  refine Z_istore_n hC (dk d_X4_digest 62 rfl) 113 rfl rfl (Nat.le_of_ble_eq_true rfl) [some (vr 0 0), some (vl q6.1), none, some (vi (0 : Int32)), none] rfl ?_
  obtain ⟨q9, hq9, h⟩ := bd_some h
  refine Z_wk [true, true, false, true, false] [some (vr 0 0), some (vl q6.1), none, some (vi (0 : Int32)), none] rfl ?_
  refine z_X4_digest_L4 hC hr N N q6.1 (0 : Int32) q6.2 q9 hq9 ?_
  refine Z_iconst (v := 0) hC (dk d_X4_digest 81 rfl) 152 rfl (by decide) ?_
  refine Z_istore_n hC (dk d_X4_digest 82 rfl) 153 rfl rfl (Nat.le_of_ble_eq_true rfl) [some (vr 0 0), some (vl q9.1), none, some (vi (0 : Int32)), none] rfl ?_
  obtain ⟨q11, hq11, h⟩ := bd_some h
  refine Z_wk [true, true, false, true, false] [some (vr 0 0), some (vl q9.1), none, some (vi (0 : Int32)), none] rfl ?_
  refine z_X4_digest_L5 hC hr N N q9.1 (0 : Int32) q9.2 q11 hq11 ?_
  refine Z_aload_n hC (dk d_X4_digest 98 rfl) 179 rfl rfl rfl ?_
  refine G_X4_19 hC m_0 (dk d_X4_digest 99 rfl) 182 rfl ?_
  refine Z_aload_n hC (dk d_X4_digest 100 rfl) 183 rfl rfl rfl ?_
  refine G_X4_10 hC m_0 (dk d_X4_digest 101 rfl) 186 rfl ?_
  refine Z_lload_n hC (dk d_X4_digest 102 rfl) 187 rfl rfl rfl ?_
  obtain ⟨q12, hq12, h⟩ := bd_some h
  refine K_X4_312 [vl q11.1] hC m_1 (s_X1_mixAll (xG x) (xl x) N q11.1 q11.2 q12 hq12) (Nat.le_of_ble_eq_true rfl) rfl rfl rfl (Nat.le_of_ble_eq_true rfl) (dk d_X4_digest 103 rfl) 190 rfl ?_
  obtain ⟨q13, hq13, h⟩ := bd_some h
  refine K_X4_316 [vl q12.1] hC m_2 (s_X3_mixAll (xG x) (xl x) N q12.1 q12.2 q13 hq13) (Nat.le_of_ble_eq_true rfl) rfl rfl rfl (Nat.le_of_ble_eq_true rfl) (dk d_X4_digest 104 rfl) 193 rfl ?_
  obtain rfl := Option.some.inj h
  exact Z_lreturn (st := []) hC hr hQ (dk d_X4_digest 105 rfl)
def t_X5_in : List (Nat × Instr × Nat) := [(0, .iload_n 0, 1), (1, .iload_n 1, 1), (2, .if_icmp .lt 12, 3), (5, .iload_n 0, 1), (6, .iload_n 2, 1), (7, .if_icmp .gt 7, 3), (10, .iconst 1, 1), (11, .goto 4, 3), (14, .iconst 0, 1), (15, .ireturn, 1)]
set_option maxRecDepth 20000 in
theorem d_X5_in : ∀ q ∈ t_X5_in, decode cX5_in q.1 = .ok q.2 := by decide +kernel
noncomputable def f_X5_in (N : Nat) (a1 : Int32) (a2 : Int32) (a3 : Int32) (w : Wd) : Option (Int32 × Wd) :=
  if a1 < a2 then
    some ((0 : Int32), w)
  else
    if a3 < a1 then
      some ((0 : Int32), w)
    else
      some ((1 : Int32), w)
set_option maxRecDepth 20000 in
set_option maxHeartbeats 4000000 in
theorem s_X5_in (G : GT) (l : Launch) (N : Nat) (a1 : Int32) (a2 : Int32) (a3 : Int32) (w : Wd) (q : Int32 × Wd) (h : f_X5_in N a1 a2 a3 w = some q) : Sp G l yX5_in cw_X5_in 0 [vi a1, vi a2, vi a3] w (some (vi q.1)) q.2 := by
  refine Sp_of (own := RX5) [some (vi a1), some (vi a2), some (vi a3)] (by decide) rfl rfl (Nat.le_of_ble_eq_true rfl) ?_
  intro x hG hl hC hr hQ _ _
  subst hG
  subst hl
  unfold f_X5_in at h
  refine Z_iload_n hC (dk d_X5_in 0 rfl) 1 rfl rfl rfl ?_
  refine Z_iload_n hC (dk d_X5_in 1 rfl) 2 rfl rfl rfl ?_
  refine Z_icmp_lt hC (dk d_X5_in 2 rfl) 5 14 rfl (by decide) (fun c => ?_) (fun c => ?_)
  · have h := it_t h c
    refine Z_iconst (v := 0) hC (dk d_X5_in 8 rfl) 15 rfl (by decide) ?_
    obtain rfl := Option.some.inj h
    exact Z_zreturn (st := []) hC hr rfl hQ (dk d_X5_in 9 rfl)
  · have h := it_f h c
    refine Z_iload_n hC (dk d_X5_in 3 rfl) 6 rfl rfl rfl ?_
    refine Z_iload_n hC (dk d_X5_in 4 rfl) 7 rfl rfl rfl ?_
    refine Z_icmp_gt hC (dk d_X5_in 5 rfl) 10 14 rfl (by decide) (fun c => ?_) (fun c => ?_)
    · have h := it_t h c
      refine Z_iconst (v := 0) hC (dk d_X5_in 8 rfl) 15 rfl (by decide) ?_
      obtain rfl := Option.some.inj h
      exact Z_zreturn (st := []) hC hr rfl hQ (dk d_X5_in 9 rfl)
    · have h := it_f h c
      refine Z_iconst (v := 1) hC (dk d_X5_in 6 rfl) 11 rfl (by decide) ?_
      refine Z_goto hC (dk d_X5_in 7 rfl) 15 (by decide) ?_
      obtain rfl := Option.some.inj h
      exact Z_zreturn (st := []) hC hr rfl hQ (dk d_X5_in 9 rfl)
def t_X5_meet : List (Nat × Instr × Nat) := [(0, .aload_n 0, 1), (1, .iload_n 1, 1), (2, .putfield 63, 3), (5, .aload_n 0, 1), (6, .getfield 7, 3), (9, .iload_n 1, 1), (10, .dup2, 1), (11, .iaload, 1), (12, .iconst 1, 1), (13, .iadd, 1), (14, .iastore, 1), (15, .bipush (-3), 2), (17, .ireturn, 1)]
set_option maxRecDepth 20000 in
theorem d_X5_meet : ∀ q ∈ t_X5_meet, decode cX5_meet q.1 = .ok q.2 := by decide +kernel
noncomputable def f_X5_meet (N : Nat) (a1 : Int32) (w : Wd) : Option (Int32 × Wd) :=
  gd (vp_in a1 6) (
  gd (vp_in a1 6) (
  some ((-3 : Int32), sA (sI w 500 0 a1) 30 0 (upd (gA (sI w 500 0 a1) 30 0) a1.toNatClampNeg ((gA (sI w 500 0 a1) 30 0 a1.toNatClampNeg) + (1 : Int32))))))
set_option maxRecDepth 20000 in
set_option maxHeartbeats 4000000 in
theorem s_X5_meet (G : GT) (l : Launch) (N : Nat) (a1 : Int32) (w : Wd) (q : Int32 × Wd) (h : f_X5_meet N a1 w = some q) : Sp G l yX5_meet cw_X5_meet 0 [vr 5 0, vi a1] w (some (vi q.1)) q.2 := by
  refine Sp_of (own := RX5) [some (vr 5 0), some (vi a1)] (by decide) rfl rfl (Nat.le_of_ble_eq_true rfl) ?_
  intro x hG hl hC hr hQ _ _
  subst hG
  subst hl
  unfold f_X5_meet at h
  refine Z_aload_n hC (dk d_X5_meet 0 rfl) 1 rfl rfl rfl ?_
  refine Z_iload_n hC (dk d_X5_meet 1 rfl) 2 rfl rfl rfl ?_
  refine P_X5_63 hC m_5 (dk d_X5_meet 2 rfl) 5 rfl ?_
  refine Z_aload_n hC (dk d_X5_meet 3 rfl) 6 rfl rfl rfl ?_
  refine G_X5_7 hC m_5 (dk d_X5_meet 4 rfl) 9 rfl ?_
  refine Z_iload_n hC (dk d_X5_meet 5 rfl) 10 rfl rfl rfl ?_
  refine Z_dup2 hC (dk d_X5_meet 6 rfl) 11 rfl rfl rfl ?_
  obtain ⟨g1, h⟩ := gd_some h
  refine Z_iaload hC m_30 (by decide) rfl g1 (dk d_X5_meet 7 rfl) 12 rfl ?_
  refine Z_iconst (v := 1) hC (dk d_X5_meet 8 rfl) 13 rfl (by decide) ?_
  refine Z_iadd hC (dk d_X5_meet 9 rfl) 14 rfl ?_
  obtain ⟨g2, h⟩ := gd_some h
  refine Z_iastore hC m_30 (by decide) rfl g2 (dk d_X5_meet 10 rfl) 15 rfl ?_
  refine Z_bipush (v := -3) hC (dk d_X5_meet 11 rfl) 17 rfl (by decide) ?_
  obtain rfl := Option.some.inj h
  exact Z_ireturn (st := []) hC hr hQ (dk d_X5_meet 12 rfl)
def t_X5_ask : List (Nat × Instr × Nat) := [(0, .aload_n 0, 1), (1, .iload_n 1, 1), (2, .putfield 66, 3), (5, .iload_n 2, 1), (6, .ireturn, 1)]
set_option maxRecDepth 20000 in
theorem d_X5_ask : ∀ q ∈ t_X5_ask, decode cX5_ask q.1 = .ok q.2 := by decide +kernel
noncomputable def f_X5_ask (N : Nat) (a1 : Int32) (a2 : Int32) (w : Wd) : Option (Int32 × Wd) :=
  some (a2, sI w 502 0 a1)
set_option maxRecDepth 20000 in
set_option maxHeartbeats 4000000 in
theorem s_X5_ask (G : GT) (l : Launch) (N : Nat) (a1 : Int32) (a2 : Int32) (w : Wd) (q : Int32 × Wd) (h : f_X5_ask N a1 a2 w = some q) : Sp G l yX5_ask cw_X5_ask 0 [vr 5 0, vi a1, vi a2] w (some (vi q.1)) q.2 := by
  refine Sp_of (own := RX5) [some (vr 5 0), some (vi a1), some (vi a2)] (by decide) rfl rfl (Nat.le_of_ble_eq_true rfl) ?_
  intro x hG hl hC hr hQ _ _
  subst hG
  subst hl
  unfold f_X5_ask at h
  refine Z_aload_n hC (dk d_X5_ask 0 rfl) 1 rfl rfl rfl ?_
  refine Z_iload_n hC (dk d_X5_ask 1 rfl) 2 rfl rfl rfl ?_
  refine P_X5_66 hC m_5 (dk d_X5_ask 2 rfl) 5 rfl ?_
  refine Z_iload_n hC (dk d_X5_ask 3 rfl) 6 rfl rfl rfl ?_
  obtain rfl := Option.some.inj h
  exact Z_ireturn (st := []) hC hr hQ (dk d_X5_ask 4 rfl)
def t_X5_part : List (Nat × Instr × Nat) := [(0, .lload_n 1, 1), (1, .lstore 6, 2), (3, .lload_n 3, 1), (4, .lstore 8, 2), (6, .lload 8, 2), (8, .lconst 0, 1), (9, .lcmp, 1), (10, .ifCond .eq 21, 3), (13, .lload 6, 2), (15, .lload 8, 2), (17, .lrem, 1), (18, .lstore 10, 2), (20, .lload 8, 2), (22, .lstore 6, 2), (24, .lload 10, 2), (26, .lstore 8, 2), (28, .goto (-22), 3), (31, .aload_n 0, 1), (32, .lload_n 1, 1), (33, .lload 6, 2), (35, .ldiv, 1), (36, .putfield 69, 3), (39, .aload_n 0, 1), (40, .lload_n 3, 1), (41, .lload 6, 2), (43, .ldiv, 1), (44, .putfield 13, 3), (47, .iload 5, 2), (49, .ireturn, 1)]
set_option maxRecDepth 20000 in
theorem d_X5_part : ∀ q ∈ t_X5_part, decode cX5_part q.1 = .ok q.2 := by decide +kernel
noncomputable def X5_part_L1 (N : Nat) (x1 : Int64) (x3 : Int64) (x5 : Int32) : Nat → Int64 → Int64 → Wd → Option (Int64 × Wd)
  | 0, _, _, _ => none
  | n + 1, x6, x8, w =>
  if (lg_cmp x8 (0 : Int64)) = 0 then
    some (x6, w)
  else
    gd (¬ x8 = 0) (
    X5_part_L1 N x1 x3 x5 n x8 (x6 - x6 / x8 * x8) w)
set_option maxRecDepth 20000 in
set_option maxHeartbeats 4000000 in
theorem z_X5_part_L1 {x : CX} (hC : Cx x RX5 cX5_part 12 0) (hr : (xM x).sig.returnType = (some .int)) (N : Nat) (x1 : Int64) (x3 : Int64) (x5 : Int32) : ∀ (n : Nat) (x6 : Int64) (x8 : Int64) (w : Wd) (q : (Int64 × Wd)), X5_part_L1 N x1 x3 x5 n x6 x8 w = some q → Z x 31 [some (vr 5 0), some (vl x1), none, some (vl x3), none, some (vi x5), some (vl q.1), none, none, none, none, none] [] q.2 → Z x 6 [some (vr 5 0), some (vl x1), none, some (vl x3), none, some (vi x5), some (vl x6), none, some (vl x8), none, none, none] [] w := by
  intro n
  induction n with
  | zero =>
    intro x6 x8 w q h
    cases h
  | succ n ih =>
    intro x6 x8 w q h ke
    rw [X5_part_L1] at h
    refine Z_lload hC (dk d_X5_part 4 rfl) 8 rfl rfl ?_
    refine Z_lconst (v := 0) hC (dk d_X5_part 5 rfl) 9 rfl (by decide) ?_
    refine Z_lcmp hC (dk d_X5_part 6 rfl) 10 rfl ?_
    refine Z_if_eq hC (dk d_X5_part 7 rfl) 13 31 rfl (by decide) (fun c => ?_) (fun c => ?_)
    · have h := it_t h c
      obtain rfl := Option.some.inj h
      refine Z_wk [true, true, false, true, false, true, true, false, false, false, false, false] [some (vr 5 0), some (vl x1), none, some (vl x3), none, some (vi x5), some (vl x6), none, none, none, none, none] rfl ?_
      exact ke
    · have h := it_f h c
      refine Z_lload hC (dk d_X5_part 8 rfl) 15 rfl rfl ?_
      refine Z_lload hC (dk d_X5_part 9 rfl) 17 rfl rfl ?_
      obtain ⟨g1, h⟩ := gd_some h
      refine Z_lrem hC (dk d_X5_part 10 rfl) 18 rfl g1 ?_
      refine Z_lstore hC (dk d_X5_part 11 rfl) 20 rfl (Nat.le_of_ble_eq_true rfl) [some (vr 5 0), some (vl x1), none, some (vl x3), none, some (vi x5), some (vl x6), none, some (vl x8), none, some (vl (x6 - x6 / x8 * x8)), none] rfl ?_
      refine Z_lload hC (dk d_X5_part 12 rfl) 22 rfl rfl ?_
      refine Z_lstore hC (dk d_X5_part 13 rfl) 24 rfl (Nat.le_of_ble_eq_true rfl) [some (vr 5 0), some (vl x1), none, some (vl x3), none, some (vi x5), some (vl x8), none, some (vl x8), none, some (vl (x6 - x6 / x8 * x8)), none] rfl ?_
      refine Z_lload hC (dk d_X5_part 14 rfl) 26 rfl rfl ?_
      refine Z_lstore hC (dk d_X5_part 15 rfl) 28 rfl (Nat.le_of_ble_eq_true rfl) [some (vr 5 0), some (vl x1), none, some (vl x3), none, some (vi x5), some (vl x8), none, some (vl (x6 - x6 / x8 * x8)), none, some (vl (x6 - x6 / x8 * x8)), none] rfl ?_
      refine Z_goto hC (dk d_X5_part 16 rfl) 6 (by decide) ?_
      refine Z_wk [true, true, false, true, false, true, true, false, true, false, false, false] [some (vr 5 0), some (vl x1), none, some (vl x3), none, some (vi x5), some (vl x8), none, some (vl (x6 - x6 / x8 * x8)), none, none, none] rfl ?_
      exact ih x8 (x6 - x6 / x8 * x8) w _ h ke
noncomputable def f_X5_part (N : Nat) (a1 : Int64) (a2 : Int64) (a3 : Int32) (w : Wd) : Option (Int32 × Wd) :=
  (X5_part_L1 N a1 a2 a3 N a1 a2 w).bind (fun q2 =>
    gd (¬ q2.1 = 0) (
    gd (¬ q2.1 = 0) (
    some (a3, sL (sL q2.2 503 0 (a1 / q2.1)) 504 0 (a2 / q2.1)))))
set_option maxRecDepth 20000 in
set_option maxHeartbeats 4000000 in
theorem s_X5_part (G : GT) (l : Launch) (N : Nat) (a1 : Int64) (a2 : Int64) (a3 : Int32) (w : Wd) (q : Int32 × Wd) (h : f_X5_part N a1 a2 a3 w = some q) : Sp G l yX5_part cw_X5_part 0 [vr 5 0, vl a1, vl a2, vi a3] w (some (vi q.1)) q.2 := by
  refine Sp_of (own := RX5) [some (vr 5 0), some (vl a1), none, some (vl a2), none, some (vi a3), none, none, none, none, none, none] (by decide) rfl rfl (Nat.le_of_ble_eq_true rfl) ?_
  intro x hG hl hC hr hQ _ _
  subst hG
  subst hl
  unfold f_X5_part at h
  refine Z_lload_n hC (dk d_X5_part 0 rfl) 1 rfl rfl rfl ?_
  refine Z_lstore hC (dk d_X5_part 1 rfl) 3 rfl (Nat.le_of_ble_eq_true rfl) [some (vr 5 0), some (vl a1), none, some (vl a2), none, some (vi a3), some (vl a1), none, none, none, none, none] rfl ?_
  refine Z_lload_n hC (dk d_X5_part 2 rfl) 4 rfl rfl rfl ?_
  refine Z_lstore hC (dk d_X5_part 3 rfl) 6 rfl (Nat.le_of_ble_eq_true rfl) [some (vr 5 0), some (vl a1), none, some (vl a2), none, some (vi a3), some (vl a1), none, some (vl a2), none, none, none] rfl ?_
  obtain ⟨q2, hq2, h⟩ := bd_some h
  refine Z_wk [true, true, false, true, false, true, true, false, true, false, false, false] [some (vr 5 0), some (vl a1), none, some (vl a2), none, some (vi a3), some (vl a1), none, some (vl a2), none, none, none] rfl ?_
  refine z_X5_part_L1 hC hr N a1 a2 a3 N a1 a2 w q2 hq2 ?_
  refine Z_aload_n hC (dk d_X5_part 17 rfl) 32 rfl rfl rfl ?_
  refine Z_lload_n hC (dk d_X5_part 18 rfl) 33 rfl rfl rfl ?_
  refine Z_lload hC (dk d_X5_part 19 rfl) 35 rfl rfl ?_
  obtain ⟨g3, h⟩ := gd_some h
  refine Z_ldiv hC (dk d_X5_part 20 rfl) 36 rfl g3 ?_
  refine P_X5_69 hC m_5 (dk d_X5_part 21 rfl) 39 rfl ?_
  refine Z_aload_n hC (dk d_X5_part 22 rfl) 40 rfl rfl rfl ?_
  refine Z_lload_n hC (dk d_X5_part 23 rfl) 41 rfl rfl rfl ?_
  refine Z_lload hC (dk d_X5_part 24 rfl) 43 rfl rfl ?_
  obtain ⟨g4, h⟩ := gd_some h
  refine Z_ldiv hC (dk d_X5_part 25 rfl) 44 rfl g4 ?_
  refine P_X5_13 hC m_5 (dk d_X5_part 26 rfl) 47 rfl ?_
  refine Z_iload hC (dk d_X5_part 27 rfl) 49 rfl rfl ?_
  obtain rfl := Option.some.inj h
  exact Z_ireturn (st := []) hC hr hQ (dk d_X5_part 28 rfl)
def t_X5_has : List (Nat × Instr × Nat) := [(0, .iload_n 0, 1), (1, .iload_n 1, 1), (2, .ishr, 1), (3, .iconst 1, 1), (4, .iand, 1), (5, .iconst 1, 1), (6, .if_icmp .ne 7, 3), (9, .iconst 1, 1), (10, .goto 4, 3), (13, .iconst 0, 1), (14, .ireturn, 1)]
set_option maxRecDepth 20000 in
theorem d_X5_has : ∀ q ∈ t_X5_has, decode cX5_has q.1 = .ok q.2 := by decide +kernel
noncomputable def f_X5_has (N : Nat) (a1 : Int32) (a2 : Int32) (w : Wd) : Option (Int32 × Wd) :=
  if ((a1 >>> (a2 &&& (31 : Int32))) &&& (1 : Int32)) = (1 : Int32) then
    some ((1 : Int32), w)
  else
    some ((0 : Int32), w)
set_option maxRecDepth 20000 in
set_option maxHeartbeats 4000000 in
theorem s_X5_has (G : GT) (l : Launch) (N : Nat) (a1 : Int32) (a2 : Int32) (w : Wd) (q : Int32 × Wd) (h : f_X5_has N a1 a2 w = some q) : Sp G l yX5_has cw_X5_has 0 [vi a1, vi a2] w (some (vi q.1)) q.2 := by
  refine Sp_of (own := RX5) [some (vi a1), some (vi a2)] (by decide) rfl rfl (Nat.le_of_ble_eq_true rfl) ?_
  intro x hG hl hC hr hQ _ _
  subst hG
  subst hl
  unfold f_X5_has at h
  refine Z_iload_n hC (dk d_X5_has 0 rfl) 1 rfl rfl rfl ?_
  refine Z_iload_n hC (dk d_X5_has 1 rfl) 2 rfl rfl rfl ?_
  refine Z_ishr hC (dk d_X5_has 2 rfl) 3 rfl ?_
  refine Z_iconst (v := 1) hC (dk d_X5_has 3 rfl) 4 rfl (by decide) ?_
  refine Z_iand hC (dk d_X5_has 4 rfl) 5 rfl ?_
  refine Z_iconst (v := 1) hC (dk d_X5_has 5 rfl) 6 rfl (by decide) ?_
  refine Z_icmp_ne hC (dk d_X5_has 6 rfl) 9 13 rfl (by decide) (fun c => ?_) (fun c => ?_)
  · have h := it_f h c
    refine Z_iconst (v := 0) hC (dk d_X5_has 9 rfl) 14 rfl (by decide) ?_
    obtain rfl := Option.some.inj h
    exact Z_zreturn (st := []) hC hr rfl hQ (dk d_X5_has 10 rfl)
  · have h := it_t h c
    refine Z_iconst (v := 1) hC (dk d_X5_has 7 rfl) 10 rfl (by decide) ?_
    refine Z_goto hC (dk d_X5_has 8 rfl) 14 (by decide) ?_
    obtain rfl := Option.some.inj h
    exact Z_zreturn (st := []) hC hr rfl hQ (dk d_X5_has 10 rfl)
def t_X5_sizeOf : List (Nat × Instr × Nat) := [(0, .iconst 0, 1), (1, .istore_n 1, 1), (2, .iconst 0, 1), (3, .istore_n 2, 1), (4, .iload_n 2, 1), (5, .bipush 10, 2), (7, .if_icmp .ge 17, 3), (10, .iload_n 1, 1), (11, .iload_n 0, 1), (12, .iload_n 2, 1), (13, .ishr, 1), (14, .iconst 1, 1), (15, .iand, 1), (16, .iadd, 1), (17, .istore_n 1, 1), (18, .iinc 2 1, 3), (21, .goto (-17), 3), (24, .iload_n 1, 1), (25, .ireturn, 1)]
set_option maxRecDepth 20000 in
theorem d_X5_sizeOf : ∀ q ∈ t_X5_sizeOf, decode cX5_sizeOf q.1 = .ok q.2 := by decide +kernel
noncomputable def X5_sizeOf_L1 (N : Nat) (x0 : Int32) : Nat → Int32 → Int32 → Wd → Option (Int32 × Wd)
  | 0, _, _, _ => none
  | n + 1, x1, x2, w =>
  if (10 : Int32) ≤ x2 then
    some (x1, w)
  else
    X5_sizeOf_L1 N x0 n (x1 + ((x0 >>> (x2 &&& (31 : Int32))) &&& (1 : Int32))) (x2 + (1 : Int32)) w
set_option maxRecDepth 20000 in
set_option maxHeartbeats 4000000 in
theorem z_X5_sizeOf_L1 {x : CX} (hC : Cx x RX5 cX5_sizeOf 3 0) (hr : (xM x).sig.returnType = (some .int)) (N : Nat) (x0 : Int32) : ∀ (n : Nat) (x1 : Int32) (x2 : Int32) (w : Wd) (q : (Int32 × Wd)), X5_sizeOf_L1 N x0 n x1 x2 w = some q → Z x 24 [none, some (vi q.1), none] [] q.2 → Z x 4 [some (vi x0), some (vi x1), some (vi x2)] [] w := by
  intro n
  induction n with
  | zero =>
    intro x1 x2 w q h
    cases h
  | succ n ih =>
    intro x1 x2 w q h ke
    rw [X5_sizeOf_L1] at h
    refine Z_iload_n hC (dk d_X5_sizeOf 4 rfl) 5 rfl rfl rfl ?_
    refine Z_bipush (v := 10) hC (dk d_X5_sizeOf 5 rfl) 7 rfl (by decide) ?_
    refine Z_icmp_ge hC (dk d_X5_sizeOf 6 rfl) 10 24 rfl (by decide) (fun c => ?_) (fun c => ?_)
    · have h := it_t h c
      obtain rfl := Option.some.inj h
      refine Z_wk [false, true, false] [none, some (vi x1), none] rfl ?_
      exact ke
    · have h := it_f h c
      refine Z_iload_n hC (dk d_X5_sizeOf 7 rfl) 11 rfl rfl rfl ?_
      refine Z_iload_n hC (dk d_X5_sizeOf 8 rfl) 12 rfl rfl rfl ?_
      refine Z_iload_n hC (dk d_X5_sizeOf 9 rfl) 13 rfl rfl rfl ?_
      refine Z_ishr hC (dk d_X5_sizeOf 10 rfl) 14 rfl ?_
      refine Z_iconst (v := 1) hC (dk d_X5_sizeOf 11 rfl) 15 rfl (by decide) ?_
      refine Z_iand hC (dk d_X5_sizeOf 12 rfl) 16 rfl ?_
      refine Z_iadd hC (dk d_X5_sizeOf 13 rfl) 17 rfl ?_
      refine Z_istore_n hC (dk d_X5_sizeOf 14 rfl) 18 rfl rfl (Nat.le_of_ble_eq_true rfl) [some (vi x0), some (vi (x1 + ((x0 >>> (x2 &&& (31 : Int32))) &&& (1 : Int32)))), some (vi x2)] rfl ?_
      refine Z_iinc hC (dk d_X5_sizeOf 15 rfl) 21 rfl rfl rfl [some (vi x0), some (vi (x1 + ((x0 >>> (x2 &&& (31 : Int32))) &&& (1 : Int32)))), some (vi (x2 + (1 : Int32)))] rfl ?_
      refine Z_goto hC (dk d_X5_sizeOf 16 rfl) 4 (by decide) ?_
      refine Z_wk [true, true, true] [some (vi x0), some (vi (x1 + ((x0 >>> (x2 &&& (31 : Int32))) &&& (1 : Int32)))), some (vi (x2 + (1 : Int32)))] rfl ?_
      exact ih (x1 + ((x0 >>> (x2 &&& (31 : Int32))) &&& (1 : Int32))) (x2 + (1 : Int32)) w _ h ke
noncomputable def f_X5_sizeOf (N : Nat) (a1 : Int32) (w : Wd) : Option (Int32 × Wd) :=
  (X5_sizeOf_L1 N a1 N (0 : Int32) (0 : Int32) w).bind (fun q1 =>
    some (q1.1, q1.2))
set_option maxRecDepth 20000 in
set_option maxHeartbeats 4000000 in
theorem s_X5_sizeOf (G : GT) (l : Launch) (N : Nat) (a1 : Int32) (w : Wd) (q : Int32 × Wd) (h : f_X5_sizeOf N a1 w = some q) : Sp G l yX5_sizeOf cw_X5_sizeOf 0 [vi a1] w (some (vi q.1)) q.2 := by
  refine Sp_of (own := RX5) [some (vi a1), none, none] (by decide) rfl rfl (Nat.le_of_ble_eq_true rfl) ?_
  intro x hG hl hC hr hQ _ _
  subst hG
  subst hl
  unfold f_X5_sizeOf at h
  refine Z_iconst (v := 0) hC (dk d_X5_sizeOf 0 rfl) 1 rfl (by decide) ?_
  refine Z_istore_n hC (dk d_X5_sizeOf 1 rfl) 2 rfl rfl (Nat.le_of_ble_eq_true rfl) [some (vi a1), some (vi (0 : Int32)), none] rfl ?_
  refine Z_iconst (v := 0) hC (dk d_X5_sizeOf 2 rfl) 3 rfl (by decide) ?_
  refine Z_istore_n hC (dk d_X5_sizeOf 3 rfl) 4 rfl rfl (Nat.le_of_ble_eq_true rfl) [some (vi a1), some (vi (0 : Int32)), some (vi (0 : Int32))] rfl ?_
  obtain ⟨q1, hq1, h⟩ := bd_some h
  refine Z_wk [true, true, true] [some (vi a1), some (vi (0 : Int32)), some (vi (0 : Int32))] rfl ?_
  refine z_X5_sizeOf_L1 hC hr N a1 N (0 : Int32) (0 : Int32) w q1 hq1 ?_
  refine Z_iload_n hC (dk d_X5_sizeOf 17 rfl) 25 rfl rfl rfl ?_
  obtain rfl := Option.some.inj h
  exact Z_ireturn (st := []) hC hr hQ (dk d_X5_sizeOf 18 rfl)
def t_X5_isRow : List (Nat × Instr × Nat) := [(0, .iload_n 0, 1), (1, .iconst 0, 1), (2, .iconst 5, 1), (3, .invokestatic 72, 3), (6, .ireturn, 1)]
set_option maxRecDepth 20000 in
theorem d_X5_isRow : ∀ q ∈ t_X5_isRow, decode cX5_isRow q.1 = .ok q.2 := by decide +kernel
noncomputable def f_X5_isRow (N : Nat) (a1 : Int32) (w : Wd) : Option (Int32 × Wd) :=
  (f_X5_in N a1 (0 : Int32) (5 : Int32) w).bind (fun q1 =>
    gd (q1.1 = 0 ∨ q1.1 = 1) (some (q1.1, q1.2)))
set_option maxRecDepth 20000 in
set_option maxHeartbeats 4000000 in
theorem s_X5_isRow (G : GT) (l : Launch) (N : Nat) (a1 : Int32) (w : Wd) (q : Int32 × Wd) (h : f_X5_isRow N a1 w = some q) : Sp G l yX5_isRow cw_X5_isRow 1 [vi a1] w (some (vi q.1)) q.2 := by
  refine Sp_of (own := RX5) [some (vi a1)] (by decide) rfl rfl (Nat.le_of_ble_eq_true rfl) ?_
  intro x hG hl hC hr hQ _ _
  subst hG
  subst hl
  unfold f_X5_isRow at h
  refine Z_iload_n hC (dk d_X5_isRow 0 rfl) 1 rfl rfl rfl ?_
  refine Z_iconst (v := 0) hC (dk d_X5_isRow 1 rfl) 2 rfl (by decide) ?_
  refine Z_iconst (v := 5) hC (dk d_X5_isRow 2 rfl) 3 rfl (by decide) ?_
  obtain ⟨q1, hq1, h⟩ := bd_some h
  refine K_X5_72 [vi a1, vi (0 : Int32), vi (5 : Int32)] hC (s_X5_in (xG x) (xl x) N a1 (0 : Int32) (5 : Int32) w q1 hq1) (Nat.le_of_ble_eq_true rfl) rfl rfl rfl (Nat.le_of_ble_eq_true rfl) (dk d_X5_isRow 3 rfl) 6 rfl ?_
  obtain ⟨g2, h⟩ := gd_some h
  obtain rfl := Option.some.inj h
  exact Z_zreturn (st := []) hC hr (nz g2) hQ (dk d_X5_isRow 4 rfl)
def t_X5_isText : List (Nat × Instr × Nat) := [(0, .iload_n 0, 1), (1, .iconst 0, 1), (2, .iconst 3, 1), (3, .invokestatic 72, 3), (6, .ireturn, 1)]
set_option maxRecDepth 20000 in
theorem d_X5_isText : ∀ q ∈ t_X5_isText, decode cX5_isText q.1 = .ok q.2 := by decide +kernel
noncomputable def f_X5_isText (N : Nat) (a1 : Int32) (w : Wd) : Option (Int32 × Wd) :=
  (f_X5_in N a1 (0 : Int32) (3 : Int32) w).bind (fun q1 =>
    gd (q1.1 = 0 ∨ q1.1 = 1) (some (q1.1, q1.2)))
set_option maxRecDepth 20000 in
set_option maxHeartbeats 4000000 in
theorem s_X5_isText (G : GT) (l : Launch) (N : Nat) (a1 : Int32) (w : Wd) (q : Int32 × Wd) (h : f_X5_isText N a1 w = some q) : Sp G l yX5_isText cw_X5_isText 1 [vi a1] w (some (vi q.1)) q.2 := by
  refine Sp_of (own := RX5) [some (vi a1)] (by decide) rfl rfl (Nat.le_of_ble_eq_true rfl) ?_
  intro x hG hl hC hr hQ _ _
  subst hG
  subst hl
  unfold f_X5_isText at h
  refine Z_iload_n hC (dk d_X5_isText 0 rfl) 1 rfl rfl rfl ?_
  refine Z_iconst (v := 0) hC (dk d_X5_isText 1 rfl) 2 rfl (by decide) ?_
  refine Z_iconst (v := 3) hC (dk d_X5_isText 2 rfl) 3 rfl (by decide) ?_
  obtain ⟨q1, hq1, h⟩ := bd_some h
  refine K_X5_72 [vi a1, vi (0 : Int32), vi (3 : Int32)] hC (s_X5_in (xG x) (xl x) N a1 (0 : Int32) (3 : Int32) w q1 hq1) (Nat.le_of_ble_eq_true rfl) rfl rfl rfl (Nat.le_of_ble_eq_true rfl) (dk d_X5_isText 3 rfl) 6 rfl ?_
  obtain ⟨g2, h⟩ := gd_some h
  obtain rfl := Option.some.inj h
  exact Z_zreturn (st := []) hC hr (nz g2) hQ (dk d_X5_isText 4 rfl)
def t_X5_askedRow : List (Nat × Instr × Nat) := [(0, .iload_n 1, 1), (1, .invokestatic 76, 3), (4, .ifCond .ne 7, 3), (7, .iconst (-1), 1), (8, .goto 21, 3), (11, .aload_n 0, 1), (12, .getfield 17, 3), (15, .iload_n 1, 1), (16, .iaload, 1), (17, .ifCond .ge 11, 3), (20, .aload_n 0, 1), (21, .iconst 1, 1), (22, .invokevirtual 80, 3), (25, .goto 4, 3), (28, .iconst 0, 1), (29, .ireturn, 1)]
set_option maxRecDepth 20000 in
theorem d_X5_askedRow : ∀ q ∈ t_X5_askedRow, decode cX5_askedRow q.1 = .ok q.2 := by decide +kernel
noncomputable def f_X5_askedRow (N : Nat) (a1 : Int32) (w : Wd) : Option (Int32 × Wd) :=
  (f_X5_isRow N a1 w).bind (fun q1 =>
    if q1.1 = 0 then
      some ((-1 : Int32), q1.2)
    else
      gd (vp_in a1 6) (
      if 0 ≤ (gA q1.2 31 0 a1.toNatClampNeg) then
        some ((0 : Int32), q1.2)
      else
        (f_X5_meet N (1 : Int32) q1.2).bind (fun q3 =>
          some (q3.1, q3.2))))
set_option maxRecDepth 20000 in
set_option maxHeartbeats 4000000 in
theorem s_X5_askedRow (G : GT) (l : Launch) (N : Nat) (a1 : Int32) (w : Wd) (q : Int32 × Wd) (h : f_X5_askedRow N a1 w = some q) : Sp G l yX5_askedRow cw_X5_askedRow 2 [vr 5 0, vi a1] w (some (vi q.1)) q.2 := by
  refine Sp_of (own := RX5) [some (vr 5 0), some (vi a1)] (by decide) rfl rfl (Nat.le_of_ble_eq_true rfl) ?_
  intro x hG hl hC hr hQ _ _
  subst hG
  subst hl
  unfold f_X5_askedRow at h
  refine Z_iload_n hC (dk d_X5_askedRow 0 rfl) 1 rfl rfl rfl ?_
  obtain ⟨q1, hq1, h⟩ := bd_some h
  refine K_X5_76 [vi a1] hC (s_X5_isRow (xG x) (xl x) N a1 w q1 hq1) (Nat.le_of_ble_eq_true rfl) rfl rfl rfl (Nat.le_of_ble_eq_true rfl) (dk d_X5_askedRow 1 rfl) 4 rfl ?_
  refine Z_if_ne hC (dk d_X5_askedRow 2 rfl) 7 11 rfl (by decide) (fun c => ?_) (fun c => ?_)
  · have h := it_f h c
    refine Z_aload_n hC (dk d_X5_askedRow 5 rfl) 12 rfl rfl rfl ?_
    refine G_X5_17 hC m_5 (dk d_X5_askedRow 6 rfl) 15 rfl ?_
    refine Z_iload_n hC (dk d_X5_askedRow 7 rfl) 16 rfl rfl rfl ?_
    obtain ⟨g2, h⟩ := gd_some h
    refine Z_iaload hC m_31 (by decide) rfl g2 (dk d_X5_askedRow 8 rfl) 17 rfl ?_
    refine Z_if_ge hC (dk d_X5_askedRow 9 rfl) 20 28 rfl (by decide) (fun c => ?_) (fun c => ?_)
    · have h := it_t h c
      refine Z_iconst (v := 0) hC (dk d_X5_askedRow 14 rfl) 29 rfl (by decide) ?_
      obtain rfl := Option.some.inj h
      exact Z_ireturn (st := []) hC hr hQ (dk d_X5_askedRow 15 rfl)
    · have h := it_f h c
      refine Z_aload_n hC (dk d_X5_askedRow 10 rfl) 21 rfl rfl rfl ?_
      refine Z_iconst (v := 1) hC (dk d_X5_askedRow 11 rfl) 22 rfl (by decide) ?_
      obtain ⟨q3, hq3, h⟩ := bd_some h
      refine K_X5_80 [vi (1 : Int32)] hC m_5 (s_X5_meet (xG x) (xl x) N (1 : Int32) q1.2 q3 hq3) (Nat.le_of_ble_eq_true rfl) rfl rfl rfl (Nat.le_of_ble_eq_true rfl) (dk d_X5_askedRow 12 rfl) 25 rfl ?_
      refine Z_goto hC (dk d_X5_askedRow 13 rfl) 29 (by decide) ?_
      obtain rfl := Option.some.inj h
      exact Z_ireturn (st := []) hC hr hQ (dk d_X5_askedRow 15 rfl)
  · have h := it_t h c
    refine Z_iconst (v := -1) hC (dk d_X5_askedRow 3 rfl) 8 rfl (by decide) ?_
    refine Z_goto hC (dk d_X5_askedRow 4 rfl) 29 (by decide) ?_
    obtain rfl := Option.some.inj h
    exact Z_ireturn (st := []) hC hr hQ (dk d_X5_askedRow 15 rfl)
def t_X5_askedText : List (Nat × Instr × Nat) := [(0, .iload_n 1, 1), (1, .invokestatic 84, 3), (4, .ifCond .ne 7, 3), (7, .iconst (-1), 1), (8, .goto 21, 3), (11, .aload_n 0, 1), (12, .getfield 26, 3), (15, .iload_n 1, 1), (16, .iaload, 1), (17, .ifCond .ge 11, 3), (20, .aload_n 0, 1), (21, .iconst 1, 1), (22, .invokevirtual 80, 3), (25, .goto 4, 3), (28, .iconst 0, 1), (29, .ireturn, 1)]
set_option maxRecDepth 20000 in
theorem d_X5_askedText : ∀ q ∈ t_X5_askedText, decode cX5_askedText q.1 = .ok q.2 := by decide +kernel
noncomputable def f_X5_askedText (N : Nat) (a1 : Int32) (w : Wd) : Option (Int32 × Wd) :=
  (f_X5_isText N a1 w).bind (fun q1 =>
    if q1.1 = 0 then
      some ((-1 : Int32), q1.2)
    else
      gd (vp_in a1 4) (
      if 0 ≤ (gA q1.2 34 0 a1.toNatClampNeg) then
        some ((0 : Int32), q1.2)
      else
        (f_X5_meet N (1 : Int32) q1.2).bind (fun q3 =>
          some (q3.1, q3.2))))
set_option maxRecDepth 20000 in
set_option maxHeartbeats 4000000 in
theorem s_X5_askedText (G : GT) (l : Launch) (N : Nat) (a1 : Int32) (w : Wd) (q : Int32 × Wd) (h : f_X5_askedText N a1 w = some q) : Sp G l yX5_askedText cw_X5_askedText 2 [vr 5 0, vi a1] w (some (vi q.1)) q.2 := by
  refine Sp_of (own := RX5) [some (vr 5 0), some (vi a1)] (by decide) rfl rfl (Nat.le_of_ble_eq_true rfl) ?_
  intro x hG hl hC hr hQ _ _
  subst hG
  subst hl
  unfold f_X5_askedText at h
  refine Z_iload_n hC (dk d_X5_askedText 0 rfl) 1 rfl rfl rfl ?_
  obtain ⟨q1, hq1, h⟩ := bd_some h
  refine K_X5_84 [vi a1] hC (s_X5_isText (xG x) (xl x) N a1 w q1 hq1) (Nat.le_of_ble_eq_true rfl) rfl rfl rfl (Nat.le_of_ble_eq_true rfl) (dk d_X5_askedText 1 rfl) 4 rfl ?_
  refine Z_if_ne hC (dk d_X5_askedText 2 rfl) 7 11 rfl (by decide) (fun c => ?_) (fun c => ?_)
  · have h := it_f h c
    refine Z_aload_n hC (dk d_X5_askedText 5 rfl) 12 rfl rfl rfl ?_
    refine G_X5_26 hC m_5 (dk d_X5_askedText 6 rfl) 15 rfl ?_
    refine Z_iload_n hC (dk d_X5_askedText 7 rfl) 16 rfl rfl rfl ?_
    obtain ⟨g2, h⟩ := gd_some h
    refine Z_iaload hC m_34 (by decide) rfl g2 (dk d_X5_askedText 8 rfl) 17 rfl ?_
    refine Z_if_ge hC (dk d_X5_askedText 9 rfl) 20 28 rfl (by decide) (fun c => ?_) (fun c => ?_)
    · have h := it_t h c
      refine Z_iconst (v := 0) hC (dk d_X5_askedText 14 rfl) 29 rfl (by decide) ?_
      obtain rfl := Option.some.inj h
      exact Z_ireturn (st := []) hC hr hQ (dk d_X5_askedText 15 rfl)
    · have h := it_f h c
      refine Z_aload_n hC (dk d_X5_askedText 10 rfl) 21 rfl rfl rfl ?_
      refine Z_iconst (v := 1) hC (dk d_X5_askedText 11 rfl) 22 rfl (by decide) ?_
      obtain ⟨q3, hq3, h⟩ := bd_some h
      refine K_X5_80 [vi (1 : Int32)] hC m_5 (s_X5_meet (xG x) (xl x) N (1 : Int32) q1.2 q3 hq3) (Nat.le_of_ble_eq_true rfl) rfl rfl rfl (Nat.le_of_ble_eq_true rfl) (dk d_X5_askedText 12 rfl) 25 rfl ?_
      refine Z_goto hC (dk d_X5_askedText 13 rfl) 29 (by decide) ?_
      obtain rfl := Option.some.inj h
      exact Z_ireturn (st := []) hC hr hQ (dk d_X5_askedText 15 rfl)
  · have h := it_t h c
    refine Z_iconst (v := -1) hC (dk d_X5_askedText 3 rfl) 8 rfl (by decide) ?_
    refine Z_goto hC (dk d_X5_askedText 4 rfl) 29 (by decide) ?_
    obtain rfl := Option.some.inj h
    exact Z_ireturn (st := []) hC hr hQ (dk d_X5_askedText 15 rfl)
def t_X5_rowAt : List (Nat × Instr × Nat) := [(0, .aload_n 0, 1), (1, .getfield 20, 3), (4, .bipush 40, 2), (6, .iload_n 1, 1), (7, .imul, 1), (8, .iload_n 2, 1), (9, .iadd, 1), (10, .iaload, 1), (11, .ireturn, 1)]
set_option maxRecDepth 20000 in
theorem d_X5_rowAt : ∀ q ∈ t_X5_rowAt, decode cX5_rowAt q.1 = .ok q.2 := by decide +kernel
noncomputable def f_X5_rowAt (N : Nat) (a1 : Int32) (a2 : Int32) (w : Wd) : Option (Int32 × Wd) :=
  gd (vp_in (((40 : Int32) * a1) + a2) 240) (
  some (gA w 32 0 (((40 : Int32) * a1) + a2).toNatClampNeg, w))
set_option maxRecDepth 20000 in
set_option maxHeartbeats 4000000 in
theorem s_X5_rowAt (G : GT) (l : Launch) (N : Nat) (a1 : Int32) (a2 : Int32) (w : Wd) (q : Int32 × Wd) (h : f_X5_rowAt N a1 a2 w = some q) : Sp G l yX5_rowAt cw_X5_rowAt 0 [vr 5 0, vi a1, vi a2] w (some (vi q.1)) q.2 := by
  refine Sp_of (own := RX5) [some (vr 5 0), some (vi a1), some (vi a2)] (by decide) rfl rfl (Nat.le_of_ble_eq_true rfl) ?_
  intro x hG hl hC hr hQ _ _
  subst hG
  subst hl
  unfold f_X5_rowAt at h
  refine Z_aload_n hC (dk d_X5_rowAt 0 rfl) 1 rfl rfl rfl ?_
  refine G_X5_20 hC m_5 (dk d_X5_rowAt 1 rfl) 4 rfl ?_
  refine Z_bipush (v := 40) hC (dk d_X5_rowAt 2 rfl) 6 rfl (by decide) ?_
  refine Z_iload_n hC (dk d_X5_rowAt 3 rfl) 7 rfl rfl rfl ?_
  refine Z_imul hC (dk d_X5_rowAt 4 rfl) 8 rfl ?_
  refine Z_iload_n hC (dk d_X5_rowAt 5 rfl) 9 rfl rfl rfl ?_
  refine Z_iadd hC (dk d_X5_rowAt 6 rfl) 10 rfl ?_
  obtain ⟨g1, h⟩ := gd_some h
  refine Z_iaload hC m_32 (by decide) rfl g1 (dk d_X5_rowAt 7 rfl) 11 rfl ?_
  obtain rfl := Option.some.inj h
  exact Z_ireturn (st := []) hC hr hQ (dk d_X5_rowAt 8 rfl)
def t_X5_setRow : List (Nat × Instr × Nat) := [(0, .aload_n 0, 1), (1, .getfield 20, 3), (4, .bipush 40, 2), (6, .iload_n 1, 1), (7, .imul, 1), (8, .iload_n 2, 1), (9, .iadd, 1), (10, .iload_n 3, 1), (11, .iastore, 1), (12, .return_, 1)]
set_option maxRecDepth 20000 in
theorem d_X5_setRow : ∀ q ∈ t_X5_setRow, decode cX5_setRow q.1 = .ok q.2 := by decide +kernel
noncomputable def f_X5_setRow (N : Nat) (a1 : Int32) (a2 : Int32) (a3 : Int32) (w : Wd) : Option (Wd) :=
  gd (vp_in (((40 : Int32) * a1) + a2) 240) (
  some (sA w 32 0 (upd (gA w 32 0) (((40 : Int32) * a1) + a2).toNatClampNeg a3)))
set_option maxRecDepth 20000 in
set_option maxHeartbeats 4000000 in
theorem s_X5_setRow (G : GT) (l : Launch) (N : Nat) (a1 : Int32) (a2 : Int32) (a3 : Int32) (w : Wd) (q : Wd) (h : f_X5_setRow N a1 a2 a3 w = some q) : Sp G l yX5_setRow cw_X5_setRow 0 [vr 5 0, vi a1, vi a2, vi a3] w none q := by
  refine Sp_of (own := RX5) [some (vr 5 0), some (vi a1), some (vi a2), some (vi a3)] (by decide) rfl rfl (Nat.le_of_ble_eq_true rfl) ?_
  intro x hG hl hC hr hQ _ _
  subst hG
  subst hl
  unfold f_X5_setRow at h
  refine Z_aload_n hC (dk d_X5_setRow 0 rfl) 1 rfl rfl rfl ?_
  refine G_X5_20 hC m_5 (dk d_X5_setRow 1 rfl) 4 rfl ?_
  refine Z_bipush (v := 40) hC (dk d_X5_setRow 2 rfl) 6 rfl (by decide) ?_
  refine Z_iload_n hC (dk d_X5_setRow 3 rfl) 7 rfl rfl rfl ?_
  refine Z_imul hC (dk d_X5_setRow 4 rfl) 8 rfl ?_
  refine Z_iload_n hC (dk d_X5_setRow 5 rfl) 9 rfl rfl rfl ?_
  refine Z_iadd hC (dk d_X5_setRow 6 rfl) 10 rfl ?_
  refine Z_iload_n hC (dk d_X5_setRow 7 rfl) 11 rfl rfl rfl ?_
  obtain ⟨g1, h⟩ := gd_some h
  refine Z_iastore hC m_32 (by decide) rfl g1 (dk d_X5_setRow 8 rfl) 12 rfl ?_
  obtain rfl := Option.some.inj h
  exact Z_return (st := []) hC hr hQ (dk d_X5_setRow 9 rfl)
def t_X5_row : List (Nat × Instr × Nat) := [(0, .iload_n 1, 1), (1, .invokestatic 76, 3), (4, .ifCond .eq 9, 3), (7, .iload_n 2, 1), (8, .bipush 40, 2), (10, .if_icmp .le 5, 3), (13, .iconst (-1), 1), (14, .ireturn, 1), (15, .iload_n 2, 1), (16, .ifCond .ge 9, 3), (19, .aload_n 0, 1), (20, .iconst 5, 1), (21, .invokevirtual 80, 3), (24, .ireturn, 1), (25, .aload_n 0, 1), (26, .getfield 17, 3), (29, .iload_n 1, 1), (30, .iload_n 2, 1), (31, .iastore, 1), (32, .iconst 0, 1), (33, .istore_n 3, 1), (34, .iload_n 3, 1), (35, .bipush 40, 2), (37, .if_icmp .ge 16, 3), (40, .aload_n 0, 1), (41, .iload_n 1, 1), (42, .iload_n 3, 1), (43, .iconst 0, 1), (44, .invokevirtual 87, 3), (47, .iinc 3 1, 3), (50, .goto (-16), 3), (53, .iload_n 2, 1), (54, .ireturn, 1)]
set_option maxRecDepth 20000 in
theorem d_X5_row : ∀ q ∈ t_X5_row, decode cX5_row q.1 = .ok q.2 := by decide +kernel
noncomputable def X5_row_L1 (N : Nat) (x1 : Int32) (x2 : Int32) : Nat → Int32 → Wd → Option (Wd)
  | 0, _, _ => none
  | n + 1, x3, w =>
  if (40 : Int32) ≤ x3 then
    some w
  else
    (f_X5_setRow N x1 x3 (0 : Int32) w).bind (fun q3 =>
      X5_row_L1 N x1 x2 n (x3 + (1 : Int32)) q3)
set_option maxRecDepth 20000 in
set_option maxHeartbeats 4000000 in
theorem z_X5_row_L1 {x : CX} (hC : Cx x RX5 cX5_row 4 2) (hr : (xM x).sig.returnType = (some .int)) (N : Nat) (x1 : Int32) (x2 : Int32) : ∀ (n : Nat) (x3 : Int32) (w : Wd) (q : (Wd)), X5_row_L1 N x1 x2 n x3 w = some q → Z x 53 [none, none, some (vi x2), none] [] q → Z x 34 [some (vr 5 0), some (vi x1), some (vi x2), some (vi x3)] [] w := by
  intro n
  induction n with
  | zero =>
    intro x3 w q h
    cases h
  | succ n ih =>
    intro x3 w q h ke
    rw [X5_row_L1] at h
    refine Z_iload_n hC (dk d_X5_row 21 rfl) 35 rfl rfl rfl ?_
    refine Z_bipush (v := 40) hC (dk d_X5_row 22 rfl) 37 rfl (by decide) ?_
    refine Z_icmp_ge hC (dk d_X5_row 23 rfl) 40 53 rfl (by decide) (fun c => ?_) (fun c => ?_)
    · have h := it_t h c
      obtain rfl := Option.some.inj h
      refine Z_wk [false, false, true, false] [none, none, some (vi x2), none] rfl ?_
      exact ke
    · have h := it_f h c
      refine Z_aload_n hC (dk d_X5_row 24 rfl) 41 rfl rfl rfl ?_
      refine Z_iload_n hC (dk d_X5_row 25 rfl) 42 rfl rfl rfl ?_
      refine Z_iload_n hC (dk d_X5_row 26 rfl) 43 rfl rfl rfl ?_
      refine Z_iconst (v := 0) hC (dk d_X5_row 27 rfl) 44 rfl (by decide) ?_
      obtain ⟨q3, hq3, h⟩ := bd_some h
      refine K_X5_87 [vi x1, vi x3, vi (0 : Int32)] hC m_5 (s_X5_setRow (xG x) (xl x) N x1 x3 (0 : Int32) w q3 hq3) (Nat.le_of_ble_eq_true rfl) rfl rfl rfl (Nat.le_of_ble_eq_true rfl) (dk d_X5_row 28 rfl) 47 rfl ?_
      refine Z_iinc hC (dk d_X5_row 29 rfl) 50 rfl rfl rfl [some (vr 5 0), some (vi x1), some (vi x2), some (vi (x3 + (1 : Int32)))] rfl ?_
      refine Z_goto hC (dk d_X5_row 30 rfl) 34 (by decide) ?_
      refine Z_wk [true, true, true, true] [some (vr 5 0), some (vi x1), some (vi x2), some (vi (x3 + (1 : Int32)))] rfl ?_
      exact ih (x3 + (1 : Int32)) q3 _ h ke
noncomputable def f_X5_row (N : Nat) (a1 : Int32) (a2 : Int32) (w : Wd) : Option (Int32 × Wd) :=
  (f_X5_isRow N a1 w).bind (fun q1 =>
    if q1.1 = 0 then
      some ((-1 : Int32), q1.2)
    else
      if a2 ≤ (40 : Int32) then
        if 0 ≤ a2 then
          gd (vp_in a1 6) (
          (X5_row_L1 N a1 a2 N (0 : Int32) (sA q1.2 31 0 (upd (gA q1.2 31 0) a1.toNatClampNeg a2))).bind (fun q4 =>
            some (a2, q4)))
        else
          (f_X5_meet N (5 : Int32) q1.2).bind (fun q5 =>
            some (q5.1, q5.2))
      else
        some ((-1 : Int32), q1.2))
set_option maxRecDepth 20000 in
set_option maxHeartbeats 4000000 in
theorem s_X5_row (G : GT) (l : Launch) (N : Nat) (a1 : Int32) (a2 : Int32) (w : Wd) (q : Int32 × Wd) (h : f_X5_row N a1 a2 w = some q) : Sp G l yX5_row cw_X5_row 2 [vr 5 0, vi a1, vi a2] w (some (vi q.1)) q.2 := by
  refine Sp_of (own := RX5) [some (vr 5 0), some (vi a1), some (vi a2), none] (by decide) rfl rfl (Nat.le_of_ble_eq_true rfl) ?_
  intro x hG hl hC hr hQ _ _
  subst hG
  subst hl
  unfold f_X5_row at h
  refine Z_iload_n hC (dk d_X5_row 0 rfl) 1 rfl rfl rfl ?_
  obtain ⟨q1, hq1, h⟩ := bd_some h
  refine K_X5_76 [vi a1] hC (s_X5_isRow (xG x) (xl x) N a1 w q1 hq1) (Nat.le_of_ble_eq_true rfl) rfl rfl rfl (Nat.le_of_ble_eq_true rfl) (dk d_X5_row 1 rfl) 4 rfl ?_
  refine Z_if_eq hC (dk d_X5_row 2 rfl) 7 13 rfl (by decide) (fun c => ?_) (fun c => ?_)
  · have h := it_t h c
    refine Z_iconst (v := -1) hC (dk d_X5_row 6 rfl) 14 rfl (by decide) ?_
    obtain rfl := Option.some.inj h
    exact Z_ireturn (st := []) hC hr hQ (dk d_X5_row 7 rfl)
  · have h := it_f h c
    refine Z_iload_n hC (dk d_X5_row 3 rfl) 8 rfl rfl rfl ?_
    refine Z_bipush (v := 40) hC (dk d_X5_row 4 rfl) 10 rfl (by decide) ?_
    refine Z_icmp_le hC (dk d_X5_row 5 rfl) 13 15 rfl (by decide) (fun c => ?_) (fun c => ?_)
    · have h := it_t h c
      refine Z_iload_n hC (dk d_X5_row 8 rfl) 16 rfl rfl rfl ?_
      refine Z_if_ge hC (dk d_X5_row 9 rfl) 19 25 rfl (by decide) (fun c => ?_) (fun c => ?_)
      · have h := it_t h c
        refine Z_aload_n hC (dk d_X5_row 14 rfl) 26 rfl rfl rfl ?_
        refine G_X5_17 hC m_5 (dk d_X5_row 15 rfl) 29 rfl ?_
        refine Z_iload_n hC (dk d_X5_row 16 rfl) 30 rfl rfl rfl ?_
        refine Z_iload_n hC (dk d_X5_row 17 rfl) 31 rfl rfl rfl ?_
        obtain ⟨g2, h⟩ := gd_some h
        refine Z_iastore hC m_31 (by decide) rfl g2 (dk d_X5_row 18 rfl) 32 rfl ?_
        refine Z_iconst (v := 0) hC (dk d_X5_row 19 rfl) 33 rfl (by decide) ?_
        refine Z_istore_n hC (dk d_X5_row 20 rfl) 34 rfl rfl (Nat.le_of_ble_eq_true rfl) [some (vr 5 0), some (vi a1), some (vi a2), some (vi (0 : Int32))] rfl ?_
        obtain ⟨q4, hq4, h⟩ := bd_some h
        refine Z_wk [true, true, true, true] [some (vr 5 0), some (vi a1), some (vi a2), some (vi (0 : Int32))] rfl ?_
        refine z_X5_row_L1 hC hr N a1 a2 N (0 : Int32) (sA q1.2 31 0 (upd (gA q1.2 31 0) a1.toNatClampNeg a2)) q4 hq4 ?_
        refine Z_iload_n hC (dk d_X5_row 31 rfl) 54 rfl rfl rfl ?_
        obtain rfl := Option.some.inj h
        exact Z_ireturn (st := []) hC hr hQ (dk d_X5_row 32 rfl)
      · have h := it_f h c
        refine Z_aload_n hC (dk d_X5_row 10 rfl) 20 rfl rfl rfl ?_
        refine Z_iconst (v := 5) hC (dk d_X5_row 11 rfl) 21 rfl (by decide) ?_
        obtain ⟨q5, hq5, h⟩ := bd_some h
        refine K_X5_80 [vi (5 : Int32)] hC m_5 (s_X5_meet (xG x) (xl x) N (5 : Int32) q1.2 q5 hq5) (Nat.le_of_ble_eq_true rfl) rfl rfl rfl (Nat.le_of_ble_eq_true rfl) (dk d_X5_row 12 rfl) 24 rfl ?_
        obtain rfl := Option.some.inj h
        exact Z_ireturn (st := []) hC hr hQ (dk d_X5_row 13 rfl)
    · have h := it_f h c
      refine Z_iconst (v := -1) hC (dk d_X5_row 6 rfl) 14 rfl (by decide) ?_
      obtain rfl := Option.some.inj h
      exact Z_ireturn (st := []) hC hr hQ (dk d_X5_row 7 rfl)
def t_X5_at : List (Nat × Instr × Nat) := [(0, .aload_n 0, 1), (1, .iload_n 1, 1), (2, .invokevirtual 91, 3), (5, .istore_n 3, 1), (6, .iload_n 3, 1), (7, .ifCond .ge 5, 3), (10, .iload_n 3, 1), (11, .ireturn, 1), (12, .iload_n 2, 1), (13, .iconst 0, 1), (14, .aload_n 0, 1), (15, .getfield 17, 3), (18, .iload_n 1, 1), (19, .iaload, 1), (20, .iconst 1, 1), (21, .isub, 1), (22, .invokestatic 72, 3), (25, .ifCond .eq 17, 3), (28, .aload_n 0, 1), (29, .aload_n 0, 1), (30, .iload_n 1, 1), (31, .iload_n 2, 1), (32, .invokevirtual 94, 3), (35, .iconst 1, 1), (36, .invokevirtual 98, 3), (39, .goto 8, 3), (42, .aload_n 0, 1), (43, .iconst 2, 1), (44, .invokevirtual 80, 3), (47, .ireturn, 1)]
set_option maxRecDepth 20000 in
theorem d_X5_at : ∀ q ∈ t_X5_at, decode cX5_at q.1 = .ok q.2 := by decide +kernel
noncomputable def f_X5_at (N : Nat) (a1 : Int32) (a2 : Int32) (w : Wd) : Option (Int32 × Wd) :=
  (f_X5_askedRow N a1 w).bind (fun q1 =>
    if 0 ≤ q1.1 then
      gd (vp_in a1 6) (
      (f_X5_in N a2 (0 : Int32) ((gA q1.2 31 0 a1.toNatClampNeg) - (1 : Int32)) q1.2).bind (fun q3 =>
        if q3.1 = 0 then
          (f_X5_meet N (2 : Int32) q3.2).bind (fun q4 =>
            some (q4.1, q4.2))
        else
          (f_X5_rowAt N a1 a2 q3.2).bind (fun q5 =>
            (f_X5_ask N q5.1 (1 : Int32) q5.2).bind (fun q6 =>
              some (q6.1, q6.2)))))
    else
      some (q1.1, q1.2))
set_option maxRecDepth 20000 in
set_option maxHeartbeats 4000000 in
theorem s_X5_at (G : GT) (l : Launch) (N : Nat) (a1 : Int32) (a2 : Int32) (w : Wd) (q : Int32 × Wd) (h : f_X5_at N a1 a2 w = some q) : Sp G l yX5_at cw_X5_at 3 [vr 5 0, vi a1, vi a2] w (some (vi q.1)) q.2 := by
  refine Sp_of (own := RX5) [some (vr 5 0), some (vi a1), some (vi a2), none] (by decide) rfl rfl (Nat.le_of_ble_eq_true rfl) ?_
  intro x hG hl hC hr hQ _ _
  subst hG
  subst hl
  unfold f_X5_at at h
  refine Z_aload_n hC (dk d_X5_at 0 rfl) 1 rfl rfl rfl ?_
  refine Z_iload_n hC (dk d_X5_at 1 rfl) 2 rfl rfl rfl ?_
  obtain ⟨q1, hq1, h⟩ := bd_some h
  refine K_X5_91 [vi a1] hC m_5 (s_X5_askedRow (xG x) (xl x) N a1 w q1 hq1) (Nat.le_of_ble_eq_true rfl) rfl rfl rfl (Nat.le_of_ble_eq_true rfl) (dk d_X5_at 2 rfl) 5 rfl ?_
  refine Z_istore_n hC (dk d_X5_at 3 rfl) 6 rfl rfl (Nat.le_of_ble_eq_true rfl) [some (vr 5 0), some (vi a1), some (vi a2), some (vi q1.1)] rfl ?_
  refine Z_iload_n hC (dk d_X5_at 4 rfl) 7 rfl rfl rfl ?_
  refine Z_if_ge hC (dk d_X5_at 5 rfl) 10 12 rfl (by decide) (fun c => ?_) (fun c => ?_)
  · have h := it_t h c
    refine Z_iload_n hC (dk d_X5_at 8 rfl) 13 rfl rfl rfl ?_
    refine Z_iconst (v := 0) hC (dk d_X5_at 9 rfl) 14 rfl (by decide) ?_
    refine Z_aload_n hC (dk d_X5_at 10 rfl) 15 rfl rfl rfl ?_
    refine G_X5_17 hC m_5 (dk d_X5_at 11 rfl) 18 rfl ?_
    refine Z_iload_n hC (dk d_X5_at 12 rfl) 19 rfl rfl rfl ?_
    obtain ⟨g2, h⟩ := gd_some h
    refine Z_iaload hC m_31 (by decide) rfl g2 (dk d_X5_at 13 rfl) 20 rfl ?_
    refine Z_iconst (v := 1) hC (dk d_X5_at 14 rfl) 21 rfl (by decide) ?_
    refine Z_isub hC (dk d_X5_at 15 rfl) 22 rfl ?_
    obtain ⟨q3, hq3, h⟩ := bd_some h
    refine K_X5_72 [vi a2, vi (0 : Int32), vi ((gA q1.2 31 0 a1.toNatClampNeg) - (1 : Int32))] hC (s_X5_in (xG x) (xl x) N a2 (0 : Int32) ((gA q1.2 31 0 a1.toNatClampNeg) - (1 : Int32)) q1.2 q3 hq3) (Nat.le_of_ble_eq_true rfl) rfl rfl rfl (Nat.le_of_ble_eq_true rfl) (dk d_X5_at 16 rfl) 25 rfl ?_
    refine Z_if_eq hC (dk d_X5_at 17 rfl) 28 42 rfl (by decide) (fun c => ?_) (fun c => ?_)
    · have h := it_t h c
      refine Z_aload_n hC (dk d_X5_at 26 rfl) 43 rfl rfl rfl ?_
      refine Z_iconst (v := 2) hC (dk d_X5_at 27 rfl) 44 rfl (by decide) ?_
      obtain ⟨q4, hq4, h⟩ := bd_some h
      refine K_X5_80 [vi (2 : Int32)] hC m_5 (s_X5_meet (xG x) (xl x) N (2 : Int32) q3.2 q4 hq4) (Nat.le_of_ble_eq_true rfl) rfl rfl rfl (Nat.le_of_ble_eq_true rfl) (dk d_X5_at 28 rfl) 47 rfl ?_
      obtain rfl := Option.some.inj h
      exact Z_ireturn (st := []) hC hr hQ (dk d_X5_at 29 rfl)
    · have h := it_f h c
      refine Z_aload_n hC (dk d_X5_at 18 rfl) 29 rfl rfl rfl ?_
      refine Z_aload_n hC (dk d_X5_at 19 rfl) 30 rfl rfl rfl ?_
      refine Z_iload_n hC (dk d_X5_at 20 rfl) 31 rfl rfl rfl ?_
      refine Z_iload_n hC (dk d_X5_at 21 rfl) 32 rfl rfl rfl ?_
      obtain ⟨q5, hq5, h⟩ := bd_some h
      refine K_X5_94 [vi a1, vi a2] hC m_5 (s_X5_rowAt (xG x) (xl x) N a1 a2 q3.2 q5 hq5) (Nat.le_of_ble_eq_true rfl) rfl rfl rfl (Nat.le_of_ble_eq_true rfl) (dk d_X5_at 22 rfl) 35 rfl ?_
      refine Z_iconst (v := 1) hC (dk d_X5_at 23 rfl) 36 rfl (by decide) ?_
      obtain ⟨q6, hq6, h⟩ := bd_some h
      refine K_X5_98 [vi q5.1, vi (1 : Int32)] hC m_5 (s_X5_ask (xG x) (xl x) N q5.1 (1 : Int32) q5.2 q6 hq6) (Nat.le_of_ble_eq_true rfl) rfl rfl rfl (Nat.le_of_ble_eq_true rfl) (dk d_X5_at 24 rfl) 39 rfl ?_
      refine Z_goto hC (dk d_X5_at 25 rfl) 47 (by decide) ?_
      obtain rfl := Option.some.inj h
      exact Z_ireturn (st := []) hC hr hQ (dk d_X5_at 29 rfl)
  · have h := it_f h c
    refine Z_iload_n hC (dk d_X5_at 6 rfl) 11 rfl rfl rfl ?_
    obtain rfl := Option.some.inj h
    exact Z_ireturn (st := []) hC hr hQ (dk d_X5_at 7 rfl)
def t_X5_lay : List (Nat × Instr × Nat) := [(0, .aload_n 0, 1), (1, .iload_n 1, 1), (2, .iload_n 2, 1), (3, .invokevirtual 101, 3), (6, .istore 4, 2), (8, .iload 4, 2), (10, .ifCond .ge 6, 3), (13, .iload 4, 2), (15, .ireturn, 1), (16, .aload_n 0, 1), (17, .iload_n 1, 1), (18, .iload_n 2, 1), (19, .iload_n 3, 1), (20, .invokevirtual 87, 3), (23, .iconst 1, 1), (24, .ireturn, 1)]
set_option maxRecDepth 20000 in
theorem d_X5_lay : ∀ q ∈ t_X5_lay, decode cX5_lay q.1 = .ok q.2 := by decide +kernel
noncomputable def f_X5_lay (N : Nat) (a1 : Int32) (a2 : Int32) (a3 : Int32) (w : Wd) : Option (Int32 × Wd) :=
  (f_X5_at N a1 a2 w).bind (fun q1 =>
    if 0 ≤ q1.1 then
      (f_X5_setRow N a1 a2 a3 q1.2).bind (fun q2 =>
        some ((1 : Int32), q2))
    else
      some (q1.1, q1.2))
set_option maxRecDepth 20000 in
set_option maxHeartbeats 4000000 in
theorem s_X5_lay (G : GT) (l : Launch) (N : Nat) (a1 : Int32) (a2 : Int32) (a3 : Int32) (w : Wd) (q : Int32 × Wd) (h : f_X5_lay N a1 a2 a3 w = some q) : Sp G l yX5_lay cw_X5_lay 4 [vr 5 0, vi a1, vi a2, vi a3] w (some (vi q.1)) q.2 := by
  refine Sp_of (own := RX5) [some (vr 5 0), some (vi a1), some (vi a2), some (vi a3), none] (by decide) rfl rfl (Nat.le_of_ble_eq_true rfl) ?_
  intro x hG hl hC hr hQ _ _
  subst hG
  subst hl
  unfold f_X5_lay at h
  refine Z_aload_n hC (dk d_X5_lay 0 rfl) 1 rfl rfl rfl ?_
  refine Z_iload_n hC (dk d_X5_lay 1 rfl) 2 rfl rfl rfl ?_
  refine Z_iload_n hC (dk d_X5_lay 2 rfl) 3 rfl rfl rfl ?_
  obtain ⟨q1, hq1, h⟩ := bd_some h
  refine K_X5_101 [vi a1, vi a2] hC m_5 (s_X5_at (xG x) (xl x) N a1 a2 w q1 hq1) (Nat.le_of_ble_eq_true rfl) rfl rfl rfl (Nat.le_of_ble_eq_true rfl) (dk d_X5_lay 3 rfl) 6 rfl ?_
  refine Z_istore hC (dk d_X5_lay 4 rfl) 8 rfl (Nat.le_of_ble_eq_true rfl) [some (vr 5 0), some (vi a1), some (vi a2), some (vi a3), some (vi q1.1)] rfl ?_
  refine Z_iload hC (dk d_X5_lay 5 rfl) 10 rfl rfl ?_
  refine Z_if_ge hC (dk d_X5_lay 6 rfl) 13 16 rfl (by decide) (fun c => ?_) (fun c => ?_)
  · have h := it_t h c
    refine Z_aload_n hC (dk d_X5_lay 9 rfl) 17 rfl rfl rfl ?_
    refine Z_iload_n hC (dk d_X5_lay 10 rfl) 18 rfl rfl rfl ?_
    refine Z_iload_n hC (dk d_X5_lay 11 rfl) 19 rfl rfl rfl ?_
    refine Z_iload_n hC (dk d_X5_lay 12 rfl) 20 rfl rfl rfl ?_
    obtain ⟨q2, hq2, h⟩ := bd_some h
    refine K_X5_87 [vi a1, vi a2, vi a3] hC m_5 (s_X5_setRow (xG x) (xl x) N a1 a2 a3 q1.2 q2 hq2) (Nat.le_of_ble_eq_true rfl) rfl rfl rfl (Nat.le_of_ble_eq_true rfl) (dk d_X5_lay 13 rfl) 23 rfl ?_
    refine Z_iconst (v := 1) hC (dk d_X5_lay 14 rfl) 24 rfl (by decide) ?_
    obtain rfl := Option.some.inj h
    exact Z_ireturn (st := []) hC hr hQ (dk d_X5_lay 15 rfl)
  · have h := it_f h c
    refine Z_iload hC (dk d_X5_lay 7 rfl) 15 rfl rfl ?_
    obtain rfl := Option.some.inj h
    exact Z_ireturn (st := []) hC hr hQ (dk d_X5_lay 8 rfl)
def t_X5_tear : List (Nat × Instr × Nat) := [(0, .aload_n 0, 1), (1, .iload_n 1, 1), (2, .invokevirtual 91, 3), (5, .istore_n 2, 1), (6, .iload_n 2, 1), (7, .ifCond .ge 5, 3), (10, .iload_n 2, 1), (11, .ireturn, 1), (12, .aload_n 0, 1), (13, .getfield 17, 3), (16, .iload_n 1, 1), (17, .bipush (-9), 2), (19, .iastore, 1), (20, .iconst 1, 1), (21, .ireturn, 1)]
set_option maxRecDepth 20000 in
theorem d_X5_tear : ∀ q ∈ t_X5_tear, decode cX5_tear q.1 = .ok q.2 := by decide +kernel
noncomputable def f_X5_tear (N : Nat) (a1 : Int32) (w : Wd) : Option (Int32 × Wd) :=
  (f_X5_askedRow N a1 w).bind (fun q1 =>
    if 0 ≤ q1.1 then
      gd (vp_in a1 6) (
      some ((1 : Int32), sA q1.2 31 0 (upd (gA q1.2 31 0) a1.toNatClampNeg (-9 : Int32))))
    else
      some (q1.1, q1.2))
set_option maxRecDepth 20000 in
set_option maxHeartbeats 4000000 in
theorem s_X5_tear (G : GT) (l : Launch) (N : Nat) (a1 : Int32) (w : Wd) (q : Int32 × Wd) (h : f_X5_tear N a1 w = some q) : Sp G l yX5_tear cw_X5_tear 3 [vr 5 0, vi a1] w (some (vi q.1)) q.2 := by
  refine Sp_of (own := RX5) [some (vr 5 0), some (vi a1), none] (by decide) rfl rfl (Nat.le_of_ble_eq_true rfl) ?_
  intro x hG hl hC hr hQ _ _
  subst hG
  subst hl
  unfold f_X5_tear at h
  refine Z_aload_n hC (dk d_X5_tear 0 rfl) 1 rfl rfl rfl ?_
  refine Z_iload_n hC (dk d_X5_tear 1 rfl) 2 rfl rfl rfl ?_
  obtain ⟨q1, hq1, h⟩ := bd_some h
  refine K_X5_91 [vi a1] hC m_5 (s_X5_askedRow (xG x) (xl x) N a1 w q1 hq1) (Nat.le_of_ble_eq_true rfl) rfl rfl rfl (Nat.le_of_ble_eq_true rfl) (dk d_X5_tear 2 rfl) 5 rfl ?_
  refine Z_istore_n hC (dk d_X5_tear 3 rfl) 6 rfl rfl (Nat.le_of_ble_eq_true rfl) [some (vr 5 0), some (vi a1), some (vi q1.1)] rfl ?_
  refine Z_iload_n hC (dk d_X5_tear 4 rfl) 7 rfl rfl rfl ?_
  refine Z_if_ge hC (dk d_X5_tear 5 rfl) 10 12 rfl (by decide) (fun c => ?_) (fun c => ?_)
  · have h := it_t h c
    refine Z_aload_n hC (dk d_X5_tear 8 rfl) 13 rfl rfl rfl ?_
    refine G_X5_17 hC m_5 (dk d_X5_tear 9 rfl) 16 rfl ?_
    refine Z_iload_n hC (dk d_X5_tear 10 rfl) 17 rfl rfl rfl ?_
    refine Z_bipush (v := -9) hC (dk d_X5_tear 11 rfl) 19 rfl (by decide) ?_
    obtain ⟨g2, h⟩ := gd_some h
    refine Z_iastore hC m_31 (by decide) rfl g2 (dk d_X5_tear 12 rfl) 20 rfl ?_
    refine Z_iconst (v := 1) hC (dk d_X5_tear 13 rfl) 21 rfl (by decide) ?_
    obtain rfl := Option.some.inj h
    exact Z_ireturn (st := []) hC hr hQ (dk d_X5_tear 14 rfl)
  · have h := it_f h c
    refine Z_iload_n hC (dk d_X5_tear 6 rfl) 11 rfl rfl rfl ?_
    obtain rfl := Option.some.inj h
    exact Z_ireturn (st := []) hC hr hQ (dk d_X5_tear 7 rfl)
