def t_X5_rightOn : List (Nat × Instr × Nat) := [(0, .iload_n 1, 1), (1, .aload_n 0, 1), (2, .getfield 125, 3), (5, .if_icmp .ne 57, 3), (8, .aload_n 0, 1), (9, .invokevirtual 172, 3), (12, .ifCond .ne 49, 3), (15, .iconst 0, 1), (16, .istore_n 2, 1), (17, .iload_n 2, 1), (18, .aload_n 0, 1), (19, .getfield 125, 3), (22, .if_icmp .ge 29, 3), (25, .aload_n 0, 1), (26, .getfield 51, 3), (29, .bipush 6, 2), (31, .aload_n 0, 1), (32, .getfield 175, 3), (35, .imul, 1), (36, .iload_n 2, 1), (37, .iadd, 1), (38, .aload_n 0, 1), (39, .getfield 48, 3), (42, .iload_n 2, 1), (43, .iaload, 1), (44, .iastore, 1), (45, .iinc 2 1, 3), (48, .goto (-31), 3), (51, .aload_n 0, 1), (52, .dup, 1), (53, .getfield 175, 3), (56, .iconst 1, 1), (57, .iadd, 1), (58, .putfield 175, 3), (61, .return_, 1), (62, .iconst 0, 1), (63, .istore_n 2, 1), (64, .iload_n 2, 1), (65, .aload_n 0, 1), (66, .getfield 125, 3), (69, .if_icmp .ge 69, 3), (72, .aload_n 0, 1), (73, .getfield 178, 3), (76, .iload_n 2, 1), (77, .invokestatic 147, 3), (80, .ifCond .ne 52, 3), (83, .aload_n 0, 1), (84, .iload_n 1, 1), (85, .iload_n 2, 1), (86, .invokevirtual 150, 3), (89, .ifCond .ne 43, 3), (92, .aload_n 0, 1), (93, .getfield 48, 3), (96, .iload_n 1, 1), (97, .iload_n 2, 1), (98, .iastore, 1), (99, .aload_n 0, 1), (100, .dup, 1), (101, .getfield 178, 3), (104, .iconst 1, 1), (105, .iload_n 2, 1), (106, .ishl, 1), (107, .ior, 1), (108, .putfield 178, 3), (111, .aload_n 0, 1), (112, .iload_n 1, 1), (113, .iconst 1, 1), (114, .iadd, 1), (115, .invokevirtual 181, 3), (118, .aload_n 0, 1), (119, .dup, 1), (120, .getfield 178, 3), (123, .iconst 1, 1), (124, .iload_n 2, 1), (125, .ishl, 1), (126, .iconst (-1), 1), (127, .ixor, 1), (128, .iand, 1), (129, .putfield 178, 3), (132, .iinc 2 1, 3), (135, .goto (-71), 3), (138, .return_, 1)]
set_option maxRecDepth 20000 in
theorem d_X5_rightOn : ∀ q ∈ t_X5_rightOn, decode cX5_rightOn q.1 = .ok q.2 := by decide +kernel
noncomputable def X5_rightOn_L2 (N : Nat) (rec : Int32 → Wd → Option (Wd)) (x1 : Int32) : Nat → Int32 → Wd → Option (Wd)
  | 0, _, _ => none
  | n + 1, x2, w =>
  if (gI w 510 0) ≤ x2 then
    some w
  else
    (f_X5_has N (gI w 523 0) x2 w).bind (fun q1 =>
      if q1.1 = 0 then
        (f_X5_barOf N x1 x2 q1.2).bind (fun q2 =>
          if q2.1 = 0 then
            gd (vp_in x1 6) (
            (rec (x1 + (1 : Int32)) (sI (sA q2.2 40 0 (upd (gA q2.2 40 0) x1.toNatClampNeg x2)) 523 0 ((gI (sA q2.2 40 0 (upd (gA q2.2 40 0) x1.toNatClampNeg x2)) 523 0) ||| ((1 : Int32) <<< (x2 &&& (31 : Int32)))))).bind (fun q4 =>
              X5_rightOn_L2 N rec x1 n (x2 + (1 : Int32)) (sI q4 523 0 ((gI q4 523 0) &&& (((1 : Int32) <<< (x2 &&& (31 : Int32))) ^^^ (-1 : Int32))))))
          else
            X5_rightOn_L2 N rec x1 n (x2 + (1 : Int32)) q2.2)
      else
        X5_rightOn_L2 N rec x1 n (x2 + (1 : Int32)) q1.2)
set_option maxRecDepth 20000 in
set_option maxHeartbeats 4000000 in
theorem z_X5_rightOn_L2 {x : CX} {kd : Nat} (hC : Cx x RX5 cX5_rightOn 3 (3 + (kd + 1))) (hr : (xM x).sig.returnType = none) (N : Nat) {rec : Int32 → Wd → Option (Wd)} (hrec : ∀ (a1 : Int32) (w : Wd) (q : Wd), rec a1 w = some q → Sp (xG x) (xl x) yX5_rightOn cw_X5_rightOn (3 + kd) [vr 5 0, vi a1] w none q) (x1 : Int32) : ∀ (n : Nat) (x2 : Int32) (w : Wd) (q : (Wd)), X5_rightOn_L2 N rec x1 n x2 w = some q → Z x 138 [none, none, none] [] q → Z x 64 [some (vr 5 0), some (vi x1), some (vi x2)] [] w := by
  intro n
  induction n with
  | zero =>
    intro x2 w q h
    cases h
  | succ n ih =>
    intro x2 w q h ke
    rw [X5_rightOn_L2] at h
    refine Z_iload_n hC (dk d_X5_rightOn 37 rfl) 65 rfl rfl rfl ?_
    refine Z_aload_n hC (dk d_X5_rightOn 38 rfl) 66 rfl rfl rfl ?_
    refine G_X5_125 hC m_5 (dk d_X5_rightOn 39 rfl) 69 rfl ?_
    refine Z_icmp_ge hC (dk d_X5_rightOn 40 rfl) 72 138 rfl (by decide) (fun c => ?_) (fun c => ?_)
    · have h := it_t h c
      obtain rfl := Option.some.inj h
      refine Z_wk [false, false, false] [none, none, none] rfl ?_
      exact ke
    · have h := it_f h c
      refine Z_aload_n hC (dk d_X5_rightOn 41 rfl) 73 rfl rfl rfl ?_
      refine G_X5_178 hC m_5 (dk d_X5_rightOn 42 rfl) 76 rfl ?_
      refine Z_iload_n hC (dk d_X5_rightOn 43 rfl) 77 rfl rfl rfl ?_
      obtain ⟨q1, hq1, h⟩ := bd_some h
      refine K_X5_147 [vi (gI w 523 0), vi x2] hC (s_X5_has (xG x) (xl x) N (gI w 523 0) x2 w q1 hq1) (by omega) rfl rfl rfl (Nat.le_of_ble_eq_true rfl) (dk d_X5_rightOn 44 rfl) 80 rfl ?_
      refine Z_if_ne hC (dk d_X5_rightOn 45 rfl) 83 132 rfl (by decide) (fun c => ?_) (fun c => ?_)
      · have h := it_f h c
        refine Z_iinc hC (dk d_X5_rightOn 79 rfl) 135 rfl rfl rfl [some (vr 5 0), some (vi x1), some (vi (x2 + (1 : Int32)))] rfl ?_
        refine Z_goto hC (dk d_X5_rightOn 80 rfl) 64 (by decide) ?_
        refine Z_wk [true, true, true] [some (vr 5 0), some (vi x1), some (vi (x2 + (1 : Int32)))] rfl ?_
        exact ih (x2 + (1 : Int32)) q1.2 _ h ke
      · have h := it_t h c
        refine Z_aload_n hC (dk d_X5_rightOn 46 rfl) 84 rfl rfl rfl ?_
        refine Z_iload_n hC (dk d_X5_rightOn 47 rfl) 85 rfl rfl rfl ?_
        refine Z_iload_n hC (dk d_X5_rightOn 48 rfl) 86 rfl rfl rfl ?_
        obtain ⟨q2, hq2, h⟩ := bd_some h
        refine K_X5_150 [vi x1, vi x2] hC m_5 (s_X5_barOf (xG x) (xl x) N x1 x2 q1.2 q2 hq2) (by omega) rfl rfl rfl (Nat.le_of_ble_eq_true rfl) (dk d_X5_rightOn 49 rfl) 89 rfl ?_
        refine Z_if_ne hC (dk d_X5_rightOn 50 rfl) 92 132 rfl (by decide) (fun c => ?_) (fun c => ?_)
        · have h := it_f h c
          refine Z_iinc hC (dk d_X5_rightOn 79 rfl) 135 rfl rfl rfl [some (vr 5 0), some (vi x1), some (vi (x2 + (1 : Int32)))] rfl ?_
          refine Z_goto hC (dk d_X5_rightOn 80 rfl) 64 (by decide) ?_
          refine Z_wk [true, true, true] [some (vr 5 0), some (vi x1), some (vi (x2 + (1 : Int32)))] rfl ?_
          exact ih (x2 + (1 : Int32)) q2.2 _ h ke
        · have h := it_t h c
          refine Z_aload_n hC (dk d_X5_rightOn 51 rfl) 93 rfl rfl rfl ?_
          refine G_X5_48 hC m_5 (dk d_X5_rightOn 52 rfl) 96 rfl ?_
          refine Z_iload_n hC (dk d_X5_rightOn 53 rfl) 97 rfl rfl rfl ?_
          refine Z_iload_n hC (dk d_X5_rightOn 54 rfl) 98 rfl rfl rfl ?_
          obtain ⟨g3, h⟩ := gd_some h
          refine Z_iastore hC m_40 (by decide) rfl g3 (dk d_X5_rightOn 55 rfl) 99 rfl ?_
          refine Z_aload_n hC (dk d_X5_rightOn 56 rfl) 100 rfl rfl rfl ?_
          refine Z_dup hC (dk d_X5_rightOn 57 rfl) 101 rfl rfl ?_
          refine G_X5_178 hC m_5 (dk d_X5_rightOn 58 rfl) 104 rfl ?_
          refine Z_iconst (v := 1) hC (dk d_X5_rightOn 59 rfl) 105 rfl (by decide) ?_
          refine Z_iload_n hC (dk d_X5_rightOn 60 rfl) 106 rfl rfl rfl ?_
          refine Z_ishl hC (dk d_X5_rightOn 61 rfl) 107 rfl ?_
          refine Z_ior hC (dk d_X5_rightOn 62 rfl) 108 rfl ?_
          refine P_X5_178 hC m_5 (dk d_X5_rightOn 63 rfl) 111 rfl ?_
          refine Z_aload_n hC (dk d_X5_rightOn 64 rfl) 112 rfl rfl rfl ?_
          refine Z_iload_n hC (dk d_X5_rightOn 65 rfl) 113 rfl rfl rfl ?_
          refine Z_iconst (v := 1) hC (dk d_X5_rightOn 66 rfl) 114 rfl (by decide) ?_
          refine Z_iadd hC (dk d_X5_rightOn 67 rfl) 115 rfl ?_
          obtain ⟨q4, hq4, h⟩ := bd_some h
          refine K_X5_181 [vi (x1 + (1 : Int32))] hC m_5 (hrec (x1 + (1 : Int32)) (sI (sA q2.2 40 0 (upd (gA q2.2 40 0) x1.toNatClampNeg x2)) 523 0 ((gI (sA q2.2 40 0 (upd (gA q2.2 40 0) x1.toNatClampNeg x2)) 523 0) ||| ((1 : Int32) <<< (x2 &&& (31 : Int32))))) q4 hq4) (by omega) rfl rfl rfl (Nat.le_of_ble_eq_true rfl) (dk d_X5_rightOn 68 rfl) 118 rfl ?_
          refine Z_aload_n hC (dk d_X5_rightOn 69 rfl) 119 rfl rfl rfl ?_
          refine Z_dup hC (dk d_X5_rightOn 70 rfl) 120 rfl rfl ?_
          refine G_X5_178 hC m_5 (dk d_X5_rightOn 71 rfl) 123 rfl ?_
          refine Z_iconst (v := 1) hC (dk d_X5_rightOn 72 rfl) 124 rfl (by decide) ?_
          refine Z_iload_n hC (dk d_X5_rightOn 73 rfl) 125 rfl rfl rfl ?_
          refine Z_ishl hC (dk d_X5_rightOn 74 rfl) 126 rfl ?_
          refine Z_iconst (v := -1) hC (dk d_X5_rightOn 75 rfl) 127 rfl (by decide) ?_
          refine Z_ixor hC (dk d_X5_rightOn 76 rfl) 128 rfl ?_
          refine Z_iand hC (dk d_X5_rightOn 77 rfl) 129 rfl ?_
          refine P_X5_178 hC m_5 (dk d_X5_rightOn 78 rfl) 132 rfl ?_
          refine Z_iinc hC (dk d_X5_rightOn 79 rfl) 135 rfl rfl rfl [some (vr 5 0), some (vi x1), some (vi (x2 + (1 : Int32)))] rfl ?_
          refine Z_goto hC (dk d_X5_rightOn 80 rfl) 64 (by decide) ?_
          refine Z_wk [true, true, true] [some (vr 5 0), some (vi x1), some (vi (x2 + (1 : Int32)))] rfl ?_
          exact ih (x2 + (1 : Int32)) (sI q4 523 0 ((gI q4 523 0) &&& (((1 : Int32) <<< (x2 &&& (31 : Int32))) ^^^ (-1 : Int32)))) _ h ke
noncomputable def X5_rightOn_L1 (N : Nat) (rec : Int32 → Wd → Option (Wd)) : Nat → Int32 → Wd → Option (Wd)
  | 0, _, _ => none
  | n + 1, x2, w =>
  if (gI w 510 0) ≤ x2 then
    some w
  else
    gd (vp_in x2 6) (
    gd (vp_in (((6 : Int32) * (gI w 522 0)) + x2) 4320) (
    X5_rightOn_L1 N rec n (x2 + (1 : Int32)) (sA w 41 0 (upd (gA w 41 0) (((6 : Int32) * (gI w 522 0)) + x2).toNatClampNeg (gA w 40 0 x2.toNatClampNeg)))))
set_option maxRecDepth 20000 in
set_option maxHeartbeats 4000000 in
theorem z_X5_rightOn_L1 {x : CX} {kd : Nat} (hC : Cx x RX5 cX5_rightOn 3 (3 + (kd + 1))) (hr : (xM x).sig.returnType = none) (N : Nat) {rec : Int32 → Wd → Option (Wd)} (hrec : ∀ (a1 : Int32) (w : Wd) (q : Wd), rec a1 w = some q → Sp (xG x) (xl x) yX5_rightOn cw_X5_rightOn (3 + kd) [vr 5 0, vi a1] w none q) : ∀ (n : Nat) (x2 : Int32) (w : Wd) (q : (Wd)), X5_rightOn_L1 N rec n x2 w = some q → Z x 51 [some (vr 5 0), none, none] [] q → Z x 17 [some (vr 5 0), none, some (vi x2)] [] w := by
  intro n
  induction n with
  | zero =>
    intro x2 w q h
    cases h
  | succ n ih =>
    intro x2 w q h ke
    rw [X5_rightOn_L1] at h
    refine Z_iload_n hC (dk d_X5_rightOn 9 rfl) 18 rfl rfl rfl ?_
    refine Z_aload_n hC (dk d_X5_rightOn 10 rfl) 19 rfl rfl rfl ?_
    refine G_X5_125 hC m_5 (dk d_X5_rightOn 11 rfl) 22 rfl ?_
    refine Z_icmp_ge hC (dk d_X5_rightOn 12 rfl) 25 51 rfl (by decide) (fun c => ?_) (fun c => ?_)
    · have h := it_t h c
      obtain rfl := Option.some.inj h
      refine Z_wk [true, false, false] [some (vr 5 0), none, none] rfl ?_
      exact ke
    · have h := it_f h c
      refine Z_aload_n hC (dk d_X5_rightOn 13 rfl) 26 rfl rfl rfl ?_
      refine G_X5_51 hC m_5 (dk d_X5_rightOn 14 rfl) 29 rfl ?_
      refine Z_bipush (v := 6) hC (dk d_X5_rightOn 15 rfl) 31 rfl (by decide) ?_
      refine Z_aload_n hC (dk d_X5_rightOn 16 rfl) 32 rfl rfl rfl ?_
      refine G_X5_175 hC m_5 (dk d_X5_rightOn 17 rfl) 35 rfl ?_
      refine Z_imul hC (dk d_X5_rightOn 18 rfl) 36 rfl ?_
      refine Z_iload_n hC (dk d_X5_rightOn 19 rfl) 37 rfl rfl rfl ?_
      refine Z_iadd hC (dk d_X5_rightOn 20 rfl) 38 rfl ?_
      refine Z_aload_n hC (dk d_X5_rightOn 21 rfl) 39 rfl rfl rfl ?_
      refine G_X5_48 hC m_5 (dk d_X5_rightOn 22 rfl) 42 rfl ?_
      refine Z_iload_n hC (dk d_X5_rightOn 23 rfl) 43 rfl rfl rfl ?_
      obtain ⟨g7, h⟩ := gd_some h
      refine Z_iaload hC m_40 (by decide) rfl g7 (dk d_X5_rightOn 24 rfl) 44 rfl ?_
      obtain ⟨g8, h⟩ := gd_some h
      refine Z_iastore hC m_41 (by decide) rfl g8 (dk d_X5_rightOn 25 rfl) 45 rfl ?_
      refine Z_iinc hC (dk d_X5_rightOn 26 rfl) 48 rfl rfl rfl [some (vr 5 0), none, some (vi (x2 + (1 : Int32)))] rfl ?_
      refine Z_goto hC (dk d_X5_rightOn 27 rfl) 17 (by decide) ?_
      refine Z_wk [true, false, true] [some (vr 5 0), none, some (vi (x2 + (1 : Int32)))] rfl ?_
      exact ih (x2 + (1 : Int32)) (sA w 41 0 (upd (gA w 41 0) (((6 : Int32) * (gI w 522 0)) + x2).toNatClampNeg (gA w 40 0 x2.toNatClampNeg))) _ h ke
noncomputable def f_X5_rightOn (N : Nat) : Nat → Int32 → Wd → Option (Wd)
  | 0, _, _ => none
  | k + 1, a1, w =>
  if a1 = (gI w 510 0) then
    (f_X5_badBy N w).bind (fun q6 =>
      if q6.1 = 0 then
        (X5_rightOn_L1 N (f_X5_rightOn N k) N (0 : Int32) q6.2).bind (fun q9 =>
          some (sI q9 522 0 ((gI q9 522 0) + (1 : Int32))))
      else
        some q6.2)
  else
    (X5_rightOn_L2 N (f_X5_rightOn N k) a1 N (0 : Int32) w).bind (fun q5 =>
      some q5)
set_option maxRecDepth 20000 in
set_option maxHeartbeats 4000000 in
theorem s_X5_rightOn (G : GT) (l : Launch) (N : Nat) : ∀ (k : Nat) (a1 : Int32) (w : Wd) (q : Wd) (h : f_X5_rightOn N k a1 w = some q), Sp G l yX5_rightOn cw_X5_rightOn (3 + k) [vr 5 0, vi a1] w none q := by
  intro kd
  induction kd with
  | zero =>
    intro a1 w q h
    cases h
  | succ kd ih =>
    intro a1 w q h
    rw [f_X5_rightOn] at h
    refine Sp_of (own := RX5) [some (vr 5 0), some (vi a1), none] (by decide) rfl rfl (Nat.le_of_ble_eq_true rfl) ?_
    intro x hG hl hC hr hQ _ _
    subst hG
    subst hl
    have hrec : ∀ (a1 : Int32) (w : Wd) (q : Wd), f_X5_rightOn N kd a1 w = some q → Sp (xG x) (xl x) yX5_rightOn cw_X5_rightOn (3 + kd) [vr 5 0, vi a1] w none q := fun a1 w q h => ih a1 w q h
    refine Z_iload_n hC (dk d_X5_rightOn 0 rfl) 1 rfl rfl rfl ?_
    refine Z_aload_n hC (dk d_X5_rightOn 1 rfl) 2 rfl rfl rfl ?_
    refine G_X5_125 hC m_5 (dk d_X5_rightOn 2 rfl) 5 rfl ?_
    refine Z_icmp_ne hC (dk d_X5_rightOn 3 rfl) 8 62 rfl (by decide) (fun c => ?_) (fun c => ?_)
    · have h := it_f h c
      refine Z_iconst (v := 0) hC (dk d_X5_rightOn 35 rfl) 63 rfl (by decide) ?_
      refine Z_istore_n hC (dk d_X5_rightOn 36 rfl) 64 rfl rfl (Nat.le_of_ble_eq_true rfl) [some (vr 5 0), some (vi a1), some (vi (0 : Int32))] rfl ?_
      obtain ⟨q5, hq5, h⟩ := bd_some h
      refine Z_wk [true, true, true] [some (vr 5 0), some (vi a1), some (vi (0 : Int32))] rfl ?_
      refine z_X5_rightOn_L2 hC hr N hrec a1 N (0 : Int32) w q5 hq5 ?_
      obtain rfl := Option.some.inj h
      exact Z_return (st := []) hC hr hQ (dk d_X5_rightOn 81 rfl)
    · have h := it_t h c
      refine Z_aload_n hC (dk d_X5_rightOn 4 rfl) 9 rfl rfl rfl ?_
      obtain ⟨q6, hq6, h⟩ := bd_some h
      refine K_X5_172 [] hC m_5 (s_X5_badBy (xG x) (xl x) N w q6 hq6) (by omega) rfl rfl rfl (Nat.le_of_ble_eq_true rfl) (dk d_X5_rightOn 5 rfl) 12 rfl ?_
      refine Z_if_ne hC (dk d_X5_rightOn 6 rfl) 15 61 rfl (by decide) (fun c => ?_) (fun c => ?_)
      · have h := it_f h c
        obtain rfl := Option.some.inj h
        exact Z_return (st := []) hC hr hQ (dk d_X5_rightOn 34 rfl)
      · have h := it_t h c
        refine Z_iconst (v := 0) hC (dk d_X5_rightOn 7 rfl) 16 rfl (by decide) ?_
        refine Z_istore_n hC (dk d_X5_rightOn 8 rfl) 17 rfl rfl (Nat.le_of_ble_eq_true rfl) [some (vr 5 0), some (vi a1), some (vi (0 : Int32))] rfl ?_
        obtain ⟨q9, hq9, h⟩ := bd_some h
        refine Z_wk [true, false, true] [some (vr 5 0), none, some (vi (0 : Int32))] rfl ?_
        refine z_X5_rightOn_L1 hC hr N hrec N (0 : Int32) q6.2 q9 hq9 ?_
        refine Z_aload_n hC (dk d_X5_rightOn 28 rfl) 52 rfl rfl rfl ?_
        refine Z_dup hC (dk d_X5_rightOn 29 rfl) 53 rfl rfl ?_
        refine G_X5_175 hC m_5 (dk d_X5_rightOn 30 rfl) 56 rfl ?_
        refine Z_iconst (v := 1) hC (dk d_X5_rightOn 31 rfl) 57 rfl (by decide) ?_
        refine Z_iadd hC (dk d_X5_rightOn 32 rfl) 58 rfl ?_
        refine P_X5_175 hC m_5 (dk d_X5_rightOn 33 rfl) 61 rfl ?_
        obtain rfl := Option.some.inj h
        exact Z_return (st := []) hC hr hQ (dk d_X5_rightOn 34 rfl)
def t_X5_setRights : List (Nat × Instr × Nat) := [(0, .aload_n 0, 1), (1, .iconst 0, 1), (2, .putfield 175, 3), (5, .aload_n 0, 1), (6, .iconst 0, 1), (7, .putfield 178, 3), (10, .aload_n 0, 1), (11, .iconst 0, 1), (12, .invokevirtual 181, 3), (15, .return_, 1)]
set_option maxRecDepth 20000 in
theorem d_X5_setRights : ∀ q ∈ t_X5_setRights, decode cX5_setRights q.1 = .ok q.2 := by decide +kernel
noncomputable def f_X5_setRights (N : Nat) (w : Wd) : Option (Wd) :=
  (f_X5_rightOn N 8 (0 : Int32) (sI (sI w 522 0 (0 : Int32)) 523 0 (0 : Int32))).bind (fun q1 =>
    some q1)
set_option maxRecDepth 20000 in
set_option maxHeartbeats 4000000 in
theorem s_X5_setRights (G : GT) (l : Launch) (N : Nat) (w : Wd) (q : Wd) (h : f_X5_setRights N w = some q) : Sp G l yX5_setRights cw_X5_setRights 12 [vr 5 0] w none q := by
  refine Sp_of (own := RX5) [some (vr 5 0)] (by decide) rfl rfl (Nat.le_of_ble_eq_true rfl) ?_
  intro x hG hl hC hr hQ _ _
  subst hG
  subst hl
  unfold f_X5_setRights at h
  refine Z_aload_n hC (dk d_X5_setRights 0 rfl) 1 rfl rfl rfl ?_
  refine Z_iconst (v := 0) hC (dk d_X5_setRights 1 rfl) 2 rfl (by decide) ?_
  refine P_X5_175 hC m_5 (dk d_X5_setRights 2 rfl) 5 rfl ?_
  refine Z_aload_n hC (dk d_X5_setRights 3 rfl) 6 rfl rfl rfl ?_
  refine Z_iconst (v := 0) hC (dk d_X5_setRights 4 rfl) 7 rfl (by decide) ?_
  refine P_X5_178 hC m_5 (dk d_X5_setRights 5 rfl) 10 rfl ?_
  refine Z_aload_n hC (dk d_X5_setRights 6 rfl) 11 rfl rfl rfl ?_
  refine Z_iconst (v := 0) hC (dk d_X5_setRights 7 rfl) 12 rfl (by decide) ?_
  obtain ⟨q1, hq1, h⟩ := bd_some h
  refine K_X5_181 [vi (0 : Int32)] hC m_5 (s_X5_rightOn (xG x) (xl x) N 8 (0 : Int32) (sI (sI w 522 0 (0 : Int32)) 523 0 (0 : Int32)) q1 hq1) (Nat.le_of_ble_eq_true rfl) rfl rfl rfl (Nat.le_of_ble_eq_true rfl) (dk d_X5_setRights 8 rfl) 15 rfl ?_
  obtain rfl := Option.some.inj h
  exact Z_return (st := []) hC hr hQ (dk d_X5_setRights 9 rfl)
def t_X5_right : List (Nat × Instr × Nat) := [(0, .aload_n 0, 1), (1, .getfield 51, 3), (4, .bipush 6, 2), (6, .iload_n 1, 1), (7, .imul, 1), (8, .iload_n 2, 1), (9, .iadd, 1), (10, .iaload, 1), (11, .ireturn, 1)]
set_option maxRecDepth 20000 in
theorem d_X5_right : ∀ q ∈ t_X5_right, decode cX5_right q.1 = .ok q.2 := by decide +kernel
noncomputable def f_X5_right (N : Nat) (a1 : Int32) (a2 : Int32) (w : Wd) : Option (Int32 × Wd) :=
  gd (vp_in (((6 : Int32) * a1) + a2) 4320) (
  some (gA w 41 0 (((6 : Int32) * a1) + a2).toNatClampNeg, w))
set_option maxRecDepth 20000 in
set_option maxHeartbeats 4000000 in
theorem s_X5_right (G : GT) (l : Launch) (N : Nat) (a1 : Int32) (a2 : Int32) (w : Wd) (q : Int32 × Wd) (h : f_X5_right N a1 a2 w = some q) : Sp G l yX5_right cw_X5_right 0 [vr 5 0, vi a1, vi a2] w (some (vi q.1)) q.2 := by
  refine Sp_of (own := RX5) [some (vr 5 0), some (vi a1), some (vi a2)] (by decide) rfl rfl (Nat.le_of_ble_eq_true rfl) ?_
  intro x hG hl hC hr hQ _ _
  subst hG
  subst hl
  unfold f_X5_right at h
  refine Z_aload_n hC (dk d_X5_right 0 rfl) 1 rfl rfl rfl ?_
  refine G_X5_51 hC m_5 (dk d_X5_right 1 rfl) 4 rfl ?_
  refine Z_bipush (v := 6) hC (dk d_X5_right 2 rfl) 6 rfl (by decide) ?_
  refine Z_iload_n hC (dk d_X5_right 3 rfl) 7 rfl rfl rfl ?_
  refine Z_imul hC (dk d_X5_right 4 rfl) 8 rfl ?_
  refine Z_iload_n hC (dk d_X5_right 5 rfl) 9 rfl rfl rfl ?_
  refine Z_iadd hC (dk d_X5_right 6 rfl) 10 rfl ?_
  obtain ⟨g1, h⟩ := gd_some h
  refine Z_iaload hC m_41 (by decide) rfl g1 (dk d_X5_right 7 rfl) 11 rfl ?_
  obtain rfl := Option.some.inj h
  exact Z_ireturn (st := []) hC hr hQ (dk d_X5_right 8 rfl)
def t_X5_ways : List (Nat × Instr × Nat) := [(0, .aload_n 0, 1), (1, .invokevirtual 185, 3), (4, .aload_n 0, 1), (5, .getfield 175, 3), (8, .ireturn, 1)]
set_option maxRecDepth 20000 in
theorem d_X5_ways : ∀ q ∈ t_X5_ways, decode cX5_ways q.1 = .ok q.2 := by decide +kernel
noncomputable def f_X5_ways (N : Nat) (w : Wd) : Option (Int32 × Wd) :=
  (f_X5_setRights N w).bind (fun q1 =>
    some (gI q1 522 0, q1))
set_option maxRecDepth 20000 in
set_option maxHeartbeats 4000000 in
theorem s_X5_ways (G : GT) (l : Launch) (N : Nat) (w : Wd) (q : Int32 × Wd) (h : f_X5_ways N w = some q) : Sp G l yX5_ways cw_X5_ways 13 [vr 5 0] w (some (vi q.1)) q.2 := by
  refine Sp_of (own := RX5) [some (vr 5 0)] (by decide) rfl rfl (Nat.le_of_ble_eq_true rfl) ?_
  intro x hG hl hC hr hQ _ _
  subst hG
  subst hl
  unfold f_X5_ways at h
  refine Z_aload_n hC (dk d_X5_ways 0 rfl) 1 rfl rfl rfl ?_
  obtain ⟨q1, hq1, h⟩ := bd_some h
  refine K_X5_185 [] hC m_5 (s_X5_setRights (xG x) (xl x) N w q1 hq1) (Nat.le_of_ble_eq_true rfl) rfl rfl rfl (Nat.le_of_ble_eq_true rfl) (dk d_X5_ways 1 rfl) 4 rfl ?_
  refine Z_aload_n hC (dk d_X5_ways 2 rfl) 5 rfl rfl rfl ?_
  refine G_X5_175 hC m_5 (dk d_X5_ways 3 rfl) 8 rfl ?_
  obtain rfl := Option.some.inj h
  exact Z_ireturn (st := []) hC hr hQ (dk d_X5_ways 4 rfl)
def t_X5_layRight : List (Nat × Instr × Nat) := [(0, .aload_n 0, 1), (1, .iload_n 2, 1), (2, .aload_n 0, 1), (3, .getfield 125, 3), (6, .invokevirtual 188, 3), (9, .pop, 1), (10, .iconst 0, 1), (11, .istore_n 3, 1), (12, .iload_n 3, 1), (13, .aload_n 0, 1), (14, .getfield 125, 3), (17, .if_icmp .ge 21, 3), (20, .aload_n 0, 1), (21, .iload_n 2, 1), (22, .iload_n 3, 1), (23, .aload_n 0, 1), (24, .iload_n 1, 1), (25, .iload_n 3, 1), (26, .invokevirtual 191, 3), (29, .invokevirtual 87, 3), (32, .iinc 3 1, 3), (35, .goto (-23), 3), (38, .return_, 1)]
set_option maxRecDepth 20000 in
theorem d_X5_layRight : ∀ q ∈ t_X5_layRight, decode cX5_layRight q.1 = .ok q.2 := by decide +kernel
noncomputable def X5_layRight_L1 (N : Nat) (x1 : Int32) (x2 : Int32) : Nat → Int32 → Wd → Option (Wd)
  | 0, _, _ => none
  | n + 1, x3, w =>
  if (gI w 510 0) ≤ x3 then
    some w
  else
    (f_X5_right N x1 x3 w).bind (fun q2 =>
      (f_X5_setRow N x2 x3 q2.1 q2.2).bind (fun q3 =>
        X5_layRight_L1 N x1 x2 n (x3 + (1 : Int32)) q3))
set_option maxRecDepth 20000 in
set_option maxHeartbeats 4000000 in
theorem z_X5_layRight_L1 {x : CX} (hC : Cx x RX5 cX5_layRight 4 3) (hr : (xM x).sig.returnType = none) (N : Nat) (x1 : Int32) (x2 : Int32) : ∀ (n : Nat) (x3 : Int32) (w : Wd) (q : (Wd)), X5_layRight_L1 N x1 x2 n x3 w = some q → Z x 38 [none, none, none, none] [] q → Z x 12 [some (vr 5 0), some (vi x1), some (vi x2), some (vi x3)] [] w := by
  intro n
  induction n with
  | zero =>
    intro x3 w q h
    cases h
  | succ n ih =>
    intro x3 w q h ke
    rw [X5_layRight_L1] at h
    refine Z_iload_n hC (dk d_X5_layRight 8 rfl) 13 rfl rfl rfl ?_
    refine Z_aload_n hC (dk d_X5_layRight 9 rfl) 14 rfl rfl rfl ?_
    refine G_X5_125 hC m_5 (dk d_X5_layRight 10 rfl) 17 rfl ?_
    refine Z_icmp_ge hC (dk d_X5_layRight 11 rfl) 20 38 rfl (by decide) (fun c => ?_) (fun c => ?_)
    · have h := it_t h c
      obtain rfl := Option.some.inj h
      refine Z_wk [false, false, false, false] [none, none, none, none] rfl ?_
      exact ke
    · have h := it_f h c
      refine Z_aload_n hC (dk d_X5_layRight 12 rfl) 21 rfl rfl rfl ?_
      refine Z_iload_n hC (dk d_X5_layRight 13 rfl) 22 rfl rfl rfl ?_
      refine Z_iload_n hC (dk d_X5_layRight 14 rfl) 23 rfl rfl rfl ?_
      refine Z_aload_n hC (dk d_X5_layRight 15 rfl) 24 rfl rfl rfl ?_
      refine Z_iload_n hC (dk d_X5_layRight 16 rfl) 25 rfl rfl rfl ?_
      refine Z_iload_n hC (dk d_X5_layRight 17 rfl) 26 rfl rfl rfl ?_
      obtain ⟨q2, hq2, h⟩ := bd_some h
      refine K_X5_191 [vi x1, vi x3] hC m_5 (s_X5_right (xG x) (xl x) N x1 x3 w q2 hq2) (Nat.le_of_ble_eq_true rfl) rfl rfl rfl (Nat.le_of_ble_eq_true rfl) (dk d_X5_layRight 18 rfl) 29 rfl ?_
      obtain ⟨q3, hq3, h⟩ := bd_some h
      refine K_X5_87 [vi x2, vi x3, vi q2.1] hC m_5 (s_X5_setRow (xG x) (xl x) N x2 x3 q2.1 q2.2 q3 hq3) (Nat.le_of_ble_eq_true rfl) rfl rfl rfl (Nat.le_of_ble_eq_true rfl) (dk d_X5_layRight 19 rfl) 32 rfl ?_
      refine Z_iinc hC (dk d_X5_layRight 20 rfl) 35 rfl rfl rfl [some (vr 5 0), some (vi x1), some (vi x2), some (vi (x3 + (1 : Int32)))] rfl ?_
      refine Z_goto hC (dk d_X5_layRight 21 rfl) 12 (by decide) ?_
      refine Z_wk [true, true, true, true] [some (vr 5 0), some (vi x1), some (vi x2), some (vi (x3 + (1 : Int32)))] rfl ?_
      exact ih (x3 + (1 : Int32)) q3 _ h ke
noncomputable def f_X5_layRight (N : Nat) (a1 : Int32) (a2 : Int32) (w : Wd) : Option (Wd) :=
  (f_X5_row N a2 (gI w 510 0) w).bind (fun q1 =>
    (X5_layRight_L1 N a1 a2 N (0 : Int32) q1.2).bind (fun q4 =>
      some q4))
set_option maxRecDepth 20000 in
set_option maxHeartbeats 4000000 in
theorem s_X5_layRight (G : GT) (l : Launch) (N : Nat) (a1 : Int32) (a2 : Int32) (w : Wd) (q : Wd) (h : f_X5_layRight N a1 a2 w = some q) : Sp G l yX5_layRight cw_X5_layRight 3 [vr 5 0, vi a1, vi a2] w none q := by
  refine Sp_of (own := RX5) [some (vr 5 0), some (vi a1), some (vi a2), none] (by decide) rfl rfl (Nat.le_of_ble_eq_true rfl) ?_
  intro x hG hl hC hr hQ _ _
  subst hG
  subst hl
  unfold f_X5_layRight at h
  refine Z_aload_n hC (dk d_X5_layRight 0 rfl) 1 rfl rfl rfl ?_
  refine Z_iload_n hC (dk d_X5_layRight 1 rfl) 2 rfl rfl rfl ?_
  refine Z_aload_n hC (dk d_X5_layRight 2 rfl) 3 rfl rfl rfl ?_
  refine G_X5_125 hC m_5 (dk d_X5_layRight 3 rfl) 6 rfl ?_
  obtain ⟨q1, hq1, h⟩ := bd_some h
  refine K_X5_188 [vi a2, vi (gI w 510 0)] hC m_5 (s_X5_row (xG x) (xl x) N a2 (gI w 510 0) w q1 hq1) (Nat.le_of_ble_eq_true rfl) rfl rfl rfl (Nat.le_of_ble_eq_true rfl) (dk d_X5_layRight 4 rfl) 9 rfl ?_
  refine Z_pop hC (dk d_X5_layRight 5 rfl) 10 rfl rfl ?_
  refine Z_iconst (v := 0) hC (dk d_X5_layRight 6 rfl) 11 rfl (by decide) ?_
  refine Z_istore_n hC (dk d_X5_layRight 7 rfl) 12 rfl rfl (Nat.le_of_ble_eq_true rfl) [some (vr 5 0), some (vi a1), some (vi a2), some (vi (0 : Int32))] rfl ?_
  obtain ⟨q4, hq4, h⟩ := bd_some h
  refine Z_wk [true, true, true, true] [some (vr 5 0), some (vi a1), some (vi a2), some (vi (0 : Int32))] rfl ?_
  refine z_X5_layRight_L1 hC hr N a1 a2 N (0 : Int32) q1.2 q4 hq4 ?_
  obtain rfl := Option.some.inj h
  exact Z_return (st := []) hC hr hQ (dk d_X5_layRight 22 rfl)
def t_X5_nth : List (Nat × Instr × Nat) := [(0, .iload_n 1, 1), (1, .ifCond .lt 10, 3), (4, .iload_n 2, 1), (5, .invokestatic 76, 3), (8, .ifCond .ne 5, 3), (11, .iconst (-1), 1), (12, .ireturn, 1), (13, .aload_n 0, 1), (14, .invokevirtual 185, 3), (17, .iload_n 1, 1), (18, .aload_n 0, 1), (19, .getfield 175, 3), (22, .if_icmp .lt 9, 3), (25, .aload_n 0, 1), (26, .iconst 4, 1), (27, .invokevirtual 80, 3), (30, .ireturn, 1), (31, .aload_n 0, 1), (32, .iload_n 1, 1), (33, .iload_n 2, 1), (34, .invokevirtual 194, 3), (37, .iconst 1, 1), (38, .ireturn, 1)]
set_option maxRecDepth 20000 in
theorem d_X5_nth : ∀ q ∈ t_X5_nth, decode cX5_nth q.1 = .ok q.2 := by decide +kernel
noncomputable def f_X5_nth (N : Nat) (a1 : Int32) (a2 : Int32) (w : Wd) : Option (Int32 × Wd) :=
  if a1 < 0 then
    some ((-1 : Int32), w)
  else
    (f_X5_isRow N a2 w).bind (fun q1 =>
      if q1.1 = 0 then
        some ((-1 : Int32), q1.2)
      else
        (f_X5_setRights N q1.2).bind (fun q2 =>
          if a1 < (gI q2 522 0) then
            (f_X5_layRight N a1 a2 q2).bind (fun q3 =>
              some ((1 : Int32), q3))
          else
            (f_X5_meet N (4 : Int32) q2).bind (fun q4 =>
              some (q4.1, q4.2))))
set_option maxRecDepth 20000 in
set_option maxHeartbeats 4000000 in
theorem s_X5_nth (G : GT) (l : Launch) (N : Nat) (a1 : Int32) (a2 : Int32) (w : Wd) (q : Int32 × Wd) (h : f_X5_nth N a1 a2 w = some q) : Sp G l yX5_nth cw_X5_nth 13 [vr 5 0, vi a1, vi a2] w (some (vi q.1)) q.2 := by
  refine Sp_of (own := RX5) [some (vr 5 0), some (vi a1), some (vi a2)] (by decide) rfl rfl (Nat.le_of_ble_eq_true rfl) ?_
  intro x hG hl hC hr hQ _ _
  subst hG
  subst hl
  unfold f_X5_nth at h
  refine Z_iload_n hC (dk d_X5_nth 0 rfl) 1 rfl rfl rfl ?_
  refine Z_if_lt hC (dk d_X5_nth 1 rfl) 4 11 rfl (by decide) (fun c => ?_) (fun c => ?_)
  · have h := it_t h c
    refine Z_iconst (v := -1) hC (dk d_X5_nth 5 rfl) 12 rfl (by decide) ?_
    obtain rfl := Option.some.inj h
    exact Z_ireturn (st := []) hC hr hQ (dk d_X5_nth 6 rfl)
  · have h := it_f h c
    refine Z_iload_n hC (dk d_X5_nth 2 rfl) 5 rfl rfl rfl ?_
    obtain ⟨q1, hq1, h⟩ := bd_some h
    refine K_X5_76 [vi a2] hC (s_X5_isRow (xG x) (xl x) N a2 w q1 hq1) (Nat.le_of_ble_eq_true rfl) rfl rfl rfl (Nat.le_of_ble_eq_true rfl) (dk d_X5_nth 3 rfl) 8 rfl ?_
    refine Z_if_ne hC (dk d_X5_nth 4 rfl) 11 13 rfl (by decide) (fun c => ?_) (fun c => ?_)
    · have h := it_f h c
      refine Z_aload_n hC (dk d_X5_nth 7 rfl) 14 rfl rfl rfl ?_
      obtain ⟨q2, hq2, h⟩ := bd_some h
      refine K_X5_185 [] hC m_5 (s_X5_setRights (xG x) (xl x) N q1.2 q2 hq2) (Nat.le_of_ble_eq_true rfl) rfl rfl rfl (Nat.le_of_ble_eq_true rfl) (dk d_X5_nth 8 rfl) 17 rfl ?_
      refine Z_iload_n hC (dk d_X5_nth 9 rfl) 18 rfl rfl rfl ?_
      refine Z_aload_n hC (dk d_X5_nth 10 rfl) 19 rfl rfl rfl ?_
      refine G_X5_175 hC m_5 (dk d_X5_nth 11 rfl) 22 rfl ?_
      refine Z_icmp_lt hC (dk d_X5_nth 12 rfl) 25 31 rfl (by decide) (fun c => ?_) (fun c => ?_)
      · have h := it_t h c
        refine Z_aload_n hC (dk d_X5_nth 17 rfl) 32 rfl rfl rfl ?_
        refine Z_iload_n hC (dk d_X5_nth 18 rfl) 33 rfl rfl rfl ?_
        refine Z_iload_n hC (dk d_X5_nth 19 rfl) 34 rfl rfl rfl ?_
        obtain ⟨q3, hq3, h⟩ := bd_some h
        refine K_X5_194 [vi a1, vi a2] hC m_5 (s_X5_layRight (xG x) (xl x) N a1 a2 q2 q3 hq3) (Nat.le_of_ble_eq_true rfl) rfl rfl rfl (Nat.le_of_ble_eq_true rfl) (dk d_X5_nth 20 rfl) 37 rfl ?_
        refine Z_iconst (v := 1) hC (dk d_X5_nth 21 rfl) 38 rfl (by decide) ?_
        obtain rfl := Option.some.inj h
        exact Z_ireturn (st := []) hC hr hQ (dk d_X5_nth 22 rfl)
      · have h := it_f h c
        refine Z_aload_n hC (dk d_X5_nth 13 rfl) 26 rfl rfl rfl ?_
        refine Z_iconst (v := 4) hC (dk d_X5_nth 14 rfl) 27 rfl (by decide) ?_
        obtain ⟨q4, hq4, h⟩ := bd_some h
        refine K_X5_80 [vi (4 : Int32)] hC m_5 (s_X5_meet (xG x) (xl x) N (4 : Int32) q2 q4 hq4) (Nat.le_of_ble_eq_true rfl) rfl rfl rfl (Nat.le_of_ble_eq_true rfl) (dk d_X5_nth 15 rfl) 30 rfl ?_
        obtain rfl := Option.some.inj h
        exact Z_ireturn (st := []) hC hr hQ (dk d_X5_nth 16 rfl)
    · have h := it_t h c
      refine Z_iconst (v := -1) hC (dk d_X5_nth 5 rfl) 12 rfl (by decide) ?_
      obtain rfl := Option.some.inj h
      exact Z_ireturn (st := []) hC hr hQ (dk d_X5_nth 6 rfl)
def t_X5_numberOf : List (Nat × Instr × Nat) := [(0, .aload_n 0, 1), (1, .invokevirtual 185, 3), (4, .iconst 0, 1), (5, .istore_n 2, 1), (6, .iload_n 2, 1), (7, .aload_n 0, 1), (8, .getfield 175, 3), (11, .if_icmp .ge 62, 3), (14, .iconst 1, 1), (15, .istore_n 3, 1), (16, .iconst 0, 1), (17, .istore 4, 2), (19, .iload 4, 2), (21, .aload_n 0, 1), (22, .getfield 125, 3), (25, .if_icmp .ge 36, 3), (28, .iload_n 3, 1), (29, .ifCond .eq 24, 3), (32, .aload_n 0, 1), (33, .iload_n 2, 1), (34, .iload 4, 2), (36, .invokevirtual 191, 3), (39, .aload_n 0, 1), (40, .iload_n 1, 1), (41, .iload 4, 2), (43, .invokevirtual 94, 3), (46, .if_icmp .ne 7, 3), (49, .iconst 1, 1), (50, .goto 4, 3), (53, .iconst 0, 1), (54, .istore_n 3, 1), (55, .iinc 4 1, 3), (58, .goto (-39), 3), (61, .iload_n 3, 1), (62, .ifCond .eq 5, 3), (65, .iload_n 2, 1), (66, .ireturn, 1), (67, .iinc 2 1, 3), (70, .goto (-64), 3), (73, .bipush (-9), 2), (75, .ireturn, 1)]
set_option maxRecDepth 20000 in
theorem d_X5_numberOf : ∀ q ∈ t_X5_numberOf, decode cX5_numberOf q.1 = .ok q.2 := by decide +kernel
noncomputable def X5_numberOf_L2 (N : Nat) (x1 : Int32) (x2 : Int32) : Nat → Int32 → Int32 → Wd → Option (Int32 × Wd)
  | 0, _, _, _ => none
  | n + 1, x3, x4, w =>
  if (gI w 510 0) ≤ x4 then
    some (x3, w)
  else
    if x3 = 0 then
      X5_numberOf_L2 N x1 x2 n (0 : Int32) (x4 + (1 : Int32)) w
    else
      (f_X5_right N x2 x4 w).bind (fun q2 =>
        (f_X5_rowAt N x1 x4 q2.2).bind (fun q3 =>
          if q2.1 = q3.1 then
            X5_numberOf_L2 N x1 x2 n (1 : Int32) (x4 + (1 : Int32)) q3.2
          else
            X5_numberOf_L2 N x1 x2 n (0 : Int32) (x4 + (1 : Int32)) q3.2))
set_option maxRecDepth 20000 in
set_option maxHeartbeats 4000000 in
theorem z_X5_numberOf_L2 {x : CX} (hC : Cx x RX5 cX5_numberOf 5 13) (hr : (xM x).sig.returnType = (some .int)) (N : Nat) (x1 : Int32) (x2 : Int32) : ∀ (n : Nat) (x3 : Int32) (x4 : Int32) (w : Wd) (q : (Int32 × Wd)), X5_numberOf_L2 N x1 x2 n x3 x4 w = some q → Z x 61 [some (vr 5 0), some (vi x1), some (vi x2), some (vi q.1), none] [] q.2 → Z x 19 [some (vr 5 0), some (vi x1), some (vi x2), some (vi x3), some (vi x4)] [] w := by
  intro n
  induction n with
  | zero =>
    intro x3 x4 w q h
    cases h
  | succ n ih =>
    intro x3 x4 w q h ke
    rw [X5_numberOf_L2] at h
    refine Z_iload hC (dk d_X5_numberOf 12 rfl) 21 rfl rfl ?_
    refine Z_aload_n hC (dk d_X5_numberOf 13 rfl) 22 rfl rfl rfl ?_
    refine G_X5_125 hC m_5 (dk d_X5_numberOf 14 rfl) 25 rfl ?_
    refine Z_icmp_ge hC (dk d_X5_numberOf 15 rfl) 28 61 rfl (by decide) (fun c => ?_) (fun c => ?_)
    · have h := it_t h c
      obtain rfl := Option.some.inj h
      refine Z_wk [true, true, true, true, false] [some (vr 5 0), some (vi x1), some (vi x2), some (vi x3), none] rfl ?_
      exact ke
    · have h := it_f h c
      refine Z_iload_n hC (dk d_X5_numberOf 16 rfl) 29 rfl rfl rfl ?_
      refine Z_if_eq hC (dk d_X5_numberOf 17 rfl) 32 53 rfl (by decide) (fun c => ?_) (fun c => ?_)
      · have h := it_t h c
        refine Z_iconst (v := 0) hC (dk d_X5_numberOf 29 rfl) 54 rfl (by decide) ?_
        refine Z_istore_n hC (dk d_X5_numberOf 30 rfl) 55 rfl rfl (Nat.le_of_ble_eq_true rfl) [some (vr 5 0), some (vi x1), some (vi x2), some (vi (0 : Int32)), some (vi x4)] rfl ?_
        refine Z_iinc hC (dk d_X5_numberOf 31 rfl) 58 rfl rfl rfl [some (vr 5 0), some (vi x1), some (vi x2), some (vi (0 : Int32)), some (vi (x4 + (1 : Int32)))] rfl ?_
        refine Z_goto hC (dk d_X5_numberOf 32 rfl) 19 (by decide) ?_
        refine Z_wk [true, true, true, true, true] [some (vr 5 0), some (vi x1), some (vi x2), some (vi (0 : Int32)), some (vi (x4 + (1 : Int32)))] rfl ?_
        exact ih (0 : Int32) (x4 + (1 : Int32)) w _ h ke
      · have h := it_f h c
        refine Z_aload_n hC (dk d_X5_numberOf 18 rfl) 33 rfl rfl rfl ?_
        refine Z_iload_n hC (dk d_X5_numberOf 19 rfl) 34 rfl rfl rfl ?_
        refine Z_iload hC (dk d_X5_numberOf 20 rfl) 36 rfl rfl ?_
        obtain ⟨q2, hq2, h⟩ := bd_some h
        refine K_X5_191 [vi x2, vi x4] hC m_5 (s_X5_right (xG x) (xl x) N x2 x4 w q2 hq2) (Nat.le_of_ble_eq_true rfl) rfl rfl rfl (Nat.le_of_ble_eq_true rfl) (dk d_X5_numberOf 21 rfl) 39 rfl ?_
        refine Z_aload_n hC (dk d_X5_numberOf 22 rfl) 40 rfl rfl rfl ?_
        refine Z_iload_n hC (dk d_X5_numberOf 23 rfl) 41 rfl rfl rfl ?_
        refine Z_iload hC (dk d_X5_numberOf 24 rfl) 43 rfl rfl ?_
        obtain ⟨q3, hq3, h⟩ := bd_some h
        refine K_X5_94 [vi x1, vi x4] hC m_5 (s_X5_rowAt (xG x) (xl x) N x1 x4 q2.2 q3 hq3) (Nat.le_of_ble_eq_true rfl) rfl rfl rfl (Nat.le_of_ble_eq_true rfl) (dk d_X5_numberOf 25 rfl) 46 rfl ?_
        refine Z_icmp_ne hC (dk d_X5_numberOf 26 rfl) 49 53 rfl (by decide) (fun c => ?_) (fun c => ?_)
        · have h := it_f h c
          refine Z_iconst (v := 0) hC (dk d_X5_numberOf 29 rfl) 54 rfl (by decide) ?_
          refine Z_istore_n hC (dk d_X5_numberOf 30 rfl) 55 rfl rfl (Nat.le_of_ble_eq_true rfl) [some (vr 5 0), some (vi x1), some (vi x2), some (vi (0 : Int32)), some (vi x4)] rfl ?_
          refine Z_iinc hC (dk d_X5_numberOf 31 rfl) 58 rfl rfl rfl [some (vr 5 0), some (vi x1), some (vi x2), some (vi (0 : Int32)), some (vi (x4 + (1 : Int32)))] rfl ?_
          refine Z_goto hC (dk d_X5_numberOf 32 rfl) 19 (by decide) ?_
          refine Z_wk [true, true, true, true, true] [some (vr 5 0), some (vi x1), some (vi x2), some (vi (0 : Int32)), some (vi (x4 + (1 : Int32)))] rfl ?_
          exact ih (0 : Int32) (x4 + (1 : Int32)) q3.2 _ h ke
        · have h := it_t h c
          refine Z_iconst (v := 1) hC (dk d_X5_numberOf 27 rfl) 50 rfl (by decide) ?_
          refine Z_goto hC (dk d_X5_numberOf 28 rfl) 54 (by decide) ?_
          refine Z_istore_n hC (dk d_X5_numberOf 30 rfl) 55 rfl rfl (Nat.le_of_ble_eq_true rfl) [some (vr 5 0), some (vi x1), some (vi x2), some (vi (1 : Int32)), some (vi x4)] rfl ?_
          refine Z_iinc hC (dk d_X5_numberOf 31 rfl) 58 rfl rfl rfl [some (vr 5 0), some (vi x1), some (vi x2), some (vi (1 : Int32)), some (vi (x4 + (1 : Int32)))] rfl ?_
          refine Z_goto hC (dk d_X5_numberOf 32 rfl) 19 (by decide) ?_
          refine Z_wk [true, true, true, true, true] [some (vr 5 0), some (vi x1), some (vi x2), some (vi (1 : Int32)), some (vi (x4 + (1 : Int32)))] rfl ?_
          exact ih (1 : Int32) (x4 + (1 : Int32)) q3.2 _ h ke
noncomputable def X5_numberOf_L1 (N : Nat) (x1 : Int32) : Nat → Int32 → Wd → Option ((Int32 × Wd) ⊕ (Wd))
  | 0, _, _ => none
  | n + 1, x2, w =>
  if (gI w 522 0) ≤ x2 then
    some (.inr w)
  else
    (X5_numberOf_L2 N x1 x2 N (1 : Int32) (0 : Int32) w).bind (fun q4 =>
      if q4.1 = 0 then
        X5_numberOf_L1 N x1 n (x2 + (1 : Int32)) q4.2
      else
        some (.inl (x2, q4.2)))
set_option maxRecDepth 20000 in
set_option maxHeartbeats 4000000 in
theorem z_X5_numberOf_L1 {x : CX} (hC : Cx x RX5 cX5_numberOf 5 13) (hr : (xM x).sig.returnType = (some .int)) (N : Nat) (x1 : Int32) : ∀ (n : Nat) (x2 : Int32) (w : Wd) (q : ((Int32 × Wd) ⊕ (Wd))), X5_numberOf_L1 N x1 n x2 w = some q → (∀ r : Int32 × Wd, q = .inl r → Rt x (some (vi r.1)) r.2) → (∀ o : Wd, q = .inr o → Z x 73 [none, none, none, none, none] [] o) → Z x 6 [some (vr 5 0), some (vi x1), some (vi x2), none, none] [] w := by
  intro n
  induction n with
  | zero =>
    intro x2 w q h
    cases h
  | succ n ih =>
    intro x2 w q h kr ke
    rw [X5_numberOf_L1] at h
    refine Z_iload_n hC (dk d_X5_numberOf 4 rfl) 7 rfl rfl rfl ?_
    refine Z_aload_n hC (dk d_X5_numberOf 5 rfl) 8 rfl rfl rfl ?_
    refine G_X5_175 hC m_5 (dk d_X5_numberOf 6 rfl) 11 rfl ?_
    refine Z_icmp_ge hC (dk d_X5_numberOf 7 rfl) 14 73 rfl (by decide) (fun c => ?_) (fun c => ?_)
    · have h := it_t h c
      obtain rfl := Option.some.inj h
      refine Z_wk [false, false, false, false, false] [none, none, none, none, none] rfl ?_
      exact ke _ rfl
    · have h := it_f h c
      refine Z_iconst (v := 1) hC (dk d_X5_numberOf 8 rfl) 15 rfl (by decide) ?_
      refine Z_istore_n hC (dk d_X5_numberOf 9 rfl) 16 rfl rfl (Nat.le_of_ble_eq_true rfl) [some (vr 5 0), some (vi x1), some (vi x2), some (vi (1 : Int32)), none] rfl ?_
      refine Z_iconst (v := 0) hC (dk d_X5_numberOf 10 rfl) 17 rfl (by decide) ?_
      refine Z_istore hC (dk d_X5_numberOf 11 rfl) 19 rfl (Nat.le_of_ble_eq_true rfl) [some (vr 5 0), some (vi x1), some (vi x2), some (vi (1 : Int32)), some (vi (0 : Int32))] rfl ?_
      obtain ⟨q4, hq4, h⟩ := bd_some h
      refine Z_wk [true, true, true, true, true] [some (vr 5 0), some (vi x1), some (vi x2), some (vi (1 : Int32)), some (vi (0 : Int32))] rfl ?_
      refine z_X5_numberOf_L2 hC hr N x1 x2 N (1 : Int32) (0 : Int32) w q4 hq4 ?_
      refine Z_iload_n hC (dk d_X5_numberOf 33 rfl) 62 rfl rfl rfl ?_
      refine Z_if_eq hC (dk d_X5_numberOf 34 rfl) 65 67 rfl (by decide) (fun c => ?_) (fun c => ?_)
      · have h := it_t h c
        refine Z_iinc hC (dk d_X5_numberOf 37 rfl) 70 rfl rfl rfl [some (vr 5 0), some (vi x1), some (vi (x2 + (1 : Int32))), some (vi q4.1), none] rfl ?_
        refine Z_goto hC (dk d_X5_numberOf 38 rfl) 6 (by decide) ?_
        refine Z_wk [true, true, true, false, false] [some (vr 5 0), some (vi x1), some (vi (x2 + (1 : Int32))), none, none] rfl ?_
        exact ih (x2 + (1 : Int32)) q4.2 _ h kr ke
      · have h := it_f h c
        refine Z_iload_n hC (dk d_X5_numberOf 35 rfl) 66 rfl rfl rfl ?_
        obtain rfl := Option.some.inj h
        exact Z_ireturn (st := []) hC hr (kr _ rfl) (dk d_X5_numberOf 36 rfl)
noncomputable def f_X5_numberOf (N : Nat) (a1 : Int32) (w : Wd) : Option (Int32 × Wd) :=
  (f_X5_setRights N w).bind (fun q1 =>
    (X5_numberOf_L1 N a1 N (0 : Int32) q1).bind (Sum.elim some (fun q5 =>
      some ((-9 : Int32), q5))))
set_option maxRecDepth 20000 in
set_option maxHeartbeats 4000000 in
theorem s_X5_numberOf (G : GT) (l : Launch) (N : Nat) (a1 : Int32) (w : Wd) (q : Int32 × Wd) (h : f_X5_numberOf N a1 w = some q) : Sp G l yX5_numberOf cw_X5_numberOf 13 [vr 5 0, vi a1] w (some (vi q.1)) q.2 := by
  refine Sp_of (own := RX5) [some (vr 5 0), some (vi a1), none, none, none] (by decide) rfl rfl (Nat.le_of_ble_eq_true rfl) ?_
  intro x hG hl hC hr hQ _ _
  subst hG
  subst hl
  unfold f_X5_numberOf at h
  refine Z_aload_n hC (dk d_X5_numberOf 0 rfl) 1 rfl rfl rfl ?_
  obtain ⟨q1, hq1, h⟩ := bd_some h
  refine K_X5_185 [] hC m_5 (s_X5_setRights (xG x) (xl x) N w q1 hq1) (Nat.le_of_ble_eq_true rfl) rfl rfl rfl (Nat.le_of_ble_eq_true rfl) (dk d_X5_numberOf 1 rfl) 4 rfl ?_
  refine Z_iconst (v := 0) hC (dk d_X5_numberOf 2 rfl) 5 rfl (by decide) ?_
  refine Z_istore_n hC (dk d_X5_numberOf 3 rfl) 6 rfl rfl (Nat.le_of_ble_eq_true rfl) [some (vr 5 0), some (vi a1), some (vi (0 : Int32)), none, none] rfl ?_
  obtain ⟨q5, hq5, h⟩ := bd_some h
  refine Z_wk [true, true, true, false, false] [some (vr 5 0), some (vi a1), some (vi (0 : Int32)), none, none] rfl ?_
  refine z_X5_numberOf_L1 hC hr N a1 N (0 : Int32) q1 q5 hq5 (fun r e => ?_) (fun o e => ?_)
  · subst e
    obtain rfl := Option.some.inj h
    exact hQ
  · subst e
    obtain ⟨q5, rfl⟩ : ∃ z, z = o := ⟨_, rfl⟩
    refine Z_bipush (v := -9) hC (dk d_X5_numberOf 39 rfl) 75 rfl (by decide) ?_
    obtain rfl := Option.some.inj h
    exact Z_ireturn (st := []) hC hr hQ (dk d_X5_numberOf 40 rfl)
def t_X5_number : List (Nat × Instr × Nat) := [(0, .aload_n 0, 1), (1, .iload_n 1, 1), (2, .invokevirtual 169, 3), (5, .istore_n 2, 1), (6, .iload_n 2, 1), (7, .ifCond .ge 7, 3), (10, .iload_n 2, 1), (11, .goto 8, 3), (14, .aload_n 0, 1), (15, .iload_n 1, 1), (16, .invokevirtual 198, 3), (19, .ireturn, 1)]
set_option maxRecDepth 20000 in
theorem d_X5_number : ∀ q ∈ t_X5_number, decode cX5_number q.1 = .ok q.2 := by decide +kernel
noncomputable def f_X5_number (N : Nat) (a1 : Int32) (w : Wd) : Option (Int32 × Wd) :=
  (f_X5_askedDrawing N a1 w).bind (fun q1 =>
    if 0 ≤ q1.1 then
      (f_X5_numberOf N a1 q1.2).bind (fun q2 =>
        some (q2.1, q2.2))
    else
      some (q1.1, q1.2))
set_option maxRecDepth 20000 in
set_option maxHeartbeats 4000000 in
theorem s_X5_number (G : GT) (l : Launch) (N : Nat) (a1 : Int32) (w : Wd) (q : Int32 × Wd) (h : f_X5_number N a1 w = some q) : Sp G l yX5_number cw_X5_number 14 [vr 5 0, vi a1] w (some (vi q.1)) q.2 := by
  refine Sp_of (own := RX5) [some (vr 5 0), some (vi a1), none] (by decide) rfl rfl (Nat.le_of_ble_eq_true rfl) ?_
  intro x hG hl hC hr hQ _ _
  subst hG
  subst hl
  unfold f_X5_number at h
  refine Z_aload_n hC (dk d_X5_number 0 rfl) 1 rfl rfl rfl ?_
  refine Z_iload_n hC (dk d_X5_number 1 rfl) 2 rfl rfl rfl ?_
  obtain ⟨q1, hq1, h⟩ := bd_some h
  refine K_X5_169 [vi a1] hC m_5 (s_X5_askedDrawing (xG x) (xl x) N a1 w q1 hq1) (Nat.le_of_ble_eq_true rfl) rfl rfl rfl (Nat.le_of_ble_eq_true rfl) (dk d_X5_number 2 rfl) 5 rfl ?_
  refine Z_istore_n hC (dk d_X5_number 3 rfl) 6 rfl rfl (Nat.le_of_ble_eq_true rfl) [some (vr 5 0), some (vi a1), some (vi q1.1)] rfl ?_
  refine Z_iload_n hC (dk d_X5_number 4 rfl) 7 rfl rfl rfl ?_
  refine Z_if_ge hC (dk d_X5_number 5 rfl) 10 14 rfl (by decide) (fun c => ?_) (fun c => ?_)
  · have h := it_t h c
    refine Z_aload_n hC (dk d_X5_number 8 rfl) 15 rfl rfl rfl ?_
    refine Z_iload_n hC (dk d_X5_number 9 rfl) 16 rfl rfl rfl ?_
    obtain ⟨q2, hq2, h⟩ := bd_some h
    refine K_X5_198 [vi a1] hC m_5 (s_X5_numberOf (xG x) (xl x) N a1 q1.2 q2 hq2) (Nat.le_of_ble_eq_true rfl) rfl rfl rfl (Nat.le_of_ble_eq_true rfl) (dk d_X5_number 10 rfl) 19 rfl ?_
    obtain rfl := Option.some.inj h
    exact Z_ireturn (st := []) hC hr hQ (dk d_X5_number 11 rfl)
  · have h := it_f h c
    refine Z_iload_n hC (dk d_X5_number 6 rfl) 11 rfl rfl rfl ?_
    refine Z_goto hC (dk d_X5_number 7 rfl) 19 (by decide) ?_
    obtain rfl := Option.some.inj h
    exact Z_ireturn (st := []) hC hr hQ (dk d_X5_number 11 rfl)
def t_X5_isSeed : List (Nat × Instr × Nat) := [(0, .iload_n 0, 1), (1, .iconst 1, 1), (2, .ldc 201, 2), (4, .invokestatic 72, 3), (7, .ireturn, 1)]
set_option maxRecDepth 20000 in
theorem d_X5_isSeed : ∀ q ∈ t_X5_isSeed, decode cX5_isSeed q.1 = .ok q.2 := by decide +kernel
noncomputable def f_X5_isSeed (N : Nat) (a1 : Int32) (w : Wd) : Option (Int32 × Wd) :=
  (f_X5_in N a1 (1 : Int32) (2147483646 : Int32) w).bind (fun q1 =>
    gd (q1.1 = 0 ∨ q1.1 = 1) (some (q1.1, q1.2)))
set_option maxRecDepth 20000 in
set_option maxHeartbeats 4000000 in
theorem s_X5_isSeed (G : GT) (l : Launch) (N : Nat) (a1 : Int32) (w : Wd) (q : Int32 × Wd) (h : f_X5_isSeed N a1 w = some q) : Sp G l yX5_isSeed cw_X5_isSeed 1 [vi a1] w (some (vi q.1)) q.2 := by
  refine Sp_of (own := RX5) [some (vi a1)] (by decide) rfl rfl (Nat.le_of_ble_eq_true rfl) ?_
  intro x hG hl hC hr hQ _ _
  subst hG
  subst hl
  unfold f_X5_isSeed at h
  refine Z_iload_n hC (dk d_X5_isSeed 0 rfl) 1 rfl rfl rfl ?_
  refine Z_iconst (v := 1) hC (dk d_X5_isSeed 1 rfl) 2 rfl (by decide) ?_
  refine Z_ldc hC kc_X5_201 (dk d_X5_isSeed 2 rfl) 4 rfl ?_
  obtain ⟨q1, hq1, h⟩ := bd_some h
  refine K_X5_72 [vi a1, vi (1 : Int32), vi (2147483646 : Int32)] hC (s_X5_in (xG x) (xl x) N a1 (1 : Int32) (2147483646 : Int32) w q1 hq1) (Nat.le_of_ble_eq_true rfl) rfl rfl rfl (Nat.le_of_ble_eq_true rfl) (dk d_X5_isSeed 3 rfl) 7 rfl ?_
  obtain ⟨g2, h⟩ := gd_some h
  obtain rfl := Option.some.inj h
  exact Z_zreturn (st := []) hC hr (nz g2) hQ (dk d_X5_isSeed 4 rfl)
def t_X5_lot : List (Nat × Instr × Nat) := [(0, .iload_n 1, 1), (1, .invokestatic 202, 3), (4, .ifCond .eq 10, 3), (7, .iload_n 2, 1), (8, .invokestatic 76, 3), (11, .ifCond .ne 5, 3), (14, .iconst (-1), 1), (15, .ireturn, 1), (16, .aload_n 0, 1), (17, .invokevirtual 185, 3), (20, .aload_n 0, 1), (21, .getfield 175, 3), (24, .ifCond .ne 9, 3), (27, .aload_n 0, 1), (28, .iconst 4, 1), (29, .invokevirtual 80, 3), (32, .ireturn, 1), (33, .ldc2_w 205, 3), (36, .iload_n 1, 1), (37, .i2l, 1), (38, .lmul, 1), (39, .ldc2_w 207, 3), (42, .lrem, 1), (43, .aload_n 0, 1), (44, .getfield 175, 3), (47, .i2l, 1), (48, .lrem, 1), (49, .l2i, 1), (50, .istore_n 3, 1), (51, .aload_n 0, 1), (52, .iload_n 3, 1), (53, .iload_n 2, 1), (54, .invokevirtual 194, 3), (57, .iload_n 3, 1), (58, .ireturn, 1)]
set_option maxRecDepth 20000 in
theorem d_X5_lot : ∀ q ∈ t_X5_lot, decode cX5_lot q.1 = .ok q.2 := by decide +kernel
noncomputable def f_X5_lot (N : Nat) (a1 : Int32) (a2 : Int32) (w : Wd) : Option (Int32 × Wd) :=
  (f_X5_isSeed N a1 w).bind (fun q1 =>
    if q1.1 = 0 then
      some ((-1 : Int32), q1.2)
    else
      (f_X5_isRow N a2 q1.2).bind (fun q2 =>
        if q2.1 = 0 then
          some ((-1 : Int32), q2.2)
        else
          (f_X5_setRights N q2.2).bind (fun q3 =>
            if (gI q3 522 0) = 0 then
              (f_X5_meet N (4 : Int32) q3).bind (fun q7 =>
                some (q7.1, q7.2))
            else
              gd (¬ (2147483647 : Int64) = 0) (
              gd (¬ ((gI q3 522 0).toInt64) = 0) (
              (f_X5_layRight N (((((48271 : Int64) * a1.toInt64) - ((48271 : Int64) * a1.toInt64) / (2147483647 : Int64) * (2147483647 : Int64)) - (((48271 : Int64) * a1.toInt64) - ((48271 : Int64) * a1.toInt64) / (2147483647 : Int64) * (2147483647 : Int64)) / ((gI q3 522 0).toInt64) * ((gI q3 522 0).toInt64)).toInt32) a2 q3).bind (fun q6 =>
                some (((((48271 : Int64) * a1.toInt64) - ((48271 : Int64) * a1.toInt64) / (2147483647 : Int64) * (2147483647 : Int64)) - (((48271 : Int64) * a1.toInt64) - ((48271 : Int64) * a1.toInt64) / (2147483647 : Int64) * (2147483647 : Int64)) / ((gI q3 522 0).toInt64) * ((gI q3 522 0).toInt64)).toInt32, q6)))))))
set_option maxRecDepth 20000 in
set_option maxHeartbeats 4000000 in
theorem s_X5_lot (G : GT) (l : Launch) (N : Nat) (a1 : Int32) (a2 : Int32) (w : Wd) (q : Int32 × Wd) (h : f_X5_lot N a1 a2 w = some q) : Sp G l yX5_lot cw_X5_lot 13 [vr 5 0, vi a1, vi a2] w (some (vi q.1)) q.2 := by
  refine Sp_of (own := RX5) [some (vr 5 0), some (vi a1), some (vi a2), none] (by decide) rfl rfl (Nat.le_of_ble_eq_true rfl) ?_
  intro x hG hl hC hr hQ _ _
  subst hG
  subst hl
  unfold f_X5_lot at h
  refine Z_iload_n hC (dk d_X5_lot 0 rfl) 1 rfl rfl rfl ?_
  obtain ⟨q1, hq1, h⟩ := bd_some h
  refine K_X5_202 [vi a1] hC (s_X5_isSeed (xG x) (xl x) N a1 w q1 hq1) (Nat.le_of_ble_eq_true rfl) rfl rfl rfl (Nat.le_of_ble_eq_true rfl) (dk d_X5_lot 1 rfl) 4 rfl ?_
  refine Z_if_eq hC (dk d_X5_lot 2 rfl) 7 14 rfl (by decide) (fun c => ?_) (fun c => ?_)
  · have h := it_t h c
    refine Z_iconst (v := -1) hC (dk d_X5_lot 6 rfl) 15 rfl (by decide) ?_
    obtain rfl := Option.some.inj h
    exact Z_ireturn (st := []) hC hr hQ (dk d_X5_lot 7 rfl)
  · have h := it_f h c
    refine Z_iload_n hC (dk d_X5_lot 3 rfl) 8 rfl rfl rfl ?_
    obtain ⟨q2, hq2, h⟩ := bd_some h
    refine K_X5_76 [vi a2] hC (s_X5_isRow (xG x) (xl x) N a2 q1.2 q2 hq2) (Nat.le_of_ble_eq_true rfl) rfl rfl rfl (Nat.le_of_ble_eq_true rfl) (dk d_X5_lot 4 rfl) 11 rfl ?_
    refine Z_if_ne hC (dk d_X5_lot 5 rfl) 14 16 rfl (by decide) (fun c => ?_) (fun c => ?_)
    · have h := it_f h c
      refine Z_aload_n hC (dk d_X5_lot 8 rfl) 17 rfl rfl rfl ?_
      obtain ⟨q3, hq3, h⟩ := bd_some h
      refine K_X5_185 [] hC m_5 (s_X5_setRights (xG x) (xl x) N q2.2 q3 hq3) (Nat.le_of_ble_eq_true rfl) rfl rfl rfl (Nat.le_of_ble_eq_true rfl) (dk d_X5_lot 9 rfl) 20 rfl ?_
      refine Z_aload_n hC (dk d_X5_lot 10 rfl) 21 rfl rfl rfl ?_
      refine G_X5_175 hC m_5 (dk d_X5_lot 11 rfl) 24 rfl ?_
      refine Z_if_ne hC (dk d_X5_lot 12 rfl) 27 33 rfl (by decide) (fun c => ?_) (fun c => ?_)
      · have h := it_f h c
        refine Z_ldc2 hC kc_X5_205 (dk d_X5_lot 17 rfl) 36 rfl ?_
        refine Z_iload_n hC (dk d_X5_lot 18 rfl) 37 rfl rfl rfl ?_
        refine Z_i2l hC (dk d_X5_lot 19 rfl) 38 rfl ?_
        refine Z_lmul hC (dk d_X5_lot 20 rfl) 39 rfl ?_
        refine Z_ldc2 hC kc_X5_207 (dk d_X5_lot 21 rfl) 42 rfl ?_
        obtain ⟨g4, h⟩ := gd_some h
        refine Z_lrem hC (dk d_X5_lot 22 rfl) 43 rfl g4 ?_
        refine Z_aload_n hC (dk d_X5_lot 23 rfl) 44 rfl rfl rfl ?_
        refine G_X5_175 hC m_5 (dk d_X5_lot 24 rfl) 47 rfl ?_
        refine Z_i2l hC (dk d_X5_lot 25 rfl) 48 rfl ?_
        obtain ⟨g5, h⟩ := gd_some h
        refine Z_lrem hC (dk d_X5_lot 26 rfl) 49 rfl g5 ?_
        refine Z_l2i hC (dk d_X5_lot 27 rfl) 50 rfl ?_
        refine Z_istore_n hC (dk d_X5_lot 28 rfl) 51 rfl rfl (Nat.le_of_ble_eq_true rfl) [some (vr 5 0), some (vi a1), some (vi a2), some (vi (((((48271 : Int64) * a1.toInt64) - ((48271 : Int64) * a1.toInt64) / (2147483647 : Int64) * (2147483647 : Int64)) - (((48271 : Int64) * a1.toInt64) - ((48271 : Int64) * a1.toInt64) / (2147483647 : Int64) * (2147483647 : Int64)) / ((gI q3 522 0).toInt64) * ((gI q3 522 0).toInt64)).toInt32))] rfl ?_
        refine Z_aload_n hC (dk d_X5_lot 29 rfl) 52 rfl rfl rfl ?_
        refine Z_iload_n hC (dk d_X5_lot 30 rfl) 53 rfl rfl rfl ?_
        refine Z_iload_n hC (dk d_X5_lot 31 rfl) 54 rfl rfl rfl ?_
        obtain ⟨q6, hq6, h⟩ := bd_some h
        refine K_X5_194 [vi (((((48271 : Int64) * a1.toInt64) - ((48271 : Int64) * a1.toInt64) / (2147483647 : Int64) * (2147483647 : Int64)) - (((48271 : Int64) * a1.toInt64) - ((48271 : Int64) * a1.toInt64) / (2147483647 : Int64) * (2147483647 : Int64)) / ((gI q3 522 0).toInt64) * ((gI q3 522 0).toInt64)).toInt32), vi a2] hC m_5 (s_X5_layRight (xG x) (xl x) N (((((48271 : Int64) * a1.toInt64) - ((48271 : Int64) * a1.toInt64) / (2147483647 : Int64) * (2147483647 : Int64)) - (((48271 : Int64) * a1.toInt64) - ((48271 : Int64) * a1.toInt64) / (2147483647 : Int64) * (2147483647 : Int64)) / ((gI q3 522 0).toInt64) * ((gI q3 522 0).toInt64)).toInt32) a2 q3 q6 hq6) (Nat.le_of_ble_eq_true rfl) rfl rfl rfl (Nat.le_of_ble_eq_true rfl) (dk d_X5_lot 32 rfl) 57 rfl ?_
        refine Z_iload_n hC (dk d_X5_lot 33 rfl) 58 rfl rfl rfl ?_
        obtain rfl := Option.some.inj h
        exact Z_ireturn (st := []) hC hr hQ (dk d_X5_lot 34 rfl)
      · have h := it_t h c
        refine Z_aload_n hC (dk d_X5_lot 13 rfl) 28 rfl rfl rfl ?_
        refine Z_iconst (v := 4) hC (dk d_X5_lot 14 rfl) 29 rfl (by decide) ?_
        obtain ⟨q7, hq7, h⟩ := bd_some h
        refine K_X5_80 [vi (4 : Int32)] hC m_5 (s_X5_meet (xG x) (xl x) N (4 : Int32) q3 q7 hq7) (Nat.le_of_ble_eq_true rfl) rfl rfl rfl (Nat.le_of_ble_eq_true rfl) (dk d_X5_lot 15 rfl) 32 rfl ?_
        obtain rfl := Option.some.inj h
        exact Z_ireturn (st := []) hC hr hQ (dk d_X5_lot 16 rfl)
    · have h := it_t h c
      refine Z_iconst (v := -1) hC (dk d_X5_lot 6 rfl) 15 rfl (by decide) ?_
      obtain rfl := Option.some.inj h
      exact Z_ireturn (st := []) hC hr hQ (dk d_X5_lot 7 rfl)
def t_X5_draw : List (Nat × Instr × Nat) := [(0, .aload_n 0, 1), (1, .iload_n 1, 1), (2, .invokevirtual 137, 3), (5, .ifCond .ne 5, 3), (8, .iconst (-1), 1), (9, .ireturn, 1), (10, .aload_n 0, 1), (11, .getfield 128, 3), (14, .aload_n 0, 1), (15, .getfield 125, 3), (18, .if_icmp .eq 15, 3), (21, .aload_n 0, 1), (22, .aload_n 0, 1), (23, .getfield 128, 3), (26, .iload_n 1, 1), (27, .invokevirtual 150, 3), (30, .ifCond .eq 6, 3), (33, .bipush (-4), 2), (35, .ireturn, 1), (36, .iconst 0, 1), (37, .istore_n 2, 1), (38, .iload_n 2, 1), (39, .aload_n 0, 1), (40, .getfield 128, 3), (43, .if_icmp .ge 22, 3), (46, .aload_n 0, 1), (47, .getfield 54, 3), (50, .iload_n 2, 1), (51, .iaload, 1), (52, .iload_n 1, 1), (53, .if_icmp .ne 6, 3), (56, .bipush (-4), 2), (58, .ireturn, 1), (59, .iinc 2 1, 3), (62, .goto (-24), 3), (65, .iload_n 1, 1), (66, .aload_n 0, 1), (67, .getfield 128, 3), (70, .if_icmp .ge 31, 3), (73, .aload_n 0, 1), (74, .getfield 54, 3), (77, .iload_n 1, 1), (78, .iaload, 1), (79, .aload_n 0, 1), (80, .getfield 128, 3), (83, .if_icmp .ne 18, 3), (86, .aload_n 0, 1), (87, .aload_n 0, 1), (88, .getfield 128, 3), (91, .iload_n 1, 1), (92, .invokevirtual 162, 3), (95, .ifCond .eq 6, 3), (98, .bipush (-4), 2), (100, .ireturn, 1), (101, .aload_n 0, 1), (102, .getfield 54, 3), (105, .aload_n 0, 1), (106, .getfield 128, 3), (109, .iload_n 1, 1), (110, .iastore, 1), (111, .aload_n 0, 1), (112, .dup, 1), (113, .getfield 128, 3), (116, .iconst 1, 1), (117, .iadd, 1), (118, .putfield 128, 3), (121, .aload_n 0, 1), (122, .getfield 128, 3), (125, .ireturn, 1)]
set_option maxRecDepth 20000 in
theorem d_X5_draw : ∀ q ∈ t_X5_draw, decode cX5_draw q.1 = .ok q.2 := by decide +kernel
noncomputable def X5_draw_L1 (N : Nat) (x1 : Int32) : Nat → Int32 → Wd → Option ((Int32 × Wd) ⊕ (Wd))
  | 0, _, _ => none
  | n + 1, x2, w =>
  if (gI w 524 0) ≤ x2 then
    some (.inr w)
  else
    gd (vp_in x2 6) (
    if (gA w 42 0 x2.toNatClampNeg) = x1 then
      some (.inl ((-4 : Int32), w))
    else
      X5_draw_L1 N x1 n (x2 + (1 : Int32)) w)
set_option maxRecDepth 20000 in
set_option maxHeartbeats 4000000 in
theorem z_X5_draw_L1 {x : CX} (hC : Cx x RX5 cX5_draw 3 2) (hr : (xM x).sig.returnType = (some .int)) (N : Nat) (x1 : Int32) : ∀ (n : Nat) (x2 : Int32) (w : Wd) (q : ((Int32 × Wd) ⊕ (Wd))), X5_draw_L1 N x1 n x2 w = some q → (∀ r : Int32 × Wd, q = .inl r → Rt x (some (vi r.1)) r.2) → (∀ o : Wd, q = .inr o → Z x 65 [some (vr 5 0), some (vi x1), none] [] o) → Z x 38 [some (vr 5 0), some (vi x1), some (vi x2)] [] w := by
  intro n
  induction n with
  | zero =>
    intro x2 w q h
    cases h
  | succ n ih =>
    intro x2 w q h kr ke
    rw [X5_draw_L1] at h
    refine Z_iload_n hC (dk d_X5_draw 21 rfl) 39 rfl rfl rfl ?_
    refine Z_aload_n hC (dk d_X5_draw 22 rfl) 40 rfl rfl rfl ?_
    refine G_X5_128 hC m_5 (dk d_X5_draw 23 rfl) 43 rfl ?_
    refine Z_icmp_ge hC (dk d_X5_draw 24 rfl) 46 65 rfl (by decide) (fun c => ?_) (fun c => ?_)
    · have h := it_t h c
      obtain rfl := Option.some.inj h
      refine Z_wk [true, true, false] [some (vr 5 0), some (vi x1), none] rfl ?_
      exact ke _ rfl
    · have h := it_f h c
      refine Z_aload_n hC (dk d_X5_draw 25 rfl) 47 rfl rfl rfl ?_
      refine G_X5_54 hC m_5 (dk d_X5_draw 26 rfl) 50 rfl ?_
      refine Z_iload_n hC (dk d_X5_draw 27 rfl) 51 rfl rfl rfl ?_
      obtain ⟨g3, h⟩ := gd_some h
      refine Z_iaload hC m_42 (by decide) rfl g3 (dk d_X5_draw 28 rfl) 52 rfl ?_
      refine Z_iload_n hC (dk d_X5_draw 29 rfl) 53 rfl rfl rfl ?_
      refine Z_icmp_ne hC (dk d_X5_draw 30 rfl) 56 59 rfl (by decide) (fun c => ?_) (fun c => ?_)
      · have h := it_f h c
        refine Z_iinc hC (dk d_X5_draw 33 rfl) 62 rfl rfl rfl [some (vr 5 0), some (vi x1), some (vi (x2 + (1 : Int32)))] rfl ?_
        refine Z_goto hC (dk d_X5_draw 34 rfl) 38 (by decide) ?_
        refine Z_wk [true, true, true] [some (vr 5 0), some (vi x1), some (vi (x2 + (1 : Int32)))] rfl ?_
        exact ih (x2 + (1 : Int32)) w _ h kr ke
      · have h := it_t h c
        refine Z_bipush (v := -4) hC (dk d_X5_draw 31 rfl) 58 rfl (by decide) ?_
        obtain rfl := Option.some.inj h
        exact Z_ireturn (st := []) hC hr (kr _ rfl) (dk d_X5_draw 32 rfl)
noncomputable def X5_draw_J101 (N : Nat) (x1 : Int32) (w : Wd) : Option (Int32 × Wd) :=
  gd (vp_in (gI w 524 0) 6) (
  some (gI (sI (sA w 42 0 (upd (gA w 42 0) (gI w 524 0).toNatClampNeg x1)) 524 0 ((gI (sA w 42 0 (upd (gA w 42 0) (gI w 524 0).toNatClampNeg x1)) 524 0) + (1 : Int32))) 524 0, sI (sA w 42 0 (upd (gA w 42 0) (gI w 524 0).toNatClampNeg x1)) 524 0 ((gI (sA w 42 0 (upd (gA w 42 0) (gI w 524 0).toNatClampNeg x1)) 524 0) + (1 : Int32))))
set_option maxRecDepth 20000 in
set_option maxHeartbeats 4000000 in
theorem z_X5_draw_J101 {x : CX} (hC : Cx x RX5 cX5_draw 3 2) (hr : (xM x).sig.returnType = (some .int)) (N : Nat) (x1 : Int32) (w : Wd) (q : (Int32 × Wd)) (h : X5_draw_J101 N x1 w = some q) (hQ : Rt x (some (vi q.1)) q.2) : Z x 101 [some (vr 5 0), some (vi x1), none] [] w := by
  unfold X5_draw_J101 at h
  refine Z_aload_n hC (dk d_X5_draw 54 rfl) 102 rfl rfl rfl ?_
  refine G_X5_54 hC m_5 (dk d_X5_draw 55 rfl) 105 rfl ?_
  refine Z_aload_n hC (dk d_X5_draw 56 rfl) 106 rfl rfl rfl ?_
  refine G_X5_128 hC m_5 (dk d_X5_draw 57 rfl) 109 rfl ?_
  refine Z_iload_n hC (dk d_X5_draw 58 rfl) 110 rfl rfl rfl ?_
  obtain ⟨g5, h⟩ := gd_some h
  refine Z_iastore hC m_42 (by decide) rfl g5 (dk d_X5_draw 59 rfl) 111 rfl ?_
  refine Z_aload_n hC (dk d_X5_draw 60 rfl) 112 rfl rfl rfl ?_
  refine Z_dup hC (dk d_X5_draw 61 rfl) 113 rfl rfl ?_
  refine G_X5_128 hC m_5 (dk d_X5_draw 62 rfl) 116 rfl ?_
  refine Z_iconst (v := 1) hC (dk d_X5_draw 63 rfl) 117 rfl (by decide) ?_
  refine Z_iadd hC (dk d_X5_draw 64 rfl) 118 rfl ?_
  refine P_X5_128 hC m_5 (dk d_X5_draw 65 rfl) 121 rfl ?_
  refine Z_aload_n hC (dk d_X5_draw 66 rfl) 122 rfl rfl rfl ?_
  refine G_X5_128 hC m_5 (dk d_X5_draw 67 rfl) 125 rfl ?_
  obtain rfl := Option.some.inj h
  exact Z_ireturn (st := []) hC hr hQ (dk d_X5_draw 68 rfl)
noncomputable def f_X5_draw (N : Nat) (a1 : Int32) (w : Wd) : Option (Int32 × Wd) :=
  (f_X5_isMate N a1 w).bind (fun q1 =>
    if q1.1 = 0 then
      some ((-1 : Int32), q1.2)
    else
      if (gI q1.2 524 0) = (gI q1.2 510 0) then
        some ((-4 : Int32), q1.2)
      else
        (f_X5_barOf N (gI q1.2 524 0) a1 q1.2).bind (fun q2 =>
          if q2.1 = 0 then
            (X5_draw_L1 N a1 N (0 : Int32) q2.2).bind (Sum.elim some (fun q4 =>
              if (gI q4 524 0) ≤ a1 then
                X5_draw_J101 N a1 q4
              else
                gd (vp_in a1 6) (
                if (gA q4 42 0 a1.toNatClampNeg) = (gI q4 524 0) then
                  (f_X5_isBack N (gI q4 524 0) a1 q4).bind (fun q7 =>
                    if q7.1 = 0 then
                      X5_draw_J101 N a1 q7.2
                    else
                      some ((-4 : Int32), q7.2))
                else
                  X5_draw_J101 N a1 q4)))
          else
            some ((-4 : Int32), q2.2)))
set_option maxRecDepth 20000 in
set_option maxHeartbeats 4000000 in
theorem s_X5_draw (G : GT) (l : Launch) (N : Nat) (a1 : Int32) (w : Wd) (q : Int32 × Wd) (h : f_X5_draw N a1 w = some q) : Sp G l yX5_draw cw_X5_draw 2 [vr 5 0, vi a1] w (some (vi q.1)) q.2 := by
  refine Sp_of (own := RX5) [some (vr 5 0), some (vi a1), none] (by decide) rfl rfl (Nat.le_of_ble_eq_true rfl) ?_
  intro x hG hl hC hr hQ _ _
  subst hG
  subst hl
  unfold f_X5_draw at h
  refine Z_aload_n hC (dk d_X5_draw 0 rfl) 1 rfl rfl rfl ?_
  refine Z_iload_n hC (dk d_X5_draw 1 rfl) 2 rfl rfl rfl ?_
  obtain ⟨q1, hq1, h⟩ := bd_some h
  refine K_X5_137 [vi a1] hC m_5 (s_X5_isMate (xG x) (xl x) N a1 w q1 hq1) (Nat.le_of_ble_eq_true rfl) rfl rfl rfl (Nat.le_of_ble_eq_true rfl) (dk d_X5_draw 2 rfl) 5 rfl ?_
  refine Z_if_ne hC (dk d_X5_draw 3 rfl) 8 10 rfl (by decide) (fun c => ?_) (fun c => ?_)
  · have h := it_f h c
    refine Z_aload_n hC (dk d_X5_draw 6 rfl) 11 rfl rfl rfl ?_
    refine G_X5_128 hC m_5 (dk d_X5_draw 7 rfl) 14 rfl ?_
    refine Z_aload_n hC (dk d_X5_draw 8 rfl) 15 rfl rfl rfl ?_
    refine G_X5_125 hC m_5 (dk d_X5_draw 9 rfl) 18 rfl ?_
    refine Z_icmp_eq hC (dk d_X5_draw 10 rfl) 21 33 rfl (by decide) (fun c => ?_) (fun c => ?_)
    · have h := it_t h c
      refine Z_bipush (v := -4) hC (dk d_X5_draw 17 rfl) 35 rfl (by decide) ?_
      obtain rfl := Option.some.inj h
      exact Z_ireturn (st := []) hC hr hQ (dk d_X5_draw 18 rfl)
    · have h := it_f h c
      refine Z_aload_n hC (dk d_X5_draw 11 rfl) 22 rfl rfl rfl ?_
      refine Z_aload_n hC (dk d_X5_draw 12 rfl) 23 rfl rfl rfl ?_
      refine G_X5_128 hC m_5 (dk d_X5_draw 13 rfl) 26 rfl ?_
      refine Z_iload_n hC (dk d_X5_draw 14 rfl) 27 rfl rfl rfl ?_
      obtain ⟨q2, hq2, h⟩ := bd_some h
      refine K_X5_150 [vi (gI q1.2 524 0), vi a1] hC m_5 (s_X5_barOf (xG x) (xl x) N (gI q1.2 524 0) a1 q1.2 q2 hq2) (Nat.le_of_ble_eq_true rfl) rfl rfl rfl (Nat.le_of_ble_eq_true rfl) (dk d_X5_draw 15 rfl) 30 rfl ?_
      refine Z_if_eq hC (dk d_X5_draw 16 rfl) 33 36 rfl (by decide) (fun c => ?_) (fun c => ?_)
      · have h := it_t h c
        refine Z_iconst (v := 0) hC (dk d_X5_draw 19 rfl) 37 rfl (by decide) ?_
        refine Z_istore_n hC (dk d_X5_draw 20 rfl) 38 rfl rfl (Nat.le_of_ble_eq_true rfl) [some (vr 5 0), some (vi a1), some (vi (0 : Int32))] rfl ?_
        obtain ⟨q4, hq4, h⟩ := bd_some h
        refine Z_wk [true, true, true] [some (vr 5 0), some (vi a1), some (vi (0 : Int32))] rfl ?_
        refine z_X5_draw_L1 hC hr N a1 N (0 : Int32) q2.2 q4 hq4 (fun r e => ?_) (fun o e => ?_)
        · subst e
          obtain rfl := Option.some.inj h
          exact hQ
        · subst e
          obtain ⟨q4, rfl⟩ : ∃ z, z = o := ⟨_, rfl⟩
          refine Z_iload_n hC (dk d_X5_draw 35 rfl) 66 rfl rfl rfl ?_
          refine Z_aload_n hC (dk d_X5_draw 36 rfl) 67 rfl rfl rfl ?_
          refine G_X5_128 hC m_5 (dk d_X5_draw 37 rfl) 70 rfl ?_
          refine Z_icmp_ge hC (dk d_X5_draw 38 rfl) 73 101 rfl (by decide) (fun c => ?_) (fun c => ?_)
          · have h := it_t h c
            refine Z_wk [true, true, false] [some (vr 5 0), some (vi a1), none] rfl ?_
            exact z_X5_draw_J101 hC hr N a1 q4 _ h hQ
          · have h := it_f h c
            refine Z_aload_n hC (dk d_X5_draw 39 rfl) 74 rfl rfl rfl ?_
            refine G_X5_54 hC m_5 (dk d_X5_draw 40 rfl) 77 rfl ?_
            refine Z_iload_n hC (dk d_X5_draw 41 rfl) 78 rfl rfl rfl ?_
            obtain ⟨g6, h⟩ := gd_some h
            refine Z_iaload hC m_42 (by decide) rfl g6 (dk d_X5_draw 42 rfl) 79 rfl ?_
            refine Z_aload_n hC (dk d_X5_draw 43 rfl) 80 rfl rfl rfl ?_
            refine G_X5_128 hC m_5 (dk d_X5_draw 44 rfl) 83 rfl ?_
            refine Z_icmp_ne hC (dk d_X5_draw 45 rfl) 86 101 rfl (by decide) (fun c => ?_) (fun c => ?_)
            · have h := it_f h c
              refine Z_wk [true, true, false] [some (vr 5 0), some (vi a1), none] rfl ?_
              exact z_X5_draw_J101 hC hr N a1 q4 _ h hQ
            · have h := it_t h c
              refine Z_aload_n hC (dk d_X5_draw 46 rfl) 87 rfl rfl rfl ?_
              refine Z_aload_n hC (dk d_X5_draw 47 rfl) 88 rfl rfl rfl ?_
              refine G_X5_128 hC m_5 (dk d_X5_draw 48 rfl) 91 rfl ?_
              refine Z_iload_n hC (dk d_X5_draw 49 rfl) 92 rfl rfl rfl ?_
              obtain ⟨q7, hq7, h⟩ := bd_some h
              refine K_X5_162 [vi (gI q4 524 0), vi a1] hC m_5 (s_X5_isBack (xG x) (xl x) N (gI q4 524 0) a1 q4 q7 hq7) (Nat.le_of_ble_eq_true rfl) rfl rfl rfl (Nat.le_of_ble_eq_true rfl) (dk d_X5_draw 50 rfl) 95 rfl ?_
              refine Z_if_eq hC (dk d_X5_draw 51 rfl) 98 101 rfl (by decide) (fun c => ?_) (fun c => ?_)
              · have h := it_t h c
                refine Z_wk [true, true, false] [some (vr 5 0), some (vi a1), none] rfl ?_
                exact z_X5_draw_J101 hC hr N a1 q7.2 _ h hQ
              · have h := it_f h c
                refine Z_bipush (v := -4) hC (dk d_X5_draw 52 rfl) 100 rfl (by decide) ?_
                obtain rfl := Option.some.inj h
                exact Z_ireturn (st := []) hC hr hQ (dk d_X5_draw 53 rfl)
      · have h := it_f h c
        refine Z_bipush (v := -4) hC (dk d_X5_draw 17 rfl) 35 rfl (by decide) ?_
        obtain rfl := Option.some.inj h
        exact Z_ireturn (st := []) hC hr hQ (dk d_X5_draw 18 rfl)
  · have h := it_t h c
    refine Z_iconst (v := -1) hC (dk d_X5_draw 4 rfl) 9 rfl (by decide) ?_
    obtain rfl := Option.some.inj h
    exact Z_ireturn (st := []) hC hr hQ (dk d_X5_draw 5 rfl)
def t_X5_undo : List (Nat × Instr × Nat) := [(0, .iload_n 1, 1), (1, .iconst 0, 1), (2, .aload_n 0, 1), (3, .getfield 128, 3), (6, .invokestatic 72, 3), (9, .ifCond .ne 5, 3), (12, .iconst (-1), 1), (13, .ireturn, 1), (14, .aload_n 0, 1), (15, .getfield 128, 3), (18, .iload_n 1, 1), (19, .isub, 1), (20, .istore_n 2, 1), (21, .aload_n 0, 1), (22, .iload_n 1, 1), (23, .putfield 128, 3), (26, .iload_n 2, 1), (27, .ireturn, 1)]
set_option maxRecDepth 20000 in
theorem d_X5_undo : ∀ q ∈ t_X5_undo, decode cX5_undo q.1 = .ok q.2 := by decide +kernel
noncomputable def f_X5_undo (N : Nat) (a1 : Int32) (w : Wd) : Option (Int32 × Wd) :=
  (f_X5_in N a1 (0 : Int32) (gI w 524 0) w).bind (fun q1 =>
    if q1.1 = 0 then
      some ((-1 : Int32), q1.2)
    else
      some ((gI q1.2 524 0) - a1, sI q1.2 524 0 a1))
set_option maxRecDepth 20000 in
set_option maxHeartbeats 4000000 in
theorem s_X5_undo (G : GT) (l : Launch) (N : Nat) (a1 : Int32) (w : Wd) (q : Int32 × Wd) (h : f_X5_undo N a1 w = some q) : Sp G l yX5_undo cw_X5_undo 1 [vr 5 0, vi a1] w (some (vi q.1)) q.2 := by
  refine Sp_of (own := RX5) [some (vr 5 0), some (vi a1), none] (by decide) rfl rfl (Nat.le_of_ble_eq_true rfl) ?_
  intro x hG hl hC hr hQ _ _
  subst hG
  subst hl
  unfold f_X5_undo at h
  refine Z_iload_n hC (dk d_X5_undo 0 rfl) 1 rfl rfl rfl ?_
  refine Z_iconst (v := 0) hC (dk d_X5_undo 1 rfl) 2 rfl (by decide) ?_
  refine Z_aload_n hC (dk d_X5_undo 2 rfl) 3 rfl rfl rfl ?_
  refine G_X5_128 hC m_5 (dk d_X5_undo 3 rfl) 6 rfl ?_
  obtain ⟨q1, hq1, h⟩ := bd_some h
  refine K_X5_72 [vi a1, vi (0 : Int32), vi (gI w 524 0)] hC (s_X5_in (xG x) (xl x) N a1 (0 : Int32) (gI w 524 0) w q1 hq1) (Nat.le_of_ble_eq_true rfl) rfl rfl rfl (Nat.le_of_ble_eq_true rfl) (dk d_X5_undo 4 rfl) 9 rfl ?_
  refine Z_if_ne hC (dk d_X5_undo 5 rfl) 12 14 rfl (by decide) (fun c => ?_) (fun c => ?_)
  · have h := it_f h c
    refine Z_aload_n hC (dk d_X5_undo 8 rfl) 15 rfl rfl rfl ?_
    refine G_X5_128 hC m_5 (dk d_X5_undo 9 rfl) 18 rfl ?_
    refine Z_iload_n hC (dk d_X5_undo 10 rfl) 19 rfl rfl rfl ?_
    refine Z_isub hC (dk d_X5_undo 11 rfl) 20 rfl ?_
    refine Z_istore_n hC (dk d_X5_undo 12 rfl) 21 rfl rfl (Nat.le_of_ble_eq_true rfl) [some (vr 5 0), some (vi a1), some (vi ((gI q1.2 524 0) - a1))] rfl ?_
    refine Z_aload_n hC (dk d_X5_undo 13 rfl) 22 rfl rfl rfl ?_
    refine Z_iload_n hC (dk d_X5_undo 14 rfl) 23 rfl rfl rfl ?_
    refine P_X5_128 hC m_5 (dk d_X5_undo 15 rfl) 26 rfl ?_
    refine Z_iload_n hC (dk d_X5_undo 16 rfl) 27 rfl rfl rfl ?_
    obtain rfl := Option.some.inj h
    exact Z_ireturn (st := []) hC hr hQ (dk d_X5_undo 17 rfl)
  · have h := it_t h c
    refine Z_iconst (v := -1) hC (dk d_X5_undo 6 rfl) 13 rfl (by decide) ?_
    obtain rfl := Option.some.inj h
    exact Z_ireturn (st := []) hC hr hQ (dk d_X5_undo 7 rfl)
def t_X5_drew : List (Nat × Instr × Nat) := [(0, .aload_n 0, 1), (1, .iload_n 1, 1), (2, .invokevirtual 137, 3), (5, .ifCond .eq 25, 3), (8, .iload_n 1, 1), (9, .aload_n 0, 1), (10, .getfield 128, 3), (13, .if_icmp .ge 12, 3), (16, .aload_n 0, 1), (17, .getfield 54, 3), (20, .iload_n 1, 1), (21, .iaload, 1), (22, .goto 9, 3), (25, .bipush (-9), 2), (27, .goto 4, 3), (30, .iconst (-1), 1), (31, .ireturn, 1)]
set_option maxRecDepth 20000 in
theorem d_X5_drew : ∀ q ∈ t_X5_drew, decode cX5_drew q.1 = .ok q.2 := by decide +kernel
noncomputable def f_X5_drew (N : Nat) (a1 : Int32) (w : Wd) : Option (Int32 × Wd) :=
  (f_X5_isMate N a1 w).bind (fun q1 =>
    if q1.1 = 0 then
      some ((-1 : Int32), q1.2)
    else
      if (gI q1.2 524 0) ≤ a1 then
        some ((-9 : Int32), q1.2)
      else
        gd (vp_in a1 6) (
        some (gA q1.2 42 0 a1.toNatClampNeg, q1.2)))
set_option maxRecDepth 20000 in
set_option maxHeartbeats 4000000 in
theorem s_X5_drew (G : GT) (l : Launch) (N : Nat) (a1 : Int32) (w : Wd) (q : Int32 × Wd) (h : f_X5_drew N a1 w = some q) : Sp G l yX5_drew cw_X5_drew 2 [vr 5 0, vi a1] w (some (vi q.1)) q.2 := by
  refine Sp_of (own := RX5) [some (vr 5 0), some (vi a1)] (by decide) rfl rfl (Nat.le_of_ble_eq_true rfl) ?_
  intro x hG hl hC hr hQ _ _
  subst hG
  subst hl
  unfold f_X5_drew at h
  refine Z_aload_n hC (dk d_X5_drew 0 rfl) 1 rfl rfl rfl ?_
  refine Z_iload_n hC (dk d_X5_drew 1 rfl) 2 rfl rfl rfl ?_
  obtain ⟨q1, hq1, h⟩ := bd_some h
  refine K_X5_137 [vi a1] hC m_5 (s_X5_isMate (xG x) (xl x) N a1 w q1 hq1) (Nat.le_of_ble_eq_true rfl) rfl rfl rfl (Nat.le_of_ble_eq_true rfl) (dk d_X5_drew 2 rfl) 5 rfl ?_
  refine Z_if_eq hC (dk d_X5_drew 3 rfl) 8 30 rfl (by decide) (fun c => ?_) (fun c => ?_)
  · have h := it_t h c
    refine Z_iconst (v := -1) hC (dk d_X5_drew 15 rfl) 31 rfl (by decide) ?_
    obtain rfl := Option.some.inj h
    exact Z_ireturn (st := []) hC hr hQ (dk d_X5_drew 16 rfl)
  · have h := it_f h c
    refine Z_iload_n hC (dk d_X5_drew 4 rfl) 9 rfl rfl rfl ?_
    refine Z_aload_n hC (dk d_X5_drew 5 rfl) 10 rfl rfl rfl ?_
    refine G_X5_128 hC m_5 (dk d_X5_drew 6 rfl) 13 rfl ?_
    refine Z_icmp_ge hC (dk d_X5_drew 7 rfl) 16 25 rfl (by decide) (fun c => ?_) (fun c => ?_)
    · have h := it_t h c
      refine Z_bipush (v := -9) hC (dk d_X5_drew 13 rfl) 27 rfl (by decide) ?_
      refine Z_goto hC (dk d_X5_drew 14 rfl) 31 (by decide) ?_
      obtain rfl := Option.some.inj h
      exact Z_ireturn (st := []) hC hr hQ (dk d_X5_drew 16 rfl)
    · have h := it_f h c
      refine Z_aload_n hC (dk d_X5_drew 8 rfl) 17 rfl rfl rfl ?_
      refine G_X5_54 hC m_5 (dk d_X5_drew 9 rfl) 20 rfl ?_
      refine Z_iload_n hC (dk d_X5_drew 10 rfl) 21 rfl rfl rfl ?_
      obtain ⟨g2, h⟩ := gd_some h
      refine Z_iaload hC m_42 (by decide) rfl g2 (dk d_X5_drew 11 rfl) 22 rfl ?_
      refine Z_goto hC (dk d_X5_drew 12 rfl) 31 (by decide) ?_
      obtain rfl := Option.some.inj h
      exact Z_ireturn (st := []) hC hr hQ (dk d_X5_drew 16 rfl)
def t_X5_begins : List (Nat × Instr × Nat) := [(0, .iconst 1, 1), (1, .istore_n 3, 1), (2, .iconst 0, 1), (3, .istore 4, 2), (5, .iload 4, 2), (7, .iload_n 2, 1), (8, .if_icmp .ge 36, 3), (11, .iload_n 3, 1), (12, .ifCond .eq 24, 3), (15, .aload_n 0, 1), (16, .iload_n 1, 1), (17, .iload 4, 2), (19, .invokevirtual 191, 3), (22, .aload_n 0, 1), (23, .getfield 54, 3), (26, .iload 4, 2), (28, .iaload, 1), (29, .if_icmp .ne 7, 3), (32, .iconst 1, 1), (33, .goto 4, 3), (36, .iconst 0, 1), (37, .istore_n 3, 1), (38, .iinc 4 1, 3), (41, .goto (-36), 3), (44, .iload_n 3, 1), (45, .ireturn, 1)]
set_option maxRecDepth 20000 in
theorem d_X5_begins : ∀ q ∈ t_X5_begins, decode cX5_begins q.1 = .ok q.2 := by decide +kernel
noncomputable def X5_begins_L1 (N : Nat) (x1 : Int32) (x2 : Int32) : Nat → Int32 → Int32 → Wd → Option (Int32 × Wd)
  | 0, _, _, _ => none
  | n + 1, x3, x4, w =>
  if x2 ≤ x4 then
    some (x3, w)
  else
    if x3 = 0 then
      X5_begins_L1 N x1 x2 n (0 : Int32) (x4 + (1 : Int32)) w
    else
      (f_X5_right N x1 x4 w).bind (fun q1 =>
        gd (vp_in x4 6) (
        if q1.1 = (gA q1.2 42 0 x4.toNatClampNeg) then
          X5_begins_L1 N x1 x2 n (1 : Int32) (x4 + (1 : Int32)) q1.2
        else
          X5_begins_L1 N x1 x2 n (0 : Int32) (x4 + (1 : Int32)) q1.2))
set_option maxRecDepth 20000 in
set_option maxHeartbeats 4000000 in
theorem z_X5_begins_L1 {x : CX} (hC : Cx x RX5 cX5_begins 5 1) (hr : (xM x).sig.returnType = (some .boolean)) (N : Nat) (x1 : Int32) (x2 : Int32) : ∀ (n : Nat) (x3 : Int32) (x4 : Int32) (w : Wd) (q : (Int32 × Wd)), X5_begins_L1 N x1 x2 n x3 x4 w = some q → Z x 44 [none, none, none, some (vi q.1), none] [] q.2 → Z x 5 [some (vr 5 0), some (vi x1), some (vi x2), some (vi x3), some (vi x4)] [] w := by
  intro n
  induction n with
  | zero =>
    intro x3 x4 w q h
    cases h
  | succ n ih =>
    intro x3 x4 w q h ke
    rw [X5_begins_L1] at h
    refine Z_iload hC (dk d_X5_begins 4 rfl) 7 rfl rfl ?_
    refine Z_iload_n hC (dk d_X5_begins 5 rfl) 8 rfl rfl rfl ?_
    refine Z_icmp_ge hC (dk d_X5_begins 6 rfl) 11 44 rfl (by decide) (fun c => ?_) (fun c => ?_)
    · have h := it_t h c
      obtain rfl := Option.some.inj h
      refine Z_wk [false, false, false, true, false] [none, none, none, some (vi x3), none] rfl ?_
      exact ke
    · have h := it_f h c
      refine Z_iload_n hC (dk d_X5_begins 7 rfl) 12 rfl rfl rfl ?_
      refine Z_if_eq hC (dk d_X5_begins 8 rfl) 15 36 rfl (by decide) (fun c => ?_) (fun c => ?_)
      · have h := it_t h c
        refine Z_iconst (v := 0) hC (dk d_X5_begins 20 rfl) 37 rfl (by decide) ?_
        refine Z_istore_n hC (dk d_X5_begins 21 rfl) 38 rfl rfl (Nat.le_of_ble_eq_true rfl) [some (vr 5 0), some (vi x1), some (vi x2), some (vi (0 : Int32)), some (vi x4)] rfl ?_
        refine Z_iinc hC (dk d_X5_begins 22 rfl) 41 rfl rfl rfl [some (vr 5 0), some (vi x1), some (vi x2), some (vi (0 : Int32)), some (vi (x4 + (1 : Int32)))] rfl ?_
        refine Z_goto hC (dk d_X5_begins 23 rfl) 5 (by decide) ?_
        refine Z_wk [true, true, true, true, true] [some (vr 5 0), some (vi x1), some (vi x2), some (vi (0 : Int32)), some (vi (x4 + (1 : Int32)))] rfl ?_
        exact ih (0 : Int32) (x4 + (1 : Int32)) w _ h ke
      · have h := it_f h c
        refine Z_aload_n hC (dk d_X5_begins 9 rfl) 16 rfl rfl rfl ?_
        refine Z_iload_n hC (dk d_X5_begins 10 rfl) 17 rfl rfl rfl ?_
        refine Z_iload hC (dk d_X5_begins 11 rfl) 19 rfl rfl ?_
        obtain ⟨q1, hq1, h⟩ := bd_some h
        refine K_X5_191 [vi x1, vi x4] hC m_5 (s_X5_right (xG x) (xl x) N x1 x4 w q1 hq1) (Nat.le_of_ble_eq_true rfl) rfl rfl rfl (Nat.le_of_ble_eq_true rfl) (dk d_X5_begins 12 rfl) 22 rfl ?_
        refine Z_aload_n hC (dk d_X5_begins 13 rfl) 23 rfl rfl rfl ?_
        refine G_X5_54 hC m_5 (dk d_X5_begins 14 rfl) 26 rfl ?_
        refine Z_iload hC (dk d_X5_begins 15 rfl) 28 rfl rfl ?_
        obtain ⟨g2, h⟩ := gd_some h
        refine Z_iaload hC m_42 (by decide) rfl g2 (dk d_X5_begins 16 rfl) 29 rfl ?_
        refine Z_icmp_ne hC (dk d_X5_begins 17 rfl) 32 36 rfl (by decide) (fun c => ?_) (fun c => ?_)
        · have h := it_f h c
          refine Z_iconst (v := 0) hC (dk d_X5_begins 20 rfl) 37 rfl (by decide) ?_
          refine Z_istore_n hC (dk d_X5_begins 21 rfl) 38 rfl rfl (Nat.le_of_ble_eq_true rfl) [some (vr 5 0), some (vi x1), some (vi x2), some (vi (0 : Int32)), some (vi x4)] rfl ?_
          refine Z_iinc hC (dk d_X5_begins 22 rfl) 41 rfl rfl rfl [some (vr 5 0), some (vi x1), some (vi x2), some (vi (0 : Int32)), some (vi (x4 + (1 : Int32)))] rfl ?_
          refine Z_goto hC (dk d_X5_begins 23 rfl) 5 (by decide) ?_
          refine Z_wk [true, true, true, true, true] [some (vr 5 0), some (vi x1), some (vi x2), some (vi (0 : Int32)), some (vi (x4 + (1 : Int32)))] rfl ?_
          exact ih (0 : Int32) (x4 + (1 : Int32)) q1.2 _ h ke
        · have h := it_t h c
          refine Z_iconst (v := 1) hC (dk d_X5_begins 18 rfl) 33 rfl (by decide) ?_
          refine Z_goto hC (dk d_X5_begins 19 rfl) 37 (by decide) ?_
          refine Z_istore_n hC (dk d_X5_begins 21 rfl) 38 rfl rfl (Nat.le_of_ble_eq_true rfl) [some (vr 5 0), some (vi x1), some (vi x2), some (vi (1 : Int32)), some (vi x4)] rfl ?_
          refine Z_iinc hC (dk d_X5_begins 22 rfl) 41 rfl rfl rfl [some (vr 5 0), some (vi x1), some (vi x2), some (vi (1 : Int32)), some (vi (x4 + (1 : Int32)))] rfl ?_
          refine Z_goto hC (dk d_X5_begins 23 rfl) 5 (by decide) ?_
          refine Z_wk [true, true, true, true, true] [some (vr 5 0), some (vi x1), some (vi x2), some (vi (1 : Int32)), some (vi (x4 + (1 : Int32)))] rfl ?_
          exact ih (1 : Int32) (x4 + (1 : Int32)) q1.2 _ h ke
noncomputable def f_X5_begins (N : Nat) (a1 : Int32) (a2 : Int32) (w : Wd) : Option (Int32 × Wd) :=
  (X5_begins_L1 N a1 a2 N (1 : Int32) (0 : Int32) w).bind (fun q3 =>
    gd (q3.1 = 0 ∨ q3.1 = 1) (some (q3.1, q3.2)))
set_option maxRecDepth 20000 in
set_option maxHeartbeats 4000000 in
theorem s_X5_begins (G : GT) (l : Launch) (N : Nat) (a1 : Int32) (a2 : Int32) (w : Wd) (q : Int32 × Wd) (h : f_X5_begins N a1 a2 w = some q) : Sp G l yX5_begins cw_X5_begins 1 [vr 5 0, vi a1, vi a2] w (some (vi q.1)) q.2 := by
  refine Sp_of (own := RX5) [some (vr 5 0), some (vi a1), some (vi a2), none, none] (by decide) rfl rfl (Nat.le_of_ble_eq_true rfl) ?_
  intro x hG hl hC hr hQ _ _
  subst hG
  subst hl
  unfold f_X5_begins at h
  refine Z_iconst (v := 1) hC (dk d_X5_begins 0 rfl) 1 rfl (by decide) ?_
  refine Z_istore_n hC (dk d_X5_begins 1 rfl) 2 rfl rfl (Nat.le_of_ble_eq_true rfl) [some (vr 5 0), some (vi a1), some (vi a2), some (vi (1 : Int32)), none] rfl ?_
  refine Z_iconst (v := 0) hC (dk d_X5_begins 2 rfl) 3 rfl (by decide) ?_
  refine Z_istore hC (dk d_X5_begins 3 rfl) 5 rfl (Nat.le_of_ble_eq_true rfl) [some (vr 5 0), some (vi a1), some (vi a2), some (vi (1 : Int32)), some (vi (0 : Int32))] rfl ?_
  obtain ⟨q3, hq3, h⟩ := bd_some h
  refine Z_wk [true, true, true, true, true] [some (vr 5 0), some (vi a1), some (vi a2), some (vi (1 : Int32)), some (vi (0 : Int32))] rfl ?_
  refine z_X5_begins_L1 hC hr N a1 a2 N (1 : Int32) (0 : Int32) w q3 hq3 ?_
  refine Z_iload_n hC (dk d_X5_begins 24 rfl) 45 rfl rfl rfl ?_
  obtain ⟨g4, h⟩ := gd_some h
  obtain rfl := Option.some.inj h
  exact Z_zreturn (st := []) hC hr (nz g4) hQ (dk d_X5_begins 25 rfl)
def t_X5_cans : List (Nat × Instr × Nat) := [(0, .iconst 0, 1), (1, .istore_n 2, 1), (2, .aload_n 0, 1), (3, .iconst 0, 1), (4, .putfield 209, 3), (7, .iconst 0, 1), (8, .istore_n 3, 1), (9, .iload_n 3, 1), (10, .aload_n 0, 1), (11, .getfield 175, 3), (14, .if_icmp .ge 51, 3), (17, .aload_n 0, 1), (18, .iload_n 3, 1), (19, .iload_n 1, 1), (20, .invokevirtual 212, 3), (23, .ifCond .eq 36, 3), (26, .aload_n 0, 1), (27, .dup, 1), (28, .getfield 209, 3), (31, .iconst 1, 1), (32, .iadd, 1), (33, .putfield 209, 3), (36, .iload_n 2, 1), (37, .iload_n 1, 1), (38, .aload_n 0, 1), (39, .getfield 125, 3), (42, .if_icmp .ge 14, 3), (45, .iconst 1, 1), (46, .aload_n 0, 1), (47, .iload_n 3, 1), (48, .iload_n 1, 1), (49, .invokevirtual 191, 3), (52, .ishl, 1), (53, .goto 4, 3), (56, .iconst 0, 1), (57, .ior, 1), (58, .istore_n 2, 1), (59, .iinc 3 1, 3), (62, .goto (-53), 3), (65, .iload_n 2, 1), (66, .ireturn, 1)]
set_option maxRecDepth 20000 in
theorem d_X5_cans : ∀ q ∈ t_X5_cans, decode cX5_cans q.1 = .ok q.2 := by decide +kernel
noncomputable def X5_cans_L1 (N : Nat) (x1 : Int32) : Nat → Int32 → Int32 → Wd → Option (Int32 × Wd)
  | 0, _, _, _ => none
  | n + 1, x2, x3, w =>
  if (gI w 522 0) ≤ x3 then
    some (x2, w)
  else
    (f_X5_begins N x3 x1 w).bind (fun q1 =>
      if q1.1 = 0 then
        X5_cans_L1 N x1 n x2 (x3 + (1 : Int32)) q1.2
      else
        if (gI (sI q1.2 526 0 ((gI q1.2 526 0) + (1 : Int32))) 510 0) ≤ x1 then
          X5_cans_L1 N x1 n (x2 ||| (0 : Int32)) (x3 + (1 : Int32)) (sI q1.2 526 0 ((gI q1.2 526 0) + (1 : Int32)))
        else
          (f_X5_right N x3 x1 (sI q1.2 526 0 ((gI q1.2 526 0) + (1 : Int32)))).bind (fun q2 =>
            X5_cans_L1 N x1 n (x2 ||| ((1 : Int32) <<< (q2.1 &&& (31 : Int32)))) (x3 + (1 : Int32)) q2.2))
set_option maxRecDepth 20000 in
set_option maxHeartbeats 4000000 in
theorem z_X5_cans_L1 {x : CX} (hC : Cx x RX5 cX5_cans 4 2) (hr : (xM x).sig.returnType = (some .int)) (N : Nat) (x1 : Int32) : ∀ (n : Nat) (x2 : Int32) (x3 : Int32) (w : Wd) (q : (Int32 × Wd)), X5_cans_L1 N x1 n x2 x3 w = some q → Z x 65 [none, none, some (vi q.1), none] [] q.2 → Z x 9 [some (vr 5 0), some (vi x1), some (vi x2), some (vi x3)] [] w := by
  intro n
  induction n with
  | zero =>
    intro x2 x3 w q h
    cases h
  | succ n ih =>
    intro x2 x3 w q h ke
    rw [X5_cans_L1] at h
    refine Z_iload_n hC (dk d_X5_cans 7 rfl) 10 rfl rfl rfl ?_
    refine Z_aload_n hC (dk d_X5_cans 8 rfl) 11 rfl rfl rfl ?_
    refine G_X5_175 hC m_5 (dk d_X5_cans 9 rfl) 14 rfl ?_
    refine Z_icmp_ge hC (dk d_X5_cans 10 rfl) 17 65 rfl (by decide) (fun c => ?_) (fun c => ?_)
    · have h := it_t h c
      obtain rfl := Option.some.inj h
      refine Z_wk [false, false, true, false] [none, none, some (vi x2), none] rfl ?_
      exact ke
    · have h := it_f h c
      refine Z_aload_n hC (dk d_X5_cans 11 rfl) 18 rfl rfl rfl ?_
      refine Z_iload_n hC (dk d_X5_cans 12 rfl) 19 rfl rfl rfl ?_
      refine Z_iload_n hC (dk d_X5_cans 13 rfl) 20 rfl rfl rfl ?_
      obtain ⟨q1, hq1, h⟩ := bd_some h
      refine K_X5_212 [vi x3, vi x1] hC m_5 (s_X5_begins (xG x) (xl x) N x3 x1 w q1 hq1) (Nat.le_of_ble_eq_true rfl) rfl rfl rfl (Nat.le_of_ble_eq_true rfl) (dk d_X5_cans 14 rfl) 23 rfl ?_
      refine Z_if_eq hC (dk d_X5_cans 15 rfl) 26 59 rfl (by decide) (fun c => ?_) (fun c => ?_)
      · have h := it_t h c
        refine Z_iinc hC (dk d_X5_cans 37 rfl) 62 rfl rfl rfl [some (vr 5 0), some (vi x1), some (vi x2), some (vi (x3 + (1 : Int32)))] rfl ?_
        refine Z_goto hC (dk d_X5_cans 38 rfl) 9 (by decide) ?_
        refine Z_wk [true, true, true, true] [some (vr 5 0), some (vi x1), some (vi x2), some (vi (x3 + (1 : Int32)))] rfl ?_
        exact ih x2 (x3 + (1 : Int32)) q1.2 _ h ke
      · have h := it_f h c
        refine Z_aload_n hC (dk d_X5_cans 16 rfl) 27 rfl rfl rfl ?_
        refine Z_dup hC (dk d_X5_cans 17 rfl) 28 rfl rfl ?_
        refine G_X5_209 hC m_5 (dk d_X5_cans 18 rfl) 31 rfl ?_
        refine Z_iconst (v := 1) hC (dk d_X5_cans 19 rfl) 32 rfl (by decide) ?_
        refine Z_iadd hC (dk d_X5_cans 20 rfl) 33 rfl ?_
        refine P_X5_209 hC m_5 (dk d_X5_cans 21 rfl) 36 rfl ?_
        refine Z_iload_n hC (dk d_X5_cans 22 rfl) 37 rfl rfl rfl ?_
        refine Z_iload_n hC (dk d_X5_cans 23 rfl) 38 rfl rfl rfl ?_
        refine Z_aload_n hC (dk d_X5_cans 24 rfl) 39 rfl rfl rfl ?_
        refine G_X5_125 hC m_5 (dk d_X5_cans 25 rfl) 42 rfl ?_
        refine Z_icmp_ge hC (dk d_X5_cans 26 rfl) 45 56 rfl (by decide) (fun c => ?_) (fun c => ?_)
        · have h := it_t h c
          refine Z_iconst (v := 0) hC (dk d_X5_cans 34 rfl) 57 rfl (by decide) ?_
          refine Z_ior hC (dk d_X5_cans 35 rfl) 58 rfl ?_
          refine Z_istore_n hC (dk d_X5_cans 36 rfl) 59 rfl rfl (Nat.le_of_ble_eq_true rfl) [some (vr 5 0), some (vi x1), some (vi (x2 ||| (0 : Int32))), some (vi x3)] rfl ?_
          refine Z_iinc hC (dk d_X5_cans 37 rfl) 62 rfl rfl rfl [some (vr 5 0), some (vi x1), some (vi (x2 ||| (0 : Int32))), some (vi (x3 + (1 : Int32)))] rfl ?_
          refine Z_goto hC (dk d_X5_cans 38 rfl) 9 (by decide) ?_
          refine Z_wk [true, true, true, true] [some (vr 5 0), some (vi x1), some (vi (x2 ||| (0 : Int32))), some (vi (x3 + (1 : Int32)))] rfl ?_
          exact ih (x2 ||| (0 : Int32)) (x3 + (1 : Int32)) (sI q1.2 526 0 ((gI q1.2 526 0) + (1 : Int32))) _ h ke
        · have h := it_f h c
          refine Z_iconst (v := 1) hC (dk d_X5_cans 27 rfl) 46 rfl (by decide) ?_
          refine Z_aload_n hC (dk d_X5_cans 28 rfl) 47 rfl rfl rfl ?_
          refine Z_iload_n hC (dk d_X5_cans 29 rfl) 48 rfl rfl rfl ?_
          refine Z_iload_n hC (dk d_X5_cans 30 rfl) 49 rfl rfl rfl ?_
          obtain ⟨q2, hq2, h⟩ := bd_some h
          refine K_X5_191 [vi x3, vi x1] hC m_5 (s_X5_right (xG x) (xl x) N x3 x1 (sI q1.2 526 0 ((gI q1.2 526 0) + (1 : Int32))) q2 hq2) (Nat.le_of_ble_eq_true rfl) rfl rfl rfl (Nat.le_of_ble_eq_true rfl) (dk d_X5_cans 31 rfl) 52 rfl ?_
          refine Z_ishl hC (dk d_X5_cans 32 rfl) 53 rfl ?_
          refine Z_goto hC (dk d_X5_cans 33 rfl) 57 (by decide) ?_
          refine Z_ior hC (dk d_X5_cans 35 rfl) 58 rfl ?_
          refine Z_istore_n hC (dk d_X5_cans 36 rfl) 59 rfl rfl (Nat.le_of_ble_eq_true rfl) [some (vr 5 0), some (vi x1), some (vi (x2 ||| ((1 : Int32) <<< (q2.1 &&& (31 : Int32))))), some (vi x3)] rfl ?_
          refine Z_iinc hC (dk d_X5_cans 37 rfl) 62 rfl rfl rfl [some (vr 5 0), some (vi x1), some (vi (x2 ||| ((1 : Int32) <<< (q2.1 &&& (31 : Int32))))), some (vi (x3 + (1 : Int32)))] rfl ?_
          refine Z_goto hC (dk d_X5_cans 38 rfl) 9 (by decide) ?_
          refine Z_wk [true, true, true, true] [some (vr 5 0), some (vi x1), some (vi (x2 ||| ((1 : Int32) <<< (q2.1 &&& (31 : Int32))))), some (vi (x3 + (1 : Int32)))] rfl ?_
          exact ih (x2 ||| ((1 : Int32) <<< (q2.1 &&& (31 : Int32)))) (x3 + (1 : Int32)) q2.2 _ h ke
noncomputable def f_X5_cans (N : Nat) (a1 : Int32) (w : Wd) : Option (Int32 × Wd) :=
  (X5_cans_L1 N a1 N (0 : Int32) (0 : Int32) (sI w 526 0 (0 : Int32))).bind (fun q3 =>
    some (q3.1, q3.2))
set_option maxRecDepth 20000 in
set_option maxHeartbeats 4000000 in
theorem s_X5_cans (G : GT) (l : Launch) (N : Nat) (a1 : Int32) (w : Wd) (q : Int32 × Wd) (h : f_X5_cans N a1 w = some q) : Sp G l yX5_cans cw_X5_cans 2 [vr 5 0, vi a1] w (some (vi q.1)) q.2 := by
  refine Sp_of (own := RX5) [some (vr 5 0), some (vi a1), none, none] (by decide) rfl rfl (Nat.le_of_ble_eq_true rfl) ?_
  intro x hG hl hC hr hQ _ _
  subst hG
  subst hl
  unfold f_X5_cans at h
  refine Z_iconst (v := 0) hC (dk d_X5_cans 0 rfl) 1 rfl (by decide) ?_
  refine Z_istore_n hC (dk d_X5_cans 1 rfl) 2 rfl rfl (Nat.le_of_ble_eq_true rfl) [some (vr 5 0), some (vi a1), some (vi (0 : Int32)), none] rfl ?_
  refine Z_aload_n hC (dk d_X5_cans 2 rfl) 3 rfl rfl rfl ?_
  refine Z_iconst (v := 0) hC (dk d_X5_cans 3 rfl) 4 rfl (by decide) ?_
  refine P_X5_209 hC m_5 (dk d_X5_cans 4 rfl) 7 rfl ?_
  refine Z_iconst (v := 0) hC (dk d_X5_cans 5 rfl) 8 rfl (by decide) ?_
  refine Z_istore_n hC (dk d_X5_cans 6 rfl) 9 rfl rfl (Nat.le_of_ble_eq_true rfl) [some (vr 5 0), some (vi a1), some (vi (0 : Int32)), some (vi (0 : Int32))] rfl ?_
  obtain ⟨q3, hq3, h⟩ := bd_some h
  refine Z_wk [true, true, true, true] [some (vr 5 0), some (vi a1), some (vi (0 : Int32)), some (vi (0 : Int32))] rfl ?_
  refine z_X5_cans_L1 hC hr N a1 N (0 : Int32) (0 : Int32) (sI w 526 0 (0 : Int32)) q3 hq3 ?_
  refine Z_iload_n hC (dk d_X5_cans 39 rfl) 66 rfl rfl rfl ?_
  obtain rfl := Option.some.inj h
  exact Z_ireturn (st := []) hC hr hQ (dk d_X5_cans 40 rfl)
def t_X5_can : List (Nat × Instr × Nat) := [(0, .aload_n 0, 1), (1, .invokevirtual 185, 3), (4, .aload_n 0, 1), (5, .aload_n 0, 1), (6, .getfield 128, 3), (9, .invokevirtual 215, 3), (12, .istore_n 1, 1), (13, .aload_n 0, 1), (14, .aload_n 0, 1), (15, .getfield 209, 3), (18, .iload_n 1, 1), (19, .invokevirtual 98, 3), (22, .ireturn, 1)]
set_option maxRecDepth 20000 in
theorem d_X5_can : ∀ q ∈ t_X5_can, decode cX5_can q.1 = .ok q.2 := by decide +kernel
noncomputable def f_X5_can (N : Nat) (w : Wd) : Option (Int32 × Wd) :=
  (f_X5_setRights N w).bind (fun q1 =>
    (f_X5_cans N (gI q1 524 0) q1).bind (fun q2 =>
      (f_X5_ask N (gI q2.2 526 0) q2.1 q2.2).bind (fun q3 =>
        some (q3.1, q3.2))))
set_option maxRecDepth 20000 in
set_option maxHeartbeats 4000000 in
theorem s_X5_can (G : GT) (l : Launch) (N : Nat) (w : Wd) (q : Int32 × Wd) (h : f_X5_can N w = some q) : Sp G l yX5_can cw_X5_can 13 [vr 5 0] w (some (vi q.1)) q.2 := by
  refine Sp_of (own := RX5) [some (vr 5 0), none] (by decide) rfl rfl (Nat.le_of_ble_eq_true rfl) ?_
  intro x hG hl hC hr hQ _ _
  subst hG
  subst hl
  unfold f_X5_can at h
  refine Z_aload_n hC (dk d_X5_can 0 rfl) 1 rfl rfl rfl ?_
  obtain ⟨q1, hq1, h⟩ := bd_some h
  refine K_X5_185 [] hC m_5 (s_X5_setRights (xG x) (xl x) N w q1 hq1) (Nat.le_of_ble_eq_true rfl) rfl rfl rfl (Nat.le_of_ble_eq_true rfl) (dk d_X5_can 1 rfl) 4 rfl ?_
  refine Z_aload_n hC (dk d_X5_can 2 rfl) 5 rfl rfl rfl ?_
  refine Z_aload_n hC (dk d_X5_can 3 rfl) 6 rfl rfl rfl ?_
  refine G_X5_128 hC m_5 (dk d_X5_can 4 rfl) 9 rfl ?_
  obtain ⟨q2, hq2, h⟩ := bd_some h
  refine K_X5_215 [vi (gI q1 524 0)] hC m_5 (s_X5_cans (xG x) (xl x) N (gI q1 524 0) q1 q2 hq2) (Nat.le_of_ble_eq_true rfl) rfl rfl rfl (Nat.le_of_ble_eq_true rfl) (dk d_X5_can 5 rfl) 12 rfl ?_
  refine Z_istore_n hC (dk d_X5_can 6 rfl) 13 rfl rfl (Nat.le_of_ble_eq_true rfl) [some (vr 5 0), some (vi q2.1)] rfl ?_
  refine Z_aload_n hC (dk d_X5_can 7 rfl) 14 rfl rfl rfl ?_
  refine Z_aload_n hC (dk d_X5_can 8 rfl) 15 rfl rfl rfl ?_
  refine G_X5_209 hC m_5 (dk d_X5_can 9 rfl) 18 rfl ?_
  refine Z_iload_n hC (dk d_X5_can 10 rfl) 19 rfl rfl rfl ?_
  obtain ⟨q3, hq3, h⟩ := bd_some h
  refine K_X5_98 [vi (gI q2.2 526 0), vi q2.1] hC m_5 (s_X5_ask (xG x) (xl x) N (gI q2.2 526 0) q2.1 q2.2 q3 hq3) (Nat.le_of_ble_eq_true rfl) rfl rfl rfl (Nat.le_of_ble_eq_true rfl) (dk d_X5_can 11 rfl) 22 rfl ?_
  obtain rfl := Option.some.inj h
  exact Z_ireturn (st := []) hC hr hQ (dk d_X5_can 12 rfl)
def t_X5_turnOn : List (Nat × Instr × Nat) := [(0, .iload_n 1, 1), (1, .aload_n 0, 1), (2, .getfield 125, 3), (5, .if_icmp .ne 29, 3), (8, .aload_n 0, 1), (9, .dup, 1), (10, .getfield 218, 3), (13, .aload_n 0, 1), (14, .getfield 54, 3), (17, .iload_n 2, 1), (18, .iaload, 1), (19, .iload_n 3, 1), (20, .if_icmp .ne 8, 3), (23, .lload 4, 2), (25, .goto 4, 3), (28, .lconst 0, 1), (29, .ladd, 1), (30, .putfield 218, 3), (33, .return_, 1), (34, .aload_n 0, 1), (35, .iload_n 1, 1), (36, .invokevirtual 215, 3), (39, .istore 6, 2), (41, .iconst 0, 1), (42, .istore 7, 2), (44, .iload 7, 2), (46, .aload_n 0, 1), (47, .getfield 125, 3), (50, .if_icmp .ge 48, 3), (53, .iload 6, 2), (55, .iload 7, 2), (57, .invokestatic 147, 3), (60, .ifCond .eq 32, 3), (63, .aload_n 0, 1), (64, .getfield 54, 3), (67, .iload_n 1, 1), (68, .iload 7, 2), (70, .iastore, 1), (71, .aload_n 0, 1), (72, .iload_n 1, 1), (73, .iconst 1, 1), (74, .iadd, 1), (75, .iload_n 2, 1), (76, .iload_n 3, 1), (77, .lload 4, 2), (79, .bipush 60, 2), (81, .iload 6, 2), (83, .invokestatic 156, 3), (86, .idiv, 1), (87, .i2l, 1), (88, .lmul, 1), (89, .invokevirtual 221, 3), (92, .iinc 7 1, 3), (95, .goto (-51), 3), (98, .return_, 1)]
set_option maxRecDepth 20000 in
theorem d_X5_turnOn : ∀ q ∈ t_X5_turnOn, decode cX5_turnOn q.1 = .ok q.2 := by decide +kernel
noncomputable def X5_turnOn_L1 (N : Nat) (rec : Int32 → Int32 → Int32 → Int64 → Wd → Option (Wd)) (x1 : Int32) (x2 : Int32) (x3 : Int32) (x4 : Int64) (x6 : Int32) : Nat → Int32 → Wd → Option (Wd)
  | 0, _, _ => none
  | n + 1, x7, w =>
  if (gI w 510 0) ≤ x7 then
    some w
  else
    (f_X5_has N x6 x7 w).bind (fun q2 =>
      if q2.1 = 0 then
        X5_turnOn_L1 N rec x1 x2 x3 x4 x6 n (x7 + (1 : Int32)) q2.2
      else
        gd (vp_in x1 6) (
        (f_X5_sizeOf N x6 (sA q2.2 42 0 (upd (gA q2.2 42 0) x1.toNatClampNeg x7))).bind (fun q4 =>
          gd (¬ q4.1 = 0) (
          (rec (x1 + (1 : Int32)) x2 x3 (x4 * (((60 : Int32) / q4.1).toInt64)) q4.2).bind (fun q6 =>
            X5_turnOn_L1 N rec x1 x2 x3 x4 x6 n (x7 + (1 : Int32)) q6)))))
set_option maxRecDepth 20000 in
set_option maxHeartbeats 4000000 in
theorem z_X5_turnOn_L1 {x : CX} {kd : Nat} (hC : Cx x RX5 cX5_turnOn 8 (3 + (kd + 1))) (hr : (xM x).sig.returnType = none) (N : Nat) {rec : Int32 → Int32 → Int32 → Int64 → Wd → Option (Wd)} (hrec : ∀ (a1 : Int32) (a2 : Int32) (a3 : Int32) (a4 : Int64) (w : Wd) (q : Wd), rec a1 a2 a3 a4 w = some q → Sp (xG x) (xl x) yX5_turnOn cw_X5_turnOn (3 + kd) [vr 5 0, vi a1, vi a2, vi a3, vl a4] w none q) (x1 : Int32) (x2 : Int32) (x3 : Int32) (x4 : Int64) (x6 : Int32) : ∀ (n : Nat) (x7 : Int32) (w : Wd) (q : (Wd)), X5_turnOn_L1 N rec x1 x2 x3 x4 x6 n x7 w = some q → Z x 98 [none, none, none, none, none, none, none, none] [] q → Z x 44 [some (vr 5 0), some (vi x1), some (vi x2), some (vi x3), some (vl x4), none, some (vi x6), some (vi x7)] [] w := by
  intro n
  induction n with
  | zero =>
    intro x7 w q h
    cases h
  | succ n ih =>
    intro x7 w q h ke
    rw [X5_turnOn_L1] at h
    refine Z_iload hC (dk d_X5_turnOn 25 rfl) 46 rfl rfl ?_
    refine Z_aload_n hC (dk d_X5_turnOn 26 rfl) 47 rfl rfl rfl ?_
    refine G_X5_125 hC m_5 (dk d_X5_turnOn 27 rfl) 50 rfl ?_
    refine Z_icmp_ge hC (dk d_X5_turnOn 28 rfl) 53 98 rfl (by decide) (fun c => ?_) (fun c => ?_)
    · have h := it_t h c
      obtain rfl := Option.some.inj h
      refine Z_wk [false, false, false, false, false, false, false, false] [none, none, none, none, none, none, none, none] rfl ?_
      exact ke
    · have h := it_f h c
      refine Z_iload hC (dk d_X5_turnOn 29 rfl) 55 rfl rfl ?_
      refine Z_iload hC (dk d_X5_turnOn 30 rfl) 57 rfl rfl ?_
      obtain ⟨q2, hq2, h⟩ := bd_some h
      refine K_X5_147 [vi x6, vi x7] hC (s_X5_has (xG x) (xl x) N x6 x7 w q2 hq2) (by omega) rfl rfl rfl (Nat.le_of_ble_eq_true rfl) (dk d_X5_turnOn 31 rfl) 60 rfl ?_
      refine Z_if_eq hC (dk d_X5_turnOn 32 rfl) 63 92 rfl (by decide) (fun c => ?_) (fun c => ?_)
      · have h := it_t h c
        refine Z_iinc hC (dk d_X5_turnOn 52 rfl) 95 rfl rfl rfl [some (vr 5 0), some (vi x1), some (vi x2), some (vi x3), some (vl x4), none, some (vi x6), some (vi (x7 + (1 : Int32)))] rfl ?_
        refine Z_goto hC (dk d_X5_turnOn 53 rfl) 44 (by decide) ?_
        refine Z_wk [true, true, true, true, true, false, true, true] [some (vr 5 0), some (vi x1), some (vi x2), some (vi x3), some (vl x4), none, some (vi x6), some (vi (x7 + (1 : Int32)))] rfl ?_
        exact ih (x7 + (1 : Int32)) q2.2 _ h ke
      · have h := it_f h c
        refine Z_aload_n hC (dk d_X5_turnOn 33 rfl) 64 rfl rfl rfl ?_
        refine G_X5_54 hC m_5 (dk d_X5_turnOn 34 rfl) 67 rfl ?_
        refine Z_iload_n hC (dk d_X5_turnOn 35 rfl) 68 rfl rfl rfl ?_
        refine Z_iload hC (dk d_X5_turnOn 36 rfl) 70 rfl rfl ?_
        obtain ⟨g3, h⟩ := gd_some h
        refine Z_iastore hC m_42 (by decide) rfl g3 (dk d_X5_turnOn 37 rfl) 71 rfl ?_
        refine Z_aload_n hC (dk d_X5_turnOn 38 rfl) 72 rfl rfl rfl ?_
        refine Z_iload_n hC (dk d_X5_turnOn 39 rfl) 73 rfl rfl rfl ?_
        refine Z_iconst (v := 1) hC (dk d_X5_turnOn 40 rfl) 74 rfl (by decide) ?_
        refine Z_iadd hC (dk d_X5_turnOn 41 rfl) 75 rfl ?_
        refine Z_iload_n hC (dk d_X5_turnOn 42 rfl) 76 rfl rfl rfl ?_
        refine Z_iload_n hC (dk d_X5_turnOn 43 rfl) 77 rfl rfl rfl ?_
        refine Z_lload hC (dk d_X5_turnOn 44 rfl) 79 rfl rfl ?_
        refine Z_bipush (v := 60) hC (dk d_X5_turnOn 45 rfl) 81 rfl (by decide) ?_
        refine Z_iload hC (dk d_X5_turnOn 46 rfl) 83 rfl rfl ?_
        obtain ⟨q4, hq4, h⟩ := bd_some h
        refine K_X5_156 [vi x6] hC (s_X5_sizeOf (xG x) (xl x) N x6 (sA q2.2 42 0 (upd (gA q2.2 42 0) x1.toNatClampNeg x7)) q4 hq4) (by omega) rfl rfl rfl (Nat.le_of_ble_eq_true rfl) (dk d_X5_turnOn 47 rfl) 86 rfl ?_
        obtain ⟨g5, h⟩ := gd_some h
        refine Z_idiv hC (dk d_X5_turnOn 48 rfl) 87 rfl g5 ?_
        refine Z_i2l hC (dk d_X5_turnOn 49 rfl) 88 rfl ?_
        refine Z_lmul hC (dk d_X5_turnOn 50 rfl) 89 rfl ?_
        obtain ⟨q6, hq6, h⟩ := bd_some h
        refine K_X5_221 [vi (x1 + (1 : Int32)), vi x2, vi x3, vl (x4 * (((60 : Int32) / q4.1).toInt64))] hC m_5 (hrec (x1 + (1 : Int32)) x2 x3 (x4 * (((60 : Int32) / q4.1).toInt64)) q4.2 q6 hq6) (by omega) rfl rfl rfl (Nat.le_of_ble_eq_true rfl) (dk d_X5_turnOn 51 rfl) 92 rfl ?_
        refine Z_iinc hC (dk d_X5_turnOn 52 rfl) 95 rfl rfl rfl [some (vr 5 0), some (vi x1), some (vi x2), some (vi x3), some (vl x4), none, some (vi x6), some (vi (x7 + (1 : Int32)))] rfl ?_
        refine Z_goto hC (dk d_X5_turnOn 53 rfl) 44 (by decide) ?_
        refine Z_wk [true, true, true, true, true, false, true, true] [some (vr 5 0), some (vi x1), some (vi x2), some (vi x3), some (vl x4), none, some (vi x6), some (vi (x7 + (1 : Int32)))] rfl ?_
        exact ih (x7 + (1 : Int32)) q6 _ h ke
noncomputable def f_X5_turnOn (N : Nat) : Nat → Int32 → Int32 → Int32 → Int64 → Wd → Option (Wd)
  | 0, _, _, _, _, _ => none
  | k + 1, a1, a2, a3, a4, w =>
  if a1 = (gI w 510 0) then
    gd (vp_in a2 6) (
    if (gA w 42 0 a2.toNatClampNeg) = a3 then
      some (sL w 527 0 ((gL w 527 0) + a4))
    else
      some (sL w 527 0 ((gL w 527 0) + (0 : Int64))))
  else
    (f_X5_cans N a1 w).bind (fun q1 =>
      (X5_turnOn_L1 N (f_X5_turnOn N k) a1 a2 a3 a4 q1.1 N (0 : Int32) q1.2).bind (fun q7 =>
        some q7))
set_option maxRecDepth 20000 in
set_option maxHeartbeats 4000000 in
theorem s_X5_turnOn (G : GT) (l : Launch) (N : Nat) : ∀ (k : Nat) (a1 : Int32) (a2 : Int32) (a3 : Int32) (a4 : Int64) (w : Wd) (q : Wd) (h : f_X5_turnOn N k a1 a2 a3 a4 w = some q), Sp G l yX5_turnOn cw_X5_turnOn (3 + k) [vr 5 0, vi a1, vi a2, vi a3, vl a4] w none q := by
  intro kd
  induction kd with
  | zero =>
    intro a1 a2 a3 a4 w q h
    cases h
  | succ kd ih =>
    intro a1 a2 a3 a4 w q h
    rw [f_X5_turnOn] at h
    refine Sp_of (own := RX5) [some (vr 5 0), some (vi a1), some (vi a2), some (vi a3), some (vl a4), none, none, none] (by decide) rfl rfl (Nat.le_of_ble_eq_true rfl) ?_
    intro x hG hl hC hr hQ _ _
    subst hG
    subst hl
    have hrec : ∀ (a1 : Int32) (a2 : Int32) (a3 : Int32) (a4 : Int64) (w : Wd) (q : Wd), f_X5_turnOn N kd a1 a2 a3 a4 w = some q → Sp (xG x) (xl x) yX5_turnOn cw_X5_turnOn (3 + kd) [vr 5 0, vi a1, vi a2, vi a3, vl a4] w none q := fun a1 a2 a3 a4 w q h => ih a1 a2 a3 a4 w q h
    refine Z_iload_n hC (dk d_X5_turnOn 0 rfl) 1 rfl rfl rfl ?_
    refine Z_aload_n hC (dk d_X5_turnOn 1 rfl) 2 rfl rfl rfl ?_
    refine G_X5_125 hC m_5 (dk d_X5_turnOn 2 rfl) 5 rfl ?_
    refine Z_icmp_ne hC (dk d_X5_turnOn 3 rfl) 8 34 rfl (by decide) (fun c => ?_) (fun c => ?_)
    · have h := it_f h c
      refine Z_aload_n hC (dk d_X5_turnOn 19 rfl) 35 rfl rfl rfl ?_
      refine Z_iload_n hC (dk d_X5_turnOn 20 rfl) 36 rfl rfl rfl ?_
      obtain ⟨q1, hq1, h⟩ := bd_some h
      refine K_X5_215 [vi a1] hC m_5 (s_X5_cans (xG x) (xl x) N a1 w q1 hq1) (by omega) rfl rfl rfl (Nat.le_of_ble_eq_true rfl) (dk d_X5_turnOn 21 rfl) 39 rfl ?_
      refine Z_istore hC (dk d_X5_turnOn 22 rfl) 41 rfl (Nat.le_of_ble_eq_true rfl) [some (vr 5 0), some (vi a1), some (vi a2), some (vi a3), some (vl a4), none, some (vi q1.1), none] rfl ?_
      refine Z_iconst (v := 0) hC (dk d_X5_turnOn 23 rfl) 42 rfl (by decide) ?_
      refine Z_istore hC (dk d_X5_turnOn 24 rfl) 44 rfl (Nat.le_of_ble_eq_true rfl) [some (vr 5 0), some (vi a1), some (vi a2), some (vi a3), some (vl a4), none, some (vi q1.1), some (vi (0 : Int32))] rfl ?_
      obtain ⟨q7, hq7, h⟩ := bd_some h
      refine Z_wk [true, true, true, true, true, false, true, true] [some (vr 5 0), some (vi a1), some (vi a2), some (vi a3), some (vl a4), none, some (vi q1.1), some (vi (0 : Int32))] rfl ?_
      refine z_X5_turnOn_L1 hC hr N hrec a1 a2 a3 a4 q1.1 N (0 : Int32) q1.2 q7 hq7 ?_
      obtain rfl := Option.some.inj h
      exact Z_return (st := []) hC hr hQ (dk d_X5_turnOn 54 rfl)
    · have h := it_t h c
      refine Z_aload_n hC (dk d_X5_turnOn 4 rfl) 9 rfl rfl rfl ?_
      refine Z_dup hC (dk d_X5_turnOn 5 rfl) 10 rfl rfl ?_
      refine G_X5_218 hC m_5 (dk d_X5_turnOn 6 rfl) 13 rfl ?_
      refine Z_aload_n hC (dk d_X5_turnOn 7 rfl) 14 rfl rfl rfl ?_
      refine G_X5_54 hC m_5 (dk d_X5_turnOn 8 rfl) 17 rfl ?_
      refine Z_iload_n hC (dk d_X5_turnOn 9 rfl) 18 rfl rfl rfl ?_
      obtain ⟨g8, h⟩ := gd_some h
      refine Z_iaload hC m_42 (by decide) rfl g8 (dk d_X5_turnOn 10 rfl) 19 rfl ?_
      refine Z_iload_n hC (dk d_X5_turnOn 11 rfl) 20 rfl rfl rfl ?_
      refine Z_icmp_ne hC (dk d_X5_turnOn 12 rfl) 23 28 rfl (by decide) (fun c => ?_) (fun c => ?_)
      · have h := it_f h c
        refine Z_lconst (v := 0) hC (dk d_X5_turnOn 15 rfl) 29 rfl (by decide) ?_
        refine Z_ladd hC (dk d_X5_turnOn 16 rfl) 30 rfl ?_
        refine P_X5_218 hC m_5 (dk d_X5_turnOn 17 rfl) 33 rfl ?_
        obtain rfl := Option.some.inj h
        exact Z_return (st := []) hC hr hQ (dk d_X5_turnOn 18 rfl)
      · have h := it_t h c
        refine Z_lload hC (dk d_X5_turnOn 13 rfl) 25 rfl rfl ?_
        refine Z_goto hC (dk d_X5_turnOn 14 rfl) 29 (by decide) ?_
        refine Z_ladd hC (dk d_X5_turnOn 16 rfl) 30 rfl ?_
        refine P_X5_218 hC m_5 (dk d_X5_turnOn 17 rfl) 33 rfl ?_
        obtain rfl := Option.some.inj h
        exact Z_return (st := []) hC hr hQ (dk d_X5_turnOn 18 rfl)
def t_X5_turns : List (Nat × Instr × Nat) := [(0, .aload_n 0, 1), (1, .iload_n 1, 1), (2, .invokevirtual 137, 3), (5, .ifCond .eq 11, 3), (8, .aload_n 0, 1), (9, .iload_n 2, 1), (10, .invokevirtual 137, 3), (13, .ifCond .ne 5, 3), (16, .iconst (-1), 1), (17, .ireturn, 1), (18, .aload_n 0, 1), (19, .invokevirtual 185, 3), (22, .aload_n 0, 1), (23, .aload_n 0, 1), (24, .getfield 128, 3), (27, .invokevirtual 215, 3), (30, .pop, 1), (31, .aload_n 0, 1), (32, .getfield 209, 3), (35, .ifCond .ne 9, 3), (38, .aload_n 0, 1), (39, .iconst 4, 1), (40, .invokevirtual 80, 3), (43, .ireturn, 1), (44, .lconst 1, 1), (45, .lstore_n 3, 1), (46, .iconst 0, 1), (47, .istore 5, 2), (49, .iload 5, 2), (51, .bipush 6, 2), (53, .if_icmp .ge 51, 3), (56, .aload_n 0, 1), (57, .getfield 57, 3), (60, .iload 5, 2), (62, .aload_n 0, 1), (63, .getfield 54, 3), (66, .iload 5, 2), (68, .iaload, 1), (69, .iastore, 1), (70, .lload_n 3, 1), (71, .iload 5, 2), (73, .aload_n 0, 1), (74, .getfield 128, 3), (77, .if_icmp .lt 18, 3), (80, .iload 5, 2), (82, .aload_n 0, 1), (83, .getfield 125, 3), (86, .if_icmp .ge 9, 3), (89, .ldc2_w 225, 3), (92, .goto 4, 3), (95, .lconst 1, 1), (96, .lmul, 1), (97, .lstore_n 3, 1), (98, .iinc 5 1, 3), (101, .goto (-52), 3), (104, .aload_n 0, 1), (105, .lconst 0, 1), (106, .putfield 218, 3), (109, .aload_n 0, 1), (110, .aload_n 0, 1), (111, .getfield 128, 3), (114, .iload_n 1, 1), (115, .iload_n 2, 1), (116, .lconst 1, 1), (117, .invokevirtual 221, 3), (120, .iconst 0, 1), (121, .istore 5, 2), (123, .iload 5, 2), (125, .bipush 6, 2), (127, .if_icmp .ge 23, 3), (130, .aload_n 0, 1), (131, .getfield 54, 3), (134, .iload 5, 2), (136, .aload_n 0, 1), (137, .getfield 57, 3), (140, .iload 5, 2), (142, .iaload, 1), (143, .iastore, 1), (144, .iinc 5 1, 3), (147, .goto (-24), 3), (150, .aload_n 0, 1), (151, .aload_n 0, 1), (152, .getfield 218, 3), (155, .lload_n 3, 1), (156, .iconst 1, 1), (157, .invokevirtual 227, 3), (160, .ireturn, 1)]
set_option maxRecDepth 20000 in
theorem d_X5_turns : ∀ q ∈ t_X5_turns, decode cX5_turns q.1 = .ok q.2 := by decide +kernel
noncomputable def X5_turns_L1 (N : Nat) (x1 : Int32) (x2 : Int32) : Nat → Int64 → Int32 → Wd → Option (Int64 × Wd)
  | 0, _, _, _ => none
  | n + 1, x3, x5, w =>
  if (6 : Int32) ≤ x5 then
    some (x3, w)
  else
    gd (vp_in x5 6) (
    gd (vp_in x5 6) (
    if x5 < (gI (sA w 43 0 (upd (gA w 43 0) x5.toNatClampNeg (gA w 42 0 x5.toNatClampNeg))) 524 0) then
      X5_turns_L1 N x1 x2 n (x3 * (1 : Int64)) (x5 + (1 : Int32)) (sA w 43 0 (upd (gA w 43 0) x5.toNatClampNeg (gA w 42 0 x5.toNatClampNeg)))
    else
      if (gI (sA w 43 0 (upd (gA w 43 0) x5.toNatClampNeg (gA w 42 0 x5.toNatClampNeg))) 510 0) ≤ x5 then
        X5_turns_L1 N x1 x2 n (x3 * (1 : Int64)) (x5 + (1 : Int32)) (sA w 43 0 (upd (gA w 43 0) x5.toNatClampNeg (gA w 42 0 x5.toNatClampNeg)))
      else
        X5_turns_L1 N x1 x2 n (x3 * (60 : Int64)) (x5 + (1 : Int32)) (sA w 43 0 (upd (gA w 43 0) x5.toNatClampNeg (gA w 42 0 x5.toNatClampNeg)))))
set_option maxRecDepth 20000 in
set_option maxHeartbeats 4000000 in
theorem z_X5_turns_L1 {x : CX} (hC : Cx x RX5 cX5_turns 6 13) (hr : (xM x).sig.returnType = (some .int)) (N : Nat) (x1 : Int32) (x2 : Int32) : ∀ (n : Nat) (x3 : Int64) (x5 : Int32) (w : Wd) (q : (Int64 × Wd)), X5_turns_L1 N x1 x2 n x3 x5 w = some q → Z x 104 [some (vr 5 0), some (vi x1), some (vi x2), some (vl q.1), none, none] [] q.2 → Z x 49 [some (vr 5 0), some (vi x1), some (vi x2), some (vl x3), none, some (vi x5)] [] w := by
  intro n
  induction n with
  | zero =>
    intro x3 x5 w q h
    cases h
  | succ n ih =>
    intro x3 x5 w q h ke
    rw [X5_turns_L1] at h
    refine Z_iload hC (dk d_X5_turns 28 rfl) 51 rfl rfl ?_
    refine Z_bipush (v := 6) hC (dk d_X5_turns 29 rfl) 53 rfl (by decide) ?_
    refine Z_icmp_ge hC (dk d_X5_turns 30 rfl) 56 104 rfl (by decide) (fun c => ?_) (fun c => ?_)
    · have h := it_t h c
      obtain rfl := Option.some.inj h
      refine Z_wk [true, true, true, true, false, false] [some (vr 5 0), some (vi x1), some (vi x2), some (vl x3), none, none] rfl ?_
      exact ke
    · have h := it_f h c
      refine Z_aload_n hC (dk d_X5_turns 31 rfl) 57 rfl rfl rfl ?_
      refine G_X5_57 hC m_5 (dk d_X5_turns 32 rfl) 60 rfl ?_
      refine Z_iload hC (dk d_X5_turns 33 rfl) 62 rfl rfl ?_
      refine Z_aload_n hC (dk d_X5_turns 34 rfl) 63 rfl rfl rfl ?_
      refine G_X5_54 hC m_5 (dk d_X5_turns 35 rfl) 66 rfl ?_
      refine Z_iload hC (dk d_X5_turns 36 rfl) 68 rfl rfl ?_
      obtain ⟨g5, h⟩ := gd_some h
      refine Z_iaload hC m_42 (by decide) rfl g5 (dk d_X5_turns 37 rfl) 69 rfl ?_
      obtain ⟨g6, h⟩ := gd_some h
      refine Z_iastore hC m_43 (by decide) rfl g6 (dk d_X5_turns 38 rfl) 70 rfl ?_
      refine Z_lload_n hC (dk d_X5_turns 39 rfl) 71 rfl rfl rfl ?_
      refine Z_iload hC (dk d_X5_turns 40 rfl) 73 rfl rfl ?_
      refine Z_aload_n hC (dk d_X5_turns 41 rfl) 74 rfl rfl rfl ?_
      refine G_X5_128 hC m_5 (dk d_X5_turns 42 rfl) 77 rfl ?_
      refine Z_icmp_lt hC (dk d_X5_turns 43 rfl) 80 95 rfl (by decide) (fun c => ?_) (fun c => ?_)
      · have h := it_t h c
        refine Z_lconst (v := 1) hC (dk d_X5_turns 50 rfl) 96 rfl (by decide) ?_
        refine Z_lmul hC (dk d_X5_turns 51 rfl) 97 rfl ?_
        refine Z_lstore_n hC (dk d_X5_turns 52 rfl) 98 rfl rfl (Nat.le_of_ble_eq_true rfl) [some (vr 5 0), some (vi x1), some (vi x2), some (vl (x3 * (1 : Int64))), none, some (vi x5)] rfl ?_
        refine Z_iinc hC (dk d_X5_turns 53 rfl) 101 rfl rfl rfl [some (vr 5 0), some (vi x1), some (vi x2), some (vl (x3 * (1 : Int64))), none, some (vi (x5 + (1 : Int32)))] rfl ?_
        refine Z_goto hC (dk d_X5_turns 54 rfl) 49 (by decide) ?_
        refine Z_wk [true, true, true, true, false, true] [some (vr 5 0), some (vi x1), some (vi x2), some (vl (x3 * (1 : Int64))), none, some (vi (x5 + (1 : Int32)))] rfl ?_
        exact ih (x3 * (1 : Int64)) (x5 + (1 : Int32)) (sA w 43 0 (upd (gA w 43 0) x5.toNatClampNeg (gA w 42 0 x5.toNatClampNeg))) _ h ke
      · have h := it_f h c
        refine Z_iload hC (dk d_X5_turns 44 rfl) 82 rfl rfl ?_
        refine Z_aload_n hC (dk d_X5_turns 45 rfl) 83 rfl rfl rfl ?_
        refine G_X5_125 hC m_5 (dk d_X5_turns 46 rfl) 86 rfl ?_
        refine Z_icmp_ge hC (dk d_X5_turns 47 rfl) 89 95 rfl (by decide) (fun c => ?_) (fun c => ?_)
        · have h := it_t h c
          refine Z_lconst (v := 1) hC (dk d_X5_turns 50 rfl) 96 rfl (by decide) ?_
          refine Z_lmul hC (dk d_X5_turns 51 rfl) 97 rfl ?_
          refine Z_lstore_n hC (dk d_X5_turns 52 rfl) 98 rfl rfl (Nat.le_of_ble_eq_true rfl) [some (vr 5 0), some (vi x1), some (vi x2), some (vl (x3 * (1 : Int64))), none, some (vi x5)] rfl ?_
          refine Z_iinc hC (dk d_X5_turns 53 rfl) 101 rfl rfl rfl [some (vr 5 0), some (vi x1), some (vi x2), some (vl (x3 * (1 : Int64))), none, some (vi (x5 + (1 : Int32)))] rfl ?_
          refine Z_goto hC (dk d_X5_turns 54 rfl) 49 (by decide) ?_
          refine Z_wk [true, true, true, true, false, true] [some (vr 5 0), some (vi x1), some (vi x2), some (vl (x3 * (1 : Int64))), none, some (vi (x5 + (1 : Int32)))] rfl ?_
          exact ih (x3 * (1 : Int64)) (x5 + (1 : Int32)) (sA w 43 0 (upd (gA w 43 0) x5.toNatClampNeg (gA w 42 0 x5.toNatClampNeg))) _ h ke
        · have h := it_f h c
          refine Z_ldc2 hC kc_X5_225 (dk d_X5_turns 48 rfl) 92 rfl ?_
          refine Z_goto hC (dk d_X5_turns 49 rfl) 96 (by decide) ?_
          refine Z_lmul hC (dk d_X5_turns 51 rfl) 97 rfl ?_
          refine Z_lstore_n hC (dk d_X5_turns 52 rfl) 98 rfl rfl (Nat.le_of_ble_eq_true rfl) [some (vr 5 0), some (vi x1), some (vi x2), some (vl (x3 * (60 : Int64))), none, some (vi x5)] rfl ?_
          refine Z_iinc hC (dk d_X5_turns 53 rfl) 101 rfl rfl rfl [some (vr 5 0), some (vi x1), some (vi x2), some (vl (x3 * (60 : Int64))), none, some (vi (x5 + (1 : Int32)))] rfl ?_
          refine Z_goto hC (dk d_X5_turns 54 rfl) 49 (by decide) ?_
          refine Z_wk [true, true, true, true, false, true] [some (vr 5 0), some (vi x1), some (vi x2), some (vl (x3 * (60 : Int64))), none, some (vi (x5 + (1 : Int32)))] rfl ?_
          exact ih (x3 * (60 : Int64)) (x5 + (1 : Int32)) (sA w 43 0 (upd (gA w 43 0) x5.toNatClampNeg (gA w 42 0 x5.toNatClampNeg))) _ h ke
noncomputable def X5_turns_L2 (N : Nat) (x3 : Int64) : Nat → Int32 → Wd → Option (Wd)
  | 0, _, _ => none
  | n + 1, x5, w =>
  if (6 : Int32) ≤ x5 then
    some w
  else
    gd (vp_in x5 6) (
    gd (vp_in x5 6) (
    X5_turns_L2 N x3 n (x5 + (1 : Int32)) (sA w 42 0 (upd (gA w 42 0) x5.toNatClampNeg (gA w 43 0 x5.toNatClampNeg)))))
set_option maxRecDepth 20000 in
set_option maxHeartbeats 4000000 in
theorem z_X5_turns_L2 {x : CX} (hC : Cx x RX5 cX5_turns 6 13) (hr : (xM x).sig.returnType = (some .int)) (N : Nat) (x3 : Int64) : ∀ (n : Nat) (x5 : Int32) (w : Wd) (q : (Wd)), X5_turns_L2 N x3 n x5 w = some q → Z x 150 [some (vr 5 0), none, none, some (vl x3), none, none] [] q → Z x 123 [some (vr 5 0), none, none, some (vl x3), none, some (vi x5)] [] w := by
  intro n
  induction n with
  | zero =>
    intro x5 w q h
    cases h
  | succ n ih =>
    intro x5 w q h ke
    rw [X5_turns_L2] at h
    refine Z_iload hC (dk d_X5_turns 67 rfl) 125 rfl rfl ?_
    refine Z_bipush (v := 6) hC (dk d_X5_turns 68 rfl) 127 rfl (by decide) ?_
    refine Z_icmp_ge hC (dk d_X5_turns 69 rfl) 130 150 rfl (by decide) (fun c => ?_) (fun c => ?_)
    · have h := it_t h c
      obtain rfl := Option.some.inj h
      refine Z_wk [true, false, false, true, false, false] [some (vr 5 0), none, none, some (vl x3), none, none] rfl ?_
      exact ke
    · have h := it_f h c
      refine Z_aload_n hC (dk d_X5_turns 70 rfl) 131 rfl rfl rfl ?_
      refine G_X5_54 hC m_5 (dk d_X5_turns 71 rfl) 134 rfl ?_
      refine Z_iload hC (dk d_X5_turns 72 rfl) 136 rfl rfl ?_
      refine Z_aload_n hC (dk d_X5_turns 73 rfl) 137 rfl rfl rfl ?_
      refine G_X5_57 hC m_5 (dk d_X5_turns 74 rfl) 140 rfl ?_
      refine Z_iload hC (dk d_X5_turns 75 rfl) 142 rfl rfl ?_
      obtain ⟨g9, h⟩ := gd_some h
      refine Z_iaload hC m_43 (by decide) rfl g9 (dk d_X5_turns 76 rfl) 143 rfl ?_
      obtain ⟨g10, h⟩ := gd_some h
      refine Z_iastore hC m_42 (by decide) rfl g10 (dk d_X5_turns 77 rfl) 144 rfl ?_
      refine Z_iinc hC (dk d_X5_turns 78 rfl) 147 rfl rfl rfl [some (vr 5 0), none, none, some (vl x3), none, some (vi (x5 + (1 : Int32)))] rfl ?_
      refine Z_goto hC (dk d_X5_turns 79 rfl) 123 (by decide) ?_
      refine Z_wk [true, false, false, true, false, true] [some (vr 5 0), none, none, some (vl x3), none, some (vi (x5 + (1 : Int32)))] rfl ?_
      exact ih (x5 + (1 : Int32)) (sA w 42 0 (upd (gA w 42 0) x5.toNatClampNeg (gA w 43 0 x5.toNatClampNeg))) _ h ke
noncomputable def f_X5_turns (N : Nat) (a1 : Int32) (a2 : Int32) (w : Wd) : Option (Int32 × Wd) :=
  (f_X5_isMate N a1 w).bind (fun q1 =>
    if q1.1 = 0 then
      some ((-1 : Int32), q1.2)
    else
      (f_X5_isMate N a2 q1.2).bind (fun q2 =>
        if q2.1 = 0 then
          some ((-1 : Int32), q2.2)
        else
          (f_X5_setRights N q2.2).bind (fun q3 =>
            (f_X5_cans N (gI q3 524 0) q3).bind (fun q4 =>
              if (gI q4.2 526 0) = 0 then
                (f_X5_meet N (4 : Int32) q4.2).bind (fun q13 =>
                  some (q13.1, q13.2))
              else
                (X5_turns_L1 N a1 a2 N (1 : Int64) (0 : Int32) q4.2).bind (fun q7 =>
                  (f_X5_turnOn N 8 (gI (sL q7.2 527 0 (0 : Int64)) 524 0) a1 a2 (1 : Int64) (sL q7.2 527 0 (0 : Int64))).bind (fun q8 =>
                    (X5_turns_L2 N q7.1 N (0 : Int32) q8).bind (fun q11 =>
                      (f_X5_part N (gL q11 527 0) q7.1 (1 : Int32) q11).bind (fun q12 =>
                        some (q12.1, q12.2)))))))))
set_option maxRecDepth 20000 in
set_option maxHeartbeats 4000000 in
theorem s_X5_turns (G : GT) (l : Launch) (N : Nat) (a1 : Int32) (a2 : Int32) (w : Wd) (q : Int32 × Wd) (h : f_X5_turns N a1 a2 w = some q) : Sp G l yX5_turns cw_X5_turns 13 [vr 5 0, vi a1, vi a2] w (some (vi q.1)) q.2 := by
  refine Sp_of (own := RX5) [some (vr 5 0), some (vi a1), some (vi a2), none, none, none] (by decide) rfl rfl (Nat.le_of_ble_eq_true rfl) ?_
  intro x hG hl hC hr hQ _ _
  subst hG
  subst hl
  unfold f_X5_turns at h
  refine Z_aload_n hC (dk d_X5_turns 0 rfl) 1 rfl rfl rfl ?_
  refine Z_iload_n hC (dk d_X5_turns 1 rfl) 2 rfl rfl rfl ?_
  obtain ⟨q1, hq1, h⟩ := bd_some h
  refine K_X5_137 [vi a1] hC m_5 (s_X5_isMate (xG x) (xl x) N a1 w q1 hq1) (Nat.le_of_ble_eq_true rfl) rfl rfl rfl (Nat.le_of_ble_eq_true rfl) (dk d_X5_turns 2 rfl) 5 rfl ?_
  refine Z_if_eq hC (dk d_X5_turns 3 rfl) 8 16 rfl (by decide) (fun c => ?_) (fun c => ?_)
  · have h := it_t h c
    refine Z_iconst (v := -1) hC (dk d_X5_turns 8 rfl) 17 rfl (by decide) ?_
    obtain rfl := Option.some.inj h
    exact Z_ireturn (st := []) hC hr hQ (dk d_X5_turns 9 rfl)
  · have h := it_f h c
    refine Z_aload_n hC (dk d_X5_turns 4 rfl) 9 rfl rfl rfl ?_
    refine Z_iload_n hC (dk d_X5_turns 5 rfl) 10 rfl rfl rfl ?_
    obtain ⟨q2, hq2, h⟩ := bd_some h
    refine K_X5_137 [vi a2] hC m_5 (s_X5_isMate (xG x) (xl x) N a2 q1.2 q2 hq2) (Nat.le_of_ble_eq_true rfl) rfl rfl rfl (Nat.le_of_ble_eq_true rfl) (dk d_X5_turns 6 rfl) 13 rfl ?_
    refine Z_if_ne hC (dk d_X5_turns 7 rfl) 16 18 rfl (by decide) (fun c => ?_) (fun c => ?_)
    · have h := it_f h c
      refine Z_aload_n hC (dk d_X5_turns 10 rfl) 19 rfl rfl rfl ?_
      obtain ⟨q3, hq3, h⟩ := bd_some h
      refine K_X5_185 [] hC m_5 (s_X5_setRights (xG x) (xl x) N q2.2 q3 hq3) (Nat.le_of_ble_eq_true rfl) rfl rfl rfl (Nat.le_of_ble_eq_true rfl) (dk d_X5_turns 11 rfl) 22 rfl ?_
      refine Z_aload_n hC (dk d_X5_turns 12 rfl) 23 rfl rfl rfl ?_
      refine Z_aload_n hC (dk d_X5_turns 13 rfl) 24 rfl rfl rfl ?_
      refine G_X5_128 hC m_5 (dk d_X5_turns 14 rfl) 27 rfl ?_
      obtain ⟨q4, hq4, h⟩ := bd_some h
      refine K_X5_215 [vi (gI q3 524 0)] hC m_5 (s_X5_cans (xG x) (xl x) N (gI q3 524 0) q3 q4 hq4) (Nat.le_of_ble_eq_true rfl) rfl rfl rfl (Nat.le_of_ble_eq_true rfl) (dk d_X5_turns 15 rfl) 30 rfl ?_
      refine Z_pop hC (dk d_X5_turns 16 rfl) 31 rfl rfl ?_
      refine Z_aload_n hC (dk d_X5_turns 17 rfl) 32 rfl rfl rfl ?_
      refine G_X5_209 hC m_5 (dk d_X5_turns 18 rfl) 35 rfl ?_
      refine Z_if_ne hC (dk d_X5_turns 19 rfl) 38 44 rfl (by decide) (fun c => ?_) (fun c => ?_)
      · have h := it_f h c
        refine Z_lconst (v := 1) hC (dk d_X5_turns 24 rfl) 45 rfl (by decide) ?_
        refine Z_lstore_n hC (dk d_X5_turns 25 rfl) 46 rfl rfl (Nat.le_of_ble_eq_true rfl) [some (vr 5 0), some (vi a1), some (vi a2), some (vl (1 : Int64)), none, none] rfl ?_
        refine Z_iconst (v := 0) hC (dk d_X5_turns 26 rfl) 47 rfl (by decide) ?_
        refine Z_istore hC (dk d_X5_turns 27 rfl) 49 rfl (Nat.le_of_ble_eq_true rfl) [some (vr 5 0), some (vi a1), some (vi a2), some (vl (1 : Int64)), none, some (vi (0 : Int32))] rfl ?_
        obtain ⟨q7, hq7, h⟩ := bd_some h
        refine Z_wk [true, true, true, true, false, true] [some (vr 5 0), some (vi a1), some (vi a2), some (vl (1 : Int64)), none, some (vi (0 : Int32))] rfl ?_
        refine z_X5_turns_L1 hC hr N a1 a2 N (1 : Int64) (0 : Int32) q4.2 q7 hq7 ?_
        refine Z_aload_n hC (dk d_X5_turns 55 rfl) 105 rfl rfl rfl ?_
        refine Z_lconst (v := 0) hC (dk d_X5_turns 56 rfl) 106 rfl (by decide) ?_
        refine P_X5_218 hC m_5 (dk d_X5_turns 57 rfl) 109 rfl ?_
        refine Z_aload_n hC (dk d_X5_turns 58 rfl) 110 rfl rfl rfl ?_
        refine Z_aload_n hC (dk d_X5_turns 59 rfl) 111 rfl rfl rfl ?_
        refine G_X5_128 hC m_5 (dk d_X5_turns 60 rfl) 114 rfl ?_
        refine Z_iload_n hC (dk d_X5_turns 61 rfl) 115 rfl rfl rfl ?_
        refine Z_iload_n hC (dk d_X5_turns 62 rfl) 116 rfl rfl rfl ?_
        refine Z_lconst (v := 1) hC (dk d_X5_turns 63 rfl) 117 rfl (by decide) ?_
        obtain ⟨q8, hq8, h⟩ := bd_some h
        refine K_X5_221 [vi (gI (sL q7.2 527 0 (0 : Int64)) 524 0), vi a1, vi a2, vl (1 : Int64)] hC m_5 (s_X5_turnOn (xG x) (xl x) N 8 (gI (sL q7.2 527 0 (0 : Int64)) 524 0) a1 a2 (1 : Int64) (sL q7.2 527 0 (0 : Int64)) q8 hq8) (Nat.le_of_ble_eq_true rfl) rfl rfl rfl (Nat.le_of_ble_eq_true rfl) (dk d_X5_turns 64 rfl) 120 rfl ?_
        refine Z_iconst (v := 0) hC (dk d_X5_turns 65 rfl) 121 rfl (by decide) ?_
        refine Z_istore hC (dk d_X5_turns 66 rfl) 123 rfl (Nat.le_of_ble_eq_true rfl) [some (vr 5 0), some (vi a1), some (vi a2), some (vl q7.1), none, some (vi (0 : Int32))] rfl ?_
        obtain ⟨q11, hq11, h⟩ := bd_some h
        refine Z_wk [true, false, false, true, false, true] [some (vr 5 0), none, none, some (vl q7.1), none, some (vi (0 : Int32))] rfl ?_
        refine z_X5_turns_L2 hC hr N q7.1 N (0 : Int32) q8 q11 hq11 ?_
        refine Z_aload_n hC (dk d_X5_turns 80 rfl) 151 rfl rfl rfl ?_
        refine Z_aload_n hC (dk d_X5_turns 81 rfl) 152 rfl rfl rfl ?_
        refine G_X5_218 hC m_5 (dk d_X5_turns 82 rfl) 155 rfl ?_
        refine Z_lload_n hC (dk d_X5_turns 83 rfl) 156 rfl rfl rfl ?_
        refine Z_iconst (v := 1) hC (dk d_X5_turns 84 rfl) 157 rfl (by decide) ?_
        obtain ⟨q12, hq12, h⟩ := bd_some h
        refine K_X5_227 [vl (gL q11 527 0), vl q7.1, vi (1 : Int32)] hC m_5 (s_X5_part (xG x) (xl x) N (gL q11 527 0) q7.1 (1 : Int32) q11 q12 hq12) (Nat.le_of_ble_eq_true rfl) rfl rfl rfl (Nat.le_of_ble_eq_true rfl) (dk d_X5_turns 85 rfl) 160 rfl ?_
        obtain rfl := Option.some.inj h
        exact Z_ireturn (st := []) hC hr hQ (dk d_X5_turns 86 rfl)
      · have h := it_t h c
        refine Z_aload_n hC (dk d_X5_turns 20 rfl) 39 rfl rfl rfl ?_
        refine Z_iconst (v := 4) hC (dk d_X5_turns 21 rfl) 40 rfl (by decide) ?_
        obtain ⟨q13, hq13, h⟩ := bd_some h
        refine K_X5_80 [vi (4 : Int32)] hC m_5 (s_X5_meet (xG x) (xl x) N (4 : Int32) q4.2 q13 hq13) (Nat.le_of_ble_eq_true rfl) rfl rfl rfl (Nat.le_of_ble_eq_true rfl) (dk d_X5_turns 22 rfl) 43 rfl ?_
        obtain rfl := Option.some.inj h
        exact Z_ireturn (st := []) hC hr hQ (dk d_X5_turns 23 rfl)
    · have h := it_t h c
      refine Z_iconst (v := -1) hC (dk d_X5_turns 8 rfl) 17 rfl (by decide) ?_
      obtain rfl := Option.some.inj h
      exact Z_ireturn (st := []) hC hr hQ (dk d_X5_turns 9 rfl)
