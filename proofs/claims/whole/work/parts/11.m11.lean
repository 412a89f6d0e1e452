def t_X0_against : List (Nat × Instr × Nat) := [(0, .iload_n 2, 1), (1, .iload_n 1, 1), (2, .invokestatic 44, 3), (5, .istore_n 3, 1), (6, .aload_n 0, 1), (7, .iload_n 1, 1), (8, .iload_n 3, 1), (9, .invokevirtual 59, 3), (12, .istore 4, 2), (14, .iload 4, 2), (16, .ifCond .ne 23, 3), (19, .iload_n 2, 1), (20, .iload_n 3, 1), (21, .invokestatic 44, 3), (24, .iload_n 1, 1), (25, .if_icmp .ne 14, 3), (28, .aload_n 0, 1), (29, .iload_n 1, 1), (30, .iload_n 3, 1), (31, .invokevirtual 62, 3), (34, .ifCond .eq 5, 3), (37, .iconst 5, 1), (38, .ireturn, 1), (39, .iload 4, 2), (41, .ireturn, 1)]
set_option maxRecDepth 20000 in
theorem d_X0_against : ∀ q ∈ t_X0_against, decode cX0_against q.1 = .ok q.2 := by decide +kernel
noncomputable def f_X0_against (N : Nat) (i : Nat) (a1 : Int32) (a2 : Int32) (w : Wd) : Option (Int32 × Wd) :=
  (f_X4_paper N a2 a1 w).bind (fun q1 =>
    (f_X0_barrier N i a1 q1.1 q1.2).bind (fun q2 =>
      if q2.1 = 0 then
        (f_X4_paper N a2 q1.1 q2.2).bind (fun q3 =>
          if q3.1 = a1 then
            (f_X0_minds N i a1 q1.1 q3.2).bind (fun q4 =>
              if q4.1 = 0 then
                some (q2.1, q4.2)
              else
                some ((5 : Int32), q4.2))
          else
            some (q2.1, q3.2))
      else
        some (q2.1, q2.2)))
set_option maxRecDepth 20000 in
set_option maxHeartbeats 4000000 in
theorem s_X0_against (G : GT) (l : Launch) (N : Nat) (i : Nat) (hi : i < 2) (a1 : Int32) (a2 : Int32) (w : Wd) (q : Int32 × Wd) (h : f_X0_against N i a1 a2 w = some q) : Sp G l yX0_against cw_X0_against 3 [vr 3 i, vi a1, vi a2] w (some (vi q.1)) q.2 := by
  refine Sp_of (own := RX0) [some (vr 3 i), some (vi a1), some (vi a2), none, none] (by decide) rfl rfl (Nat.le_of_ble_eq_true rfl) ?_
  intro x hG hl hC hr hQ _ _
  subst hG
  subst hl
  unfold f_X0_against at h
  refine Z_iload_n hC (dk d_X0_against 0 rfl) 1 rfl rfl rfl ?_
  refine Z_iload_n hC (dk d_X0_against 1 rfl) 2 rfl rfl rfl ?_
  obtain ⟨q1, hq1, h⟩ := bd_some h
  refine K_X0_44 [vi a2, vi a1] hC (s_X4_paper (xG x) (xl x) N a2 a1 w q1 hq1) (Nat.le_of_ble_eq_true rfl) rfl rfl rfl (Nat.le_of_ble_eq_true rfl) (dk d_X0_against 2 rfl) 5 rfl ?_
  refine Z_istore_n hC (dk d_X0_against 3 rfl) 6 rfl rfl (Nat.le_of_ble_eq_true rfl) [some (vr 3 i), some (vi a1), some (vi a2), some (vi q1.1), none] rfl ?_
  refine Z_aload_n hC (dk d_X0_against 4 rfl) 7 rfl rfl rfl ?_
  refine Z_iload_n hC (dk d_X0_against 5 rfl) 8 rfl rfl rfl ?_
  refine Z_iload_n hC (dk d_X0_against 6 rfl) 9 rfl rfl rfl ?_
  obtain ⟨q2, hq2, h⟩ := bd_some h
  refine K_X0_59 [vi a1, vi q1.1] hC (m_3 hi) (s_X0_barrier (xG x) (xl x) N i hi a1 q1.1 q1.2 q2 hq2) (Nat.le_of_ble_eq_true rfl) rfl rfl rfl (Nat.le_of_ble_eq_true rfl) (dk d_X0_against 7 rfl) 12 rfl ?_
  refine Z_istore hC (dk d_X0_against 8 rfl) 14 rfl (Nat.le_of_ble_eq_true rfl) [some (vr 3 i), some (vi a1), some (vi a2), some (vi q1.1), some (vi q2.1)] rfl ?_
  refine Z_iload hC (dk d_X0_against 9 rfl) 16 rfl rfl ?_
  refine Z_if_ne hC (dk d_X0_against 10 rfl) 19 39 rfl (by decide) (fun c => ?_) (fun c => ?_)
  · have h := it_f h c
    refine Z_iload hC (dk d_X0_against 23 rfl) 41 rfl rfl ?_
    obtain rfl := Option.some.inj h
    exact Z_ireturn (st := []) hC hr hQ (dk d_X0_against 24 rfl)
  · have h := it_t h c
    refine Z_iload_n hC (dk d_X0_against 11 rfl) 20 rfl rfl rfl ?_
    refine Z_iload_n hC (dk d_X0_against 12 rfl) 21 rfl rfl rfl ?_
    obtain ⟨q3, hq3, h⟩ := bd_some h
    refine K_X0_44 [vi a2, vi q1.1] hC (s_X4_paper (xG x) (xl x) N a2 q1.1 q2.2 q3 hq3) (Nat.le_of_ble_eq_true rfl) rfl rfl rfl (Nat.le_of_ble_eq_true rfl) (dk d_X0_against 13 rfl) 24 rfl ?_
    refine Z_iload_n hC (dk d_X0_against 14 rfl) 25 rfl rfl rfl ?_
    refine Z_icmp_ne hC (dk d_X0_against 15 rfl) 28 39 rfl (by decide) (fun c => ?_) (fun c => ?_)
    · have h := it_f h c
      refine Z_iload hC (dk d_X0_against 23 rfl) 41 rfl rfl ?_
      obtain rfl := Option.some.inj h
      exact Z_ireturn (st := []) hC hr hQ (dk d_X0_against 24 rfl)
    · have h := it_t h c
      refine Z_aload_n hC (dk d_X0_against 16 rfl) 29 rfl rfl rfl ?_
      refine Z_iload_n hC (dk d_X0_against 17 rfl) 30 rfl rfl rfl ?_
      refine Z_iload_n hC (dk d_X0_against 18 rfl) 31 rfl rfl rfl ?_
      obtain ⟨q4, hq4, h⟩ := bd_some h
      refine K_X0_62 [vi a1, vi q1.1] hC (m_3 hi) (s_X0_minds (xG x) (xl x) N i hi a1 q1.1 q3.2 q4 hq4) (Nat.le_of_ble_eq_true rfl) rfl rfl rfl (Nat.le_of_ble_eq_true rfl) (dk d_X0_against 19 rfl) 34 rfl ?_
      refine Z_if_eq hC (dk d_X0_against 20 rfl) 37 39 rfl (by decide) (fun c => ?_) (fun c => ?_)
      · have h := it_t h c
        refine Z_iload hC (dk d_X0_against 23 rfl) 41 rfl rfl ?_
        obtain rfl := Option.some.inj h
        exact Z_ireturn (st := []) hC hr hQ (dk d_X0_against 24 rfl)
      · have h := it_f h c
        refine Z_iconst (v := 5) hC (dk d_X0_against 21 rfl) 38 rfl (by decide) ?_
        obtain rfl := Option.some.inj h
        exact Z_ireturn (st := []) hC hr hQ (dk d_X0_against 22 rfl)
def t_X4_ringOf : List (Nat × Instr × Nat) := [(0, .iconst 0, 1), (1, .istore_n 2, 1), (2, .iload_n 1, 1), (3, .istore_n 3, 1), (4, .iconst 0, 1), (5, .istore 4, 2), (7, .iload 4, 2), (9, .bipush 6, 2), (11, .if_icmp .ge 21, 3), (14, .iload_n 2, 1), (15, .iconst 1, 1), (16, .iload_n 3, 1), (17, .ishl, 1), (18, .ior, 1), (19, .istore_n 2, 1), (20, .iload_n 0, 1), (21, .iload_n 3, 1), (22, .invokestatic 222, 3), (25, .istore_n 3, 1), (26, .iinc 4 1, 3), (29, .goto (-22), 3), (32, .iload_n 2, 1), (33, .ireturn, 1)]
set_option maxRecDepth 20000 in
theorem d_X4_ringOf : ∀ q ∈ t_X4_ringOf, decode cX4_ringOf q.1 = .ok q.2 := by decide +kernel
noncomputable def X4_ringOf_L1 (N : Nat) (x0 : Int32) : Nat → Int32 → Int32 → Int32 → Wd → Option (Int32 × Wd)
  | 0, _, _, _, _ => none
  | n + 1, x2, x3, x4, w =>
  if (6 : Int32) ≤ x4 then
    some (x2, w)
  else
    (f_X4_paper N x0 x3 w).bind (fun q1 =>
      X4_ringOf_L1 N x0 n (x2 ||| ((1 : Int32) <<< (x3 &&& (31 : Int32)))) q1.1 (x4 + (1 : Int32)) q1.2)
set_option maxRecDepth 20000 in
set_option maxHeartbeats 4000000 in
theorem z_X4_ringOf_L1 {x : CX} (hC : Cx x RX4 cX4_ringOf 5 1) (hr : (xM x).sig.returnType = (some .int)) (N : Nat) (x0 : Int32) : ∀ (n : Nat) (x2 : Int32) (x3 : Int32) (x4 : Int32) (w : Wd) (q : (Int32 × Wd)), X4_ringOf_L1 N x0 n x2 x3 x4 w = some q → Z x 32 [none, none, some (vi q.1), none, none] [] q.2 → Z x 7 [some (vi x0), none, some (vi x2), some (vi x3), some (vi x4)] [] w := by
  intro n
  induction n with
  | zero =>
    intro x2 x3 x4 w q h
    cases h
  | succ n ih =>
    intro x2 x3 x4 w q h ke
    rw [X4_ringOf_L1] at h
    refine Z_iload hC (dk d_X4_ringOf 6 rfl) 9 rfl rfl ?_
    refine Z_bipush (v := 6) hC (dk d_X4_ringOf 7 rfl) 11 rfl (by decide) ?_
    refine Z_icmp_ge hC (dk d_X4_ringOf 8 rfl) 14 32 rfl (by decide) (fun c => ?_) (fun c => ?_)
    · have h := it_t h c
      obtain rfl := Option.some.inj h
      refine Z_wk [false, false, true, false, false] [none, none, some (vi x2), none, none] rfl ?_
      exact ke
    · have h := it_f h c
      refine Z_iload_n hC (dk d_X4_ringOf 9 rfl) 15 rfl rfl rfl ?_
      refine Z_iconst (v := 1) hC (dk d_X4_ringOf 10 rfl) 16 rfl (by decide) ?_
      refine Z_iload_n hC (dk d_X4_ringOf 11 rfl) 17 rfl rfl rfl ?_
      refine Z_ishl hC (dk d_X4_ringOf 12 rfl) 18 rfl ?_
      refine Z_ior hC (dk d_X4_ringOf 13 rfl) 19 rfl ?_
      refine Z_istore_n hC (dk d_X4_ringOf 14 rfl) 20 rfl rfl (Nat.le_of_ble_eq_true rfl) [some (vi x0), none, some (vi (x2 ||| ((1 : Int32) <<< (x3 &&& (31 : Int32))))), some (vi x3), some (vi x4)] rfl ?_
      refine Z_iload_n hC (dk d_X4_ringOf 15 rfl) 21 rfl rfl rfl ?_
      refine Z_iload_n hC (dk d_X4_ringOf 16 rfl) 22 rfl rfl rfl ?_
      obtain ⟨q1, hq1, h⟩ := bd_some h
      refine K_X4_222 [vi x0, vi x3] hC (s_X4_paper (xG x) (xl x) N x0 x3 w q1 hq1) (Nat.le_of_ble_eq_true rfl) rfl rfl rfl (Nat.le_of_ble_eq_true rfl) (dk d_X4_ringOf 17 rfl) 25 rfl ?_
      refine Z_istore_n hC (dk d_X4_ringOf 18 rfl) 26 rfl rfl (Nat.le_of_ble_eq_true rfl) [some (vi x0), none, some (vi (x2 ||| ((1 : Int32) <<< (x3 &&& (31 : Int32))))), some (vi q1.1), some (vi x4)] rfl ?_
      refine Z_iinc hC (dk d_X4_ringOf 19 rfl) 29 rfl rfl rfl [some (vi x0), none, some (vi (x2 ||| ((1 : Int32) <<< (x3 &&& (31 : Int32))))), some (vi q1.1), some (vi (x4 + (1 : Int32)))] rfl ?_
      refine Z_goto hC (dk d_X4_ringOf 20 rfl) 7 (by decide) ?_
      refine Z_wk [true, false, true, true, true] [some (vi x0), none, some (vi (x2 ||| ((1 : Int32) <<< (x3 &&& (31 : Int32))))), some (vi q1.1), some (vi (x4 + (1 : Int32)))] rfl ?_
      exact ih (x2 ||| ((1 : Int32) <<< (x3 &&& (31 : Int32)))) q1.1 (x4 + (1 : Int32)) q1.2 _ h ke
noncomputable def f_X4_ringOf (N : Nat) (a1 : Int32) (a2 : Int32) (w : Wd) : Option (Int32 × Wd) :=
  (X4_ringOf_L1 N a1 N (0 : Int32) a2 (0 : Int32) w).bind (fun q2 =>
    some (q2.1, q2.2))
set_option maxRecDepth 20000 in
set_option maxHeartbeats 4000000 in
theorem s_X4_ringOf (G : GT) (l : Launch) (N : Nat) (a1 : Int32) (a2 : Int32) (w : Wd) (q : Int32 × Wd) (h : f_X4_ringOf N a1 a2 w = some q) : Sp G l yX4_ringOf cw_X4_ringOf 1 [vi a1, vi a2] w (some (vi q.1)) q.2 := by
  refine Sp_of (own := RX4) [some (vi a1), some (vi a2), none, none, none] (by decide) rfl rfl (Nat.le_of_ble_eq_true rfl) ?_
  intro x hG hl hC hr hQ _ _
  subst hG
  subst hl
  unfold f_X4_ringOf at h
  refine Z_iconst (v := 0) hC (dk d_X4_ringOf 0 rfl) 1 rfl (by decide) ?_
  refine Z_istore_n hC (dk d_X4_ringOf 1 rfl) 2 rfl rfl (Nat.le_of_ble_eq_true rfl) [some (vi a1), some (vi a2), some (vi (0 : Int32)), none, none] rfl ?_
  refine Z_iload_n hC (dk d_X4_ringOf 2 rfl) 3 rfl rfl rfl ?_
  refine Z_istore_n hC (dk d_X4_ringOf 3 rfl) 4 rfl rfl (Nat.le_of_ble_eq_true rfl) [some (vi a1), some (vi a2), some (vi (0 : Int32)), some (vi a2), none] rfl ?_
  refine Z_iconst (v := 0) hC (dk d_X4_ringOf 4 rfl) 5 rfl (by decide) ?_
  refine Z_istore hC (dk d_X4_ringOf 5 rfl) 7 rfl (Nat.le_of_ble_eq_true rfl) [some (vi a1), some (vi a2), some (vi (0 : Int32)), some (vi a2), some (vi (0 : Int32))] rfl ?_
  obtain ⟨q2, hq2, h⟩ := bd_some h
  refine Z_wk [true, false, true, true, true] [some (vi a1), none, some (vi (0 : Int32)), some (vi a2), some (vi (0 : Int32))] rfl ?_
  refine z_X4_ringOf_L1 hC hr N a1 N (0 : Int32) a2 (0 : Int32) w q2 hq2 ?_
  refine Z_iload_n hC (dk d_X4_ringOf 21 rfl) 33 rfl rfl rfl ?_
  obtain rfl := Option.some.inj h
  exact Z_ireturn (st := []) hC hr hQ (dk d_X4_ringOf 22 rfl)
def t_X4_ringCount : List (Nat × Instr × Nat) := [(0, .iconst 0, 1), (1, .istore_n 2, 1), (2, .iconst 0, 1), (3, .istore_n 3, 1), (4, .iconst 0, 1), (5, .istore 4, 2), (7, .iload 4, 2), (9, .iload_n 1, 1), (10, .if_icmp .ge 30, 3), (13, .iload_n 2, 1), (14, .iload 4, 2), (16, .ishr, 1), (17, .iconst 1, 1), (18, .iand, 1), (19, .ifCond .ne 15, 3), (22, .iload_n 2, 1), (23, .iload_n 0, 1), (24, .iload 4, 2), (26, .invokestatic 277, 3), (29, .ior, 1), (30, .istore_n 2, 1), (31, .iinc 3 1, 3), (34, .iinc 4 1, 3), (37, .goto (-30), 3), (40, .iload_n 3, 1), (41, .ireturn, 1)]
set_option maxRecDepth 20000 in
theorem d_X4_ringCount : ∀ q ∈ t_X4_ringCount, decode cX4_ringCount q.1 = .ok q.2 := by decide +kernel
noncomputable def X4_ringCount_L1 (N : Nat) (x0 : Int32) (x1 : Int32) : Nat → Int32 → Int32 → Int32 → Wd → Option (Int32 × Wd)
  | 0, _, _, _, _ => none
  | n + 1, x2, x3, x4, w =>
  if x1 ≤ x4 then
    some (x3, w)
  else
    if ((x2 >>> (x4 &&& (31 : Int32))) &&& (1 : Int32)) = 0 then
      (f_X4_ringOf N x0 x4 w).bind (fun q1 =>
        X4_ringCount_L1 N x0 x1 n (x2 ||| q1.1) (x3 + (1 : Int32)) (x4 + (1 : Int32)) q1.2)
    else
      X4_ringCount_L1 N x0 x1 n x2 x3 (x4 + (1 : Int32)) w
set_option maxRecDepth 20000 in
set_option maxHeartbeats 4000000 in
theorem z_X4_ringCount_L1 {x : CX} (hC : Cx x RX4 cX4_ringCount 5 2) (hr : (xM x).sig.returnType = (some .int)) (N : Nat) (x0 : Int32) (x1 : Int32) : ∀ (n : Nat) (x2 : Int32) (x3 : Int32) (x4 : Int32) (w : Wd) (q : (Int32 × Wd)), X4_ringCount_L1 N x0 x1 n x2 x3 x4 w = some q → Z x 40 [none, none, none, some (vi q.1), none] [] q.2 → Z x 7 [some (vi x0), some (vi x1), some (vi x2), some (vi x3), some (vi x4)] [] w := by
  intro n
  induction n with
  | zero =>
    intro x2 x3 x4 w q h
    cases h
  | succ n ih =>
    intro x2 x3 x4 w q h ke
    rw [X4_ringCount_L1] at h
    refine Z_iload hC (dk d_X4_ringCount 6 rfl) 9 rfl rfl ?_
    refine Z_iload_n hC (dk d_X4_ringCount 7 rfl) 10 rfl rfl rfl ?_
    refine Z_icmp_ge hC (dk d_X4_ringCount 8 rfl) 13 40 rfl (by decide) (fun c => ?_) (fun c => ?_)
    · have h := it_t h c
      obtain rfl := Option.some.inj h
      refine Z_wk [false, false, false, true, false] [none, none, none, some (vi x3), none] rfl ?_
      exact ke
    · have h := it_f h c
      refine Z_iload_n hC (dk d_X4_ringCount 9 rfl) 14 rfl rfl rfl ?_
      refine Z_iload hC (dk d_X4_ringCount 10 rfl) 16 rfl rfl ?_
      refine Z_ishr hC (dk d_X4_ringCount 11 rfl) 17 rfl ?_
      refine Z_iconst (v := 1) hC (dk d_X4_ringCount 12 rfl) 18 rfl (by decide) ?_
      refine Z_iand hC (dk d_X4_ringCount 13 rfl) 19 rfl ?_
      refine Z_if_ne hC (dk d_X4_ringCount 14 rfl) 22 34 rfl (by decide) (fun c => ?_) (fun c => ?_)
      · have h := it_f h c
        refine Z_iinc hC (dk d_X4_ringCount 22 rfl) 37 rfl rfl rfl [some (vi x0), some (vi x1), some (vi x2), some (vi x3), some (vi (x4 + (1 : Int32)))] rfl ?_
        refine Z_goto hC (dk d_X4_ringCount 23 rfl) 7 (by decide) ?_
        refine Z_wk [true, true, true, true, true] [some (vi x0), some (vi x1), some (vi x2), some (vi x3), some (vi (x4 + (1 : Int32)))] rfl ?_
        exact ih x2 x3 (x4 + (1 : Int32)) w _ h ke
      · have h := it_t h c
        refine Z_iload_n hC (dk d_X4_ringCount 15 rfl) 23 rfl rfl rfl ?_
        refine Z_iload_n hC (dk d_X4_ringCount 16 rfl) 24 rfl rfl rfl ?_
        refine Z_iload hC (dk d_X4_ringCount 17 rfl) 26 rfl rfl ?_
        obtain ⟨q1, hq1, h⟩ := bd_some h
        refine K_X4_277 [vi x0, vi x4] hC (s_X4_ringOf (xG x) (xl x) N x0 x4 w q1 hq1) (Nat.le_of_ble_eq_true rfl) rfl rfl rfl (Nat.le_of_ble_eq_true rfl) (dk d_X4_ringCount 18 rfl) 29 rfl ?_
        refine Z_ior hC (dk d_X4_ringCount 19 rfl) 30 rfl ?_
        refine Z_istore_n hC (dk d_X4_ringCount 20 rfl) 31 rfl rfl (Nat.le_of_ble_eq_true rfl) [some (vi x0), some (vi x1), some (vi (x2 ||| q1.1)), some (vi x3), some (vi x4)] rfl ?_
        refine Z_iinc hC (dk d_X4_ringCount 21 rfl) 34 rfl rfl rfl [some (vi x0), some (vi x1), some (vi (x2 ||| q1.1)), some (vi (x3 + (1 : Int32))), some (vi x4)] rfl ?_
        refine Z_iinc hC (dk d_X4_ringCount 22 rfl) 37 rfl rfl rfl [some (vi x0), some (vi x1), some (vi (x2 ||| q1.1)), some (vi (x3 + (1 : Int32))), some (vi (x4 + (1 : Int32)))] rfl ?_
        refine Z_goto hC (dk d_X4_ringCount 23 rfl) 7 (by decide) ?_
        refine Z_wk [true, true, true, true, true] [some (vi x0), some (vi x1), some (vi (x2 ||| q1.1)), some (vi (x3 + (1 : Int32))), some (vi (x4 + (1 : Int32)))] rfl ?_
        exact ih (x2 ||| q1.1) (x3 + (1 : Int32)) (x4 + (1 : Int32)) q1.2 _ h ke
noncomputable def f_X4_ringCount (N : Nat) (a1 : Int32) (a2 : Int32) (w : Wd) : Option (Int32 × Wd) :=
  (X4_ringCount_L1 N a1 a2 N (0 : Int32) (0 : Int32) (0 : Int32) w).bind (fun q2 =>
    some (q2.1, q2.2))
set_option maxRecDepth 20000 in
set_option maxHeartbeats 4000000 in
theorem s_X4_ringCount (G : GT) (l : Launch) (N : Nat) (a1 : Int32) (a2 : Int32) (w : Wd) (q : Int32 × Wd) (h : f_X4_ringCount N a1 a2 w = some q) : Sp G l yX4_ringCount cw_X4_ringCount 2 [vi a1, vi a2] w (some (vi q.1)) q.2 := by
  refine Sp_of (own := RX4) [some (vi a1), some (vi a2), none, none, none] (by decide) rfl rfl (Nat.le_of_ble_eq_true rfl) ?_
  intro x hG hl hC hr hQ _ _
  subst hG
  subst hl
  unfold f_X4_ringCount at h
  refine Z_iconst (v := 0) hC (dk d_X4_ringCount 0 rfl) 1 rfl (by decide) ?_
  refine Z_istore_n hC (dk d_X4_ringCount 1 rfl) 2 rfl rfl (Nat.le_of_ble_eq_true rfl) [some (vi a1), some (vi a2), some (vi (0 : Int32)), none, none] rfl ?_
  refine Z_iconst (v := 0) hC (dk d_X4_ringCount 2 rfl) 3 rfl (by decide) ?_
  refine Z_istore_n hC (dk d_X4_ringCount 3 rfl) 4 rfl rfl (Nat.le_of_ble_eq_true rfl) [some (vi a1), some (vi a2), some (vi (0 : Int32)), some (vi (0 : Int32)), none] rfl ?_
  refine Z_iconst (v := 0) hC (dk d_X4_ringCount 4 rfl) 5 rfl (by decide) ?_
  refine Z_istore hC (dk d_X4_ringCount 5 rfl) 7 rfl (Nat.le_of_ble_eq_true rfl) [some (vi a1), some (vi a2), some (vi (0 : Int32)), some (vi (0 : Int32)), some (vi (0 : Int32))] rfl ?_
  obtain ⟨q2, hq2, h⟩ := bd_some h
  refine Z_wk [true, true, true, true, true] [some (vi a1), some (vi a2), some (vi (0 : Int32)), some (vi (0 : Int32)), some (vi (0 : Int32))] rfl ?_
  refine z_X4_ringCount_L1 hC hr N a1 a2 N (0 : Int32) (0 : Int32) (0 : Int32) w q2 hq2 ?_
  refine Z_iload_n hC (dk d_X4_ringCount 24 rfl) 41 rfl rfl rfl ?_
  obtain rfl := Option.some.inj h
  exact Z_ireturn (st := []) hC hr hQ (dk d_X4_ringCount 25 rfl)
def t_X0_breaksRing : List (Nat × Instr × Nat) := [(0, .aload_n 0, 1), (1, .bipush 8, 2), (3, .invokevirtual 55, 3), (6, .ifCond .eq 19, 3), (9, .iload_n 1, 1), (10, .aload_n 0, 1), (11, .getfield 28, 3), (14, .invokestatic 65, 3), (17, .iconst 1, 1), (18, .if_icmp .le 7, 3), (21, .iconst 1, 1), (22, .goto 4, 3), (25, .iconst 0, 1), (26, .ireturn, 1)]
set_option maxRecDepth 20000 in
theorem d_X0_breaksRing : ∀ q ∈ t_X0_breaksRing, decode cX0_breaksRing q.1 = .ok q.2 := by decide +kernel
noncomputable def f_X0_breaksRing (N : Nat) (i : Nat) (a1 : Int32) (w : Wd) : Option (Int32 × Wd) :=
  (f_X0_isFor N i (8 : Int32) w).bind (fun q1 =>
    if q1.1 = 0 then
      some ((0 : Int32), q1.2)
    else
      (f_X4_ringCount N a1 (gI q1.2 4 i) q1.2).bind (fun q2 =>
        if q2.1 ≤ (1 : Int32) then
          some ((0 : Int32), q2.2)
        else
          some ((1 : Int32), q2.2)))
set_option maxRecDepth 20000 in
set_option maxHeartbeats 4000000 in
theorem s_X0_breaksRing (G : GT) (l : Launch) (N : Nat) (i : Nat) (hi : i < 2) (a1 : Int32) (w : Wd) (q : Int32 × Wd) (h : f_X0_breaksRing N i a1 w = some q) : Sp G l yX0_breaksRing cw_X0_breaksRing 3 [vr 3 i, vi a1] w (some (vi q.1)) q.2 := by
  refine Sp_of (own := RX0) [some (vr 3 i), some (vi a1)] (by decide) rfl rfl (Nat.le_of_ble_eq_true rfl) ?_
  intro x hG hl hC hr hQ _ _
  subst hG
  subst hl
  unfold f_X0_breaksRing at h
  refine Z_aload_n hC (dk d_X0_breaksRing 0 rfl) 1 rfl rfl rfl ?_
  refine Z_bipush (v := 8) hC (dk d_X0_breaksRing 1 rfl) 3 rfl (by decide) ?_
  obtain ⟨q1, hq1, h⟩ := bd_some h
  refine K_X0_55 [vi (8 : Int32)] hC (m_3 hi) (s_X0_isFor (xG x) (xl x) N i hi (8 : Int32) w q1 hq1) (Nat.le_of_ble_eq_true rfl) rfl rfl rfl (Nat.le_of_ble_eq_true rfl) (dk d_X0_breaksRing 2 rfl) 6 rfl ?_
  refine Z_if_eq hC (dk d_X0_breaksRing 3 rfl) 9 25 rfl (by decide) (fun c => ?_) (fun c => ?_)
  · have h := it_t h c
    refine Z_iconst (v := 0) hC (dk d_X0_breaksRing 12 rfl) 26 rfl (by decide) ?_
    obtain rfl := Option.some.inj h
    exact Z_zreturn (st := []) hC hr rfl hQ (dk d_X0_breaksRing 13 rfl)
  · have h := it_f h c
    refine Z_iload_n hC (dk d_X0_breaksRing 4 rfl) 10 rfl rfl rfl ?_
    refine Z_aload_n hC (dk d_X0_breaksRing 5 rfl) 11 rfl rfl rfl ?_
    refine G_X0_28 hC (m_3 hi) (dk d_X0_breaksRing 6 rfl) 14 rfl ?_
    obtain ⟨q2, hq2, h⟩ := bd_some h
    refine K_X0_65 [vi a1, vi (gI q1.2 4 i)] hC (s_X4_ringCount (xG x) (xl x) N a1 (gI q1.2 4 i) q1.2 q2 hq2) (Nat.le_of_ble_eq_true rfl) rfl rfl rfl (Nat.le_of_ble_eq_true rfl) (dk d_X0_breaksRing 7 rfl) 17 rfl ?_
    refine Z_iconst (v := 1) hC (dk d_X0_breaksRing 8 rfl) 18 rfl (by decide) ?_
    refine Z_icmp_le hC (dk d_X0_breaksRing 9 rfl) 21 25 rfl (by decide) (fun c => ?_) (fun c => ?_)
    · have h := it_t h c
      refine Z_iconst (v := 0) hC (dk d_X0_breaksRing 12 rfl) 26 rfl (by decide) ?_
      obtain rfl := Option.some.inj h
      exact Z_zreturn (st := []) hC hr rfl hQ (dk d_X0_breaksRing 13 rfl)
    · have h := it_f h c
      refine Z_iconst (v := 1) hC (dk d_X0_breaksRing 10 rfl) 22 rfl (by decide) ?_
      refine Z_goto hC (dk d_X0_breaksRing 11 rfl) 26 (by decide) ?_
      obtain rfl := Option.some.inj h
      exact Z_zreturn (st := []) hC hr rfl hQ (dk d_X0_breaksRing 13 rfl)
def t_X0_othersAtTable : List (Nat × Instr × Nat) := [(0, .iconst 0, 1), (1, .istore_n 2, 1), (2, .iconst 0, 1), (3, .istore_n 3, 1), (4, .iload_n 3, 1), (5, .aload_n 0, 1), (6, .getfield 28, 3), (9, .if_icmp .ge 32, 3), (12, .iload_n 3, 1), (13, .iload_n 1, 1), (14, .if_icmp .eq 21, 3), (17, .aload_n 0, 1), (18, .getfield 15, 3), (21, .iload_n 3, 1), (22, .iaload, 1), (23, .aload_n 0, 1), (24, .getfield 15, 3), (27, .iload_n 1, 1), (28, .iaload, 1), (29, .if_icmp .ne 6, 3), (32, .iinc 2 1, 3), (35, .iinc 3 1, 3), (38, .goto (-34), 3), (41, .iload_n 2, 1), (42, .ireturn, 1)]
set_option maxRecDepth 20000 in
theorem d_X0_othersAtTable : ∀ q ∈ t_X0_othersAtTable, decode cX0_othersAtTable q.1 = .ok q.2 := by decide +kernel
noncomputable def X0_othersAtTable_L1 (N : Nat) (i : Nat) (x1 : Int32) : Nat → Int32 → Int32 → Wd → Option (Int32 × Wd)
  | 0, _, _, _ => none
  | n + 1, x2, x3, w =>
  if (gI w 4 i) ≤ x3 then
    some (x2, w)
  else
    if x3 = x1 then
      X0_othersAtTable_L1 N i x1 n x2 (x3 + (1 : Int32)) w
    else
      gd (vp_in x3 6) (
      gd (vp_in x1 6) (
      if (gA w 17 i x3.toNatClampNeg) = (gA w 17 i x1.toNatClampNeg) then
        X0_othersAtTable_L1 N i x1 n (x2 + (1 : Int32)) (x3 + (1 : Int32)) w
      else
        X0_othersAtTable_L1 N i x1 n x2 (x3 + (1 : Int32)) w))
set_option maxRecDepth 20000 in
set_option maxHeartbeats 4000000 in
theorem z_X0_othersAtTable_L1 {x : CX} (hC : Cx x RX0 cX0_othersAtTable 4 0) (hr : (xM x).sig.returnType = (some .int)) (N : Nat) (i : Nat) (hi : i < 2) (x1 : Int32) : ∀ (n : Nat) (x2 : Int32) (x3 : Int32) (w : Wd) (q : (Int32 × Wd)), X0_othersAtTable_L1 N i x1 n x2 x3 w = some q → Z x 41 [none, none, some (vi q.1), none] [] q.2 → Z x 4 [some (vr 3 i), some (vi x1), some (vi x2), some (vi x3)] [] w := by
  intro n
  induction n with
  | zero =>
    intro x2 x3 w q h
    cases h
  | succ n ih =>
    intro x2 x3 w q h ke
    rw [X0_othersAtTable_L1] at h
    refine Z_iload_n hC (dk d_X0_othersAtTable 4 rfl) 5 rfl rfl rfl ?_
    refine Z_aload_n hC (dk d_X0_othersAtTable 5 rfl) 6 rfl rfl rfl ?_
    refine G_X0_28 hC (m_3 hi) (dk d_X0_othersAtTable 6 rfl) 9 rfl ?_
    refine Z_icmp_ge hC (dk d_X0_othersAtTable 7 rfl) 12 41 rfl (by decide) (fun c => ?_) (fun c => ?_)
    · have h := it_t h c
      obtain rfl := Option.some.inj h
      refine Z_wk [false, false, true, false] [none, none, some (vi x2), none] rfl ?_
      exact ke
    · have h := it_f h c
      refine Z_iload_n hC (dk d_X0_othersAtTable 8 rfl) 13 rfl rfl rfl ?_
      refine Z_iload_n hC (dk d_X0_othersAtTable 9 rfl) 14 rfl rfl rfl ?_
      refine Z_icmp_eq hC (dk d_X0_othersAtTable 10 rfl) 17 35 rfl (by decide) (fun c => ?_) (fun c => ?_)
      · have h := it_t h c
        refine Z_iinc hC (dk d_X0_othersAtTable 21 rfl) 38 rfl rfl rfl [some (vr 3 i), some (vi x1), some (vi x2), some (vi (x3 + (1 : Int32)))] rfl ?_
        refine Z_goto hC (dk d_X0_othersAtTable 22 rfl) 4 (by decide) ?_
        refine Z_wk [true, true, true, true] [some (vr 3 i), some (vi x1), some (vi x2), some (vi (x3 + (1 : Int32)))] rfl ?_
        exact ih x2 (x3 + (1 : Int32)) w _ h ke
      · have h := it_f h c
        refine Z_aload_n hC (dk d_X0_othersAtTable 11 rfl) 18 rfl rfl rfl ?_
        refine G_X0_15 hC (m_3 hi) (dk d_X0_othersAtTable 12 rfl) 21 rfl ?_
        refine Z_iload_n hC (dk d_X0_othersAtTable 13 rfl) 22 rfl rfl rfl ?_
        obtain ⟨g1, h⟩ := gd_some h
        refine Z_iaload hC (m_17 hi) (by decide) rfl g1 (dk d_X0_othersAtTable 14 rfl) 23 rfl ?_
        refine Z_aload_n hC (dk d_X0_othersAtTable 15 rfl) 24 rfl rfl rfl ?_
        refine G_X0_15 hC (m_3 hi) (dk d_X0_othersAtTable 16 rfl) 27 rfl ?_
        refine Z_iload_n hC (dk d_X0_othersAtTable 17 rfl) 28 rfl rfl rfl ?_
        obtain ⟨g2, h⟩ := gd_some h
        refine Z_iaload hC (m_17 hi) (by decide) rfl g2 (dk d_X0_othersAtTable 18 rfl) 29 rfl ?_
        refine Z_icmp_ne hC (dk d_X0_othersAtTable 19 rfl) 32 35 rfl (by decide) (fun c => ?_) (fun c => ?_)
        · have h := it_f h c
          refine Z_iinc hC (dk d_X0_othersAtTable 21 rfl) 38 rfl rfl rfl [some (vr 3 i), some (vi x1), some (vi x2), some (vi (x3 + (1 : Int32)))] rfl ?_
          refine Z_goto hC (dk d_X0_othersAtTable 22 rfl) 4 (by decide) ?_
          refine Z_wk [true, true, true, true] [some (vr 3 i), some (vi x1), some (vi x2), some (vi (x3 + (1 : Int32)))] rfl ?_
          exact ih x2 (x3 + (1 : Int32)) w _ h ke
        · have h := it_t h c
          refine Z_iinc hC (dk d_X0_othersAtTable 20 rfl) 35 rfl rfl rfl [some (vr 3 i), some (vi x1), some (vi (x2 + (1 : Int32))), some (vi x3)] rfl ?_
          refine Z_iinc hC (dk d_X0_othersAtTable 21 rfl) 38 rfl rfl rfl [some (vr 3 i), some (vi x1), some (vi (x2 + (1 : Int32))), some (vi (x3 + (1 : Int32)))] rfl ?_
          refine Z_goto hC (dk d_X0_othersAtTable 22 rfl) 4 (by decide) ?_
          refine Z_wk [true, true, true, true] [some (vr 3 i), some (vi x1), some (vi (x2 + (1 : Int32))), some (vi (x3 + (1 : Int32)))] rfl ?_
          exact ih (x2 + (1 : Int32)) (x3 + (1 : Int32)) w _ h ke
noncomputable def f_X0_othersAtTable (N : Nat) (i : Nat) (a1 : Int32) (w : Wd) : Option (Int32 × Wd) :=
  (X0_othersAtTable_L1 N i a1 N (0 : Int32) (0 : Int32) w).bind (fun q3 =>
    some (q3.1, q3.2))
set_option maxRecDepth 20000 in
set_option maxHeartbeats 4000000 in
theorem s_X0_othersAtTable (G : GT) (l : Launch) (N : Nat) (i : Nat) (hi : i < 2) (a1 : Int32) (w : Wd) (q : Int32 × Wd) (h : f_X0_othersAtTable N i a1 w = some q) : Sp G l yX0_othersAtTable cw_X0_othersAtTable 0 [vr 3 i, vi a1] w (some (vi q.1)) q.2 := by
  refine Sp_of (own := RX0) [some (vr 3 i), some (vi a1), none, none] (by decide) rfl rfl (Nat.le_of_ble_eq_true rfl) ?_
  intro x hG hl hC hr hQ _ _
  subst hG
  subst hl
  unfold f_X0_othersAtTable at h
  refine Z_iconst (v := 0) hC (dk d_X0_othersAtTable 0 rfl) 1 rfl (by decide) ?_
  refine Z_istore_n hC (dk d_X0_othersAtTable 1 rfl) 2 rfl rfl (Nat.le_of_ble_eq_true rfl) [some (vr 3 i), some (vi a1), some (vi (0 : Int32)), none] rfl ?_
  refine Z_iconst (v := 0) hC (dk d_X0_othersAtTable 2 rfl) 3 rfl (by decide) ?_
  refine Z_istore_n hC (dk d_X0_othersAtTable 3 rfl) 4 rfl rfl (Nat.le_of_ble_eq_true rfl) [some (vr 3 i), some (vi a1), some (vi (0 : Int32)), some (vi (0 : Int32))] rfl ?_
  obtain ⟨q3, hq3, h⟩ := bd_some h
  refine Z_wk [true, true, true, true] [some (vr 3 i), some (vi a1), some (vi (0 : Int32)), some (vi (0 : Int32))] rfl ?_
  refine z_X0_othersAtTable_L1 hC hr N i hi a1 N (0 : Int32) (0 : Int32) w q3 hq3 ?_
  refine Z_iload_n hC (dk d_X0_othersAtTable 23 rfl) 42 rfl rfl rfl ?_
  obtain rfl := Option.some.inj h
  exact Z_ireturn (st := []) hC hr hQ (dk d_X0_othersAtTable 24 rfl)
def t_X0_yearsPaired : List (Nat × Instr × Nat) := [(0, .iconst 0, 1), (1, .istore_n 2, 1), (2, .iconst 0, 1), (3, .istore_n 3, 1), (4, .iload_n 3, 1), (5, .aload_n 0, 1), (6, .getfield 31, 3), (9, .if_icmp .ge 35, 3), (12, .aload_n 0, 1), (13, .getfield 21, 3), (16, .iload_n 3, 1), (17, .iaload, 1), (18, .aload_n 0, 1), (19, .getfield 21, 3), (22, .iload_n 3, 1), (23, .iaload, 1), (24, .iload_n 1, 1), (25, .invokestatic 44, 3), (28, .invokestatic 44, 3), (31, .iload_n 1, 1), (32, .if_icmp .ne 6, 3), (35, .iinc 2 1, 3), (38, .iinc 3 1, 3), (41, .goto (-37), 3), (44, .iload_n 2, 1), (45, .ireturn, 1)]
set_option maxRecDepth 20000 in
theorem d_X0_yearsPaired : ∀ q ∈ t_X0_yearsPaired, decode cX0_yearsPaired q.1 = .ok q.2 := by decide +kernel
noncomputable def X0_yearsPaired_L1 (N : Nat) (i : Nat) (x1 : Int32) : Nat → Int32 → Int32 → Wd → Option (Int32 × Wd)
  | 0, _, _, _ => none
  | n + 1, x2, x3, w =>
  if (gI w 5 i) ≤ x3 then
    some (x2, w)
  else
    gd (vp_in x3 42) (
    gd (vp_in x3 42) (
    (f_X4_paper N (gA w 19 i x3.toNatClampNeg) x1 w).bind (fun q3 =>
      (f_X4_paper N (gA w 19 i x3.toNatClampNeg) q3.1 q3.2).bind (fun q4 =>
        if q4.1 = x1 then
          X0_yearsPaired_L1 N i x1 n (x2 + (1 : Int32)) (x3 + (1 : Int32)) q4.2
        else
          X0_yearsPaired_L1 N i x1 n x2 (x3 + (1 : Int32)) q4.2))))
set_option maxRecDepth 20000 in
set_option maxHeartbeats 4000000 in
theorem z_X0_yearsPaired_L1 {x : CX} (hC : Cx x RX0 cX0_yearsPaired 4 1) (hr : (xM x).sig.returnType = (some .int)) (N : Nat) (i : Nat) (hi : i < 2) (x1 : Int32) : ∀ (n : Nat) (x2 : Int32) (x3 : Int32) (w : Wd) (q : (Int32 × Wd)), X0_yearsPaired_L1 N i x1 n x2 x3 w = some q → Z x 44 [none, none, some (vi q.1), none] [] q.2 → Z x 4 [some (vr 3 i), some (vi x1), some (vi x2), some (vi x3)] [] w := by
  intro n
  induction n with
  | zero =>
    intro x2 x3 w q h
    cases h
  | succ n ih =>
    intro x2 x3 w q h ke
    rw [X0_yearsPaired_L1] at h
    refine Z_iload_n hC (dk d_X0_yearsPaired 4 rfl) 5 rfl rfl rfl ?_
    refine Z_aload_n hC (dk d_X0_yearsPaired 5 rfl) 6 rfl rfl rfl ?_
    refine G_X0_31 hC (m_3 hi) (dk d_X0_yearsPaired 6 rfl) 9 rfl ?_
    refine Z_icmp_ge hC (dk d_X0_yearsPaired 7 rfl) 12 44 rfl (by decide) (fun c => ?_) (fun c => ?_)
    · have h := it_t h c
      obtain rfl := Option.some.inj h
      refine Z_wk [false, false, true, false] [none, none, some (vi x2), none] rfl ?_
      exact ke
    · have h := it_f h c
      refine Z_aload_n hC (dk d_X0_yearsPaired 8 rfl) 13 rfl rfl rfl ?_
      refine G_X0_21 hC (m_3 hi) (dk d_X0_yearsPaired 9 rfl) 16 rfl ?_
      refine Z_iload_n hC (dk d_X0_yearsPaired 10 rfl) 17 rfl rfl rfl ?_
      obtain ⟨g1, h⟩ := gd_some h
      refine Z_iaload hC (m_19 hi) (by decide) rfl g1 (dk d_X0_yearsPaired 11 rfl) 18 rfl ?_
      refine Z_aload_n hC (dk d_X0_yearsPaired 12 rfl) 19 rfl rfl rfl ?_
      refine G_X0_21 hC (m_3 hi) (dk d_X0_yearsPaired 13 rfl) 22 rfl ?_
      refine Z_iload_n hC (dk d_X0_yearsPaired 14 rfl) 23 rfl rfl rfl ?_
      obtain ⟨g2, h⟩ := gd_some h
      refine Z_iaload hC (m_19 hi) (by decide) rfl g2 (dk d_X0_yearsPaired 15 rfl) 24 rfl ?_
      refine Z_iload_n hC (dk d_X0_yearsPaired 16 rfl) 25 rfl rfl rfl ?_
      obtain ⟨q3, hq3, h⟩ := bd_some h
      refine K_X0_44 [vi (gA w 19 i x3.toNatClampNeg), vi x1] hC (s_X4_paper (xG x) (xl x) N (gA w 19 i x3.toNatClampNeg) x1 w q3 hq3) (Nat.le_of_ble_eq_true rfl) rfl rfl rfl (Nat.le_of_ble_eq_true rfl) (dk d_X0_yearsPaired 17 rfl) 28 rfl ?_
      obtain ⟨q4, hq4, h⟩ := bd_some h
      refine K_X0_44 [vi (gA w 19 i x3.toNatClampNeg), vi q3.1] hC (s_X4_paper (xG x) (xl x) N (gA w 19 i x3.toNatClampNeg) q3.1 q3.2 q4 hq4) (Nat.le_of_ble_eq_true rfl) rfl rfl rfl (Nat.le_of_ble_eq_true rfl) (dk d_X0_yearsPaired 18 rfl) 31 rfl ?_
      refine Z_iload_n hC (dk d_X0_yearsPaired 19 rfl) 32 rfl rfl rfl ?_
      refine Z_icmp_ne hC (dk d_X0_yearsPaired 20 rfl) 35 38 rfl (by decide) (fun c => ?_) (fun c => ?_)
      · have h := it_f h c
        refine Z_iinc hC (dk d_X0_yearsPaired 22 rfl) 41 rfl rfl rfl [some (vr 3 i), some (vi x1), some (vi x2), some (vi (x3 + (1 : Int32)))] rfl ?_
        refine Z_goto hC (dk d_X0_yearsPaired 23 rfl) 4 (by decide) ?_
        refine Z_wk [true, true, true, true] [some (vr 3 i), some (vi x1), some (vi x2), some (vi (x3 + (1 : Int32)))] rfl ?_
        exact ih x2 (x3 + (1 : Int32)) q4.2 _ h ke
      · have h := it_t h c
        refine Z_iinc hC (dk d_X0_yearsPaired 21 rfl) 38 rfl rfl rfl [some (vr 3 i), some (vi x1), some (vi (x2 + (1 : Int32))), some (vi x3)] rfl ?_
        refine Z_iinc hC (dk d_X0_yearsPaired 22 rfl) 41 rfl rfl rfl [some (vr 3 i), some (vi x1), some (vi (x2 + (1 : Int32))), some (vi (x3 + (1 : Int32)))] rfl ?_
        refine Z_goto hC (dk d_X0_yearsPaired 23 rfl) 4 (by decide) ?_
        refine Z_wk [true, true, true, true] [some (vr 3 i), some (vi x1), some (vi (x2 + (1 : Int32))), some (vi (x3 + (1 : Int32)))] rfl ?_
        exact ih (x2 + (1 : Int32)) (x3 + (1 : Int32)) q4.2 _ h ke
noncomputable def f_X0_yearsPaired (N : Nat) (i : Nat) (a1 : Int32) (w : Wd) : Option (Int32 × Wd) :=
  (X0_yearsPaired_L1 N i a1 N (0 : Int32) (0 : Int32) w).bind (fun q5 =>
    some (q5.1, q5.2))
set_option maxRecDepth 20000 in
set_option maxHeartbeats 4000000 in
theorem s_X0_yearsPaired (G : GT) (l : Launch) (N : Nat) (i : Nat) (hi : i < 2) (a1 : Int32) (w : Wd) (q : Int32 × Wd) (h : f_X0_yearsPaired N i a1 w = some q) : Sp G l yX0_yearsPaired cw_X0_yearsPaired 1 [vr 3 i, vi a1] w (some (vi q.1)) q.2 := by
  refine Sp_of (own := RX0) [some (vr 3 i), some (vi a1), none, none] (by decide) rfl rfl (Nat.le_of_ble_eq_true rfl) ?_
  intro x hG hl hC hr hQ _ _
  subst hG
  subst hl
  unfold f_X0_yearsPaired at h
  refine Z_iconst (v := 0) hC (dk d_X0_yearsPaired 0 rfl) 1 rfl (by decide) ?_
  refine Z_istore_n hC (dk d_X0_yearsPaired 1 rfl) 2 rfl rfl (Nat.le_of_ble_eq_true rfl) [some (vr 3 i), some (vi a1), some (vi (0 : Int32)), none] rfl ?_
  refine Z_iconst (v := 0) hC (dk d_X0_yearsPaired 2 rfl) 3 rfl (by decide) ?_
  refine Z_istore_n hC (dk d_X0_yearsPaired 3 rfl) 4 rfl rfl (Nat.le_of_ble_eq_true rfl) [some (vr 3 i), some (vi a1), some (vi (0 : Int32)), some (vi (0 : Int32))] rfl ?_
  obtain ⟨q5, hq5, h⟩ := bd_some h
  refine Z_wk [true, true, true, true] [some (vr 3 i), some (vi a1), some (vi (0 : Int32)), some (vi (0 : Int32))] rfl ?_
  refine z_X0_yearsPaired_L1 hC hr N i hi a1 N (0 : Int32) (0 : Int32) w q5 hq5 ?_
  refine Z_iload_n hC (dk d_X0_yearsPaired 24 rfl) 45 rfl rfl rfl ?_
  obtain rfl := Option.some.inj h
  exact Z_ireturn (st := []) hC hr hQ (dk d_X0_yearsPaired 25 rfl)
def t_X0_worthier : List (Nat × Instr × Nat) := [(0, .iconst 0, 1), (1, .istore_n 2, 1), (2, .iconst 0, 1), (3, .istore_n 3, 1), (4, .iload_n 3, 1), (5, .aload_n 0, 1), (6, .getfield 28, 3), (9, .if_icmp .ge 27, 3), (12, .aload_n 0, 1), (13, .getfield 18, 3), (16, .iload_n 3, 1), (17, .iaload, 1), (18, .aload_n 0, 1), (19, .getfield 18, 3), (22, .iload_n 1, 1), (23, .iaload, 1), (24, .if_icmp .le 6, 3), (27, .iinc 2 1, 3), (30, .iinc 3 1, 3), (33, .goto (-29), 3), (36, .iload_n 2, 1), (37, .ireturn, 1)]
set_option maxRecDepth 20000 in
theorem d_X0_worthier : ∀ q ∈ t_X0_worthier, decode cX0_worthier q.1 = .ok q.2 := by decide +kernel
noncomputable def X0_worthier_L1 (N : Nat) (i : Nat) (x1 : Int32) : Nat → Int32 → Int32 → Wd → Option (Int32 × Wd)
  | 0, _, _, _ => none
  | n + 1, x2, x3, w =>
  if (gI w 4 i) ≤ x3 then
    some (x2, w)
  else
    gd (vp_in x3 6) (
    gd (vp_in x1 6) (
    if (gA w 18 i x3.toNatClampNeg) ≤ (gA w 18 i x1.toNatClampNeg) then
      X0_worthier_L1 N i x1 n x2 (x3 + (1 : Int32)) w
    else
      X0_worthier_L1 N i x1 n (x2 + (1 : Int32)) (x3 + (1 : Int32)) w))
set_option maxRecDepth 20000 in
set_option maxHeartbeats 4000000 in
theorem z_X0_worthier_L1 {x : CX} (hC : Cx x RX0 cX0_worthier 4 0) (hr : (xM x).sig.returnType = (some .int)) (N : Nat) (i : Nat) (hi : i < 2) (x1 : Int32) : ∀ (n : Nat) (x2 : Int32) (x3 : Int32) (w : Wd) (q : (Int32 × Wd)), X0_worthier_L1 N i x1 n x2 x3 w = some q → Z x 36 [none, none, some (vi q.1), none] [] q.2 → Z x 4 [some (vr 3 i), some (vi x1), some (vi x2), some (vi x3)] [] w := by
  intro n
  induction n with
  | zero =>
    intro x2 x3 w q h
    cases h
  | succ n ih =>
    intro x2 x3 w q h ke
    rw [X0_worthier_L1] at h
    refine Z_iload_n hC (dk d_X0_worthier 4 rfl) 5 rfl rfl rfl ?_
    refine Z_aload_n hC (dk d_X0_worthier 5 rfl) 6 rfl rfl rfl ?_
    refine G_X0_28 hC (m_3 hi) (dk d_X0_worthier 6 rfl) 9 rfl ?_
    refine Z_icmp_ge hC (dk d_X0_worthier 7 rfl) 12 36 rfl (by decide) (fun c => ?_) (fun c => ?_)
    · have h := it_t h c
      obtain rfl := Option.some.inj h
      refine Z_wk [false, false, true, false] [none, none, some (vi x2), none] rfl ?_
      exact ke
    · have h := it_f h c
      refine Z_aload_n hC (dk d_X0_worthier 8 rfl) 13 rfl rfl rfl ?_
      refine G_X0_18 hC (m_3 hi) (dk d_X0_worthier 9 rfl) 16 rfl ?_
      refine Z_iload_n hC (dk d_X0_worthier 10 rfl) 17 rfl rfl rfl ?_
      obtain ⟨g1, h⟩ := gd_some h
      refine Z_iaload hC (m_18 hi) (by decide) rfl g1 (dk d_X0_worthier 11 rfl) 18 rfl ?_
      refine Z_aload_n hC (dk d_X0_worthier 12 rfl) 19 rfl rfl rfl ?_
      refine G_X0_18 hC (m_3 hi) (dk d_X0_worthier 13 rfl) 22 rfl ?_
      refine Z_iload_n hC (dk d_X0_worthier 14 rfl) 23 rfl rfl rfl ?_
      obtain ⟨g2, h⟩ := gd_some h
      refine Z_iaload hC (m_18 hi) (by decide) rfl g2 (dk d_X0_worthier 15 rfl) 24 rfl ?_
      refine Z_icmp_le hC (dk d_X0_worthier 16 rfl) 27 30 rfl (by decide) (fun c => ?_) (fun c => ?_)
      · have h := it_t h c
        refine Z_iinc hC (dk d_X0_worthier 18 rfl) 33 rfl rfl rfl [some (vr 3 i), some (vi x1), some (vi x2), some (vi (x3 + (1 : Int32)))] rfl ?_
        refine Z_goto hC (dk d_X0_worthier 19 rfl) 4 (by decide) ?_
        refine Z_wk [true, true, true, true] [some (vr 3 i), some (vi x1), some (vi x2), some (vi (x3 + (1 : Int32)))] rfl ?_
        exact ih x2 (x3 + (1 : Int32)) w _ h ke
      · have h := it_f h c
        refine Z_iinc hC (dk d_X0_worthier 17 rfl) 30 rfl rfl rfl [some (vr 3 i), some (vi x1), some (vi (x2 + (1 : Int32))), some (vi x3)] rfl ?_
        refine Z_iinc hC (dk d_X0_worthier 18 rfl) 33 rfl rfl rfl [some (vr 3 i), some (vi x1), some (vi (x2 + (1 : Int32))), some (vi (x3 + (1 : Int32)))] rfl ?_
        refine Z_goto hC (dk d_X0_worthier 19 rfl) 4 (by decide) ?_
        refine Z_wk [true, true, true, true] [some (vr 3 i), some (vi x1), some (vi (x2 + (1 : Int32))), some (vi (x3 + (1 : Int32)))] rfl ?_
        exact ih (x2 + (1 : Int32)) (x3 + (1 : Int32)) w _ h ke
noncomputable def f_X0_worthier (N : Nat) (i : Nat) (a1 : Int32) (w : Wd) : Option (Int32 × Wd) :=
  (X0_worthier_L1 N i a1 N (0 : Int32) (0 : Int32) w).bind (fun q3 =>
    some (q3.1, q3.2))
set_option maxRecDepth 20000 in
set_option maxHeartbeats 4000000 in
theorem s_X0_worthier (G : GT) (l : Launch) (N : Nat) (i : Nat) (hi : i < 2) (a1 : Int32) (w : Wd) (q : Int32 × Wd) (h : f_X0_worthier N i a1 w = some q) : Sp G l yX0_worthier cw_X0_worthier 0 [vr 3 i, vi a1] w (some (vi q.1)) q.2 := by
  refine Sp_of (own := RX0) [some (vr 3 i), some (vi a1), none, none] (by decide) rfl rfl (Nat.le_of_ble_eq_true rfl) ?_
  intro x hG hl hC hr hQ _ _
  subst hG
  subst hl
  unfold f_X0_worthier at h
  refine Z_iconst (v := 0) hC (dk d_X0_worthier 0 rfl) 1 rfl (by decide) ?_
  refine Z_istore_n hC (dk d_X0_worthier 1 rfl) 2 rfl rfl (Nat.le_of_ble_eq_true rfl) [some (vr 3 i), some (vi a1), some (vi (0 : Int32)), none] rfl ?_
  refine Z_iconst (v := 0) hC (dk d_X0_worthier 2 rfl) 3 rfl (by decide) ?_
  refine Z_istore_n hC (dk d_X0_worthier 3 rfl) 4 rfl rfl (Nat.le_of_ble_eq_true rfl) [some (vr 3 i), some (vi a1), some (vi (0 : Int32)), some (vi (0 : Int32))] rfl ?_
  obtain ⟨q3, hq3, h⟩ := bd_some h
  refine Z_wk [true, true, true, true] [some (vr 3 i), some (vi a1), some (vi (0 : Int32)), some (vi (0 : Int32))] rfl ?_
  refine z_X0_worthier_L1 hC hr N i hi a1 N (0 : Int32) (0 : Int32) w q3 hq3 ?_
  refine Z_iload_n hC (dk d_X0_worthier 20 rfl) 37 rfl rfl rfl ?_
  obtain rfl := Option.some.inj h
  exact Z_ireturn (st := []) hC hr hQ (dk d_X0_worthier 21 rfl)
def t_X0_othersBarredFrom : List (Nat × Instr × Nat) := [(0, .iconst 0, 1), (1, .istore_n 2, 1), (2, .iconst 0, 1), (3, .istore_n 3, 1), (4, .iload_n 3, 1), (5, .aload_n 0, 1), (6, .getfield 28, 3), (9, .if_icmp .ge 26, 3), (12, .iload_n 3, 1), (13, .iload_n 1, 1), (14, .if_icmp .eq 15, 3), (17, .aload_n 0, 1), (18, .iload_n 3, 1), (19, .iload_n 1, 1), (20, .invokevirtual 59, 3), (23, .ifCond .eq 6, 3), (26, .iinc 2 1, 3), (29, .iinc 3 1, 3), (32, .goto (-28), 3), (35, .iload_n 2, 1), (36, .ireturn, 1)]
set_option maxRecDepth 20000 in
theorem d_X0_othersBarredFrom : ∀ q ∈ t_X0_othersBarredFrom, decode cX0_othersBarredFrom q.1 = .ok q.2 := by decide +kernel
noncomputable def X0_othersBarredFrom_L1 (N : Nat) (i : Nat) (x1 : Int32) : Nat → Int32 → Int32 → Wd → Option (Int32 × Wd)
  | 0, _, _, _ => none
  | n + 1, x2, x3, w =>
  if (gI w 4 i) ≤ x3 then
    some (x2, w)
  else
    if x3 = x1 then
      X0_othersBarredFrom_L1 N i x1 n x2 (x3 + (1 : Int32)) w
    else
      (f_X0_barrier N i x3 x1 w).bind (fun q1 =>
        if q1.1 = 0 then
          X0_othersBarredFrom_L1 N i x1 n x2 (x3 + (1 : Int32)) q1.2
        else
          X0_othersBarredFrom_L1 N i x1 n (x2 + (1 : Int32)) (x3 + (1 : Int32)) q1.2)
set_option maxRecDepth 20000 in
set_option maxHeartbeats 4000000 in
theorem z_X0_othersBarredFrom_L1 {x : CX} (hC : Cx x RX0 cX0_othersBarredFrom 4 3) (hr : (xM x).sig.returnType = (some .int)) (N : Nat) (i : Nat) (hi : i < 2) (x1 : Int32) : ∀ (n : Nat) (x2 : Int32) (x3 : Int32) (w : Wd) (q : (Int32 × Wd)), X0_othersBarredFrom_L1 N i x1 n x2 x3 w = some q → Z x 35 [none, none, some (vi q.1), none] [] q.2 → Z x 4 [some (vr 3 i), some (vi x1), some (vi x2), some (vi x3)] [] w := by
  intro n
  induction n with
  | zero =>
    intro x2 x3 w q h
    cases h
  | succ n ih =>
    intro x2 x3 w q h ke
    rw [X0_othersBarredFrom_L1] at h
    refine Z_iload_n hC (dk d_X0_othersBarredFrom 4 rfl) 5 rfl rfl rfl ?_
    refine Z_aload_n hC (dk d_X0_othersBarredFrom 5 rfl) 6 rfl rfl rfl ?_
    refine G_X0_28 hC (m_3 hi) (dk d_X0_othersBarredFrom 6 rfl) 9 rfl ?_
    refine Z_icmp_ge hC (dk d_X0_othersBarredFrom 7 rfl) 12 35 rfl (by decide) (fun c => ?_) (fun c => ?_)
    · have h := it_t h c
      obtain rfl := Option.some.inj h
      refine Z_wk [false, false, true, false] [none, none, some (vi x2), none] rfl ?_
      exact ke
    · have h := it_f h c
      refine Z_iload_n hC (dk d_X0_othersBarredFrom 8 rfl) 13 rfl rfl rfl ?_
      refine Z_iload_n hC (dk d_X0_othersBarredFrom 9 rfl) 14 rfl rfl rfl ?_
      refine Z_icmp_eq hC (dk d_X0_othersBarredFrom 10 rfl) 17 29 rfl (by decide) (fun c => ?_) (fun c => ?_)
      · have h := it_t h c
        refine Z_iinc hC (dk d_X0_othersBarredFrom 17 rfl) 32 rfl rfl rfl [some (vr 3 i), some (vi x1), some (vi x2), some (vi (x3 + (1 : Int32)))] rfl ?_
        refine Z_goto hC (dk d_X0_othersBarredFrom 18 rfl) 4 (by decide) ?_
        refine Z_wk [true, true, true, true] [some (vr 3 i), some (vi x1), some (vi x2), some (vi (x3 + (1 : Int32)))] rfl ?_
        exact ih x2 (x3 + (1 : Int32)) w _ h ke
      · have h := it_f h c
        refine Z_aload_n hC (dk d_X0_othersBarredFrom 11 rfl) 18 rfl rfl rfl ?_
        refine Z_iload_n hC (dk d_X0_othersBarredFrom 12 rfl) 19 rfl rfl rfl ?_
        refine Z_iload_n hC (dk d_X0_othersBarredFrom 13 rfl) 20 rfl rfl rfl ?_
        obtain ⟨q1, hq1, h⟩ := bd_some h
        refine K_X0_59 [vi x3, vi x1] hC (m_3 hi) (s_X0_barrier (xG x) (xl x) N i hi x3 x1 w q1 hq1) (Nat.le_of_ble_eq_true rfl) rfl rfl rfl (Nat.le_of_ble_eq_true rfl) (dk d_X0_othersBarredFrom 14 rfl) 23 rfl ?_
        refine Z_if_eq hC (dk d_X0_othersBarredFrom 15 rfl) 26 29 rfl (by decide) (fun c => ?_) (fun c => ?_)
        · have h := it_t h c
          refine Z_iinc hC (dk d_X0_othersBarredFrom 17 rfl) 32 rfl rfl rfl [some (vr 3 i), some (vi x1), some (vi x2), some (vi (x3 + (1 : Int32)))] rfl ?_
          refine Z_goto hC (dk d_X0_othersBarredFrom 18 rfl) 4 (by decide) ?_
          refine Z_wk [true, true, true, true] [some (vr 3 i), some (vi x1), some (vi x2), some (vi (x3 + (1 : Int32)))] rfl ?_
          exact ih x2 (x3 + (1 : Int32)) q1.2 _ h ke
        · have h := it_f h c
          refine Z_iinc hC (dk d_X0_othersBarredFrom 16 rfl) 29 rfl rfl rfl [some (vr 3 i), some (vi x1), some (vi (x2 + (1 : Int32))), some (vi x3)] rfl ?_
          refine Z_iinc hC (dk d_X0_othersBarredFrom 17 rfl) 32 rfl rfl rfl [some (vr 3 i), some (vi x1), some (vi (x2 + (1 : Int32))), some (vi (x3 + (1 : Int32)))] rfl ?_
          refine Z_goto hC (dk d_X0_othersBarredFrom 18 rfl) 4 (by decide) ?_
          refine Z_wk [true, true, true, true] [some (vr 3 i), some (vi x1), some (vi (x2 + (1 : Int32))), some (vi (x3 + (1 : Int32)))] rfl ?_
          exact ih (x2 + (1 : Int32)) (x3 + (1 : Int32)) q1.2 _ h ke
noncomputable def f_X0_othersBarredFrom (N : Nat) (i : Nat) (a1 : Int32) (w : Wd) : Option (Int32 × Wd) :=
  (X0_othersBarredFrom_L1 N i a1 N (0 : Int32) (0 : Int32) w).bind (fun q2 =>
    some (q2.1, q2.2))
set_option maxRecDepth 20000 in
set_option maxHeartbeats 4000000 in
theorem s_X0_othersBarredFrom (G : GT) (l : Launch) (N : Nat) (i : Nat) (hi : i < 2) (a1 : Int32) (w : Wd) (q : Int32 × Wd) (h : f_X0_othersBarredFrom N i a1 w = some q) : Sp G l yX0_othersBarredFrom cw_X0_othersBarredFrom 3 [vr 3 i, vi a1] w (some (vi q.1)) q.2 := by
  refine Sp_of (own := RX0) [some (vr 3 i), some (vi a1), none, none] (by decide) rfl rfl (Nat.le_of_ble_eq_true rfl) ?_
  intro x hG hl hC hr hQ _ _
  subst hG
  subst hl
  unfold f_X0_othersBarredFrom at h
  refine Z_iconst (v := 0) hC (dk d_X0_othersBarredFrom 0 rfl) 1 rfl (by decide) ?_
  refine Z_istore_n hC (dk d_X0_othersBarredFrom 1 rfl) 2 rfl rfl (Nat.le_of_ble_eq_true rfl) [some (vr 3 i), some (vi a1), some (vi (0 : Int32)), none] rfl ?_
  refine Z_iconst (v := 0) hC (dk d_X0_othersBarredFrom 2 rfl) 3 rfl (by decide) ?_
  refine Z_istore_n hC (dk d_X0_othersBarredFrom 3 rfl) 4 rfl rfl (Nat.le_of_ble_eq_true rfl) [some (vr 3 i), some (vi a1), some (vi (0 : Int32)), some (vi (0 : Int32))] rfl ?_
  obtain ⟨q2, hq2, h⟩ := bd_some h
  refine Z_wk [true, true, true, true] [some (vr 3 i), some (vi a1), some (vi (0 : Int32)), some (vi (0 : Int32))] rfl ?_
  refine z_X0_othersBarredFrom_L1 hC hr N i hi a1 N (0 : Int32) (0 : Int32) w q2 hq2 ?_
  refine Z_iload_n hC (dk d_X0_othersBarredFrom 19 rfl) 36 rfl rfl rfl ?_
  obtain rfl := Option.some.inj h
  exact Z_ireturn (st := []) hC hr hQ (dk d_X0_othersBarredFrom 20 rfl)
def t_X0_howManyOf : List (Nat × Instr × Nat) := [(0, .iconst 0, 1), (1, .istore_n 2, 1), (2, .iconst 0, 1), (3, .istore_n 3, 1), (4, .iload_n 3, 1), (5, .aload_n 0, 1), (6, .getfield 28, 3), (9, .if_icmp .ge 25, 3), (12, .aload_n 0, 1), (13, .getfield 9, 3), (16, .iload_n 3, 1), (17, .iaload, 1), (18, .iload_n 1, 1), (19, .invokestatic 51, 3), (22, .ifCond .eq 6, 3), (25, .iinc 2 1, 3), (28, .iinc 3 1, 3), (31, .goto (-27), 3), (34, .iload_n 2, 1), (35, .ireturn, 1)]
set_option maxRecDepth 20000 in
theorem d_X0_howManyOf : ∀ q ∈ t_X0_howManyOf, decode cX0_howManyOf q.1 = .ok q.2 := by decide +kernel
noncomputable def X0_howManyOf_L1 (N : Nat) (i : Nat) (x1 : Int32) : Nat → Int32 → Int32 → Wd → Option (Int32 × Wd)
  | 0, _, _, _ => none
  | n + 1, x2, x3, w =>
  if (gI w 4 i) ≤ x3 then
    some (x2, w)
  else
    gd (vp_in x3 6) (
    (f_X4_isOf N (gA w 16 i x3.toNatClampNeg) x1 w).bind (fun q2 =>
      if q2.1 = 0 then
        X0_howManyOf_L1 N i x1 n x2 (x3 + (1 : Int32)) q2.2
      else
        X0_howManyOf_L1 N i x1 n (x2 + (1 : Int32)) (x3 + (1 : Int32)) q2.2))
set_option maxRecDepth 20000 in
set_option maxHeartbeats 4000000 in
theorem z_X0_howManyOf_L1 {x : CX} (hC : Cx x RX0 cX0_howManyOf 4 1) (hr : (xM x).sig.returnType = (some .int)) (N : Nat) (i : Nat) (hi : i < 2) (x1 : Int32) : ∀ (n : Nat) (x2 : Int32) (x3 : Int32) (w : Wd) (q : (Int32 × Wd)), X0_howManyOf_L1 N i x1 n x2 x3 w = some q → Z x 34 [none, none, some (vi q.1), none] [] q.2 → Z x 4 [some (vr 3 i), some (vi x1), some (vi x2), some (vi x3)] [] w := by
  intro n
  induction n with
  | zero =>
    intro x2 x3 w q h
    cases h
  | succ n ih =>
    intro x2 x3 w q h ke
    rw [X0_howManyOf_L1] at h
    refine Z_iload_n hC (dk d_X0_howManyOf 4 rfl) 5 rfl rfl rfl ?_
    refine Z_aload_n hC (dk d_X0_howManyOf 5 rfl) 6 rfl rfl rfl ?_
    refine G_X0_28 hC (m_3 hi) (dk d_X0_howManyOf 6 rfl) 9 rfl ?_
    refine Z_icmp_ge hC (dk d_X0_howManyOf 7 rfl) 12 34 rfl (by decide) (fun c => ?_) (fun c => ?_)
    · have h := it_t h c
      obtain rfl := Option.some.inj h
      refine Z_wk [false, false, true, false] [none, none, some (vi x2), none] rfl ?_
      exact ke
    · have h := it_f h c
      refine Z_aload_n hC (dk d_X0_howManyOf 8 rfl) 13 rfl rfl rfl ?_
      refine G_X0_9 hC (m_3 hi) (dk d_X0_howManyOf 9 rfl) 16 rfl ?_
      refine Z_iload_n hC (dk d_X0_howManyOf 10 rfl) 17 rfl rfl rfl ?_
      obtain ⟨g1, h⟩ := gd_some h
      refine Z_iaload hC (m_16 hi) (by decide) rfl g1 (dk d_X0_howManyOf 11 rfl) 18 rfl ?_
      refine Z_iload_n hC (dk d_X0_howManyOf 12 rfl) 19 rfl rfl rfl ?_
      obtain ⟨q2, hq2, h⟩ := bd_some h
      refine K_X0_51 [vi (gA w 16 i x3.toNatClampNeg), vi x1] hC (s_X4_isOf (xG x) (xl x) N (gA w 16 i x3.toNatClampNeg) x1 w q2 hq2) (Nat.le_of_ble_eq_true rfl) rfl rfl rfl (Nat.le_of_ble_eq_true rfl) (dk d_X0_howManyOf 13 rfl) 22 rfl ?_
      refine Z_if_eq hC (dk d_X0_howManyOf 14 rfl) 25 28 rfl (by decide) (fun c => ?_) (fun c => ?_)
      · have h := it_t h c
        refine Z_iinc hC (dk d_X0_howManyOf 16 rfl) 31 rfl rfl rfl [some (vr 3 i), some (vi x1), some (vi x2), some (vi (x3 + (1 : Int32)))] rfl ?_
        refine Z_goto hC (dk d_X0_howManyOf 17 rfl) 4 (by decide) ?_
        refine Z_wk [true, true, true, true] [some (vr 3 i), some (vi x1), some (vi x2), some (vi (x3 + (1 : Int32)))] rfl ?_
        exact ih x2 (x3 + (1 : Int32)) q2.2 _ h ke
      · have h := it_f h c
        refine Z_iinc hC (dk d_X0_howManyOf 15 rfl) 28 rfl rfl rfl [some (vr 3 i), some (vi x1), some (vi (x2 + (1 : Int32))), some (vi x3)] rfl ?_
        refine Z_iinc hC (dk d_X0_howManyOf 16 rfl) 31 rfl rfl rfl [some (vr 3 i), some (vi x1), some (vi (x2 + (1 : Int32))), some (vi (x3 + (1 : Int32)))] rfl ?_
        refine Z_goto hC (dk d_X0_howManyOf 17 rfl) 4 (by decide) ?_
        refine Z_wk [true, true, true, true] [some (vr 3 i), some (vi x1), some (vi (x2 + (1 : Int32))), some (vi (x3 + (1 : Int32)))] rfl ?_
        exact ih (x2 + (1 : Int32)) (x3 + (1 : Int32)) q2.2 _ h ke
noncomputable def f_X0_howManyOf (N : Nat) (i : Nat) (a1 : Int32) (w : Wd) : Option (Int32 × Wd) :=
  (X0_howManyOf_L1 N i a1 N (0 : Int32) (0 : Int32) w).bind (fun q3 =>
    some (q3.1, q3.2))
set_option maxRecDepth 20000 in
set_option maxHeartbeats 4000000 in
theorem s_X0_howManyOf (G : GT) (l : Launch) (N : Nat) (i : Nat) (hi : i < 2) (a1 : Int32) (w : Wd) (q : Int32 × Wd) (h : f_X0_howManyOf N i a1 w = some q) : Sp G l yX0_howManyOf cw_X0_howManyOf 1 [vr 3 i, vi a1] w (some (vi q.1)) q.2 := by
  refine Sp_of (own := RX0) [some (vr 3 i), some (vi a1), none, none] (by decide) rfl rfl (Nat.le_of_ble_eq_true rfl) ?_
  intro x hG hl hC hr hQ _ _
  subst hG
  subst hl
  unfold f_X0_howManyOf at h
  refine Z_iconst (v := 0) hC (dk d_X0_howManyOf 0 rfl) 1 rfl (by decide) ?_
  refine Z_istore_n hC (dk d_X0_howManyOf 1 rfl) 2 rfl rfl (Nat.le_of_ble_eq_true rfl) [some (vr 3 i), some (vi a1), some (vi (0 : Int32)), none] rfl ?_
  refine Z_iconst (v := 0) hC (dk d_X0_howManyOf 2 rfl) 3 rfl (by decide) ?_
  refine Z_istore_n hC (dk d_X0_howManyOf 3 rfl) 4 rfl rfl (Nat.le_of_ble_eq_true rfl) [some (vr 3 i), some (vi a1), some (vi (0 : Int32)), some (vi (0 : Int32))] rfl ?_
  obtain ⟨q3, hq3, h⟩ := bd_some h
  refine Z_wk [true, true, true, true] [some (vr 3 i), some (vi a1), some (vi (0 : Int32)), some (vi (0 : Int32))] rfl ?_
  refine z_X0_howManyOf_L1 hC hr N i hi a1 N (0 : Int32) (0 : Int32) w q3 hq3 ?_
  refine Z_iload_n hC (dk d_X0_howManyOf 18 rfl) 35 rfl rfl rfl ?_
  obtain rfl := Option.some.inj h
  exact Z_ireturn (st := []) hC hr hQ (dk d_X0_howManyOf 19 rfl)
def t_X0_greatestDifference : List (Nat × Instr × Nat) := [(0, .iconst 0, 1), (1, .istore_n 2, 1), (2, .iconst 0, 1), (3, .istore_n 3, 1), (4, .iload_n 3, 1), (5, .aload_n 0, 1), (6, .getfield 28, 3), (9, .if_icmp .ge 34, 3), (12, .iload_n 2, 1), (13, .aload_n 0, 1), (14, .getfield 18, 3), (17, .iload_n 3, 1), (18, .iaload, 1), (19, .aload_n 0, 1), (20, .getfield 18, 3), (23, .iload_n 1, 1), (24, .iload_n 3, 1), (25, .invokestatic 44, 3), (28, .iaload, 1), (29, .isub, 1), (30, .invokestatic 68, 3), (33, .invokestatic 73, 3), (36, .istore_n 2, 1), (37, .iinc 3 1, 3), (40, .goto (-36), 3), (43, .iload_n 2, 1), (44, .ireturn, 1)]
set_option maxRecDepth 20000 in
theorem d_X0_greatestDifference : ∀ q ∈ t_X0_greatestDifference, decode cX0_greatestDifference q.1 = .ok q.2 := by decide +kernel
noncomputable def X0_greatestDifference_L1 (N : Nat) (i : Nat) (x1 : Int32) : Nat → Int32 → Int32 → Wd → Option (Int32 × Wd)
  | 0, _, _, _ => none
  | n + 1, x2, x3, w =>
  if (gI w 4 i) ≤ x3 then
    some (x2, w)
  else
    gd (vp_in x3 6) (
    (f_X4_paper N x1 x3 w).bind (fun q2 =>
      gd (vp_in q2.1 6) (
      X0_greatestDifference_L1 N i x1 n (if x2 < (if 0 ≤ ((gA w 18 i x3.toNatClampNeg) - (gA q2.2 18 i q2.1.toNatClampNeg)) then ((gA w 18 i x3.toNatClampNeg) - (gA q2.2 18 i q2.1.toNatClampNeg)) else 0 - ((gA w 18 i x3.toNatClampNeg) - (gA q2.2 18 i q2.1.toNatClampNeg))) then (if 0 ≤ ((gA w 18 i x3.toNatClampNeg) - (gA q2.2 18 i q2.1.toNatClampNeg)) then ((gA w 18 i x3.toNatClampNeg) - (gA q2.2 18 i q2.1.toNatClampNeg)) else 0 - ((gA w 18 i x3.toNatClampNeg) - (gA q2.2 18 i q2.1.toNatClampNeg))) else x2) (x3 + (1 : Int32)) q2.2)))
set_option maxRecDepth 20000 in
set_option maxHeartbeats 4000000 in
theorem z_X0_greatestDifference_L1 {x : CX} (hC : Cx x RX0 cX0_greatestDifference 4 1) (hr : (xM x).sig.returnType = (some .int)) (N : Nat) (i : Nat) (hi : i < 2) (x1 : Int32) : ∀ (n : Nat) (x2 : Int32) (x3 : Int32) (w : Wd) (q : (Int32 × Wd)), X0_greatestDifference_L1 N i x1 n x2 x3 w = some q → Z x 43 [none, none, some (vi q.1), none] [] q.2 → Z x 4 [some (vr 3 i), some (vi x1), some (vi x2), some (vi x3)] [] w := by
  intro n
  induction n with
  | zero =>
    intro x2 x3 w q h
    cases h
  | succ n ih =>
    intro x2 x3 w q h ke
    rw [X0_greatestDifference_L1] at h
    refine Z_iload_n hC (dk d_X0_greatestDifference 4 rfl) 5 rfl rfl rfl ?_
    refine Z_aload_n hC (dk d_X0_greatestDifference 5 rfl) 6 rfl rfl rfl ?_
    refine G_X0_28 hC (m_3 hi) (dk d_X0_greatestDifference 6 rfl) 9 rfl ?_
    refine Z_icmp_ge hC (dk d_X0_greatestDifference 7 rfl) 12 43 rfl (by decide) (fun c => ?_) (fun c => ?_)
    · have h := it_t h c
      obtain rfl := Option.some.inj h
      refine Z_wk [false, false, true, false] [none, none, some (vi x2), none] rfl ?_
      exact ke
    · have h := it_f h c
      refine Z_iload_n hC (dk d_X0_greatestDifference 8 rfl) 13 rfl rfl rfl ?_
      refine Z_aload_n hC (dk d_X0_greatestDifference 9 rfl) 14 rfl rfl rfl ?_
      refine G_X0_18 hC (m_3 hi) (dk d_X0_greatestDifference 10 rfl) 17 rfl ?_
      refine Z_iload_n hC (dk d_X0_greatestDifference 11 rfl) 18 rfl rfl rfl ?_
      obtain ⟨g1, h⟩ := gd_some h
      refine Z_iaload hC (m_18 hi) (by decide) rfl g1 (dk d_X0_greatestDifference 12 rfl) 19 rfl ?_
      refine Z_aload_n hC (dk d_X0_greatestDifference 13 rfl) 20 rfl rfl rfl ?_
      refine G_X0_18 hC (m_3 hi) (dk d_X0_greatestDifference 14 rfl) 23 rfl ?_
      refine Z_iload_n hC (dk d_X0_greatestDifference 15 rfl) 24 rfl rfl rfl ?_
      refine Z_iload_n hC (dk d_X0_greatestDifference 16 rfl) 25 rfl rfl rfl ?_
      obtain ⟨q2, hq2, h⟩ := bd_some h
      refine K_X0_44 [vi x1, vi x3] hC (s_X4_paper (xG x) (xl x) N x1 x3 w q2 hq2) (Nat.le_of_ble_eq_true rfl) rfl rfl rfl (Nat.le_of_ble_eq_true rfl) (dk d_X0_greatestDifference 17 rfl) 28 rfl ?_
      obtain ⟨g3, h⟩ := gd_some h
      refine Z_iaload hC (m_18 hi) (by decide) rfl g3 (dk d_X0_greatestDifference 18 rfl) 29 rfl ?_
      refine Z_isub hC (dk d_X0_greatestDifference 19 rfl) 30 rfl ?_
      refine Z_mabs hC ml_X0_68 wi_J9_abs_0f7a4 wini_J9 wc_J9_abs_0f7a4 (Nat.le_of_ble_eq_true rfl) rfl (Nat.le_of_ble_eq_true rfl) (dk d_X0_greatestDifference 20 rfl) 33 rfl ?_
      refine Z_mmax hC ml_X0_73 wi_J9_max_7cf53 wini_J9 wc_J9_max_7cf53 (Nat.le_of_ble_eq_true rfl) rfl (Nat.le_of_ble_eq_true rfl) (dk d_X0_greatestDifference 21 rfl) 36 rfl ?_
      refine Z_istore_n hC (dk d_X0_greatestDifference 22 rfl) 37 rfl rfl (Nat.le_of_ble_eq_true rfl) [some (vr 3 i), some (vi x1), some (vi (if x2 < (if 0 ≤ ((gA w 18 i x3.toNatClampNeg) - (gA q2.2 18 i q2.1.toNatClampNeg)) then ((gA w 18 i x3.toNatClampNeg) - (gA q2.2 18 i q2.1.toNatClampNeg)) else 0 - ((gA w 18 i x3.toNatClampNeg) - (gA q2.2 18 i q2.1.toNatClampNeg))) then (if 0 ≤ ((gA w 18 i x3.toNatClampNeg) - (gA q2.2 18 i q2.1.toNatClampNeg)) then ((gA w 18 i x3.toNatClampNeg) - (gA q2.2 18 i q2.1.toNatClampNeg)) else 0 - ((gA w 18 i x3.toNatClampNeg) - (gA q2.2 18 i q2.1.toNatClampNeg))) else x2)), some (vi x3)] rfl ?_
      refine Z_iinc hC (dk d_X0_greatestDifference 23 rfl) 40 rfl rfl rfl [some (vr 3 i), some (vi x1), some (vi (if x2 < (if 0 ≤ ((gA w 18 i x3.toNatClampNeg) - (gA q2.2 18 i q2.1.toNatClampNeg)) then ((gA w 18 i x3.toNatClampNeg) - (gA q2.2 18 i q2.1.toNatClampNeg)) else 0 - ((gA w 18 i x3.toNatClampNeg) - (gA q2.2 18 i q2.1.toNatClampNeg))) then (if 0 ≤ ((gA w 18 i x3.toNatClampNeg) - (gA q2.2 18 i q2.1.toNatClampNeg)) then ((gA w 18 i x3.toNatClampNeg) - (gA q2.2 18 i q2.1.toNatClampNeg)) else 0 - ((gA w 18 i x3.toNatClampNeg) - (gA q2.2 18 i q2.1.toNatClampNeg))) else x2)), some (vi (x3 + (1 : Int32)))] rfl ?_
      refine Z_goto hC (dk d_X0_greatestDifference 24 rfl) 4 (by decide) ?_
      refine Z_wk [true, true, true, true] [some (vr 3 i), some (vi x1), some (vi (if x2 < (if 0 ≤ ((gA w 18 i x3.toNatClampNeg) - (gA q2.2 18 i q2.1.toNatClampNeg)) then ((gA w 18 i x3.toNatClampNeg) - (gA q2.2 18 i q2.1.toNatClampNeg)) else 0 - ((gA w 18 i x3.toNatClampNeg) - (gA q2.2 18 i q2.1.toNatClampNeg))) then (if 0 ≤ ((gA w 18 i x3.toNatClampNeg) - (gA q2.2 18 i q2.1.toNatClampNeg)) then ((gA w 18 i x3.toNatClampNeg) - (gA q2.2 18 i q2.1.toNatClampNeg)) else 0 - ((gA w 18 i x3.toNatClampNeg) - (gA q2.2 18 i q2.1.toNatClampNeg))) else x2)), some (vi (x3 + (1 : Int32)))] rfl ?_
      exact ih (if x2 < (if 0 ≤ ((gA w 18 i x3.toNatClampNeg) - (gA q2.2 18 i q2.1.toNatClampNeg)) then ((gA w 18 i x3.toNatClampNeg) - (gA q2.2 18 i q2.1.toNatClampNeg)) else 0 - ((gA w 18 i x3.toNatClampNeg) - (gA q2.2 18 i q2.1.toNatClampNeg))) then (if 0 ≤ ((gA w 18 i x3.toNatClampNeg) - (gA q2.2 18 i q2.1.toNatClampNeg)) then ((gA w 18 i x3.toNatClampNeg) - (gA q2.2 18 i q2.1.toNatClampNeg)) else 0 - ((gA w 18 i x3.toNatClampNeg) - (gA q2.2 18 i q2.1.toNatClampNeg))) else x2) (x3 + (1 : Int32)) q2.2 _ h ke
noncomputable def f_X0_greatestDifference (N : Nat) (i : Nat) (a1 : Int32) (w : Wd) : Option (Int32 × Wd) :=
  (X0_greatestDifference_L1 N i a1 N (0 : Int32) (0 : Int32) w).bind (fun q4 =>
    some (q4.1, q4.2))
set_option maxRecDepth 20000 in
set_option maxHeartbeats 4000000 in
theorem s_X0_greatestDifference (G : GT) (l : Launch) (N : Nat) (i : Nat) (hi : i < 2) (a1 : Int32) (w : Wd) (q : Int32 × Wd) (h : f_X0_greatestDifference N i a1 w = some q) : Sp G l yX0_greatestDifference cw_X0_greatestDifference 1 [vr 3 i, vi a1] w (some (vi q.1)) q.2 := by
  refine Sp_of (own := RX0) [some (vr 3 i), some (vi a1), none, none] (by decide) rfl rfl (Nat.le_of_ble_eq_true rfl) ?_
  intro x hG hl hC hr hQ _ _
  subst hG
  subst hl
  unfold f_X0_greatestDifference at h
  refine Z_iconst (v := 0) hC (dk d_X0_greatestDifference 0 rfl) 1 rfl (by decide) ?_
  refine Z_istore_n hC (dk d_X0_greatestDifference 1 rfl) 2 rfl rfl (Nat.le_of_ble_eq_true rfl) [some (vr 3 i), some (vi a1), some (vi (0 : Int32)), none] rfl ?_
  refine Z_iconst (v := 0) hC (dk d_X0_greatestDifference 2 rfl) 3 rfl (by decide) ?_
  refine Z_istore_n hC (dk d_X0_greatestDifference 3 rfl) 4 rfl rfl (Nat.le_of_ble_eq_true rfl) [some (vr 3 i), some (vi a1), some (vi (0 : Int32)), some (vi (0 : Int32))] rfl ?_
  obtain ⟨q4, hq4, h⟩ := bd_some h
  refine Z_wk [true, true, true, true] [some (vr 3 i), some (vi a1), some (vi (0 : Int32)), some (vi (0 : Int32))] rfl ?_
  refine z_X0_greatestDifference_L1 hC hr N i hi a1 N (0 : Int32) (0 : Int32) w q4 hq4 ?_
  refine Z_iload_n hC (dk d_X0_greatestDifference 25 rfl) 44 rfl rfl rfl ?_
  obtain rfl := Option.some.inj h
  exact Z_ireturn (st := []) hC hr hQ (dk d_X0_greatestDifference 26 rfl)
def t_X1_isMissing : List (Nat × Instr × Nat) := [(0, .aload_n 0, 1), (1, .getfield 16, 3), (4, .iload_n 1, 1), (5, .iaload, 1), (6, .iconst (-1), 1), (7, .if_icmp .ne 7, 3), (10, .iconst 1, 1), (11, .goto 4, 3), (14, .iconst 0, 1), (15, .ireturn, 1)]
set_option maxRecDepth 20000 in
theorem d_X1_isMissing : ∀ q ∈ t_X1_isMissing, decode cX1_isMissing q.1 = .ok q.2 := by decide +kernel
noncomputable def f_X1_isMissing (N : Nat) (a1 : Int32) (w : Wd) : Option (Int32 × Wd) :=
  gd (vp_in a1 6) (
  if (gA w 12 0 a1.toNatClampNeg) = (-1 : Int32) then
    some ((1 : Int32), w)
  else
    some ((0 : Int32), w))
set_option maxRecDepth 20000 in
set_option maxHeartbeats 4000000 in
theorem s_X1_isMissing (G : GT) (l : Launch) (N : Nat) (a1 : Int32) (w : Wd) (q : Int32 × Wd) (h : f_X1_isMissing N a1 w = some q) : Sp G l yX1_isMissing cw_X1_isMissing 0 [vr 1 0, vi a1] w (some (vi q.1)) q.2 := by
  refine Sp_of (own := RX1) [some (vr 1 0), some (vi a1)] (by decide) rfl rfl (Nat.le_of_ble_eq_true rfl) ?_
  intro x hG hl hC hr hQ _ _
  subst hG
  subst hl
  unfold f_X1_isMissing at h
  refine Z_aload_n hC (dk d_X1_isMissing 0 rfl) 1 rfl rfl rfl ?_
  refine G_X1_16 hC m_1 (dk d_X1_isMissing 1 rfl) 4 rfl ?_
  refine Z_iload_n hC (dk d_X1_isMissing 2 rfl) 5 rfl rfl rfl ?_
  obtain ⟨g1, h⟩ := gd_some h
  refine Z_iaload hC m_12 (by decide) rfl g1 (dk d_X1_isMissing 3 rfl) 6 rfl ?_
  refine Z_iconst (v := -1) hC (dk d_X1_isMissing 4 rfl) 7 rfl (by decide) ?_
  refine Z_icmp_ne hC (dk d_X1_isMissing 5 rfl) 10 14 rfl (by decide) (fun c => ?_) (fun c => ?_)
  · have h := it_f h c
    refine Z_iconst (v := 0) hC (dk d_X1_isMissing 8 rfl) 15 rfl (by decide) ?_
    obtain rfl := Option.some.inj h
    exact Z_zreturn (st := []) hC hr rfl hQ (dk d_X1_isMissing 9 rfl)
  · have h := it_t h c
    refine Z_iconst (v := 1) hC (dk d_X1_isMissing 6 rfl) 11 rfl (by decide) ?_
    refine Z_goto hC (dk d_X1_isMissing 7 rfl) 15 (by decide) ?_
    obtain rfl := Option.some.inj h
    exact Z_zreturn (st := []) hC hr rfl hQ (dk d_X1_isMissing 9 rfl)
def t_J7_fill_53178 : List (Nat × Instr × Nat) := [(0, .iconst 0, 1), (1, .istore_n 2, 1), (2, .aload_n 0, 1), (3, .arraylength, 1), (4, .istore_n 3, 1), (5, .iload_n 2, 1), (6, .iload_n 3, 1), (7, .if_icmp .ge 13, 3), (10, .aload_n 0, 1), (11, .iload_n 2, 1), (12, .iload_n 1, 1), (13, .iastore, 1), (14, .iinc 2 1, 3), (17, .goto (-12), 3), (20, .return_, 1)]
set_option maxRecDepth 20000 in
theorem d_J7_fill_53178 : ∀ q ∈ t_J7_fill_53178, decode cJ7_fill_53178 q.1 = .ok q.2 := by decide +kernel
noncomputable def J7_fill_53178_L1 (N : Nat) (g i : Nat) (x1 : Int32) (x3 : Int32) : Nat → Int32 → Wd → Option (Wd)
  | 0, _, _ => none
  | n + 1, x2, w =>
  if x3 ≤ x2 then
    some w
  else
    gd (vp_in x2 (arr g).2) (
    J7_fill_53178_L1 N g i x1 x3 n (x2 + (1 : Int32)) (sA w g i (upd (gA w g i) x2.toNatClampNeg x1)))
set_option maxRecDepth 20000 in
set_option maxHeartbeats 4000000 in
theorem z_J7_fill_53178_L1 {x : CX} (hC : Cx x RJ7 cJ7_fill_53178 4 0) (hr : (xM x).sig.returnType = none) (N : Nat) (g i : Nat) (hm : (g, i) ∈ gis) (h10 : ¬ g < 10) (hk : (arr g).1 = 0) (x1 : Int32) (x3 : Int32) : ∀ (n : Nat) (x2 : Int32) (w : Wd) (q : (Wd)), J7_fill_53178_L1 N g i x1 x3 n x2 w = some q → Z x 20 [none, none, none, none] [] q → Z x 5 [some (vr g i), some (vi x1), some (vi x2), some (vi x3)] [] w := by
  intro n
  induction n with
  | zero =>
    intro x2 w q h
    cases h
  | succ n ih =>
    intro x2 w q h ke
    rw [J7_fill_53178_L1] at h
    refine Z_iload_n hC (dk d_J7_fill_53178 5 rfl) 6 rfl rfl rfl ?_
    refine Z_iload_n hC (dk d_J7_fill_53178 6 rfl) 7 rfl rfl rfl ?_
    refine Z_icmp_ge hC (dk d_J7_fill_53178 7 rfl) 10 20 rfl (by decide) (fun c => ?_) (fun c => ?_)
    · have h := it_t h c
      obtain rfl := Option.some.inj h
      refine Z_wk [false, false, false, false] [none, none, none, none] rfl ?_
      exact ke
    · have h := it_f h c
      refine Z_aload_n hC (dk d_J7_fill_53178 8 rfl) 11 rfl rfl rfl ?_
      refine Z_iload_n hC (dk d_J7_fill_53178 9 rfl) 12 rfl rfl rfl ?_
      refine Z_iload_n hC (dk d_J7_fill_53178 10 rfl) 13 rfl rfl rfl ?_
      obtain ⟨g1, h⟩ := gd_some h
      refine Z_iastore hC hm h10 hk g1 (dk d_J7_fill_53178 11 rfl) 14 rfl ?_
      refine Z_iinc hC (dk d_J7_fill_53178 12 rfl) 17 rfl rfl rfl [some (vr g i), some (vi x1), some (vi (x2 + (1 : Int32))), some (vi x3)] rfl ?_
      refine Z_goto hC (dk d_J7_fill_53178 13 rfl) 5 (by decide) ?_
      refine Z_wk [true, true, true, true] [some (vr g i), some (vi x1), some (vi (x2 + (1 : Int32))), some (vi x3)] rfl ?_
      exact ih (x2 + (1 : Int32)) (sA w g i (upd (gA w g i) x2.toNatClampNeg x1)) _ h ke
noncomputable def f_J7_fill_53178 (N : Nat) (g i : Nat) (a1 : Int32) (w : Wd) : Option (Wd) :=
  (J7_fill_53178_L1 N g i a1 (Int32.ofNat (arr g).2) N (0 : Int32) w).bind (fun q2 =>
    some q2)
set_option maxRecDepth 20000 in
set_option maxHeartbeats 4000000 in
theorem s_J7_fill_53178 (G : GT) (l : Launch) (N : Nat) (g i : Nat) (hm : (g, i) ∈ gis) (h10 : ¬ g < 10) (hk : (arr g).1 = 0) (a1 : Int32) (w : Wd) (q : Wd) (h : f_J7_fill_53178 N g i a1 w = some q) : Sp G l yJ7_fill_53178 cw_J7_fill_53178 0 [vr g i, vi a1] w none q := by
  refine Sp_of (own := RJ7) [some (vr g i), some (vi a1), none, none] (by decide) rfl rfl (Nat.le_of_ble_eq_true rfl) ?_
  intro x hG hl hC hr hQ _ _
  subst hG
  subst hl
  unfold f_J7_fill_53178 at h
  refine Z_iconst (v := 0) hC (dk d_J7_fill_53178 0 rfl) 1 rfl (by decide) ?_
  refine Z_istore_n hC (dk d_J7_fill_53178 1 rfl) 2 rfl rfl (Nat.le_of_ble_eq_true rfl) [some (vr g i), some (vi a1), some (vi (0 : Int32)), none] rfl ?_
  refine Z_aload_n hC (dk d_J7_fill_53178 2 rfl) 3 rfl rfl rfl ?_
  refine Z_alen hC hm h10 (by rw [hk]; decide) rfl (dk d_J7_fill_53178 3 rfl) 4 rfl ?_
  refine Z_istore_n hC (dk d_J7_fill_53178 4 rfl) 5 rfl rfl (Nat.le_of_ble_eq_true rfl) [some (vr g i), some (vi a1), some (vi (0 : Int32)), some (vi (Int32.ofNat (arr g).2))] rfl ?_
  obtain ⟨q2, hq2, h⟩ := bd_some h
  refine Z_wk [true, true, true, true] [some (vr g i), some (vi a1), some (vi (0 : Int32)), some (vi (Int32.ofNat (arr g).2))] rfl ?_
  refine z_J7_fill_53178_L1 hC hr N g i hm h10 hk a1 (Int32.ofNat (arr g).2) N (0 : Int32) w q2 hq2 ?_
  obtain rfl := Option.some.inj h
  exact Z_return (st := []) hC hr hQ (dk d_J7_fill_53178 14 rfl)
def t_X1_renew : List (Nat × Instr × Nat) := [(0, .aload_n 0, 1), (1, .getfield 11, 3), (4, .iload_n 1, 1), (5, .aaload, 1), (6, .iconst 0, 1), (7, .invokestatic 20, 3), (10, .aload_n 0, 1), (11, .getfield 16, 3), (14, .iload_n 1, 1), (15, .iload_n 2, 1), (16, .iastore, 1), (17, .return_, 1)]
set_option maxRecDepth 20000 in
theorem d_X1_renew : ∀ q ∈ t_X1_renew, decode cX1_renew q.1 = .ok q.2 := by decide +kernel
noncomputable def f_X1_renew (N : Nat) (a1 : Int32) (a2 : Int32) (w : Wd) : Option (Wd) :=
  gd (vp_in a1 6) (
  (f_J7_fill_53178 N 11 a1.toNatClampNeg (0 : Int32) w).bind (fun q2 =>
    gd (vp_in a1 6) (
    some (sA q2 12 0 (upd (gA q2 12 0) a1.toNatClampNeg a2)))))
set_option maxRecDepth 20000 in
set_option maxHeartbeats 4000000 in
theorem s_X1_renew (G : GT) (l : Launch) (N : Nat) (a1 : Int32) (a2 : Int32) (w : Wd) (q : Wd) (h : f_X1_renew N a1 a2 w = some q) : Sp G l yX1_renew cw_X1_renew 1 [vr 1 0, vi a1, vi a2] w none q := by
  refine Sp_of (own := RX1) [some (vr 1 0), some (vi a1), some (vi a2)] (by decide) rfl rfl (Nat.le_of_ble_eq_true rfl) ?_
  intro x hG hl hC hr hQ _ _
  subst hG
  subst hl
  unfold f_X1_renew at h
  refine Z_aload_n hC (dk d_X1_renew 0 rfl) 1 rfl rfl rfl ?_
  refine G_X1_11 hC m_1 (dk d_X1_renew 1 rfl) 4 rfl ?_
  refine Z_iload_n hC (dk d_X1_renew 2 rfl) 5 rfl rfl rfl ?_
  obtain ⟨g1, h⟩ := gd_some h
  refine Z_aaload hC m_10 (by decide) (by decide) g1 (dk d_X1_renew 3 rfl) 6 rfl ?_
  refine Z_iconst (v := 0) hC (dk d_X1_renew 4 rfl) 7 rfl (by decide) ?_
  obtain ⟨q2, hq2, h⟩ := bd_some h
  refine K_X1_20 [vr 11 a1.toNatClampNeg, vi (0 : Int32)] hC (s_J7_fill_53178 (xG x) (xl x) N 11 a1.toNatClampNeg (m_11 (vp_lt g1)) (by decide) rfl (0 : Int32) w q2 hq2) (Nat.le_of_ble_eq_true rfl) rfl rfl rfl (Nat.le_of_ble_eq_true rfl) (dk d_X1_renew 5 rfl) 10 rfl ?_
  refine Z_aload_n hC (dk d_X1_renew 6 rfl) 11 rfl rfl rfl ?_
  refine G_X1_16 hC m_1 (dk d_X1_renew 7 rfl) 14 rfl ?_
  refine Z_iload_n hC (dk d_X1_renew 8 rfl) 15 rfl rfl rfl ?_
  refine Z_iload_n hC (dk d_X1_renew 9 rfl) 16 rfl rfl rfl ?_
  obtain ⟨g3, h⟩ := gd_some h
  refine Z_iastore hC m_12 (by decide) rfl g3 (dk d_X1_renew 10 rfl) 17 rfl ?_
  obtain rfl := Option.some.inj h
  exact Z_return (st := []) hC hr hQ (dk d_X1_renew 11 rfl)
def t_X1_missesPlace : List (Nat × Instr × Nat) := [(0, .aload_n 0, 1), (1, .iload_n 1, 1), (2, .invokevirtual 26, 3), (5, .ifCond .eq 5, 3), (8, .iconst 1, 1), (9, .ireturn, 1), (10, .iload_n 2, 1), (11, .ifCond .lt 13, 3), (14, .iload_n 2, 1), (15, .aload_n 0, 1), (16, .getfield 16, 3), (19, .iload_n 1, 1), (20, .iaload, 1), (21, .if_icmp .lt 7, 3), (24, .iconst 2, 1), (25, .goto 4, 3), (28, .iconst 0, 1), (29, .ireturn, 1)]
set_option maxRecDepth 20000 in
theorem d_X1_missesPlace : ∀ q ∈ t_X1_missesPlace, decode cX1_missesPlace q.1 = .ok q.2 := by decide +kernel
noncomputable def f_X1_missesPlace (N : Nat) (a1 : Int32) (a2 : Int32) (w : Wd) : Option (Int32 × Wd) :=
  (f_X1_isMissing N a1 w).bind (fun q1 =>
    if q1.1 = 0 then
      if a2 < 0 then
        some ((2 : Int32), q1.2)
      else
        gd (vp_in a1 6) (
        if a2 < (gA q1.2 12 0 a1.toNatClampNeg) then
          some ((0 : Int32), q1.2)
        else
          some ((2 : Int32), q1.2))
    else
      some ((1 : Int32), q1.2))
set_option maxRecDepth 20000 in
set_option maxHeartbeats 4000000 in
theorem s_X1_missesPlace (G : GT) (l : Launch) (N : Nat) (a1 : Int32) (a2 : Int32) (w : Wd) (q : Int32 × Wd) (h : f_X1_missesPlace N a1 a2 w = some q) : Sp G l yX1_missesPlace cw_X1_missesPlace 1 [vr 1 0, vi a1, vi a2] w (some (vi q.1)) q.2 := by
  refine Sp_of (own := RX1) [some (vr 1 0), some (vi a1), some (vi a2)] (by decide) rfl rfl (Nat.le_of_ble_eq_true rfl) ?_
  intro x hG hl hC hr hQ _ _
  subst hG
  subst hl
  unfold f_X1_missesPlace at h
  refine Z_aload_n hC (dk d_X1_missesPlace 0 rfl) 1 rfl rfl rfl ?_
  refine Z_iload_n hC (dk d_X1_missesPlace 1 rfl) 2 rfl rfl rfl ?_
  obtain ⟨q1, hq1, h⟩ := bd_some h
  refine K_X1_26 [vi a1] hC m_1 (s_X1_isMissing (xG x) (xl x) N a1 w q1 hq1) (Nat.le_of_ble_eq_true rfl) rfl rfl rfl (Nat.le_of_ble_eq_true rfl) (dk d_X1_missesPlace 2 rfl) 5 rfl ?_
  refine Z_if_eq hC (dk d_X1_missesPlace 3 rfl) 8 10 rfl (by decide) (fun c => ?_) (fun c => ?_)
  · have h := it_t h c
    refine Z_iload_n hC (dk d_X1_missesPlace 6 rfl) 11 rfl rfl rfl ?_
    refine Z_if_lt hC (dk d_X1_missesPlace 7 rfl) 14 24 rfl (by decide) (fun c => ?_) (fun c => ?_)
    · have h := it_t h c
      refine Z_iconst (v := 2) hC (dk d_X1_missesPlace 14 rfl) 25 rfl (by decide) ?_
      refine Z_goto hC (dk d_X1_missesPlace 15 rfl) 29 (by decide) ?_
      obtain rfl := Option.some.inj h
      exact Z_ireturn (st := []) hC hr hQ (dk d_X1_missesPlace 17 rfl)
    · have h := it_f h c
      refine Z_iload_n hC (dk d_X1_missesPlace 8 rfl) 15 rfl rfl rfl ?_
      refine Z_aload_n hC (dk d_X1_missesPlace 9 rfl) 16 rfl rfl rfl ?_
      refine G_X1_16 hC m_1 (dk d_X1_missesPlace 10 rfl) 19 rfl ?_
      refine Z_iload_n hC (dk d_X1_missesPlace 11 rfl) 20 rfl rfl rfl ?_
      obtain ⟨g2, h⟩ := gd_some h
      refine Z_iaload hC m_12 (by decide) rfl g2 (dk d_X1_missesPlace 12 rfl) 21 rfl ?_
      refine Z_icmp_lt hC (dk d_X1_missesPlace 13 rfl) 24 28 rfl (by decide) (fun c => ?_) (fun c => ?_)
      · have h := it_t h c
        refine Z_iconst (v := 0) hC (dk d_X1_missesPlace 16 rfl) 29 rfl (by decide) ?_
        obtain rfl := Option.some.inj h
        exact Z_ireturn (st := []) hC hr hQ (dk d_X1_missesPlace 17 rfl)
      · have h := it_f h c
        refine Z_iconst (v := 2) hC (dk d_X1_missesPlace 14 rfl) 25 rfl (by decide) ?_
        refine Z_goto hC (dk d_X1_missesPlace 15 rfl) 29 (by decide) ?_
        obtain rfl := Option.some.inj h
        exact Z_ireturn (st := []) hC hr hQ (dk d_X1_missesPlace 17 rfl)
  · have h := it_f h c
    refine Z_iconst (v := 1) hC (dk d_X1_missesPlace 4 rfl) 9 rfl (by decide) ?_
    obtain rfl := Option.some.inj h
    exact Z_ireturn (st := []) hC hr hQ (dk d_X1_missesPlace 5 rfl)
def t_X1_hasPlaces : List (Nat × Instr × Nat) := [(0, .iload_n 2, 1), (1, .ifCond .lt 29, 3), (4, .iload_n 2, 1), (5, .aload_n 0, 1), (6, .getfield 16, 3), (9, .iload_n 1, 1), (10, .iaload, 1), (11, .if_icmp .gt 19, 3), (14, .iload_n 3, 1), (15, .aload_n 0, 1), (16, .getfield 16, 3), (19, .iload_n 1, 1), (20, .iaload, 1), (21, .iload_n 2, 1), (22, .isub, 1), (23, .if_icmp .gt 7, 3), (26, .iconst 1, 1), (27, .goto 4, 3), (30, .iconst 0, 1), (31, .ireturn, 1)]
set_option maxRecDepth 20000 in
theorem d_X1_hasPlaces : ∀ q ∈ t_X1_hasPlaces, decode cX1_hasPlaces q.1 = .ok q.2 := by decide +kernel
noncomputable def f_X1_hasPlaces (N : Nat) (a1 : Int32) (a2 : Int32) (a3 : Int32) (w : Wd) : Option (Int32 × Wd) :=
  if a2 < 0 then
    some ((0 : Int32), w)
  else
    gd (vp_in a1 6) (
    if (gA w 12 0 a1.toNatClampNeg) < a2 then
      some ((0 : Int32), w)
    else
      gd (vp_in a1 6) (
      if ((gA w 12 0 a1.toNatClampNeg) - a2) < a3 then
        some ((0 : Int32), w)
      else
        some ((1 : Int32), w)))
set_option maxRecDepth 20000 in
set_option maxHeartbeats 4000000 in
theorem s_X1_hasPlaces (G : GT) (l : Launch) (N : Nat) (a1 : Int32) (a2 : Int32) (a3 : Int32) (w : Wd) (q : Int32 × Wd) (h : f_X1_hasPlaces N a1 a2 a3 w = some q) : Sp G l yX1_hasPlaces cw_X1_hasPlaces 0 [vr 1 0, vi a1, vi a2, vi a3] w (some (vi q.1)) q.2 := by
  refine Sp_of (own := RX1) [some (vr 1 0), some (vi a1), some (vi a2), some (vi a3)] (by decide) rfl rfl (Nat.le_of_ble_eq_true rfl) ?_
  intro x hG hl hC hr hQ _ _
  subst hG
  subst hl
  unfold f_X1_hasPlaces at h
  refine Z_iload_n hC (dk d_X1_hasPlaces 0 rfl) 1 rfl rfl rfl ?_
  refine Z_if_lt hC (dk d_X1_hasPlaces 1 rfl) 4 30 rfl (by decide) (fun c => ?_) (fun c => ?_)
  · have h := it_t h c
    refine Z_iconst (v := 0) hC (dk d_X1_hasPlaces 18 rfl) 31 rfl (by decide) ?_
    obtain rfl := Option.some.inj h
    exact Z_zreturn (st := []) hC hr rfl hQ (dk d_X1_hasPlaces 19 rfl)
  · have h := it_f h c
    refine Z_iload_n hC (dk d_X1_hasPlaces 2 rfl) 5 rfl rfl rfl ?_
    refine Z_aload_n hC (dk d_X1_hasPlaces 3 rfl) 6 rfl rfl rfl ?_
    refine G_X1_16 hC m_1 (dk d_X1_hasPlaces 4 rfl) 9 rfl ?_
    refine Z_iload_n hC (dk d_X1_hasPlaces 5 rfl) 10 rfl rfl rfl ?_
    obtain ⟨g1, h⟩ := gd_some h
    refine Z_iaload hC m_12 (by decide) rfl g1 (dk d_X1_hasPlaces 6 rfl) 11 rfl ?_
    refine Z_icmp_gt hC (dk d_X1_hasPlaces 7 rfl) 14 30 rfl (by decide) (fun c => ?_) (fun c => ?_)
    · have h := it_t h c
      refine Z_iconst (v := 0) hC (dk d_X1_hasPlaces 18 rfl) 31 rfl (by decide) ?_
      obtain rfl := Option.some.inj h
      exact Z_zreturn (st := []) hC hr rfl hQ (dk d_X1_hasPlaces 19 rfl)
    · have h := it_f h c
      refine Z_iload_n hC (dk d_X1_hasPlaces 8 rfl) 15 rfl rfl rfl ?_
      refine Z_aload_n hC (dk d_X1_hasPlaces 9 rfl) 16 rfl rfl rfl ?_
      refine G_X1_16 hC m_1 (dk d_X1_hasPlaces 10 rfl) 19 rfl ?_
      refine Z_iload_n hC (dk d_X1_hasPlaces 11 rfl) 20 rfl rfl rfl ?_
      obtain ⟨g2, h⟩ := gd_some h
      refine Z_iaload hC m_12 (by decide) rfl g2 (dk d_X1_hasPlaces 12 rfl) 21 rfl ?_
      refine Z_iload_n hC (dk d_X1_hasPlaces 13 rfl) 22 rfl rfl rfl ?_
      refine Z_isub hC (dk d_X1_hasPlaces 14 rfl) 23 rfl ?_
      refine Z_icmp_gt hC (dk d_X1_hasPlaces 15 rfl) 26 30 rfl (by decide) (fun c => ?_) (fun c => ?_)
      · have h := it_t h c
        refine Z_iconst (v := 0) hC (dk d_X1_hasPlaces 18 rfl) 31 rfl (by decide) ?_
        obtain rfl := Option.some.inj h
        exact Z_zreturn (st := []) hC hr rfl hQ (dk d_X1_hasPlaces 19 rfl)
      · have h := it_f h c
        refine Z_iconst (v := 1) hC (dk d_X1_hasPlaces 16 rfl) 27 rfl (by decide) ?_
        refine Z_goto hC (dk d_X1_hasPlaces 17 rfl) 31 (by decide) ?_
        obtain rfl := Option.some.inj h
        exact Z_zreturn (st := []) hC hr rfl hQ (dk d_X1_hasPlaces 19 rfl)
def t_X1_mixAll : List (Nat × Instr × Nat) := [(0, .lload_n 1, 1), (1, .lstore_n 3, 1), (2, .iconst 0, 1), (3, .istore 5, 2), (5, .iload 5, 2), (7, .bipush 6, 2), (9, .if_icmp .ge 63, 3), (12, .ldc2_w 30, 3), (15, .lload_n 3, 1), (16, .lmul, 1), (17, .aload_n 0, 1), (18, .getfield 16, 3), (21, .iload 5, 2), (23, .iaload, 1), (24, .i2l, 1), (25, .ladd, 1), (26, .lstore_n 3, 1), (27, .iconst 0, 1), (28, .istore 6, 2), (30, .iload 6, 2), (32, .aload_n 0, 1), (33, .getfield 16, 3), (36, .iload 5, 2), (38, .iaload, 1), (39, .if_icmp .ge 27, 3), (42, .ldc2_w 30, 3), (45, .lload_n 3, 1), (46, .lmul, 1), (47, .aload_n 0, 1), (48, .getfield 11, 3), (51, .iload 5, 2), (53, .aaload, 1), (54, .iload 6, 2), (56, .iaload, 1), (57, .i2l, 1), (58, .ladd, 1), (59, .lstore_n 3, 1), (60, .iinc 6 1, 3), (63, .goto (-33), 3), (66, .iinc 5 1, 3), (69, .goto (-64), 3), (72, .lload_n 3, 1), (73, .lreturn, 1)]
set_option maxRecDepth 20000 in
theorem d_X1_mixAll : ∀ q ∈ t_X1_mixAll, decode cX1_mixAll q.1 = .ok q.2 := by decide +kernel
noncomputable def X1_mixAll_L2 (N : Nat) (x5 : Int32) : Nat → Int64 → Int32 → Wd → Option (Int64 × Wd)
  | 0, _, _, _ => none
  | n + 1, x3, x6, w =>
  gd (vp_in x5 6) (
  if (gA w 12 0 x5.toNatClampNeg) ≤ x6 then
    some (x3, w)
  else
    gd (vp_in x5 6) (
    gd (vp_in x6 40) (
    X1_mixAll_L2 N x5 n (((31 : Int64) * x3) + ((gA w 11 x5.toNatClampNeg x6.toNatClampNeg).toInt64)) (x6 + (1 : Int32)) w)))
set_option maxRecDepth 20000 in
set_option maxHeartbeats 4000000 in
theorem z_X1_mixAll_L2 {x : CX} (hC : Cx x RX1 cX1_mixAll 7 0) (hr : (xM x).sig.returnType = (some .long)) (N : Nat) (x5 : Int32) : ∀ (n : Nat) (x3 : Int64) (x6 : Int32) (w : Wd) (q : (Int64 × Wd)), X1_mixAll_L2 N x5 n x3 x6 w = some q → Z x 66 [some (vr 1 0), none, none, some (vl q.1), none, some (vi x5), none] [] q.2 → Z x 30 [some (vr 1 0), none, none, some (vl x3), none, some (vi x5), some (vi x6)] [] w := by
  intro n
  induction n with
  | zero =>
    intro x3 x6 w q h
    cases h
  | succ n ih =>
    intro x3 x6 w q h ke
    rw [X1_mixAll_L2] at h
    refine Z_iload hC (dk d_X1_mixAll 19 rfl) 32 rfl rfl ?_
    refine Z_aload_n hC (dk d_X1_mixAll 20 rfl) 33 rfl rfl rfl ?_
    refine G_X1_16 hC m_1 (dk d_X1_mixAll 21 rfl) 36 rfl ?_
    refine Z_iload hC (dk d_X1_mixAll 22 rfl) 38 rfl rfl ?_
    obtain ⟨g2, h⟩ := gd_some h
    refine Z_iaload hC m_12 (by decide) rfl g2 (dk d_X1_mixAll 23 rfl) 39 rfl ?_
    refine Z_icmp_ge hC (dk d_X1_mixAll 24 rfl) 42 66 rfl (by decide) (fun c => ?_) (fun c => ?_)
    · have h := it_t h c
      obtain rfl := Option.some.inj h
      refine Z_wk [true, false, false, true, false, true, false] [some (vr 1 0), none, none, some (vl x3), none, some (vi x5), none] rfl ?_
      exact ke
    · have h := it_f h c
      refine Z_ldc2 hC kc_X1_30 (dk d_X1_mixAll 25 rfl) 45 rfl ?_
      refine Z_lload_n hC (dk d_X1_mixAll 26 rfl) 46 rfl rfl rfl ?_
      refine Z_lmul hC (dk d_X1_mixAll 27 rfl) 47 rfl ?_
      refine Z_aload_n hC (dk d_X1_mixAll 28 rfl) 48 rfl rfl rfl ?_
      refine G_X1_11 hC m_1 (dk d_X1_mixAll 29 rfl) 51 rfl ?_
      refine Z_iload hC (dk d_X1_mixAll 30 rfl) 53 rfl rfl ?_
      obtain ⟨g3, h⟩ := gd_some h
      refine Z_aaload hC m_10 (by decide) (by decide) g3 (dk d_X1_mixAll 31 rfl) 54 rfl ?_
      refine Z_iload hC (dk d_X1_mixAll 32 rfl) 56 rfl rfl ?_
      obtain ⟨g4, h⟩ := gd_some h
      refine Z_iaload hC (m_11 (vp_lt g3)) (by decide) rfl g4 (dk d_X1_mixAll 33 rfl) 57 rfl ?_
      refine Z_i2l hC (dk d_X1_mixAll 34 rfl) 58 rfl ?_
      refine Z_ladd hC (dk d_X1_mixAll 35 rfl) 59 rfl ?_
      refine Z_lstore_n hC (dk d_X1_mixAll 36 rfl) 60 rfl rfl (Nat.le_of_ble_eq_true rfl) [some (vr 1 0), none, none, some (vl (((31 : Int64) * x3) + ((gA w 11 x5.toNatClampNeg x6.toNatClampNeg).toInt64))), none, some (vi x5), some (vi x6)] rfl ?_
      refine Z_iinc hC (dk d_X1_mixAll 37 rfl) 63 rfl rfl rfl [some (vr 1 0), none, none, some (vl (((31 : Int64) * x3) + ((gA w 11 x5.toNatClampNeg x6.toNatClampNeg).toInt64))), none, some (vi x5), some (vi (x6 + (1 : Int32)))] rfl ?_
      refine Z_goto hC (dk d_X1_mixAll 38 rfl) 30 (by decide) ?_
      refine Z_wk [true, false, false, true, false, true, true] [some (vr 1 0), none, none, some (vl (((31 : Int64) * x3) + ((gA w 11 x5.toNatClampNeg x6.toNatClampNeg).toInt64))), none, some (vi x5), some (vi (x6 + (1 : Int32)))] rfl ?_
      exact ih (((31 : Int64) * x3) + ((gA w 11 x5.toNatClampNeg x6.toNatClampNeg).toInt64)) (x6 + (1 : Int32)) w _ h ke
noncomputable def X1_mixAll_L1 (N : Nat) : Nat → Int64 → Int32 → Wd → Option (Int64 × Wd)
  | 0, _, _, _ => none
  | n + 1, x3, x5, w =>
  if (6 : Int32) ≤ x5 then
    some (x3, w)
  else
    gd (vp_in x5 6) (
    (X1_mixAll_L2 N x5 N (((31 : Int64) * x3) + ((gA w 12 0 x5.toNatClampNeg).toInt64)) (0 : Int32) w).bind (fun q5 =>
      X1_mixAll_L1 N n q5.1 (x5 + (1 : Int32)) q5.2))
set_option maxRecDepth 20000 in
set_option maxHeartbeats 4000000 in
theorem z_X1_mixAll_L1 {x : CX} (hC : Cx x RX1 cX1_mixAll 7 0) (hr : (xM x).sig.returnType = (some .long)) (N : Nat) : ∀ (n : Nat) (x3 : Int64) (x5 : Int32) (w : Wd) (q : (Int64 × Wd)), X1_mixAll_L1 N n x3 x5 w = some q → Z x 72 [none, none, none, some (vl q.1), none, none, none] [] q.2 → Z x 5 [some (vr 1 0), none, none, some (vl x3), none, some (vi x5), none] [] w := by
  intro n
  induction n with
  | zero =>
    intro x3 x5 w q h
    cases h
  | succ n ih =>
    intro x3 x5 w q h ke
    rw [X1_mixAll_L1] at h
    refine Z_iload hC (dk d_X1_mixAll 4 rfl) 7 rfl rfl ?_
    refine Z_bipush (v := 6) hC (dk d_X1_mixAll 5 rfl) 9 rfl (by decide) ?_
    refine Z_icmp_ge hC (dk d_X1_mixAll 6 rfl) 12 72 rfl (by decide) (fun c => ?_) (fun c => ?_)
    · have h := it_t h c
      obtain rfl := Option.some.inj h
      refine Z_wk [false, false, false, true, false, false, false] [none, none, none, some (vl x3), none, none, none] rfl ?_
      exact ke
    · have h := it_f h c
      refine Z_ldc2 hC kc_X1_30 (dk d_X1_mixAll 7 rfl) 15 rfl ?_
      refine Z_lload_n hC (dk d_X1_mixAll 8 rfl) 16 rfl rfl rfl ?_
      refine Z_lmul hC (dk d_X1_mixAll 9 rfl) 17 rfl ?_
      refine Z_aload_n hC (dk d_X1_mixAll 10 rfl) 18 rfl rfl rfl ?_
      refine G_X1_16 hC m_1 (dk d_X1_mixAll 11 rfl) 21 rfl ?_
      refine Z_iload hC (dk d_X1_mixAll 12 rfl) 23 rfl rfl ?_
      obtain ⟨g1, h⟩ := gd_some h
      refine Z_iaload hC m_12 (by decide) rfl g1 (dk d_X1_mixAll 13 rfl) 24 rfl ?_
      refine Z_i2l hC (dk d_X1_mixAll 14 rfl) 25 rfl ?_
      refine Z_ladd hC (dk d_X1_mixAll 15 rfl) 26 rfl ?_
      refine Z_lstore_n hC (dk d_X1_mixAll 16 rfl) 27 rfl rfl (Nat.le_of_ble_eq_true rfl) [some (vr 1 0), none, none, some (vl (((31 : Int64) * x3) + ((gA w 12 0 x5.toNatClampNeg).toInt64))), none, some (vi x5), none] rfl ?_
      refine Z_iconst (v := 0) hC (dk d_X1_mixAll 17 rfl) 28 rfl (by decide) ?_
      refine Z_istore hC (dk d_X1_mixAll 18 rfl) 30 rfl (Nat.le_of_ble_eq_true rfl) [some (vr 1 0), none, none, some (vl (((31 : Int64) * x3) + ((gA w 12 0 x5.toNatClampNeg).toInt64))), none, some (vi x5), some (vi (0 : Int32))] rfl ?_
      obtain ⟨q5, hq5, h⟩ := bd_some h
      refine Z_wk [true, false, false, true, false, true, true] [some (vr 1 0), none, none, some (vl (((31 : Int64) * x3) + ((gA w 12 0 x5.toNatClampNeg).toInt64))), none, some (vi x5), some (vi (0 : Int32))] rfl ?_
      refine z_X1_mixAll_L2 hC hr N x5 N (((31 : Int64) * x3) + ((gA w 12 0 x5.toNatClampNeg).toInt64)) (0 : Int32) w q5 hq5 ?_
      refine Z_iinc hC (dk d_X1_mixAll 39 rfl) 69 rfl rfl rfl [some (vr 1 0), none, none, some (vl q5.1), none, some (vi (x5 + (1 : Int32))), none] rfl ?_
      refine Z_goto hC (dk d_X1_mixAll 40 rfl) 5 (by decide) ?_
      refine Z_wk [true, false, false, true, false, true, false] [some (vr 1 0), none, none, some (vl q5.1), none, some (vi (x5 + (1 : Int32))), none] rfl ?_
      exact ih q5.1 (x5 + (1 : Int32)) q5.2 _ h ke
noncomputable def f_X1_mixAll (N : Nat) (a1 : Int64) (w : Wd) : Option (Int64 × Wd) :=
  (X1_mixAll_L1 N N a1 (0 : Int32) w).bind (fun q6 =>
    some (q6.1, q6.2))
set_option maxRecDepth 20000 in
set_option maxHeartbeats 4000000 in
theorem s_X1_mixAll (G : GT) (l : Launch) (N : Nat) (a1 : Int64) (w : Wd) (q : Int64 × Wd) (h : f_X1_mixAll N a1 w = some q) : Sp G l yX1_mixAll cw_X1_mixAll 0 [vr 1 0, vl a1] w (some (vl q.1)) q.2 := by
  refine Sp_of (own := RX1) [some (vr 1 0), some (vl a1), none, none, none, none, none] (by decide) rfl rfl (Nat.le_of_ble_eq_true rfl) ?_
  intro x hG hl hC hr hQ _ _
  subst hG
  subst hl
  unfold f_X1_mixAll at h
  refine Z_lload_n hC (dk d_X1_mixAll 0 rfl) 1 rfl rfl rfl ?_
  refine Z_lstore_n hC (dk d_X1_mixAll 1 rfl) 2 rfl rfl (Nat.le_of_ble_eq_true rfl) [some (vr 1 0), some (vl a1), none, some (vl a1), none, none, none] rfl ?_
  refine Z_iconst (v := 0) hC (dk d_X1_mixAll 2 rfl) 3 rfl (by decide) ?_
  refine Z_istore hC (dk d_X1_mixAll 3 rfl) 5 rfl (Nat.le_of_ble_eq_true rfl) [some (vr 1 0), some (vl a1), none, some (vl a1), none, some (vi (0 : Int32)), none] rfl ?_
  obtain ⟨q6, hq6, h⟩ := bd_some h
  refine Z_wk [true, false, false, true, false, true, false] [some (vr 1 0), none, none, some (vl a1), none, some (vi (0 : Int32)), none] rfl ?_
  refine z_X1_mixAll_L1 hC hr N N a1 (0 : Int32) w q6 hq6 ?_
  refine Z_lload_n hC (dk d_X1_mixAll 41 rfl) 73 rfl rfl rfl ?_
  obtain rfl := Option.some.inj h
  exact Z_lreturn (st := []) hC hr hQ (dk d_X1_mixAll 42 rfl)
def t_X2_admit : List (Nat × Instr × Nat) := [(0, .aload_n 0, 1), (1, .getfield 22, 3), (4, .aload_n 0, 1), (5, .getfield 32, 3), (8, .if_icmp .ge 32, 3), (11, .aload_n 0, 1), (12, .getfield 9, 3), (15, .iload_n 1, 1), (16, .invokevirtual 59, 3), (19, .ifCond .ne 21, 3), (22, .aload_n 0, 1), (23, .getfield 35, 3), (26, .ifCond .eq 15, 3), (29, .aload_n 0, 1), (30, .getfield 9, 3), (33, .iload_n 1, 1), (34, .invokevirtual 63, 3), (37, .ifCond .eq 4, 3), (40, .return_, 1), (41, .aload_n 0, 1), (42, .getfield 15, 3), (45, .aload_n 0, 1), (46, .getfield 22, 3), (49, .iload_n 1, 1), (50, .iastore, 1), (51, .aload_n 0, 1), (52, .dup, 1), (53, .getfield 22, 3), (56, .iconst 1, 1), (57, .iadd, 1), (58, .putfield 22, 3), (61, .return_, 1)]
set_option maxRecDepth 20000 in
theorem d_X2_admit : ∀ q ∈ t_X2_admit, decode cX2_admit q.1 = .ok q.2 := by decide +kernel
noncomputable def X2_admit_J41 (N : Nat) (i : Nat) (x1 : Int32) (w : Wd) : Option (Wd) :=
  gd (vp_in (gI w 201 i) 265) (
  some (sI (sA w 20 i (upd (gA w 20 i) (gI w 201 i).toNatClampNeg x1)) 201 i ((gI (sA w 20 i (upd (gA w 20 i) (gI w 201 i).toNatClampNeg x1)) 201 i) + (1 : Int32))))
set_option maxRecDepth 20000 in
set_option maxHeartbeats 4000000 in
theorem z_X2_admit_J41 {x : CX} (hC : Cx x RX2 cX2_admit 2 4) (hr : (xM x).sig.returnType = none) (N : Nat) (i : Nat) (hi : i < 2) (x1 : Int32) (w : Wd) (q : (Wd)) (h : X2_admit_J41 N i x1 w = some q) (hQ : Rt x none q) : Z x 41 [some (vr 4 i), some (vi x1)] [] w := by
  unfold X2_admit_J41 at h
  refine Z_aload_n hC (dk d_X2_admit 19 rfl) 42 rfl rfl rfl ?_
  refine G_X2_15 hC (m_4 hi) (dk d_X2_admit 20 rfl) 45 rfl ?_
  refine Z_aload_n hC (dk d_X2_admit 21 rfl) 46 rfl rfl rfl ?_
  refine G_X2_22 hC (m_4 hi) (dk d_X2_admit 22 rfl) 49 rfl ?_
  refine Z_iload_n hC (dk d_X2_admit 23 rfl) 50 rfl rfl rfl ?_
  obtain ⟨g2, h⟩ := gd_some h
  refine Z_iastore hC (m_20 hi) (by decide) rfl g2 (dk d_X2_admit 24 rfl) 51 rfl ?_
  refine Z_aload_n hC (dk d_X2_admit 25 rfl) 52 rfl rfl rfl ?_
  refine Z_dup hC (dk d_X2_admit 26 rfl) 53 rfl rfl ?_
  refine G_X2_22 hC (m_4 hi) (dk d_X2_admit 27 rfl) 56 rfl ?_
  refine Z_iconst (v := 1) hC (dk d_X2_admit 28 rfl) 57 rfl (by decide) ?_
  refine Z_iadd hC (dk d_X2_admit 29 rfl) 58 rfl ?_
  refine P_X2_22 hC (m_4 hi) (dk d_X2_admit 30 rfl) 61 rfl ?_
  obtain rfl := Option.some.inj h
  exact Z_return (st := []) hC hr hQ (dk d_X2_admit 31 rfl)
noncomputable def f_X2_admit (N : Nat) (i : Nat) (a1 : Int32) (w : Wd) : Option (Wd) :=
  if (gI w 204 i) ≤ (gI w 201 i) then
    some w
  else
    (f_X0_breaksRing N i a1 w).bind (fun q1 =>
      if q1.1 = 0 then
        if (gI q1.2 205 i) = 0 then
          X2_admit_J41 N i a1 q1.2
        else
          (f_X0_hadYear N i a1 q1.2).bind (fun q3 =>
            if q3.1 = 0 then
              X2_admit_J41 N i a1 q3.2
            else
              some q3.2)
      else
        some q1.2)
set_option maxRecDepth 20000 in
set_option maxHeartbeats 4000000 in
theorem s_X2_admit (G : GT) (l : Launch) (N : Nat) (i : Nat) (hi : i < 2) (a1 : Int32) (w : Wd) (q : Wd) (h : f_X2_admit N i a1 w = some q) : Sp G l yX2_admit cw_X2_admit 4 [vr 4 i, vi a1] w none q := by
  refine Sp_of (own := RX2) [some (vr 4 i), some (vi a1)] (by decide) rfl rfl (Nat.le_of_ble_eq_true rfl) ?_
  intro x hG hl hC hr hQ _ _
  subst hG
  subst hl
  unfold f_X2_admit at h
  refine Z_aload_n hC (dk d_X2_admit 0 rfl) 1 rfl rfl rfl ?_
  refine G_X2_22 hC (m_4 hi) (dk d_X2_admit 1 rfl) 4 rfl ?_
  refine Z_aload_n hC (dk d_X2_admit 2 rfl) 5 rfl rfl rfl ?_
  refine G_X2_32 hC (m_4 hi) (dk d_X2_admit 3 rfl) 8 rfl ?_
  refine Z_icmp_ge hC (dk d_X2_admit 4 rfl) 11 40 rfl (by decide) (fun c => ?_) (fun c => ?_)
  · have h := it_t h c
    obtain rfl := Option.some.inj h
    exact Z_return (st := []) hC hr hQ (dk d_X2_admit 18 rfl)
  · have h := it_f h c
    refine Z_aload_n hC (dk d_X2_admit 5 rfl) 12 rfl rfl rfl ?_
    refine G_X2_9 hC (m_4 hi) (dk d_X2_admit 6 rfl) 15 rfl ?_
    refine Z_iload_n hC (dk d_X2_admit 7 rfl) 16 rfl rfl rfl ?_
    obtain ⟨q1, hq1, h⟩ := bd_some h
    refine K_X2_59 [vi a1] hC (m_3 hi) (s_X0_breaksRing (xG x) (xl x) N i hi a1 w q1 hq1) (Nat.le_of_ble_eq_true rfl) rfl rfl rfl (Nat.le_of_ble_eq_true rfl) (dk d_X2_admit 8 rfl) 19 rfl ?_
    refine Z_if_ne hC (dk d_X2_admit 9 rfl) 22 40 rfl (by decide) (fun c => ?_) (fun c => ?_)
    · have h := it_f h c
      obtain rfl := Option.some.inj h
      exact Z_return (st := []) hC hr hQ (dk d_X2_admit 18 rfl)
    · have h := it_t h c
      refine Z_aload_n hC (dk d_X2_admit 10 rfl) 23 rfl rfl rfl ?_
      refine G_X2_35 hC (m_4 hi) (dk d_X2_admit 11 rfl) 26 rfl ?_
      refine Z_if_eq hC (dk d_X2_admit 12 rfl) 29 41 rfl (by decide) (fun c => ?_) (fun c => ?_)
      · have h := it_t h c
        refine Z_wk [true, true] [some (vr 4 i), some (vi a1)] rfl ?_
        exact z_X2_admit_J41 hC hr N i hi a1 q1.2 _ h hQ
      · have h := it_f h c
        refine Z_aload_n hC (dk d_X2_admit 13 rfl) 30 rfl rfl rfl ?_
        refine G_X2_9 hC (m_4 hi) (dk d_X2_admit 14 rfl) 33 rfl ?_
        refine Z_iload_n hC (dk d_X2_admit 15 rfl) 34 rfl rfl rfl ?_
        obtain ⟨q3, hq3, h⟩ := bd_some h
        refine K_X2_63 [vi a1] hC (m_3 hi) (s_X0_hadYear (xG x) (xl x) N i hi a1 q1.2 q3 hq3) (Nat.le_of_ble_eq_true rfl) rfl rfl rfl (Nat.le_of_ble_eq_true rfl) (dk d_X2_admit 16 rfl) 37 rfl ?_
        refine Z_if_eq hC (dk d_X2_admit 17 rfl) 40 41 rfl (by decide) (fun c => ?_) (fun c => ?_)
        · have h := it_t h c
          refine Z_wk [true, true] [some (vr 4 i), some (vi a1)] rfl ?_
          exact z_X2_admit_J41 hC hr N i hi a1 q3.2 _ h hQ
        · have h := it_f h c
          obtain rfl := Option.some.inj h
          exact Z_return (st := []) hC hr hQ (dk d_X2_admit 18 rfl)
def t_X2_extend : List (Nat × Instr × Nat) := [(0, .iload_n 1, 1), (1, .aload_n 0, 1), (2, .getfield 9, 3), (5, .getfield 39, 3), (8, .if_icmp .ge 9, 3), (11, .iload_n 1, 1), (12, .bipush 6, 2), (14, .if_icmp .lt 9, 3), (17, .aload_n 0, 1), (18, .iload_n 3, 1), (19, .invokevirtual 51, 3), (22, .return_, 1), (23, .aload_n 0, 1), (24, .getfield 19, 3), (27, .iload_n 1, 1), (28, .iaload, 1), (29, .iload_n 2, 1), (30, .iconst (-1), 1), (31, .ixor, 1), (32, .iand, 1), (33, .istore 4, 2), (35, .iconst 0, 1), (36, .istore 5, 2), (38, .iload 5, 2), (40, .aload_n 0, 1), (41, .getfield 9, 3), (44, .getfield 39, 3), (47, .if_icmp .ge 65, 3), (50, .aload_n 0, 1), (51, .getfield 22, 3), (54, .aload_n 0, 1), (55, .getfield 32, 3), (58, .if_icmp .ge 54, 3), (61, .iload 4, 2), (63, .iload 5, 2), (65, .ishr, 1), (66, .iconst 1, 1), (67, .iand, 1), (68, .ifCond .eq 38, 3), (71, .aload_n 0, 1), (72, .getfield 9, 3), (75, .iload_n 1, 1), (76, .iload 5, 2), (78, .iload_n 3, 1), (79, .invokevirtual 55, 3), (82, .ifCond .ne 24, 3), (85, .aload_n 0, 1), (86, .iload_n 1, 1), (87, .iconst 1, 1), (88, .iadd, 1), (89, .iload_n 2, 1), (90, .iconst 1, 1), (91, .iload 5, 2), (93, .ishl, 1), (94, .ior, 1), (95, .iload_n 3, 1), (96, .iload 5, 2), (98, .iconst 3, 1), (99, .iload_n 1, 1), (100, .imul, 1), (101, .ishl, 1), (102, .ior, 1), (103, .invokevirtual 47, 3), (106, .iinc 5 1, 3), (109, .goto (-71), 3), (112, .return_, 1)]
set_option maxRecDepth 20000 in
theorem d_X2_extend : ∀ q ∈ t_X2_extend, decode cX2_extend q.1 = .ok q.2 := by decide +kernel
noncomputable def X2_extend_L1 (N : Nat) (rec : Nat → Int32 → Int32 → Int32 → Wd → Option (Wd)) (i : Nat) (x1 : Int32) (x2 : Int32) (x3 : Int32) (x4 : Int32) : Nat → Int32 → Wd → Option (Wd)
  | 0, _, _ => none
  | n + 1, x5, w =>
  if (gI w 4 i) ≤ x5 then
    some w
  else
    if (gI w 204 i) ≤ (gI w 201 i) then
      some w
    else
      if ((x4 >>> (x5 &&& (31 : Int32))) &&& (1 : Int32)) = 0 then
        X2_extend_L1 N rec i x1 x2 x3 x4 n (x5 + (1 : Int32)) w
      else
        (f_X0_drawsBack N i x1 x5 x3 w).bind (fun q3 =>
          if q3.1 = 0 then
            (rec i (x1 + (1 : Int32)) (x2 ||| ((1 : Int32) <<< (x5 &&& (31 : Int32)))) (x3 ||| (x5 <<< (((3 : Int32) * x1) &&& (31 : Int32)))) q3.2).bind (fun q4 =>
              X2_extend_L1 N rec i x1 x2 x3 x4 n (x5 + (1 : Int32)) q4)
          else
            X2_extend_L1 N rec i x1 x2 x3 x4 n (x5 + (1 : Int32)) q3.2)
set_option maxRecDepth 20000 in
set_option maxHeartbeats 4000000 in
theorem z_X2_extend_L1 {x : CX} {kd : Nat} (hC : Cx x RX2 cX2_extend 6 (5 + (kd + 1))) (hr : (xM x).sig.returnType = none) (N : Nat) {rec : Nat → Int32 → Int32 → Int32 → Wd → Option (Wd)} (hrec : ∀ (i : Nat) (a1 : Int32) (a2 : Int32) (a3 : Int32) (w : Wd) (q : Wd), i < 2 → rec i a1 a2 a3 w = some q → Sp (xG x) (xl x) yX2_extend cw_X2_extend (5 + kd) [vr 4 i, vi a1, vi a2, vi a3] w none q) (i : Nat) (hi : i < 2) (x1 : Int32) (x2 : Int32) (x3 : Int32) (x4 : Int32) : ∀ (n : Nat) (x5 : Int32) (w : Wd) (q : (Wd)), X2_extend_L1 N rec i x1 x2 x3 x4 n x5 w = some q → Z x 112 [none, none, none, none, none, none] [] q → Z x 38 [some (vr 4 i), some (vi x1), some (vi x2), some (vi x3), some (vi x4), some (vi x5)] [] w := by
  intro n
  induction n with
  | zero =>
    intro x5 w q h
    cases h
  | succ n ih =>
    intro x5 w q h ke
    rw [X2_extend_L1] at h
    refine Z_iload hC (dk d_X2_extend 23 rfl) 40 rfl rfl ?_
    refine Z_aload_n hC (dk d_X2_extend 24 rfl) 41 rfl rfl rfl ?_
    refine G_X2_9 hC (m_4 hi) (dk d_X2_extend 25 rfl) 44 rfl ?_
    refine G_X2_39 hC (m_3 hi) (dk d_X2_extend 26 rfl) 47 rfl ?_
    refine Z_icmp_ge hC (dk d_X2_extend 27 rfl) 50 112 rfl (by decide) (fun c => ?_) (fun c => ?_)
    · have h := it_t h c
      obtain rfl := Option.some.inj h
      refine Z_wk [false, false, false, false, false, false] [none, none, none, none, none, none] rfl ?_
      exact ke
    · have h := it_f h c
      refine Z_aload_n hC (dk d_X2_extend 28 rfl) 51 rfl rfl rfl ?_
      refine G_X2_22 hC (m_4 hi) (dk d_X2_extend 29 rfl) 54 rfl ?_
      refine Z_aload_n hC (dk d_X2_extend 30 rfl) 55 rfl rfl rfl ?_
      refine G_X2_32 hC (m_4 hi) (dk d_X2_extend 31 rfl) 58 rfl ?_
      refine Z_icmp_ge hC (dk d_X2_extend 32 rfl) 61 112 rfl (by decide) (fun c => ?_) (fun c => ?_)
      · have h := it_t h c
        obtain rfl := Option.some.inj h
        refine Z_wk [false, false, false, false, false, false] [none, none, none, none, none, none] rfl ?_
        exact ke
      · have h := it_f h c
        refine Z_iload hC (dk d_X2_extend 33 rfl) 63 rfl rfl ?_
        refine Z_iload hC (dk d_X2_extend 34 rfl) 65 rfl rfl ?_
        refine Z_ishr hC (dk d_X2_extend 35 rfl) 66 rfl ?_
        refine Z_iconst (v := 1) hC (dk d_X2_extend 36 rfl) 67 rfl (by decide) ?_
        refine Z_iand hC (dk d_X2_extend 37 rfl) 68 rfl ?_
        refine Z_if_eq hC (dk d_X2_extend 38 rfl) 71 106 rfl (by decide) (fun c => ?_) (fun c => ?_)
        · have h := it_t h c
          refine Z_iinc hC (dk d_X2_extend 63 rfl) 109 rfl rfl rfl [some (vr 4 i), some (vi x1), some (vi x2), some (vi x3), some (vi x4), some (vi (x5 + (1 : Int32)))] rfl ?_
          refine Z_goto hC (dk d_X2_extend 64 rfl) 38 (by decide) ?_
          refine Z_wk [true, true, true, true, true, true] [some (vr 4 i), some (vi x1), some (vi x2), some (vi x3), some (vi x4), some (vi (x5 + (1 : Int32)))] rfl ?_
          exact ih (x5 + (1 : Int32)) w _ h ke
        · have h := it_f h c
          refine Z_aload_n hC (dk d_X2_extend 39 rfl) 72 rfl rfl rfl ?_
          refine G_X2_9 hC (m_4 hi) (dk d_X2_extend 40 rfl) 75 rfl ?_
          refine Z_iload_n hC (dk d_X2_extend 41 rfl) 76 rfl rfl rfl ?_
          refine Z_iload hC (dk d_X2_extend 42 rfl) 78 rfl rfl ?_
          refine Z_iload_n hC (dk d_X2_extend 43 rfl) 79 rfl rfl rfl ?_
          obtain ⟨q3, hq3, h⟩ := bd_some h
          refine K_X2_55 [vi x1, vi x5, vi x3] hC (m_3 hi) (s_X0_drawsBack (xG x) (xl x) N i hi x1 x5 x3 w q3 hq3) (by omega) rfl rfl rfl (Nat.le_of_ble_eq_true rfl) (dk d_X2_extend 44 rfl) 82 rfl ?_
          refine Z_if_ne hC (dk d_X2_extend 45 rfl) 85 106 rfl (by decide) (fun c => ?_) (fun c => ?_)
          · have h := it_f h c
            refine Z_iinc hC (dk d_X2_extend 63 rfl) 109 rfl rfl rfl [some (vr 4 i), some (vi x1), some (vi x2), some (vi x3), some (vi x4), some (vi (x5 + (1 : Int32)))] rfl ?_
            refine Z_goto hC (dk d_X2_extend 64 rfl) 38 (by decide) ?_
            refine Z_wk [true, true, true, true, true, true] [some (vr 4 i), some (vi x1), some (vi x2), some (vi x3), some (vi x4), some (vi (x5 + (1 : Int32)))] rfl ?_
            exact ih (x5 + (1 : Int32)) q3.2 _ h ke
          · have h := it_t h c
            refine Z_aload_n hC (dk d_X2_extend 46 rfl) 86 rfl rfl rfl ?_
            refine Z_iload_n hC (dk d_X2_extend 47 rfl) 87 rfl rfl rfl ?_
            refine Z_iconst (v := 1) hC (dk d_X2_extend 48 rfl) 88 rfl (by decide) ?_
            refine Z_iadd hC (dk d_X2_extend 49 rfl) 89 rfl ?_
            refine Z_iload_n hC (dk d_X2_extend 50 rfl) 90 rfl rfl rfl ?_
            refine Z_iconst (v := 1) hC (dk d_X2_extend 51 rfl) 91 rfl (by decide) ?_
            refine Z_iload hC (dk d_X2_extend 52 rfl) 93 rfl rfl ?_
            refine Z_ishl hC (dk d_X2_extend 53 rfl) 94 rfl ?_
            refine Z_ior hC (dk d_X2_extend 54 rfl) 95 rfl ?_
            refine Z_iload_n hC (dk d_X2_extend 55 rfl) 96 rfl rfl rfl ?_
            refine Z_iload hC (dk d_X2_extend 56 rfl) 98 rfl rfl ?_
            refine Z_iconst (v := 3) hC (dk d_X2_extend 57 rfl) 99 rfl (by decide) ?_
            refine Z_iload_n hC (dk d_X2_extend 58 rfl) 100 rfl rfl rfl ?_
            refine Z_imul hC (dk d_X2_extend 59 rfl) 101 rfl ?_
            refine Z_ishl hC (dk d_X2_extend 60 rfl) 102 rfl ?_
            refine Z_ior hC (dk d_X2_extend 61 rfl) 103 rfl ?_
            obtain ⟨q4, hq4, h⟩ := bd_some h
            refine K_X2_47 [vi (x1 + (1 : Int32)), vi (x2 ||| ((1 : Int32) <<< (x5 &&& (31 : Int32)))), vi (x3 ||| (x5 <<< (((3 : Int32) * x1) &&& (31 : Int32))))] hC (m_4 hi) (hrec i (x1 + (1 : Int32)) (x2 ||| ((1 : Int32) <<< (x5 &&& (31 : Int32)))) (x3 ||| (x5 <<< (((3 : Int32) * x1) &&& (31 : Int32)))) q3.2 q4 hi hq4) (by omega) rfl rfl rfl (Nat.le_of_ble_eq_true rfl) (dk d_X2_extend 62 rfl) 106 rfl ?_
            refine Z_iinc hC (dk d_X2_extend 63 rfl) 109 rfl rfl rfl [some (vr 4 i), some (vi x1), some (vi x2), some (vi x3), some (vi x4), some (vi (x5 + (1 : Int32)))] rfl ?_
            refine Z_goto hC (dk d_X2_extend 64 rfl) 38 (by decide) ?_
            refine Z_wk [true, true, true, true, true, true] [some (vr 4 i), some (vi x1), some (vi x2), some (vi x3), some (vi x4), some (vi (x5 + (1 : Int32)))] rfl ?_
            exact ih (x5 + (1 : Int32)) q4 _ h ke
noncomputable def f_X2_extend (N : Nat) : Nat → Nat → Int32 → Int32 → Int32 → Wd → Option (Wd)
  | 0, _, _, _, _, _ => none
  | k + 1, i, a1, a2, a3, w =>
  if (gI w 4 i) ≤ a1 then
    (f_X2_admit N i a3 w).bind (fun q1 =>
      some q1)
  else
    if a1 < (6 : Int32) then
      gd (vp_in a1 6) (
      (X2_extend_L1 N (f_X2_extend N k) i a1 a2 a3 ((gA w 21 i a1.toNatClampNeg) &&& (a2 ^^^ (-1 : Int32))) N (0 : Int32) w).bind (fun q5 =>
        some q5))
    else
      (f_X2_admit N i a3 w).bind (fun q6 =>
        some q6)
set_option maxRecDepth 20000 in
set_option maxHeartbeats 4000000 in
theorem s_X2_extend (G : GT) (l : Launch) (N : Nat) : ∀ (k : Nat) (i : Nat) (hi : i < 2) (a1 : Int32) (a2 : Int32) (a3 : Int32) (w : Wd) (q : Wd) (h : f_X2_extend N k i a1 a2 a3 w = some q), Sp G l yX2_extend cw_X2_extend (5 + k) [vr 4 i, vi a1, vi a2, vi a3] w none q := by
  intro kd
  induction kd with
  | zero =>
    intro i hi a1 a2 a3 w q h
    cases h
  | succ kd ih =>
    intro i hi a1 a2 a3 w q h
    rw [f_X2_extend] at h
    refine Sp_of (own := RX2) [some (vr 4 i), some (vi a1), some (vi a2), some (vi a3), none, none] (by decide) rfl rfl (Nat.le_of_ble_eq_true rfl) ?_
    intro x hG hl hC hr hQ _ _
    subst hG
    subst hl
    have hrec : ∀ (i : Nat) (a1 : Int32) (a2 : Int32) (a3 : Int32) (w : Wd) (q : Wd), i < 2 → f_X2_extend N kd i a1 a2 a3 w = some q → Sp (xG x) (xl x) yX2_extend cw_X2_extend (5 + kd) [vr 4 i, vi a1, vi a2, vi a3] w none q := fun i a1 a2 a3 w q hi h => ih i hi a1 a2 a3 w q h
    refine Z_iload_n hC (dk d_X2_extend 0 rfl) 1 rfl rfl rfl ?_
    refine Z_aload_n hC (dk d_X2_extend 1 rfl) 2 rfl rfl rfl ?_
    refine G_X2_9 hC (m_4 hi) (dk d_X2_extend 2 rfl) 5 rfl ?_
    refine G_X2_39 hC (m_3 hi) (dk d_X2_extend 3 rfl) 8 rfl ?_
    refine Z_icmp_ge hC (dk d_X2_extend 4 rfl) 11 17 rfl (by decide) (fun c => ?_) (fun c => ?_)
    · have h := it_t h c
      refine Z_aload_n hC (dk d_X2_extend 8 rfl) 18 rfl rfl rfl ?_
      refine Z_iload_n hC (dk d_X2_extend 9 rfl) 19 rfl rfl rfl ?_
      obtain ⟨q1, hq1, h⟩ := bd_some h
      refine K_X2_51 [vi a3] hC (m_4 hi) (s_X2_admit (xG x) (xl x) N i hi a3 w q1 hq1) (by omega) rfl rfl rfl (Nat.le_of_ble_eq_true rfl) (dk d_X2_extend 10 rfl) 22 rfl ?_
      obtain rfl := Option.some.inj h
      exact Z_return (st := []) hC hr hQ (dk d_X2_extend 11 rfl)
    · have h := it_f h c
      refine Z_iload_n hC (dk d_X2_extend 5 rfl) 12 rfl rfl rfl ?_
      refine Z_bipush (v := 6) hC (dk d_X2_extend 6 rfl) 14 rfl (by decide) ?_
      refine Z_icmp_lt hC (dk d_X2_extend 7 rfl) 17 23 rfl (by decide) (fun c => ?_) (fun c => ?_)
      · have h := it_t h c
        refine Z_aload_n hC (dk d_X2_extend 12 rfl) 24 rfl rfl rfl ?_
        refine G_X2_19 hC (m_4 hi) (dk d_X2_extend 13 rfl) 27 rfl ?_
        refine Z_iload_n hC (dk d_X2_extend 14 rfl) 28 rfl rfl rfl ?_
        obtain ⟨g2, h⟩ := gd_some h
        refine Z_iaload hC (m_21 hi) (by decide) rfl g2 (dk d_X2_extend 15 rfl) 29 rfl ?_
        refine Z_iload_n hC (dk d_X2_extend 16 rfl) 30 rfl rfl rfl ?_
        refine Z_iconst (v := -1) hC (dk d_X2_extend 17 rfl) 31 rfl (by decide) ?_
        refine Z_ixor hC (dk d_X2_extend 18 rfl) 32 rfl ?_
        refine Z_iand hC (dk d_X2_extend 19 rfl) 33 rfl ?_
        refine Z_istore hC (dk d_X2_extend 20 rfl) 35 rfl (Nat.le_of_ble_eq_true rfl) [some (vr 4 i), some (vi a1), some (vi a2), some (vi a3), some (vi ((gA w 21 i a1.toNatClampNeg) &&& (a2 ^^^ (-1 : Int32)))), none] rfl ?_
        refine Z_iconst (v := 0) hC (dk d_X2_extend 21 rfl) 36 rfl (by decide) ?_
        refine Z_istore hC (dk d_X2_extend 22 rfl) 38 rfl (Nat.le_of_ble_eq_true rfl) [some (vr 4 i), some (vi a1), some (vi a2), some (vi a3), some (vi ((gA w 21 i a1.toNatClampNeg) &&& (a2 ^^^ (-1 : Int32)))), some (vi (0 : Int32))] rfl ?_
        obtain ⟨q5, hq5, h⟩ := bd_some h
        refine Z_wk [true, true, true, true, true, true] [some (vr 4 i), some (vi a1), some (vi a2), some (vi a3), some (vi ((gA w 21 i a1.toNatClampNeg) &&& (a2 ^^^ (-1 : Int32)))), some (vi (0 : Int32))] rfl ?_
        refine z_X2_extend_L1 hC hr N hrec i hi a1 a2 a3 ((gA w 21 i a1.toNatClampNeg) &&& (a2 ^^^ (-1 : Int32))) N (0 : Int32) w q5 hq5 ?_
        obtain rfl := Option.some.inj h
        exact Z_return (st := []) hC hr hQ (dk d_X2_extend 65 rfl)
      · have h := it_f h c
        refine Z_aload_n hC (dk d_X2_extend 8 rfl) 18 rfl rfl rfl ?_
        refine Z_iload_n hC (dk d_X2_extend 9 rfl) 19 rfl rfl rfl ?_
        obtain ⟨q6, hq6, h⟩ := bd_some h
        refine K_X2_51 [vi a3] hC (m_4 hi) (s_X2_admit (xG x) (xl x) N i hi a3 w q6 hq6) (by omega) rfl rfl rfl (Nat.le_of_ble_eq_true rfl) (dk d_X2_extend 10 rfl) 22 rfl ?_
        obtain rfl := Option.some.inj h
        exact Z_return (st := []) hC hr hQ (dk d_X2_extend 11 rfl)
def t_X2_list : List (Nat × Instr × Nat) := [(0, .aload_n 0, 1), (1, .iconst 0, 1), (2, .putfield 22, 3), (5, .aload_n 0, 1), (6, .iload_n 1, 1), (7, .sipush 265, 3), (10, .invokestatic 26, 3), (13, .putfield 32, 3), (16, .aload_n 0, 1), (17, .iload_n 2, 1), (18, .putfield 35, 3), (21, .iconst 0, 1), (22, .istore_n 3, 1), (23, .iload_n 3, 1), (24, .aload_n 0, 1), (25, .getfield 9, 3), (28, .getfield 39, 3), (31, .if_icmp .ge 23, 3), (34, .aload_n 0, 1), (35, .getfield 19, 3), (38, .iload_n 3, 1), (39, .aload_n 0, 1), (40, .getfield 9, 3), (43, .iload_n 3, 1), (44, .invokevirtual 44, 3), (47, .iastore, 1), (48, .iinc 3 1, 3), (51, .goto (-28), 3), (54, .aload_n 0, 1), (55, .iconst 0, 1), (56, .iconst 0, 1), (57, .iconst 0, 1), (58, .invokevirtual 47, 3), (61, .aload_n 0, 1), (62, .getfield 22, 3), (65, .ireturn, 1)]
set_option maxRecDepth 20000 in
theorem d_X2_list : ∀ q ∈ t_X2_list, decode cX2_list q.1 = .ok q.2 := by decide +kernel
noncomputable def X2_list_L1 (N : Nat) (i : Nat) : Nat → Int32 → Wd → Option (Wd)
  | 0, _, _ => none
  | n + 1, x3, w =>
  if (gI w 4 i) ≤ x3 then
    some w
  else
    (f_X0_open N i x3 w).bind (fun q2 =>
      gd (vp_in x3 6) (
      X2_list_L1 N i n (x3 + (1 : Int32)) (sA q2.2 21 i (upd (gA q2.2 21 i) x3.toNatClampNeg q2.1))))
set_option maxRecDepth 20000 in
set_option maxHeartbeats 4000000 in
theorem z_X2_list_L1 {x : CX} (hC : Cx x RX2 cX2_list 4 14) (hr : (xM x).sig.returnType = (some .int)) (N : Nat) (i : Nat) (hi : i < 2) : ∀ (n : Nat) (x3 : Int32) (w : Wd) (q : (Wd)), X2_list_L1 N i n x3 w = some q → Z x 54 [some (vr 4 i), none, none, none] [] q → Z x 23 [some (vr 4 i), none, none, some (vi x3)] [] w := by
  intro n
  induction n with
  | zero =>
    intro x3 w q h
    cases h
  | succ n ih =>
    intro x3 w q h ke
    rw [X2_list_L1] at h
    refine Z_iload_n hC (dk d_X2_list 13 rfl) 24 rfl rfl rfl ?_
    refine Z_aload_n hC (dk d_X2_list 14 rfl) 25 rfl rfl rfl ?_
    refine G_X2_9 hC (m_4 hi) (dk d_X2_list 15 rfl) 28 rfl ?_
    refine G_X2_39 hC (m_3 hi) (dk d_X2_list 16 rfl) 31 rfl ?_
    refine Z_icmp_ge hC (dk d_X2_list 17 rfl) 34 54 rfl (by decide) (fun c => ?_) (fun c => ?_)
    · have h := it_t h c
      obtain rfl := Option.some.inj h
      refine Z_wk [true, false, false, false] [some (vr 4 i), none, none, none] rfl ?_
      exact ke
    · have h := it_f h c
      refine Z_aload_n hC (dk d_X2_list 18 rfl) 35 rfl rfl rfl ?_
      refine G_X2_19 hC (m_4 hi) (dk d_X2_list 19 rfl) 38 rfl ?_
      refine Z_iload_n hC (dk d_X2_list 20 rfl) 39 rfl rfl rfl ?_
      refine Z_aload_n hC (dk d_X2_list 21 rfl) 40 rfl rfl rfl ?_
      refine G_X2_9 hC (m_4 hi) (dk d_X2_list 22 rfl) 43 rfl ?_
      refine Z_iload_n hC (dk d_X2_list 23 rfl) 44 rfl rfl rfl ?_
      obtain ⟨q2, hq2, h⟩ := bd_some h
      refine K_X2_44 [vi x3] hC (m_3 hi) (s_X0_open (xG x) (xl x) N i hi x3 w q2 hq2) (Nat.le_of_ble_eq_true rfl) rfl rfl rfl (Nat.le_of_ble_eq_true rfl) (dk d_X2_list 24 rfl) 47 rfl ?_
      obtain ⟨g3, h⟩ := gd_some h
      refine Z_iastore hC (m_21 hi) (by decide) rfl g3 (dk d_X2_list 25 rfl) 48 rfl ?_
      refine Z_iinc hC (dk d_X2_list 26 rfl) 51 rfl rfl rfl [some (vr 4 i), none, none, some (vi (x3 + (1 : Int32)))] rfl ?_
      refine Z_goto hC (dk d_X2_list 27 rfl) 23 (by decide) ?_
      refine Z_wk [true, false, false, true] [some (vr 4 i), none, none, some (vi (x3 + (1 : Int32)))] rfl ?_
      exact ih (x3 + (1 : Int32)) (sA q2.2 21 i (upd (gA q2.2 21 i) x3.toNatClampNeg q2.1)) _ h ke
noncomputable def f_X2_list (N : Nat) (i : Nat) (a1 : Int32) (a2 : Int32) (w : Wd) : Option (Int32 × Wd) :=
  gd (a2 = 0 ∨ a2 = 1) (
  (X2_list_L1 N i N (0 : Int32) (sI (sI (sI w 201 i (0 : Int32)) 204 i (if (265 : Int32) < a1 then (265 : Int32) else a1)) 205 i a2)).bind (fun q4 =>
    (f_X2_extend N 8 i (0 : Int32) (0 : Int32) (0 : Int32) q4).bind (fun q5 =>
      some (gI q5 201 i, q5))))
set_option maxRecDepth 20000 in
set_option maxHeartbeats 4000000 in
theorem s_X2_list (G : GT) (l : Launch) (N : Nat) (i : Nat) (hi : i < 2) (a1 : Int32) (a2 : Int32) (w : Wd) (q : Int32 × Wd) (h : f_X2_list N i a1 a2 w = some q) : Sp G l yX2_list cw_X2_list 14 [vr 4 i, vi a1, vi a2] w (some (vi q.1)) q.2 := by
  refine Sp_of (own := RX2) [some (vr 4 i), some (vi a1), some (vi a2), none] (by decide) rfl rfl (Nat.le_of_ble_eq_true rfl) ?_
  intro x hG hl hC hr hQ _ _
  subst hG
  subst hl
  unfold f_X2_list at h
  refine Z_aload_n hC (dk d_X2_list 0 rfl) 1 rfl rfl rfl ?_
  refine Z_iconst (v := 0) hC (dk d_X2_list 1 rfl) 2 rfl (by decide) ?_
  refine P_X2_22 hC (m_4 hi) (dk d_X2_list 2 rfl) 5 rfl ?_
  refine Z_aload_n hC (dk d_X2_list 3 rfl) 6 rfl rfl rfl ?_
  refine Z_iload_n hC (dk d_X2_list 4 rfl) 7 rfl rfl rfl ?_
  refine Z_sipush (v := 265) hC (dk d_X2_list 5 rfl) 10 rfl (by decide) ?_
  refine Z_mmin hC ml_X2_26 wi_J9_min_7cf53 wini_J9 wc_J9_min_7cf53 (Nat.le_of_ble_eq_true rfl) rfl (Nat.le_of_ble_eq_true rfl) (dk d_X2_list 6 rfl) 13 rfl ?_
  refine P_X2_32 hC (m_4 hi) (dk d_X2_list 7 rfl) 16 rfl ?_
  refine Z_aload_n hC (dk d_X2_list 8 rfl) 17 rfl rfl rfl ?_
  refine Z_iload_n hC (dk d_X2_list 9 rfl) 18 rfl rfl rfl ?_
  obtain ⟨g1, h⟩ := gd_some h
  refine P_X2_35 hC (m_4 hi) g1 (dk d_X2_list 10 rfl) 21 rfl ?_
  refine Z_iconst (v := 0) hC (dk d_X2_list 11 rfl) 22 rfl (by decide) ?_
  refine Z_istore_n hC (dk d_X2_list 12 rfl) 23 rfl rfl (Nat.le_of_ble_eq_true rfl) [some (vr 4 i), some (vi a1), some (vi a2), some (vi (0 : Int32))] rfl ?_
  obtain ⟨q4, hq4, h⟩ := bd_some h
  refine Z_wk [true, false, false, true] [some (vr 4 i), none, none, some (vi (0 : Int32))] rfl ?_
  refine z_X2_list_L1 hC hr N i hi N (0 : Int32) (sI (sI (sI w 201 i (0 : Int32)) 204 i (if (265 : Int32) < a1 then (265 : Int32) else a1)) 205 i a2) q4 hq4 ?_
  refine Z_aload_n hC (dk d_X2_list 28 rfl) 55 rfl rfl rfl ?_
  refine Z_iconst (v := 0) hC (dk d_X2_list 29 rfl) 56 rfl (by decide) ?_
  refine Z_iconst (v := 0) hC (dk d_X2_list 30 rfl) 57 rfl (by decide) ?_
  refine Z_iconst (v := 0) hC (dk d_X2_list 31 rfl) 58 rfl (by decide) ?_
  obtain ⟨q5, hq5, h⟩ := bd_some h
  refine K_X2_47 [vi (0 : Int32), vi (0 : Int32), vi (0 : Int32)] hC (m_4 hi) (s_X2_extend (xG x) (xl x) N 8 i hi (0 : Int32) (0 : Int32) (0 : Int32) q4 q5 hq5) (Nat.le_of_ble_eq_true rfl) rfl rfl rfl (Nat.le_of_ble_eq_true rfl) (dk d_X2_list 32 rfl) 61 rfl ?_
  refine Z_aload_n hC (dk d_X2_list 33 rfl) 62 rfl rfl rfl ?_
  refine G_X2_22 hC (m_4 hi) (dk d_X2_list 34 rfl) 65 rfl ?_
  obtain rfl := Option.some.inj h
  exact Z_ireturn (st := []) hC hr hQ (dk d_X2_list 35 rfl)
def t_X2_fitsAt : List (Nat × Instr × Nat) := [(0, .aload_n 0, 1), (1, .getfield 15, 3), (4, .iload_n 1, 1), (5, .iaload, 1), (6, .iload_n 2, 1), (7, .ixor, 1), (8, .iload_n 3, 1), (9, .iand, 1), (10, .ifCond .ne 7, 3), (13, .iconst 1, 1), (14, .goto 4, 3), (17, .iconst 0, 1), (18, .ireturn, 1)]
set_option maxRecDepth 20000 in
theorem d_X2_fitsAt : ∀ q ∈ t_X2_fitsAt, decode cX2_fitsAt q.1 = .ok q.2 := by decide +kernel
noncomputable def f_X2_fitsAt (N : Nat) (i : Nat) (a1 : Int32) (a2 : Int32) (a3 : Int32) (w : Wd) : Option (Int32 × Wd) :=
  gd (vp_in a1 265) (
  if (((gA w 20 i a1.toNatClampNeg) ^^^ a2) &&& a3) = 0 then
    some ((1 : Int32), w)
  else
    some ((0 : Int32), w))
set_option maxRecDepth 20000 in
set_option maxHeartbeats 4000000 in
theorem s_X2_fitsAt (G : GT) (l : Launch) (N : Nat) (i : Nat) (hi : i < 2) (a1 : Int32) (a2 : Int32) (a3 : Int32) (w : Wd) (q : Int32 × Wd) (h : f_X2_fitsAt N i a1 a2 a3 w = some q) : Sp G l yX2_fitsAt cw_X2_fitsAt 0 [vr 4 i, vi a1, vi a2, vi a3] w (some (vi q.1)) q.2 := by
  refine Sp_of (own := RX2) [some (vr 4 i), some (vi a1), some (vi a2), some (vi a3)] (by decide) rfl rfl (Nat.le_of_ble_eq_true rfl) ?_
  intro x hG hl hC hr hQ _ _
  subst hG
  subst hl
  unfold f_X2_fitsAt at h
  refine Z_aload_n hC (dk d_X2_fitsAt 0 rfl) 1 rfl rfl rfl ?_
  refine G_X2_15 hC (m_4 hi) (dk d_X2_fitsAt 1 rfl) 4 rfl ?_
  refine Z_iload_n hC (dk d_X2_fitsAt 2 rfl) 5 rfl rfl rfl ?_
  obtain ⟨g1, h⟩ := gd_some h
  refine Z_iaload hC (m_20 hi) (by decide) rfl g1 (dk d_X2_fitsAt 3 rfl) 6 rfl ?_
  refine Z_iload_n hC (dk d_X2_fitsAt 4 rfl) 7 rfl rfl rfl ?_
  refine Z_ixor hC (dk d_X2_fitsAt 5 rfl) 8 rfl ?_
  refine Z_iload_n hC (dk d_X2_fitsAt 6 rfl) 9 rfl rfl rfl ?_
  refine Z_iand hC (dk d_X2_fitsAt 7 rfl) 10 rfl ?_
  refine Z_if_ne hC (dk d_X2_fitsAt 8 rfl) 13 17 rfl (by decide) (fun c => ?_) (fun c => ?_)
  · have h := it_f h c
    refine Z_iconst (v := 0) hC (dk d_X2_fitsAt 11 rfl) 18 rfl (by decide) ?_
    obtain rfl := Option.some.inj h
    exact Z_zreturn (st := []) hC hr rfl hQ (dk d_X2_fitsAt 12 rfl)
  · have h := it_t h c
    refine Z_iconst (v := 1) hC (dk d_X2_fitsAt 9 rfl) 14 rfl (by decide) ?_
    refine Z_goto hC (dk d_X2_fitsAt 10 rfl) 18 (by decide) ?_
    obtain rfl := Option.some.inj h
    exact Z_zreturn (st := []) hC hr rfl hQ (dk d_X2_fitsAt 12 rfl)
def t_X2_fitting : List (Nat × Instr × Nat) := [(0, .iconst 0, 1), (1, .istore_n 3, 1), (2, .iconst 0, 1), (3, .istore 4, 2), (5, .iload 4, 2), (7, .aload_n 0, 1), (8, .getfield 22, 3), (11, .if_icmp .ge 23, 3), (14, .aload_n 0, 1), (15, .iload 4, 2), (17, .iload_n 1, 1), (18, .iload_n 2, 1), (19, .invokevirtual 66, 3), (22, .ifCond .eq 6, 3), (25, .iinc 3 1, 3), (28, .iinc 4 1, 3), (31, .goto (-26), 3), (34, .iload_n 3, 1), (35, .ireturn, 1)]
set_option maxRecDepth 20000 in
theorem d_X2_fitting : ∀ q ∈ t_X2_fitting, decode cX2_fitting q.1 = .ok q.2 := by decide +kernel
noncomputable def X2_fitting_L1 (N : Nat) (i : Nat) (x1 : Int32) (x2 : Int32) : Nat → Int32 → Int32 → Wd → Option (Int32 × Wd)
  | 0, _, _, _ => none
  | n + 1, x3, x4, w =>
  if (gI w 201 i) ≤ x4 then
    some (x3, w)
  else
    (f_X2_fitsAt N i x4 x1 x2 w).bind (fun q1 =>
      if q1.1 = 0 then
        X2_fitting_L1 N i x1 x2 n x3 (x4 + (1 : Int32)) q1.2
      else
        X2_fitting_L1 N i x1 x2 n (x3 + (1 : Int32)) (x4 + (1 : Int32)) q1.2)
set_option maxRecDepth 20000 in
set_option maxHeartbeats 4000000 in
theorem z_X2_fitting_L1 {x : CX} (hC : Cx x RX2 cX2_fitting 5 1) (hr : (xM x).sig.returnType = (some .int)) (N : Nat) (i : Nat) (hi : i < 2) (x1 : Int32) (x2 : Int32) : ∀ (n : Nat) (x3 : Int32) (x4 : Int32) (w : Wd) (q : (Int32 × Wd)), X2_fitting_L1 N i x1 x2 n x3 x4 w = some q → Z x 34 [none, none, none, some (vi q.1), none] [] q.2 → Z x 5 [some (vr 4 i), some (vi x1), some (vi x2), some (vi x3), some (vi x4)] [] w := by
  intro n
  induction n with
  | zero =>
    intro x3 x4 w q h
    cases h
  | succ n ih =>
    intro x3 x4 w q h ke
    rw [X2_fitting_L1] at h
    refine Z_iload hC (dk d_X2_fitting 4 rfl) 7 rfl rfl ?_
    refine Z_aload_n hC (dk d_X2_fitting 5 rfl) 8 rfl rfl rfl ?_
    refine G_X2_22 hC (m_4 hi) (dk d_X2_fitting 6 rfl) 11 rfl ?_
    refine Z_icmp_ge hC (dk d_X2_fitting 7 rfl) 14 34 rfl (by decide) (fun c => ?_) (fun c => ?_)
    · have h := it_t h c
      obtain rfl := Option.some.inj h
      refine Z_wk [false, false, false, true, false] [none, none, none, some (vi x3), none] rfl ?_
      exact ke
    · have h := it_f h c
      refine Z_aload_n hC (dk d_X2_fitting 8 rfl) 15 rfl rfl rfl ?_
      refine Z_iload hC (dk d_X2_fitting 9 rfl) 17 rfl rfl ?_
      refine Z_iload_n hC (dk d_X2_fitting 10 rfl) 18 rfl rfl rfl ?_
      refine Z_iload_n hC (dk d_X2_fitting 11 rfl) 19 rfl rfl rfl ?_
      obtain ⟨q1, hq1, h⟩ := bd_some h
      refine K_X2_66 [vi x4, vi x1, vi x2] hC (m_4 hi) (s_X2_fitsAt (xG x) (xl x) N i hi x4 x1 x2 w q1 hq1) (Nat.le_of_ble_eq_true rfl) rfl rfl rfl (Nat.le_of_ble_eq_true rfl) (dk d_X2_fitting 12 rfl) 22 rfl ?_
      refine Z_if_eq hC (dk d_X2_fitting 13 rfl) 25 28 rfl (by decide) (fun c => ?_) (fun c => ?_)
      · have h := it_t h c
        refine Z_iinc hC (dk d_X2_fitting 15 rfl) 31 rfl rfl rfl [some (vr 4 i), some (vi x1), some (vi x2), some (vi x3), some (vi (x4 + (1 : Int32)))] rfl ?_
        refine Z_goto hC (dk d_X2_fitting 16 rfl) 5 (by decide) ?_
        refine Z_wk [true, true, true, true, true] [some (vr 4 i), some (vi x1), some (vi x2), some (vi x3), some (vi (x4 + (1 : Int32)))] rfl ?_
        exact ih x3 (x4 + (1 : Int32)) q1.2 _ h ke
      · have h := it_f h c
        refine Z_iinc hC (dk d_X2_fitting 14 rfl) 28 rfl rfl rfl [some (vr 4 i), some (vi x1), some (vi x2), some (vi (x3 + (1 : Int32))), some (vi x4)] rfl ?_
        refine Z_iinc hC (dk d_X2_fitting 15 rfl) 31 rfl rfl rfl [some (vr 4 i), some (vi x1), some (vi x2), some (vi (x3 + (1 : Int32))), some (vi (x4 + (1 : Int32)))] rfl ?_
        refine Z_goto hC (dk d_X2_fitting 16 rfl) 5 (by decide) ?_
        refine Z_wk [true, true, true, true, true] [some (vr 4 i), some (vi x1), some (vi x2), some (vi (x3 + (1 : Int32))), some (vi (x4 + (1 : Int32)))] rfl ?_
        exact ih (x3 + (1 : Int32)) (x4 + (1 : Int32)) q1.2 _ h ke
noncomputable def f_X2_fitting (N : Nat) (i : Nat) (a1 : Int32) (a2 : Int32) (w : Wd) : Option (Int32 × Wd) :=
  (X2_fitting_L1 N i a1 a2 N (0 : Int32) (0 : Int32) w).bind (fun q2 =>
    some (q2.1, q2.2))
set_option maxRecDepth 20000 in
set_option maxHeartbeats 4000000 in
theorem s_X2_fitting (G : GT) (l : Launch) (N : Nat) (i : Nat) (hi : i < 2) (a1 : Int32) (a2 : Int32) (w : Wd) (q : Int32 × Wd) (h : f_X2_fitting N i a1 a2 w = some q) : Sp G l yX2_fitting cw_X2_fitting 1 [vr 4 i, vi a1, vi a2] w (some (vi q.1)) q.2 := by
  refine Sp_of (own := RX2) [some (vr 4 i), some (vi a1), some (vi a2), none, none] (by decide) rfl rfl (Nat.le_of_ble_eq_true rfl) ?_
  intro x hG hl hC hr hQ _ _
  subst hG
  subst hl
  unfold f_X2_fitting at h
  refine Z_iconst (v := 0) hC (dk d_X2_fitting 0 rfl) 1 rfl (by decide) ?_
  refine Z_istore_n hC (dk d_X2_fitting 1 rfl) 2 rfl rfl (Nat.le_of_ble_eq_true rfl) [some (vr 4 i), some (vi a1), some (vi a2), some (vi (0 : Int32)), none] rfl ?_
  refine Z_iconst (v := 0) hC (dk d_X2_fitting 2 rfl) 3 rfl (by decide) ?_
  refine Z_istore hC (dk d_X2_fitting 3 rfl) 5 rfl (Nat.le_of_ble_eq_true rfl) [some (vr 4 i), some (vi a1), some (vi a2), some (vi (0 : Int32)), some (vi (0 : Int32))] rfl ?_
  obtain ⟨q2, hq2, h⟩ := bd_some h
  refine Z_wk [true, true, true, true, true] [some (vr 4 i), some (vi a1), some (vi a2), some (vi (0 : Int32)), some (vi (0 : Int32))] rfl ?_
  refine z_X2_fitting_L1 hC hr N i hi a1 a2 N (0 : Int32) (0 : Int32) w q2 hq2 ?_
  refine Z_iload_n hC (dk d_X2_fitting 17 rfl) 35 rfl rfl rfl ?_
  obtain rfl := Option.some.inj h
  exact Z_ireturn (st := []) hC hr hQ (dk d_X2_fitting 18 rfl)
