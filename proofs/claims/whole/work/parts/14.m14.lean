def t_X4_nextLot : List (Nat × Instr × Nat) := [(0, .ldc2_w 324, 3), (3, .iload_n 0, 1), (4, .i2l, 1), (5, .lmul, 1), (6, .ldc2_w 317, 3), (9, .lrem, 1), (10, .l2i, 1), (11, .ireturn, 1)]
set_option maxRecDepth 20000 in
theorem d_X4_nextLot : ∀ q ∈ t_X4_nextLot, decode cX4_nextLot q.1 = .ok q.2 := by decide +kernel
noncomputable def f_X4_nextLot (N : Nat) (a1 : Int32) (w : Wd) : Option (Int32 × Wd) :=
  gd (¬ (2147483647 : Int64) = 0) (
  some ((((48271 : Int64) * a1.toInt64) - ((48271 : Int64) * a1.toInt64) / (2147483647 : Int64) * (2147483647 : Int64)).toInt32, w))
set_option maxRecDepth 20000 in
set_option maxHeartbeats 4000000 in
theorem s_X4_nextLot (G : GT) (l : Launch) (N : Nat) (a1 : Int32) (w : Wd) (q : Int32 × Wd) (h : f_X4_nextLot N a1 w = some q) : Sp G l yX4_nextLot cw_X4_nextLot 0 [vi a1] w (some (vi q.1)) q.2 := by
  refine Sp_of (own := RX4) [some (vi a1)] (by decide) rfl rfl (Nat.le_of_ble_eq_true rfl) ?_
  intro x hG hl hC hr hQ _ _
  subst hG
  subst hl
  unfold f_X4_nextLot at h
  refine Z_ldc2 hC kc_X4_324 (dk d_X4_nextLot 0 rfl) 3 rfl ?_
  refine Z_iload_n hC (dk d_X4_nextLot 1 rfl) 4 rfl rfl rfl ?_
  refine Z_i2l hC (dk d_X4_nextLot 2 rfl) 5 rfl ?_
  refine Z_lmul hC (dk d_X4_nextLot 3 rfl) 6 rfl ?_
  refine Z_ldc2 hC kc_X4_317 (dk d_X4_nextLot 4 rfl) 9 rfl ?_
  obtain ⟨g1, h⟩ := gd_some h
  refine Z_lrem hC (dk d_X4_nextLot 5 rfl) 10 rfl g1 ?_
  refine Z_l2i hC (dk d_X4_nextLot 6 rfl) 11 rfl ?_
  obtain rfl := Option.some.inj h
  exact Z_ireturn (st := []) hC hr hQ (dk d_X4_nextLot 7 rfl)
def t_X4_lot : List (Nat × Instr × Nat) := [(0, .iload_n 1, 1), (1, .invokestatic 198, 3), (4, .ifCond .eq 10, 3), (7, .iload_n 2, 1), (8, .invokestatic 70, 3), (11, .ifCond .ne 5, 3), (14, .iconst (-1), 1), (15, .ireturn, 1), (16, .aload_n 0, 1), (17, .invokevirtual 183, 3), (20, .aload_n 0, 1), (21, .getfield 36, 3), (24, .getfield 186, 3), (27, .ifCond .ne 9, 3), (30, .aload_n 0, 1), (31, .iconst 4, 1), (32, .invokevirtual 74, 3), (35, .ireturn, 1), (36, .iload_n 1, 1), (37, .invokestatic 201, 3), (40, .aload_n 0, 1), (41, .getfield 36, 3), (44, .getfield 186, 3), (47, .irem, 1), (48, .istore_n 3, 1), (49, .aload_n 0, 1), (50, .iload_n 2, 1), (51, .aload_n 0, 1), (52, .getfield 36, 3), (55, .getfield 189, 3), (58, .iload_n 3, 1), (59, .iaload, 1), (60, .invokevirtual 192, 3), (63, .iload_n 3, 1), (64, .ireturn, 1)]
set_option maxRecDepth 20000 in
theorem d_X4_lot : ∀ q ∈ t_X4_lot, decode cX4_lot q.1 = .ok q.2 := by decide +kernel
noncomputable def f_X4_lot (N : Nat) (a1 : Int32) (a2 : Int32) (w : Wd) : Option (Int32 × Wd) :=
  (f_X4_isSeed N a1 w).bind (fun q1 =>
    if q1.1 = 0 then
      some ((-1 : Int32), q1.2)
    else
      (f_X4_isRow N a2 q1.2).bind (fun q2 =>
        if q2.1 = 0 then
          some ((-1 : Int32), q2.2)
        else
          (f_X4_listRight N q2.2).bind (fun q3 =>
            if (gI q3 201 0) = 0 then
              (f_X4_refuse N (4 : Int32) q3).bind (fun q8 =>
                some (q8.1, q8.2))
            else
              (f_X4_nextLot N a1 q3).bind (fun q4 =>
                gd (¬ (gI q4.2 201 0) = 0) (
                gd (vp_in (q4.1 - q4.1 / (gI q4.2 201 0) * (gI q4.2 201 0)) 265) (
                (f_X4_layDrawing N a2 (gA q4.2 20 0 (q4.1 - q4.1 / (gI q4.2 201 0) * (gI q4.2 201 0)).toNatClampNeg) q4.2).bind (fun q7 =>
                  some (q4.1 - q4.1 / (gI q4.2 201 0) * (gI q4.2 201 0), q7))))))))
set_option maxRecDepth 20000 in
set_option maxHeartbeats 4000000 in
theorem s_X4_lot (G : GT) (l : Launch) (N : Nat) (a1 : Int32) (a2 : Int32) (w : Wd) (q : Int32 × Wd) (h : f_X4_lot N a1 a2 w = some q) : Sp G l yX4_lot cw_X4_lot 14 [vr 0 0, vi a1, vi a2] w (some (vi q.1)) q.2 := by
  refine Sp_of (own := RX4) [some (vr 0 0), some (vi a1), some (vi a2), none] (by decide) rfl rfl (Nat.le_of_ble_eq_true rfl) ?_
  intro x hG hl hC hr hQ _ _
  subst hG
  subst hl
  unfold f_X4_lot at h
  refine Z_iload_n hC (dk d_X4_lot 0 rfl) 1 rfl rfl rfl ?_
  obtain ⟨q1, hq1, h⟩ := bd_some h
  refine K_X4_198 [vi a1] hC (s_X4_isSeed (xG x) (xl x) N a1 w q1 hq1) (Nat.le_of_ble_eq_true rfl) rfl rfl rfl (Nat.le_of_ble_eq_true rfl) (dk d_X4_lot 1 rfl) 4 rfl ?_
  refine Z_if_eq hC (dk d_X4_lot 2 rfl) 7 14 rfl (by decide) (fun c => ?_) (fun c => ?_)
  · have h := it_t h c
    refine Z_iconst (v := -1) hC (dk d_X4_lot 6 rfl) 15 rfl (by decide) ?_
    obtain rfl := Option.some.inj h
    exact Z_ireturn (st := []) hC hr hQ (dk d_X4_lot 7 rfl)
  · have h := it_f h c
    refine Z_iload_n hC (dk d_X4_lot 3 rfl) 8 rfl rfl rfl ?_
    obtain ⟨q2, hq2, h⟩ := bd_some h
    refine K_X4_70 [vi a2] hC (s_X4_isRow (xG x) (xl x) N a2 q1.2 q2 hq2) (Nat.le_of_ble_eq_true rfl) rfl rfl rfl (Nat.le_of_ble_eq_true rfl) (dk d_X4_lot 4 rfl) 11 rfl ?_
    refine Z_if_ne hC (dk d_X4_lot 5 rfl) 14 16 rfl (by decide) (fun c => ?_) (fun c => ?_)
    · have h := it_f h c
      refine Z_aload_n hC (dk d_X4_lot 8 rfl) 17 rfl rfl rfl ?_
      obtain ⟨q3, hq3, h⟩ := bd_some h
      refine K_X4_183 [] hC m_0 (s_X4_listRight (xG x) (xl x) N q2.2 q3 hq3) (Nat.le_of_ble_eq_true rfl) rfl rfl rfl (Nat.le_of_ble_eq_true rfl) (dk d_X4_lot 9 rfl) 20 rfl ?_
      refine Z_aload_n hC (dk d_X4_lot 10 rfl) 21 rfl rfl rfl ?_
      refine G_X4_36 hC m_0 (dk d_X4_lot 11 rfl) 24 rfl ?_
      refine G_X4_186 hC (m_4 (by decide)) (dk d_X4_lot 12 rfl) 27 rfl ?_
      refine Z_if_ne hC (dk d_X4_lot 13 rfl) 30 36 rfl (by decide) (fun c => ?_) (fun c => ?_)
      · have h := it_f h c
        refine Z_iload_n hC (dk d_X4_lot 18 rfl) 37 rfl rfl rfl ?_
        obtain ⟨q4, hq4, h⟩ := bd_some h
        refine K_X4_201 [vi a1] hC (s_X4_nextLot (xG x) (xl x) N a1 q3 q4 hq4) (Nat.le_of_ble_eq_true rfl) rfl rfl rfl (Nat.le_of_ble_eq_true rfl) (dk d_X4_lot 19 rfl) 40 rfl ?_
        refine Z_aload_n hC (dk d_X4_lot 20 rfl) 41 rfl rfl rfl ?_
        refine G_X4_36 hC m_0 (dk d_X4_lot 21 rfl) 44 rfl ?_
        refine G_X4_186 hC (m_4 (by decide)) (dk d_X4_lot 22 rfl) 47 rfl ?_
        obtain ⟨g5, h⟩ := gd_some h
        refine Z_irem hC (dk d_X4_lot 23 rfl) 48 rfl g5 ?_
        refine Z_istore_n hC (dk d_X4_lot 24 rfl) 49 rfl rfl (Nat.le_of_ble_eq_true rfl) [some (vr 0 0), some (vi a1), some (vi a2), some (vi (q4.1 - q4.1 / (gI q4.2 201 0) * (gI q4.2 201 0)))] rfl ?_
        refine Z_aload_n hC (dk d_X4_lot 25 rfl) 50 rfl rfl rfl ?_
        refine Z_iload_n hC (dk d_X4_lot 26 rfl) 51 rfl rfl rfl ?_
        refine Z_aload_n hC (dk d_X4_lot 27 rfl) 52 rfl rfl rfl ?_
        refine G_X4_36 hC m_0 (dk d_X4_lot 28 rfl) 55 rfl ?_
        refine G_X4_189 hC (m_4 (by decide)) (dk d_X4_lot 29 rfl) 58 rfl ?_
        refine Z_iload_n hC (dk d_X4_lot 30 rfl) 59 rfl rfl rfl ?_
        obtain ⟨g6, h⟩ := gd_some h
        refine Z_iaload hC (m_20 (by decide)) (by decide) rfl g6 (dk d_X4_lot 31 rfl) 60 rfl ?_
        obtain ⟨q7, hq7, h⟩ := bd_some h
        refine K_X4_192 [vi a2, vi (gA q4.2 20 0 (q4.1 - q4.1 / (gI q4.2 201 0) * (gI q4.2 201 0)).toNatClampNeg)] hC m_0 (s_X4_layDrawing (xG x) (xl x) N a2 (gA q4.2 20 0 (q4.1 - q4.1 / (gI q4.2 201 0) * (gI q4.2 201 0)).toNatClampNeg) q4.2 q7 hq7) (Nat.le_of_ble_eq_true rfl) rfl rfl rfl (Nat.le_of_ble_eq_true rfl) (dk d_X4_lot 32 rfl) 63 rfl ?_
        refine Z_iload_n hC (dk d_X4_lot 33 rfl) 64 rfl rfl rfl ?_
        obtain rfl := Option.some.inj h
        exact Z_ireturn (st := []) hC hr hQ (dk d_X4_lot 34 rfl)
      · have h := it_t h c
        refine Z_aload_n hC (dk d_X4_lot 14 rfl) 31 rfl rfl rfl ?_
        refine Z_iconst (v := 4) hC (dk d_X4_lot 15 rfl) 32 rfl (by decide) ?_
        obtain ⟨q8, hq8, h⟩ := bd_some h
        refine K_X4_74 [vi (4 : Int32)] hC m_0 (s_X4_refuse (xG x) (xl x) N (4 : Int32) q3 q8 hq8) (Nat.le_of_ble_eq_true rfl) rfl rfl rfl (Nat.le_of_ble_eq_true rfl) (dk d_X4_lot 16 rfl) 35 rfl ?_
        obtain rfl := Option.some.inj h
        exact Z_ireturn (st := []) hC hr hQ (dk d_X4_lot 17 rfl)
    · have h := it_t h c
      refine Z_iconst (v := -1) hC (dk d_X4_lot 6 rfl) 15 rfl (by decide) ?_
      obtain rfl := Option.some.inj h
      exact Z_ireturn (st := []) hC hr hQ (dk d_X4_lot 7 rfl)
def t_X4_isTaken : List (Nat × Instr × Nat) := [(0, .iconst 0, 1), (1, .istore_n 2, 1), (2, .iload_n 2, 1), (3, .aload_n 0, 1), (4, .getfield 129, 3), (7, .if_icmp .ge 23, 3), (10, .aload_n 0, 1), (11, .getfield 126, 3), (14, .iload_n 2, 1), (15, .invokestatic 220, 3), (18, .iload_n 1, 1), (19, .if_icmp .ne 5, 3), (22, .iconst 1, 1), (23, .ireturn, 1), (24, .iinc 2 1, 3), (27, .goto (-25), 3), (30, .iconst 0, 1), (31, .ireturn, 1)]
set_option maxRecDepth 20000 in
theorem d_X4_isTaken : ∀ q ∈ t_X4_isTaken, decode cX4_isTaken q.1 = .ok q.2 := by decide +kernel
noncomputable def X4_isTaken_L1 (N : Nat) (x1 : Int32) : Nat → Int32 → Wd → Option ((Int32 × Wd) ⊕ (Wd))
  | 0, _, _ => none
  | n + 1, x2, w =>
  if (gI w 407 0) ≤ x2 then
    some (.inr w)
  else
    (f_X4_paper N (gI w 406 0) x2 w).bind (fun q1 =>
      if q1.1 = x1 then
        some (.inl ((1 : Int32), q1.2))
      else
        X4_isTaken_L1 N x1 n (x2 + (1 : Int32)) q1.2)
set_option maxRecDepth 20000 in
set_option maxHeartbeats 4000000 in
theorem z_X4_isTaken_L1 {x : CX} (hC : Cx x RX4 cX4_isTaken 3 1) (hr : (xM x).sig.returnType = (some .boolean)) (N : Nat) (x1 : Int32) : ∀ (n : Nat) (x2 : Int32) (w : Wd) (q : ((Int32 × Wd) ⊕ (Wd))), X4_isTaken_L1 N x1 n x2 w = some q → (∀ r : Int32 × Wd, q = .inl r → Rt x (some (vi r.1)) r.2) → (∀ o : Wd, q = .inr o → Z x 30 [none, none, none] [] o) → Z x 2 [some (vr 0 0), some (vi x1), some (vi x2)] [] w := by
  intro n
  induction n with
  | zero =>
    intro x2 w q h
    cases h
  | succ n ih =>
    intro x2 w q h kr ke
    rw [X4_isTaken_L1] at h
    refine Z_iload_n hC (dk d_X4_isTaken 2 rfl) 3 rfl rfl rfl ?_
    refine Z_aload_n hC (dk d_X4_isTaken 3 rfl) 4 rfl rfl rfl ?_
    refine G_X4_129 hC m_0 (dk d_X4_isTaken 4 rfl) 7 rfl ?_
    refine Z_icmp_ge hC (dk d_X4_isTaken 5 rfl) 10 30 rfl (by decide) (fun c => ?_) (fun c => ?_)
    · have h := it_t h c
      obtain rfl := Option.some.inj h
      refine Z_wk [false, false, false] [none, none, none] rfl ?_
      exact ke _ rfl
    · have h := it_f h c
      refine Z_aload_n hC (dk d_X4_isTaken 6 rfl) 11 rfl rfl rfl ?_
      refine G_X4_126 hC m_0 (dk d_X4_isTaken 7 rfl) 14 rfl ?_
      refine Z_iload_n hC (dk d_X4_isTaken 8 rfl) 15 rfl rfl rfl ?_
      obtain ⟨q1, hq1, h⟩ := bd_some h
      refine K_X4_220 [vi (gI w 406 0), vi x2] hC (s_X4_paper (xG x) (xl x) N (gI w 406 0) x2 w q1 hq1) (Nat.le_of_ble_eq_true rfl) rfl rfl rfl (Nat.le_of_ble_eq_true rfl) (dk d_X4_isTaken 9 rfl) 18 rfl ?_
      refine Z_iload_n hC (dk d_X4_isTaken 10 rfl) 19 rfl rfl rfl ?_
      refine Z_icmp_ne hC (dk d_X4_isTaken 11 rfl) 22 24 rfl (by decide) (fun c => ?_) (fun c => ?_)
      · have h := it_f h c
        refine Z_iinc hC (dk d_X4_isTaken 14 rfl) 27 rfl rfl rfl [some (vr 0 0), some (vi x1), some (vi (x2 + (1 : Int32)))] rfl ?_
        refine Z_goto hC (dk d_X4_isTaken 15 rfl) 2 (by decide) ?_
        refine Z_wk [true, true, true] [some (vr 0 0), some (vi x1), some (vi (x2 + (1 : Int32)))] rfl ?_
        exact ih (x2 + (1 : Int32)) q1.2 _ h kr ke
      · have h := it_t h c
        refine Z_iconst (v := 1) hC (dk d_X4_isTaken 12 rfl) 23 rfl (by decide) ?_
        obtain rfl := Option.some.inj h
        exact Z_zreturn (st := []) hC hr rfl (kr _ rfl) (dk d_X4_isTaken 13 rfl)
noncomputable def f_X4_isTaken (N : Nat) (a1 : Int32) (w : Wd) : Option (Int32 × Wd) :=
  (X4_isTaken_L1 N a1 N (0 : Int32) w).bind (Sum.elim some (fun q2 =>
    some ((0 : Int32), q2)))
set_option maxRecDepth 20000 in
set_option maxHeartbeats 4000000 in
theorem s_X4_isTaken (G : GT) (l : Launch) (N : Nat) (a1 : Int32) (w : Wd) (q : Int32 × Wd) (h : f_X4_isTaken N a1 w = some q) : Sp G l yX4_isTaken cw_X4_isTaken 1 [vr 0 0, vi a1] w (some (vi q.1)) q.2 := by
  refine Sp_of (own := RX4) [some (vr 0 0), some (vi a1), none] (by decide) rfl rfl (Nat.le_of_ble_eq_true rfl) ?_
  intro x hG hl hC hr hQ _ _
  subst hG
  subst hl
  unfold f_X4_isTaken at h
  refine Z_iconst (v := 0) hC (dk d_X4_isTaken 0 rfl) 1 rfl (by decide) ?_
  refine Z_istore_n hC (dk d_X4_isTaken 1 rfl) 2 rfl rfl (Nat.le_of_ble_eq_true rfl) [some (vr 0 0), some (vi a1), some (vi (0 : Int32))] rfl ?_
  obtain ⟨q2, hq2, h⟩ := bd_some h
  refine Z_wk [true, true, true] [some (vr 0 0), some (vi a1), some (vi (0 : Int32))] rfl ?_
  refine z_X4_isTaken_L1 hC hr N a1 N (0 : Int32) w q2 hq2 (fun r e => ?_) (fun o e => ?_)
  · subst e
    obtain rfl := Option.some.inj h
    exact hQ
  · subst e
    obtain ⟨q2, rfl⟩ : ∃ z, z = o := ⟨_, rfl⟩
    refine Z_iconst (v := 0) hC (dk d_X4_isTaken 16 rfl) 31 rfl (by decide) ?_
    obtain rfl := Option.some.inj h
    exact Z_zreturn (st := []) hC hr rfl hQ (dk d_X4_isTaken 17 rfl)
def t_X4_takePaper : List (Nat × Instr × Nat) := [(0, .aload_n 0, 1), (1, .dup, 1), (2, .getfield 126, 3), (5, .iload_n 1, 1), (6, .iconst 3, 1), (7, .aload_n 0, 1), (8, .getfield 129, 3), (11, .imul, 1), (12, .ishl, 1), (13, .ior, 1), (14, .putfield 126, 3), (17, .aload_n 0, 1), (18, .dup, 1), (19, .getfield 129, 3), (22, .iconst 1, 1), (23, .iadd, 1), (24, .putfield 129, 3), (27, .return_, 1)]
set_option maxRecDepth 20000 in
theorem d_X4_takePaper : ∀ q ∈ t_X4_takePaper, decode cX4_takePaper q.1 = .ok q.2 := by decide +kernel
noncomputable def f_X4_takePaper (N : Nat) (a1 : Int32) (w : Wd) : Option (Wd) :=
  some (sI (sI w 406 0 ((gI w 406 0) ||| (a1 <<< (((3 : Int32) * (gI w 407 0)) &&& (31 : Int32))))) 407 0 ((gI (sI w 406 0 ((gI w 406 0) ||| (a1 <<< (((3 : Int32) * (gI w 407 0)) &&& (31 : Int32))))) 407 0) + (1 : Int32)))
set_option maxRecDepth 20000 in
set_option maxHeartbeats 4000000 in
theorem s_X4_takePaper (G : GT) (l : Launch) (N : Nat) (a1 : Int32) (w : Wd) (q : Wd) (h : f_X4_takePaper N a1 w = some q) : Sp G l yX4_takePaper cw_X4_takePaper 0 [vr 0 0, vi a1] w none q := by
  refine Sp_of (own := RX4) [some (vr 0 0), some (vi a1)] (by decide) rfl rfl (Nat.le_of_ble_eq_true rfl) ?_
  intro x hG hl hC hr hQ _ _
  subst hG
  subst hl
  unfold f_X4_takePaper at h
  refine Z_aload_n hC (dk d_X4_takePaper 0 rfl) 1 rfl rfl rfl ?_
  refine Z_dup hC (dk d_X4_takePaper 1 rfl) 2 rfl rfl ?_
  refine G_X4_126 hC m_0 (dk d_X4_takePaper 2 rfl) 5 rfl ?_
  refine Z_iload_n hC (dk d_X4_takePaper 3 rfl) 6 rfl rfl rfl ?_
  refine Z_iconst (v := 3) hC (dk d_X4_takePaper 4 rfl) 7 rfl (by decide) ?_
  refine Z_aload_n hC (dk d_X4_takePaper 5 rfl) 8 rfl rfl rfl ?_
  refine G_X4_129 hC m_0 (dk d_X4_takePaper 6 rfl) 11 rfl ?_
  refine Z_imul hC (dk d_X4_takePaper 7 rfl) 12 rfl ?_
  refine Z_ishl hC (dk d_X4_takePaper 8 rfl) 13 rfl ?_
  refine Z_ior hC (dk d_X4_takePaper 9 rfl) 14 rfl ?_
  refine P_X4_126 hC m_0 (dk d_X4_takePaper 10 rfl) 17 rfl ?_
  refine Z_aload_n hC (dk d_X4_takePaper 11 rfl) 18 rfl rfl rfl ?_
  refine Z_dup hC (dk d_X4_takePaper 12 rfl) 19 rfl rfl ?_
  refine G_X4_129 hC m_0 (dk d_X4_takePaper 13 rfl) 22 rfl ?_
  refine Z_iconst (v := 1) hC (dk d_X4_takePaper 14 rfl) 23 rfl (by decide) ?_
  refine Z_iadd hC (dk d_X4_takePaper 15 rfl) 24 rfl ?_
  refine P_X4_129 hC m_0 (dk d_X4_takePaper 16 rfl) 27 rfl ?_
  obtain rfl := Option.some.inj h
  exact Z_return (st := []) hC hr hQ (dk d_X4_takePaper 17 rfl)
def t_X4_draw : List (Nat × Instr × Nat) := [(0, .aload_n 0, 1), (1, .iload_n 1, 1), (2, .invokevirtual 135, 3), (5, .ifCond .ne 5, 3), (8, .iconst (-1), 1), (9, .ireturn, 1), (10, .aload_n 0, 1), (11, .getfield 129, 3), (14, .aload_n 0, 1), (15, .getfield 26, 3), (18, .getfield 132, 3), (21, .if_icmp .ge 45, 3), (24, .aload_n 0, 1), (25, .iload_n 1, 1), (26, .invokevirtual 204, 3), (29, .ifCond .ne 37, 3), (32, .aload_n 0, 1), (33, .getfield 26, 3), (36, .aload_n 0, 1), (37, .getfield 129, 3), (40, .iload_n 1, 1), (41, .invokevirtual 207, 3), (44, .ifCond .ne 22, 3), (47, .aload_n 0, 1), (48, .getfield 26, 3), (51, .aload_n 0, 1), (52, .getfield 129, 3), (55, .iload_n 1, 1), (56, .aload_n 0, 1), (57, .getfield 126, 3), (60, .invokevirtual 210, 3), (63, .ifCond .eq 6, 3), (66, .bipush (-4), 2), (68, .ireturn, 1), (69, .aload_n 0, 1), (70, .iload_n 1, 1), (71, .invokevirtual 213, 3), (74, .aload_n 0, 1), (75, .getfield 129, 3), (78, .ireturn, 1)]
set_option maxRecDepth 20000 in
theorem d_X4_draw : ∀ q ∈ t_X4_draw, decode cX4_draw q.1 = .ok q.2 := by decide +kernel
noncomputable def f_X4_draw (N : Nat) (a1 : Int32) (w : Wd) : Option (Int32 × Wd) :=
  (f_X4_isMate N a1 w).bind (fun q1 =>
    if q1.1 = 0 then
      some ((-1 : Int32), q1.2)
    else
      if (gI q1.2 4 0) ≤ (gI q1.2 407 0) then
        some ((-4 : Int32), q1.2)
      else
        (f_X4_isTaken N a1 q1.2).bind (fun q2 =>
          if q2.1 = 0 then
            (f_X0_barrier N 0 (gI q2.2 407 0) a1 q2.2).bind (fun q3 =>
              if q3.1 = 0 then
                (f_X0_drawsBack N 0 (gI q3.2 407 0) a1 (gI q3.2 406 0) q3.2).bind (fun q4 =>
                  if q4.1 = 0 then
                    (f_X4_takePaper N a1 q4.2).bind (fun q5 =>
                      some (gI q5 407 0, q5))
                  else
                    some ((-4 : Int32), q4.2))
              else
                some ((-4 : Int32), q3.2))
          else
            some ((-4 : Int32), q2.2)))
set_option maxRecDepth 20000 in
set_option maxHeartbeats 4000000 in
theorem s_X4_draw (G : GT) (l : Launch) (N : Nat) (a1 : Int32) (w : Wd) (q : Int32 × Wd) (h : f_X4_draw N a1 w = some q) : Sp G l yX4_draw cw_X4_draw 3 [vr 0 0, vi a1] w (some (vi q.1)) q.2 := by
  refine Sp_of (own := RX4) [some (vr 0 0), some (vi a1)] (by decide) rfl rfl (Nat.le_of_ble_eq_true rfl) ?_
  intro x hG hl hC hr hQ _ _
  subst hG
  subst hl
  unfold f_X4_draw at h
  refine Z_aload_n hC (dk d_X4_draw 0 rfl) 1 rfl rfl rfl ?_
  refine Z_iload_n hC (dk d_X4_draw 1 rfl) 2 rfl rfl rfl ?_
  obtain ⟨q1, hq1, h⟩ := bd_some h
  refine K_X4_135 [vi a1] hC m_0 (s_X4_isMate (xG x) (xl x) N a1 w q1 hq1) (Nat.le_of_ble_eq_true rfl) rfl rfl rfl (Nat.le_of_ble_eq_true rfl) (dk d_X4_draw 2 rfl) 5 rfl ?_
  refine Z_if_ne hC (dk d_X4_draw 3 rfl) 8 10 rfl (by decide) (fun c => ?_) (fun c => ?_)
  · have h := it_f h c
    refine Z_aload_n hC (dk d_X4_draw 6 rfl) 11 rfl rfl rfl ?_
    refine G_X4_129 hC m_0 (dk d_X4_draw 7 rfl) 14 rfl ?_
    refine Z_aload_n hC (dk d_X4_draw 8 rfl) 15 rfl rfl rfl ?_
    refine G_X4_26 hC m_0 (dk d_X4_draw 9 rfl) 18 rfl ?_
    refine G_X4_132 hC (m_3 (by decide)) (dk d_X4_draw 10 rfl) 21 rfl ?_
    refine Z_icmp_ge hC (dk d_X4_draw 11 rfl) 24 66 rfl (by decide) (fun c => ?_) (fun c => ?_)
    · have h := it_t h c
      refine Z_bipush (v := -4) hC (dk d_X4_draw 32 rfl) 68 rfl (by decide) ?_
      obtain rfl := Option.some.inj h
      exact Z_ireturn (st := []) hC hr hQ (dk d_X4_draw 33 rfl)
    · have h := it_f h c
      refine Z_aload_n hC (dk d_X4_draw 12 rfl) 25 rfl rfl rfl ?_
      refine Z_iload_n hC (dk d_X4_draw 13 rfl) 26 rfl rfl rfl ?_
      obtain ⟨q2, hq2, h⟩ := bd_some h
      refine K_X4_204 [vi a1] hC m_0 (s_X4_isTaken (xG x) (xl x) N a1 q1.2 q2 hq2) (Nat.le_of_ble_eq_true rfl) rfl rfl rfl (Nat.le_of_ble_eq_true rfl) (dk d_X4_draw 14 rfl) 29 rfl ?_
      refine Z_if_ne hC (dk d_X4_draw 15 rfl) 32 66 rfl (by decide) (fun c => ?_) (fun c => ?_)
      · have h := it_f h c
        refine Z_bipush (v := -4) hC (dk d_X4_draw 32 rfl) 68 rfl (by decide) ?_
        obtain rfl := Option.some.inj h
        exact Z_ireturn (st := []) hC hr hQ (dk d_X4_draw 33 rfl)
      · have h := it_t h c
        refine Z_aload_n hC (dk d_X4_draw 16 rfl) 33 rfl rfl rfl ?_
        refine G_X4_26 hC m_0 (dk d_X4_draw 17 rfl) 36 rfl ?_
        refine Z_aload_n hC (dk d_X4_draw 18 rfl) 37 rfl rfl rfl ?_
        refine G_X4_129 hC m_0 (dk d_X4_draw 19 rfl) 40 rfl ?_
        refine Z_iload_n hC (dk d_X4_draw 20 rfl) 41 rfl rfl rfl ?_
        obtain ⟨q3, hq3, h⟩ := bd_some h
        refine K_X4_207 [vi (gI q2.2 407 0), vi a1] hC (m_3 (by decide)) (s_X0_barrier (xG x) (xl x) N 0 (by decide) (gI q2.2 407 0) a1 q2.2 q3 hq3) (Nat.le_of_ble_eq_true rfl) rfl rfl rfl (Nat.le_of_ble_eq_true rfl) (dk d_X4_draw 21 rfl) 44 rfl ?_
        refine Z_if_ne hC (dk d_X4_draw 22 rfl) 47 66 rfl (by decide) (fun c => ?_) (fun c => ?_)
        · have h := it_f h c
          refine Z_bipush (v := -4) hC (dk d_X4_draw 32 rfl) 68 rfl (by decide) ?_
          obtain rfl := Option.some.inj h
          exact Z_ireturn (st := []) hC hr hQ (dk d_X4_draw 33 rfl)
        · have h := it_t h c
          refine Z_aload_n hC (dk d_X4_draw 23 rfl) 48 rfl rfl rfl ?_
          refine G_X4_26 hC m_0 (dk d_X4_draw 24 rfl) 51 rfl ?_
          refine Z_aload_n hC (dk d_X4_draw 25 rfl) 52 rfl rfl rfl ?_
          refine G_X4_129 hC m_0 (dk d_X4_draw 26 rfl) 55 rfl ?_
          refine Z_iload_n hC (dk d_X4_draw 27 rfl) 56 rfl rfl rfl ?_
          refine Z_aload_n hC (dk d_X4_draw 28 rfl) 57 rfl rfl rfl ?_
          refine G_X4_126 hC m_0 (dk d_X4_draw 29 rfl) 60 rfl ?_
          obtain ⟨q4, hq4, h⟩ := bd_some h
          refine K_X4_210 [vi (gI q3.2 407 0), vi a1, vi (gI q3.2 406 0)] hC (m_3 (by decide)) (s_X0_drawsBack (xG x) (xl x) N 0 (by decide) (gI q3.2 407 0) a1 (gI q3.2 406 0) q3.2 q4 hq4) (Nat.le_of_ble_eq_true rfl) rfl rfl rfl (Nat.le_of_ble_eq_true rfl) (dk d_X4_draw 30 rfl) 63 rfl ?_
          refine Z_if_eq hC (dk d_X4_draw 31 rfl) 66 69 rfl (by decide) (fun c => ?_) (fun c => ?_)
          · have h := it_t h c
            refine Z_aload_n hC (dk d_X4_draw 34 rfl) 70 rfl rfl rfl ?_
            refine Z_iload_n hC (dk d_X4_draw 35 rfl) 71 rfl rfl rfl ?_
            obtain ⟨q5, hq5, h⟩ := bd_some h
            refine K_X4_213 [vi a1] hC m_0 (s_X4_takePaper (xG x) (xl x) N a1 q4.2 q5 hq5) (Nat.le_of_ble_eq_true rfl) rfl rfl rfl (Nat.le_of_ble_eq_true rfl) (dk d_X4_draw 36 rfl) 74 rfl ?_
            refine Z_aload_n hC (dk d_X4_draw 37 rfl) 75 rfl rfl rfl ?_
            refine G_X4_129 hC m_0 (dk d_X4_draw 38 rfl) 78 rfl ?_
            obtain rfl := Option.some.inj h
            exact Z_ireturn (st := []) hC hr hQ (dk d_X4_draw 39 rfl)
          · have h := it_f h c
            refine Z_bipush (v := -4) hC (dk d_X4_draw 32 rfl) 68 rfl (by decide) ?_
            obtain rfl := Option.some.inj h
            exact Z_ireturn (st := []) hC hr hQ (dk d_X4_draw 33 rfl)
  · have h := it_t h c
    refine Z_iconst (v := -1) hC (dk d_X4_draw 4 rfl) 9 rfl (by decide) ?_
    obtain rfl := Option.some.inj h
    exact Z_ireturn (st := []) hC hr hQ (dk d_X4_draw 5 rfl)
def t_X4_undo : List (Nat × Instr × Nat) := [(0, .iload_n 1, 1), (1, .ifCond .lt 11, 3), (4, .iload_n 1, 1), (5, .aload_n 0, 1), (6, .getfield 129, 3), (9, .if_icmp .le 5, 3), (12, .iconst (-1), 1), (13, .ireturn, 1), (14, .aload_n 0, 1), (15, .getfield 129, 3), (18, .iload_n 1, 1), (19, .isub, 1), (20, .istore_n 2, 1), (21, .aload_n 0, 1), (22, .iload_n 1, 1), (23, .putfield 129, 3), (26, .aload_n 0, 1), (27, .dup, 1), (28, .getfield 126, 3), (31, .iload_n 1, 1), (32, .invokestatic 217, 3), (35, .iand, 1), (36, .putfield 126, 3), (39, .iload_n 2, 1), (40, .ireturn, 1)]
set_option maxRecDepth 20000 in
theorem d_X4_undo : ∀ q ∈ t_X4_undo, decode cX4_undo q.1 = .ok q.2 := by decide +kernel
noncomputable def f_X4_undo (N : Nat) (a1 : Int32) (w : Wd) : Option (Int32 × Wd) :=
  if a1 < 0 then
    some ((-1 : Int32), w)
  else
    if a1 ≤ (gI w 407 0) then
      (f_X4_firstOnes N a1 (sI w 407 0 a1)).bind (fun q1 =>
        some ((gI w 407 0) - a1, sI q1.2 406 0 ((gI (sI w 407 0 a1) 406 0) &&& q1.1)))
    else
      some ((-1 : Int32), w)
set_option maxRecDepth 20000 in
set_option maxHeartbeats 4000000 in
theorem s_X4_undo (G : GT) (l : Launch) (N : Nat) (a1 : Int32) (w : Wd) (q : Int32 × Wd) (h : f_X4_undo N a1 w = some q) : Sp G l yX4_undo cw_X4_undo 1 [vr 0 0, vi a1] w (some (vi q.1)) q.2 := by
  refine Sp_of (own := RX4) [some (vr 0 0), some (vi a1), none] (by decide) rfl rfl (Nat.le_of_ble_eq_true rfl) ?_
  intro x hG hl hC hr hQ _ _
  subst hG
  subst hl
  unfold f_X4_undo at h
  refine Z_iload_n hC (dk d_X4_undo 0 rfl) 1 rfl rfl rfl ?_
  refine Z_if_lt hC (dk d_X4_undo 1 rfl) 4 12 rfl (by decide) (fun c => ?_) (fun c => ?_)
  · have h := it_t h c
    refine Z_iconst (v := -1) hC (dk d_X4_undo 6 rfl) 13 rfl (by decide) ?_
    obtain rfl := Option.some.inj h
    exact Z_ireturn (st := []) hC hr hQ (dk d_X4_undo 7 rfl)
  · have h := it_f h c
    refine Z_iload_n hC (dk d_X4_undo 2 rfl) 5 rfl rfl rfl ?_
    refine Z_aload_n hC (dk d_X4_undo 3 rfl) 6 rfl rfl rfl ?_
    refine G_X4_129 hC m_0 (dk d_X4_undo 4 rfl) 9 rfl ?_
    refine Z_icmp_le hC (dk d_X4_undo 5 rfl) 12 14 rfl (by decide) (fun c => ?_) (fun c => ?_)
    · have h := it_t h c
      refine Z_aload_n hC (dk d_X4_undo 8 rfl) 15 rfl rfl rfl ?_
      refine G_X4_129 hC m_0 (dk d_X4_undo 9 rfl) 18 rfl ?_
      refine Z_iload_n hC (dk d_X4_undo 10 rfl) 19 rfl rfl rfl ?_
      refine Z_isub hC (dk d_X4_undo 11 rfl) 20 rfl ?_
      refine Z_istore_n hC (dk d_X4_undo 12 rfl) 21 rfl rfl (Nat.le_of_ble_eq_true rfl) [some (vr 0 0), some (vi a1), some (vi ((gI w 407 0) - a1))] rfl ?_
      refine Z_aload_n hC (dk d_X4_undo 13 rfl) 22 rfl rfl rfl ?_
      refine Z_iload_n hC (dk d_X4_undo 14 rfl) 23 rfl rfl rfl ?_
      refine P_X4_129 hC m_0 (dk d_X4_undo 15 rfl) 26 rfl ?_
      refine Z_aload_n hC (dk d_X4_undo 16 rfl) 27 rfl rfl rfl ?_
      refine Z_dup hC (dk d_X4_undo 17 rfl) 28 rfl rfl ?_
      refine G_X4_126 hC m_0 (dk d_X4_undo 18 rfl) 31 rfl ?_
      refine Z_iload_n hC (dk d_X4_undo 19 rfl) 32 rfl rfl rfl ?_
      obtain ⟨q1, hq1, h⟩ := bd_some h
      refine K_X4_217 [vi a1] hC (s_X4_firstOnes (xG x) (xl x) N a1 (sI w 407 0 a1) q1 hq1) (Nat.le_of_ble_eq_true rfl) rfl rfl rfl (Nat.le_of_ble_eq_true rfl) (dk d_X4_undo 20 rfl) 35 rfl ?_
      refine Z_iand hC (dk d_X4_undo 21 rfl) 36 rfl ?_
      refine P_X4_126 hC m_0 (dk d_X4_undo 22 rfl) 39 rfl ?_
      refine Z_iload_n hC (dk d_X4_undo 23 rfl) 40 rfl rfl rfl ?_
      obtain rfl := Option.some.inj h
      exact Z_ireturn (st := []) hC hr hQ (dk d_X4_undo 24 rfl)
    · have h := it_f h c
      refine Z_iconst (v := -1) hC (dk d_X4_undo 6 rfl) 13 rfl (by decide) ?_
      obtain rfl := Option.some.inj h
      exact Z_ireturn (st := []) hC hr hQ (dk d_X4_undo 7 rfl)
def t_X4_drew : List (Nat × Instr × Nat) := [(0, .aload_n 0, 1), (1, .iload_n 1, 1), (2, .invokevirtual 135, 3), (5, .ifCond .ne 5, 3), (8, .iconst (-1), 1), (9, .ireturn, 1), (10, .iload_n 1, 1), (11, .aload_n 0, 1), (12, .getfield 129, 3), (15, .if_icmp .ge 14, 3), (18, .aload_n 0, 1), (19, .getfield 126, 3), (22, .iload_n 1, 1), (23, .invokestatic 220, 3), (26, .goto 5, 3), (29, .bipush (-9), 2), (31, .ireturn, 1)]
set_option maxRecDepth 20000 in
theorem d_X4_drew : ∀ q ∈ t_X4_drew, decode cX4_drew q.1 = .ok q.2 := by decide +kernel
noncomputable def f_X4_drew (N : Nat) (a1 : Int32) (w : Wd) : Option (Int32 × Wd) :=
  (f_X4_isMate N a1 w).bind (fun q1 =>
    if q1.1 = 0 then
      some ((-1 : Int32), q1.2)
    else
      if (gI q1.2 407 0) ≤ a1 then
        some ((-9 : Int32), q1.2)
      else
        (f_X4_paper N (gI q1.2 406 0) a1 q1.2).bind (fun q2 =>
          some (q2.1, q2.2)))
set_option maxRecDepth 20000 in
set_option maxHeartbeats 4000000 in
theorem s_X4_drew (G : GT) (l : Launch) (N : Nat) (a1 : Int32) (w : Wd) (q : Int32 × Wd) (h : f_X4_drew N a1 w = some q) : Sp G l yX4_drew cw_X4_drew 1 [vr 0 0, vi a1] w (some (vi q.1)) q.2 := by
  refine Sp_of (own := RX4) [some (vr 0 0), some (vi a1)] (by decide) rfl rfl (Nat.le_of_ble_eq_true rfl) ?_
  intro x hG hl hC hr hQ _ _
  subst hG
  subst hl
  unfold f_X4_drew at h
  refine Z_aload_n hC (dk d_X4_drew 0 rfl) 1 rfl rfl rfl ?_
  refine Z_iload_n hC (dk d_X4_drew 1 rfl) 2 rfl rfl rfl ?_
  obtain ⟨q1, hq1, h⟩ := bd_some h
  refine K_X4_135 [vi a1] hC m_0 (s_X4_isMate (xG x) (xl x) N a1 w q1 hq1) (Nat.le_of_ble_eq_true rfl) rfl rfl rfl (Nat.le_of_ble_eq_true rfl) (dk d_X4_drew 2 rfl) 5 rfl ?_
  refine Z_if_ne hC (dk d_X4_drew 3 rfl) 8 10 rfl (by decide) (fun c => ?_) (fun c => ?_)
  · have h := it_f h c
    refine Z_iload_n hC (dk d_X4_drew 6 rfl) 11 rfl rfl rfl ?_
    refine Z_aload_n hC (dk d_X4_drew 7 rfl) 12 rfl rfl rfl ?_
    refine G_X4_129 hC m_0 (dk d_X4_drew 8 rfl) 15 rfl ?_
    refine Z_icmp_ge hC (dk d_X4_drew 9 rfl) 18 29 rfl (by decide) (fun c => ?_) (fun c => ?_)
    · have h := it_t h c
      refine Z_bipush (v := -9) hC (dk d_X4_drew 15 rfl) 31 rfl (by decide) ?_
      obtain rfl := Option.some.inj h
      exact Z_ireturn (st := []) hC hr hQ (dk d_X4_drew 16 rfl)
    · have h := it_f h c
      refine Z_aload_n hC (dk d_X4_drew 10 rfl) 19 rfl rfl rfl ?_
      refine G_X4_126 hC m_0 (dk d_X4_drew 11 rfl) 22 rfl ?_
      refine Z_iload_n hC (dk d_X4_drew 12 rfl) 23 rfl rfl rfl ?_
      obtain ⟨q2, hq2, h⟩ := bd_some h
      refine K_X4_220 [vi (gI q1.2 406 0), vi a1] hC (s_X4_paper (xG x) (xl x) N (gI q1.2 406 0) a1 q1.2 q2 hq2) (Nat.le_of_ble_eq_true rfl) rfl rfl rfl (Nat.le_of_ble_eq_true rfl) (dk d_X4_drew 13 rfl) 26 rfl ?_
      refine Z_goto hC (dk d_X4_drew 14 rfl) 31 (by decide) ?_
      obtain rfl := Option.some.inj h
      exact Z_ireturn (st := []) hC hr hQ (dk d_X4_drew 16 rfl)
  · have h := it_t h c
    refine Z_iconst (v := -1) hC (dk d_X4_drew 4 rfl) 9 rfl (by decide) ?_
    obtain rfl := Option.some.inj h
    exact Z_ireturn (st := []) hC hr hQ (dk d_X4_drew 5 rfl)
def t_X4_nextOpen : List (Nat × Instr × Nat) := [(0, .iconst 0, 1), (1, .istore_n 1, 1), (2, .aload_n 0, 1), (3, .getfield 129, 3), (6, .aload_n 0, 1), (7, .getfield 26, 3), (10, .getfield 132, 3), (13, .if_icmp .ge 65, 3), (16, .iconst 0, 1), (17, .istore_n 2, 1), (18, .iload_n 2, 1), (19, .aload_n 0, 1), (20, .getfield 36, 3), (23, .getfield 186, 3), (26, .if_icmp .ge 52, 3), (29, .aload_n 0, 1), (30, .getfield 36, 3), (33, .iload_n 2, 1), (34, .aload_n 0, 1), (35, .getfield 126, 3), (38, .aload_n 0, 1), (39, .getfield 129, 3), (42, .invokestatic 217, 3), (45, .invokevirtual 238, 3), (48, .ifCond .eq 24, 3), (51, .iload_n 1, 1), (52, .iconst 1, 1), (53, .aload_n 0, 1), (54, .getfield 36, 3), (57, .getfield 189, 3), (60, .iload_n 2, 1), (61, .iaload, 1), (62, .aload_n 0, 1), (63, .getfield 129, 3), (66, .invokestatic 220, 3), (69, .ishl, 1), (70, .ior, 1), (71, .istore_n 1, 1), (72, .iinc 2 1, 3), (75, .goto (-57), 3), (78, .iload_n 1, 1), (79, .ireturn, 1)]
set_option maxRecDepth 20000 in
theorem d_X4_nextOpen : ∀ q ∈ t_X4_nextOpen, decode cX4_nextOpen q.1 = .ok q.2 := by decide +kernel
noncomputable def X4_nextOpen_L1 (N : Nat) : Nat → Int32 → Int32 → Wd → Option (Int32 × Wd)
  | 0, _, _, _ => none
  | n + 1, x1, x2, w =>
  if (gI w 201 0) ≤ x2 then
    some (x1, w)
  else
    (f_X4_firstOnes N (gI w 407 0) w).bind (fun q1 =>
      (f_X2_fitsAt N 0 x2 (gI w 406 0) q1.1 q1.2).bind (fun q2 =>
        if q2.1 = 0 then
          X4_nextOpen_L1 N n x1 (x2 + (1 : Int32)) q2.2
        else
          gd (vp_in x2 265) (
          (f_X4_paper N (gA q2.2 20 0 x2.toNatClampNeg) (gI q2.2 407 0) q2.2).bind (fun q4 =>
            X4_nextOpen_L1 N n (x1 ||| ((1 : Int32) <<< (q4.1 &&& (31 : Int32)))) (x2 + (1 : Int32)) q4.2))))
set_option maxRecDepth 20000 in
set_option maxHeartbeats 4000000 in
theorem z_X4_nextOpen_L1 {x : CX} (hC : Cx x RX4 cX4_nextOpen 3 1) (hr : (xM x).sig.returnType = (some .int)) (N : Nat) : ∀ (n : Nat) (x1 : Int32) (x2 : Int32) (w : Wd) (q : (Int32 × Wd)), X4_nextOpen_L1 N n x1 x2 w = some q → Z x 78 [none, some (vi q.1), none] [] q.2 → Z x 18 [some (vr 0 0), some (vi x1), some (vi x2)] [] w := by
  intro n
  induction n with
  | zero =>
    intro x1 x2 w q h
    cases h
  | succ n ih =>
    intro x1 x2 w q h ke
    rw [X4_nextOpen_L1] at h
    refine Z_iload_n hC (dk d_X4_nextOpen 10 rfl) 19 rfl rfl rfl ?_
    refine Z_aload_n hC (dk d_X4_nextOpen 11 rfl) 20 rfl rfl rfl ?_
    refine G_X4_36 hC m_0 (dk d_X4_nextOpen 12 rfl) 23 rfl ?_
    refine G_X4_186 hC (m_4 (by decide)) (dk d_X4_nextOpen 13 rfl) 26 rfl ?_
    refine Z_icmp_ge hC (dk d_X4_nextOpen 14 rfl) 29 78 rfl (by decide) (fun c => ?_) (fun c => ?_)
    · have h := it_t h c
      obtain rfl := Option.some.inj h
      refine Z_wk [false, true, false] [none, some (vi x1), none] rfl ?_
      exact ke
    · have h := it_f h c
      refine Z_aload_n hC (dk d_X4_nextOpen 15 rfl) 30 rfl rfl rfl ?_
      refine G_X4_36 hC m_0 (dk d_X4_nextOpen 16 rfl) 33 rfl ?_
      refine Z_iload_n hC (dk d_X4_nextOpen 17 rfl) 34 rfl rfl rfl ?_
      refine Z_aload_n hC (dk d_X4_nextOpen 18 rfl) 35 rfl rfl rfl ?_
      refine G_X4_126 hC m_0 (dk d_X4_nextOpen 19 rfl) 38 rfl ?_
      refine Z_aload_n hC (dk d_X4_nextOpen 20 rfl) 39 rfl rfl rfl ?_
      refine G_X4_129 hC m_0 (dk d_X4_nextOpen 21 rfl) 42 rfl ?_
      obtain ⟨q1, hq1, h⟩ := bd_some h
      refine K_X4_217 [vi (gI w 407 0)] hC (s_X4_firstOnes (xG x) (xl x) N (gI w 407 0) w q1 hq1) (Nat.le_of_ble_eq_true rfl) rfl rfl rfl (Nat.le_of_ble_eq_true rfl) (dk d_X4_nextOpen 22 rfl) 45 rfl ?_
      obtain ⟨q2, hq2, h⟩ := bd_some h
      refine K_X4_238 [vi x2, vi (gI w 406 0), vi q1.1] hC (m_4 (by decide)) (s_X2_fitsAt (xG x) (xl x) N 0 (by decide) x2 (gI w 406 0) q1.1 q1.2 q2 hq2) (Nat.le_of_ble_eq_true rfl) rfl rfl rfl (Nat.le_of_ble_eq_true rfl) (dk d_X4_nextOpen 23 rfl) 48 rfl ?_
      refine Z_if_eq hC (dk d_X4_nextOpen 24 rfl) 51 72 rfl (by decide) (fun c => ?_) (fun c => ?_)
      · have h := it_t h c
        refine Z_iinc hC (dk d_X4_nextOpen 38 rfl) 75 rfl rfl rfl [some (vr 0 0), some (vi x1), some (vi (x2 + (1 : Int32)))] rfl ?_
        refine Z_goto hC (dk d_X4_nextOpen 39 rfl) 18 (by decide) ?_
        refine Z_wk [true, true, true] [some (vr 0 0), some (vi x1), some (vi (x2 + (1 : Int32)))] rfl ?_
        exact ih x1 (x2 + (1 : Int32)) q2.2 _ h ke
      · have h := it_f h c
        refine Z_iload_n hC (dk d_X4_nextOpen 25 rfl) 52 rfl rfl rfl ?_
        refine Z_iconst (v := 1) hC (dk d_X4_nextOpen 26 rfl) 53 rfl (by decide) ?_
        refine Z_aload_n hC (dk d_X4_nextOpen 27 rfl) 54 rfl rfl rfl ?_
        refine G_X4_36 hC m_0 (dk d_X4_nextOpen 28 rfl) 57 rfl ?_
        refine G_X4_189 hC (m_4 (by decide)) (dk d_X4_nextOpen 29 rfl) 60 rfl ?_
        refine Z_iload_n hC (dk d_X4_nextOpen 30 rfl) 61 rfl rfl rfl ?_
        obtain ⟨g3, h⟩ := gd_some h
        refine Z_iaload hC (m_20 (by decide)) (by decide) rfl g3 (dk d_X4_nextOpen 31 rfl) 62 rfl ?_
        refine Z_aload_n hC (dk d_X4_nextOpen 32 rfl) 63 rfl rfl rfl ?_
        refine G_X4_129 hC m_0 (dk d_X4_nextOpen 33 rfl) 66 rfl ?_
        obtain ⟨q4, hq4, h⟩ := bd_some h
        refine K_X4_220 [vi (gA q2.2 20 0 x2.toNatClampNeg), vi (gI q2.2 407 0)] hC (s_X4_paper (xG x) (xl x) N (gA q2.2 20 0 x2.toNatClampNeg) (gI q2.2 407 0) q2.2 q4 hq4) (Nat.le_of_ble_eq_true rfl) rfl rfl rfl (Nat.le_of_ble_eq_true rfl) (dk d_X4_nextOpen 34 rfl) 69 rfl ?_
        refine Z_ishl hC (dk d_X4_nextOpen 35 rfl) 70 rfl ?_
        refine Z_ior hC (dk d_X4_nextOpen 36 rfl) 71 rfl ?_
        refine Z_istore_n hC (dk d_X4_nextOpen 37 rfl) 72 rfl rfl (Nat.le_of_ble_eq_true rfl) [some (vr 0 0), some (vi (x1 ||| ((1 : Int32) <<< (q4.1 &&& (31 : Int32))))), some (vi x2)] rfl ?_
        refine Z_iinc hC (dk d_X4_nextOpen 38 rfl) 75 rfl rfl rfl [some (vr 0 0), some (vi (x1 ||| ((1 : Int32) <<< (q4.1 &&& (31 : Int32))))), some (vi (x2 + (1 : Int32)))] rfl ?_
        refine Z_goto hC (dk d_X4_nextOpen 39 rfl) 18 (by decide) ?_
        refine Z_wk [true, true, true] [some (vr 0 0), some (vi (x1 ||| ((1 : Int32) <<< (q4.1 &&& (31 : Int32))))), some (vi (x2 + (1 : Int32)))] rfl ?_
        exact ih (x1 ||| ((1 : Int32) <<< (q4.1 &&& (31 : Int32)))) (x2 + (1 : Int32)) q4.2 _ h ke
noncomputable def f_X4_nextOpen (N : Nat) (w : Wd) : Option (Int32 × Wd) :=
  if (gI w 4 0) ≤ (gI w 407 0) then
    some ((0 : Int32), w)
  else
    (X4_nextOpen_L1 N N (0 : Int32) (0 : Int32) w).bind (fun q5 =>
      some (q5.1, q5.2))
set_option maxRecDepth 20000 in
set_option maxHeartbeats 4000000 in
theorem s_X4_nextOpen (G : GT) (l : Launch) (N : Nat) (w : Wd) (q : Int32 × Wd) (h : f_X4_nextOpen N w = some q) : Sp G l yX4_nextOpen cw_X4_nextOpen 1 [vr 0 0] w (some (vi q.1)) q.2 := by
  refine Sp_of (own := RX4) [some (vr 0 0), none, none] (by decide) rfl rfl (Nat.le_of_ble_eq_true rfl) ?_
  intro x hG hl hC hr hQ _ _
  subst hG
  subst hl
  unfold f_X4_nextOpen at h
  refine Z_iconst (v := 0) hC (dk d_X4_nextOpen 0 rfl) 1 rfl (by decide) ?_
  refine Z_istore_n hC (dk d_X4_nextOpen 1 rfl) 2 rfl rfl (Nat.le_of_ble_eq_true rfl) [some (vr 0 0), some (vi (0 : Int32)), none] rfl ?_
  refine Z_aload_n hC (dk d_X4_nextOpen 2 rfl) 3 rfl rfl rfl ?_
  refine G_X4_129 hC m_0 (dk d_X4_nextOpen 3 rfl) 6 rfl ?_
  refine Z_aload_n hC (dk d_X4_nextOpen 4 rfl) 7 rfl rfl rfl ?_
  refine G_X4_26 hC m_0 (dk d_X4_nextOpen 5 rfl) 10 rfl ?_
  refine G_X4_132 hC (m_3 (by decide)) (dk d_X4_nextOpen 6 rfl) 13 rfl ?_
  refine Z_icmp_ge hC (dk d_X4_nextOpen 7 rfl) 16 78 rfl (by decide) (fun c => ?_) (fun c => ?_)
  · have h := it_t h c
    refine Z_iload_n hC (dk d_X4_nextOpen 40 rfl) 79 rfl rfl rfl ?_
    obtain rfl := Option.some.inj h
    exact Z_ireturn (st := []) hC hr hQ (dk d_X4_nextOpen 41 rfl)
  · have h := it_f h c
    refine Z_iconst (v := 0) hC (dk d_X4_nextOpen 8 rfl) 17 rfl (by decide) ?_
    refine Z_istore_n hC (dk d_X4_nextOpen 9 rfl) 18 rfl rfl (Nat.le_of_ble_eq_true rfl) [some (vr 0 0), some (vi (0 : Int32)), some (vi (0 : Int32))] rfl ?_
    obtain ⟨q5, hq5, h⟩ := bd_some h
    refine Z_wk [true, true, true] [some (vr 0 0), some (vi (0 : Int32)), some (vi (0 : Int32))] rfl ?_
    refine z_X4_nextOpen_L1 hC hr N N (0 : Int32) (0 : Int32) w q5 hq5 ?_
    refine Z_iload_n hC (dk d_X4_nextOpen 40 rfl) 79 rfl rfl rfl ?_
    obtain rfl := Option.some.inj h
    exact Z_ireturn (st := []) hC hr hQ (dk d_X4_nextOpen 41 rfl)
def t_X4_can : List (Nat × Instr × Nat) := [(0, .aload_n 0, 1), (1, .invokevirtual 183, 3), (4, .aload_n 0, 1), (5, .aload_n 0, 1), (6, .getfield 36, 3), (9, .aload_n 0, 1), (10, .getfield 126, 3), (13, .aload_n 0, 1), (14, .getfield 129, 3), (17, .invokestatic 217, 3), (20, .invokevirtual 223, 3), (23, .putfield 90, 3), (26, .aload_n 0, 1), (27, .invokevirtual 226, 3), (30, .ireturn, 1)]
set_option maxRecDepth 20000 in
theorem d_X4_can : ∀ q ∈ t_X4_can, decode cX4_can q.1 = .ok q.2 := by decide +kernel
noncomputable def f_X4_can (N : Nat) (w : Wd) : Option (Int32 × Wd) :=
  (f_X4_listRight N w).bind (fun q1 =>
    (f_X4_firstOnes N (gI q1 407 0) q1).bind (fun q2 =>
      (f_X2_fitting N 0 (gI q1 406 0) q2.1 q2.2).bind (fun q3 =>
        (f_X4_nextOpen N (sI q3.2 412 0 q3.1)).bind (fun q4 =>
          some (q4.1, q4.2)))))
set_option maxRecDepth 20000 in
set_option maxHeartbeats 4000000 in
theorem s_X4_can (G : GT) (l : Launch) (N : Nat) (w : Wd) (q : Int32 × Wd) (h : f_X4_can N w = some q) : Sp G l yX4_can cw_X4_can 14 [vr 0 0] w (some (vi q.1)) q.2 := by
  refine Sp_of (own := RX4) [some (vr 0 0)] (by decide) rfl rfl (Nat.le_of_ble_eq_true rfl) ?_
  intro x hG hl hC hr hQ _ _
  subst hG
  subst hl
  unfold f_X4_can at h
  refine Z_aload_n hC (dk d_X4_can 0 rfl) 1 rfl rfl rfl ?_
  obtain ⟨q1, hq1, h⟩ := bd_some h
  refine K_X4_183 [] hC m_0 (s_X4_listRight (xG x) (xl x) N w q1 hq1) (Nat.le_of_ble_eq_true rfl) rfl rfl rfl (Nat.le_of_ble_eq_true rfl) (dk d_X4_can 1 rfl) 4 rfl ?_
  refine Z_aload_n hC (dk d_X4_can 2 rfl) 5 rfl rfl rfl ?_
  refine Z_aload_n hC (dk d_X4_can 3 rfl) 6 rfl rfl rfl ?_
  refine G_X4_36 hC m_0 (dk d_X4_can 4 rfl) 9 rfl ?_
  refine Z_aload_n hC (dk d_X4_can 5 rfl) 10 rfl rfl rfl ?_
  refine G_X4_126 hC m_0 (dk d_X4_can 6 rfl) 13 rfl ?_
  refine Z_aload_n hC (dk d_X4_can 7 rfl) 14 rfl rfl rfl ?_
  refine G_X4_129 hC m_0 (dk d_X4_can 8 rfl) 17 rfl ?_
  obtain ⟨q2, hq2, h⟩ := bd_some h
  refine K_X4_217 [vi (gI q1 407 0)] hC (s_X4_firstOnes (xG x) (xl x) N (gI q1 407 0) q1 q2 hq2) (Nat.le_of_ble_eq_true rfl) rfl rfl rfl (Nat.le_of_ble_eq_true rfl) (dk d_X4_can 9 rfl) 20 rfl ?_
  obtain ⟨q3, hq3, h⟩ := bd_some h
  refine K_X4_223 [vi (gI q1 406 0), vi q2.1] hC (m_4 (by decide)) (s_X2_fitting (xG x) (xl x) N 0 (by decide) (gI q1 406 0) q2.1 q2.2 q3 hq3) (Nat.le_of_ble_eq_true rfl) rfl rfl rfl (Nat.le_of_ble_eq_true rfl) (dk d_X4_can 10 rfl) 23 rfl ?_
  refine P_X4_90 hC m_0 (dk d_X4_can 11 rfl) 26 rfl ?_
  refine Z_aload_n hC (dk d_X4_can 12 rfl) 27 rfl rfl rfl ?_
  obtain ⟨q4, hq4, h⟩ := bd_some h
  refine K_X4_226 [] hC m_0 (s_X4_nextOpen (xG x) (xl x) N (sI q3.2 412 0 q3.1) q4 hq4) (Nat.le_of_ble_eq_true rfl) rfl rfl rfl (Nat.le_of_ble_eq_true rfl) (dk d_X4_can 13 rfl) 30 rfl ?_
  obtain rfl := Option.some.inj h
  exact Z_ireturn (st := []) hC hr hQ (dk d_X4_can 14 rfl)
def t_X4_tellFraction : List (Nat × Instr × Nat) := [(0, .iload_n 1, 1), (1, .istore_n 3, 1), (2, .iload_n 2, 1), (3, .istore 4, 2), (5, .iconst 0, 1), (6, .istore 5, 2), (8, .iload 5, 2), (10, .bipush 64, 2), (12, .if_icmp .ge 27, 3), (15, .iload 4, 2), (17, .ifCond .eq 22, 3), (20, .iload_n 3, 1), (21, .iload 4, 2), (23, .irem, 1), (24, .istore 6, 2), (26, .iload 4, 2), (28, .istore_n 3, 1), (29, .iload 6, 2), (31, .istore 4, 2), (33, .iinc 5 1, 3), (36, .goto (-28), 3), (39, .iload_n 3, 1), (40, .iconst 1, 1), (41, .invokestatic 319, 3), (44, .istore 5, 2), (46, .aload_n 0, 1), (47, .iload_n 1, 1), (48, .iload 5, 2), (50, .idiv, 1), (51, .i2l, 1), (52, .putfield 288, 3), (55, .aload_n 0, 1), (56, .iload_n 2, 1), (57, .iload 5, 2), (59, .idiv, 1), (60, .i2l, 1), (61, .putfield 62, 3), (64, .return_, 1)]
set_option maxRecDepth 20000 in
theorem d_X4_tellFraction : ∀ q ∈ t_X4_tellFraction, decode cX4_tellFraction q.1 = .ok q.2 := by decide +kernel
noncomputable def X4_tellFraction_L1 (N : Nat) (x1 : Int32) (x2 : Int32) : Nat → Int32 → Int32 → Int32 → Wd → Option (Int32 × Wd)
  | 0, _, _, _, _ => none
  | n + 1, x3, x4, x5, w =>
  if (64 : Int32) ≤ x5 then
    some (x3, w)
  else
    if x4 = 0 then
      some (x3, w)
    else
      gd (¬ x4 = 0) (
      X4_tellFraction_L1 N x1 x2 n x4 (x3 - x3 / x4 * x4) (x5 + (1 : Int32)) w)
set_option maxRecDepth 20000 in
set_option maxHeartbeats 4000000 in
theorem z_X4_tellFraction_L1 {x : CX} (hC : Cx x RX4 cX4_tellFraction 7 1) (hr : (xM x).sig.returnType = none) (N : Nat) (x1 : Int32) (x2 : Int32) : ∀ (n : Nat) (x3 : Int32) (x4 : Int32) (x5 : Int32) (w : Wd) (q : (Int32 × Wd)), X4_tellFraction_L1 N x1 x2 n x3 x4 x5 w = some q → Z x 39 [some (vr 0 0), some (vi x1), some (vi x2), some (vi q.1), none, none, none] [] q.2 → Z x 8 [some (vr 0 0), some (vi x1), some (vi x2), some (vi x3), some (vi x4), some (vi x5), none] [] w := by
  intro n
  induction n with
  | zero =>
    intro x3 x4 x5 w q h
    cases h
  | succ n ih =>
    intro x3 x4 x5 w q h ke
    rw [X4_tellFraction_L1] at h
    refine Z_iload hC (dk d_X4_tellFraction 6 rfl) 10 rfl rfl ?_
    refine Z_bipush (v := 64) hC (dk d_X4_tellFraction 7 rfl) 12 rfl (by decide) ?_
    refine Z_icmp_ge hC (dk d_X4_tellFraction 8 rfl) 15 39 rfl (by decide) (fun c => ?_) (fun c => ?_)
    · have h := it_t h c
      obtain rfl := Option.some.inj h
      refine Z_wk [true, true, true, true, false, false, false] [some (vr 0 0), some (vi x1), some (vi x2), some (vi x3), none, none, none] rfl ?_
      exact ke
    · have h := it_f h c
      refine Z_iload hC (dk d_X4_tellFraction 9 rfl) 17 rfl rfl ?_
      refine Z_if_eq hC (dk d_X4_tellFraction 10 rfl) 20 39 rfl (by decide) (fun c => ?_) (fun c => ?_)
      · have h := it_t h c
        obtain rfl := Option.some.inj h
        refine Z_wk [true, true, true, true, false, false, false] [some (vr 0 0), some (vi x1), some (vi x2), some (vi x3), none, none, none] rfl ?_
        exact ke
      · have h := it_f h c
        refine Z_iload_n hC (dk d_X4_tellFraction 11 rfl) 21 rfl rfl rfl ?_
        refine Z_iload hC (dk d_X4_tellFraction 12 rfl) 23 rfl rfl ?_
        obtain ⟨g1, h⟩ := gd_some h
        refine Z_irem hC (dk d_X4_tellFraction 13 rfl) 24 rfl g1 ?_
        refine Z_istore hC (dk d_X4_tellFraction 14 rfl) 26 rfl (Nat.le_of_ble_eq_true rfl) [some (vr 0 0), some (vi x1), some (vi x2), some (vi x3), some (vi x4), some (vi x5), some (vi (x3 - x3 / x4 * x4))] rfl ?_
        refine Z_iload hC (dk d_X4_tellFraction 15 rfl) 28 rfl rfl ?_
        refine Z_istore_n hC (dk d_X4_tellFraction 16 rfl) 29 rfl rfl (Nat.le_of_ble_eq_true rfl) [some (vr 0 0), some (vi x1), some (vi x2), some (vi x4), some (vi x4), some (vi x5), some (vi (x3 - x3 / x4 * x4))] rfl ?_
        refine Z_iload hC (dk d_X4_tellFraction 17 rfl) 31 rfl rfl ?_
        refine Z_istore hC (dk d_X4_tellFraction 18 rfl) 33 rfl (Nat.le_of_ble_eq_true rfl) [some (vr 0 0), some (vi x1), some (vi x2), some (vi x4), some (vi (x3 - x3 / x4 * x4)), some (vi x5), some (vi (x3 - x3 / x4 * x4))] rfl ?_
        refine Z_iinc hC (dk d_X4_tellFraction 19 rfl) 36 rfl rfl rfl [some (vr 0 0), some (vi x1), some (vi x2), some (vi x4), some (vi (x3 - x3 / x4 * x4)), some (vi (x5 + (1 : Int32))), some (vi (x3 - x3 / x4 * x4))] rfl ?_
        refine Z_goto hC (dk d_X4_tellFraction 20 rfl) 8 (by decide) ?_
        refine Z_wk [true, true, true, true, true, true, false] [some (vr 0 0), some (vi x1), some (vi x2), some (vi x4), some (vi (x3 - x3 / x4 * x4)), some (vi (x5 + (1 : Int32))), none] rfl ?_
        exact ih x4 (x3 - x3 / x4 * x4) (x5 + (1 : Int32)) w _ h ke
noncomputable def X4_tellFraction_J39 (N : Nat) (x1 : Int32) (x2 : Int32) (x3 : Int32) (w : Wd) : Option (Wd) :=
  gd (¬ (if x3 < (1 : Int32) then (1 : Int32) else x3) = 0) (
  gd (¬ (if x3 < (1 : Int32) then (1 : Int32) else x3) = 0) (
  some (sL (sL w 413 0 ((x1 / (if x3 < (1 : Int32) then (1 : Int32) else x3)).toInt64)) 414 0 ((x2 / (if x3 < (1 : Int32) then (1 : Int32) else x3)).toInt64))))
set_option maxRecDepth 20000 in
set_option maxHeartbeats 4000000 in
theorem z_X4_tellFraction_J39 {x : CX} (hC : Cx x RX4 cX4_tellFraction 7 1) (hr : (xM x).sig.returnType = none) (N : Nat) (x1 : Int32) (x2 : Int32) (x3 : Int32) (w : Wd) (q : (Wd)) (h : X4_tellFraction_J39 N x1 x2 x3 w = some q) (hQ : Rt x none q) : Z x 39 [some (vr 0 0), some (vi x1), some (vi x2), some (vi x3), none, none, none] [] w := by
  unfold X4_tellFraction_J39 at h
  refine Z_iload_n hC (dk d_X4_tellFraction 21 rfl) 40 rfl rfl rfl ?_
  refine Z_iconst (v := 1) hC (dk d_X4_tellFraction 22 rfl) 41 rfl (by decide) ?_
  refine Z_mmax hC ml_X4_319 wi_J9_max_7cf53 wini_J9 wc_J9_max_7cf53 (Nat.le_of_ble_eq_true rfl) rfl (Nat.le_of_ble_eq_true rfl) (dk d_X4_tellFraction 23 rfl) 44 rfl ?_
  refine Z_istore hC (dk d_X4_tellFraction 24 rfl) 46 rfl (Nat.le_of_ble_eq_true rfl) [some (vr 0 0), some (vi x1), some (vi x2), some (vi x3), none, some (vi (if x3 < (1 : Int32) then (1 : Int32) else x3)), none] rfl ?_
  refine Z_aload_n hC (dk d_X4_tellFraction 25 rfl) 47 rfl rfl rfl ?_
  refine Z_iload_n hC (dk d_X4_tellFraction 26 rfl) 48 rfl rfl rfl ?_
  refine Z_iload hC (dk d_X4_tellFraction 27 rfl) 50 rfl rfl ?_
  obtain ⟨g3, h⟩ := gd_some h
  refine Z_idiv hC (dk d_X4_tellFraction 28 rfl) 51 rfl g3 ?_
  refine Z_i2l hC (dk d_X4_tellFraction 29 rfl) 52 rfl ?_
  refine P_X4_288 hC m_0 (dk d_X4_tellFraction 30 rfl) 55 rfl ?_
  refine Z_aload_n hC (dk d_X4_tellFraction 31 rfl) 56 rfl rfl rfl ?_
  refine Z_iload_n hC (dk d_X4_tellFraction 32 rfl) 57 rfl rfl rfl ?_
  refine Z_iload hC (dk d_X4_tellFraction 33 rfl) 59 rfl rfl ?_
  obtain ⟨g4, h⟩ := gd_some h
  refine Z_idiv hC (dk d_X4_tellFraction 34 rfl) 60 rfl g4 ?_
  refine Z_i2l hC (dk d_X4_tellFraction 35 rfl) 61 rfl ?_
  refine P_X4_62 hC m_0 (dk d_X4_tellFraction 36 rfl) 64 rfl ?_
  obtain rfl := Option.some.inj h
  exact Z_return (st := []) hC hr hQ (dk d_X4_tellFraction 37 rfl)
noncomputable def f_X4_tellFraction (N : Nat) (a1 : Int32) (a2 : Int32) (w : Wd) : Option (Wd) :=
  (X4_tellFraction_L1 N a1 a2 N a1 a2 (0 : Int32) w).bind (fun q2 =>
    X4_tellFraction_J39 N a1 a2 q2.1 q2.2)
set_option maxRecDepth 20000 in
set_option maxHeartbeats 4000000 in
theorem s_X4_tellFraction (G : GT) (l : Launch) (N : Nat) (a1 : Int32) (a2 : Int32) (w : Wd) (q : Wd) (h : f_X4_tellFraction N a1 a2 w = some q) : Sp G l yX4_tellFraction cw_X4_tellFraction 1 [vr 0 0, vi a1, vi a2] w none q := by
  refine Sp_of (own := RX4) [some (vr 0 0), some (vi a1), some (vi a2), none, none, none, none] (by decide) rfl rfl (Nat.le_of_ble_eq_true rfl) ?_
  intro x hG hl hC hr hQ _ _
  subst hG
  subst hl
  unfold f_X4_tellFraction at h
  refine Z_iload_n hC (dk d_X4_tellFraction 0 rfl) 1 rfl rfl rfl ?_
  refine Z_istore_n hC (dk d_X4_tellFraction 1 rfl) 2 rfl rfl (Nat.le_of_ble_eq_true rfl) [some (vr 0 0), some (vi a1), some (vi a2), some (vi a1), none, none, none] rfl ?_
  refine Z_iload_n hC (dk d_X4_tellFraction 2 rfl) 3 rfl rfl rfl ?_
  refine Z_istore hC (dk d_X4_tellFraction 3 rfl) 5 rfl (Nat.le_of_ble_eq_true rfl) [some (vr 0 0), some (vi a1), some (vi a2), some (vi a1), some (vi a2), none, none] rfl ?_
  refine Z_iconst (v := 0) hC (dk d_X4_tellFraction 4 rfl) 6 rfl (by decide) ?_
  refine Z_istore hC (dk d_X4_tellFraction 5 rfl) 8 rfl (Nat.le_of_ble_eq_true rfl) [some (vr 0 0), some (vi a1), some (vi a2), some (vi a1), some (vi a2), some (vi (0 : Int32)), none] rfl ?_
  obtain ⟨q2, hq2, h⟩ := bd_some h
  refine Z_wk [true, true, true, true, true, true, false] [some (vr 0 0), some (vi a1), some (vi a2), some (vi a1), some (vi a2), some (vi (0 : Int32)), none] rfl ?_
  refine z_X4_tellFraction_L1 hC hr N a1 a2 N a1 a2 (0 : Int32) w q2 hq2 ?_
  refine Z_wk [true, true, true, true, false, false, false] [some (vr 0 0), some (vi a1), some (vi a2), some (vi q2.1), none, none, none] rfl ?_
  exact z_X4_tellFraction_J39 hC hr N a1 a2 q2.1 q2.2 _ h hQ
def t_X4_turns : List (Nat × Instr × Nat) := [(0, .aload_n 0, 1), (1, .iload_n 1, 1), (2, .invokevirtual 135, 3), (5, .ifCond .eq 11, 3), (8, .aload_n 0, 1), (9, .iload_n 2, 1), (10, .invokevirtual 135, 3), (13, .ifCond .ne 5, 3), (16, .iconst (-1), 1), (17, .ireturn, 1), (18, .aload_n 0, 1), (19, .invokevirtual 183, 3), (22, .aload_n 0, 1), (23, .getfield 36, 3), (26, .aload_n 0, 1), (27, .getfield 126, 3), (30, .aload_n 0, 1), (31, .getfield 129, 3), (34, .invokestatic 217, 3), (37, .invokevirtual 223, 3), (40, .ifCond .ne 9, 3), (43, .aload_n 0, 1), (44, .iconst 4, 1), (45, .invokevirtual 74, 3), (48, .ireturn, 1), (49, .iload_n 1, 1), (50, .aload_n 0, 1), (51, .getfield 129, 3), (54, .if_icmp .ge 27, 3), (57, .aload_n 0, 1), (58, .aload_n 0, 1), (59, .getfield 126, 3), (62, .iload_n 1, 1), (63, .invokestatic 220, 3), (66, .iload_n 2, 1), (67, .if_icmp .ne 7, 3), (70, .iconst 1, 1), (71, .goto 4, 3), (74, .iconst 0, 1), (75, .iconst 1, 1), (76, .invokevirtual 230, 3), (79, .iconst 1, 1), (80, .ireturn, 1), (81, .aload_n 0, 1), (82, .aload_n 0, 1), (83, .getfield 36, 3), (86, .aload_n 0, 1), (87, .getfield 126, 3), (90, .aload_n 0, 1), (91, .getfield 129, 3), (94, .iload_n 1, 1), (95, .iload_n 2, 1), (96, .invokevirtual 233, 3), (99, .ldc 237, 2), (101, .invokevirtual 230, 3), (104, .iconst 1, 1), (105, .ireturn, 1)]
set_option maxRecDepth 20000 in
theorem d_X4_turns : ∀ q ∈ t_X4_turns, decode cX4_turns q.1 = .ok q.2 := by decide +kernel
noncomputable def f_X4_turns (N : Nat) (a1 : Int32) (a2 : Int32) (w : Wd) : Option (Int32 × Wd) :=
  (f_X4_isMate N a1 w).bind (fun q1 =>
    if q1.1 = 0 then
      some ((-1 : Int32), q1.2)
    else
      (f_X4_isMate N a2 q1.2).bind (fun q2 =>
        if q2.1 = 0 then
          some ((-1 : Int32), q2.2)
        else
          (f_X4_listRight N q2.2).bind (fun q3 =>
            (f_X4_firstOnes N (gI q3 407 0) q3).bind (fun q4 =>
              (f_X2_fitting N 0 (gI q3 406 0) q4.1 q4.2).bind (fun q5 =>
                if q5.1 = 0 then
                  (f_X4_refuse N (4 : Int32) q5.2).bind (fun q11 =>
                    some (q11.1, q11.2))
                else
                  if (gI q5.2 407 0) ≤ a1 then
                    (f_X2_shareByTurns N 0 (gI q5.2 406 0) (gI q5.2 407 0) a1 a2 q5.2).bind (fun q6 =>
                      (f_X4_tellFraction N q6.1 (518400 : Int32) q6.2).bind (fun q7 =>
                        some ((1 : Int32), q7)))
                  else
                    (f_X4_paper N (gI q5.2 406 0) a1 q5.2).bind (fun q8 =>
                      if q8.1 = a2 then
                        (f_X4_tellFraction N (1 : Int32) (1 : Int32) q8.2).bind (fun q10 =>
                          some ((1 : Int32), q10))
                      else
                        (f_X4_tellFraction N (0 : Int32) (1 : Int32) q8.2).bind (fun q9 =>
                          some ((1 : Int32), q9))))))))
set_option maxRecDepth 20000 in
set_option maxHeartbeats 4000000 in
theorem s_X4_turns (G : GT) (l : Launch) (N : Nat) (a1 : Int32) (a2 : Int32) (w : Wd) (q : Int32 × Wd) (h : f_X4_turns N a1 a2 w = some q) : Sp G l yX4_turns cw_X4_turns 14 [vr 0 0, vi a1, vi a2] w (some (vi q.1)) q.2 := by
  refine Sp_of (own := RX4) [some (vr 0 0), some (vi a1), some (vi a2)] (by decide) rfl rfl (Nat.le_of_ble_eq_true rfl) ?_
  intro x hG hl hC hr hQ _ _
  subst hG
  subst hl
  unfold f_X4_turns at h
  refine Z_aload_n hC (dk d_X4_turns 0 rfl) 1 rfl rfl rfl ?_
  refine Z_iload_n hC (dk d_X4_turns 1 rfl) 2 rfl rfl rfl ?_
  obtain ⟨q1, hq1, h⟩ := bd_some h
  refine K_X4_135 [vi a1] hC m_0 (s_X4_isMate (xG x) (xl x) N a1 w q1 hq1) (Nat.le_of_ble_eq_true rfl) rfl rfl rfl (Nat.le_of_ble_eq_true rfl) (dk d_X4_turns 2 rfl) 5 rfl ?_
  refine Z_if_eq hC (dk d_X4_turns 3 rfl) 8 16 rfl (by decide) (fun c => ?_) (fun c => ?_)
  · have h := it_t h c
    refine Z_iconst (v := -1) hC (dk d_X4_turns 8 rfl) 17 rfl (by decide) ?_
    obtain rfl := Option.some.inj h
    exact Z_ireturn (st := []) hC hr hQ (dk d_X4_turns 9 rfl)
  · have h := it_f h c
    refine Z_aload_n hC (dk d_X4_turns 4 rfl) 9 rfl rfl rfl ?_
    refine Z_iload_n hC (dk d_X4_turns 5 rfl) 10 rfl rfl rfl ?_
    obtain ⟨q2, hq2, h⟩ := bd_some h
    refine K_X4_135 [vi a2] hC m_0 (s_X4_isMate (xG x) (xl x) N a2 q1.2 q2 hq2) (Nat.le_of_ble_eq_true rfl) rfl rfl rfl (Nat.le_of_ble_eq_true rfl) (dk d_X4_turns 6 rfl) 13 rfl ?_
    refine Z_if_ne hC (dk d_X4_turns 7 rfl) 16 18 rfl (by decide) (fun c => ?_) (fun c => ?_)
    · have h := it_f h c
      refine Z_aload_n hC (dk d_X4_turns 10 rfl) 19 rfl rfl rfl ?_
      obtain ⟨q3, hq3, h⟩ := bd_some h
      refine K_X4_183 [] hC m_0 (s_X4_listRight (xG x) (xl x) N q2.2 q3 hq3) (Nat.le_of_ble_eq_true rfl) rfl rfl rfl (Nat.le_of_ble_eq_true rfl) (dk d_X4_turns 11 rfl) 22 rfl ?_
      refine Z_aload_n hC (dk d_X4_turns 12 rfl) 23 rfl rfl rfl ?_
      refine G_X4_36 hC m_0 (dk d_X4_turns 13 rfl) 26 rfl ?_
      refine Z_aload_n hC (dk d_X4_turns 14 rfl) 27 rfl rfl rfl ?_
      refine G_X4_126 hC m_0 (dk d_X4_turns 15 rfl) 30 rfl ?_
      refine Z_aload_n hC (dk d_X4_turns 16 rfl) 31 rfl rfl rfl ?_
      refine G_X4_129 hC m_0 (dk d_X4_turns 17 rfl) 34 rfl ?_
      obtain ⟨q4, hq4, h⟩ := bd_some h
      refine K_X4_217 [vi (gI q3 407 0)] hC (s_X4_firstOnes (xG x) (xl x) N (gI q3 407 0) q3 q4 hq4) (Nat.le_of_ble_eq_true rfl) rfl rfl rfl (Nat.le_of_ble_eq_true rfl) (dk d_X4_turns 18 rfl) 37 rfl ?_
      obtain ⟨q5, hq5, h⟩ := bd_some h
      refine K_X4_223 [vi (gI q3 406 0), vi q4.1] hC (m_4 (by decide)) (s_X2_fitting (xG x) (xl x) N 0 (by decide) (gI q3 406 0) q4.1 q4.2 q5 hq5) (Nat.le_of_ble_eq_true rfl) rfl rfl rfl (Nat.le_of_ble_eq_true rfl) (dk d_X4_turns 19 rfl) 40 rfl ?_
      refine Z_if_ne hC (dk d_X4_turns 20 rfl) 43 49 rfl (by decide) (fun c => ?_) (fun c => ?_)
      · have h := it_f h c
        refine Z_iload_n hC (dk d_X4_turns 25 rfl) 50 rfl rfl rfl ?_
        refine Z_aload_n hC (dk d_X4_turns 26 rfl) 51 rfl rfl rfl ?_
        refine G_X4_129 hC m_0 (dk d_X4_turns 27 rfl) 54 rfl ?_
        refine Z_icmp_ge hC (dk d_X4_turns 28 rfl) 57 81 rfl (by decide) (fun c => ?_) (fun c => ?_)
        · have h := it_t h c
          refine Z_aload_n hC (dk d_X4_turns 43 rfl) 82 rfl rfl rfl ?_
          refine Z_aload_n hC (dk d_X4_turns 44 rfl) 83 rfl rfl rfl ?_
          refine G_X4_36 hC m_0 (dk d_X4_turns 45 rfl) 86 rfl ?_
          refine Z_aload_n hC (dk d_X4_turns 46 rfl) 87 rfl rfl rfl ?_
          refine G_X4_126 hC m_0 (dk d_X4_turns 47 rfl) 90 rfl ?_
          refine Z_aload_n hC (dk d_X4_turns 48 rfl) 91 rfl rfl rfl ?_
          refine G_X4_129 hC m_0 (dk d_X4_turns 49 rfl) 94 rfl ?_
          refine Z_iload_n hC (dk d_X4_turns 50 rfl) 95 rfl rfl rfl ?_
          refine Z_iload_n hC (dk d_X4_turns 51 rfl) 96 rfl rfl rfl ?_
          obtain ⟨q6, hq6, h⟩ := bd_some h
          refine K_X4_233 [vi (gI q5.2 406 0), vi (gI q5.2 407 0), vi a1, vi a2] hC (m_4 (by decide)) (s_X2_shareByTurns (xG x) (xl x) N 0 (by decide) (gI q5.2 406 0) (gI q5.2 407 0) a1 a2 q5.2 q6 hq6) (Nat.le_of_ble_eq_true rfl) rfl rfl rfl (Nat.le_of_ble_eq_true rfl) (dk d_X4_turns 52 rfl) 99 rfl ?_
          refine Z_ldc hC kc_X4_237 (dk d_X4_turns 53 rfl) 101 rfl ?_
          obtain ⟨q7, hq7, h⟩ := bd_some h
          refine K_X4_230 [vi q6.1, vi (518400 : Int32)] hC m_0 (s_X4_tellFraction (xG x) (xl x) N q6.1 (518400 : Int32) q6.2 q7 hq7) (Nat.le_of_ble_eq_true rfl) rfl rfl rfl (Nat.le_of_ble_eq_true rfl) (dk d_X4_turns 54 rfl) 104 rfl ?_
          refine Z_iconst (v := 1) hC (dk d_X4_turns 55 rfl) 105 rfl (by decide) ?_
          obtain rfl := Option.some.inj h
          exact Z_ireturn (st := []) hC hr hQ (dk d_X4_turns 56 rfl)
        · have h := it_f h c
          refine Z_aload_n hC (dk d_X4_turns 29 rfl) 58 rfl rfl rfl ?_
          refine Z_aload_n hC (dk d_X4_turns 30 rfl) 59 rfl rfl rfl ?_
          refine G_X4_126 hC m_0 (dk d_X4_turns 31 rfl) 62 rfl ?_
          refine Z_iload_n hC (dk d_X4_turns 32 rfl) 63 rfl rfl rfl ?_
          obtain ⟨q8, hq8, h⟩ := bd_some h
          refine K_X4_220 [vi (gI q5.2 406 0), vi a1] hC (s_X4_paper (xG x) (xl x) N (gI q5.2 406 0) a1 q5.2 q8 hq8) (Nat.le_of_ble_eq_true rfl) rfl rfl rfl (Nat.le_of_ble_eq_true rfl) (dk d_X4_turns 33 rfl) 66 rfl ?_
          refine Z_iload_n hC (dk d_X4_turns 34 rfl) 67 rfl rfl rfl ?_
          refine Z_icmp_ne hC (dk d_X4_turns 35 rfl) 70 74 rfl (by decide) (fun c => ?_) (fun c => ?_)
          · have h := it_f h c
            refine Z_iconst (v := 0) hC (dk d_X4_turns 38 rfl) 75 rfl (by decide) ?_
            refine Z_iconst (v := 1) hC (dk d_X4_turns 39 rfl) 76 rfl (by decide) ?_
            obtain ⟨q9, hq9, h⟩ := bd_some h
            refine K_X4_230 [vi (0 : Int32), vi (1 : Int32)] hC m_0 (s_X4_tellFraction (xG x) (xl x) N (0 : Int32) (1 : Int32) q8.2 q9 hq9) (Nat.le_of_ble_eq_true rfl) rfl rfl rfl (Nat.le_of_ble_eq_true rfl) (dk d_X4_turns 40 rfl) 79 rfl ?_
            refine Z_iconst (v := 1) hC (dk d_X4_turns 41 rfl) 80 rfl (by decide) ?_
            obtain rfl := Option.some.inj h
            exact Z_ireturn (st := []) hC hr hQ (dk d_X4_turns 42 rfl)
          · have h := it_t h c
            refine Z_iconst (v := 1) hC (dk d_X4_turns 36 rfl) 71 rfl (by decide) ?_
            refine Z_goto hC (dk d_X4_turns 37 rfl) 75 (by decide) ?_
            refine Z_iconst (v := 1) hC (dk d_X4_turns 39 rfl) 76 rfl (by decide) ?_
            obtain ⟨q10, hq10, h⟩ := bd_some h
            refine K_X4_230 [vi (1 : Int32), vi (1 : Int32)] hC m_0 (s_X4_tellFraction (xG x) (xl x) N (1 : Int32) (1 : Int32) q8.2 q10 hq10) (Nat.le_of_ble_eq_true rfl) rfl rfl rfl (Nat.le_of_ble_eq_true rfl) (dk d_X4_turns 40 rfl) 79 rfl ?_
            refine Z_iconst (v := 1) hC (dk d_X4_turns 41 rfl) 80 rfl (by decide) ?_
            obtain rfl := Option.some.inj h
            exact Z_ireturn (st := []) hC hr hQ (dk d_X4_turns 42 rfl)
      · have h := it_t h c
        refine Z_aload_n hC (dk d_X4_turns 21 rfl) 44 rfl rfl rfl ?_
        refine Z_iconst (v := 4) hC (dk d_X4_turns 22 rfl) 45 rfl (by decide) ?_
        obtain ⟨q11, hq11, h⟩ := bd_some h
        refine K_X4_74 [vi (4 : Int32)] hC m_0 (s_X4_refuse (xG x) (xl x) N (4 : Int32) q5.2 q11 hq11) (Nat.le_of_ble_eq_true rfl) rfl rfl rfl (Nat.le_of_ble_eq_true rfl) (dk d_X4_turns 23 rfl) 48 rfl ?_
        obtain rfl := Option.some.inj h
        exact Z_ireturn (st := []) hC hr hQ (dk d_X4_turns 24 rfl)
    · have h := it_t h c
      refine Z_iconst (v := -1) hC (dk d_X4_turns 8 rfl) 17 rfl (by decide) ?_
      obtain rfl := Option.some.inj h
      exact Z_ireturn (st := []) hC hr hQ (dk d_X4_turns 9 rfl)
def t_X4_alike : List (Nat × Instr × Nat) := [(0, .aload_n 0, 1), (1, .iload_n 1, 1), (2, .invokevirtual 135, 3), (5, .ifCond .eq 11, 3), (8, .aload_n 0, 1), (9, .iload_n 2, 1), (10, .invokevirtual 135, 3), (13, .ifCond .ne 5, 3), (16, .iconst (-1), 1), (17, .ireturn, 1), (18, .aload_n 0, 1), (19, .invokevirtual 183, 3), (22, .aload_n 0, 1), (23, .getfield 36, 3), (26, .aload_n 0, 1), (27, .getfield 126, 3), (30, .aload_n 0, 1), (31, .getfield 129, 3), (34, .invokestatic 217, 3), (37, .invokevirtual 223, 3), (40, .istore_n 3, 1), (41, .iload_n 3, 1), (42, .ifCond .ne 9, 3), (45, .aload_n 0, 1), (46, .iconst 4, 1), (47, .invokevirtual 74, 3), (50, .ireturn, 1), (51, .iconst 0, 1), (52, .istore 4, 2), (54, .iconst 0, 1), (55, .istore 5, 2), (57, .iload 5, 2), (59, .aload_n 0, 1), (60, .getfield 36, 3), (63, .getfield 186, 3), (66, .if_icmp .ge 53, 3), (69, .aload_n 0, 1), (70, .getfield 36, 3), (73, .iload 5, 2), (75, .aload_n 0, 1), (76, .getfield 126, 3), (79, .aload_n 0, 1), (80, .getfield 129, 3), (83, .invokestatic 217, 3), (86, .invokevirtual 238, 3), (89, .ifCond .eq 24, 3), (92, .aload_n 0, 1), (93, .getfield 36, 3), (96, .getfield 189, 3), (99, .iload 5, 2), (101, .iaload, 1), (102, .iload_n 1, 1), (103, .invokestatic 220, 3), (106, .iload_n 2, 1), (107, .if_icmp .ne 6, 3), (110, .iinc 4 1, 3), (113, .iinc 5 1, 3), (116, .goto (-59), 3), (119, .aload_n 0, 1), (120, .iload 4, 2), (122, .iload_n 3, 1), (123, .invokevirtual 230, 3), (126, .iconst 1, 1), (127, .ireturn, 1)]
set_option maxRecDepth 20000 in
theorem d_X4_alike : ∀ q ∈ t_X4_alike, decode cX4_alike q.1 = .ok q.2 := by decide +kernel
noncomputable def X4_alike_L1 (N : Nat) (x1 : Int32) (x2 : Int32) (x3 : Int32) : Nat → Int32 → Int32 → Wd → Option (Int32 × Wd)
  | 0, _, _, _ => none
  | n + 1, x4, x5, w =>
  if (gI w 201 0) ≤ x5 then
    some (x4, w)
  else
    (f_X4_firstOnes N (gI w 407 0) w).bind (fun q6 =>
      (f_X2_fitsAt N 0 x5 (gI w 406 0) q6.1 q6.2).bind (fun q7 =>
        if q7.1 = 0 then
          X4_alike_L1 N x1 x2 x3 n x4 (x5 + (1 : Int32)) q7.2
        else
          gd (vp_in x5 265) (
          (f_X4_paper N (gA q7.2 20 0 x5.toNatClampNeg) x1 q7.2).bind (fun q9 =>
            if q9.1 = x2 then
              X4_alike_L1 N x1 x2 x3 n (x4 + (1 : Int32)) (x5 + (1 : Int32)) q9.2
            else
              X4_alike_L1 N x1 x2 x3 n x4 (x5 + (1 : Int32)) q9.2))))
set_option maxRecDepth 20000 in
set_option maxHeartbeats 4000000 in
theorem z_X4_alike_L1 {x : CX} (hC : Cx x RX4 cX4_alike 6 14) (hr : (xM x).sig.returnType = (some .int)) (N : Nat) (x1 : Int32) (x2 : Int32) (x3 : Int32) : ∀ (n : Nat) (x4 : Int32) (x5 : Int32) (w : Wd) (q : (Int32 × Wd)), X4_alike_L1 N x1 x2 x3 n x4 x5 w = some q → Z x 119 [some (vr 0 0), none, none, some (vi x3), some (vi q.1), none] [] q.2 → Z x 57 [some (vr 0 0), some (vi x1), some (vi x2), some (vi x3), some (vi x4), some (vi x5)] [] w := by
  intro n
  induction n with
  | zero =>
    intro x4 x5 w q h
    cases h
  | succ n ih =>
    intro x4 x5 w q h ke
    rw [X4_alike_L1] at h
    refine Z_iload hC (dk d_X4_alike 31 rfl) 59 rfl rfl ?_
    refine Z_aload_n hC (dk d_X4_alike 32 rfl) 60 rfl rfl rfl ?_
    refine G_X4_36 hC m_0 (dk d_X4_alike 33 rfl) 63 rfl ?_
    refine G_X4_186 hC (m_4 (by decide)) (dk d_X4_alike 34 rfl) 66 rfl ?_
    refine Z_icmp_ge hC (dk d_X4_alike 35 rfl) 69 119 rfl (by decide) (fun c => ?_) (fun c => ?_)
    · have h := it_t h c
      obtain rfl := Option.some.inj h
      refine Z_wk [true, false, false, true, true, false] [some (vr 0 0), none, none, some (vi x3), some (vi x4), none] rfl ?_
      exact ke
    · have h := it_f h c
      refine Z_aload_n hC (dk d_X4_alike 36 rfl) 70 rfl rfl rfl ?_
      refine G_X4_36 hC m_0 (dk d_X4_alike 37 rfl) 73 rfl ?_
      refine Z_iload hC (dk d_X4_alike 38 rfl) 75 rfl rfl ?_
      refine Z_aload_n hC (dk d_X4_alike 39 rfl) 76 rfl rfl rfl ?_
      refine G_X4_126 hC m_0 (dk d_X4_alike 40 rfl) 79 rfl ?_
      refine Z_aload_n hC (dk d_X4_alike 41 rfl) 80 rfl rfl rfl ?_
      refine G_X4_129 hC m_0 (dk d_X4_alike 42 rfl) 83 rfl ?_
      obtain ⟨q6, hq6, h⟩ := bd_some h
      refine K_X4_217 [vi (gI w 407 0)] hC (s_X4_firstOnes (xG x) (xl x) N (gI w 407 0) w q6 hq6) (Nat.le_of_ble_eq_true rfl) rfl rfl rfl (Nat.le_of_ble_eq_true rfl) (dk d_X4_alike 43 rfl) 86 rfl ?_
      obtain ⟨q7, hq7, h⟩ := bd_some h
      refine K_X4_238 [vi x5, vi (gI w 406 0), vi q6.1] hC (m_4 (by decide)) (s_X2_fitsAt (xG x) (xl x) N 0 (by decide) x5 (gI w 406 0) q6.1 q6.2 q7 hq7) (Nat.le_of_ble_eq_true rfl) rfl rfl rfl (Nat.le_of_ble_eq_true rfl) (dk d_X4_alike 44 rfl) 89 rfl ?_
      refine Z_if_eq hC (dk d_X4_alike 45 rfl) 92 113 rfl (by decide) (fun c => ?_) (fun c => ?_)
      · have h := it_t h c
        refine Z_iinc hC (dk d_X4_alike 56 rfl) 116 rfl rfl rfl [some (vr 0 0), some (vi x1), some (vi x2), some (vi x3), some (vi x4), some (vi (x5 + (1 : Int32)))] rfl ?_
        refine Z_goto hC (dk d_X4_alike 57 rfl) 57 (by decide) ?_
        refine Z_wk [true, true, true, true, true, true] [some (vr 0 0), some (vi x1), some (vi x2), some (vi x3), some (vi x4), some (vi (x5 + (1 : Int32)))] rfl ?_
        exact ih x4 (x5 + (1 : Int32)) q7.2 _ h ke
      · have h := it_f h c
        refine Z_aload_n hC (dk d_X4_alike 46 rfl) 93 rfl rfl rfl ?_
        refine G_X4_36 hC m_0 (dk d_X4_alike 47 rfl) 96 rfl ?_
        refine G_X4_189 hC (m_4 (by decide)) (dk d_X4_alike 48 rfl) 99 rfl ?_
        refine Z_iload hC (dk d_X4_alike 49 rfl) 101 rfl rfl ?_
        obtain ⟨g8, h⟩ := gd_some h
        refine Z_iaload hC (m_20 (by decide)) (by decide) rfl g8 (dk d_X4_alike 50 rfl) 102 rfl ?_
        refine Z_iload_n hC (dk d_X4_alike 51 rfl) 103 rfl rfl rfl ?_
        obtain ⟨q9, hq9, h⟩ := bd_some h
        refine K_X4_220 [vi (gA q7.2 20 0 x5.toNatClampNeg), vi x1] hC (s_X4_paper (xG x) (xl x) N (gA q7.2 20 0 x5.toNatClampNeg) x1 q7.2 q9 hq9) (Nat.le_of_ble_eq_true rfl) rfl rfl rfl (Nat.le_of_ble_eq_true rfl) (dk d_X4_alike 52 rfl) 106 rfl ?_
        refine Z_iload_n hC (dk d_X4_alike 53 rfl) 107 rfl rfl rfl ?_
        refine Z_icmp_ne hC (dk d_X4_alike 54 rfl) 110 113 rfl (by decide) (fun c => ?_) (fun c => ?_)
        · have h := it_f h c
          refine Z_iinc hC (dk d_X4_alike 56 rfl) 116 rfl rfl rfl [some (vr 0 0), some (vi x1), some (vi x2), some (vi x3), some (vi x4), some (vi (x5 + (1 : Int32)))] rfl ?_
          refine Z_goto hC (dk d_X4_alike 57 rfl) 57 (by decide) ?_
          refine Z_wk [true, true, true, true, true, true] [some (vr 0 0), some (vi x1), some (vi x2), some (vi x3), some (vi x4), some (vi (x5 + (1 : Int32)))] rfl ?_
          exact ih x4 (x5 + (1 : Int32)) q9.2 _ h ke
        · have h := it_t h c
          refine Z_iinc hC (dk d_X4_alike 55 rfl) 113 rfl rfl rfl [some (vr 0 0), some (vi x1), some (vi x2), some (vi x3), some (vi (x4 + (1 : Int32))), some (vi x5)] rfl ?_
          refine Z_iinc hC (dk d_X4_alike 56 rfl) 116 rfl rfl rfl [some (vr 0 0), some (vi x1), some (vi x2), some (vi x3), some (vi (x4 + (1 : Int32))), some (vi (x5 + (1 : Int32)))] rfl ?_
          refine Z_goto hC (dk d_X4_alike 57 rfl) 57 (by decide) ?_
          refine Z_wk [true, true, true, true, true, true] [some (vr 0 0), some (vi x1), some (vi x2), some (vi x3), some (vi (x4 + (1 : Int32))), some (vi (x5 + (1 : Int32)))] rfl ?_
          exact ih (x4 + (1 : Int32)) (x5 + (1 : Int32)) q9.2 _ h ke
noncomputable def f_X4_alike (N : Nat) (a1 : Int32) (a2 : Int32) (w : Wd) : Option (Int32 × Wd) :=
  (f_X4_isMate N a1 w).bind (fun q1 =>
    if q1.1 = 0 then
      some ((-1 : Int32), q1.2)
    else
      (f_X4_isMate N a2 q1.2).bind (fun q2 =>
        if q2.1 = 0 then
          some ((-1 : Int32), q2.2)
        else
          (f_X4_listRight N q2.2).bind (fun q3 =>
            (f_X4_firstOnes N (gI q3 407 0) q3).bind (fun q4 =>
              (f_X2_fitting N 0 (gI q3 406 0) q4.1 q4.2).bind (fun q5 =>
                if q5.1 = 0 then
                  (f_X4_refuse N (4 : Int32) q5.2).bind (fun q12 =>
                    some (q12.1, q12.2))
                else
                  (X4_alike_L1 N a1 a2 q5.1 N (0 : Int32) (0 : Int32) q5.2).bind (fun q10 =>
                    (f_X4_tellFraction N q10.1 q5.1 q10.2).bind (fun q11 =>
                      some ((1 : Int32), q11))))))))
set_option maxRecDepth 20000 in
set_option maxHeartbeats 4000000 in
theorem s_X4_alike (G : GT) (l : Launch) (N : Nat) (a1 : Int32) (a2 : Int32) (w : Wd) (q : Int32 × Wd) (h : f_X4_alike N a1 a2 w = some q) : Sp G l yX4_alike cw_X4_alike 14 [vr 0 0, vi a1, vi a2] w (some (vi q.1)) q.2 := by
  refine Sp_of (own := RX4) [some (vr 0 0), some (vi a1), some (vi a2), none, none, none] (by decide) rfl rfl (Nat.le_of_ble_eq_true rfl) ?_
  intro x hG hl hC hr hQ _ _
  subst hG
  subst hl
  unfold f_X4_alike at h
  refine Z_aload_n hC (dk d_X4_alike 0 rfl) 1 rfl rfl rfl ?_
  refine Z_iload_n hC (dk d_X4_alike 1 rfl) 2 rfl rfl rfl ?_
  obtain ⟨q1, hq1, h⟩ := bd_some h
  refine K_X4_135 [vi a1] hC m_0 (s_X4_isMate (xG x) (xl x) N a1 w q1 hq1) (Nat.le_of_ble_eq_true rfl) rfl rfl rfl (Nat.le_of_ble_eq_true rfl) (dk d_X4_alike 2 rfl) 5 rfl ?_
  refine Z_if_eq hC (dk d_X4_alike 3 rfl) 8 16 rfl (by decide) (fun c => ?_) (fun c => ?_)
  · have h := it_t h c
    refine Z_iconst (v := -1) hC (dk d_X4_alike 8 rfl) 17 rfl (by decide) ?_
    obtain rfl := Option.some.inj h
    exact Z_ireturn (st := []) hC hr hQ (dk d_X4_alike 9 rfl)
  · have h := it_f h c
    refine Z_aload_n hC (dk d_X4_alike 4 rfl) 9 rfl rfl rfl ?_
    refine Z_iload_n hC (dk d_X4_alike 5 rfl) 10 rfl rfl rfl ?_
    obtain ⟨q2, hq2, h⟩ := bd_some h
    refine K_X4_135 [vi a2] hC m_0 (s_X4_isMate (xG x) (xl x) N a2 q1.2 q2 hq2) (Nat.le_of_ble_eq_true rfl) rfl rfl rfl (Nat.le_of_ble_eq_true rfl) (dk d_X4_alike 6 rfl) 13 rfl ?_
    refine Z_if_ne hC (dk d_X4_alike 7 rfl) 16 18 rfl (by decide) (fun c => ?_) (fun c => ?_)
    · have h := it_f h c
      refine Z_aload_n hC (dk d_X4_alike 10 rfl) 19 rfl rfl rfl ?_
      obtain ⟨q3, hq3, h⟩ := bd_some h
      refine K_X4_183 [] hC m_0 (s_X4_listRight (xG x) (xl x) N q2.2 q3 hq3) (Nat.le_of_ble_eq_true rfl) rfl rfl rfl (Nat.le_of_ble_eq_true rfl) (dk d_X4_alike 11 rfl) 22 rfl ?_
      refine Z_aload_n hC (dk d_X4_alike 12 rfl) 23 rfl rfl rfl ?_
      refine G_X4_36 hC m_0 (dk d_X4_alike 13 rfl) 26 rfl ?_
      refine Z_aload_n hC (dk d_X4_alike 14 rfl) 27 rfl rfl rfl ?_
      refine G_X4_126 hC m_0 (dk d_X4_alike 15 rfl) 30 rfl ?_
      refine Z_aload_n hC (dk d_X4_alike 16 rfl) 31 rfl rfl rfl ?_
      refine G_X4_129 hC m_0 (dk d_X4_alike 17 rfl) 34 rfl ?_
      obtain ⟨q4, hq4, h⟩ := bd_some h
      refine K_X4_217 [vi (gI q3 407 0)] hC (s_X4_firstOnes (xG x) (xl x) N (gI q3 407 0) q3 q4 hq4) (Nat.le_of_ble_eq_true rfl) rfl rfl rfl (Nat.le_of_ble_eq_true rfl) (dk d_X4_alike 18 rfl) 37 rfl ?_
      obtain ⟨q5, hq5, h⟩ := bd_some h
      refine K_X4_223 [vi (gI q3 406 0), vi q4.1] hC (m_4 (by decide)) (s_X2_fitting (xG x) (xl x) N 0 (by decide) (gI q3 406 0) q4.1 q4.2 q5 hq5) (Nat.le_of_ble_eq_true rfl) rfl rfl rfl (Nat.le_of_ble_eq_true rfl) (dk d_X4_alike 19 rfl) 40 rfl ?_
      refine Z_istore_n hC (dk d_X4_alike 20 rfl) 41 rfl rfl (Nat.le_of_ble_eq_true rfl) [some (vr 0 0), some (vi a1), some (vi a2), some (vi q5.1), none, none] rfl ?_
      refine Z_iload_n hC (dk d_X4_alike 21 rfl) 42 rfl rfl rfl ?_
      refine Z_if_ne hC (dk d_X4_alike 22 rfl) 45 51 rfl (by decide) (fun c => ?_) (fun c => ?_)
      · have h := it_f h c
        refine Z_iconst (v := 0) hC (dk d_X4_alike 27 rfl) 52 rfl (by decide) ?_
        refine Z_istore hC (dk d_X4_alike 28 rfl) 54 rfl (Nat.le_of_ble_eq_true rfl) [some (vr 0 0), some (vi a1), some (vi a2), some (vi q5.1), some (vi (0 : Int32)), none] rfl ?_
        refine Z_iconst (v := 0) hC (dk d_X4_alike 29 rfl) 55 rfl (by decide) ?_
        refine Z_istore hC (dk d_X4_alike 30 rfl) 57 rfl (Nat.le_of_ble_eq_true rfl) [some (vr 0 0), some (vi a1), some (vi a2), some (vi q5.1), some (vi (0 : Int32)), some (vi (0 : Int32))] rfl ?_
        obtain ⟨q10, hq10, h⟩ := bd_some h
        refine Z_wk [true, true, true, true, true, true] [some (vr 0 0), some (vi a1), some (vi a2), some (vi q5.1), some (vi (0 : Int32)), some (vi (0 : Int32))] rfl ?_
        refine z_X4_alike_L1 hC hr N a1 a2 q5.1 N (0 : Int32) (0 : Int32) q5.2 q10 hq10 ?_
        refine Z_aload_n hC (dk d_X4_alike 58 rfl) 120 rfl rfl rfl ?_
        refine Z_iload hC (dk d_X4_alike 59 rfl) 122 rfl rfl ?_
        refine Z_iload_n hC (dk d_X4_alike 60 rfl) 123 rfl rfl rfl ?_
        obtain ⟨q11, hq11, h⟩ := bd_some h
        refine K_X4_230 [vi q10.1, vi q5.1] hC m_0 (s_X4_tellFraction (xG x) (xl x) N q10.1 q5.1 q10.2 q11 hq11) (Nat.le_of_ble_eq_true rfl) rfl rfl rfl (Nat.le_of_ble_eq_true rfl) (dk d_X4_alike 61 rfl) 126 rfl ?_
        refine Z_iconst (v := 1) hC (dk d_X4_alike 62 rfl) 127 rfl (by decide) ?_
        obtain rfl := Option.some.inj h
        exact Z_ireturn (st := []) hC hr hQ (dk d_X4_alike 63 rfl)
      · have h := it_t h c
        refine Z_aload_n hC (dk d_X4_alike 23 rfl) 46 rfl rfl rfl ?_
        refine Z_iconst (v := 4) hC (dk d_X4_alike 24 rfl) 47 rfl (by decide) ?_
        obtain ⟨q12, hq12, h⟩ := bd_some h
        refine K_X4_74 [vi (4 : Int32)] hC m_0 (s_X4_refuse (xG x) (xl x) N (4 : Int32) q5.2 q12 hq12) (Nat.le_of_ble_eq_true rfl) rfl rfl rfl (Nat.le_of_ble_eq_true rfl) (dk d_X4_alike 25 rfl) 50 rfl ?_
        obtain rfl := Option.some.inj h
        exact Z_ireturn (st := []) hC hr hQ (dk d_X4_alike 26 rfl)
    · have h := it_t h c
      refine Z_iconst (v := -1) hC (dk d_X4_alike 8 rfl) 17 rfl (by decide) ?_
      obtain rfl := Option.some.inj h
      exact Z_ireturn (st := []) hC hr hQ (dk d_X4_alike 9 rfl)
def t_X4_bitNumber : List (Nat × Instr × Nat) := [(0, .iload_n 1, 1), (1, .istore_n 2, 1), (2, .iconst 0, 1), (3, .istore_n 3, 1), (4, .iload_n 3, 1), (5, .bipush 6, 2), (7, .if_icmp .ge 26, 3), (10, .iload_n 0, 1), (11, .iload_n 3, 1), (12, .ishr, 1), (13, .iconst 1, 1), (14, .iand, 1), (15, .ifCond .eq 12, 3), (18, .iload_n 2, 1), (19, .ifCond .ne 5, 3), (22, .iload_n 3, 1), (23, .ireturn, 1), (24, .iinc 2 (-1), 3), (27, .iinc 3 1, 3), (30, .goto (-26), 3), (33, .iconst 0, 1), (34, .ireturn, 1)]
set_option maxRecDepth 20000 in
theorem d_X4_bitNumber : ∀ q ∈ t_X4_bitNumber, decode cX4_bitNumber q.1 = .ok q.2 := by decide +kernel
noncomputable def X4_bitNumber_L1 (N : Nat) (x0 : Int32) : Nat → Int32 → Int32 → Wd → Option ((Int32 × Wd) ⊕ (Wd))
  | 0, _, _, _ => none
  | n + 1, x2, x3, w =>
  if (6 : Int32) ≤ x3 then
    some (.inr w)
  else
    if ((x0 >>> (x3 &&& (31 : Int32))) &&& (1 : Int32)) = 0 then
      X4_bitNumber_L1 N x0 n x2 (x3 + (1 : Int32)) w
    else
      if x2 = 0 then
        some (.inl (x3, w))
      else
        X4_bitNumber_L1 N x0 n (x2 + (-1 : Int32)) (x3 + (1 : Int32)) w
set_option maxRecDepth 20000 in
set_option maxHeartbeats 4000000 in
theorem z_X4_bitNumber_L1 {x : CX} (hC : Cx x RX4 cX4_bitNumber 4 0) (hr : (xM x).sig.returnType = (some .int)) (N : Nat) (x0 : Int32) : ∀ (n : Nat) (x2 : Int32) (x3 : Int32) (w : Wd) (q : ((Int32 × Wd) ⊕ (Wd))), X4_bitNumber_L1 N x0 n x2 x3 w = some q → (∀ r : Int32 × Wd, q = .inl r → Rt x (some (vi r.1)) r.2) → (∀ o : Wd, q = .inr o → Z x 33 [none, none, none, none] [] o) → Z x 4 [some (vi x0), none, some (vi x2), some (vi x3)] [] w := by
  intro n
  induction n with
  | zero =>
    intro x2 x3 w q h
    cases h
  | succ n ih =>
    intro x2 x3 w q h kr ke
    rw [X4_bitNumber_L1] at h
    refine Z_iload_n hC (dk d_X4_bitNumber 4 rfl) 5 rfl rfl rfl ?_
    refine Z_bipush (v := 6) hC (dk d_X4_bitNumber 5 rfl) 7 rfl (by decide) ?_
    refine Z_icmp_ge hC (dk d_X4_bitNumber 6 rfl) 10 33 rfl (by decide) (fun c => ?_) (fun c => ?_)
    · have h := it_t h c
      obtain rfl := Option.some.inj h
      refine Z_wk [false, false, false, false] [none, none, none, none] rfl ?_
      exact ke _ rfl
    · have h := it_f h c
      refine Z_iload_n hC (dk d_X4_bitNumber 7 rfl) 11 rfl rfl rfl ?_
      refine Z_iload_n hC (dk d_X4_bitNumber 8 rfl) 12 rfl rfl rfl ?_
      refine Z_ishr hC (dk d_X4_bitNumber 9 rfl) 13 rfl ?_
      refine Z_iconst (v := 1) hC (dk d_X4_bitNumber 10 rfl) 14 rfl (by decide) ?_
      refine Z_iand hC (dk d_X4_bitNumber 11 rfl) 15 rfl ?_
      refine Z_if_eq hC (dk d_X4_bitNumber 12 rfl) 18 27 rfl (by decide) (fun c => ?_) (fun c => ?_)
      · have h := it_t h c
        refine Z_iinc hC (dk d_X4_bitNumber 18 rfl) 30 rfl rfl rfl [some (vi x0), none, some (vi x2), some (vi (x3 + (1 : Int32)))] rfl ?_
        refine Z_goto hC (dk d_X4_bitNumber 19 rfl) 4 (by decide) ?_
        refine Z_wk [true, false, true, true] [some (vi x0), none, some (vi x2), some (vi (x3 + (1 : Int32)))] rfl ?_
        exact ih x2 (x3 + (1 : Int32)) w _ h kr ke
      · have h := it_f h c
        refine Z_iload_n hC (dk d_X4_bitNumber 13 rfl) 19 rfl rfl rfl ?_
        refine Z_if_ne hC (dk d_X4_bitNumber 14 rfl) 22 24 rfl (by decide) (fun c => ?_) (fun c => ?_)
        · have h := it_f h c
          refine Z_iinc hC (dk d_X4_bitNumber 17 rfl) 27 rfl rfl rfl [some (vi x0), none, some (vi (x2 + (-1 : Int32))), some (vi x3)] rfl ?_
          refine Z_iinc hC (dk d_X4_bitNumber 18 rfl) 30 rfl rfl rfl [some (vi x0), none, some (vi (x2 + (-1 : Int32))), some (vi (x3 + (1 : Int32)))] rfl ?_
          refine Z_goto hC (dk d_X4_bitNumber 19 rfl) 4 (by decide) ?_
          refine Z_wk [true, false, true, true] [some (vi x0), none, some (vi (x2 + (-1 : Int32))), some (vi (x3 + (1 : Int32)))] rfl ?_
          exact ih (x2 + (-1 : Int32)) (x3 + (1 : Int32)) w _ h kr ke
        · have h := it_t h c
          refine Z_iload_n hC (dk d_X4_bitNumber 15 rfl) 23 rfl rfl rfl ?_
          obtain rfl := Option.some.inj h
          exact Z_ireturn (st := []) hC hr (kr _ rfl) (dk d_X4_bitNumber 16 rfl)
noncomputable def f_X4_bitNumber (N : Nat) (a1 : Int32) (a2 : Int32) (w : Wd) : Option (Int32 × Wd) :=
  (X4_bitNumber_L1 N a1 N a2 (0 : Int32) w).bind (Sum.elim some (fun q1 =>
    some ((0 : Int32), q1)))
set_option maxRecDepth 20000 in
set_option maxHeartbeats 4000000 in
theorem s_X4_bitNumber (G : GT) (l : Launch) (N : Nat) (a1 : Int32) (a2 : Int32) (w : Wd) (q : Int32 × Wd) (h : f_X4_bitNumber N a1 a2 w = some q) : Sp G l yX4_bitNumber cw_X4_bitNumber 0 [vi a1, vi a2] w (some (vi q.1)) q.2 := by
  refine Sp_of (own := RX4) [some (vi a1), some (vi a2), none, none] (by decide) rfl rfl (Nat.le_of_ble_eq_true rfl) ?_
  intro x hG hl hC hr hQ _ _
  subst hG
  subst hl
  unfold f_X4_bitNumber at h
  refine Z_iload_n hC (dk d_X4_bitNumber 0 rfl) 1 rfl rfl rfl ?_
  refine Z_istore_n hC (dk d_X4_bitNumber 1 rfl) 2 rfl rfl (Nat.le_of_ble_eq_true rfl) [some (vi a1), some (vi a2), some (vi a2), none] rfl ?_
  refine Z_iconst (v := 0) hC (dk d_X4_bitNumber 2 rfl) 3 rfl (by decide) ?_
  refine Z_istore_n hC (dk d_X4_bitNumber 3 rfl) 4 rfl rfl (Nat.le_of_ble_eq_true rfl) [some (vi a1), some (vi a2), some (vi a2), some (vi (0 : Int32))] rfl ?_
  obtain ⟨q1, hq1, h⟩ := bd_some h
  refine Z_wk [true, false, true, true] [some (vi a1), none, some (vi a2), some (vi (0 : Int32))] rfl ?_
  refine z_X4_bitNumber_L1 hC hr N a1 N a2 (0 : Int32) w q1 hq1 (fun r e => ?_) (fun o e => ?_)
  · subst e
    obtain rfl := Option.some.inj h
    exact hQ
  · subst e
    obtain ⟨q1, rfl⟩ : ∃ z, z = o := ⟨_, rfl⟩
    refine Z_iconst (v := 0) hC (dk d_X4_bitNumber 20 rfl) 34 rfl (by decide) ?_
    obtain rfl := Option.some.inj h
    exact Z_ireturn (st := []) hC hr hQ (dk d_X4_bitNumber 21 rfl)
def t_X4_play : List (Nat × Instr × Nat) := [(0, .iload_n 1, 1), (1, .invokestatic 198, 3), (4, .ifCond .ne 5, 3), (7, .iconst (-1), 1), (8, .ireturn, 1), (9, .aload_n 0, 1), (10, .invokevirtual 183, 3), (13, .iload_n 1, 1), (14, .istore_n 2, 1), (15, .iconst 0, 1), (16, .istore_n 3, 1), (17, .iload_n 3, 1), (18, .bipush 6, 2), (20, .if_icmp .ge 48, 3), (23, .aload_n 0, 1), (24, .invokevirtual 226, 3), (27, .istore 4, 2), (29, .iload 4, 2), (31, .invokestatic 160, 3), (34, .istore 5, 2), (36, .iload 5, 2), (38, .ifCond .ne 6, 3), (41, .goto 27, 3), (44, .iload_n 2, 1), (45, .invokestatic 201, 3), (48, .istore_n 2, 1), (49, .aload_n 0, 1), (50, .iload 4, 2), (52, .iload_n 2, 1), (53, .iload 5, 2), (55, .irem, 1), (56, .invokestatic 241, 3), (59, .invokevirtual 213, 3), (62, .iinc 3 1, 3), (65, .goto (-48), 3), (68, .aload_n 0, 1), (69, .getfield 129, 3), (72, .ireturn, 1)]
set_option maxRecDepth 20000 in
theorem d_X4_play : ∀ q ∈ t_X4_play, decode cX4_play q.1 = .ok q.2 := by decide +kernel
noncomputable def X4_play_L1 (N : Nat) : Nat → Int32 → Int32 → Wd → Option ((Int32 × Wd) ⊕ (Wd))
  | 0, _, _, _ => none
  | n + 1, x2, x3, w =>
  if (6 : Int32) ≤ x3 then
    some (.inr w)
  else
    (f_X4_nextOpen N w).bind (fun q3 =>
      (f_J6_bitCount_0f7a4 N q3.1 q3.2).bind (fun q4 =>
        if q4.1 = 0 then
          some (.inr q4.2)
        else
          (f_X4_nextLot N x2 q4.2).bind (fun q5 =>
            gd (¬ q4.1 = 0) (
            (f_X4_bitNumber N q3.1 (q5.1 - q5.1 / q4.1 * q4.1) q5.2).bind (fun q7 =>
              (f_X4_takePaper N q7.1 q7.2).bind (fun q8 =>
                X4_play_L1 N n q5.1 (x3 + (1 : Int32)) q8))))))
set_option maxRecDepth 20000 in
set_option maxHeartbeats 4000000 in
theorem z_X4_play_L1 {x : CX} (hC : Cx x RX4 cX4_play 6 14) (hr : (xM x).sig.returnType = (some .int)) (N : Nat) : ∀ (n : Nat) (x2 : Int32) (x3 : Int32) (w : Wd) (q : ((Int32 × Wd) ⊕ (Wd))), X4_play_L1 N n x2 x3 w = some q → (∀ r : Int32 × Wd, q = .inl r → Rt x (some (vi r.1)) r.2) → (∀ o : Wd, q = .inr o → Z x 68 [some (vr 0 0), none, none, none, none, none] [] o) → Z x 17 [some (vr 0 0), none, some (vi x2), some (vi x3), none, none] [] w := by
  intro n
  induction n with
  | zero =>
    intro x2 x3 w q h
    cases h
  | succ n ih =>
    intro x2 x3 w q h kr ke
    rw [X4_play_L1] at h
    refine Z_iload_n hC (dk d_X4_play 11 rfl) 18 rfl rfl rfl ?_
    refine Z_bipush (v := 6) hC (dk d_X4_play 12 rfl) 20 rfl (by decide) ?_
    refine Z_icmp_ge hC (dk d_X4_play 13 rfl) 23 68 rfl (by decide) (fun c => ?_) (fun c => ?_)
    · have h := it_t h c
      obtain rfl := Option.some.inj h
      refine Z_wk [true, false, false, false, false, false] [some (vr 0 0), none, none, none, none, none] rfl ?_
      exact ke _ rfl
    · have h := it_f h c
      refine Z_aload_n hC (dk d_X4_play 14 rfl) 24 rfl rfl rfl ?_
      obtain ⟨q3, hq3, h⟩ := bd_some h
      refine K_X4_226 [] hC m_0 (s_X4_nextOpen (xG x) (xl x) N w q3 hq3) (Nat.le_of_ble_eq_true rfl) rfl rfl rfl (Nat.le_of_ble_eq_true rfl) (dk d_X4_play 15 rfl) 27 rfl ?_
      refine Z_istore hC (dk d_X4_play 16 rfl) 29 rfl (Nat.le_of_ble_eq_true rfl) [some (vr 0 0), none, some (vi x2), some (vi x3), some (vi q3.1), none] rfl ?_
      refine Z_iload hC (dk d_X4_play 17 rfl) 31 rfl rfl ?_
      obtain ⟨q4, hq4, h⟩ := bd_some h
      refine K_X4_160 [vi q3.1] hC (s_J6_bitCount_0f7a4 (xG x) (xl x) N q3.1 q3.2 q4 hq4) (Nat.le_of_ble_eq_true rfl) rfl rfl rfl (Nat.le_of_ble_eq_true rfl) (dk d_X4_play 18 rfl) 34 rfl ?_
      refine Z_istore hC (dk d_X4_play 19 rfl) 36 rfl (Nat.le_of_ble_eq_true rfl) [some (vr 0 0), none, some (vi x2), some (vi x3), some (vi q3.1), some (vi q4.1)] rfl ?_
      refine Z_iload hC (dk d_X4_play 20 rfl) 38 rfl rfl ?_
      refine Z_if_ne hC (dk d_X4_play 21 rfl) 41 44 rfl (by decide) (fun c => ?_) (fun c => ?_)
      · have h := it_f h c
        refine Z_iload_n hC (dk d_X4_play 23 rfl) 45 rfl rfl rfl ?_
        obtain ⟨q5, hq5, h⟩ := bd_some h
        refine K_X4_201 [vi x2] hC (s_X4_nextLot (xG x) (xl x) N x2 q4.2 q5 hq5) (Nat.le_of_ble_eq_true rfl) rfl rfl rfl (Nat.le_of_ble_eq_true rfl) (dk d_X4_play 24 rfl) 48 rfl ?_
        refine Z_istore_n hC (dk d_X4_play 25 rfl) 49 rfl rfl (Nat.le_of_ble_eq_true rfl) [some (vr 0 0), none, some (vi q5.1), some (vi x3), some (vi q3.1), some (vi q4.1)] rfl ?_
        refine Z_aload_n hC (dk d_X4_play 26 rfl) 50 rfl rfl rfl ?_
        refine Z_iload hC (dk d_X4_play 27 rfl) 52 rfl rfl ?_
        refine Z_iload_n hC (dk d_X4_play 28 rfl) 53 rfl rfl rfl ?_
        refine Z_iload hC (dk d_X4_play 29 rfl) 55 rfl rfl ?_
        obtain ⟨g6, h⟩ := gd_some h
        refine Z_irem hC (dk d_X4_play 30 rfl) 56 rfl g6 ?_
        obtain ⟨q7, hq7, h⟩ := bd_some h
        refine K_X4_241 [vi q3.1, vi (q5.1 - q5.1 / q4.1 * q4.1)] hC (s_X4_bitNumber (xG x) (xl x) N q3.1 (q5.1 - q5.1 / q4.1 * q4.1) q5.2 q7 hq7) (Nat.le_of_ble_eq_true rfl) rfl rfl rfl (Nat.le_of_ble_eq_true rfl) (dk d_X4_play 31 rfl) 59 rfl ?_
        obtain ⟨q8, hq8, h⟩ := bd_some h
        refine K_X4_213 [vi q7.1] hC m_0 (s_X4_takePaper (xG x) (xl x) N q7.1 q7.2 q8 hq8) (Nat.le_of_ble_eq_true rfl) rfl rfl rfl (Nat.le_of_ble_eq_true rfl) (dk d_X4_play 32 rfl) 62 rfl ?_
        refine Z_iinc hC (dk d_X4_play 33 rfl) 65 rfl rfl rfl [some (vr 0 0), none, some (vi q5.1), some (vi (x3 + (1 : Int32))), some (vi q3.1), some (vi q4.1)] rfl ?_
        refine Z_goto hC (dk d_X4_play 34 rfl) 17 (by decide) ?_
        refine Z_wk [true, false, true, true, false, false] [some (vr 0 0), none, some (vi q5.1), some (vi (x3 + (1 : Int32))), none, none] rfl ?_
        exact ih q5.1 (x3 + (1 : Int32)) q8 _ h kr ke
      · have h := it_t h c
        refine Z_goto hC (dk d_X4_play 22 rfl) 68 (by decide) ?_
        obtain rfl := Option.some.inj h
        refine Z_wk [true, false, false, false, false, false] [some (vr 0 0), none, none, none, none, none] rfl ?_
        exact ke _ rfl
noncomputable def f_X4_play (N : Nat) (a1 : Int32) (w : Wd) : Option (Int32 × Wd) :=
  (f_X4_isSeed N a1 w).bind (fun q1 =>
    if q1.1 = 0 then
      some ((-1 : Int32), q1.2)
    else
      (f_X4_listRight N q1.2).bind (fun q2 =>
        (X4_play_L1 N N a1 (0 : Int32) q2).bind (Sum.elim some (fun q9 =>
          some (gI q9 407 0, q9)))))
set_option maxRecDepth 20000 in
set_option maxHeartbeats 4000000 in
theorem s_X4_play (G : GT) (l : Launch) (N : Nat) (a1 : Int32) (w : Wd) (q : Int32 × Wd) (h : f_X4_play N a1 w = some q) : Sp G l yX4_play cw_X4_play 14 [vr 0 0, vi a1] w (some (vi q.1)) q.2 := by
  refine Sp_of (own := RX4) [some (vr 0 0), some (vi a1), none, none, none, none] (by decide) rfl rfl (Nat.le_of_ble_eq_true rfl) ?_
  intro x hG hl hC hr hQ _ _
  subst hG
  subst hl
  unfold f_X4_play at h
  refine Z_iload_n hC (dk d_X4_play 0 rfl) 1 rfl rfl rfl ?_
  obtain ⟨q1, hq1, h⟩ := bd_some h
  refine K_X4_198 [vi a1] hC (s_X4_isSeed (xG x) (xl x) N a1 w q1 hq1) (Nat.le_of_ble_eq_true rfl) rfl rfl rfl (Nat.le_of_ble_eq_true rfl) (dk d_X4_play 1 rfl) 4 rfl ?_
  refine Z_if_ne hC (dk d_X4_play 2 rfl) 7 9 rfl (by decide) (fun c => ?_) (fun c => ?_)
  · have h := it_f h c
    refine Z_aload_n hC (dk d_X4_play 5 rfl) 10 rfl rfl rfl ?_
    obtain ⟨q2, hq2, h⟩ := bd_some h
    refine K_X4_183 [] hC m_0 (s_X4_listRight (xG x) (xl x) N q1.2 q2 hq2) (Nat.le_of_ble_eq_true rfl) rfl rfl rfl (Nat.le_of_ble_eq_true rfl) (dk d_X4_play 6 rfl) 13 rfl ?_
    refine Z_iload_n hC (dk d_X4_play 7 rfl) 14 rfl rfl rfl ?_
    refine Z_istore_n hC (dk d_X4_play 8 rfl) 15 rfl rfl (Nat.le_of_ble_eq_true rfl) [some (vr 0 0), some (vi a1), some (vi a1), none, none, none] rfl ?_
    refine Z_iconst (v := 0) hC (dk d_X4_play 9 rfl) 16 rfl (by decide) ?_
    refine Z_istore_n hC (dk d_X4_play 10 rfl) 17 rfl rfl (Nat.le_of_ble_eq_true rfl) [some (vr 0 0), some (vi a1), some (vi a1), some (vi (0 : Int32)), none, none] rfl ?_
    obtain ⟨q9, hq9, h⟩ := bd_some h
    refine Z_wk [true, false, true, true, false, false] [some (vr 0 0), none, some (vi a1), some (vi (0 : Int32)), none, none] rfl ?_
    refine z_X4_play_L1 hC hr N N a1 (0 : Int32) q2 q9 hq9 (fun r e => ?_) (fun o e => ?_)
    · subst e
      obtain rfl := Option.some.inj h
      exact hQ
    · subst e
      obtain ⟨q9, rfl⟩ : ∃ z, z = o := ⟨_, rfl⟩
      refine Z_aload_n hC (dk d_X4_play 35 rfl) 69 rfl rfl rfl ?_
      refine G_X4_129 hC m_0 (dk d_X4_play 36 rfl) 72 rfl ?_
      obtain rfl := Option.some.inj h
      exact Z_ireturn (st := []) hC hr hQ (dk d_X4_play 37 rfl)
  · have h := it_t h c
    refine Z_iconst (v := -1) hC (dk d_X4_play 3 rfl) 8 rfl (by decide) ?_
    obtain rfl := Option.some.inj h
    exact Z_ireturn (st := []) hC hr hQ (dk d_X4_play 4 rfl)
def t_X4_isKeptPlace : List (Nat × Instr × Nat) := [(0, .iload_n 0, 1), (1, .ifCond .lt 12, 3), (4, .iload_n 0, 1), (5, .iconst 3, 1), (6, .if_icmp .ge 7, 3), (9, .iconst 1, 1), (10, .goto 4, 3), (13, .iconst 0, 1), (14, .ireturn, 1)]
set_option maxRecDepth 20000 in
theorem d_X4_isKeptPlace : ∀ q ∈ t_X4_isKeptPlace, decode cX4_isKeptPlace q.1 = .ok q.2 := by decide +kernel
noncomputable def f_X4_isKeptPlace (N : Nat) (a1 : Int32) (w : Wd) : Option (Int32 × Wd) :=
  if a1 < 0 then
    some ((0 : Int32), w)
  else
    if (3 : Int32) ≤ a1 then
      some ((0 : Int32), w)
    else
      some ((1 : Int32), w)
set_option maxRecDepth 20000 in
set_option maxHeartbeats 4000000 in
theorem s_X4_isKeptPlace (G : GT) (l : Launch) (N : Nat) (a1 : Int32) (w : Wd) (q : Int32 × Wd) (h : f_X4_isKeptPlace N a1 w = some q) : Sp G l yX4_isKeptPlace cw_X4_isKeptPlace 0 [vi a1] w (some (vi q.1)) q.2 := by
  refine Sp_of (own := RX4) [some (vi a1)] (by decide) rfl rfl (Nat.le_of_ble_eq_true rfl) ?_
  intro x hG hl hC hr hQ _ _
  subst hG
  subst hl
  unfold f_X4_isKeptPlace at h
  refine Z_iload_n hC (dk d_X4_isKeptPlace 0 rfl) 1 rfl rfl rfl ?_
  refine Z_if_lt hC (dk d_X4_isKeptPlace 1 rfl) 4 13 rfl (by decide) (fun c => ?_) (fun c => ?_)
  · have h := it_t h c
    refine Z_iconst (v := 0) hC (dk d_X4_isKeptPlace 7 rfl) 14 rfl (by decide) ?_
    obtain rfl := Option.some.inj h
    exact Z_zreturn (st := []) hC hr rfl hQ (dk d_X4_isKeptPlace 8 rfl)
  · have h := it_f h c
    refine Z_iload_n hC (dk d_X4_isKeptPlace 2 rfl) 5 rfl rfl rfl ?_
    refine Z_iconst (v := 3) hC (dk d_X4_isKeptPlace 3 rfl) 6 rfl (by decide) ?_
    refine Z_icmp_ge hC (dk d_X4_isKeptPlace 4 rfl) 9 13 rfl (by decide) (fun c => ?_) (fun c => ?_)
    · have h := it_t h c
      refine Z_iconst (v := 0) hC (dk d_X4_isKeptPlace 7 rfl) 14 rfl (by decide) ?_
      obtain rfl := Option.some.inj h
      exact Z_zreturn (st := []) hC hr rfl hQ (dk d_X4_isKeptPlace 8 rfl)
    · have h := it_f h c
      refine Z_iconst (v := 1) hC (dk d_X4_isKeptPlace 5 rfl) 10 rfl (by decide) ?_
      refine Z_goto hC (dk d_X4_isKeptPlace 6 rfl) 14 (by decide) ?_
      obtain rfl := Option.some.inj h
      exact Z_zreturn (st := []) hC hr rfl hQ (dk d_X4_isKeptPlace 8 rfl)
def t_X4_keep : List (Nat × Instr × Nat) := [(0, .iload_n 1, 1), (1, .invokestatic 244, 3), (4, .ifCond .ne 5, 3), (7, .iconst (-1), 1), (8, .ireturn, 1), (9, .aload_n 0, 1), (10, .getfield 26, 3), (13, .getfield 132, 3), (16, .ifCond .ne 6, 3), (19, .bipush (-4), 2), (21, .ireturn, 1), (22, .aload_n 0, 1), (23, .getfield 43, 3), (26, .iload_n 1, 1), (27, .aload_n 0, 1), (28, .getfield 126, 3), (31, .iastore, 1), (32, .aload_n 0, 1), (33, .getfield 47, 3), (36, .iload_n 1, 1), (37, .aload_n 0, 1), (38, .getfield 129, 3), (41, .iastore, 1), (42, .aload_n 0, 1), (43, .getfield 50, 3), (46, .iload_n 1, 1), (47, .aload_n 0, 1), (48, .getfield 26, 3), (51, .getfield 168, 3), (54, .iastore, 1), (55, .aload_n 0, 1), (56, .getfield 129, 3), (59, .ireturn, 1)]
set_option maxRecDepth 20000 in
theorem d_X4_keep : ∀ q ∈ t_X4_keep, decode cX4_keep q.1 = .ok q.2 := by decide +kernel
noncomputable def f_X4_keep (N : Nat) (a1 : Int32) (w : Wd) : Option (Int32 × Wd) :=
  (f_X4_isKeptPlace N a1 w).bind (fun q1 =>
    if q1.1 = 0 then
      some ((-1 : Int32), q1.2)
    else
      if (gI q1.2 4 0) = 0 then
        some ((-4 : Int32), q1.2)
      else
        gd (vp_in a1 3) (
        gd (vp_in a1 3) (
        gd (vp_in a1 3) (
        some (gI (sA (sA (sA q1.2 22 0 (upd (gA q1.2 22 0) a1.toNatClampNeg (gI q1.2 406 0))) 23 0 (upd (gA (sA q1.2 22 0 (upd (gA q1.2 22 0) a1.toNatClampNeg (gI q1.2 406 0))) 23 0) a1.toNatClampNeg (gI (sA q1.2 22 0 (upd (gA q1.2 22 0) a1.toNatClampNeg (gI q1.2 406 0))) 407 0))) 24 0 (upd (gA (sA (sA q1.2 22 0 (upd (gA q1.2 22 0) a1.toNatClampNeg (gI q1.2 406 0))) 23 0 (upd (gA (sA q1.2 22 0 (upd (gA q1.2 22 0) a1.toNatClampNeg (gI q1.2 406 0))) 23 0) a1.toNatClampNeg (gI (sA q1.2 22 0 (upd (gA q1.2 22 0) a1.toNatClampNeg (gI q1.2 406 0))) 407 0))) 24 0) a1.toNatClampNeg (gI (sA (sA q1.2 22 0 (upd (gA q1.2 22 0) a1.toNatClampNeg (gI q1.2 406 0))) 23 0 (upd (gA (sA q1.2 22 0 (upd (gA q1.2 22 0) a1.toNatClampNeg (gI q1.2 406 0))) 23 0) a1.toNatClampNeg (gI (sA q1.2 22 0 (upd (gA q1.2 22 0) a1.toNatClampNeg (gI q1.2 406 0))) 407 0))) 6 0))) 407 0, sA (sA (sA q1.2 22 0 (upd (gA q1.2 22 0) a1.toNatClampNeg (gI q1.2 406 0))) 23 0 (upd (gA (sA q1.2 22 0 (upd (gA q1.2 22 0) a1.toNatClampNeg (gI q1.2 406 0))) 23 0) a1.toNatClampNeg (gI (sA q1.2 22 0 (upd (gA q1.2 22 0) a1.toNatClampNeg (gI q1.2 406 0))) 407 0))) 24 0 (upd (gA (sA (sA q1.2 22 0 (upd (gA q1.2 22 0) a1.toNatClampNeg (gI q1.2 406 0))) 23 0 (upd (gA (sA q1.2 22 0 (upd (gA q1.2 22 0) a1.toNatClampNeg (gI q1.2 406 0))) 23 0) a1.toNatClampNeg (gI (sA q1.2 22 0 (upd (gA q1.2 22 0) a1.toNatClampNeg (gI q1.2 406 0))) 407 0))) 24 0) a1.toNatClampNeg (gI (sA (sA q1.2 22 0 (upd (gA q1.2 22 0) a1.toNatClampNeg (gI q1.2 406 0))) 23 0 (upd (gA (sA q1.2 22 0 (upd (gA q1.2 22 0) a1.toNatClampNeg (gI q1.2 406 0))) 23 0) a1.toNatClampNeg (gI (sA q1.2 22 0 (upd (gA q1.2 22 0) a1.toNatClampNeg (gI q1.2 406 0))) 407 0))) 6 0)))))))
set_option maxRecDepth 20000 in
set_option maxHeartbeats 4000000 in
theorem s_X4_keep (G : GT) (l : Launch) (N : Nat) (a1 : Int32) (w : Wd) (q : Int32 × Wd) (h : f_X4_keep N a1 w = some q) : Sp G l yX4_keep cw_X4_keep 1 [vr 0 0, vi a1] w (some (vi q.1)) q.2 := by
  refine Sp_of (own := RX4) [some (vr 0 0), some (vi a1)] (by decide) rfl rfl (Nat.le_of_ble_eq_true rfl) ?_
  intro x hG hl hC hr hQ _ _
  subst hG
  subst hl
  unfold f_X4_keep at h
  refine Z_iload_n hC (dk d_X4_keep 0 rfl) 1 rfl rfl rfl ?_
  obtain ⟨q1, hq1, h⟩ := bd_some h
  refine K_X4_244 [vi a1] hC (s_X4_isKeptPlace (xG x) (xl x) N a1 w q1 hq1) (Nat.le_of_ble_eq_true rfl) rfl rfl rfl (Nat.le_of_ble_eq_true rfl) (dk d_X4_keep 1 rfl) 4 rfl ?_
  refine Z_if_ne hC (dk d_X4_keep 2 rfl) 7 9 rfl (by decide) (fun c => ?_) (fun c => ?_)
  · have h := it_f h c
    refine Z_aload_n hC (dk d_X4_keep 5 rfl) 10 rfl rfl rfl ?_
    refine G_X4_26 hC m_0 (dk d_X4_keep 6 rfl) 13 rfl ?_
    refine G_X4_132 hC (m_3 (by decide)) (dk d_X4_keep 7 rfl) 16 rfl ?_
    refine Z_if_ne hC (dk d_X4_keep 8 rfl) 19 22 rfl (by decide) (fun c => ?_) (fun c => ?_)
    · have h := it_f h c
      refine Z_aload_n hC (dk d_X4_keep 11 rfl) 23 rfl rfl rfl ?_
      refine G_X4_43 hC m_0 (dk d_X4_keep 12 rfl) 26 rfl ?_
      refine Z_iload_n hC (dk d_X4_keep 13 rfl) 27 rfl rfl rfl ?_
      refine Z_aload_n hC (dk d_X4_keep 14 rfl) 28 rfl rfl rfl ?_
      refine G_X4_126 hC m_0 (dk d_X4_keep 15 rfl) 31 rfl ?_
      obtain ⟨g2, h⟩ := gd_some h
      refine Z_iastore hC m_22 (by decide) rfl g2 (dk d_X4_keep 16 rfl) 32 rfl ?_
      refine Z_aload_n hC (dk d_X4_keep 17 rfl) 33 rfl rfl rfl ?_
      refine G_X4_47 hC m_0 (dk d_X4_keep 18 rfl) 36 rfl ?_
      refine Z_iload_n hC (dk d_X4_keep 19 rfl) 37 rfl rfl rfl ?_
      refine Z_aload_n hC (dk d_X4_keep 20 rfl) 38 rfl rfl rfl ?_
      refine G_X4_129 hC m_0 (dk d_X4_keep 21 rfl) 41 rfl ?_
      obtain ⟨g3, h⟩ := gd_some h
      refine Z_iastore hC m_23 (by decide) rfl g3 (dk d_X4_keep 22 rfl) 42 rfl ?_
      refine Z_aload_n hC (dk d_X4_keep 23 rfl) 43 rfl rfl rfl ?_
      refine G_X4_50 hC m_0 (dk d_X4_keep 24 rfl) 46 rfl ?_
      refine Z_iload_n hC (dk d_X4_keep 25 rfl) 47 rfl rfl rfl ?_
      refine Z_aload_n hC (dk d_X4_keep 26 rfl) 48 rfl rfl rfl ?_
      refine G_X4_26 hC m_0 (dk d_X4_keep 27 rfl) 51 rfl ?_
      refine G_X4_168 hC (m_3 (by decide)) (dk d_X4_keep 28 rfl) 54 rfl ?_
      obtain ⟨g4, h⟩ := gd_some h
      refine Z_iastore hC m_24 (by decide) rfl g4 (dk d_X4_keep 29 rfl) 55 rfl ?_
      refine Z_aload_n hC (dk d_X4_keep 30 rfl) 56 rfl rfl rfl ?_
      refine G_X4_129 hC m_0 (dk d_X4_keep 31 rfl) 59 rfl ?_
      obtain rfl := Option.some.inj h
      exact Z_ireturn (st := []) hC hr hQ (dk d_X4_keep 32 rfl)
    · have h := it_t h c
      refine Z_bipush (v := -4) hC (dk d_X4_keep 9 rfl) 21 rfl (by decide) ?_
      obtain rfl := Option.some.inj h
      exact Z_ireturn (st := []) hC hr hQ (dk d_X4_keep 10 rfl)
  · have h := it_t h c
    refine Z_iconst (v := -1) hC (dk d_X4_keep 3 rfl) 8 rfl (by decide) ?_
    obtain rfl := Option.some.inj h
    exact Z_ireturn (st := []) hC hr hQ (dk d_X4_keep 4 rfl)
def t_X4_on : List (Nat × Instr × Nat) := [(0, .iload_n 1, 1), (1, .invokestatic 244, 3), (4, .ifCond .ne 5, 3), (7, .iconst (-1), 1), (8, .ireturn, 1), (9, .aload_n 0, 1), (10, .getfield 47, 3), (13, .iload_n 1, 1), (14, .iaload, 1), (15, .iconst (-1), 1), (16, .if_icmp .ne 9, 3), (19, .aload_n 0, 1), (20, .iconst 1, 1), (21, .invokevirtual 74, 3), (24, .ireturn, 1), (25, .aload_n 0, 1), (26, .aload_n 0, 1), (27, .getfield 43, 3), (30, .iload_n 1, 1), (31, .iaload, 1), (32, .putfield 126, 3), (35, .aload_n 0, 1), (36, .aload_n 0, 1), (37, .getfield 47, 3), (40, .iload_n 1, 1), (41, .iaload, 1), (42, .putfield 129, 3), (45, .aload_n 0, 1), (46, .getfield 26, 3), (49, .aload_n 0, 1), (50, .getfield 50, 3), (53, .iload_n 1, 1), (54, .iaload, 1), (55, .putfield 168, 3), (58, .aload_n 0, 1), (59, .iconst 1, 1), (60, .putfield 66, 3), (63, .aload_n 0, 1), (64, .getfield 129, 3), (67, .ireturn, 1)]
set_option maxRecDepth 20000 in
theorem d_X4_on : ∀ q ∈ t_X4_on, decode cX4_on q.1 = .ok q.2 := by decide +kernel
noncomputable def f_X4_on (N : Nat) (a1 : Int32) (w : Wd) : Option (Int32 × Wd) :=
  (f_X4_isKeptPlace N a1 w).bind (fun q1 =>
    if q1.1 = 0 then
      some ((-1 : Int32), q1.2)
    else
      gd (vp_in a1 3) (
      if (gA q1.2 23 0 a1.toNatClampNeg) = (-1 : Int32) then
        (f_X4_refuse N (1 : Int32) q1.2).bind (fun q6 =>
          some (q6.1, q6.2))
      else
        gd (vp_in a1 3) (
        gd (vp_in a1 3) (
        gd (vp_in a1 3) (
        some (gI (sI (sI (sI (sI q1.2 406 0 (gA q1.2 22 0 a1.toNatClampNeg)) 407 0 (gA (sI q1.2 406 0 (gA q1.2 22 0 a1.toNatClampNeg)) 23 0 a1.toNatClampNeg)) 6 0 (gA (sI (sI q1.2 406 0 (gA q1.2 22 0 a1.toNatClampNeg)) 407 0 (gA (sI q1.2 406 0 (gA q1.2 22 0 a1.toNatClampNeg)) 23 0 a1.toNatClampNeg)) 24 0 a1.toNatClampNeg)) 411 0 (1 : Int32)) 407 0, sI (sI (sI (sI q1.2 406 0 (gA q1.2 22 0 a1.toNatClampNeg)) 407 0 (gA (sI q1.2 406 0 (gA q1.2 22 0 a1.toNatClampNeg)) 23 0 a1.toNatClampNeg)) 6 0 (gA (sI (sI q1.2 406 0 (gA q1.2 22 0 a1.toNatClampNeg)) 407 0 (gA (sI q1.2 406 0 (gA q1.2 22 0 a1.toNatClampNeg)) 23 0 a1.toNatClampNeg)) 24 0 a1.toNatClampNeg)) 411 0 (1 : Int32)))))))
set_option maxRecDepth 20000 in
set_option maxHeartbeats 4000000 in
theorem s_X4_on (G : GT) (l : Launch) (N : Nat) (a1 : Int32) (w : Wd) (q : Int32 × Wd) (h : f_X4_on N a1 w = some q) : Sp G l yX4_on cw_X4_on 1 [vr 0 0, vi a1] w (some (vi q.1)) q.2 := by
  refine Sp_of (own := RX4) [some (vr 0 0), some (vi a1)] (by decide) rfl rfl (Nat.le_of_ble_eq_true rfl) ?_
  intro x hG hl hC hr hQ _ _
  subst hG
  subst hl
  unfold f_X4_on at h
  refine Z_iload_n hC (dk d_X4_on 0 rfl) 1 rfl rfl rfl ?_
  obtain ⟨q1, hq1, h⟩ := bd_some h
  refine K_X4_244 [vi a1] hC (s_X4_isKeptPlace (xG x) (xl x) N a1 w q1 hq1) (Nat.le_of_ble_eq_true rfl) rfl rfl rfl (Nat.le_of_ble_eq_true rfl) (dk d_X4_on 1 rfl) 4 rfl ?_
  refine Z_if_ne hC (dk d_X4_on 2 rfl) 7 9 rfl (by decide) (fun c => ?_) (fun c => ?_)
  · have h := it_f h c
    refine Z_aload_n hC (dk d_X4_on 5 rfl) 10 rfl rfl rfl ?_
    refine G_X4_47 hC m_0 (dk d_X4_on 6 rfl) 13 rfl ?_
    refine Z_iload_n hC (dk d_X4_on 7 rfl) 14 rfl rfl rfl ?_
    obtain ⟨g2, h⟩ := gd_some h
    refine Z_iaload hC m_23 (by decide) rfl g2 (dk d_X4_on 8 rfl) 15 rfl ?_
    refine Z_iconst (v := -1) hC (dk d_X4_on 9 rfl) 16 rfl (by decide) ?_
    refine Z_icmp_ne hC (dk d_X4_on 10 rfl) 19 25 rfl (by decide) (fun c => ?_) (fun c => ?_)
    · have h := it_f h c
      refine Z_aload_n hC (dk d_X4_on 15 rfl) 26 rfl rfl rfl ?_
      refine Z_aload_n hC (dk d_X4_on 16 rfl) 27 rfl rfl rfl ?_
      refine G_X4_43 hC m_0 (dk d_X4_on 17 rfl) 30 rfl ?_
      refine Z_iload_n hC (dk d_X4_on 18 rfl) 31 rfl rfl rfl ?_
      obtain ⟨g3, h⟩ := gd_some h
      refine Z_iaload hC m_22 (by decide) rfl g3 (dk d_X4_on 19 rfl) 32 rfl ?_
      refine P_X4_126 hC m_0 (dk d_X4_on 20 rfl) 35 rfl ?_
      refine Z_aload_n hC (dk d_X4_on 21 rfl) 36 rfl rfl rfl ?_
      refine Z_aload_n hC (dk d_X4_on 22 rfl) 37 rfl rfl rfl ?_
      refine G_X4_47 hC m_0 (dk d_X4_on 23 rfl) 40 rfl ?_
      refine Z_iload_n hC (dk d_X4_on 24 rfl) 41 rfl rfl rfl ?_
      obtain ⟨g4, h⟩ := gd_some h
      refine Z_iaload hC m_23 (by decide) rfl g4 (dk d_X4_on 25 rfl) 42 rfl ?_
      refine P_X4_129 hC m_0 (dk d_X4_on 26 rfl) 45 rfl ?_
      refine Z_aload_n hC (dk d_X4_on 27 rfl) 46 rfl rfl rfl ?_
      refine G_X4_26 hC m_0 (dk d_X4_on 28 rfl) 49 rfl ?_
      refine Z_aload_n hC (dk d_X4_on 29 rfl) 50 rfl rfl rfl ?_
      refine G_X4_50 hC m_0 (dk d_X4_on 30 rfl) 53 rfl ?_
      refine Z_iload_n hC (dk d_X4_on 31 rfl) 54 rfl rfl rfl ?_
      obtain ⟨g5, h⟩ := gd_some h
      refine Z_iaload hC m_24 (by decide) rfl g5 (dk d_X4_on 32 rfl) 55 rfl ?_
      refine P_X4_168 hC (m_3 (by decide)) (dk d_X4_on 33 rfl) 58 rfl ?_
      refine Z_aload_n hC (dk d_X4_on 34 rfl) 59 rfl rfl rfl ?_
      refine Z_iconst (v := 1) hC (dk d_X4_on 35 rfl) 60 rfl (by decide) ?_
      refine P_X4_66 hC m_0 (by decide) (dk d_X4_on 36 rfl) 63 rfl ?_
      refine Z_aload_n hC (dk d_X4_on 37 rfl) 64 rfl rfl rfl ?_
      refine G_X4_129 hC m_0 (dk d_X4_on 38 rfl) 67 rfl ?_
      obtain rfl := Option.some.inj h
      exact Z_ireturn (st := []) hC hr hQ (dk d_X4_on 39 rfl)
    · have h := it_t h c
      refine Z_aload_n hC (dk d_X4_on 11 rfl) 20 rfl rfl rfl ?_
      refine Z_iconst (v := 1) hC (dk d_X4_on 12 rfl) 21 rfl (by decide) ?_
      obtain ⟨q6, hq6, h⟩ := bd_some h
      refine K_X4_74 [vi (1 : Int32)] hC m_0 (s_X4_refuse (xG x) (xl x) N (1 : Int32) q1.2 q6 hq6) (Nat.le_of_ble_eq_true rfl) rfl rfl rfl (Nat.le_of_ble_eq_true rfl) (dk d_X4_on 13 rfl) 24 rfl ?_
      obtain rfl := Option.some.inj h
      exact Z_ireturn (st := []) hC hr hQ (dk d_X4_on 14 rfl)
  · have h := it_t h c
    refine Z_iconst (v := -1) hC (dk d_X4_on 3 rfl) 8 rfl (by decide) ?_
    obtain rfl := Option.some.inj h
    exact Z_ireturn (st := []) hC hr hQ (dk d_X4_on 4 rfl)
def t_X4_year : List (Nat × Instr × Nat) := [(0, .iload_n 1, 1), (1, .invokestatic 70, 3), (4, .ifCond .ne 5, 3), (7, .iconst (-1), 1), (8, .ireturn, 1), (9, .aload_n 0, 1), (10, .getfield 26, 3), (13, .getfield 247, 3), (16, .bipush 12, 2), (18, .if_icmp .lt 6, 3), (21, .bipush (-2), 2), (23, .ireturn, 1), (24, .aload_n 0, 1), (25, .getfield 26, 3), (28, .getfield 132, 3), (31, .ifCond .ne 6, 3), (34, .bipush (-4), 2), (36, .ireturn, 1), (37, .aload_n 0, 1), (38, .iload_n 1, 1), (39, .invokevirtual 174, 3), (42, .istore_n 2, 1), (43, .iload_n 2, 1), (44, .ifCond .ge 10, 3), (47, .aload_n 0, 1), (48, .iload_n 2, 1), (49, .ineg, 1), (50, .invokevirtual 74, 3), (53, .ireturn, 1), (54, .aload_n 0, 1), (55, .getfield 26, 3), (58, .iload_n 2, 1), (59, .invokevirtual 250, 3), (62, .aload_n 0, 1), (63, .iconst 1, 1), (64, .putfield 66, 3), (67, .aload_n 0, 1), (68, .getfield 26, 3), (71, .getfield 247, 3), (74, .iconst 1, 1), (75, .isub, 1), (76, .ireturn, 1)]
set_option maxRecDepth 20000 in
theorem d_X4_year : ∀ q ∈ t_X4_year, decode cX4_year q.1 = .ok q.2 := by decide +kernel
noncomputable def f_X4_year (N : Nat) (a1 : Int32) (w : Wd) : Option (Int32 × Wd) :=
  (f_X4_isRow N a1 w).bind (fun q1 =>
    if q1.1 = 0 then
      some ((-1 : Int32), q1.2)
    else
      if (gI q1.2 5 0) < (12 : Int32) then
        if (gI q1.2 4 0) = 0 then
          some ((-4 : Int32), q1.2)
        else
          (f_X4_drawingIn N a1 q1.2).bind (fun q2 =>
            if 0 ≤ q2.1 then
              (f_X0_addYear N 0 q2.1 q2.2).bind (fun q3 =>
                some ((gI (sI q3 411 0 (1 : Int32)) 5 0) - (1 : Int32), sI q3 411 0 (1 : Int32)))
            else
              (f_X4_refuse N (-q2.1) q2.2).bind (fun q4 =>
                some (q4.1, q4.2)))
      else
        some ((-2 : Int32), q1.2))
set_option maxRecDepth 20000 in
set_option maxHeartbeats 4000000 in
theorem s_X4_year (G : GT) (l : Launch) (N : Nat) (a1 : Int32) (w : Wd) (q : Int32 × Wd) (h : f_X4_year N a1 w = some q) : Sp G l yX4_year cw_X4_year 2 [vr 0 0, vi a1] w (some (vi q.1)) q.2 := by
  refine Sp_of (own := RX4) [some (vr 0 0), some (vi a1), none] (by decide) rfl rfl (Nat.le_of_ble_eq_true rfl) ?_
  intro x hG hl hC hr hQ _ _
  subst hG
  subst hl
  unfold f_X4_year at h
  refine Z_iload_n hC (dk d_X4_year 0 rfl) 1 rfl rfl rfl ?_
  obtain ⟨q1, hq1, h⟩ := bd_some h
  refine K_X4_70 [vi a1] hC (s_X4_isRow (xG x) (xl x) N a1 w q1 hq1) (Nat.le_of_ble_eq_true rfl) rfl rfl rfl (Nat.le_of_ble_eq_true rfl) (dk d_X4_year 1 rfl) 4 rfl ?_
  refine Z_if_ne hC (dk d_X4_year 2 rfl) 7 9 rfl (by decide) (fun c => ?_) (fun c => ?_)
  · have h := it_f h c
    refine Z_aload_n hC (dk d_X4_year 5 rfl) 10 rfl rfl rfl ?_
    refine G_X4_26 hC m_0 (dk d_X4_year 6 rfl) 13 rfl ?_
    refine G_X4_247 hC (m_3 (by decide)) (dk d_X4_year 7 rfl) 16 rfl ?_
    refine Z_bipush (v := 12) hC (dk d_X4_year 8 rfl) 18 rfl (by decide) ?_
    refine Z_icmp_lt hC (dk d_X4_year 9 rfl) 21 24 rfl (by decide) (fun c => ?_) (fun c => ?_)
    · have h := it_t h c
      refine Z_aload_n hC (dk d_X4_year 12 rfl) 25 rfl rfl rfl ?_
      refine G_X4_26 hC m_0 (dk d_X4_year 13 rfl) 28 rfl ?_
      refine G_X4_132 hC (m_3 (by decide)) (dk d_X4_year 14 rfl) 31 rfl ?_
      refine Z_if_ne hC (dk d_X4_year 15 rfl) 34 37 rfl (by decide) (fun c => ?_) (fun c => ?_)
      · have h := it_f h c
        refine Z_aload_n hC (dk d_X4_year 18 rfl) 38 rfl rfl rfl ?_
        refine Z_iload_n hC (dk d_X4_year 19 rfl) 39 rfl rfl rfl ?_
        obtain ⟨q2, hq2, h⟩ := bd_some h
        refine K_X4_174 [vi a1] hC m_0 (s_X4_drawingIn (xG x) (xl x) N a1 q1.2 q2 hq2) (Nat.le_of_ble_eq_true rfl) rfl rfl rfl (Nat.le_of_ble_eq_true rfl) (dk d_X4_year 20 rfl) 42 rfl ?_
        refine Z_istore_n hC (dk d_X4_year 21 rfl) 43 rfl rfl (Nat.le_of_ble_eq_true rfl) [some (vr 0 0), some (vi a1), some (vi q2.1)] rfl ?_
        refine Z_iload_n hC (dk d_X4_year 22 rfl) 44 rfl rfl rfl ?_
        refine Z_if_ge hC (dk d_X4_year 23 rfl) 47 54 rfl (by decide) (fun c => ?_) (fun c => ?_)
        · have h := it_t h c
          refine Z_aload_n hC (dk d_X4_year 29 rfl) 55 rfl rfl rfl ?_
          refine G_X4_26 hC m_0 (dk d_X4_year 30 rfl) 58 rfl ?_
          refine Z_iload_n hC (dk d_X4_year 31 rfl) 59 rfl rfl rfl ?_
          obtain ⟨q3, hq3, h⟩ := bd_some h
          refine K_X4_250 [vi q2.1] hC (m_3 (by decide)) (s_X0_addYear (xG x) (xl x) N 0 (by decide) q2.1 q2.2 q3 hq3) (Nat.le_of_ble_eq_true rfl) rfl rfl rfl (Nat.le_of_ble_eq_true rfl) (dk d_X4_year 32 rfl) 62 rfl ?_
          refine Z_aload_n hC (dk d_X4_year 33 rfl) 63 rfl rfl rfl ?_
          refine Z_iconst (v := 1) hC (dk d_X4_year 34 rfl) 64 rfl (by decide) ?_
          refine P_X4_66 hC m_0 (by decide) (dk d_X4_year 35 rfl) 67 rfl ?_
          refine Z_aload_n hC (dk d_X4_year 36 rfl) 68 rfl rfl rfl ?_
          refine G_X4_26 hC m_0 (dk d_X4_year 37 rfl) 71 rfl ?_
          refine G_X4_247 hC (m_3 (by decide)) (dk d_X4_year 38 rfl) 74 rfl ?_
          refine Z_iconst (v := 1) hC (dk d_X4_year 39 rfl) 75 rfl (by decide) ?_
          refine Z_isub hC (dk d_X4_year 40 rfl) 76 rfl ?_
          obtain rfl := Option.some.inj h
          exact Z_ireturn (st := []) hC hr hQ (dk d_X4_year 41 rfl)
        · have h := it_f h c
          refine Z_aload_n hC (dk d_X4_year 24 rfl) 48 rfl rfl rfl ?_
          refine Z_iload_n hC (dk d_X4_year 25 rfl) 49 rfl rfl rfl ?_
          refine Z_ineg hC (dk d_X4_year 26 rfl) 50 rfl ?_
          obtain ⟨q4, hq4, h⟩ := bd_some h
          refine K_X4_74 [vi (-q2.1)] hC m_0 (s_X4_refuse (xG x) (xl x) N (-q2.1) q2.2 q4 hq4) (Nat.le_of_ble_eq_true rfl) rfl rfl rfl (Nat.le_of_ble_eq_true rfl) (dk d_X4_year 27 rfl) 53 rfl ?_
          obtain rfl := Option.some.inj h
          exact Z_ireturn (st := []) hC hr hQ (dk d_X4_year 28 rfl)
      · have h := it_t h c
        refine Z_bipush (v := -4) hC (dk d_X4_year 16 rfl) 36 rfl (by decide) ?_
        obtain rfl := Option.some.inj h
        exact Z_ireturn (st := []) hC hr hQ (dk d_X4_year 17 rfl)
    · have h := it_f h c
      refine Z_bipush (v := -2) hC (dk d_X4_year 10 rfl) 23 rfl (by decide) ?_
      obtain rfl := Option.some.inj h
      exact Z_ireturn (st := []) hC hr hQ (dk d_X4_year 11 rfl)
  · have h := it_t h c
    refine Z_iconst (v := -1) hC (dk d_X4_year 3 rfl) 8 rfl (by decide) ?_
    obtain rfl := Option.some.inj h
    exact Z_ireturn (st := []) hC hr hQ (dk d_X4_year 4 rfl)
def t_X4_forget : List (Nat × Instr × Nat) := [(0, .iload_n 1, 1), (1, .ifCond .lt 14, 3), (4, .iload_n 1, 1), (5, .aload_n 0, 1), (6, .getfield 26, 3), (9, .getfield 247, 3), (12, .if_icmp .le 5, 3), (15, .iconst (-1), 1), (16, .ireturn, 1), (17, .aload_n 0, 1), (18, .getfield 26, 3), (21, .getfield 247, 3), (24, .iload_n 1, 1), (25, .isub, 1), (26, .istore_n 2, 1), (27, .aload_n 0, 1), (28, .getfield 26, 3), (31, .iload_n 1, 1), (32, .putfield 247, 3), (35, .aload_n 0, 1), (36, .iconst 1, 1), (37, .putfield 66, 3), (40, .iload_n 2, 1), (41, .ireturn, 1)]
set_option maxRecDepth 20000 in
theorem d_X4_forget : ∀ q ∈ t_X4_forget, decode cX4_forget q.1 = .ok q.2 := by decide +kernel
noncomputable def f_X4_forget (N : Nat) (a1 : Int32) (w : Wd) : Option (Int32 × Wd) :=
  if a1 < 0 then
    some ((-1 : Int32), w)
  else
    if a1 ≤ (gI w 5 0) then
      some ((gI w 5 0) - a1, sI (sI w 5 0 a1) 411 0 (1 : Int32))
    else
      some ((-1 : Int32), w)
set_option maxRecDepth 20000 in
set_option maxHeartbeats 4000000 in
theorem s_X4_forget (G : GT) (l : Launch) (N : Nat) (a1 : Int32) (w : Wd) (q : Int32 × Wd) (h : f_X4_forget N a1 w = some q) : Sp G l yX4_forget cw_X4_forget 0 [vr 0 0, vi a1] w (some (vi q.1)) q.2 := by
  refine Sp_of (own := RX4) [some (vr 0 0), some (vi a1), none] (by decide) rfl rfl (Nat.le_of_ble_eq_true rfl) ?_
  intro x hG hl hC hr hQ _ _
  subst hG
  subst hl
  unfold f_X4_forget at h
  refine Z_iload_n hC (dk d_X4_forget 0 rfl) 1 rfl rfl rfl ?_
  refine Z_if_lt hC (dk d_X4_forget 1 rfl) 4 15 rfl (by decide) (fun c => ?_) (fun c => ?_)
  · have h := it_t h c
    refine Z_iconst (v := -1) hC (dk d_X4_forget 7 rfl) 16 rfl (by decide) ?_
    obtain rfl := Option.some.inj h
    exact Z_ireturn (st := []) hC hr hQ (dk d_X4_forget 8 rfl)
  · have h := it_f h c
    refine Z_iload_n hC (dk d_X4_forget 2 rfl) 5 rfl rfl rfl ?_
    refine Z_aload_n hC (dk d_X4_forget 3 rfl) 6 rfl rfl rfl ?_
    refine G_X4_26 hC m_0 (dk d_X4_forget 4 rfl) 9 rfl ?_
    refine G_X4_247 hC (m_3 (by decide)) (dk d_X4_forget 5 rfl) 12 rfl ?_
    refine Z_icmp_le hC (dk d_X4_forget 6 rfl) 15 17 rfl (by decide) (fun c => ?_) (fun c => ?_)
    · have h := it_t h c
      refine Z_aload_n hC (dk d_X4_forget 9 rfl) 18 rfl rfl rfl ?_
      refine G_X4_26 hC m_0 (dk d_X4_forget 10 rfl) 21 rfl ?_
      refine G_X4_247 hC (m_3 (by decide)) (dk d_X4_forget 11 rfl) 24 rfl ?_
      refine Z_iload_n hC (dk d_X4_forget 12 rfl) 25 rfl rfl rfl ?_
      refine Z_isub hC (dk d_X4_forget 13 rfl) 26 rfl ?_
      refine Z_istore_n hC (dk d_X4_forget 14 rfl) 27 rfl rfl (Nat.le_of_ble_eq_true rfl) [some (vr 0 0), some (vi a1), some (vi ((gI w 5 0) - a1))] rfl ?_
      refine Z_aload_n hC (dk d_X4_forget 15 rfl) 28 rfl rfl rfl ?_
      refine G_X4_26 hC m_0 (dk d_X4_forget 16 rfl) 31 rfl ?_
      refine Z_iload_n hC (dk d_X4_forget 17 rfl) 32 rfl rfl rfl ?_
      refine P_X4_247 hC (m_3 (by decide)) (dk d_X4_forget 18 rfl) 35 rfl ?_
      refine Z_aload_n hC (dk d_X4_forget 19 rfl) 36 rfl rfl rfl ?_
      refine Z_iconst (v := 1) hC (dk d_X4_forget 20 rfl) 37 rfl (by decide) ?_
      refine P_X4_66 hC m_0 (by decide) (dk d_X4_forget 21 rfl) 40 rfl ?_
      refine Z_iload_n hC (dk d_X4_forget 22 rfl) 41 rfl rfl rfl ?_
      obtain rfl := Option.some.inj h
      exact Z_ireturn (st := []) hC hr hQ (dk d_X4_forget 23 rfl)
    · have h := it_f h c
      refine Z_iconst (v := -1) hC (dk d_X4_forget 7 rfl) 16 rfl (by decide) ?_
      obtain rfl := Option.some.inj h
      exact Z_ireturn (st := []) hC hr hQ (dk d_X4_forget 8 rfl)
def t_X4_run : List (Nat × Instr × Nat) := [(0, .aload_n 0, 1), (1, .getfield 26, 3), (4, .getfield 132, 3), (7, .ifCond .ne 5, 3), (10, .iconst 0, 1), (11, .ireturn, 1), (12, .aload_n 0, 1), (13, .getfield 30, 3), (16, .aload_n 0, 1), (17, .getfield 26, 3), (20, .invokevirtual 253, 3), (23, .iconst 0, 1), (24, .istore_n 1, 1), (25, .iload_n 1, 1), (26, .bipush 30, 2), (28, .if_icmp .ge 43, 3), (31, .aload_n 0, 1), (32, .getfield 40, 3), (35, .aload_n 0, 1), (36, .getfield 30, 3), (39, .iconst 1, 1), (40, .iconst 1, 1), (41, .invokevirtual 257, 3), (44, .ifCond .ne 5, 3), (47, .iload_n 1, 1), (48, .ireturn, 1), (49, .aload_n 0, 1), (50, .getfield 30, 3), (53, .aload_n 0, 1), (54, .getfield 40, 3), (57, .getfield 189, 3), (60, .iconst 0, 1), (61, .iaload, 1), (62, .invokevirtual 250, 3), (65, .iinc 1 1, 3), (68, .goto (-43), 3), (71, .bipush 30, 2), (73, .ireturn, 1)]
set_option maxRecDepth 20000 in
theorem d_X4_run : ∀ q ∈ t_X4_run, decode cX4_run q.1 = .ok q.2 := by decide +kernel
noncomputable def X4_run_L1 (N : Nat) : Nat → Int32 → Wd → Option ((Int32 × Wd) ⊕ (Wd))
  | 0, _, _ => none
  | n + 1, x1, w =>
  if (30 : Int32) ≤ x1 then
    some (.inr w)
  else
    (f_X2_list N 1 (1 : Int32) (1 : Int32) w).bind (fun q2 =>
      if q2.1 = 0 then
        some (.inl (x1, q2.2))
      else
        gd (vp_in (0 : Int32) 265) (
        (f_X0_addYear N 1 (gA q2.2 20 1 (0 : Int32).toNatClampNeg) q2.2).bind (fun q4 =>
          X4_run_L1 N n (x1 + (1 : Int32)) q4)))
set_option maxRecDepth 20000 in
set_option maxHeartbeats 4000000 in
theorem z_X4_run_L1 {x : CX} (hC : Cx x RX4 cX4_run 2 13) (hr : (xM x).sig.returnType = (some .int)) (N : Nat) : ∀ (n : Nat) (x1 : Int32) (w : Wd) (q : ((Int32 × Wd) ⊕ (Wd))), X4_run_L1 N n x1 w = some q → (∀ r : Int32 × Wd, q = .inl r → Rt x (some (vi r.1)) r.2) → (∀ o : Wd, q = .inr o → Z x 71 [none, none] [] o) → Z x 25 [some (vr 0 0), some (vi x1)] [] w := by
  intro n
  induction n with
  | zero =>
    intro x1 w q h
    cases h
  | succ n ih =>
    intro x1 w q h kr ke
    rw [X4_run_L1] at h
    refine Z_iload_n hC (dk d_X4_run 13 rfl) 26 rfl rfl rfl ?_
    refine Z_bipush (v := 30) hC (dk d_X4_run 14 rfl) 28 rfl (by decide) ?_
    refine Z_icmp_ge hC (dk d_X4_run 15 rfl) 31 71 rfl (by decide) (fun c => ?_) (fun c => ?_)
    · have h := it_t h c
      obtain rfl := Option.some.inj h
      refine Z_wk [false, false] [none, none] rfl ?_
      exact ke _ rfl
    · have h := it_f h c
      refine Z_aload_n hC (dk d_X4_run 16 rfl) 32 rfl rfl rfl ?_
      refine G_X4_40 hC m_0 (dk d_X4_run 17 rfl) 35 rfl ?_
      refine Z_aload_n hC (dk d_X4_run 18 rfl) 36 rfl rfl rfl ?_
      refine G_X4_30 hC m_0 (dk d_X4_run 19 rfl) 39 rfl ?_
      refine Z_iconst (v := 1) hC (dk d_X4_run 20 rfl) 40 rfl (by decide) ?_
      refine Z_iconst (v := 1) hC (dk d_X4_run 21 rfl) 41 rfl (by decide) ?_
      obtain ⟨q2, hq2, h⟩ := bd_some h
      refine K_X4_257 [vr 3 1, vi (1 : Int32), vi (1 : Int32)] hC (m_4 (by decide)) (s_X2_list (xG x) (xl x) N 1 (by decide) (1 : Int32) (1 : Int32) w q2 hq2) (Nat.le_of_ble_eq_true rfl) rfl rfl rfl (Nat.le_of_ble_eq_true rfl) (dk d_X4_run 22 rfl) 44 rfl ?_
      refine Z_if_ne hC (dk d_X4_run 23 rfl) 47 49 rfl (by decide) (fun c => ?_) (fun c => ?_)
      · have h := it_f h c
        refine Z_aload_n hC (dk d_X4_run 26 rfl) 50 rfl rfl rfl ?_
        refine G_X4_30 hC m_0 (dk d_X4_run 27 rfl) 53 rfl ?_
        refine Z_aload_n hC (dk d_X4_run 28 rfl) 54 rfl rfl rfl ?_
        refine G_X4_40 hC m_0 (dk d_X4_run 29 rfl) 57 rfl ?_
        refine G_X4_189 hC (m_4 (by decide)) (dk d_X4_run 30 rfl) 60 rfl ?_
        refine Z_iconst (v := 0) hC (dk d_X4_run 31 rfl) 61 rfl (by decide) ?_
        obtain ⟨g3, h⟩ := gd_some h
        refine Z_iaload hC (m_20 (by decide)) (by decide) rfl g3 (dk d_X4_run 32 rfl) 62 rfl ?_
        obtain ⟨q4, hq4, h⟩ := bd_some h
        refine K_X4_250 [vi (gA q2.2 20 1 (0 : Int32).toNatClampNeg)] hC (m_3 (by decide)) (s_X0_addYear (xG x) (xl x) N 1 (by decide) (gA q2.2 20 1 (0 : Int32).toNatClampNeg) q2.2 q4 hq4) (Nat.le_of_ble_eq_true rfl) rfl rfl rfl (Nat.le_of_ble_eq_true rfl) (dk d_X4_run 33 rfl) 65 rfl ?_
        refine Z_iinc hC (dk d_X4_run 34 rfl) 68 rfl rfl rfl [some (vr 0 0), some (vi (x1 + (1 : Int32)))] rfl ?_
        refine Z_goto hC (dk d_X4_run 35 rfl) 25 (by decide) ?_
        refine Z_wk [true, true] [some (vr 0 0), some (vi (x1 + (1 : Int32)))] rfl ?_
        exact ih (x1 + (1 : Int32)) q4 _ h kr ke
      · have h := it_t h c
        refine Z_iload_n hC (dk d_X4_run 24 rfl) 48 rfl rfl rfl ?_
        obtain rfl := Option.some.inj h
        exact Z_ireturn (st := []) hC hr (kr _ rfl) (dk d_X4_run 25 rfl)
noncomputable def f_X4_run (N : Nat) (w : Wd) : Option (Int32 × Wd) :=
  if (gI w 4 0) = 0 then
    some ((0 : Int32), w)
  else
    (f_X0_become N 1 0 w).bind (fun q1 =>
      (X4_run_L1 N N (0 : Int32) q1).bind (Sum.elim some (fun q5 =>
        some ((30 : Int32), q5))))
set_option maxRecDepth 20000 in
set_option maxHeartbeats 4000000 in
theorem s_X4_run (G : GT) (l : Launch) (N : Nat) (w : Wd) (q : Int32 × Wd) (h : f_X4_run N w = some q) : Sp G l yX4_run cw_X4_run 13 [vr 0 0] w (some (vi q.1)) q.2 := by
  refine Sp_of (own := RX4) [some (vr 0 0), none] (by decide) rfl rfl (Nat.le_of_ble_eq_true rfl) ?_
  intro x hG hl hC hr hQ _ _
  subst hG
  subst hl
  unfold f_X4_run at h
  refine Z_aload_n hC (dk d_X4_run 0 rfl) 1 rfl rfl rfl ?_
  refine G_X4_26 hC m_0 (dk d_X4_run 1 rfl) 4 rfl ?_
  refine G_X4_132 hC (m_3 (by decide)) (dk d_X4_run 2 rfl) 7 rfl ?_
  refine Z_if_ne hC (dk d_X4_run 3 rfl) 10 12 rfl (by decide) (fun c => ?_) (fun c => ?_)
  · have h := it_f h c
    refine Z_aload_n hC (dk d_X4_run 6 rfl) 13 rfl rfl rfl ?_
    refine G_X4_30 hC m_0 (dk d_X4_run 7 rfl) 16 rfl ?_
    refine Z_aload_n hC (dk d_X4_run 8 rfl) 17 rfl rfl rfl ?_
    refine G_X4_26 hC m_0 (dk d_X4_run 9 rfl) 20 rfl ?_
    obtain ⟨q1, hq1, h⟩ := bd_some h
    refine K_X4_253 [vr 3 0] hC (m_3 (by decide)) (s_X0_become (xG x) (xl x) N 1 0 (by decide) (by decide) w q1 hq1) (Nat.le_of_ble_eq_true rfl) rfl rfl rfl (Nat.le_of_ble_eq_true rfl) (dk d_X4_run 10 rfl) 23 rfl ?_
    refine Z_iconst (v := 0) hC (dk d_X4_run 11 rfl) 24 rfl (by decide) ?_
    refine Z_istore_n hC (dk d_X4_run 12 rfl) 25 rfl rfl (Nat.le_of_ble_eq_true rfl) [some (vr 0 0), some (vi (0 : Int32))] rfl ?_
    obtain ⟨q5, hq5, h⟩ := bd_some h
    refine Z_wk [true, true] [some (vr 0 0), some (vi (0 : Int32))] rfl ?_
    refine z_X4_run_L1 hC hr N N (0 : Int32) q1 q5 hq5 (fun r e => ?_) (fun o e => ?_)
    · subst e
      obtain rfl := Option.some.inj h
      exact hQ
    · subst e
      obtain ⟨q5, rfl⟩ : ∃ z, z = o := ⟨_, rfl⟩
      refine Z_bipush (v := 30) hC (dk d_X4_run 36 rfl) 73 rfl (by decide) ?_
      obtain rfl := Option.some.inj h
      exact Z_ireturn (st := []) hC hr hQ (dk d_X4_run 37 rfl)
  · have h := it_t h c
    refine Z_iconst (v := 0) hC (dk d_X4_run 4 rfl) 11 rfl (by decide) ?_
    obtain rfl := Option.some.inj h
    exact Z_ireturn (st := []) hC hr hQ (dk d_X4_run 5 rfl)
