theorem wo_inst : Cond.instanceMethod Lib.objectInit ∈ ww := ww_1 17 rfl rfl
theorem wo_code : Cond.code Lib.objectInit ⟨#[0xb1]⟩ 1 none ∈ ww := ww_1 18 rfl rfl
theorem wo_X4 : Cond.methodLink RX4 1 Lib.objectInit ∈ ww := ww_1 16 rfl rfl
theorem wo_X1 : Cond.methodLink RX1 3 Lib.objectInit ∈ ww := ww_1 24 rfl rfl
theorem wo_X3 : Cond.methodLink RX3 3 Lib.objectInit ∈ ww := ww_1 45 rfl rfl
theorem wo_X0 : Cond.methodLink RX0 3 Lib.objectInit ∈ ww := ww_1 64 rfl rfl
theorem wo_X2 : Cond.methodLink RX2 3 Lib.objectInit ∈ ww := ww_1 100 rfl rfl
theorem wo_X5 : Cond.methodLink RX5 1 Lib.objectInit ∈ ww := ww_3 194 rfl rfl
theorem wac_int : Cond.arrayClass .int ∈ ww := ww_1 39 rfl rfl
theorem wac_byte : Cond.arrayClass .byte ∈ ww := ww_1 58 rfl rfl
theorem wcl_L_7 : Cond.classLink RL 7 RX4 ∈ ww := ww_1 11 rfl rfl
theorem wcl_X4_7 : Cond.classLink RX4 7 RX1 ∈ ww := ww_1 19 rfl rfl
theorem wcl_X4_16 : Cond.classLink RX4 16 RX3 ∈ ww := ww_1 40 rfl rfl
theorem wcl_X4_23 : Cond.classLink RX4 23 RX0 ∈ ww := ww_1 59 rfl rfl
theorem wcl_X4_33 : Cond.classLink RX4 33 RX2 ∈ ww := ww_1 95 rfl rfl
theorem wcl_L_10 : Cond.classLink RL 10 RX5 ∈ ww := ww_3 189 rfl rfl
theorem wcl_X1_9 : Cond.classLink RX1 9 ("[" ++ (FieldType.array .int).toString) ∈ ww := ww_1 25 rfl rfl
theorem wcl_X3_9 : Cond.classLink RX3 9 ("[" ++ (FieldType.array .byte).toString) ∈ ww := ww_1 46 rfl rfl
theorem win_X0 : Cond.instantiable RX0 7 ∈ ww := ww_1 60 rfl rfl
theorem win_X1 : Cond.instantiable RX1 2 ∈ ww := ww_1 20 rfl rfl
theorem win_X2 : Cond.instantiable RX2 6 ∈ ww := ww_1 96 rfl rfl
theorem win_X3 : Cond.instantiable RX3 2 ∈ ww := ww_1 41 rfl rfl
theorem win_X4 : Cond.instantiable RX4 17 ∈ ww := ww_1 12 rfl rfl
theorem win_X5 : Cond.instantiable RX5 32 ∈ ww := ww_3 190 rfl rfl
theorem wc_X1_init : Cond.code yX1_init cX1_init 1 none ∈ ww := ww_1 23 rfl rfl
theorem wi_X1_init : Cond.instanceMethod yX1_init ∈ ww := ww_1 22 rfl rfl
def t_X1_init : List (Nat × Instr × Nat) := [(0, .aload_n 0, 1), (1, .invokespecial 3, 3), (4, .aload_n 0, 1), (5, .bipush 6, 2), (7, .bipush 40, 2), (9, .multianewarray 9 2, 4), (13, .putfield 11, 3), (16, .aload_n 0, 1), (17, .bipush 6, 2), (19, .newarray .int, 2), (21, .putfield 16, 3), (24, .aload_n 0, 1), (25, .getfield 16, 3), (28, .iconst (-1), 1), (29, .invokestatic 20, 3), (32, .return_, 1)]
set_option maxRecDepth 20000 in
theorem d_X1_init : ∀ q ∈ t_X1_init, decode cX1_init q.1 = .ok q.2 := by decide +kernel
theorem wc_X3_init : Cond.code yX3_init cX3_init 1 none ∈ ww := ww_1 44 rfl rfl
theorem wi_X3_init : Cond.instanceMethod yX3_init ∈ ww := ww_1 43 rfl rfl
def t_X3_init : List (Nat × Instr × Nat) := [(0, .aload_n 0, 1), (1, .invokespecial 3, 3), (4, .aload_n 0, 1), (5, .iconst 4, 1), (6, .bipush 60, 2), (8, .multianewarray 9 2, 4), (12, .putfield 11, 3), (15, .aload_n 0, 1), (16, .iconst 4, 1), (17, .newarray .int, 2), (19, .putfield 16, 3), (22, .aload_n 0, 1), (23, .getfield 16, 3), (26, .iconst (-1), 1), (27, .invokestatic 20, 3), (30, .return_, 1)]
set_option maxRecDepth 20000 in
theorem d_X3_init : ∀ q ∈ t_X3_init, decode cX3_init q.1 = .ok q.2 := by decide +kernel
theorem wc_X0_init : Cond.code yX0_init cX0_init 1 none ∈ ww := ww_1 63 rfl rfl
theorem wi_X0_init : Cond.instanceMethod yX0_init ∈ ww := ww_1 62 rfl rfl
def t_X0_init : List (Nat × Instr × Nat) := [(0, .aload_n 0, 1), (1, .invokespecial 3, 3), (4, .aload_n 0, 1), (5, .bipush 6, 2), (7, .newarray .int, 2), (9, .putfield 9, 3), (12, .aload_n 0, 1), (13, .bipush 6, 2), (15, .newarray .int, 2), (17, .putfield 15, 3), (20, .aload_n 0, 1), (21, .bipush 6, 2), (23, .newarray .int, 2), (25, .putfield 18, 3), (28, .aload_n 0, 1), (29, .bipush 42, 2), (31, .newarray .int, 2), (33, .putfield 21, 3), (36, .aload_n 0, 1), (37, .bipush 7, 2), (39, .putfield 24, 3), (42, .return_, 1)]
set_option maxRecDepth 20000 in
theorem d_X0_init : ∀ q ∈ t_X0_init, decode cX0_init q.1 = .ok q.2 := by decide +kernel
theorem wc_X2_init : Cond.code yX2_init cX2_init 2 none ∈ ww := ww_1 99 rfl rfl
theorem wi_X2_init : Cond.instanceMethod yX2_init ∈ ww := ww_1 98 rfl rfl
def t_X2_init : List (Nat × Instr × Nat) := [(0, .aload_n 0, 1), (1, .invokespecial 3, 3), (4, .aload_n 0, 1), (5, .aload_n 1, 1), (6, .putfield 9, 3), (9, .aload_n 0, 1), (10, .sipush 265, 3), (13, .newarray .int, 2), (15, .putfield 15, 3), (18, .aload_n 0, 1), (19, .bipush 6, 2), (21, .newarray .int, 2), (23, .putfield 19, 3), (26, .return_, 1)]
set_option maxRecDepth 20000 in
theorem d_X2_init : ∀ q ∈ t_X2_init, decode cX2_init q.1 = .ok q.2 := by decide +kernel
theorem wc_X4_init : Cond.code yX4_init cX4_init 1 none ∈ ww := ww_1 15 rfl rfl
theorem wi_X4_init : Cond.instanceMethod yX4_init ∈ ww := ww_1 14 rfl rfl
def t_X4_init : List (Nat × Instr × Nat) := [(0, .aload_n 0, 1), (1, .invokespecial 1, 3), (4, .aload_n 0, 1), (5, .new 7, 3), (8, .dup, 1), (9, .invokespecial 9, 3), (12, .putfield 10, 3), (15, .aload_n 0, 1), (16, .new 16, 3), (19, .dup, 1), (20, .invokespecial 18, 3), (23, .putfield 19, 3), (26, .aload_n 0, 1), (27, .new 23, 3), (30, .dup, 1), (31, .invokespecial 25, 3), (34, .putfield 26, 3), (37, .aload_n 0, 1), (38, .new 23, 3), (41, .dup, 1), (42, .invokespecial 25, 3), (45, .putfield 30, 3), (48, .aload_n 0, 1), (49, .new 33, 3), (52, .dup, 1), (53, .aload_n 0, 1), (54, .getfield 26, 3), (57, .invokespecial 35, 3), (60, .putfield 38, 3), (63, .aload_n 0, 1), (64, .new 33, 3), (67, .dup, 1), (68, .aload_n 0, 1), (69, .getfield 30, 3), (72, .invokespecial 35, 3), (75, .putfield 42, 3), (78, .aload_n 0, 1), (79, .iconst 3, 1), (80, .newarray .int, 2), (82, .putfield 45, 3), (85, .aload_n 0, 1), (86, .iconst 3, 1), (87, .newarray .int, 2), (89, .putfield 49, 3), (92, .aload_n 0, 1), (93, .iconst 3, 1), (94, .newarray .int, 2), (96, .putfield 52, 3), (99, .aload_n 0, 1), (100, .bipush 6, 2), (102, .newarray .int, 2), (104, .putfield 55, 3), (107, .aload_n 0, 1), (108, .getfield 49, 3), (111, .iconst (-1), 1), (112, .invokestatic 58, 3), (115, .aload_n 0, 1), (116, .lconst 1, 1), (117, .putfield 64, 3), (120, .aload_n 0, 1), (121, .iconst 1, 1), (122, .putfield 68, 3), (125, .return_, 1)]
set_option maxRecDepth 20000 in
theorem d_X4_init : ∀ q ∈ t_X4_init, decode cX4_init q.1 = .ok q.2 := by decide +kernel
theorem wc_X5_init : Cond.code yX5_init cX5_init 2 none ∈ ww := ww_3 193 rfl rfl
theorem wi_X5_init : Cond.instanceMethod yX5_init ∈ ww := ww_3 192 rfl rfl
def t_X5_init : List (Nat × Instr × Nat) := [(0, .aload_n 0, 1), (1, .invokespecial 1, 3), (4, .aload_n 0, 1), (5, .bipush 6, 2), (7, .newarray .int, 2), (9, .putfield 7, 3), (12, .aload_n 0, 1), (13, .lconst 1, 1), (14, .putfield 13, 3), (17, .aload_n 0, 1), (18, .bipush 6, 2), (20, .newarray .int, 2), (22, .putfield 17, 3), (25, .aload_n 0, 1), (26, .sipush 240, 3), (29, .newarray .int, 2), (31, .putfield 20, 3), (34, .aload_n 0, 1), (35, .bipush 40, 2), (37, .newarray .int, 2), (39, .putfield 23, 3), (42, .aload_n 0, 1), (43, .iconst 4, 1), (44, .newarray .int, 2), (46, .putfield 26, 3), (49, .aload_n 0, 1), (50, .sipush 240, 3), (53, .newarray .int, 2), (55, .putfield 29, 3), (58, .aload_n 0, 1), (59, .bipush 7, 2), (61, .putfield 32, 3), (64, .aload_n 0, 1), (65, .bipush 12, 2), (67, .newarray .int, 2), (69, .putfield 36, 3), (72, .aload_n 0, 1), (73, .bipush 12, 2), (75, .newarray .int, 2), (77, .putfield 39, 3), (80, .aload_n 0, 1), (81, .bipush 12, 2), (83, .newarray .int, 2), (85, .putfield 42, 3), (88, .aload_n 0, 1), (89, .sipush 252, 3), (92, .newarray .int, 2), (94, .putfield 45, 3), (97, .aload_n 0, 1), (98, .bipush 6, 2), (100, .newarray .int, 2), (102, .putfield 48, 3), (105, .aload_n 0, 1), (106, .sipush 4320, 3), (109, .newarray .int, 2), (111, .putfield 51, 3), (114, .aload_n 0, 1), (115, .bipush 6, 2), (117, .newarray .int, 2), (119, .putfield 54, 3), (122, .aload_n 0, 1), (123, .bipush 6, 2), (125, .newarray .int, 2), (127, .putfield 57, 3), (130, .aload_n 0, 1), (131, .bipush 24, 2), (133, .newarray .int, 2), (135, .putfield 60, 3), (138, .iconst 0, 1), (139, .istore_n 1, 1), (140, .iload_n 1, 1), (141, .bipush 6, 2), (143, .if_icmp .ge 17, 3), (146, .aload_n 0, 1), (147, .getfield 17, 3), (150, .iload_n 1, 1), (151, .bipush (-9), 2), (153, .iastore, 1), (154, .iinc 1 1, 3), (157, .goto (-17), 3), (160, .iconst 0, 1), (161, .istore_n 1, 1), (162, .iload_n 1, 1), (163, .iconst 4, 1), (164, .if_icmp .ge 17, 3), (167, .aload_n 0, 1), (168, .getfield 26, 3), (171, .iload_n 1, 1), (172, .bipush (-9), 2), (174, .iastore, 1), (175, .iinc 1 1, 3), (178, .goto (-16), 3), (181, .iconst 0, 1), (182, .istore_n 1, 1), (183, .iload_n 1, 1), (184, .iconst 3, 1), (185, .if_icmp .ge 20, 3), (188, .aload_n 0, 1), (189, .getfield 60, 3), (192, .bipush 8, 2), (194, .iload_n 1, 1), (195, .imul, 1), (196, .bipush (-9), 2), (198, .iastore, 1), (199, .iinc 1 1, 3), (202, .goto (-19), 3), (205, .return_, 1)]
set_option maxRecDepth 20000 in
theorem d_X5_init : ∀ q ∈ t_X5_init, decode cX5_init q.1 = .ok q.2 := by decide +kernel
theorem ml_L_9 : Cond.methodLink RL 9 yX4_init ∈ ww := ww_1 13 rfl rfl
theorem ml_L_12 : Cond.methodLink RL 12 yX5_init ∈ ww := ww_3 191 rfl rfl
theorem ml_X4_9 : Cond.methodLink RX4 9 yX1_init ∈ ww := ww_1 21 rfl rfl
theorem ml_X4_18 : Cond.methodLink RX4 18 yX3_init ∈ ww := ww_1 42 rfl rfl
theorem ml_X4_25 : Cond.methodLink RX4 25 yX0_init ∈ ww := ww_1 61 rfl rfl
theorem ml_X4_35 : Cond.methodLink RX4 35 yX2_init ∈ ww := ww_1 97 rfl rfl
theorem Y_eq2 {x : CX} {A : Nat → Prop} {n pc : Nat} {lv : List (Nat × Value)} {st : List Value} {ws : va_W} {cells slots : Nat} (ws' : va_W) (h : ws = ws') (k : Y x A n pc lv st ws' cells slots) : Y x A n pc lv st ws cells slots := Y_eq (own := "") (cc := ⟨#[]⟩) ws' h k
theorem Y_lv {x : CX} {A : Nat → Prop} {n pc : Nat} {lv : List (Nat × Value)} {st : List Value} {ws : va_W} {cells slots : Nat} (ks : List Nat) (lv' : List (Nat × Value)) (h : lv_pick lv ks = lv') (k : Y x A n pc lv' st ws cells slots) : Y x A n pc lv st ws cells slots := fun H locs la hl hP hD hS => k H locs la (lv_sub hl ks h) hP hD hS
abbrev dF := @d_J7_fill_53178
theorem fill_loop {x : CX} {A : Nat → Prop} (hC : YC x A RJ7 cJ7_fill_53178 4 0) (hr : (xM x).sig.returnType = none) (a n : Nat) (v : Int32) (hn : n < 2 ^ 31) (hQ : xQ x = MQ (xb x) (va_Qv (fun g : Nat → Int32 => ∀ k, k < n → g k = v) (fun u t => va_P (xG x).1 cls [(a, .inl ((xG x).2.1 0, n, .inl u))] t.heap ∧ va_D A [(a, .inl ((xG x).2.1 0, n, .inl u))]) A) (xa x) (xs x) 0 0 A) :
    ∀ (m k : Nat) (f : Nat → Int32), n < k + m → k ≤ n → (∀ j, j < k → f j = v) → Y x A 4 5 [(2, .int (nI k)), (3, .int (nI n)), (0, .ref a), (1, .int v)] [] [(a, .inl ((xG x).2.1 0, n, .inl f))] 0 0 := by
  intro m
  induction m with
  | zero => intro k f h1 h2; omega
  | succ m ih =>
    intro k f h1 h2 hf
    refine Y_iload_n hC (dk dF 5 rfl) 6 rfl rfl 0 rfl ?_
    refine Y_iload_n hC (dk dF 6 rfl) 7 rfl rfl 1 rfl ?_
    refine Y_icmp_ge hC (dk dF 7 rfl) 10 20 rfl (by decide) (fun c => ?_) (fun c => ?_)
    · have hk : k = n := by
        have := (nI_leI hn (by omega)).mp c
        omega
      subst hk
      exact Y_return (st := []) (post := fun g : Nat → Int32 => ∀ j, j < k → g j = v) f hC hr hQ hf [0] rfl rfl (dk dF 14 rfl)
    · have hk : k < n := by
        rcases Nat.lt_or_ge k n with q | q
        · exact q
        · exact absurd (nI_le q (by omega)) c
      refine Y_aload_n hC (dk dF 8 rfl) 11 rfl rfl 2 rfl ?_
      refine Y_iload_n hC (dk dF 9 rfl) 12 rfl rfl 0 rfl ?_
      refine Y_iload_n hC (dk dF 10 rfl) 13 rfl rfl 3 rfl ?_
      refine Y_iastore 0 _ hC rfl (vp_in_nI hk hn) rfl (dk dF 11 rfl) 14 rfl ?_
      refine Y_iinc (j := 0) (v' := nI (k + 1)) hC (dk dF 12 rfl) 17 rfl rfl (nI_1 k) (by decide) _ rfl ?_
      refine Y_goto hC (dk dF 13 rfl) 5 (by decide) ?_
      refine ih (k + 1) _ (by omega) (by omega) (fun j hj => ?_)
      rw [nI_clamp (by omega)]
      by_cases e : j = k
      · rw [e]; exact pk_us
      · rw [pk_un e]; exact hf j (by omega)
theorem ci_fill (G : GT) (l : Launch) (a n : Nat) (f : Nat → Int32) (v : Int32) (hn : n < 2 ^ 31) : Ci G l yJ7_fill_53178 cw_J7_fill_53178 0 0 0 [.ref a, .int v] [(a, .inl (G.2.1 0, n, .inl f))] (fun g : Nat → Int32 => ∀ k, k < n → g k = v) (fun g => [(a, .inl (G.2.1 0, n, .inl g))]) := by
  refine Ci_of (own := RJ7) (by decide) rfl (Nat.le_of_ble_eq_true rfl) [(0, .ref a), (1, .int v)] rfl ?_
  intro x A hG hl hR hC hr _ hQ
  subst hG
  refine Y_iconst (v := 0) hC (dk dF 0 rfl) 1 rfl (by decide) ?_
  refine Y_istore_n hC (dk dF 1 rfl) 2 rfl rfl (by decide) _ rfl ?_
  refine Y_aload_n hC (dk dF 2 rfl) 3 rfl rfl 1 rfl ?_
  refine Y_alen 0 hC rfl (dk dF 3 rfl) 4 rfl ?_
  refine Y_istore_n hC (dk dF 4 rfl) 5 rfl rfl (by decide) _ rfl ?_
  refine Y_lv [1, 0, 2, 3] [(2, .int (nI 0)), (3, .int (nI n)), (0, .ref a), (1, .int v)] rfl ?_
  exact fill_loop hC hr a n v hn hQ (n + 1) 0 f (by omega) (by omega) (fun j hj => by omega)
set_option maxRecDepth 20000 in
set_option maxHeartbeats 400000 in
theorem ci_X1_init (G : GT) (l : Launch) (h0 : Nat) : Ci G l yX1_init (.code yX1_init cX1_init 1 none :: ww) 1 8 252 [.ref h0] [(h0, .inr (1, [.null, .null]))] (fun u : Nat × (Nat → Nat) × Nat × (Nat → Int32) => ∀ k, k < 6 → u.2.2.2 k = -1) (fun u => [(h0, .inr (1, [.ref u.1, .ref u.2.2.1])), (u.1, .inl (G.2.1 2, 6, .inr (.inr (.inr (.inr (fun i => if i < 6 then some (u.2.1 i) else none)))))), ((u.2.1 0), .inl (G.2.1 0, 40, .inl (fun _ => 0))), ((u.2.1 1), .inl (G.2.1 0, 40, .inl (fun _ => 0))), ((u.2.1 2), .inl (G.2.1 0, 40, .inl (fun _ => 0))), ((u.2.1 3), .inl (G.2.1 0, 40, .inl (fun _ => 0))), ((u.2.1 4), .inl (G.2.1 0, 40, .inl (fun _ => 0))), ((u.2.1 5), .inl (G.2.1 0, 40, .inl (fun _ => 0))), (u.2.2.1, .inl (G.2.1 0, 6, .inl u.2.2.2))]) := by
  refine Ci_of (own := RX1) (by decide) rfl (Nat.le_of_ble_eq_true rfl) [(0, .ref h0)] rfl ?_
  intro x A hG hl hR hC hr hnm hQ
  subst hG
  subst hl
  refine Y_aload_n hC (dk d_X1_init 0 rfl) 1 rfl rfl 0 rfl ?_
  refine Y_objInit hC (by decide) wo_X1 wo_inst wo_code (by decide) (dk d_X1_init 1 rfl) 4 rfl ?_
  refine Y_aload_n hC (dk d_X1_init 2 rfl) 5 rfl rfl 0 rfl ?_
  refine Y_bipush (v := 6) hC (dk d_X1_init 3 rfl) 7 rfl (by decide) ?_
  refine Y_bipush (v := 40) hC (dk d_X1_init 4 rfl) 9 rfl (by decide) ?_
  refine Y_multi (z := (40, .inl (fun _ => 0))) .int 0 2 6 40 hC rfl rfl (fun s cA h => va_nm_int h) hC.2.2.2.2.2.1.1 wcl_X1_9 wac_int (by decide) (by decide) (by decide) (by decide) (by decide) (by decide) (by decide) rfl rfl (by rw [hR]; decide) (by rw [hR]; decide) (fun c => by show ({ cls := c, slots := Array.replicate 40 (.int 0), vm := .none } : Cell) = _; rw [arrV_new]; rfl) (dk d_X1_init 5 rfl) 13 rfl (fun q1 r1 => ?_)
  refine Y_eq2 [(h0, .inr (1, [.null, .null])), (q1, .inl ((xG x).2.1 2, 6, .inr (.inr (.inr (.inr (fun i => if i < 6 then some (r1 i) else none)))))), ((r1 0), .inl ((xG x).2.1 0, 40, .inl (fun _ => 0))), ((r1 1), .inl ((xG x).2.1 0, 40, .inl (fun _ => 0))), ((r1 2), .inl ((xG x).2.1 0, 40, .inl (fun _ => 0))), ((r1 3), .inl ((xG x).2.1 0, 40, .inl (fun _ => 0))), ((r1 4), .inl ((xG x).2.1 0, 40, .inl (fun _ => 0))), ((r1 5), .inl ((xG x).2.1 0, 40, .inl (fun _ => 0)))] rfl ?_
  refine Y_put (ty := tyX1 0) tyX1 0 0 [.null, .null] [(h0, .inr (1, [.ref q1, .null])), (q1, .inl ((xG x).2.1 2, 6, .inr (.inr (.inr (.inr (fun i => if i < 6 then some (r1 i) else none)))))), ((r1 0), .inl ((xG x).2.1 0, 40, .inl (fun _ => 0))), ((r1 1), .inl ((xG x).2.1 0, 40, .inl (fun _ => 0))), ((r1 2), .inl ((xG x).2.1 0, 40, .inl (fun _ => 0))), ((r1 3), .inl ((xG x).2.1 0, 40, .inl (fun _ => 0))), ((r1 4), .inl ((xG x).2.1 0, 40, .inl (fun _ => 0))), ((r1 5), .inl ((xG x).2.1 0, 40, .inl (fun _ => 0)))] hC hnm rfl rfl uw_X1 tyX1_ok nmX1 (by decide) fk_X1_11 rfl rfl (by decide +kernel) rfl rfl (Nat.le_of_ble_eq_true rfl) rfl (dk d_X1_init 6 rfl) 16 rfl ?_
  refine Y_aload_n hC (dk d_X1_init 7 rfl) 17 rfl rfl 0 rfl ?_
  refine Y_bipush (v := 6) hC (dk d_X1_init 8 rfl) 19 rfl (by decide) ?_
  refine Y_newI 6 hC (by decide) (by decide) (by decide) (by rw [hR]; decide) (by rw [hR]; decide) wac_int (dk d_X1_init 9 rfl) 21 rfl (fun q2 => ?_)
  refine Y_eq2 [(h0, .inr (1, [.ref q1, .null])), (q1, .inl ((xG x).2.1 2, 6, .inr (.inr (.inr (.inr (fun i => if i < 6 then some (r1 i) else none)))))), ((r1 0), .inl ((xG x).2.1 0, 40, .inl (fun _ => 0))), ((r1 1), .inl ((xG x).2.1 0, 40, .inl (fun _ => 0))), ((r1 2), .inl ((xG x).2.1 0, 40, .inl (fun _ => 0))), ((r1 3), .inl ((xG x).2.1 0, 40, .inl (fun _ => 0))), ((r1 4), .inl ((xG x).2.1 0, 40, .inl (fun _ => 0))), ((r1 5), .inl ((xG x).2.1 0, 40, .inl (fun _ => 0))), (q2, .inl ((xG x).2.1 0, 6, .inl (fun _ => 0)))] rfl ?_
  refine Y_put (ty := tyX1 1) tyX1 0 1 [.ref q1, .null] [(h0, .inr (1, [.ref q1, .ref q2])), (q1, .inl ((xG x).2.1 2, 6, .inr (.inr (.inr (.inr (fun i => if i < 6 then some (r1 i) else none)))))), ((r1 0), .inl ((xG x).2.1 0, 40, .inl (fun _ => 0))), ((r1 1), .inl ((xG x).2.1 0, 40, .inl (fun _ => 0))), ((r1 2), .inl ((xG x).2.1 0, 40, .inl (fun _ => 0))), ((r1 3), .inl ((xG x).2.1 0, 40, .inl (fun _ => 0))), ((r1 4), .inl ((xG x).2.1 0, 40, .inl (fun _ => 0))), ((r1 5), .inl ((xG x).2.1 0, 40, .inl (fun _ => 0))), (q2, .inl ((xG x).2.1 0, 6, .inl (fun _ => 0)))] hC hnm rfl rfl uw_X1 tyX1_ok nmX1 (by decide) fk_X1_16 rfl rfl (by decide +kernel) rfl rfl (Nat.le_of_ble_eq_true rfl) rfl (dk d_X1_init 10 rfl) 24 rfl ?_
  refine Y_aload_n hC (dk d_X1_init 11 rfl) 25 rfl rfl 0 rfl ?_
  refine Y_get 0 1 [.ref q1, .ref q2] hC rfl rfl uw_X1 (by decide) fk_X1_16 rfl rfl (dk d_X1_init 12 rfl) 28 rfl ?_
  refine Y_iconst (v := -1) hC (dk d_X1_init 13 rfl) 29 rfl (by decide) ?_
  refine Y_callS (wr := [(h0, .inr (1, [.ref q1, .ref q2])), (q1, .inl ((xG x).2.1 2, 6, .inr (.inr (.inr (.inr (fun i => if i < 6 then some (r1 i) else none)))))), ((r1 0), .inl ((xG x).2.1 0, 40, .inl (fun _ => 0))), ((r1 1), .inl ((xG x).2.1 0, 40, .inl (fun _ => 0))), ((r1 2), .inl ((xG x).2.1 0, 40, .inl (fun _ => 0))), ((r1 3), .inl ((xG x).2.1 0, 40, .inl (fun _ => 0))), ((r1 4), .inl ((xG x).2.1 0, 40, .inl (fun _ => 0))), ((r1 5), .inl ((xG x).2.1 0, 40, .inl (fun _ => 0)))]) (m := 2) [.ref q2, .int (-1)] [8] [0, 1, 2, 3, 4, 5, 6, 7] hC (ci_fill (xG x) (xl x) q2 6 (fun _ => 0) (-1) (by decide)) ⟨by decide, by decide, by decide +kernel⟩ ml_X1_20 wi_J7_fill_53178 wini_J7 wc_J7_fill_53178 (by decide) (by decide) rfl rfl (Nat.le_of_ble_eq_true rfl) (by rw [hR]; decide) (by rw [hR]; decide) rfl rfl (by decide) (by decide) (by decide) (dk d_X1_init 14 rfl) 32 rfl (fun f3 hf3 => ?_)
  refine Y_eq2 [(h0, .inr (1, [.ref q1, .ref q2])), (q1, .inl ((xG x).2.1 2, 6, .inr (.inr (.inr (.inr (fun i => if i < 6 then some (r1 i) else none)))))), ((r1 0), .inl ((xG x).2.1 0, 40, .inl (fun _ => 0))), ((r1 1), .inl ((xG x).2.1 0, 40, .inl (fun _ => 0))), ((r1 2), .inl ((xG x).2.1 0, 40, .inl (fun _ => 0))), ((r1 3), .inl ((xG x).2.1 0, 40, .inl (fun _ => 0))), ((r1 4), .inl ((xG x).2.1 0, 40, .inl (fun _ => 0))), ((r1 5), .inl ((xG x).2.1 0, 40, .inl (fun _ => 0))), (q2, .inl ((xG x).2.1 0, 6, .inl f3))] rfl ?_
  exact Y_return (st := []) (post := fun u : Nat × (Nat → Nat) × Nat × (Nat → Int32) => ∀ k, k < 6 → u.2.2.2 k = -1) (q1, r1, q2, f3) hC hr hQ hf3 [0, 1, 2, 3, 4, 5, 6, 7, 8] (by decide) rfl (dk d_X1_init 15 rfl)
set_option maxRecDepth 20000 in
set_option maxHeartbeats 400000 in
theorem ci_X3_init (G : GT) (l : Launch) (h0 : Nat) : Ci G l yX3_init (.code yX3_init cX3_init 1 none :: ww) 1 6 248 [.ref h0] [(h0, .inr (3, [.null, .null]))] (fun u : Nat × (Nat → Nat) × Nat × (Nat → Int32) => ∀ k, k < 4 → u.2.2.2 k = -1) (fun u => [(h0, .inr (3, [.ref u.1, .ref u.2.2.1])), (u.1, .inl (G.2.1 3, 4, .inr (.inr (.inr (.inr (fun i => if i < 4 then some (u.2.1 i) else none)))))), ((u.2.1 0), .inl (G.2.1 1, 60, .inl (fun _ => 0))), ((u.2.1 1), .inl (G.2.1 1, 60, .inl (fun _ => 0))), ((u.2.1 2), .inl (G.2.1 1, 60, .inl (fun _ => 0))), ((u.2.1 3), .inl (G.2.1 1, 60, .inl (fun _ => 0))), (u.2.2.1, .inl (G.2.1 0, 4, .inl u.2.2.2))]) := by
  refine Ci_of (own := RX3) (by decide) rfl (Nat.le_of_ble_eq_true rfl) [(0, .ref h0)] rfl ?_
  intro x A hG hl hR hC hr hnm hQ
  subst hG
  subst hl
  refine Y_aload_n hC (dk d_X3_init 0 rfl) 1 rfl rfl 0 rfl ?_
  refine Y_objInit hC (by decide) wo_X3 wo_inst wo_code (by decide) (dk d_X3_init 1 rfl) 4 rfl ?_
  refine Y_aload_n hC (dk d_X3_init 2 rfl) 5 rfl rfl 0 rfl ?_
  refine Y_iconst (v := 4) hC (dk d_X3_init 3 rfl) 6 rfl (by decide) ?_
  refine Y_bipush (v := 60) hC (dk d_X3_init 4 rfl) 8 rfl (by decide) ?_
  refine Y_multi (z := (60, .inl (fun _ => 0))) .byte 1 3 4 60 hC rfl rfl (fun s cA h => va_nm_byte h) hC.2.2.2.2.2.1.2 wcl_X3_9 wac_byte (by decide) (by decide) (by decide) (by decide) (by decide) (by decide) (by decide) rfl rfl (by rw [hR]; decide) (by rw [hR]; decide) (fun c => by show ({ cls := c, slots := Array.replicate 60 (.int 0), vm := .none } : Cell) = _; rw [arrV_new]; rfl) (dk d_X3_init 5 rfl) 12 rfl (fun q1 r1 => ?_)
  refine Y_eq2 [(h0, .inr (3, [.null, .null])), (q1, .inl ((xG x).2.1 3, 4, .inr (.inr (.inr (.inr (fun i => if i < 4 then some (r1 i) else none)))))), ((r1 0), .inl ((xG x).2.1 1, 60, .inl (fun _ => 0))), ((r1 1), .inl ((xG x).2.1 1, 60, .inl (fun _ => 0))), ((r1 2), .inl ((xG x).2.1 1, 60, .inl (fun _ => 0))), ((r1 3), .inl ((xG x).2.1 1, 60, .inl (fun _ => 0)))] rfl ?_
  refine Y_put (ty := tyX3 0) tyX3 0 0 [.null, .null] [(h0, .inr (3, [.ref q1, .null])), (q1, .inl ((xG x).2.1 3, 4, .inr (.inr (.inr (.inr (fun i => if i < 4 then some (r1 i) else none)))))), ((r1 0), .inl ((xG x).2.1 1, 60, .inl (fun _ => 0))), ((r1 1), .inl ((xG x).2.1 1, 60, .inl (fun _ => 0))), ((r1 2), .inl ((xG x).2.1 1, 60, .inl (fun _ => 0))), ((r1 3), .inl ((xG x).2.1 1, 60, .inl (fun _ => 0)))] hC hnm rfl rfl uw_X3 tyX3_ok nmX3 (by decide) fk_X3_11 rfl rfl (by decide +kernel) rfl rfl (Nat.le_of_ble_eq_true rfl) rfl (dk d_X3_init 6 rfl) 15 rfl ?_
  refine Y_aload_n hC (dk d_X3_init 7 rfl) 16 rfl rfl 0 rfl ?_
  refine Y_iconst (v := 4) hC (dk d_X3_init 8 rfl) 17 rfl (by decide) ?_
  refine Y_newI 4 hC (by decide) (by decide) (by decide) (by rw [hR]; decide) (by rw [hR]; decide) wac_int (dk d_X3_init 9 rfl) 19 rfl (fun q2 => ?_)
  refine Y_eq2 [(h0, .inr (3, [.ref q1, .null])), (q1, .inl ((xG x).2.1 3, 4, .inr (.inr (.inr (.inr (fun i => if i < 4 then some (r1 i) else none)))))), ((r1 0), .inl ((xG x).2.1 1, 60, .inl (fun _ => 0))), ((r1 1), .inl ((xG x).2.1 1, 60, .inl (fun _ => 0))), ((r1 2), .inl ((xG x).2.1 1, 60, .inl (fun _ => 0))), ((r1 3), .inl ((xG x).2.1 1, 60, .inl (fun _ => 0))), (q2, .inl ((xG x).2.1 0, 4, .inl (fun _ => 0)))] rfl ?_
  refine Y_put (ty := tyX3 1) tyX3 0 1 [.ref q1, .null] [(h0, .inr (3, [.ref q1, .ref q2])), (q1, .inl ((xG x).2.1 3, 4, .inr (.inr (.inr (.inr (fun i => if i < 4 then some (r1 i) else none)))))), ((r1 0), .inl ((xG x).2.1 1, 60, .inl (fun _ => 0))), ((r1 1), .inl ((xG x).2.1 1, 60, .inl (fun _ => 0))), ((r1 2), .inl ((xG x).2.1 1, 60, .inl (fun _ => 0))), ((r1 3), .inl ((xG x).2.1 1, 60, .inl (fun _ => 0))), (q2, .inl ((xG x).2.1 0, 4, .inl (fun _ => 0)))] hC hnm rfl rfl uw_X3 tyX3_ok nmX3 (by decide) fk_X3_16 rfl rfl (by decide +kernel) rfl rfl (Nat.le_of_ble_eq_true rfl) rfl (dk d_X3_init 10 rfl) 22 rfl ?_
  refine Y_aload_n hC (dk d_X3_init 11 rfl) 23 rfl rfl 0 rfl ?_
  refine Y_get 0 1 [.ref q1, .ref q2] hC rfl rfl uw_X3 (by decide) fk_X3_16 rfl rfl (dk d_X3_init 12 rfl) 26 rfl ?_
  refine Y_iconst (v := -1) hC (dk d_X3_init 13 rfl) 27 rfl (by decide) ?_
  refine Y_callS (wr := [(h0, .inr (3, [.ref q1, .ref q2])), (q1, .inl ((xG x).2.1 3, 4, .inr (.inr (.inr (.inr (fun i => if i < 4 then some (r1 i) else none)))))), ((r1 0), .inl ((xG x).2.1 1, 60, .inl (fun _ => 0))), ((r1 1), .inl ((xG x).2.1 1, 60, .inl (fun _ => 0))), ((r1 2), .inl ((xG x).2.1 1, 60, .inl (fun _ => 0))), ((r1 3), .inl ((xG x).2.1 1, 60, .inl (fun _ => 0)))]) (m := 2) [.ref q2, .int (-1)] [6] [0, 1, 2, 3, 4, 5] hC (ci_fill (xG x) (xl x) q2 4 (fun _ => 0) (-1) (by decide)) ⟨by decide, by decide, by decide +kernel⟩ ml_X3_20 wi_J7_fill_53178 wini_J7 wc_J7_fill_53178 (by decide) (by decide) rfl rfl (Nat.le_of_ble_eq_true rfl) (by rw [hR]; decide) (by rw [hR]; decide) rfl rfl (by decide) (by decide) (by decide) (dk d_X3_init 14 rfl) 30 rfl (fun f3 hf3 => ?_)
  refine Y_eq2 [(h0, .inr (3, [.ref q1, .ref q2])), (q1, .inl ((xG x).2.1 3, 4, .inr (.inr (.inr (.inr (fun i => if i < 4 then some (r1 i) else none)))))), ((r1 0), .inl ((xG x).2.1 1, 60, .inl (fun _ => 0))), ((r1 1), .inl ((xG x).2.1 1, 60, .inl (fun _ => 0))), ((r1 2), .inl ((xG x).2.1 1, 60, .inl (fun _ => 0))), ((r1 3), .inl ((xG x).2.1 1, 60, .inl (fun _ => 0))), (q2, .inl ((xG x).2.1 0, 4, .inl f3))] rfl ?_
  exact Y_return (st := []) (post := fun u : Nat × (Nat → Nat) × Nat × (Nat → Int32) => ∀ k, k < 4 → u.2.2.2 k = -1) (q1, r1, q2, f3) hC hr hQ hf3 [0, 1, 2, 3, 4, 5, 6] (by decide) rfl (dk d_X3_init 15 rfl)
set_option maxRecDepth 20000 in
set_option maxHeartbeats 400000 in
theorem ci_X0_init (G : GT) (l : Launch) (h0 : Nat) : Ci G l yX0_init (.code yX0_init cX0_init 1 none :: ww) 1 4 60 [.ref h0] [(h0, .inr (0, [.null, .null, .null, .null, .int 0, .int 0, .int 0]))] (fun u : Nat → Nat => True) (fun u => [(h0, .inr (0, [.ref (u 0), .ref (u 1), .ref (u 2), .ref (u 3), .int 0, .int 0, .int 7])), ((u 0), .inl (G.2.1 0, 6, .inl (fun _ => 0))), ((u 1), .inl (G.2.1 0, 6, .inl (fun _ => 0))), ((u 2), .inl (G.2.1 0, 6, .inl (fun _ => 0))), ((u 3), .inl (G.2.1 0, 42, .inl (fun _ => 0)))]) := by
  refine Ci_of (own := RX0) (by decide) rfl (Nat.le_of_ble_eq_true rfl) [(0, .ref h0)] rfl ?_
  intro x A hG hl hR hC hr hnm hQ
  subst hG
  subst hl
  refine Y_aload_n hC (dk d_X0_init 0 rfl) 1 rfl rfl 0 rfl ?_
  refine Y_objInit hC (by decide) wo_X0 wo_inst wo_code (by decide) (dk d_X0_init 1 rfl) 4 rfl ?_
  refine Y_aload_n hC (dk d_X0_init 2 rfl) 5 rfl rfl 0 rfl ?_
  refine Y_bipush (v := 6) hC (dk d_X0_init 3 rfl) 7 rfl (by decide) ?_
  refine Y_newI 6 hC (by decide) (by decide) (by decide) (by rw [hR]; decide) (by rw [hR]; decide) wac_int (dk d_X0_init 4 rfl) 9 rfl (fun q1 => ?_)
  refine Y_eq2 [(h0, .inr (0, [.null, .null, .null, .null, .int 0, .int 0, .int 0])), (q1, .inl ((xG x).2.1 0, 6, .inl (fun _ => 0)))] rfl ?_
  refine Y_put (ty := tyX0 0) tyX0 0 0 [.null, .null, .null, .null, .int 0, .int 0, .int 0] [(h0, .inr (0, [.ref q1, .null, .null, .null, .int 0, .int 0, .int 0])), (q1, .inl ((xG x).2.1 0, 6, .inl (fun _ => 0)))] hC hnm rfl rfl uw_X0 tyX0_ok nmX0 (by decide) fk_X0_9 rfl rfl (by decide +kernel) rfl rfl (Nat.le_of_ble_eq_true rfl) rfl (dk d_X0_init 5 rfl) 12 rfl ?_
  refine Y_aload_n hC (dk d_X0_init 6 rfl) 13 rfl rfl 0 rfl ?_
  refine Y_bipush (v := 6) hC (dk d_X0_init 7 rfl) 15 rfl (by decide) ?_
  refine Y_newI 6 hC (by decide) (by decide) (by decide) (by rw [hR]; decide) (by rw [hR]; decide) wac_int (dk d_X0_init 8 rfl) 17 rfl (fun q2 => ?_)
  refine Y_eq2 [(h0, .inr (0, [.ref q1, .null, .null, .null, .int 0, .int 0, .int 0])), (q1, .inl ((xG x).2.1 0, 6, .inl (fun _ => 0))), (q2, .inl ((xG x).2.1 0, 6, .inl (fun _ => 0)))] rfl ?_
  refine Y_put (ty := tyX0 1) tyX0 0 1 [.ref q1, .null, .null, .null, .int 0, .int 0, .int 0] [(h0, .inr (0, [.ref q1, .ref q2, .null, .null, .int 0, .int 0, .int 0])), (q1, .inl ((xG x).2.1 0, 6, .inl (fun _ => 0))), (q2, .inl ((xG x).2.1 0, 6, .inl (fun _ => 0)))] hC hnm rfl rfl uw_X0 tyX0_ok nmX0 (by decide) fk_X0_15 rfl rfl (by decide +kernel) rfl rfl (Nat.le_of_ble_eq_true rfl) rfl (dk d_X0_init 9 rfl) 20 rfl ?_
  refine Y_aload_n hC (dk d_X0_init 10 rfl) 21 rfl rfl 0 rfl ?_
  refine Y_bipush (v := 6) hC (dk d_X0_init 11 rfl) 23 rfl (by decide) ?_
  refine Y_newI 6 hC (by decide) (by decide) (by decide) (by rw [hR]; decide) (by rw [hR]; decide) wac_int (dk d_X0_init 12 rfl) 25 rfl (fun q3 => ?_)
  refine Y_eq2 [(h0, .inr (0, [.ref q1, .ref q2, .null, .null, .int 0, .int 0, .int 0])), (q1, .inl ((xG x).2.1 0, 6, .inl (fun _ => 0))), (q2, .inl ((xG x).2.1 0, 6, .inl (fun _ => 0))), (q3, .inl ((xG x).2.1 0, 6, .inl (fun _ => 0)))] rfl ?_
  refine Y_put (ty := tyX0 2) tyX0 0 2 [.ref q1, .ref q2, .null, .null, .int 0, .int 0, .int 0] [(h0, .inr (0, [.ref q1, .ref q2, .ref q3, .null, .int 0, .int 0, .int 0])), (q1, .inl ((xG x).2.1 0, 6, .inl (fun _ => 0))), (q2, .inl ((xG x).2.1 0, 6, .inl (fun _ => 0))), (q3, .inl ((xG x).2.1 0, 6, .inl (fun _ => 0)))] hC hnm rfl rfl uw_X0 tyX0_ok nmX0 (by decide) fk_X0_18 rfl rfl (by decide +kernel) rfl rfl (Nat.le_of_ble_eq_true rfl) rfl (dk d_X0_init 13 rfl) 28 rfl ?_
  refine Y_aload_n hC (dk d_X0_init 14 rfl) 29 rfl rfl 0 rfl ?_
  refine Y_bipush (v := 42) hC (dk d_X0_init 15 rfl) 31 rfl (by decide) ?_
  refine Y_newI 42 hC (by decide) (by decide) (by decide) (by rw [hR]; decide) (by rw [hR]; decide) wac_int (dk d_X0_init 16 rfl) 33 rfl (fun q4 => ?_)
  refine Y_eq2 [(h0, .inr (0, [.ref q1, .ref q2, .ref q3, .null, .int 0, .int 0, .int 0])), (q1, .inl ((xG x).2.1 0, 6, .inl (fun _ => 0))), (q2, .inl ((xG x).2.1 0, 6, .inl (fun _ => 0))), (q3, .inl ((xG x).2.1 0, 6, .inl (fun _ => 0))), (q4, .inl ((xG x).2.1 0, 42, .inl (fun _ => 0)))] rfl ?_
  refine Y_put (ty := tyX0 3) tyX0 0 3 [.ref q1, .ref q2, .ref q3, .null, .int 0, .int 0, .int 0] [(h0, .inr (0, [.ref q1, .ref q2, .ref q3, .ref q4, .int 0, .int 0, .int 0])), (q1, .inl ((xG x).2.1 0, 6, .inl (fun _ => 0))), (q2, .inl ((xG x).2.1 0, 6, .inl (fun _ => 0))), (q3, .inl ((xG x).2.1 0, 6, .inl (fun _ => 0))), (q4, .inl ((xG x).2.1 0, 42, .inl (fun _ => 0)))] hC hnm rfl rfl uw_X0 tyX0_ok nmX0 (by decide) fk_X0_21 rfl rfl (by decide +kernel) rfl rfl (Nat.le_of_ble_eq_true rfl) rfl (dk d_X0_init 17 rfl) 36 rfl ?_
  refine Y_aload_n hC (dk d_X0_init 18 rfl) 37 rfl rfl 0 rfl ?_
  refine Y_bipush (v := 7) hC (dk d_X0_init 19 rfl) 39 rfl (by decide) ?_
  refine Y_put (ty := tyX0 6) tyX0 0 6 [.ref q1, .ref q2, .ref q3, .ref q4, .int 0, .int 0, .int 0] [(h0, .inr (0, [.ref q1, .ref q2, .ref q3, .ref q4, .int 0, .int 0, .int 7])), (q1, .inl ((xG x).2.1 0, 6, .inl (fun _ => 0))), (q2, .inl ((xG x).2.1 0, 6, .inl (fun _ => 0))), (q3, .inl ((xG x).2.1 0, 6, .inl (fun _ => 0))), (q4, .inl ((xG x).2.1 0, 42, .inl (fun _ => 0)))] hC hnm rfl rfl uw_X0 tyX0_ok nmX0 (by decide) fk_X0_24 rfl rfl (by decide +kernel) rfl rfl (Nat.le_of_ble_eq_true rfl) rfl (dk d_X0_init 20 rfl) 42 rfl ?_
  exact Y_return (st := []) (post := fun u : Nat → Nat => True) (fun k => ([q1, q2, q3, q4] : List Nat).getD k 0) hC hr hQ trivial [0, 1, 2, 3, 4] (by decide) rfl (dk d_X0_init 21 rfl)
set_option maxRecDepth 20000 in
set_option maxHeartbeats 400000 in
theorem ci_X2_init (G : GT) (l : Launch) (h0 : Nat) (h1 : Nat) : Ci G l yX2_init (.code yX2_init cX2_init 2 none :: ww) 1 2 271 [.ref h0, .ref h1] [(h0, .inr (2, [.null, .int 0, .null, .null, .int 0, .int 0]))] (fun u : Nat → Nat => True) (fun u => [(h0, .inr (2, [.ref (u 0), .int 0, .ref h1, .ref (u 1), .int 0, .int 0])), ((u 0), .inl (G.2.1 0, 265, .inl (fun _ => 0))), ((u 1), .inl (G.2.1 0, 6, .inl (fun _ => 0)))]) := by
  refine Ci_of (own := RX2) (by decide) rfl (Nat.le_of_ble_eq_true rfl) [(0, .ref h0), (1, .ref h1)] rfl ?_
  intro x A hG hl hR hC hr hnm hQ
  subst hG
  subst hl
  refine Y_aload_n hC (dk d_X2_init 0 rfl) 1 rfl rfl 0 rfl ?_
  refine Y_objInit hC (by decide) wo_X2 wo_inst wo_code (by decide) (dk d_X2_init 1 rfl) 4 rfl ?_
  refine Y_aload_n hC (dk d_X2_init 2 rfl) 5 rfl rfl 0 rfl ?_
  refine Y_aload_n hC (dk d_X2_init 3 rfl) 6 rfl rfl 1 rfl ?_
  refine Y_put (ty := tyX2 2) tyX2 0 2 [.null, .int 0, .null, .null, .int 0, .int 0] [(h0, .inr (2, [.null, .int 0, .ref h1, .null, .int 0, .int 0]))] hC hnm rfl rfl uw_X2 tyX2_ok nmX2 (by decide) fk_X2_9 rfl rfl (by decide +kernel) rfl rfl (Nat.le_of_ble_eq_true rfl) rfl (dk d_X2_init 4 rfl) 9 rfl ?_
  refine Y_aload_n hC (dk d_X2_init 5 rfl) 10 rfl rfl 0 rfl ?_
  refine Y_sipush (v := 265) hC (dk d_X2_init 6 rfl) 13 rfl (by decide) ?_
  refine Y_newI 265 hC (by decide) (by decide) (by decide) (by rw [hR]; decide) (by rw [hR]; decide) wac_int (dk d_X2_init 7 rfl) 15 rfl (fun q1 => ?_)
  refine Y_eq2 [(h0, .inr (2, [.null, .int 0, .ref h1, .null, .int 0, .int 0])), (q1, .inl ((xG x).2.1 0, 265, .inl (fun _ => 0)))] rfl ?_
  refine Y_put (ty := tyX2 0) tyX2 0 0 [.null, .int 0, .ref h1, .null, .int 0, .int 0] [(h0, .inr (2, [.ref q1, .int 0, .ref h1, .null, .int 0, .int 0])), (q1, .inl ((xG x).2.1 0, 265, .inl (fun _ => 0)))] hC hnm rfl rfl uw_X2 tyX2_ok nmX2 (by decide) fk_X2_15 rfl rfl (by decide +kernel) rfl rfl (Nat.le_of_ble_eq_true rfl) rfl (dk d_X2_init 8 rfl) 18 rfl ?_
  refine Y_aload_n hC (dk d_X2_init 9 rfl) 19 rfl rfl 0 rfl ?_
  refine Y_bipush (v := 6) hC (dk d_X2_init 10 rfl) 21 rfl (by decide) ?_
  refine Y_newI 6 hC (by decide) (by decide) (by decide) (by rw [hR]; decide) (by rw [hR]; decide) wac_int (dk d_X2_init 11 rfl) 23 rfl (fun q2 => ?_)
  refine Y_eq2 [(h0, .inr (2, [.ref q1, .int 0, .ref h1, .null, .int 0, .int 0])), (q1, .inl ((xG x).2.1 0, 265, .inl (fun _ => 0))), (q2, .inl ((xG x).2.1 0, 6, .inl (fun _ => 0)))] rfl ?_
  refine Y_put (ty := tyX2 3) tyX2 0 3 [.ref q1, .int 0, .ref h1, .null, .int 0, .int 0] [(h0, .inr (2, [.ref q1, .int 0, .ref h1, .ref q2, .int 0, .int 0])), (q1, .inl ((xG x).2.1 0, 265, .inl (fun _ => 0))), (q2, .inl ((xG x).2.1 0, 6, .inl (fun _ => 0)))] hC hnm rfl rfl uw_X2 tyX2_ok nmX2 (by decide) fk_X2_19 rfl rfl (by decide +kernel) rfl rfl (Nat.le_of_ble_eq_true rfl) rfl (dk d_X2_init 12 rfl) 26 rfl ?_
  exact Y_return (st := []) (post := fun u : Nat → Nat => True) (fun k => ([q1, q2] : List Nat).getD k 0) hC hr hQ trivial [0, 1, 2] (by decide) rfl (dk d_X2_init 13 rfl)
