section
-- ===== PART A: goes FIRST, ahead of the names: the tables' words, and 'selects' of the private methods out of them =====
/-- a private method of a class that the tables say can be made, by its rows of tables_1 -/
def lw_okq (q : MethodName × Nat) : Prop := (q.1.cls ≠ "java/lang/invoke/MethodHandle" ∧ q.1.cls ≠ "java/lang/invoke/VarHandle") ∧ Cond.instantiable q.1.cls q.2 ∈ tables_1 ∧ Cond.privateMethod q.1 ∈ tables_1 ∧ Cond.instanceMethod q.1 ∈ tables_1
theorem lw_p0 : lw_okq (⟨"HatDraw", "refuse", "(I)I"⟩, 17) := ⟨⟨by decide +kernel, by decide +kernel⟩, List.mem_of_getElem? (i := 12) (by decide +kernel), List.mem_of_getElem? (i := 183) (by decide +kernel), List.mem_of_getElem? (i := 184) (by decide +kernel)⟩
theorem lw_p1 : lw_okq (⟨"HatDraw$Texts", "isFigure", "(II)Z"⟩, 2) := ⟨⟨by decide +kernel, by decide +kernel⟩, List.mem_of_getElem? (i := 41) (by decide +kernel), List.mem_of_getElem? (i := 262) (by decide +kernel), List.mem_of_getElem? (i := 263) (by decide +kernel)⟩
theorem lw_p2 : lw_okq (⟨"HatDraw", "isMate", "(I)Z"⟩, 17) := ⟨⟨by decide +kernel, by decide +kernel⟩, List.mem_of_getElem? (i := 12) (by decide +kernel), List.mem_of_getElem? (i := 279) (by decide +kernel), List.mem_of_getElem? (i := 280) (by decide +kernel)⟩
theorem lw_p3 : lw_okq (⟨"HatDraw$Office", "isFor", "(I)Z"⟩, 7) := ⟨⟨by decide +kernel, by decide +kernel⟩, List.mem_of_getElem? (i := 60) (by decide +kernel), List.mem_of_getElem? (i := 322) (by decide +kernel), List.mem_of_getElem? (i := 323) (by decide +kernel)⟩
theorem lw_p4 : lw_okq (⟨"HatDraw", "drawingIn", "(I)I"⟩, 17) := ⟨⟨by decide +kernel, by decide +kernel⟩, List.mem_of_getElem? (i := 12) (by decide +kernel), List.mem_of_getElem? (i := 352) (by decide +kernel), List.mem_of_getElem? (i := 353) (by decide +kernel)⟩
theorem lw_p5 : lw_okq (⟨"HatDraw$Office", "minds", "(II)Z"⟩, 7) := ⟨⟨by decide +kernel, by decide +kernel⟩, List.mem_of_getElem? (i := 60) (by decide +kernel), List.mem_of_getElem? (i := 360) (by decide +kernel), List.mem_of_getElem? (i := 361) (by decide +kernel)⟩
theorem lw_p6 : lw_okq (⟨"HatDraw", "listRight", "()V"⟩, 17) := ⟨⟨by decide +kernel, by decide +kernel⟩, List.mem_of_getElem? (i := 12) (by decide +kernel), List.mem_of_getElem? (i := 379) (by decide +kernel), List.mem_of_getElem? (i := 380) (by decide +kernel)⟩
theorem lw_p7 : lw_okq (⟨"HatDraw$Search", "extend", "(III)V"⟩, 6) := ⟨⟨by decide +kernel, by decide +kernel⟩, List.mem_of_getElem? (i := 96) (by decide +kernel), List.mem_of_getElem? (i := 391) (by decide +kernel), List.mem_of_getElem? (i := 392) (by decide +kernel)⟩
theorem lw_p8 : lw_okq (⟨"HatDraw$Search", "admit", "(I)V"⟩, 6) := ⟨⟨by decide +kernel, by decide +kernel⟩, List.mem_of_getElem? (i := 96) (by decide +kernel), List.mem_of_getElem? (i := 395) (by decide +kernel), List.mem_of_getElem? (i := 396) (by decide +kernel)⟩
theorem lw_p9 : lw_okq (⟨"HatDraw", "layDrawing", "(II)V"⟩, 17) := ⟨⟨by decide +kernel, by decide +kernel⟩, List.mem_of_getElem? (i := 12) (by decide +kernel), List.mem_of_getElem? (i := 412) (by decide +kernel), List.mem_of_getElem? (i := 413) (by decide +kernel)⟩
theorem lw_p10 : lw_okq (⟨"HatDraw", "isTaken", "(I)Z"⟩, 17) := ⟨⟨by decide +kernel, by decide +kernel⟩, List.mem_of_getElem? (i := 12) (by decide +kernel), List.mem_of_getElem? (i := 444) (by decide +kernel), List.mem_of_getElem? (i := 445) (by decide +kernel)⟩
theorem lw_p11 : lw_okq (⟨"HatDraw", "takePaper", "(I)V"⟩, 17) := ⟨⟨by decide +kernel, by decide +kernel⟩, List.mem_of_getElem? (i := 12) (by decide +kernel), List.mem_of_getElem? (i := 450) (by decide +kernel), List.mem_of_getElem? (i := 451) (by decide +kernel)⟩
theorem lw_p12 : lw_okq (⟨"HatDraw", "nextOpen", "()I"⟩, 17) := ⟨⟨by decide +kernel, by decide +kernel⟩, List.mem_of_getElem? (i := 12) (by decide +kernel), List.mem_of_getElem? (i := 473) (by decide +kernel), List.mem_of_getElem? (i := 474) (by decide +kernel)⟩
theorem lw_p13 : lw_okq (⟨"HatDraw", "tellFraction", "(II)V"⟩, 17) := ⟨⟨by decide +kernel, by decide +kernel⟩, List.mem_of_getElem? (i := 12) (by decide +kernel), List.mem_of_getElem? (i := 482) (by decide +kernel), List.mem_of_getElem? (i := 483) (by decide +kernel)⟩
theorem lw_p14 : lw_okq (⟨"HatDraw$Search", "shareOf", "(IIIIII)I"⟩, 6) := ⟨⟨by decide +kernel, by decide +kernel⟩, List.mem_of_getElem? (i := 96) (by decide +kernel), List.mem_of_getElem? (i := 497) (by decide +kernel), List.mem_of_getElem? (i := 498) (by decide +kernel)⟩
theorem lw_p15 : lw_okq (⟨"HatDraw$Search", "partsAt", "(III)I"⟩, 6) := ⟨⟨by decide +kernel, by decide +kernel⟩, List.mem_of_getElem? (i := 96) (by decide +kernel), List.mem_of_getElem? (i := 501) (by decide +kernel), List.mem_of_getElem? (i := 502) (by decide +kernel)⟩
def lw_privs_1 : List (MethodName × Nat) := [(⟨"HatDraw", "refuse", "(I)I"⟩, 17), (⟨"HatDraw$Texts", "isFigure", "(II)Z"⟩, 2), (⟨"HatDraw", "isMate", "(I)Z"⟩, 17), (⟨"HatDraw$Office", "isFor", "(I)Z"⟩, 7), (⟨"HatDraw", "drawingIn", "(I)I"⟩, 17), (⟨"HatDraw$Office", "minds", "(II)Z"⟩, 7), (⟨"HatDraw", "listRight", "()V"⟩, 17), (⟨"HatDraw$Search", "extend", "(III)V"⟩, 6), (⟨"HatDraw$Search", "admit", "(I)V"⟩, 6), (⟨"HatDraw", "layDrawing", "(II)V"⟩, 17), (⟨"HatDraw", "isTaken", "(I)Z"⟩, 17), (⟨"HatDraw", "takePaper", "(I)V"⟩, 17), (⟨"HatDraw", "nextOpen", "()I"⟩, 17), (⟨"HatDraw", "tellFraction", "(II)V"⟩, 17), (⟨"HatDraw$Search", "shareOf", "(IIIIII)I"⟩, 6), (⟨"HatDraw$Search", "partsAt", "(III)I"⟩, 6)]
theorem lw_r1 : ∀ q ∈ lw_privs_1, lw_okq q := List.forall_mem_cons.mpr ⟨lw_p0, List.forall_mem_cons.mpr ⟨lw_p1, List.forall_mem_cons.mpr ⟨lw_p2, List.forall_mem_cons.mpr ⟨lw_p3, List.forall_mem_cons.mpr ⟨lw_p4, List.forall_mem_cons.mpr ⟨lw_p5, List.forall_mem_cons.mpr ⟨lw_p6, List.forall_mem_cons.mpr ⟨lw_p7, List.forall_mem_cons.mpr ⟨lw_p8, List.forall_mem_cons.mpr ⟨lw_p9, List.forall_mem_cons.mpr ⟨lw_p10, List.forall_mem_cons.mpr ⟨lw_p11, List.forall_mem_cons.mpr ⟨lw_p12, List.forall_mem_cons.mpr ⟨lw_p13, List.forall_mem_cons.mpr ⟨lw_p14, List.forall_mem_cons.mpr ⟨lw_p15, fun _ h => absurd h List.not_mem_nil⟩⟩⟩⟩⟩⟩⟩⟩⟩⟩⟩⟩⟩⟩⟩⟩
theorem lw_p16 : lw_okq (⟨"HatDraw", "isSet", "(I)Z"⟩, 17) := ⟨⟨by decide +kernel, by decide +kernel⟩, List.mem_of_getElem? (i := 12) (by decide +kernel), List.mem_of_getElem? (i := 558) (by decide +kernel), List.mem_of_getElem? (i := 559) (by decide +kernel)⟩
theorem lw_p17 : lw_okq (⟨"HatDraw", "rightDrawingIn", "(I)I"⟩, 17) := ⟨⟨by decide +kernel, by decide +kernel⟩, List.mem_of_getElem? (i := 12) (by decide +kernel), List.mem_of_getElem? (i := 562) (by decide +kernel), List.mem_of_getElem? (i := 563) (by decide +kernel)⟩
theorem lw_p18 : lw_okq (⟨"HatDraw", "papersOf", "(I)I"⟩, 17) := ⟨⟨by decide +kernel, by decide +kernel⟩, List.mem_of_getElem? (i := 12) (by decide +kernel), List.mem_of_getElem? (i := 566) (by decide +kernel), List.mem_of_getElem? (i := 567) (by decide +kernel)⟩
theorem lw_p19 : lw_okq (⟨"HatDrawModel", "meet", "(I)I"⟩, 32) := ⟨⟨by decide +kernel, by decide +kernel⟩, List.mem_of_getElem? (i := 670) (by decide +kernel), List.mem_of_getElem? (i := 783) (by decide +kernel), List.mem_of_getElem? (i := 784) (by decide +kernel)⟩
theorem lw_p20 : lw_okq (⟨"HatDrawModel", "setRow", "(III)V"⟩, 32) := ⟨⟨by decide +kernel, by decide +kernel⟩, List.mem_of_getElem? (i := 670) (by decide +kernel), List.mem_of_getElem? (i := 787) (by decide +kernel), List.mem_of_getElem? (i := 788) (by decide +kernel)⟩
theorem lw_p21 : lw_okq (⟨"HatDrawModel", "askedRow", "(I)I"⟩, 32) := ⟨⟨by decide +kernel, by decide +kernel⟩, List.mem_of_getElem? (i := 670) (by decide +kernel), List.mem_of_getElem? (i := 795) (by decide +kernel), List.mem_of_getElem? (i := 796) (by decide +kernel)⟩
theorem lw_p22 : lw_okq (⟨"HatDrawModel", "rowAt", "(II)I"⟩, 32) := ⟨⟨by decide +kernel, by decide +kernel⟩, List.mem_of_getElem? (i := 670) (by decide +kernel), List.mem_of_getElem? (i := 799) (by decide +kernel), List.mem_of_getElem? (i := 800) (by decide +kernel)⟩
theorem lw_p23 : lw_okq (⟨"HatDrawModel", "ask", "(II)I"⟩, 32) := ⟨⟨by decide +kernel, by decide +kernel⟩, List.mem_of_getElem? (i := 670) (by decide +kernel), List.mem_of_getElem? (i := 803) (by decide +kernel), List.mem_of_getElem? (i := 804) (by decide +kernel)⟩
theorem lw_p24 : lw_okq (⟨"HatDrawModel", "askedText", "(I)I"⟩, 32) := ⟨⟨by decide +kernel, by decide +kernel⟩, List.mem_of_getElem? (i := 670) (by decide +kernel), List.mem_of_getElem? (i := 835) (by decide +kernel), List.mem_of_getElem? (i := 836) (by decide +kernel)⟩
theorem lw_p25 : lw_okq (⟨"HatDrawModel", "goesOn", "(I)I"⟩, 32) := ⟨⟨by decide +kernel, by decide +kernel⟩, List.mem_of_getElem? (i := 670) (by decide +kernel), List.mem_of_getElem? (i := 843) (by decide +kernel), List.mem_of_getElem? (i := 844) (by decide +kernel)⟩
theorem lw_p26 : lw_okq (⟨"HatDrawModel", "here", "(I)I"⟩, 32) := ⟨⟨by decide +kernel, by decide +kernel⟩, List.mem_of_getElem? (i := 670) (by decide +kernel), List.mem_of_getElem? (i := 847) (by decide +kernel), List.mem_of_getElem? (i := 848) (by decide +kernel)⟩
theorem lw_p27 : lw_okq (⟨"HatDrawModel", "readsMate", "(I)Z"⟩, 32) := ⟨⟨by decide +kernel, by decide +kernel⟩, List.mem_of_getElem? (i := 670) (by decide +kernel), List.mem_of_getElem? (i := 851) (by decide +kernel), List.mem_of_getElem? (i := 852) (by decide +kernel)⟩
theorem lw_p28 : lw_okq (⟨"HatDrawModel", "isMate", "(I)Z"⟩, 32) := ⟨⟨by decide +kernel, by decide +kernel⟩, List.mem_of_getElem? (i := 670) (by decide +kernel), List.mem_of_getElem? (i := 866) (by decide +kernel), List.mem_of_getElem? (i := 867) (by decide +kernel)⟩
theorem lw_p29 : lw_okq (⟨"HatDrawModel", "mateOf", "(II)I"⟩, 32) := ⟨⟨by decide +kernel, by decide +kernel⟩, List.mem_of_getElem? (i := 670) (by decide +kernel), List.mem_of_getElem? (i := 870) (by decide +kernel), List.mem_of_getElem? (i := 871) (by decide +kernel)⟩
theorem lw_p30 : lw_okq (⟨"HatDrawModel", "lastOf", "(I)I"⟩, 32) := ⟨⟨by decide +kernel, by decide +kernel⟩, List.mem_of_getElem? (i := 670) (by decide +kernel), List.mem_of_getElem? (i := 874) (by decide +kernel), List.mem_of_getElem? (i := 875) (by decide +kernel)⟩
theorem lw_p31 : lw_okq (⟨"HatDrawModel", "isA", "(II)Z"⟩, 32) := ⟨⟨by decide +kernel, by decide +kernel⟩, List.mem_of_getElem? (i := 670) (by decide +kernel), List.mem_of_getElem? (i := 882) (by decide +kernel), List.mem_of_getElem? (i := 883) (by decide +kernel)⟩
def lw_privs_2 : List (MethodName × Nat) := [(⟨"HatDraw", "isSet", "(I)Z"⟩, 17), (⟨"HatDraw", "rightDrawingIn", "(I)I"⟩, 17), (⟨"HatDraw", "papersOf", "(I)I"⟩, 17), (⟨"HatDrawModel", "meet", "(I)I"⟩, 32), (⟨"HatDrawModel", "setRow", "(III)V"⟩, 32), (⟨"HatDrawModel", "askedRow", "(I)I"⟩, 32), (⟨"HatDrawModel", "rowAt", "(II)I"⟩, 32), (⟨"HatDrawModel", "ask", "(II)I"⟩, 32), (⟨"HatDrawModel", "askedText", "(I)I"⟩, 32), (⟨"HatDrawModel", "goesOn", "(I)I"⟩, 32), (⟨"HatDrawModel", "here", "(I)I"⟩, 32), (⟨"HatDrawModel", "readsMate", "(I)Z"⟩, 32), (⟨"HatDrawModel", "isMate", "(I)Z"⟩, 32), (⟨"HatDrawModel", "mateOf", "(II)I"⟩, 32), (⟨"HatDrawModel", "lastOf", "(I)I"⟩, 32), (⟨"HatDrawModel", "isA", "(II)Z"⟩, 32)]
theorem lw_r2 : ∀ q ∈ lw_privs_2, lw_okq q := List.forall_mem_cons.mpr ⟨lw_p16, List.forall_mem_cons.mpr ⟨lw_p17, List.forall_mem_cons.mpr ⟨lw_p18, List.forall_mem_cons.mpr ⟨lw_p19, List.forall_mem_cons.mpr ⟨lw_p20, List.forall_mem_cons.mpr ⟨lw_p21, List.forall_mem_cons.mpr ⟨lw_p22, List.forall_mem_cons.mpr ⟨lw_p23, List.forall_mem_cons.mpr ⟨lw_p24, List.forall_mem_cons.mpr ⟨lw_p25, List.forall_mem_cons.mpr ⟨lw_p26, List.forall_mem_cons.mpr ⟨lw_p27, List.forall_mem_cons.mpr ⟨lw_p28, List.forall_mem_cons.mpr ⟨lw_p29, List.forall_mem_cons.mpr ⟨lw_p30, List.forall_mem_cons.mpr ⟨lw_p31, fun _ h => absurd h List.not_mem_nil⟩⟩⟩⟩⟩⟩⟩⟩⟩⟩⟩⟩⟩⟩⟩⟩
theorem lw_p32 : lw_okq (⟨"HatDrawModel", "barOf", "(II)I"⟩, 32) := ⟨⟨by decide +kernel, by decide +kernel⟩, List.mem_of_getElem? (i := 670) (by decide +kernel), List.mem_of_getElem? (i := 886) (by decide +kernel), List.mem_of_getElem? (i := 887) (by decide +kernel)⟩
theorem lw_p33 : lw_okq (⟨"HatDrawModel", "mayOf", "(I)I"⟩, 32) := ⟨⟨by decide +kernel, by decide +kernel⟩, List.mem_of_getElem? (i := 670) (by decide +kernel), List.mem_of_getElem? (i := 893) (by decide +kernel), List.mem_of_getElem? (i := 894) (by decide +kernel)⟩
theorem lw_p34 : lw_okq (⟨"HatDrawModel", "askedDrawing", "(I)I"⟩, 32) := ⟨⟨by decide +kernel, by decide +kernel⟩, List.mem_of_getElem? (i := 670) (by decide +kernel), List.mem_of_getElem? (i := 916) (by decide +kernel), List.mem_of_getElem? (i := 917) (by decide +kernel)⟩
theorem lw_p35 : lw_okq (⟨"HatDrawModel", "badBy", "()I"⟩, 32) := ⟨⟨by decide +kernel, by decide +kernel⟩, List.mem_of_getElem? (i := 670) (by decide +kernel), List.mem_of_getElem? (i := 920) (by decide +kernel), List.mem_of_getElem? (i := 921) (by decide +kernel)⟩
theorem lw_p36 : lw_okq (⟨"HatDrawModel", "isBack", "(II)Z"⟩, 32) := ⟨⟨by decide +kernel, by decide +kernel⟩, List.mem_of_getElem? (i := 670) (by decide +kernel), List.mem_of_getElem? (i := 924) (by decide +kernel), List.mem_of_getElem? (i := 925) (by decide +kernel)⟩
theorem lw_p37 : lw_okq (⟨"HatDrawModel", "ringsOf", "()I"⟩, 32) := ⟨⟨by decide +kernel, by decide +kernel⟩, List.mem_of_getElem? (i := 670) (by decide +kernel), List.mem_of_getElem? (i := 928) (by decide +kernel), List.mem_of_getElem? (i := 929) (by decide +kernel)⟩
theorem lw_p38 : lw_okq (⟨"HatDrawModel", "setRights", "()V"⟩, 32) := ⟨⟨by decide +kernel, by decide +kernel⟩, List.mem_of_getElem? (i := 670) (by decide +kernel), List.mem_of_getElem? (i := 936) (by decide +kernel), List.mem_of_getElem? (i := 937) (by decide +kernel)⟩
theorem lw_p39 : lw_okq (⟨"HatDrawModel", "rightOn", "(I)V"⟩, 32) := ⟨⟨by decide +kernel, by decide +kernel⟩, List.mem_of_getElem? (i := 670) (by decide +kernel), List.mem_of_getElem? (i := 940) (by decide +kernel), List.mem_of_getElem? (i := 941) (by decide +kernel)⟩
theorem lw_p40 : lw_okq (⟨"HatDrawModel", "layRight", "(II)V"⟩, 32) := ⟨⟨by decide +kernel, by decide +kernel⟩, List.mem_of_getElem? (i := 670) (by decide +kernel), List.mem_of_getElem? (i := 948) (by decide +kernel), List.mem_of_getElem? (i := 949) (by decide +kernel)⟩
theorem lw_p41 : lw_okq (⟨"HatDrawModel", "right", "(II)I"⟩, 32) := ⟨⟨by decide +kernel, by decide +kernel⟩, List.mem_of_getElem? (i := 670) (by decide +kernel), List.mem_of_getElem? (i := 953) (by decide +kernel), List.mem_of_getElem? (i := 954) (by decide +kernel)⟩
theorem lw_p42 : lw_okq (⟨"HatDrawModel", "numberOf", "(I)I"⟩, 32) := ⟨⟨by decide +kernel, by decide +kernel⟩, List.mem_of_getElem? (i := 670) (by decide +kernel), List.mem_of_getElem? (i := 961) (by decide +kernel), List.mem_of_getElem? (i := 962) (by decide +kernel)⟩
theorem lw_p43 : lw_okq (⟨"HatDrawModel", "cans", "(I)I"⟩, 32) := ⟨⟨by decide +kernel, by decide +kernel⟩, List.mem_of_getElem? (i := 670) (by decide +kernel), List.mem_of_getElem? (i := 991) (by decide +kernel), List.mem_of_getElem? (i := 992) (by decide +kernel)⟩
theorem lw_p44 : lw_okq (⟨"HatDrawModel", "begins", "(II)Z"⟩, 32) := ⟨⟨by decide +kernel, by decide +kernel⟩, List.mem_of_getElem? (i := 670) (by decide +kernel), List.mem_of_getElem? (i := 995) (by decide +kernel), List.mem_of_getElem? (i := 996) (by decide +kernel)⟩
theorem lw_p45 : lw_okq (⟨"HatDrawModel", "turnOn", "(IIIJ)V"⟩, 32) := ⟨⟨by decide +kernel, by decide +kernel⟩, List.mem_of_getElem? (i := 670) (by decide +kernel), List.mem_of_getElem? (i := 1004) (by decide +kernel), List.mem_of_getElem? (i := 1005) (by decide +kernel)⟩
theorem lw_p46 : lw_okq (⟨"HatDrawModel", "part", "(JJI)I"⟩, 32) := ⟨⟨by decide +kernel, by decide +kernel⟩, List.mem_of_getElem? (i := 670) (by decide +kernel), List.mem_of_getElem? (i := 1008) (by decide +kernel), List.mem_of_getElem? (i := 1009) (by decide +kernel)⟩
theorem lw_p47 : lw_okq (⟨"HatDrawModel", "isYear", "(I)Z"⟩, 32) := ⟨⟨by decide +kernel, by decide +kernel⟩, List.mem_of_getElem? (i := 670) (by decide +kernel), List.mem_of_getElem? (i := 1040) (by decide +kernel), List.mem_of_getElem? (i := 1041) (by decide +kernel)⟩
def lw_privs_3 : List (MethodName × Nat) := [(⟨"HatDrawModel", "barOf", "(II)I"⟩, 32), (⟨"HatDrawModel", "mayOf", "(I)I"⟩, 32), (⟨"HatDrawModel", "askedDrawing", "(I)I"⟩, 32), (⟨"HatDrawModel", "badBy", "()I"⟩, 32), (⟨"HatDrawModel", "isBack", "(II)Z"⟩, 32), (⟨"HatDrawModel", "ringsOf", "()I"⟩, 32), (⟨"HatDrawModel", "setRights", "()V"⟩, 32), (⟨"HatDrawModel", "rightOn", "(I)V"⟩, 32), (⟨"HatDrawModel", "layRight", "(II)V"⟩, 32), (⟨"HatDrawModel", "right", "(II)I"⟩, 32), (⟨"HatDrawModel", "numberOf", "(I)I"⟩, 32), (⟨"HatDrawModel", "cans", "(I)I"⟩, 32), (⟨"HatDrawModel", "begins", "(II)Z"⟩, 32), (⟨"HatDrawModel", "turnOn", "(IIIJ)V"⟩, 32), (⟨"HatDrawModel", "part", "(JJI)I"⟩, 32), (⟨"HatDrawModel", "isYear", "(I)Z"⟩, 32)]
theorem lw_r3 : ∀ q ∈ lw_privs_3, lw_okq q := List.forall_mem_cons.mpr ⟨lw_p32, List.forall_mem_cons.mpr ⟨lw_p33, List.forall_mem_cons.mpr ⟨lw_p34, List.forall_mem_cons.mpr ⟨lw_p35, List.forall_mem_cons.mpr ⟨lw_p36, List.forall_mem_cons.mpr ⟨lw_p37, List.forall_mem_cons.mpr ⟨lw_p38, List.forall_mem_cons.mpr ⟨lw_p39, List.forall_mem_cons.mpr ⟨lw_p40, List.forall_mem_cons.mpr ⟨lw_p41, List.forall_mem_cons.mpr ⟨lw_p42, List.forall_mem_cons.mpr ⟨lw_p43, List.forall_mem_cons.mpr ⟨lw_p44, List.forall_mem_cons.mpr ⟨lw_p45, List.forall_mem_cons.mpr ⟨lw_p46, List.forall_mem_cons.mpr ⟨lw_p47, fun _ h => absurd h List.not_mem_nil⟩⟩⟩⟩⟩⟩⟩⟩⟩⟩⟩⟩⟩⟩⟩⟩
theorem lw_p48 : lw_okq (⟨"HatDrawModel", "askedTelling", "(II)I"⟩, 32) := ⟨⟨by decide +kernel, by decide +kernel⟩, List.mem_of_getElem? (i := 670) (by decide +kernel), List.mem_of_getElem? (i := 1052) (by decide +kernel), List.mem_of_getElem? (i := 1053) (by decide +kernel)⟩
theorem lw_p49 : lw_okq (⟨"HatDrawModel", "isSet", "(I)Z"⟩, 32) := ⟨⟨by decide +kernel, by decide +kernel⟩, List.mem_of_getElem? (i := 670) (by decide +kernel), List.mem_of_getElem? (i := 1056) (by decide +kernel), List.mem_of_getElem? (i := 1057) (by decide +kernel)⟩
theorem lw_p50 : lw_okq (⟨"HatDrawModel", "askedRight", "(I)I"⟩, 32) := ⟨⟨by decide +kernel, by decide +kernel⟩, List.mem_of_getElem? (i := 670) (by decide +kernel), List.mem_of_getElem? (i := 1060) (by decide +kernel), List.mem_of_getElem? (i := 1061) (by decide +kernel)⟩
theorem lw_p51 : lw_okq (⟨"HatDrawModel", "knownOf", "(II)I"⟩, 32) := ⟨⟨by decide +kernel, by decide +kernel⟩, List.mem_of_getElem? (i := 670) (by decide +kernel), List.mem_of_getElem? (i := 1064) (by decide +kernel), List.mem_of_getElem? (i := 1065) (by decide +kernel)⟩
theorem lw_p52 : lw_okq (⟨"HatDrawModel", "ringOf", "(I)I"⟩, 32) := ⟨⟨by decide +kernel, by decide +kernel⟩, List.mem_of_getElem? (i := 670) (by decide +kernel), List.mem_of_getElem? (i := 1092) (by decide +kernel), List.mem_of_getElem? (i := 1093) (by decide +kernel)⟩
theorem lw_p53 : lw_okq (⟨"HatDrawModel", "lookAt", "(I)V"⟩, 32) := ⟨⟨by decide +kernel, by decide +kernel⟩, List.mem_of_getElem? (i := 670) (by decide +kernel), List.mem_of_getElem? (i := 1100) (by decide +kernel), List.mem_of_getElem? (i := 1101) (by decide +kernel)⟩
theorem lw_p54 : lw_okq (⟨"HatDrawModel", "tells", "(I)I"⟩, 32) := ⟨⟨by decide +kernel, by decide +kernel⟩, List.mem_of_getElem? (i := 670) (by decide +kernel), List.mem_of_getElem? (i := 1128) (by decide +kernel), List.mem_of_getElem? (i := 1129) (by decide +kernel)⟩
theorem lw_p55 : lw_okq (⟨"HatDrawModel", "mix", "(I)V"⟩, 32) := ⟨⟨by decide +kernel, by decide +kernel⟩, List.mem_of_getElem? (i := 670) (by decide +kernel), List.mem_of_getElem? (i := 1145) (by decide +kernel), List.mem_of_getElem? (i := 1146) (by decide +kernel)⟩
theorem lw_p56 : lw_okq (⟨"HatDrawModel", "mixOffice", "()V"⟩, 32) := ⟨⟨by decide +kernel, by decide +kernel⟩, List.mem_of_getElem? (i := 670) (by decide +kernel), List.mem_of_getElem? (i := 1150) (by decide +kernel), List.mem_of_getElem? (i := 1151) (by decide +kernel)⟩
def lw_privs_4 : List (MethodName × Nat) := [(⟨"HatDrawModel", "askedTelling", "(II)I"⟩, 32), (⟨"HatDrawModel", "isSet", "(I)Z"⟩, 32), (⟨"HatDrawModel", "askedRight", "(I)I"⟩, 32), (⟨"HatDrawModel", "knownOf", "(II)I"⟩, 32), (⟨"HatDrawModel", "ringOf", "(I)I"⟩, 32), (⟨"HatDrawModel", "lookAt", "(I)V"⟩, 32), (⟨"HatDrawModel", "tells", "(I)I"⟩, 32), (⟨"HatDrawModel", "mix", "(I)V"⟩, 32), (⟨"HatDrawModel", "mixOffice", "()V"⟩, 32)]
theorem lw_r4 : ∀ q ∈ lw_privs_4, lw_okq q := List.forall_mem_cons.mpr ⟨lw_p48, List.forall_mem_cons.mpr ⟨lw_p49, List.forall_mem_cons.mpr ⟨lw_p50, List.forall_mem_cons.mpr ⟨lw_p51, List.forall_mem_cons.mpr ⟨lw_p52, List.forall_mem_cons.mpr ⟨lw_p53, List.forall_mem_cons.mpr ⟨lw_p54, List.forall_mem_cons.mpr ⟨lw_p55, List.forall_mem_cons.mpr ⟨lw_p56, fun _ h => absurd h List.not_mem_nil⟩⟩⟩⟩⟩⟩⟩⟩⟩
def lw_privs : List (MethodName × Nat) := lw_privs_1 ++ (lw_privs_2 ++ (lw_privs_3 ++ (lw_privs_4)))
def lw_tbl : List Cond := k2_sels lw_privs ++ tables_1
theorem lw_privs_ok : ∀ q ∈ lw_privs, lw_okq q := by
  show ∀ q ∈ lw_privs_1 ++ (lw_privs_2 ++ (lw_privs_3 ++ (lw_privs_4))), lw_okq q
  exact List.forall_mem_append.mpr ⟨lw_r1, List.forall_mem_append.mpr ⟨lw_r2, List.forall_mem_append.mpr ⟨lw_r3, lw_r4⟩⟩⟩
-- ===== end of PART A; then your names; then what follows =====
end
section
/-! ===== BEGIN words of one list among another's, by their places ===== -/
theorem goodIn_r {big : List Cond} (ws : List Cond) (ps : List Nat) (hp : ws = ps.filterMap (fun i => big[i]?)) (h : ws.all goodWord = true) : GoodIn big ws := by
  intro w hw
  have h1 := List.all_eq_true.mp h w hw
  rw [hp] at hw
  obtain ⟨i, -, hi⟩ := List.mem_filterMap.mp hw
  have hm : w ∈ big := by first | exact List.mem_of_getElem? hi | exact List.getElem?_mem hi
  exact ⟨hm, good_of_word h1⟩
theorem goodIn_app {big a b : List Cond} (ha : GoodIn big a) (hb : GoodIn big b) : GoodIn big (a ++ b) := fun w h => (List.mem_append.mp h).elim (ha w) (hb w)
theorem goodIn_ca {big a b : List Cond} {c : Cond} (ha : GoodIn big (c :: a)) (hb : GoodIn big b) : GoodIn big (c :: (a ++ b)) := fun w h => (List.mem_cons.mp h).elim (fun e => ha w (List.mem_cons.mpr (Or.inl e))) (fun h => (List.mem_append.mp h).elim (fun h => ha w (List.mem_cons.mpr (Or.inr h))) (hb w))
theorem goodIn_sub {big ws : List Cond} (hm : ∀ w ∈ ws, w ∈ big) (h : ws.all goodWord = true) : GoodIn big ws := fun w hw => ⟨hm w hw, good_of_word (List.all_eq_true.mp h w hw)⟩
/-! ===== END ===== -/

/-! ===== BEGIN new T[n][m]: the outer array a place, the inner ones among the pooled ===== -/
/-- f, but v at every address of l -/
def vr_up {α : Type} (f : Nat → α) (l : List Nat) (v : α) : Nat → α := fun a => if a ∈ l then v else f a
theorem vr_up_in {α : Type} {f : Nat → α} {l : List Nat} {v : α} {a : Nat} (h : a ∈ l) : vr_up f l v a = v := if_pos h
theorem vr_up_ne {α : Type} {f : Nat → α} {l : List Nat} {v : α} {a : Nat} (h : a ∉ l) : vr_up f l v a = f a := if_neg h
theorem vr_rows {L l : List Nat} {f : Nat → va_E} {e : va_E} (h : ∀ a, a ∈ l → a ∉ L) : va_pl L f ++ l.map (fun a => (a, e)) = va_pl (L ++ l) (vr_up f l e) := by
  unfold va_pl
  rw [List.map_append]
  congr 1
  · apply List.map_congr_left
    intro a ha
    rw [vr_up_ne (fun q => h a q ha)]
  · apply List.map_congr_left
    intro a ha
    rw [vr_up_in ha]
theorem vr_lay {X rows : va_W} {x : Nat × va_E} {pl : va_W} {D : va_G} {cl : List vw_C} {H : Heap} (hP : va_P D cl (((X ++ pl) ++ [x]) ++ rows) H) : va_P D cl ((X ++ [x]) ++ (pl ++ rows)) H := by
  rw [List.append_assoc (X ++ pl)] at hP
  have h := va_P.swap hP
  rw [← List.append_assoc X] at h
  have h2 := va_P.swap h
  rw [List.append_assoc (X ++ [x])] at h2
  exact h2
theorem vr_layD {X rows : va_W} {x : Nat × va_E} {pl : va_W} {A : Nat → Prop} (hD : va_D A (((X ++ pl) ++ [x]) ++ rows)) : va_D A ((X ++ [x]) ++ (pl ++ rows)) := by
  rw [List.append_assoc (X ++ pl)] at hD
  have h := va_D.swap hD
  rw [← List.append_assoc X] at h
  have h2 := va_D.swap h
  rw [List.append_assoc (X ++ [x])] at h2
  exact h2
theorem vr_outer (c : ClassId) (N h0 : Nat) : ∀ i : Nat, Jvm.Free.Multi.outerC c N h0 i = arrV c N (fun j => va_rf (if j < i then some (h0 + 1 + j) else none))
  | 0 => by
    show ({ cls := c, slots := Array.replicate N .null, vm := .none } : Cell) = _
    rw [arrV_new]
    refine congrArg (arrV c N) (funext fun j => ?_)
    simp [va_rf]
  | i + 1 => by
    show (Jvm.Free.Multi.outerC c N h0 i).setSlot i (.ref (h0 + 1 + i)) = _
    rw [vr_outer c N h0 i, arrV_store]
    refine congrArg (arrV c N) (funext fun j => ?_)
    by_cases e : j = i
    · subst e
      simp [updV, va_rf]
    · by_cases h : j < i
      · simp [updV, e, h, Nat.lt_succ_of_lt h]
      · simp [updV, e, h, show ¬ j < i + 1 by omega]
def va_AOA (ty : FieldType) (U : State) : Prop := (Cond.arrayOver (.array ty)).before #[] U = true
theorem va_AOA.of {ty : FieldType} {A : Array Value} {U : State} (h : (Cond.arrayOver (.array ty)).before A U = true) : va_AOA ty U := h
theorem va_AOA.use {ty : FieldType} {A : Array Value} {U : State} (h : va_AOA ty U) : (Cond.arrayOver (.array ty)).before A U = true := h
section VGM
variable {p : Program} {l : Launch} {e : Env} {R : Room} {s : State} {m : MethodId} {args : Array Value} {below : List Frame} {meth : Method} {c : Code} {H : Heap} {locs : List Loc} {cells slots : Nat} {Q : State → Prop}
variable {cc : ByteArray} {pc : Nat} {ls : Array Slot} {rest : List Value} {D : va_G} {cl : List vw_C} {A : Nat → Prop} {a : Nat} {tys : List (ClassId × FieldType)} {ws : va_W} {H0 : Heap}
theorem va_mna {X : va_W} {L : List Nat} {f : Nat → va_E} {cc : ByteArray} (hexec : p.tables.exec = Jvm.exec) (hb : c.code = cc) {own : String} {index : Nat} {ty : FieldType} {cy : ClassId} (hown : s.vm.findClass own = some m.cls) (hclink : (Cond.classLink own index ("[" ++ (FieldType.array ty).toString)).before args s = true) (hover : va_AOA ty s) (harr : (Cond.arrayClass ty).before args s = true) (hcy : s.vm.findClass (FieldType.array ty).toString = some cy)
    (hK : va_K D cl tys s) (hP : va_P D cl (X ++ va_pl L f) H) (hD : va_D A (X ++ va_pl L f)) (hS : va_S A H0 H locs) (hA : ∀ q, H0.size ≤ q → A q) {n k : Int32} {N' K' : Nat} {z : vp_A} (hn : ¬ n < 0) (hk : ¬ k < 0) (hN : n.toNatClampNeg = N') (hM : k.toNatClampNeg = K')
    (hb1 : N' * 4 ≤ 536870912) (hb2 : K' * componentBytes ty ≤ 536870912) (hb3 : K' ≤ 536870912) (hdf : fits ty (defaultValue ty) = true) (hdd : (defaultValue ty).isDefault = true) (hcells : cells + (1 + N') ≤ R.cells) (hslots : slots + (N' + N' * K') ≤ R.slots) (hz : ∀ c : ClassId, Jvm.Free.Multi.innerC c K' (defaultValue ty) = vp_cell c z) (hdg : decode cc pc = .ok (.multianewarray index 2, 4))
    (kk : ∀ (q : Nat) (r : Nat → Nat) (cA : ClassId) (H1 : Heap), (∀ i j : Nat, i < N' → j < N' → r i = r j → i = j) → (∀ i : Nat, i < N' → r i ∉ L) → va_K D cl (tys ++ [(cA, .array ty)]) s →
      va_P D cl ((X ++ [(q, .inl (cA, N', .inr (.inr (.inr (.inr (fun i => if i < N' then some (r i) else none))))))]) ++ va_pl (L ++ (List.range N').map r) (vr_up f ((List.range N').map r) (.inl (cy, z)))) H1 → va_D A ((X ++ [(q, .inl (cA, N', .inr (.inr (.inr (.inr (fun i => if i < N' then some (r i) else none))))))]) ++ va_pl (L ++ (List.range N').map r) (vr_up f ((List.range N').map r) (.inl (cy, z)))) → va_S A H0 H1 locs →
      W p l e R s m args below meth c H1 locs (cells + 1 + N') (slots + N' + N' * K') Q (F0 m (pc + 4) ls (.ref q :: rest))) : W p l e R s m args below meth c H locs cells slots Q (F0 m pc ls (.int k :: .int n :: rest)) := by
  subst hN
  subst hM
  intro T hT Xs
  obtain ⟨vm₁, cA, comp, -, fA, fC, hO, -, X', step⟩ := Xs.multianewarray2F hexec hown hclink (va_AOA.use hover) harr (g := F0 m pc ls (.int k :: .int n :: rest)) rfl (by rw [hb]; exact hdg) rfl hn hk hb1 hb2 hb3 hdf hdd hcells hslots
  have ec : some cy = some comp := hcy.symm.trans fC
  cases ec
  generalize hF : Jvm.Free.Multi.fill (T.setVm vm₁) cA cy n.toNatClampNeg k.toNatClampNeg (defaultValue ty) n.toNatClampNeg = F at X' step
  have hTh : (T.setVm vm₁).heap = H := hT
  obtain ⟨f1, f2, -, -⟩ := Jvm.Free.Multi.fill_facts (T.setVm vm₁) cA cy n.toNatClampNeg k.toNatClampNeg (defaultValue ty) n.toNatClampNeg
  rw [hF, hTh] at f1 f2
  have hold : ∀ x : Nat, x < H.size → F.heap[x]? = H[x]? := fun x hx => by
    have := Jvm.Free.Multi.fill_old (T.setVm vm₁) cA cy n.toNatClampNeg k.toNatClampNeg (defaultValue ty) (a := x) (by rw [hTh]; exact hx) n.toNatClampNeg
    rw [hF, hTh] at this
    exact this
  have hrow : ∀ j : Nat, j < n.toNatClampNeg → F.heap[H.size + 1 + j]? = some (vp_cell cy z) := fun j hj => by
    have := Jvm.Free.Multi.fill_inner (T.setVm vm₁) cA cy n.toNatClampNeg k.toNatClampNeg (defaultValue ty) n.toNatClampNeg j hj
    rw [hF, hTh, hz] at this
    exact this
  have hout : Jvm.Free.Multi.outerC cA n.toNatClampNeg H.size n.toNatClampNeg = vp_cell cA (n.toNatClampNeg, .inr (.inr (.inr (.inr (fun i => if i < n.toNatClampNeg then some (H.size + 1 + i) else none))))) := by
    rw [vp_cell_q]
    exact vr_outer cA n.toNatClampNeg H.size n.toNatClampNeg
  rw [hout] at f2
  have hlt : ∀ a, a ∈ L → a < H.size := fun a ha => by
    obtain ⟨k9, hk9⟩ := va_pl_get (X := X) (f := f) ha
    exact (hP k9 _ hk9).lt
  have hnl : ∀ i : Nat, i < n.toNatClampNeg → H.size + 1 + i ∉ L := fun i _ h => by
    have := hlt _ h
    omega
  have hnm : ∀ a, a ∈ (List.range n.toNatClampNeg).map (fun i => H.size + 1 + i) → a ∉ L := fun a ha h => by
    obtain ⟨i, -, rfl⟩ := List.mem_map.mp ha
    have := hlt _ h
    omega
  have hP0 : va_P D cl (X ++ va_pl L f) F.heap := hP.kept (fun k9 x hx => hold x.1 ((hP k9 x hx).lt))
  have hP1 : va_P D cl ((X ++ va_pl L f) ++ [(H.size, .inl (cA, n.toNatClampNeg, .inr (.inr (.inr (.inr (fun i => if i < n.toNatClampNeg then some (H.size + 1 + i) else none))))))]) F.heap := hP0.app (fun k9 x hx => by
    have h0 : k9 < 1 := (List.getElem?_eq_some_iff.mp hx).1
    rw [show k9 = 0 by omega] at hx
    cases hx
    exact f2)
  have hP2 : va_P D cl (((X ++ va_pl L f) ++ [(H.size, .inl (cA, n.toNatClampNeg, .inr (.inr (.inr (.inr (fun i => if i < n.toNatClampNeg then some (H.size + 1 + i) else none))))))]) ++ ((List.range n.toNatClampNeg).map (fun i => H.size + 1 + i)).map (fun a => (a, .inl (cy, z)))) F.heap := hP1.app (fun k9 x hx => by
    obtain ⟨a, ha, rfl⟩ := List.mem_map.mp (List.mem_of_getElem? hx)
    obtain ⟨i, hi, rfl⟩ := List.mem_map.mp ha
    exact hrow i (List.mem_range.mp hi))
  have hD2 : va_D A (((X ++ va_pl L f) ++ [(H.size, .inl (cA, n.toNatClampNeg, .inr (.inr (.inr (.inr (fun i => if i < n.toNatClampNeg then some (H.size + 1 + i) else none))))))]) ++ ((List.range n.toNatClampNeg).map (fun i => H.size + 1 + i)).map (fun a => (a, .inl (cy, z)))) := by
    have hD1 := hD.push (e := .inl (cA, n.toNatClampNeg, .inr (.inr (.inr (.inr (fun i => if i < n.toNatClampNeg then some (H.size + 1 + i) else none)))))) hP rfl (hA _ hS.1)
    generalize hW1 : (X ++ va_pl L f) ++ [(H.size, .inl (cA, n.toNatClampNeg, .inr (.inr (.inr (.inr (fun i => if i < n.toNatClampNeg then some (H.size + 1 + i) else none))))))] = W1 at hD1 hP1 ⊢
    have hle : ∀ (k9 : Nat) (x : Nat × va_E), W1[k9]? = some x → x.1 ≤ H.size := fun k9 x hx => by
      rw [← hW1] at hx
      by_cases hl : k9 < (X ++ va_pl L f).length
      · rw [List.getElem?_append_left hl] at hx
        exact Nat.le_of_lt ((hP k9 x hx).lt)
      · rw [List.getElem?_append_right (by omega)] at hx
        have h0 : k9 - (X ++ va_pl L f).length < 1 := (List.getElem?_eq_some_iff.mp hx).1
        rw [show k9 - (X ++ va_pl L f).length = 0 by omega] at hx
        cases hx
        exact Nat.le_refl _
    have hr : ∀ (k9 : Nat) (x : Nat × va_E), (((List.range n.toNatClampNeg).map (fun i => H.size + 1 + i)).map (fun a => ((a, .inl (cy, z)) : Nat × va_E)))[k9]? = some x → x.1 = H.size + 1 + k9 := fun k9 x hx => by
      rw [List.getElem?_map, List.getElem?_map] at hx
      by_cases h9 : k9 < n.toNatClampNeg
      · rw [List.getElem?_range h9] at hx
        cases hx
        rfl
      · have hn0 : (List.range n.toNatClampNeg)[k9]? = none := List.getElem?_eq_none (by rw [List.length_range]; omega)
        rw [hn0] at hx
        cases hx
    refine ⟨fun i j x y hi hj hxy => ?_, fun k9 x hx => ?_⟩
    · by_cases h1 : i < W1.length <;> by_cases h2 : j < W1.length
      · rw [List.getElem?_append_left h1] at hi
        rw [List.getElem?_append_left h2] at hj
        exact hD1.1 i j x y hi hj hxy
      · rw [List.getElem?_append_left h1] at hi
        rw [List.getElem?_append_right (by omega)] at hj
        have := hle _ _ hi
        have := hr _ _ hj
        omega
      · rw [List.getElem?_append_right (by omega)] at hi
        rw [List.getElem?_append_left h2] at hj
        have := hle _ _ hj
        have := hr _ _ hi
        omega
      · rw [List.getElem?_append_right (by omega)] at hi hj
        have := hr _ _ hi
        have := hr _ _ hj
        omega
    · by_cases h1 : k9 < W1.length
      · rw [List.getElem?_append_left h1] at hx
        exact hD1.2 k9 x hx
      · rw [List.getElem?_append_right (by omega)] at hx
        have := hr _ _ hx
        exact hA _ (by have := hS.1; omega)
  have hAr : ArrOfT s cA (.array ty) := fun N9 z9 => by
    obtain ⟨-, k9, hk9, cm9, hkk9⟩ := (hO 0 0 0).1
    exact ⟨(fun q hq => by cases hq), k9, hk9, cm9, hkk9⟩
  have hK2 : va_K D cl (tys ++ [(cA, .array ty)]) s := ⟨hK.1, fun k9 x hx => by
    by_cases hl : k9 < tys.length
    · rw [List.getElem?_append_left hl] at hx
      exact hK.2 k9 x hx
    · rw [List.getElem?_append_right (by omega)] at hx
      have h0 : k9 - tys.length < 1 := (List.getElem?_eq_some_iff.mp hx).1
      rw [show k9 - tys.length = 0 by omega] at hx
      cases hx
      exact ⟨hAr, fA⟩⟩
  obtain ⟨t, a1, b1⟩ := kk H.size (fun i => H.size + 1 + i) cA F.heap (fun i j _ _ h => by have h9 : H.size + 1 + i = H.size + 1 + j := h; omega) hnl hK2 (by rw [← vr_rows hnm]; exact vr_lay hP2) (by rw [← vr_rows hnm]; exact vr_layD hD2) ⟨by rw [f1]; have := hS.1; omega, fun x h1 h2 => (hold x (Nat.lt_of_lt_of_le h1 hS.1)).trans (hS.2.1 x h1 h2), hS.2.2⟩ F rfl X'
  refine ⟨t, step t ?_, b1⟩
  have e : T.heap.size = H.size := by rw [hT]
  rw [e]
  exact a1
end VGM
/-! ===== END ===== -/
def RX0 : String := "HatDraw$Office"
def TX0 : u_T := fun k => match k with
  | 0 => ("HatDraw$Office", "kinds", "[I", true)
  | 1 => ("HatDraw$Office", "tables", "[I", true)
  | 2 => ("HatDraw$Office", "worths", "[I", true)
  | 3 => ("HatDraw$Office", "years", "[I", true)
  | 4 => ("HatDraw$Office", "size", "I", false)
  | 5 => ("HatDraw$Office", "yearCount", "I", false)
  | _ => ("HatDraw$Office", "rules", "I", false)
def tyX0 : Nat → FieldType := fun k => match k with
  | 0 => .array .int
  | 1 => .array .int
  | 2 => .array .int
  | 3 => .array .int
  | 4 => .int
  | 5 => .int
  | _ => .int
abbrev wsX00 : List Cond := u_ws RX0 TX0 7
theorem nmX0 : ∀ a, a < 7 → ∀ b, b < 7 → a ≠ b → (TX0 a).2.1 ≠ (TX0 b).2.1 := by decide +kernel
theorem tyX0_ok : ∀ k, k < 7 → parseFieldDescriptor (TX0 k).2.2.1 = some (tyX0 k) := by decide +kernel
abbrev cX0_init : ByteArray := prog_2_method_1_code
def yX0_init : MethodName := ⟨RX0, "<init>", "()V"⟩
abbrev cX0_settle : ByteArray := prog_2_method_2_code
def yX0_settle : MethodName := ⟨RX0, "settle", "([BI)V"⟩
abbrev cX0_become : ByteArray := prog_2_method_3_code
def yX0_become : MethodName := ⟨RX0, "become", "(LHatDraw$Office;)V"⟩
abbrev cX0_addYear : ByteArray := prog_2_method_4_code
def yX0_addYear : MethodName := ⟨RX0, "addYear", "(I)V"⟩
abbrev cX0_hadYear : ByteArray := prog_2_method_5_code
def yX0_hadYear : MethodName := ⟨RX0, "hadYear", "(I)Z"⟩
abbrev cX0_latest : ByteArray := prog_2_method_6_code
def yX0_latest : MethodName := ⟨RX0, "latest", "(I)I"⟩
abbrev cX0_fact : ByteArray := prog_2_method_7_code
def yX0_fact : MethodName := ⟨RX0, "fact", "(II)I"⟩
abbrev cX0_isFor : ByteArray := prog_2_method_8_code
def yX0_isFor : MethodName := ⟨RX0, "isFor", "(I)Z"⟩
abbrev cX0_barrier : ByteArray := prog_2_method_9_code
def yX0_barrier : MethodName := ⟨RX0, "barrier", "(II)I"⟩
abbrev cX0_open : ByteArray := prog_2_method_10_code
def yX0_open : MethodName := ⟨RX0, "open", "(I)I"⟩
abbrev cX0_minds : ByteArray := prog_2_method_11_code
def yX0_minds : MethodName := ⟨RX0, "minds", "(II)Z"⟩
abbrev cX0_drawsBack : ByteArray := prog_2_method_12_code
def yX0_drawsBack : MethodName := ⟨RX0, "drawsBack", "(III)Z"⟩
abbrev cX0_against : ByteArray := prog_2_method_13_code
def yX0_against : MethodName := ⟨RX0, "against", "(II)I"⟩
abbrev cX0_breaksRing : ByteArray := prog_2_method_14_code
def yX0_breaksRing : MethodName := ⟨RX0, "breaksRing", "(I)Z"⟩
abbrev cX0_othersAtTable : ByteArray := prog_2_method_15_code
def yX0_othersAtTable : MethodName := ⟨RX0, "othersAtTable", "(I)I"⟩
abbrev cX0_yearsPaired : ByteArray := prog_2_method_16_code
def yX0_yearsPaired : MethodName := ⟨RX0, "yearsPaired", "(I)I"⟩
abbrev cX0_worthier : ByteArray := prog_2_method_17_code
def yX0_worthier : MethodName := ⟨RX0, "worthier", "(I)I"⟩
abbrev cX0_othersBarredFrom : ByteArray := prog_2_method_18_code
def yX0_othersBarredFrom : MethodName := ⟨RX0, "othersBarredFrom", "(I)I"⟩
abbrev cX0_howManyOf : ByteArray := prog_2_method_19_code
def yX0_howManyOf : MethodName := ⟨RX0, "howManyOf", "(I)I"⟩
abbrev cX0_greatestDifference : ByteArray := prog_2_method_20_code
def yX0_greatestDifference : MethodName := ⟨RX0, "greatestDifference", "(I)I"⟩
def RX1 : String := "HatDraw$Rows"
def TX1 : u_T := fun k => match k with
  | 0 => ("HatDraw$Rows", "cells", "[[I", true)
  | _ => ("HatDraw$Rows", "sizes", "[I", true)
def tyX1 : Nat → FieldType := fun k => match k with
  | 0 => .array (.array .int)
  | _ => .array .int
abbrev wsX10 : List Cond := u_ws RX1 TX1 2
theorem nmX1 : ∀ a, a < 2 → ∀ b, b < 2 → a ≠ b → (TX1 a).2.1 ≠ (TX1 b).2.1 := by decide +kernel
theorem tyX1_ok : ∀ k, k < 2 → parseFieldDescriptor (TX1 k).2.2.1 = some (tyX1 k) := by decide +kernel
abbrev cX1_init : ByteArray := prog_3_method_1_code
def yX1_init : MethodName := ⟨RX1, "<init>", "()V"⟩
abbrev cX1_isMissing : ByteArray := prog_3_method_2_code
def yX1_isMissing : MethodName := ⟨RX1, "isMissing", "(I)Z"⟩
abbrev cX1_renew : ByteArray := prog_3_method_3_code
def yX1_renew : MethodName := ⟨RX1, "renew", "(II)V"⟩
abbrev cX1_missesPlace : ByteArray := prog_3_method_4_code
def yX1_missesPlace : MethodName := ⟨RX1, "missesPlace", "(II)I"⟩
abbrev cX1_hasPlaces : ByteArray := prog_3_method_5_code
def yX1_hasPlaces : MethodName := ⟨RX1, "hasPlaces", "(III)Z"⟩
abbrev cX1_mixAll : ByteArray := prog_3_method_6_code
def yX1_mixAll : MethodName := ⟨RX1, "mixAll", "(J)J"⟩
def RX2 : String := "HatDraw$Search"
def TX2 : u_T := fun k => match k with
  | 0 => ("HatDraw$Search", "codes", "[I", true)
  | 1 => ("HatDraw$Search", "found", "I", false)
  | 2 => ("HatDraw$Search", "office", "LHatDraw$Office;", true)
  | 3 => ("HatDraw$Search", "open", "[I", true)
  | 4 => ("HatDraw$Search", "wanted", "I", false)
  | _ => ("HatDraw$Search", "newOnly", "Z", false)
def tyX2 : Nat → FieldType := fun k => match k with
  | 0 => .array .int
  | 1 => .int
  | 2 => .object "HatDraw$Office"
  | 3 => .array .int
  | 4 => .int
  | _ => .boolean
abbrev wsX20 : List Cond := u_ws RX2 TX2 6
theorem nmX2 : ∀ a, a < 6 → ∀ b, b < 6 → a ≠ b → (TX2 a).2.1 ≠ (TX2 b).2.1 := by decide +kernel
theorem tyX2_ok : ∀ k, k < 6 → parseFieldDescriptor (TX2 k).2.2.1 = some (tyX2 k) := by decide +kernel
abbrev cX2_init : ByteArray := prog_4_method_1_code
def yX2_init : MethodName := ⟨RX2, "<init>", "(LHatDraw$Office;)V"⟩
abbrev cX2_list : ByteArray := prog_4_method_2_code
def yX2_list : MethodName := ⟨RX2, "list", "(IZ)I"⟩
abbrev cX2_extend : ByteArray := prog_4_method_3_code
def yX2_extend : MethodName := ⟨RX2, "extend", "(III)V"⟩
abbrev cX2_admit : ByteArray := prog_4_method_4_code
def yX2_admit : MethodName := ⟨RX2, "admit", "(I)V"⟩
abbrev cX2_fitsAt : ByteArray := prog_4_method_5_code
def yX2_fitsAt : MethodName := ⟨RX2, "fitsAt", "(III)Z"⟩
abbrev cX2_fitting : ByteArray := prog_4_method_6_code
def yX2_fitting : MethodName := ⟨RX2, "fitting", "(II)I"⟩
abbrev cX2_placeOf : ByteArray := prog_4_method_7_code
def yX2_placeOf : MethodName := ⟨RX2, "placeOf", "(II)I"⟩
abbrev cX2_differing : ByteArray := prog_4_method_8_code
def yX2_differing : MethodName := ⟨RX2, "differing", "(II)I"⟩
abbrev cX2_shareByTurns : ByteArray := prog_4_method_9_code
def yX2_shareByTurns : MethodName := ⟨RX2, "shareByTurns", "(IIII)I"⟩
abbrev cX2_shareOf : ByteArray := prog_4_method_10_code
def yX2_shareOf : MethodName := ⟨RX2, "shareOf", "(IIIIII)I"⟩
abbrev cX2_partsAt : ByteArray := prog_4_method_11_code
def yX2_partsAt : MethodName := ⟨RX2, "partsAt", "(III)I"⟩
def RX3 : String := "HatDraw$Texts"
def TX3 : u_T := fun k => match k with
  | 0 => ("HatDraw$Texts", "cells", "[[B", true)
  | _ => ("HatDraw$Texts", "sizes", "[I", true)
def tyX3 : Nat → FieldType := fun k => match k with
  | 0 => .array (.array .byte)
  | _ => .array .int
abbrev wsX30 : List Cond := u_ws RX3 TX3 2
theorem nmX3 : ∀ a, a < 2 → ∀ b, b < 2 → a ≠ b → (TX3 a).2.1 ≠ (TX3 b).2.1 := by decide +kernel
theorem tyX3_ok : ∀ k, k < 2 → parseFieldDescriptor (TX3 k).2.2.1 = some (tyX3 k) := by decide +kernel
abbrev cX3_init : ByteArray := prog_5_method_1_code
def yX3_init : MethodName := ⟨RX3, "<init>", "()V"⟩
abbrev cX3_isMissing : ByteArray := prog_5_method_2_code
def yX3_isMissing : MethodName := ⟨RX3, "isMissing", "(I)Z"⟩
abbrev cX3_renew : ByteArray := prog_5_method_3_code
def yX3_renew : MethodName := ⟨RX3, "renew", "(II)V"⟩
abbrev cX3_firstFault : ByteArray := prog_5_method_4_code
def yX3_firstFault : MethodName := ⟨RX3, "firstFault", "(I)I"⟩
abbrev cX3_isFigure : ByteArray := prog_5_method_5_code
def yX3_isFigure : MethodName := ⟨RX3, "isFigure", "(II)Z"⟩
abbrev cX3_mixAll : ByteArray := prog_5_method_6_code
def yX3_mixAll : MethodName := ⟨RX3, "mixAll", "(J)J"⟩
def RX4 : String := "HatDraw"
def TX4 : u_T := fun k => match k with
  | 0 => ("HatDraw", "rows", "LHatDraw$Rows;", true)
  | 1 => ("HatDraw", "texts", "LHatDraw$Texts;", true)
  | 2 => ("HatDraw", "here", "LHatDraw$Office;", true)
  | 3 => ("HatDraw", "trial", "LHatDraw$Office;", true)
  | 4 => ("HatDraw", "right", "LHatDraw$Search;", true)
  | 5 => ("HatDraw", "tried", "LHatDraw$Search;", true)
  | 6 => ("HatDraw", "hat", "I", false)
  | 7 => ("HatDraw", "drawn", "I", false)
  | 8 => ("HatDraw", "keptHats", "[I", true)
  | 9 => ("HatDraw", "keptDrawn", "[I", true)
  | 10 => ("HatDraw", "keptRules", "[I", true)
  | 11 => ("HatDraw", "stale", "Z", false)
  | 12 => ("HatDraw", "told", "I", false)
  | 13 => ("HatDraw", "upperTold", "J", false)
  | 14 => ("HatDraw", "lowerTold", "J", false)
  | 15 => ("HatDraw", "lastFinding", "I", false)
  | _ => ("HatDraw", "findingCounts", "[I", true)
def tyX4 : Nat → FieldType := fun k => match k with
  | 0 => .object "HatDraw$Rows"
  | 1 => .object "HatDraw$Texts"
  | 2 => .object "HatDraw$Office"
  | 3 => .object "HatDraw$Office"
  | 4 => .object "HatDraw$Search"
  | 5 => .object "HatDraw$Search"
  | 6 => .int
  | 7 => .int
  | 8 => .array .int
  | 9 => .array .int
  | 10 => .array .int
  | 11 => .boolean
  | 12 => .int
  | 13 => .long
  | 14 => .long
  | 15 => .int
  | _ => .array .int
abbrev wsX40 : List Cond := u_ws RX4 TX4 17
theorem nmX4 : ∀ a, a < 17 → ∀ b, b < 17 → a ≠ b → (TX4 a).2.1 ≠ (TX4 b).2.1 := by decide +kernel
theorem tyX4_ok : ∀ k, k < 17 → parseFieldDescriptor (TX4 k).2.2.1 = some (tyX4 k) := by decide +kernel
abbrev cX4_init : ByteArray := prog_1_method_1_code
def yX4_init : MethodName := ⟨RX4, "<init>", "()V"⟩
abbrev cX4_row : ByteArray := prog_1_method_2_code
def yX4_row : MethodName := ⟨RX4, "row", "(II)I"⟩
abbrev cX4_lay : ByteArray := prog_1_method_3_code
def yX4_lay : MethodName := ⟨RX4, "lay", "(III)I"⟩
abbrev cX4_at : ByteArray := prog_1_method_4_code
def yX4_at : MethodName := ⟨RX4, "at", "(II)I"⟩
abbrev cX4_tear : ByteArray := prog_1_method_5_code
def yX4_tear : MethodName := ⟨RX4, "tear", "(I)I"⟩
abbrev cX4_copy : ByteArray := prog_1_method_6_code
def yX4_copy : MethodName := ⟨RX4, "copy", "(IIIII)I"⟩
abbrev cX4_mean : ByteArray := prog_1_method_7_code
def yX4_mean : MethodName := ⟨RX4, "mean", "(I)I"⟩
abbrev cX4_text : ByteArray := prog_1_method_8_code
def yX4_text : MethodName := ⟨RX4, "text", "(II)I"⟩
abbrev cX4_put : ByteArray := prog_1_method_9_code
def yX4_put : MethodName := ⟨RX4, "put", "(III)I"⟩
abbrev cX4_fault : ByteArray := prog_1_method_10_code
def yX4_fault : MethodName := ⟨RX4, "fault", "(I)I"⟩
abbrev cX4_office : ByteArray := prog_1_method_11_code
def yX4_office : MethodName := ⟨RX4, "office", "(I)I"⟩
abbrev cX4_mate : ByteArray := prog_1_method_12_code
def yX4_mate : MethodName := ⟨RX4, "mate", "(II)I"⟩
abbrev cX4_mark : ByteArray := prog_1_method_13_code
def yX4_mark : MethodName := ⟨RX4, "mark", "(II)I"⟩
abbrev cX4_rules : ByteArray := prog_1_method_14_code
def yX4_rules : MethodName := ⟨RX4, "rules", "(I)I"⟩
abbrev cX4_move : ByteArray := prog_1_method_15_code
def yX4_move : MethodName := ⟨RX4, "move", "(II)I"⟩
abbrev cX4_may : ByteArray := prog_1_method_16_code
def yX4_may : MethodName := ⟨RX4, "may", "(I)I"⟩
abbrev cX4_judge : ByteArray := prog_1_method_17_code
def yX4_judge : MethodName := ⟨RX4, "judge", "(I)I"⟩
abbrev cX4_ways : ByteArray := prog_1_method_18_code
def yX4_ways : MethodName := ⟨RX4, "ways", "()I"⟩
abbrev cX4_nth : ByteArray := prog_1_method_19_code
def yX4_nth : MethodName := ⟨RX4, "nth", "(II)I"⟩
abbrev cX4_number : ByteArray := prog_1_method_20_code
def yX4_number : MethodName := ⟨RX4, "number", "(I)I"⟩
abbrev cX4_lot : ByteArray := prog_1_method_21_code
def yX4_lot : MethodName := ⟨RX4, "lot", "(II)I"⟩
abbrev cX4_draw : ByteArray := prog_1_method_22_code
def yX4_draw : MethodName := ⟨RX4, "draw", "(I)I"⟩
abbrev cX4_undo : ByteArray := prog_1_method_23_code
def yX4_undo : MethodName := ⟨RX4, "undo", "(I)I"⟩
abbrev cX4_drew : ByteArray := prog_1_method_24_code
def yX4_drew : MethodName := ⟨RX4, "drew", "(I)I"⟩
abbrev cX4_can : ByteArray := prog_1_method_25_code
def yX4_can : MethodName := ⟨RX4, "can", "()I"⟩
abbrev cX4_turns : ByteArray := prog_1_method_26_code
def yX4_turns : MethodName := ⟨RX4, "turns", "(II)I"⟩
abbrev cX4_alike : ByteArray := prog_1_method_27_code
def yX4_alike : MethodName := ⟨RX4, "alike", "(II)I"⟩
abbrev cX4_play : ByteArray := prog_1_method_28_code
def yX4_play : MethodName := ⟨RX4, "play", "(I)I"⟩
abbrev cX4_keep : ByteArray := prog_1_method_29_code
def yX4_keep : MethodName := ⟨RX4, "keep", "(I)I"⟩
abbrev cX4_on : ByteArray := prog_1_method_30_code
def yX4_on : MethodName := ⟨RX4, "on", "(I)I"⟩
abbrev cX4_year : ByteArray := prog_1_method_31_code
def yX4_year : MethodName := ⟨RX4, "year", "(I)I"⟩
abbrev cX4_forget : ByteArray := prog_1_method_32_code
def yX4_forget : MethodName := ⟨RX4, "forget", "(I)I"⟩
abbrev cX4_run : ByteArray := prog_1_method_33_code
def yX4_run : MethodName := ⟨RX4, "run", "()I"⟩
abbrev cX4_times : ByteArray := prog_1_method_34_code
def yX4_times : MethodName := ⟨RX4, "times", "(II)I"⟩
abbrev cX4_fits : ByteArray := prog_1_method_35_code
def yX4_fits : MethodName := ⟨RX4, "fits", "(II)I"⟩
abbrev cX4_known : ByteArray := prog_1_method_36_code
def yX4_known : MethodName := ⟨RX4, "known", "(II)I"⟩
abbrev cX4_still : ByteArray := prog_1_method_37_code
def yX4_still : MethodName := ⟨RX4, "still", "(II)I"⟩
abbrev cX4_fewest : ByteArray := prog_1_method_38_code
def yX4_fewest : MethodName := ⟨RX4, "fewest", "(I)I"⟩
abbrev cX4_drop : ByteArray := prog_1_method_39_code
def yX4_drop : MethodName := ⟨RX4, "drop", "()I"⟩
abbrev cX4_table : ByteArray := prog_1_method_40_code
def yX4_table : MethodName := ⟨RX4, "table", "(I)I"⟩
abbrev cX4_rings : ByteArray := prog_1_method_41_code
def yX4_rings : MethodName := ⟨RX4, "rings", "(I)I"⟩
abbrev cX4_ringed : ByteArray := prog_1_method_42_code
def yX4_ringed : MethodName := ⟨RX4, "ringed", "(I)I"⟩
abbrev cX4_even : ByteArray := prog_1_method_43_code
def yX4_even : MethodName := ⟨RX4, "even", "(I)I"⟩
abbrev cX4_gain : ByteArray := prog_1_method_44_code
def yX4_gain : MethodName := ⟨RX4, "gain", "(II)I"⟩
abbrev cX4_asked : ByteArray := prog_1_method_45_code
def yX4_asked : MethodName := ⟨RX4, "asked", "()I"⟩
abbrev cX4_upper : ByteArray := prog_1_method_46_code
def yX4_upper : MethodName := ⟨RX4, "upper", "()J"⟩
abbrev cX4_lower : ByteArray := prog_1_method_47_code
def yX4_lower : MethodName := ⟨RX4, "lower", "()J"⟩
abbrev cX4_count : ByteArray := prog_1_method_48_code
def yX4_count : MethodName := ⟨RX4, "count", "(I)I"⟩
abbrev cX4_finding : ByteArray := prog_1_method_49_code
def yX4_finding : MethodName := ⟨RX4, "finding", "()I"⟩
abbrev cX4_findings : ByteArray := prog_1_method_50_code
def yX4_findings : MethodName := ⟨RX4, "findings", "(I)I"⟩
abbrev cX4_digest : ByteArray := prog_1_method_51_code
def yX4_digest : MethodName := ⟨RX4, "digest", "()J"⟩
abbrev cX4_isRow : ByteArray := prog_1_method_52_code
def yX4_isRow : MethodName := ⟨RX4, "isRow", "(I)Z"⟩
abbrev cX4_isText : ByteArray := prog_1_method_53_code
def yX4_isText : MethodName := ⟨RX4, "isText", "(I)Z"⟩
abbrev cX4_isKeptPlace : ByteArray := prog_1_method_54_code
def yX4_isKeptPlace : MethodName := ⟨RX4, "isKeptPlace", "(I)Z"⟩
abbrev cX4_isSeed : ByteArray := prog_1_method_55_code
def yX4_isSeed : MethodName := ⟨RX4, "isSeed", "(I)Z"⟩
abbrev cX4_isMate : ByteArray := prog_1_method_56_code
def yX4_isMate : MethodName := ⟨RX4, "isMate", "(I)Z"⟩
abbrev cX4_isSet : ByteArray := prog_1_method_57_code
def yX4_isSet : MethodName := ⟨RX4, "isSet", "(I)Z"⟩
abbrev cX4_refuse : ByteArray := prog_1_method_58_code
def yX4_refuse : MethodName := ⟨RX4, "refuse", "(I)I"⟩
abbrev cX4_tellFraction : ByteArray := prog_1_method_59_code
def yX4_tellFraction : MethodName := ⟨RX4, "tellFraction", "(II)V"⟩
abbrev cX4_listRight : ByteArray := prog_1_method_60_code
def yX4_listRight : MethodName := ⟨RX4, "listRight", "()V"⟩
abbrev cX4_drawingIn : ByteArray := prog_1_method_61_code
def yX4_drawingIn : MethodName := ⟨RX4, "drawingIn", "(I)I"⟩
abbrev cX4_rightDrawingIn : ByteArray := prog_1_method_62_code
def yX4_rightDrawingIn : MethodName := ⟨RX4, "rightDrawingIn", "(I)I"⟩
abbrev cX4_layDrawing : ByteArray := prog_1_method_63_code
def yX4_layDrawing : MethodName := ⟨RX4, "layDrawing", "(II)V"⟩
abbrev cX4_isTaken : ByteArray := prog_1_method_64_code
def yX4_isTaken : MethodName := ⟨RX4, "isTaken", "(I)Z"⟩
abbrev cX4_takePaper : ByteArray := prog_1_method_65_code
def yX4_takePaper : MethodName := ⟨RX4, "takePaper", "(I)V"⟩
abbrev cX4_nextOpen : ByteArray := prog_1_method_66_code
def yX4_nextOpen : MethodName := ⟨RX4, "nextOpen", "()I"⟩
abbrev cX4_papersOf : ByteArray := prog_1_method_67_code
def yX4_papersOf : MethodName := ⟨RX4, "papersOf", "(I)I"⟩
abbrev cX4_paper : ByteArray := prog_1_method_68_code
def yX4_paper : MethodName := ⟨RX4, "paper", "(II)I"⟩
abbrev cX4_firstOnes : ByteArray := prog_1_method_69_code
def yX4_firstOnes : MethodName := ⟨RX4, "firstOnes", "(I)I"⟩
abbrev cX4_nextLot : ByteArray := prog_1_method_70_code
def yX4_nextLot : MethodName := ⟨RX4, "nextLot", "(I)I"⟩
abbrev cX4_bitNumber : ByteArray := prog_1_method_71_code
def yX4_bitNumber : MethodName := ⟨RX4, "bitNumber", "(II)I"⟩
abbrev cX4_isOf : ByteArray := prog_1_method_72_code
def yX4_isOf : MethodName := ⟨RX4, "isOf", "(II)Z"⟩
abbrev cX4_kindOf : ByteArray := prog_1_method_73_code
def yX4_kindOf : MethodName := ⟨RX4, "kindOf", "(I)I"⟩
abbrev cX4_ringOf : ByteArray := prog_1_method_74_code
def yX4_ringOf : MethodName := ⟨RX4, "ringOf", "(II)I"⟩
abbrev cX4_ringCount : ByteArray := prog_1_method_75_code
def yX4_ringCount : MethodName := ⟨RX4, "ringCount", "(II)I"⟩
abbrev cX4_howManyThere : ByteArray := prog_1_method_76_code
def yX4_howManyThere : MethodName := ⟨RX4, "howManyThere", "([I)I"⟩
abbrev cX4_mixPapers : ByteArray := prog_1_method_77_code
def yX4_mixPapers : MethodName := ⟨RX4, "mixPapers", "(JII)J"⟩
def RX5 : String := "HatDrawModel"
def TX5 : u_T := fun k => match k with
  | 0 => ("HatDrawModel", "finding", "I", false)
  | 1 => ("HatDrawModel", "findings", "[I", true)
  | 2 => ("HatDrawModel", "asked", "I", false)
  | 3 => ("HatDrawModel", "upper", "J", false)
  | 4 => ("HatDrawModel", "lower", "J", false)
  | 5 => ("HatDrawModel", "sizes", "[I", true)
  | 6 => ("HatDrawModel", "rows", "[I", true)
  | 7 => ("HatDrawModel", "moving", "[I", true)
  | 8 => ("HatDrawModel", "lengths", "[I", true)
  | 9 => ("HatDrawModel", "texts", "[I", true)
  | 10 => ("HatDrawModel", "many", "I", false)
  | 11 => ("HatDrawModel", "rules", "I", false)
  | 12 => ("HatDrawModel", "kinds", "[I", true)
  | 13 => ("HatDrawModel", "tables", "[I", true)
  | 14 => ("HatDrawModel", "worths", "[I", true)
  | 15 => ("HatDrawModel", "readAt", "I", false)
  | 16 => ("HatDrawModel", "readMany", "I", false)
  | 17 => ("HatDrawModel", "years", "[I", true)
  | 18 => ("HatDrawModel", "yearMany", "I", false)
  | 19 => ("HatDrawModel", "one", "[I", true)
  | 20 => ("HatDrawModel", "badMate", "I", false)
  | 21 => ("HatDrawModel", "rights", "[I", true)
  | 22 => ("HatDrawModel", "rightMany", "I", false)
  | 23 => ("HatDrawModel", "laidSet", "I", false)
  | 24 => ("HatDrawModel", "drawn", "I", false)
  | 25 => ("HatDrawModel", "hat", "[I", true)
  | 26 => ("HatDrawModel", "beginMany", "I", false)
  | 27 => ("HatDrawModel", "turnSum", "J", false)
  | 28 => ("HatDrawModel", "aside", "[I", true)
  | 29 => ("HatDrawModel", "kept", "[I", true)
  | 30 => ("HatDrawModel", "fitMany", "I", false)
  | _ => ("HatDrawModel", "h0", "J", false)
def tyX5 : Nat → FieldType := fun k => match k with
  | 0 => .int
  | 1 => .array .int
  | 2 => .int
  | 3 => .long
  | 4 => .long
  | 5 => .array .int
  | 6 => .array .int
  | 7 => .array .int
  | 8 => .array .int
  | 9 => .array .int
  | 10 => .int
  | 11 => .int
  | 12 => .array .int
  | 13 => .array .int
  | 14 => .array .int
  | 15 => .int
  | 16 => .int
  | 17 => .array .int
  | 18 => .int
  | 19 => .array .int
  | 20 => .int
  | 21 => .array .int
  | 22 => .int
  | 23 => .int
  | 24 => .int
  | 25 => .array .int
  | 26 => .int
  | 27 => .long
  | 28 => .array .int
  | 29 => .array .int
  | 30 => .int
  | _ => .long
abbrev wsX50 : List Cond := u_ws RX5 TX5 32
theorem nmX5 : ∀ a, a < 32 → ∀ b, b < 32 → a ≠ b → (TX5 a).2.1 ≠ (TX5 b).2.1 := by decide +kernel
theorem tyX5_ok : ∀ k, k < 32 → parseFieldDescriptor (TX5 k).2.2.1 = some (tyX5 k) := by decide +kernel
abbrev cX5_init : ByteArray := prog_7_method_1_code
def yX5_init : MethodName := ⟨RX5, "<init>", "()V"⟩
abbrev cX5_in : ByteArray := prog_7_method_3_code
def yX5_in : MethodName := ⟨RX5, "in", "(III)Z"⟩
abbrev cX5_meet : ByteArray := prog_7_method_4_code
def yX5_meet : MethodName := ⟨RX5, "meet", "(I)I"⟩
abbrev cX5_ask : ByteArray := prog_7_method_5_code
def yX5_ask : MethodName := ⟨RX5, "ask", "(II)I"⟩
abbrev cX5_part : ByteArray := prog_7_method_6_code
def yX5_part : MethodName := ⟨RX5, "part", "(JJI)I"⟩
abbrev cX5_has : ByteArray := prog_7_method_7_code
def yX5_has : MethodName := ⟨RX5, "has", "(II)Z"⟩
abbrev cX5_sizeOf : ByteArray := prog_7_method_8_code
def yX5_sizeOf : MethodName := ⟨RX5, "sizeOf", "(I)I"⟩
abbrev cX5_isRow : ByteArray := prog_7_method_9_code
def yX5_isRow : MethodName := ⟨RX5, "isRow", "(I)Z"⟩
abbrev cX5_isText : ByteArray := prog_7_method_10_code
def yX5_isText : MethodName := ⟨RX5, "isText", "(I)Z"⟩
abbrev cX5_askedRow : ByteArray := prog_7_method_11_code
def yX5_askedRow : MethodName := ⟨RX5, "askedRow", "(I)I"⟩
abbrev cX5_askedText : ByteArray := prog_7_method_12_code
def yX5_askedText : MethodName := ⟨RX5, "askedText", "(I)I"⟩
abbrev cX5_rowAt : ByteArray := prog_7_method_13_code
def yX5_rowAt : MethodName := ⟨RX5, "rowAt", "(II)I"⟩
abbrev cX5_setRow : ByteArray := prog_7_method_14_code
def yX5_setRow : MethodName := ⟨RX5, "setRow", "(III)V"⟩
abbrev cX5_row : ByteArray := prog_7_method_15_code
def yX5_row : MethodName := ⟨RX5, "row", "(II)I"⟩
abbrev cX5_at : ByteArray := prog_7_method_16_code
def yX5_at : MethodName := ⟨RX5, "at", "(II)I"⟩
abbrev cX5_lay : ByteArray := prog_7_method_17_code
def yX5_lay : MethodName := ⟨RX5, "lay", "(III)I"⟩
abbrev cX5_tear : ByteArray := prog_7_method_18_code
def yX5_tear : MethodName := ⟨RX5, "tear", "(I)I"⟩
abbrev cX5_copy : ByteArray := prog_7_method_19_code
def yX5_copy : MethodName := ⟨RX5, "copy", "(IIIII)I"⟩
abbrev cX5_mean : ByteArray := prog_7_method_20_code
def yX5_mean : MethodName := ⟨RX5, "mean", "(I)I"⟩
abbrev cX5_text : ByteArray := prog_7_method_21_code
def yX5_text : MethodName := ⟨RX5, "text", "(II)I"⟩
abbrev cX5_put : ByteArray := prog_7_method_22_code
def yX5_put : MethodName := ⟨RX5, "put", "(III)I"⟩
abbrev cX5_here : ByteArray := prog_7_method_23_code
def yX5_here : MethodName := ⟨RX5, "here", "(I)I"⟩
abbrev cX5_kindOf : ByteArray := prog_7_method_24_code
def yX5_kindOf : MethodName := ⟨RX5, "kindOf", "(I)I"⟩
abbrev cX5_readsMate : ByteArray := prog_7_method_25_code
def yX5_readsMate : MethodName := ⟨RX5, "readsMate", "(I)Z"⟩
abbrev cX5_goesOn : ByteArray := prog_7_method_26_code
def yX5_goesOn : MethodName := ⟨RX5, "goesOn", "(I)I"⟩
abbrev cX5_fault : ByteArray := prog_7_method_27_code
def yX5_fault : MethodName := ⟨RX5, "fault", "(I)I"⟩
abbrev cX5_office : ByteArray := prog_7_method_28_code
def yX5_office : MethodName := ⟨RX5, "office", "(I)I"⟩
abbrev cX5_isMate : ByteArray := prog_7_method_29_code
def yX5_isMate : MethodName := ⟨RX5, "isMate", "(I)Z"⟩
abbrev cX5_isSet : ByteArray := prog_7_method_30_code
def yX5_isSet : MethodName := ⟨RX5, "isSet", "(I)Z"⟩
abbrev cX5_isA : ByteArray := prog_7_method_31_code
def yX5_isA : MethodName := ⟨RX5, "isA", "(II)Z"⟩
abbrev cX5_lastOf : ByteArray := prog_7_method_32_code
def yX5_lastOf : MethodName := ⟨RX5, "lastOf", "(I)I"⟩
abbrev cX5_mateOf : ByteArray := prog_7_method_33_code
def yX5_mateOf : MethodName := ⟨RX5, "mateOf", "(II)I"⟩
abbrev cX5_mate : ByteArray := prog_7_method_34_code
def yX5_mate : MethodName := ⟨RX5, "mate", "(II)I"⟩
abbrev cX5_barOf : ByteArray := prog_7_method_35_code
def yX5_barOf : MethodName := ⟨RX5, "barOf", "(II)I"⟩
abbrev cX5_mayOf : ByteArray := prog_7_method_36_code
def yX5_mayOf : MethodName := ⟨RX5, "mayOf", "(I)I"⟩
abbrev cX5_mark : ByteArray := prog_7_method_37_code
def yX5_mark : MethodName := ⟨RX5, "mark", "(II)I"⟩
abbrev cX5_rules : ByteArray := prog_7_method_38_code
def yX5_rules : MethodName := ⟨RX5, "rules", "(I)I"⟩
abbrev cX5_move : ByteArray := prog_7_method_39_code
def yX5_move : MethodName := ⟨RX5, "move", "(II)I"⟩
abbrev cX5_may : ByteArray := prog_7_method_40_code
def yX5_may : MethodName := ⟨RX5, "may", "(I)I"⟩
abbrev cX5_askedDrawing : ByteArray := prog_7_method_41_code
def yX5_askedDrawing : MethodName := ⟨RX5, "askedDrawing", "(I)I"⟩
abbrev cX5_isBack : ByteArray := prog_7_method_42_code
def yX5_isBack : MethodName := ⟨RX5, "isBack", "(II)Z"⟩
abbrev cX5_ringOf : ByteArray := prog_7_method_43_code
def yX5_ringOf : MethodName := ⟨RX5, "ringOf", "(I)I"⟩
abbrev cX5_ringsOf : ByteArray := prog_7_method_44_code
def yX5_ringsOf : MethodName := ⟨RX5, "ringsOf", "()I"⟩
abbrev cX5_badBy : ByteArray := prog_7_method_45_code
def yX5_badBy : MethodName := ⟨RX5, "badBy", "()I"⟩
abbrev cX5_judge : ByteArray := prog_7_method_46_code
def yX5_judge : MethodName := ⟨RX5, "judge", "(I)I"⟩
abbrev cX5_rightOn : ByteArray := prog_7_method_47_code
def yX5_rightOn : MethodName := ⟨RX5, "rightOn", "(I)V"⟩
abbrev cX5_setRights : ByteArray := prog_7_method_48_code
def yX5_setRights : MethodName := ⟨RX5, "setRights", "()V"⟩
abbrev cX5_right : ByteArray := prog_7_method_49_code
def yX5_right : MethodName := ⟨RX5, "right", "(II)I"⟩
abbrev cX5_ways : ByteArray := prog_7_method_50_code
def yX5_ways : MethodName := ⟨RX5, "ways", "()I"⟩
abbrev cX5_layRight : ByteArray := prog_7_method_51_code
def yX5_layRight : MethodName := ⟨RX5, "layRight", "(II)V"⟩
abbrev cX5_nth : ByteArray := prog_7_method_52_code
def yX5_nth : MethodName := ⟨RX5, "nth", "(II)I"⟩
abbrev cX5_numberOf : ByteArray := prog_7_method_53_code
def yX5_numberOf : MethodName := ⟨RX5, "numberOf", "(I)I"⟩
abbrev cX5_number : ByteArray := prog_7_method_54_code
def yX5_number : MethodName := ⟨RX5, "number", "(I)I"⟩
abbrev cX5_isSeed : ByteArray := prog_7_method_55_code
def yX5_isSeed : MethodName := ⟨RX5, "isSeed", "(I)Z"⟩
abbrev cX5_lot : ByteArray := prog_7_method_56_code
def yX5_lot : MethodName := ⟨RX5, "lot", "(II)I"⟩
abbrev cX5_draw : ByteArray := prog_7_method_57_code
def yX5_draw : MethodName := ⟨RX5, "draw", "(I)I"⟩
abbrev cX5_undo : ByteArray := prog_7_method_58_code
def yX5_undo : MethodName := ⟨RX5, "undo", "(I)I"⟩
abbrev cX5_drew : ByteArray := prog_7_method_59_code
def yX5_drew : MethodName := ⟨RX5, "drew", "(I)I"⟩
abbrev cX5_begins : ByteArray := prog_7_method_60_code
def yX5_begins : MethodName := ⟨RX5, "begins", "(II)Z"⟩
abbrev cX5_cans : ByteArray := prog_7_method_61_code
def yX5_cans : MethodName := ⟨RX5, "cans", "(I)I"⟩
abbrev cX5_can : ByteArray := prog_7_method_62_code
def yX5_can : MethodName := ⟨RX5, "can", "()I"⟩
abbrev cX5_turnOn : ByteArray := prog_7_method_63_code
def yX5_turnOn : MethodName := ⟨RX5, "turnOn", "(IIIJ)V"⟩
abbrev cX5_turns : ByteArray := prog_7_method_64_code
def yX5_turns : MethodName := ⟨RX5, "turns", "(II)I"⟩
abbrev cX5_alike : ByteArray := prog_7_method_65_code
def yX5_alike : MethodName := ⟨RX5, "alike", "(II)I"⟩
abbrev cX5_play : ByteArray := prog_7_method_66_code
def yX5_play : MethodName := ⟨RX5, "play", "(I)I"⟩
abbrev cX5_keep : ByteArray := prog_7_method_67_code
def yX5_keep : MethodName := ⟨RX5, "keep", "(I)I"⟩
abbrev cX5_on : ByteArray := prog_7_method_68_code
def yX5_on : MethodName := ⟨RX5, "on", "(I)I"⟩
abbrev cX5_year : ByteArray := prog_7_method_69_code
def yX5_year : MethodName := ⟨RX5, "year", "(I)I"⟩
abbrev cX5_forget : ByteArray := prog_7_method_70_code
def yX5_forget : MethodName := ⟨RX5, "forget", "(I)I"⟩
abbrev cX5_isYear : ByteArray := prog_7_method_71_code
def yX5_isYear : MethodName := ⟨RX5, "isYear", "(I)Z"⟩
abbrev cX5_run : ByteArray := prog_7_method_72_code
def yX5_run : MethodName := ⟨RX5, "run", "()I"⟩
abbrev cX5_times : ByteArray := prog_7_method_73_code
def yX5_times : MethodName := ⟨RX5, "times", "(II)I"⟩
abbrev cX5_askedRight : ByteArray := prog_7_method_74_code
def yX5_askedRight : MethodName := ⟨RX5, "askedRight", "(I)I"⟩
abbrev cX5_knownOf : ByteArray := prog_7_method_75_code
def yX5_knownOf : MethodName := ⟨RX5, "knownOf", "(II)I"⟩
abbrev cX5_askedTelling : ByteArray := prog_7_method_76_code
def yX5_askedTelling : MethodName := ⟨RX5, "askedTelling", "(II)I"⟩
abbrev cX5_fits : ByteArray := prog_7_method_77_code
def yX5_fits : MethodName := ⟨RX5, "fits", "(II)I"⟩
abbrev cX5_known : ByteArray := prog_7_method_78_code
def yX5_known : MethodName := ⟨RX5, "known", "(II)I"⟩
abbrev cX5_still : ByteArray := prog_7_method_79_code
def yX5_still : MethodName := ⟨RX5, "still", "(II)I"⟩
abbrev cX5_fewest : ByteArray := prog_7_method_80_code
def yX5_fewest : MethodName := ⟨RX5, "fewest", "(I)I"⟩
abbrev cX5_drop : ByteArray := prog_7_method_81_code
def yX5_drop : MethodName := ⟨RX5, "drop", "()I"⟩
abbrev cX5_table : ByteArray := prog_7_method_82_code
def yX5_table : MethodName := ⟨RX5, "table", "(I)I"⟩
abbrev cX5_rings : ByteArray := prog_7_method_83_code
def yX5_rings : MethodName := ⟨RX5, "rings", "(I)I"⟩
abbrev cX5_lookAt : ByteArray := prog_7_method_84_code
def yX5_lookAt : MethodName := ⟨RX5, "lookAt", "(I)V"⟩
abbrev cX5_ringed : ByteArray := prog_7_method_85_code
def yX5_ringed : MethodName := ⟨RX5, "ringed", "(I)I"⟩
abbrev cX5_even : ByteArray := prog_7_method_86_code
def yX5_even : MethodName := ⟨RX5, "even", "(I)I"⟩
abbrev cX5_gain : ByteArray := prog_7_method_87_code
def yX5_gain : MethodName := ⟨RX5, "gain", "(II)I"⟩
abbrev cX5_asked : ByteArray := prog_7_method_88_code
def yX5_asked : MethodName := ⟨RX5, "asked", "()I"⟩
abbrev cX5_upper : ByteArray := prog_7_method_89_code
def yX5_upper : MethodName := ⟨RX5, "upper", "()J"⟩
abbrev cX5_lower : ByteArray := prog_7_method_90_code
def yX5_lower : MethodName := ⟨RX5, "lower", "()J"⟩
abbrev cX5_tells : ByteArray := prog_7_method_91_code
def yX5_tells : MethodName := ⟨RX5, "tells", "(I)I"⟩
abbrev cX5_count : ByteArray := prog_7_method_92_code
def yX5_count : MethodName := ⟨RX5, "count", "(I)I"⟩
abbrev cX5_finding : ByteArray := prog_7_method_93_code
def yX5_finding : MethodName := ⟨RX5, "finding", "()I"⟩
abbrev cX5_findings : ByteArray := prog_7_method_94_code
def yX5_findings : MethodName := ⟨RX5, "findings", "(I)I"⟩
abbrev cX5_mix : ByteArray := prog_7_method_95_code
def yX5_mix : MethodName := ⟨RX5, "mix", "(I)V"⟩
abbrev cX5_mixOffice : ByteArray := prog_7_method_96_code
def yX5_mixOffice : MethodName := ⟨RX5, "mixOffice", "()V"⟩
abbrev cX5_digest : ByteArray := prog_7_method_97_code
def yX5_digest : MethodName := ⟨RX5, "digest", "()J"⟩
def RJ6 : String := "java/lang/Integer"
def TJ6 : u_T := fun k => match k with
  | _ => ("", "", "", false)
def tyJ6 : Nat → FieldType := fun k => match k with
  | _ => .int
abbrev wsJ60 : List Cond := u_ws RJ6 TJ6 0
theorem nmJ6 : ∀ a, a < 0 → ∀ b, b < 0 → a ≠ b → (TJ6 a).2.1 ≠ (TJ6 b).2.1 := by decide +kernel
theorem tyJ6_ok : ∀ k, k < 0 → parseFieldDescriptor (TJ6 k).2.2.1 = some (tyJ6 k) := by decide +kernel
abbrev cJ6_bitCount_0f7a4 : ByteArray := prog_8_method_49_code
def yJ6_bitCount_0f7a4 : MethodName := ⟨RJ6, "bitCount", "(I)I"⟩
def RJ9 : String := "java/lang/Math"
def TJ9 : u_T := fun k => match k with
  | _ => ("", "", "", false)
def tyJ9 : Nat → FieldType := fun k => match k with
  | _ => .int
abbrev wsJ90 : List Cond := u_ws RJ9 TJ9 0
theorem nmJ9 : ∀ a, a < 0 → ∀ b, b < 0 → a ≠ b → (TJ9 a).2.1 ≠ (TJ9 b).2.1 := by decide +kernel
theorem tyJ9_ok : ∀ k, k < 0 → parseFieldDescriptor (TJ9 k).2.2.1 = some (tyJ9 k) := by decide +kernel
abbrev cJ9_abs_0f7a4 : ByteArray := prog_9_method_59_code
def yJ9_abs_0f7a4 : MethodName := ⟨RJ9, "abs", "(I)I"⟩
abbrev cJ9_max_7cf53 : ByteArray := prog_9_method_65_code
def yJ9_max_7cf53 : MethodName := ⟨RJ9, "max", "(II)I"⟩
abbrev cJ9_min_7cf53 : ByteArray := prog_9_method_69_code
def yJ9_min_7cf53 : MethodName := ⟨RJ9, "min", "(II)I"⟩
def RJ10 : String := "java/lang/System"
def TJ10 : u_T := fun k => match k with
  | _ => ("", "", "", false)
def tyJ10 : Nat → FieldType := fun k => match k with
  | _ => .int
abbrev wsJ100 : List Cond := u_ws RJ10 TJ10 0
theorem nmJ10 : ∀ a, a < 0 → ∀ b, b < 0 → a ≠ b → (TJ10 a).2.1 ≠ (TJ10 b).2.1 := by decide +kernel
theorem tyJ10_ok : ∀ k, k < 0 → parseFieldDescriptor (TJ10 k).2.2.1 = some (tyJ10 k) := by decide +kernel
def RJ7 : String := "java/util/Arrays"
def TJ7 : u_T := fun k => match k with
  | _ => ("", "", "", false)
def tyJ7 : Nat → FieldType := fun k => match k with
  | _ => .int
abbrev wsJ70 : List Cond := u_ws RJ7 TJ7 0
theorem nmJ7 : ∀ a, a < 0 → ∀ b, b < 0 → a ≠ b → (TJ7 a).2.1 ≠ (TJ7 b).2.1 := by decide +kernel
theorem tyJ7_ok : ∀ k, k < 0 → parseFieldDescriptor (TJ7 k).2.2.1 = some (tyJ7 k) := by decide +kernel
abbrev cJ7_fill_53178 : ByteArray := prog_11_method_103_code
def yJ7_fill_53178 : MethodName := ⟨RJ7, "fill", "([II)V"⟩
abbrev cJ7_fill_031fb : ByteArray := prog_11_method_109_code
def yJ7_fill_031fb : MethodName := ⟨RJ7, "fill", "([BB)V"⟩
def RL : String := "HatDrawLaw"
abbrev cL_law : ByteArray := code
def yL_law : MethodName := ⟨RL, "law", "([I)Z"⟩
end
section
/-! words: all good words of the tables, one list for every method -/
def ww : List Cond := lw_tbl.filter goodWord
theorem ww_of {w : Cond} (h : w ∈ lw_tbl) (g : goodWord w = true) : w ∈ ww := List.mem_filter.mpr ⟨h, g⟩
theorem ww_p {w : Cond} (q : MethodName × Nat) (hq : q ∈ lw_privs) (e : Cond.selects q.1.cls q.1 q.1 = w) : w ∈ ww := by
  subst e
  exact ww_of (List.mem_append_left _ (List.mem_map.mpr ⟨q, hq, rfl⟩)) rfl
theorem ww_1 {w : Cond} (i : Nat) (h : tables_1_1[i]? = some w) (g : goodWord w = true) : w ∈ ww := ww_of (List.mem_append_right _ (List.mem_append_left _ (List.mem_of_getElem? h))) g
theorem ww_2 {w : Cond} (i : Nat) (h : tables_1_2[i]? = some w) (g : goodWord w = true) : w ∈ ww := ww_of (List.mem_append_right _ (List.mem_append_right _ (List.mem_append_left _ (List.mem_of_getElem? h)))) g
theorem ww_3 {w : Cond} (i : Nat) (h : tables_1_3[i]? = some w) (g : goodWord w = true) : w ∈ ww := ww_of (List.mem_append_right _ (List.mem_append_right _ (List.mem_append_right _ (List.mem_append_left _ (List.mem_of_getElem? h))))) g
theorem ww_4 {w : Cond} (i : Nat) (h : tables_1_4[i]? = some w) (g : goodWord w = true) : w ∈ ww := ww_of (List.mem_append_right _ (List.mem_append_right _ (List.mem_append_right _ (List.mem_append_right _ (List.mem_append_left _ (List.mem_of_getElem? h)))))) g
theorem ww_5 {w : Cond} (i : Nat) (h : tables_1_5[i]? = some w) (g : goodWord w = true) : w ∈ ww := ww_of (List.mem_append_right _ (List.mem_append_right _ (List.mem_append_right _ (List.mem_append_right _ (List.mem_append_right _ (List.mem_of_getElem? h)))))) g
theorem ww_good : ∀ w ∈ ww, w ∈ ww ∧ ((w.onTables && w.keeps) = true ∨ ∃ ty, w = .arrayClass ty) := fun w h => ⟨h, good_of_word (List.mem_filter.mp h).2⟩
theorem gww {y : MethodName} {b : ByteArray} {n : Nat} {r : Option FieldType} (h : Cond.code y b n r ∈ ww) : GoodIn ww (Cond.code y b n r :: ww) := fun w hw => by
  rcases List.mem_cons.mp hw with e | e
  · rw [e]; exact ww_good _ h
  · exact ww_good _ e
/-! the universe: values, worlds -/
abbrev AV : Type := Int32 ⊕ (Int64 ⊕ (Nat × Nat))
abbrev vi (x : Int32) : AV := .inl x
abbrev vl (x : Int64) : AV := .inr (.inl x)
abbrev vr (g i : Nat) : AV := .inr (.inr (g, i))
abbrev Wd : Type := (Nat → Nat → Int32) × (Nat → Nat → Int64) × (Nat → Nat → Nat → Int32)
def gI (w : Wd) (f i : Nat) : Int32 := w.1 f i
def gL (w : Wd) (f i : Nat) : Int64 := w.2.1 f i
def gA (w : Wd) (g i : Nat) : Nat → Int32 := w.2.2 g i
def sI (w : Wd) (f i : Nat) (v : Int32) : Wd := (fun f' i' => if f' = f ∧ i' = i then v else w.1 f' i', w.2.1, w.2.2)
def sL (w : Wd) (f i : Nat) (v : Int64) : Wd := (w.1, fun f' i' => if f' = f ∧ i' = i then v else w.2.1 f' i', w.2.2)
def sA (w : Wd) (g i : Nat) (v : Nat → Int32) : Wd := (w.1, w.2.1, fun g' i' => if g' = g ∧ i' = i then v else w.2.2 g' i')
theorem gI_sI (w : Wd) (f i f' i' : Nat) (v : Int32) : gI (sI w f i v) f' i' = if f' = f ∧ i' = i then v else gI w f' i' := rfl
theorem gI_sL (w : Wd) (f i f' i' : Nat) (v : Int64) : gI (sL w f i v) f' i' = gI w f' i' := rfl
theorem gI_sA (w : Wd) (f i f' i' : Nat) (v : Nat → Int32) : gI (sA w f i v) f' i' = gI w f' i' := rfl
theorem gL_sI (w : Wd) (f i f' i' : Nat) (v : Int32) : gL (sI w f i v) f' i' = gL w f' i' := rfl
theorem gL_sL (w : Wd) (f i f' i' : Nat) (v : Int64) : gL (sL w f i v) f' i' = if f' = f ∧ i' = i then v else gL w f' i' := rfl
theorem gL_sA (w : Wd) (f i f' i' : Nat) (v : Nat → Int32) : gL (sA w f i v) f' i' = gL w f' i' := rfl
theorem gA_sI (w : Wd) (f i f' i' : Nat) (v : Int32) : gA (sI w f i v) f' i' = gA w f' i' := rfl
theorem gA_sL (w : Wd) (f i f' i' : Nat) (v : Int64) : gA (sL w f i v) f' i' = gA w f' i' := rfl
theorem gA_sA (w : Wd) (f i f' i' : Nat) (v : Nat → Int32) : gA (sA w f i v) f' i' = if f' = f ∧ i' = i then v else gA w f' i' := rfl
/-- D, the class ids of the kinds of arrays, the addresses -/
abbrev GT : Type := va_G × (Nat → ClassId) × (Nat → Nat → Nat)
def cv (G : GT) : AV → Value
  | .inl x => .int x
  | .inr (.inl x) => .long x
  | .inr (.inr q) => .ref (G.2.2 q.1 q.2)
def cat : AV → Nat
  | .inr (.inl _) => 2
  | _ => 1
theorem cv_cat (G : GT) (v : AV) : (cv G v).category = cat v := by
  rcases v with x | x | x <;> rfl
abbrev FD : Type := Nat ⊕ (Nat ⊕ (Nat × Nat))
def fv (w : Wd) (i : Nat) : FD → AV
  | .inl f => .inl (gI w f i)
  | .inr (.inl f) => .inr (.inl (gL w f i))
  | .inr (.inr q) => .inr (.inr (q.1, i + q.2))
abbrev fi (n : Nat) : FD := .inl n
abbrev fl (n : Nat) : FD := .inr (.inl n)
abbrev fr (g i : Nat) : FD := .inr (.inr (g, i))
abbrev cls : List vw_C := [(RX0, TX0, 7), (RX1, TX1, 2), (RX2, TX2, 6), (RX3, TX3, 2), (RX4, TX4, 17), (RX5, TX5, 32)]
/-- the objects: class, fields -/
def lay : Nat → Nat × List FD
  | 0 => (4, [fr 1 0, fr 2 0, fr 3 0, fr 3 1, fr 4 0, fr 4 1, fi 406, fi 407, fr 22 0, fr 23 0, fr 24 0, fi 411, fi 412, fl 413, fl 414, fi 415, fr 25 0])
  | 1 => (1, [fr 10 0, fr 12 0])
  | 2 => (3, [fr 13 0, fr 15 0])
  | 3 => (0, [fr 16 0, fr 17 0, fr 18 0, fr 19 0, fi 4, fi 5, fi 6])
  | 4 => (2, [fr 20 0, fi 201, fr 3 0, fr 21 0, fi 204, fi 205])
  | _ => (5, [fi 500, fr 30 0, fi 502, fl 503, fl 504, fr 31 0, fr 32 0, fr 33 0, fr 34 0, fr 35 0, fi 510, fi 511, fr 36 0, fr 37 0, fr 38 0, fi 515, fi 516, fr 39 0, fi 518, fr 40 0, fi 520, fr 41 0, fi 522, fi 523, fi 524, fr 42 0, fi 526, fl 527, fr 43 0, fr 44 0, fi 530, fl 531])
/-- the arrays: kind (0 int, 1 byte, 2 of int arrays, 3 of byte arrays), length -/
def arr : Nat → Nat × Nat
  | 10 => (2, 6)
  | 11 => (0, 40)
  | 12 => (0, 6)
  | 13 => (3, 4)
  | 14 => (1, 60)
  | 15 => (0, 4)
  | 16 => (0, 6)
  | 17 => (0, 6)
  | 18 => (0, 6)
  | 19 => (0, 42)
  | 20 => (0, 265)
  | 21 => (0, 6)
  | 22 => (0, 3)
  | 23 => (0, 3)
  | 24 => (0, 3)
  | 25 => (0, 6)
  | 30 => (0, 6)
  | 31 => (0, 6)
  | 32 => (0, 240)
  | 33 => (0, 40)
  | 34 => (0, 4)
  | 35 => (0, 240)
  | 36 => (0, 12)
  | 37 => (0, 12)
  | 38 => (0, 12)
  | 39 => (0, 252)
  | 40 => (0, 6)
  | 41 => (0, 4320)
  | 42 => (0, 6)
  | 43 => (0, 6)
  | 44 => (0, 24)
  | _ => (0, 0)
def gis : List (Nat × Nat) := [(0, 0), (1, 0), (2, 0), (3, 0), (3, 1), (4, 0), (4, 1), (5, 0), (10, 0), (11, 0), (11, 1), (11, 2), (11, 3), (11, 4), (11, 5), (12, 0), (13, 0), (14, 0), (14, 1), (14, 2), (14, 3), (15, 0), (16, 0), (16, 1), (17, 0), (17, 1), (18, 0), (18, 1), (19, 0), (19, 1), (20, 0), (20, 1), (21, 0), (21, 1), (22, 0), (23, 0), (24, 0), (25, 0), (30, 0), (31, 0), (32, 0), (33, 0), (34, 0), (35, 0), (36, 0), (37, 0), (38, 0), (39, 0), (40, 0), (41, 0), (42, 0), (43, 0), (44, 0)]
theorem gis_nd : gis.Nodup := by decide +kernel
def cel (G : GT) (w : Wd) (q : Nat × Nat) : va_E :=
  if q.1 < 10 then .inr ((lay q.1).1, (lay q.1).2.map (fun d => cv G (fv w q.2 d)))
  else if (arr q.1).1 < 2 then .inl (G.2.1 (arr q.1).1, (arr q.1).2, .inl (gA w q.1 q.2))
  else .inl (G.2.1 (arr q.1).1, (arr q.1).2, .inr (.inr (.inr (.inr (fun k => if k < (arr q.1).2 then some (G.2.2 (q.1 + 1) k) else none)))))
def wl (G : GT) (w : Wd) : va_W := gis.map (fun q => (G.2.2 q.1 q.2, cel G w q))
def aG (G : GT) : Nat → Prop := fun a => ∃ q ∈ gis, a = G.2.2 q.1 q.2
def Inj (G : GT) : Prop := ∀ p ∈ gis, ∀ q ∈ gis, G.2.2 p.1 p.2 = G.2.2 q.1 q.2 → p = q
def tyG (G : GT) : List (ClassId × FieldType) := [(G.2.1 0, .int), (G.2.1 1, .byte), (G.2.1 2, .array .int), (G.2.1 3, .array .byte)]
theorem wl_at (G : GT) (w : Wd) {k : Nat} {q : Nat × Nat} (h : gis[k]? = some q) : (wl G w)[k]? = some (G.2.2 q.1 q.2, cel G w q) := by
  unfold wl; rw [List.getElem?_map, h]; rfl
theorem wl_get {G : GT} {w : Wd} {k : Nat} {x : Nat × va_E} (h : (wl G w)[k]? = some x) : ∃ q, gis[k]? = some q ∧ x = (G.2.2 q.1 q.2, cel G w q) := by
  unfold wl at h
  rw [List.getElem?_map] at h
  cases hq : gis[k]? with
  | none => rw [hq] at h; cases h
  | some q => rw [hq] at h; exact ⟨q, rfl, (Option.some.inj h).symm⟩
theorem wl_D {G : GT} (hi : Inj G) (w : Wd) : va_D (aG G) (wl G w) := by
  refine ⟨fun i j p q h1 h2 e => ?_, fun k q h => ?_⟩
  · obtain ⟨a, a1, rfl⟩ := wl_get h1
    obtain ⟨b, b1, rfl⟩ := wl_get h2
    have hab : a = b := hi a (List.mem_of_getElem? a1) b (List.mem_of_getElem? b1) e
    subst hab
    obtain ⟨l1, e1⟩ := List.getElem?_eq_some_iff.mp a1
    obtain ⟨l2, e2⟩ := List.getElem?_eq_some_iff.mp b1
    exact (List.getElem_inj (h₀ := l1) (h₁ := l2) gis_nd).mp (e1.trans e2.symm)
  · obtain ⟨a, a1, rfl⟩ := wl_get h
    exact ⟨a, List.mem_of_getElem? a1, rfl⟩
theorem wl_set {G : GT} {w w' : Wd} {k : Nat} {q : Nat × Nat} {e : va_E} (hk : gis[k]? = some q) (he : cel G w' q = e) (ho : ∀ p ∈ gis, p ≠ q → cel G w' p = cel G w p) : (wl G w).set k (G.2.2 q.1 q.2, e) = wl G w' := by
  apply List.ext_getElem?
  intro j
  by_cases hj : j = k
  · subst hj
    have hl : j < (wl G w).length := (List.getElem?_eq_some_iff.mp (wl_at G w hk)).1
    rw [List.getElem?_set_self hl, wl_at G w' hk, he]
  · rw [List.getElem?_set_ne (Ne.symm hj)]
    unfold wl
    rw [List.getElem?_map, List.getElem?_map]
    cases hp : gis[j]? with
    | none => rfl
    | some p =>
      have hpq : p ≠ q := by
        intro e0
        subst e0
        obtain ⟨l1, e1⟩ := List.getElem?_eq_some_iff.mp hp
        obtain ⟨l2, e2⟩ := List.getElem?_eq_some_iff.mp hk
        exact hj ((List.getElem_inj (h₀ := l1) (h₁ := l2) gis_nd).mp (e1.trans e2.symm))
      show some (G.2.2 p.1 p.2, cel G w p) = some (G.2.2 p.1 p.2, cel G w' p)
      rw [ho p (List.mem_of_getElem? hp) hpq]
/-- field k of the objects g is the int f, and nothing else is -/
def okI (g k f : Nat) : Bool := decide ((lay g).2[k]? = some (.inl f)) && gis.all (fun p => decide (p.1 < 10) == false || (List.range (lay p.1).2.length).all (fun j => (p.1 == g && j == k) || !(decide ((lay p.1).2[j]? = some (.inl f)))))
def okL (g k f : Nat) : Bool := decide ((lay g).2[k]? = some (.inr (.inl f))) && gis.all (fun p => decide (p.1 < 10) == false || (List.range (lay p.1).2.length).all (fun j => (p.1 == g && j == k) || !(decide ((lay p.1).2[j]? = some (.inr (.inl f))))))
theorem cel_arr {G : GT} {w : Wd} {g i : Nat} (h : ¬ g < 10) (hk : (arr g).1 < 2) : cel G w (g, i) = .inl (G.2.1 (arr g).1, (arr g).2, .inl (gA w g i)) := by
  unfold cel; rw [if_neg h, if_pos hk]
theorem cel_out {G : GT} {w : Wd} {g i : Nat} (h : ¬ g < 10) (hk : ¬ (arr g).1 < 2) : cel G w (g, i) = .inl (G.2.1 (arr g).1, (arr g).2, .inr (.inr (.inr (.inr (fun k => if k < (arr g).2 then some (G.2.2 (g + 1) k) else none))))) := by
  unfold cel; rw [if_neg h, if_neg hk]
theorem cel_obj {G : GT} {w : Wd} {g i : Nat} (h : g < 10) : cel G w (g, i) = .inr ((lay g).1, (lay g).2.map (fun d => cv G (fv w i d))) := by
  unfold cel; rw [if_pos h]
theorem set_sA {G : GT} {w : Wd} {k g i : Nat} {v : Nat → Int32} (hk : gis[k]? = some (g, i)) (h : ¬ g < 10) (h2 : (arr g).1 < 2) : (wl G w).set k (G.2.2 g i, .inl (G.2.1 (arr g).1, (arr g).2, .inl v)) = wl G (sA w g i v) := by
  refine wl_set hk ?_ ?_
  · rw [cel_arr h h2, gA_sA, if_pos ⟨rfl, rfl⟩]
  · intro p _ hp
    obtain ⟨g', i'⟩ := p
    unfold cel
    by_cases h3 : g' < 10
    · rw [if_pos h3, if_pos h3]
      rfl
    · rw [if_neg h3, if_neg h3, gA_sA]
      have hno : ¬ (g' = g ∧ i' = i) := by
        rintro ⟨rfl, rfl⟩
        exact hp rfl
      rw [if_neg (c := (g', i').1 = g ∧ (g', i').2 = i) hno]
theorem okI_spec {g k f : Nat} (h : okI g k f = true) : (lay g).2[k]? = some (.inl f) ∧ ∀ p ∈ gis, p.1 < 10 → ∀ j, (lay p.1).2[j]? = some (.inl f) → p.1 = g ∧ j = k := by
  unfold okI at h
  rw [Bool.and_eq_true, decide_eq_true_eq] at h
  refine ⟨h.1, fun p hp h10 j hj => ?_⟩
  have h1 := List.all_eq_true.mp h.2 p hp
  rw [Bool.or_eq_true] at h1
  rcases h1 with h1 | h1
  · simp [h10] at h1
  · have hl : j < (lay p.1).2.length := (List.getElem?_eq_some_iff.mp hj).1
    have h2 := List.all_eq_true.mp h1 j (List.mem_range.mpr hl)
    simp only [hj, decide_true, Bool.not_true, Bool.or_false, Bool.and_eq_true, beq_iff_eq] at h2
    exact h2
theorem okL_spec {g k f : Nat} (h : okL g k f = true) : (lay g).2[k]? = some (.inr (.inl f)) ∧ ∀ p ∈ gis, p.1 < 10 → ∀ j, (lay p.1).2[j]? = some (.inr (.inl f)) → p.1 = g ∧ j = k := by
  unfold okL at h
  rw [Bool.and_eq_true, decide_eq_true_eq] at h
  refine ⟨h.1, fun p hp h10 j hj => ?_⟩
  have h1 := List.all_eq_true.mp h.2 p hp
  rw [Bool.or_eq_true] at h1
  rcases h1 with h1 | h1
  · simp [h10] at h1
  · have hl : j < (lay p.1).2.length := (List.getElem?_eq_some_iff.mp hj).1
    have h2 := List.all_eq_true.mp h1 j (List.mem_range.mpr hl)
    simp only [hj, decide_true, Bool.not_true, Bool.or_false, Bool.and_eq_true, beq_iff_eq] at h2
    exact h2
theorem set_sI {G : GT} {w : Wd} {q0 g i k f : Nat} {v : Int32} (hq : gis[q0]? = some (g, i)) (h : g < 10) (ok : okI g k f = true) : (wl G w).set q0 (G.2.2 g i, .inr ((lay g).1, ((lay g).2.map (fun d => cv G (fv w i d))).set k (.int v))) = wl G (sI w f i v) := by
  obtain ⟨h1, h2⟩ := okI_spec ok
  have hmem := List.mem_of_getElem? hq
  refine wl_set hq ?_ ?_
  · rw [cel_obj h]
    congr 2
    apply List.ext_getElem?
    intro j
    by_cases hj : j = k
    · subst hj
      have hl : j < ((lay g).2.map (fun d => cv G (fv w i d))).length := by
        rw [List.length_map]; exact (List.getElem?_eq_some_iff.mp h1).1
      rw [List.getElem?_set_self hl, List.getElem?_map, h1]
      simp [fv, cv, gI_sI]
    · rw [List.getElem?_set_ne (Ne.symm hj), List.getElem?_map, List.getElem?_map]
      cases hd : (lay g).2[j]? with
      | none => rfl
      | some d =>
        rcases d with f' | f' | r
        · have hne : f' ≠ f := by
            intro e0; subst e0
            exact hj (h2 (g, i) hmem h j hd).2
          simp [fv, cv, gI_sI, hne]
        · rfl
        · rfl
  · intro p hp hne
    obtain ⟨g', i'⟩ := p
    unfold cel
    by_cases h3 : g' < 10
    · rw [if_pos h3, if_pos h3]
      congr 2
      apply List.map_congr_left
      intro d hd
      rcases d with f' | f' | r
      · show Value.int _ = Value.int _
        rw [gI_sI]
        by_cases hc : f' = f ∧ i' = i
        · obtain ⟨rfl, rfl⟩ := hc
          obtain ⟨j, hj⟩ := List.getElem?_of_mem hd
          have := (h2 (g', i') hp h3 j hj).1
          exact absurd (by rw [show g' = g from this]) hne
        · rw [if_neg hc]
      · rfl
      · rfl
    · rw [if_neg h3, if_neg h3]
      rfl
theorem set_sL {G : GT} {w : Wd} {q0 g i k f : Nat} {v : Int64} (hq : gis[q0]? = some (g, i)) (h : g < 10) (ok : okL g k f = true) : (wl G w).set q0 (G.2.2 g i, .inr ((lay g).1, ((lay g).2.map (fun d => cv G (fv w i d))).set k (.long v))) = wl G (sL w f i v) := by
  obtain ⟨h1, h2⟩ := okL_spec ok
  have hmem := List.mem_of_getElem? hq
  refine wl_set hq ?_ ?_
  · rw [cel_obj h]
    congr 2
    apply List.ext_getElem?
    intro j
    by_cases hj : j = k
    · subst hj
      have hl : j < ((lay g).2.map (fun d => cv G (fv w i d))).length := by
        rw [List.length_map]; exact (List.getElem?_eq_some_iff.mp h1).1
      rw [List.getElem?_set_self hl, List.getElem?_map, h1]
      simp [fv, cv, gL_sL]
    · rw [List.getElem?_set_ne (Ne.symm hj), List.getElem?_map, List.getElem?_map]
      cases hd : (lay g).2[j]? with
      | none => rfl
      | some d =>
        rcases d with f' | f' | r
        · rfl
        · have hne : f' ≠ f := by
            intro e0; subst e0
            exact hj (h2 (g, i) hmem h j hd).2
          simp [fv, cv, gL_sL, hne]
        · rfl
  · intro p hp hne
    obtain ⟨g', i'⟩ := p
    unfold cel
    by_cases h3 : g' < 10
    · rw [if_pos h3, if_pos h3]
      congr 2
      apply List.map_congr_left
      intro d hd
      rcases d with f' | f' | r
      · rfl
      · show Value.long _ = Value.long _
        rw [gL_sL]
        by_cases hc : f' = f ∧ i' = i
        · obtain ⟨rfl, rfl⟩ := hc
          obtain ⟨j, hj⟩ := List.getElem?_of_mem hd
          have := (h2 (g', i') hp h3 j hj).1
          exact absurd (by rw [show g' = g from this]) hne
        · rw [if_neg hc]
      · rfl
    · rw [if_neg h3, if_neg h3]
      rfl
end
section
abbrev CX : Type := (Program × Launch × Env × Room) × (State × MethodId × Array Value × List Frame) × (Method × Code) × (Nat × Nat × (State → Prop)) × GT
abbrev xp (x : CX) : Program := x.1.1
abbrev xl (x : CX) : Launch := x.1.2.1
abbrev xe (x : CX) : Env := x.1.2.2.1
abbrev xR (x : CX) : Room := x.1.2.2.2
abbrev xs (x : CX) : State := x.2.1.1
abbrev xm (x : CX) : MethodId := x.2.1.2.1
abbrev xa (x : CX) : Array Value := x.2.1.2.2.1
abbrev xb (x : CX) : List Frame := x.2.1.2.2.2
abbrev xM (x : CX) : Method := x.2.2.1.1
abbrev xc (x : CX) : Code := x.2.2.1.2
abbrev xn (x : CX) : Nat := x.2.2.2.1.1
abbrev xo (x : CX) : Nat := x.2.2.2.1.2.1
abbrev xQ (x : CX) : State → Prop := x.2.2.2.1.2.2
abbrev xG (x : CX) : GT := x.2.2.2.2
abbrev LV : Type := List (Option AV)
def lvr (G : GT) (la : Array Slot) (ls : LV) : Prop := la.size = ls.length ∧ lv_wf la ∧ ∀ (i : Nat) (v : AV), ls[i]? = some (some v) → la[i]? = some (.val (cv G v))
def prs (G : GT) (ls : LV) : List (Nat × Value) := (List.range ls.length).filterMap (fun i => match ls[i]? with | some (some v) => some (i, cv G v) | _ => none)
theorem prs_mem {G : GT} {ls : LV} {q : Nat × Value} : q ∈ prs G ls ↔ ∃ (i : Nat) (v : AV), ls[i]? = some (some v) ∧ q = (i, cv G v) := by
  unfold prs
  rw [List.mem_filterMap]
  constructor
  · rintro ⟨i, -, h⟩
    cases h1 : ls[i]? with
    | none => rw [h1] at h; cases h
    | some o =>
      rw [h1] at h
      cases o with
      | none => cases h
      | some v => exact ⟨i, v, h1, (Option.some.inj h).symm⟩
  · rintro ⟨i, v, h, rfl⟩
    refine ⟨i, List.mem_range.mpr (List.getElem?_eq_some_iff.mp h).1, ?_⟩
    rw [h]
theorem lvr_has {G : GT} {la : Array Slot} {ls : LV} (h : lvr G la ls) : lv_has la ls.length (prs G ls) := by
  refine ⟨h.1, h.2.1, fun q hq => ?_⟩
  obtain ⟨i, v, h1, rfl⟩ := prs_mem.mp hq
  exact h.2.2 i v h1
/-- a long that stands ahead of place i goes -/
def klj (ls : LV) (j : Nat) : LV := match ls[j]? with
  | some (some (.inr (.inl _))) => ls.set j none
  | _ => ls
def kl (ls : LV) : Nat → LV
  | 0 => ls
  | j + 1 => klj ls j
def sto1 (ls : LV) (i : Nat) (v : AV) : LV := (kl ls i).set i (some v)
def sto2 (ls : LV) (i : Nat) (v : AV) : LV := ((kl ls i).set i (some v)).set (i + 1) none
theorem kl_len (ls : LV) (i : Nat) : (kl ls i).length = ls.length := by
  cases i with
  | zero => rfl
  | succ j =>
    show (klj ls j).length = ls.length
    unfold klj
    split
    · rw [List.length_set]
    · rfl
theorem kl_get {ls : LV} {i j : Nat} {v : AV} (h : (kl ls i)[j]? = some (some v)) : ls[j]? = some (some v) ∧ ¬ (j + 1 = i ∧ cat v = 2) := by
  cases i with
  | zero => exact ⟨h, fun q => by omega⟩
  | succ k =>
    have h9 : (klj ls k)[j]? = some (some v) := h
    clear h
    unfold klj at h9
    split at h9
    · rename_i x hx
      by_cases hj : j = k
      · subst hj
        rw [List.getElem?_set_self (List.getElem?_eq_some_iff.mp hx).1] at h9
        cases h9
      · rw [List.getElem?_set_ne (Ne.symm hj)] at h9
        exact ⟨h9, fun q => by omega⟩
    · rename_i hx
      refine ⟨h9, ?_⟩
      rintro ⟨q1, q2⟩
      have hjk : j = k := by omega
      subst hjk
      rcases v with x | x | x
      · cases q2
      · exact hx x h9
      · cases q2
theorem lvr_sto1 {G : GT} {la' : Array Slot} {ls : LV} {i : Nat} {v : AV} (hi : i < ls.length) (h' : lv_has la' ls.length ((i, cv G v) :: (prs G ls).filter (fun q => !(q.1 == i) && !(q.1 + 1 == i && q.2.category == 2)))) : lvr G la' (sto1 ls i v) := by
  refine ⟨by unfold sto1; rw [List.length_set, kl_len]; exact h'.1, h'.2.1, fun j u hj => ?_⟩
  unfold sto1 at hj
  by_cases e : j = i
  · subst e
    rw [List.getElem?_set_self (by rw [kl_len]; exact hi)] at hj
    cases hj
    exact h'.2.2 (j, cv G v) List.mem_cons_self
  · rw [List.getElem?_set_ne (Ne.symm e)] at hj
    obtain ⟨h1, h2⟩ := kl_get hj
    refine h'.2.2 (j, cv G u) (List.mem_cons_of_mem _ (List.mem_filter.mpr ⟨prs_mem.mpr ⟨j, u, h1, rfl⟩, ?_⟩))
    simp only [cv_cat, Bool.and_eq_true, Bool.not_eq_true', beq_eq_false_iff_ne, ne_eq, Bool.and_eq_false_iff]
    refine ⟨e, ?_⟩
    by_cases q : j + 1 = i
    · exact Or.inr (fun z => h2 ⟨q, z⟩)
    · exact Or.inl q
theorem lvr_sto2 {G : GT} {la' : Array Slot} {ls : LV} {i : Nat} {v : AV} (hi : i + 1 < ls.length) (h' : lv_has la' ls.length ((i, cv G v) :: (prs G ls).filter (fun q => !(q.1 == i) && (!(q.1 == i + 1) && !(q.1 + 1 == i && q.2.category == 2))))) : lvr G la' (sto2 ls i v) := by
  refine ⟨by unfold sto2; rw [List.length_set, List.length_set, kl_len]; exact h'.1, h'.2.1, fun j u hj => ?_⟩
  unfold sto2 at hj
  by_cases e2 : j = i + 1
  · subst e2
    rw [List.getElem?_set_self (by rw [List.length_set, kl_len]; exact hi)] at hj
    cases hj
  · rw [List.getElem?_set_ne (Ne.symm e2)] at hj
    by_cases e : j = i
    · subst e
      rw [List.getElem?_set_self (by rw [kl_len]; omega)] at hj
      cases hj
      exact h'.2.2 (j, cv G v) List.mem_cons_self
    · rw [List.getElem?_set_ne (Ne.symm e)] at hj
      obtain ⟨h1, h2⟩ := kl_get hj
      refine h'.2.2 (j, cv G u) (List.mem_cons_of_mem _ (List.mem_filter.mpr ⟨prs_mem.mpr ⟨j, u, h1, rfl⟩, ?_⟩))
      simp only [cv_cat, Bool.and_eq_true, Bool.not_eq_true', beq_eq_false_iff_ne, ne_eq, Bool.and_eq_false_iff]
      refine ⟨e, e2, ?_⟩
      by_cases q : j + 1 = i
      · exact Or.inr (fun z => h2 ⟨q, z⟩)
      · exact Or.inl q
def letN (k : Nat) : Int32 := ([109, 98, 110, 115, 99, 112] : List Int32).getD k 0
def Sta (G : GT) (U : State) (H : Heap) : Prop := va_Z "HatDraw" "LETTERS" "[I" (.ref (G.2.2 50 0)) (aG G) U H ∧ va_T .int (G.2.2 50 0) 6 (fun k => .int (letN k)) (aG G) U H
def NW (U : State) : Prop := va_Nw (.methodLinkNest RX3 29 yX4_kindOf RX4) U ∧ va_Nw (.methodLinkNest RX0 34 yX4_kindOf RX4) U ∧ va_Nw (.methodLinkNest RX0 44 yX4_paper RX4) U ∧ va_Nw (.methodLinkNest RX0 51 yX4_isOf RX4) U ∧ va_Nw (.methodLinkNest RX0 65 yX4_ringCount RX4) U ∧ va_Nw (.methodLinkNest RX2 69 yX4_firstOnes RX4) U ∧ va_Nw (.methodLinkNest RX2 87 yX4_paper RX4) U
theorem NW.warm {s U : State} (hW : s.WarmedH U.vm) (h : NW s) : NW U := ⟨h.1.warmM hW, h.2.1.warmM hW, h.2.2.1.warmM hW, h.2.2.2.1.warmM hW, h.2.2.2.2.1.warmM hW, h.2.2.2.2.2.1.warmM hW, h.2.2.2.2.2.2.warmM hW⟩
theorem NW.same {u U : State} (e : u.vm = U.vm) (h : NW u) : NW U := ⟨h.1.same rfl e, h.2.1.same rfl e, h.2.2.1.same rfl e, h.2.2.2.1.same rfl e, h.2.2.2.2.1.same rfl e, h.2.2.2.2.2.1.same rfl e, h.2.2.2.2.2.2.same rfl e⟩
theorem Sta.moved {G : GT} {u U : State} {H : Heap} (hvm : u.vm.Alike U.vm) (h : Sta G u H) : Sta G U H := ⟨h.1.moved hvm, h.2.moved hvm⟩
theorem Sta.kept {G : GT} {U : State} {H H1 : Heap} (h : Sta G U H) (hq : ∀ a : Nat, a < H.size → ¬ aG G a → H1[a]? = H[a]?) : Sta G U H1 := ⟨h.1.kept hq, h.2.kept hq⟩
/-- what holds of a state when a method begins -/
def Wp (G : GT) (w : Wd) (U : State) : Prop := va_P G.1 cls (wl G w) U.heap ∧ va_K G.1 cls (tyG G) U ∧ Inj G ∧ Sta G U U.heap ∧ NW U
def rmD (d : Nat) : Room := { frames := d, cells := 0, slots := 0, locals := 64 * d }
def Qs (G : GT) (r : Option AV) (w : Wd) : Array Value → State → Outcome → State → Prop := fun _ st o t => o = .returned (r.map (cv G)) ∧ va_P G.1 cls (wl G w) t.heap ∧ va_F (aG G) st t
/-- a contract: from the world w the method answers r, and the world is w' -/
def Sp (G : GT) (l : Launch) (y : MethodName) (ws : List Cond) (d : Nat) (as : List AV) (w : Wd) (r : Option AV) (w' : Wd) : Prop := Met l y ws (rmD d) (va_Pc (as.map (cv G)) (Wp G w)) (Qs G r w') 0 0 (aG G)
/-- what holds while a method runs -/
def Cx (x : CX) (own : String) (cc : ByteArray) (n d : Nat) : Prop := (xp x).tables.exec = Jvm.exec ∧ (xc x).code = cc ∧ (xs x).vm.findClass own = some (xm x).cls ∧ (∀ w ∈ ww, w.before (xa x) (xs x) = true) ∧ va_K (xG x).1 cls (tyG (xG x)) (xs x) ∧ Inj (xG x) ∧ Sta (xG x) (xs x) (xs x).heap ∧ NW (xs x) ∧ (xM x).locks = false ∧ (xc x).maxLocals = n ∧ d ≤ (xR x).frames ∧ 64 * d ≤ (xR x).locals ∧ xn x ≤ (xR x).cells ∧ xo x ≤ (xR x).slots
def Z (x : CX) (pc : Nat) (ls : LV) (st : List AV) (w : Wd) : Prop := ∀ (H : Heap) (locs : List Loc) (la : Array Slot), lvr (xG x) la ls → va_P (xG x).1 cls (wl (xG x) w) H → va_S (aG (xG x)) (xs x).heap H locs → W (xp x) (xl x) (xe x) (xR x) (xs x) (xm x) (xa x) (xb x) (xM x) (xc x) H locs (xn x) (xo x) (xQ x) (F0 (xm x) pc la (st.map (cv (xG x))))
def Rt (x : CX) (r : Option AV) (w : Wd) : Prop := xQ x = MQ (xb x) (Qs (xG x) r w) (xa x) (xs x) (xn x) (xo x) (aG (xG x))
theorem dk {t : List (Nat × Instr × Nat)} {c : ByteArray} (h : ∀ q ∈ t, decode c q.1 = .ok q.2) (k : Nat) {pc : Nat} {ins : Instr × Nat} (e : t[k]? = some (pc, ins)) : decode c pc = .ok ins := h (pc, ins) (List.mem_of_getElem? e)
/-- the locals at a method's begin -/
def ent : List AV → LV
  | [] => []
  | .inr (.inl x) :: as => some (.inr (.inl x)) :: none :: ent as
  | v :: as => some v :: ent as
theorem ent_args (G : GT) : ∀ (as : List AV) (off i : Nat) (v : AV), (ent as)[i]? = some (some v) → (off + i, cv G v) ∈ lv_args off (as.map (cv G)) := by
  intro as
  induction as with
  | nil => intro off i v h; simp [ent] at h
  | cons a as ih =>
    intro off i v h
    rcases a with x | x | x
    · cases i with
      | zero =>
        simp only [ent, List.getElem?_cons_zero] at h
        cases h
        exact List.mem_cons_self
      | succ i =>
        simp only [ent, List.getElem?_cons_succ] at h
        have := ih (off + 1) i v h
        rw [show off + (i + 1) = off + 1 + i by omega]
        exact List.mem_cons_of_mem _ this
    · cases i with
      | zero =>
        simp only [ent, List.getElem?_cons_zero] at h
        cases h
        exact List.mem_cons_self
      | succ i =>
        cases i with
        | zero => simp [ent] at h
        | succ i =>
          simp only [ent, List.getElem?_cons_succ] at h
          have := ih (off + 2) i v h
          rw [show off + (i + 1 + 1) = off + 2 + i by omega]
          exact List.mem_cons_of_mem _ this
    · cases i with
      | zero =>
        simp only [ent, List.getElem?_cons_zero] at h
        cases h
        exact List.mem_cons_self
      | succ i =>
        simp only [ent, List.getElem?_cons_succ] at h
        have := ih (off + 1) i v h
        rw [show off + (i + 1) = off + 1 + i by omega]
        exact List.mem_cons_of_mem _ this
theorem ent_len (G : GT) : ∀ (as : List AV), (lg_sl (as.map (cv G))).length = (ent as).length := by
  intro as
  induction as with
  | nil => rfl
  | cons a as ih =>
    unfold lg_sl at ih ⊢
    rw [List.map_cons, List.flatMap_cons, List.length_append, ih]
    rcases a with x | x | x
    · simp [ent, cv, Value.category]; omega
    · simp [ent, cv, Value.category]; omega
    · simp [ent, cv, Value.category]; omega
theorem Sp_of {G : GT} {l : Launch} {y : MethodName} {own : String} {cc : ByteArray} {maxL d : Nat} {ret : Option FieldType} {as : List AV} {w w' : Wd} {r : Option AV} (ls : LV) (hy : plainName own = true) (ho : y.cls = own) (hls : ent as ++ List.replicate (maxL - (ent as).length) none = ls) (hln : (ent as).length ≤ maxL)
    (body : ∀ x : CX, xG x = G → xl x = l → Cx x own cc maxL d → (xM x).sig.returnType = ret → Rt x r w' → xn x = 0 → xo x = 0 → Z x 0 ls [] w) : Sp G l y (.code y cc maxL ret :: ww) d as w r w' := by
  subst ho
  refine Met.ofW (cc := cc) (maxL := maxL) (ret := ret) hy rfl ?_
  intro p e s m args below meth c s₁ B hml hv
  obtain ⟨rfl, hP, hK, hI, hT, hN⟩ := hv
  have hts := atoms_spec (ws := .code y cc maxL ret :: ww) B.pre
  have hl := lv_entry (as.map (cv G)) (n := maxL) (by rw [ent_len]; exact hln)
  rw [lg_entry_eq]
  generalize (lg_sl (as.map (cv G)) ++ List.replicate (maxL - (lg_sl (as.map (cv G))).length) Slot.unset).toArray = la at hl ⊢
  have hlv : lvr G la ls := by
    subst hls
    refine ⟨by rw [hl.1, List.length_append, List.length_replicate]; omega, hl.2.1, fun i v h => ?_⟩
    by_cases hi : i < (ent as).length
    · rw [List.getElem?_append_left hi] at h
      have := ent_args G as 0 i v h
      rw [Nat.zero_add] at this
      exact hl.2.2 _ this
    · rw [List.getElem?_append_right (by omega), List.getElem?_replicate] at h
      split at h <;> cases h
  exact body ((p, l, e, (headSpec (.code y cc maxL ret :: ww) (rmD d)).room), (s, m, (as.map (cv G)).toArray, below), (meth, c), (0, 0, MQ below (Qs G r w') (as.map (cv G)).toArray s 0 0 (aG G)), G) rfl rfl
    ⟨B.exec, B.bytes, findClass_of_methodNamed B.named, fun w hw => hts w (List.mem_cons_of_mem _ hw), hK, hI, hT, hN, B.notSynchronized, hml, Nat.le_refl _, Nat.le_refl _, Nat.zero_le _, Nat.zero_le _⟩ B.returns rfl rfl rfl s.heap [] la hlv hP va_S.rf
theorem Z_iconst {x : CX} {own : String} {cc : ByteArray} {n d pc : Nat} {ls : LV} {st : List AV} {w : Wd} {m : Int} {v : Int32} (hC : Cx x own cc n d) (hd : decode cc pc = .ok (.iconst m, 1)) (pc' : Nat) (hp : pc + 1 = pc') (hv : Int32.ofInt m = v) (k : Z x pc' ls (vi v :: st) w) : Z x pc ls (st) w := fun H locs la hl hP hS => lv_iconst hC.1 hC.2.1 hd hv (by subst hp; exact k H locs la hl hP hS)
theorem Z_bipush {x : CX} {own : String} {cc : ByteArray} {n d pc : Nat} {ls : LV} {st : List AV} {w : Wd} {m : Int} {v : Int32} (hC : Cx x own cc n d) (hd : decode cc pc = .ok (.bipush m, 2)) (pc' : Nat) (hp : pc + 2 = pc') (hv : (Int8.ofInt m).toInt32 = v) (k : Z x pc' ls (vi v :: st) w) : Z x pc ls (st) w := fun H locs la hl hP hS => lv_bipush hC.1 hC.2.1 hd hv (by subst hp; exact k H locs la hl hP hS)
theorem Z_sipush {x : CX} {own : String} {cc : ByteArray} {n d pc : Nat} {ls : LV} {st : List AV} {w : Wd} {m : Int} {v : Int32} (hC : Cx x own cc n d) (hd : decode cc pc = .ok (.sipush m, 3)) (pc' : Nat) (hp : pc + 3 = pc') (hv : (Int16.ofInt m).toInt32 = v) (k : Z x pc' ls (vi v :: st) w) : Z x pc ls (st) w := fun H locs la hl hP hS => lv_sipush hC.1 hC.2.1 hd hv (by subst hp; exact k H locs la hl hP hS)
theorem Z_lconst {x : CX} {own : String} {cc : ByteArray} {n d pc : Nat} {ls : LV} {st : List AV} {w : Wd} {m : Fin 2} {v : Int64} (hC : Cx x own cc n d) (hd : decode cc pc = .ok (.lconst m, 1)) (pc' : Nat) (hp : pc + 1 = pc') (hv : Int64.ofNat m = v) (k : Z x pc' ls (vl v :: st) w) : Z x pc ls (st) w := fun H locs la hl hP hS => lv_lconst hC.1 hC.2.1 hd hv (by subst hp; exact k H locs la hl hP hS)
theorem Z_iadd {x : CX} {own : String} {cc : ByteArray} {n d pc : Nat} {ls : LV} {st : List AV} {w : Wd} {x1 x2 : Int32} (hC : Cx x own cc n d) (hd : decode cc pc = .ok (.iadd, 1)) (pc' : Nat) (hp : pc + 1 = pc') (k : Z x pc' ls (vi (x1 + x2) :: st) w) : Z x pc ls (vi x2 :: vi x1 :: st) w := fun H locs la hl hP hS => lv_iadd hC.1 hC.2.1 hd (by subst hp; exact k H locs la hl hP hS)
theorem Z_isub {x : CX} {own : String} {cc : ByteArray} {n d pc : Nat} {ls : LV} {st : List AV} {w : Wd} {x1 x2 : Int32} (hC : Cx x own cc n d) (hd : decode cc pc = .ok (.isub, 1)) (pc' : Nat) (hp : pc + 1 = pc') (k : Z x pc' ls (vi (x1 - x2) :: st) w) : Z x pc ls (vi x2 :: vi x1 :: st) w := fun H locs la hl hP hS => lv_isub hC.1 hC.2.1 hd (by subst hp; exact k H locs la hl hP hS)
theorem Z_imul {x : CX} {own : String} {cc : ByteArray} {n d pc : Nat} {ls : LV} {st : List AV} {w : Wd} {x1 x2 : Int32} (hC : Cx x own cc n d) (hd : decode cc pc = .ok (.imul, 1)) (pc' : Nat) (hp : pc + 1 = pc') (k : Z x pc' ls (vi (x1 * x2) :: st) w) : Z x pc ls (vi x2 :: vi x1 :: st) w := fun H locs la hl hP hS => lv_imul hC.1 hC.2.1 hd (by subst hp; exact k H locs la hl hP hS)
theorem Z_iand {x : CX} {own : String} {cc : ByteArray} {n d pc : Nat} {ls : LV} {st : List AV} {w : Wd} {x1 x2 : Int32} (hC : Cx x own cc n d) (hd : decode cc pc = .ok (.iand, 1)) (pc' : Nat) (hp : pc + 1 = pc') (k : Z x pc' ls (vi (x1 &&& x2) :: st) w) : Z x pc ls (vi x2 :: vi x1 :: st) w := fun H locs la hl hP hS => lv_iand hC.1 hC.2.1 hd (by subst hp; exact k H locs la hl hP hS)
theorem Z_ior {x : CX} {own : String} {cc : ByteArray} {n d pc : Nat} {ls : LV} {st : List AV} {w : Wd} {x1 x2 : Int32} (hC : Cx x own cc n d) (hd : decode cc pc = .ok (.ior, 1)) (pc' : Nat) (hp : pc + 1 = pc') (k : Z x pc' ls (vi (x1 ||| x2) :: st) w) : Z x pc ls (vi x2 :: vi x1 :: st) w := fun H locs la hl hP hS => lv_ior hC.1 hC.2.1 hd (by subst hp; exact k H locs la hl hP hS)
theorem Z_ixor {x : CX} {own : String} {cc : ByteArray} {n d pc : Nat} {ls : LV} {st : List AV} {w : Wd} {x1 x2 : Int32} (hC : Cx x own cc n d) (hd : decode cc pc = .ok (.ixor, 1)) (pc' : Nat) (hp : pc + 1 = pc') (k : Z x pc' ls (vi (x1 ^^^ x2) :: st) w) : Z x pc ls (vi x2 :: vi x1 :: st) w := fun H locs la hl hP hS => lv_ixor hC.1 hC.2.1 hd (by subst hp; exact k H locs la hl hP hS)
theorem Z_ishl {x : CX} {own : String} {cc : ByteArray} {n d pc : Nat} {ls : LV} {st : List AV} {w : Wd} {x1 x2 : Int32} (hC : Cx x own cc n d) (hd : decode cc pc = .ok (.ishl, 1)) (pc' : Nat) (hp : pc + 1 = pc') (k : Z x pc' ls (vi (x1 <<< (x2 &&& 31)) :: st) w) : Z x pc ls (vi x2 :: vi x1 :: st) w := fun H locs la hl hP hS => lv_ishl hC.1 hC.2.1 hd (by subst hp; exact k H locs la hl hP hS)
theorem Z_ishr {x : CX} {own : String} {cc : ByteArray} {n d pc : Nat} {ls : LV} {st : List AV} {w : Wd} {x1 x2 : Int32} (hC : Cx x own cc n d) (hd : decode cc pc = .ok (.ishr, 1)) (pc' : Nat) (hp : pc + 1 = pc') (k : Z x pc' ls (vi (x1 >>> (x2 &&& 31)) :: st) w) : Z x pc ls (vi x2 :: vi x1 :: st) w := fun H locs la hl hP hS => lv_ishr hC.1 hC.2.1 hd (by subst hp; exact k H locs la hl hP hS)
theorem Z_idiv {x : CX} {own : String} {cc : ByteArray} {n d pc : Nat} {ls : LV} {st : List AV} {w : Wd} {x1 x2 : Int32} (hC : Cx x own cc n d) (hd : decode cc pc = .ok (.idiv, 1)) (pc' : Nat) (hp : pc + 1 = pc') (hne : ¬ x2 = 0) (k : Z x pc' ls (vi (x1 / x2) :: st) w) : Z x pc ls (vi x2 :: vi x1 :: st) w := fun H locs la hl hP hS => lv_idiv hC.1 hC.2.1 hd hne (by subst hp; exact k H locs la hl hP hS)
theorem Z_irem {x : CX} {own : String} {cc : ByteArray} {n d pc : Nat} {ls : LV} {st : List AV} {w : Wd} {x1 x2 : Int32} (hC : Cx x own cc n d) (hd : decode cc pc = .ok (.irem, 1)) (pc' : Nat) (hp : pc + 1 = pc') (hne : ¬ x2 = 0) (k : Z x pc' ls (vi (x1 - x1 / x2 * x2) :: st) w) : Z x pc ls (vi x2 :: vi x1 :: st) w := fun H locs la hl hP hS => lv_irem hC.1 hC.2.1 hd hne (by subst hp; exact k H locs la hl hP hS)
theorem Z_ineg {x : CX} {own : String} {cc : ByteArray} {n d pc : Nat} {ls : LV} {st : List AV} {w : Wd} {x1 : Int32} (hC : Cx x own cc n d) (hd : decode cc pc = .ok (.ineg, 1)) (pc' : Nat) (hp : pc + 1 = pc') (k : Z x pc' ls (vi (-x1) :: st) w) : Z x pc ls (vi x1 :: st) w := fun H locs la hl hP hS => lv_ineg hC.1 hC.2.1 hd (by subst hp; exact k H locs la hl hP hS)
theorem Z_iushr {x : CX} {own : String} {cc : ByteArray} {n d pc : Nat} {ls : LV} {st : List AV} {w : Wd} {x1 x2 : Int32} (hC : Cx x own cc n d) (hd : decode cc pc = .ok (.iushr, 1)) (pc' : Nat) (hp : pc + 1 = pc') (k : Z x pc' ls (vi ((x1.toUInt32 >>> (x2.toUInt32 &&& Int32.toUInt32 31)).toInt32) :: st) w) : Z x pc ls (vi x2 :: vi x1 :: st) w := fun H locs la hl hP hS => lv_iushr hC.1 hC.2.1 hd rfl (by subst hp; exact k H locs la hl hP hS)
theorem Z_ladd {x : CX} {own : String} {cc : ByteArray} {n d pc : Nat} {ls : LV} {st : List AV} {w : Wd} {x1 x2 : Int64} (hC : Cx x own cc n d) (hd : decode cc pc = .ok (.ladd, 1)) (pc' : Nat) (hp : pc + 1 = pc') (k : Z x pc' ls (vl (x1 + x2) :: st) w) : Z x pc ls (vl x2 :: vl x1 :: st) w := fun H locs la hl hP hS => lv_ladd hC.1 hC.2.1 hd (by subst hp; exact k H locs la hl hP hS)
theorem Z_lmul {x : CX} {own : String} {cc : ByteArray} {n d pc : Nat} {ls : LV} {st : List AV} {w : Wd} {x1 x2 : Int64} (hC : Cx x own cc n d) (hd : decode cc pc = .ok (.lmul, 1)) (pc' : Nat) (hp : pc + 1 = pc') (k : Z x pc' ls (vl (x1 * x2) :: st) w) : Z x pc ls (vl x2 :: vl x1 :: st) w := fun H locs la hl hP hS => lv_lmul hC.1 hC.2.1 hd (by subst hp; exact k H locs la hl hP hS)
theorem Z_ldiv {x : CX} {own : String} {cc : ByteArray} {n d pc : Nat} {ls : LV} {st : List AV} {w : Wd} {x1 x2 : Int64} (hC : Cx x own cc n d) (hd : decode cc pc = .ok (.ldiv, 1)) (pc' : Nat) (hp : pc + 1 = pc') (hne : ¬ x2 = 0) (k : Z x pc' ls (vl (x1 / x2) :: st) w) : Z x pc ls (vl x2 :: vl x1 :: st) w := fun H locs la hl hP hS => lv_ldiv hC.1 hC.2.1 hd hne (by subst hp; exact k H locs la hl hP hS)
theorem Z_lrem {x : CX} {own : String} {cc : ByteArray} {n d pc : Nat} {ls : LV} {st : List AV} {w : Wd} {x1 x2 : Int64} (hC : Cx x own cc n d) (hd : decode cc pc = .ok (.lrem, 1)) (pc' : Nat) (hp : pc + 1 = pc') (hne : ¬ x2 = 0) (k : Z x pc' ls (vl (x1 - x1 / x2 * x2) :: st) w) : Z x pc ls (vl x2 :: vl x1 :: st) w := fun H locs la hl hP hS => lv_lrem hC.1 hC.2.1 hd hne (by subst hp; exact k H locs la hl hP hS)
theorem Z_lcmp {x : CX} {own : String} {cc : ByteArray} {n d pc : Nat} {ls : LV} {st : List AV} {w : Wd} {x1 x2 : Int64} (hC : Cx x own cc n d) (hd : decode cc pc = .ok (.lcmp, 1)) (pc' : Nat) (hp : pc + 1 = pc') (k : Z x pc' ls (vi (lg_cmp x1 x2) :: st) w) : Z x pc ls (vl x2 :: vl x1 :: st) w := fun H locs la hl hP hS => W.lcmp hC.1 hC.2.1 hd (by subst hp; exact k H locs la hl hP hS)
theorem Z_i2l {x : CX} {own : String} {cc : ByteArray} {n d pc : Nat} {ls : LV} {st : List AV} {w : Wd} {x1 : Int32} (hC : Cx x own cc n d) (hd : decode cc pc = .ok (.i2l, 1)) (pc' : Nat) (hp : pc + 1 = pc') (k : Z x pc' ls (vl x1.toInt64 :: st) w) : Z x pc ls (vi x1 :: st) w := fun H locs la hl hP hS => lv_i2l hC.1 hC.2.1 hd rfl (by subst hp; exact k H locs la hl hP hS)
theorem Z_l2i {x : CX} {own : String} {cc : ByteArray} {n d pc : Nat} {ls : LV} {st : List AV} {w : Wd} {x1 : Int64} (hC : Cx x own cc n d) (hd : decode cc pc = .ok (.l2i, 1)) (pc' : Nat) (hp : pc + 1 = pc') (k : Z x pc' ls (vi x1.toInt32 :: st) w) : Z x pc ls (vl x1 :: st) w := fun H locs la hl hP hS => lv_l2i hC.1 hC.2.1 hd rfl (by subst hp; exact k H locs la hl hP hS)
theorem Z_i2b {x : CX} {own : String} {cc : ByteArray} {n d pc : Nat} {ls : LV} {st : List AV} {w : Wd} {x1 : Int32} (hC : Cx x own cc n d) (hd : decode cc pc = .ok (.i2b, 1)) (pc' : Nat) (hp : pc + 1 = pc') (k : Z x pc' ls (vi x1.toInt8.toInt32 :: st) w) : Z x pc ls (vi x1 :: st) w := fun H locs la hl hP hS => lv_i2b hC.1 hC.2.1 hd rfl (by subst hp; exact k H locs la hl hP hS)
theorem Z_dup {x : CX} {own : String} {cc : ByteArray} {n d pc : Nat} {ls : LV} {st : List AV} {w : Wd} {a : AV} (hC : Cx x own cc n d) (hd : decode cc pc = .ok (.dup, 1)) (pc' : Nat) (hp : pc + 1 = pc') (hc : cat a = 1) (k : Z x pc' ls (a :: a :: st) w) : Z x pc ls (a :: st) w := fun H locs la hl hP hS => lv_dup hC.1 hC.2.1 hd (by rw [cv_cat]; exact hc) (by subst hp; exact k H locs la hl hP hS)
theorem Z_pop {x : CX} {own : String} {cc : ByteArray} {n d pc : Nat} {ls : LV} {st : List AV} {w : Wd} {a : AV} (hC : Cx x own cc n d) (hd : decode cc pc = .ok (.pop, 1)) (pc' : Nat) (hp : pc + 1 = pc') (hc : cat a = 1) (k : Z x pc' ls (st) w) : Z x pc ls (a :: st) w := fun H locs la hl hP hS => lv_pop hC.1 hC.2.1 hd (by rw [cv_cat]; exact hc) (by subst hp; exact k H locs la hl hP hS)
theorem Z_dup2 {x : CX} {own : String} {cc : ByteArray} {n d pc : Nat} {ls : LV} {st : List AV} {w : Wd} {a b : AV} (hC : Cx x own cc n d) (hd : decode cc pc = .ok (.dup2, 1)) (pc' : Nat) (hp : pc + 1 = pc') (hc : cat a = 1) (hc2 : cat b = 1) (k : Z x pc' ls (a :: b :: a :: b :: st) w) : Z x pc ls (a :: b :: st) w := fun H locs la hl hP hS => lv_dup2_11 hC.1 hC.2.1 hd (by rw [cv_cat]; exact hc) (by rw [cv_cat]; exact hc2) (by subst hp; exact k H locs la hl hP hS)
theorem Z_iload_n {x : CX} {own : String} {cc : ByteArray} {n d pc : Nat} {ls : LV} {st : List AV} {w : Wd} {f : Fin 4} {i : Nat} {v : Int32} (hC : Cx x own cc n d) (hd : decode cc pc = .ok (.iload_n f, 1)) (pc' : Nat) (hp : pc + 1 = pc') (hi : (f : Nat) = i) (hv : ls[i]? = some (some (vi v))) (k : Z x pc' ls (vi v :: st) w) : Z x pc ls (st) w := fun H locs la hl hP hS => lv_iload_n hC.1 hC.2.1 hd hi (hl.2.2 i _ hv) (by subst hp; exact k H locs la hl hP hS)
theorem Z_iload {x : CX} {own : String} {cc : ByteArray} {n d pc : Nat} {ls : LV} {st : List AV} {w : Wd} {i : Nat} {v : Int32} (hC : Cx x own cc n d) (hd : decode cc pc = .ok (.iload i, 2)) (pc' : Nat) (hp : pc + 2 = pc') (hv : ls[i]? = some (some (vi v))) (k : Z x pc' ls (vi v :: st) w) : Z x pc ls (st) w := fun H locs la hl hP hS => lv_iload hC.1 hC.2.1 hd (hl.2.2 i _ hv) (by subst hp; exact k H locs la hl hP hS)
theorem Z_lload_n {x : CX} {own : String} {cc : ByteArray} {n d pc : Nat} {ls : LV} {st : List AV} {w : Wd} {f : Fin 4} {i : Nat} {v : Int64} (hC : Cx x own cc n d) (hd : decode cc pc = .ok (.lload_n f, 1)) (pc' : Nat) (hp : pc + 1 = pc') (hi : (f : Nat) = i) (hv : ls[i]? = some (some (vl v))) (k : Z x pc' ls (vl v :: st) w) : Z x pc ls (st) w := fun H locs la hl hP hS => lv_lload_n hC.1 hC.2.1 hd hi (hl.2.2 i _ hv) (by subst hp; exact k H locs la hl hP hS)
theorem Z_lload {x : CX} {own : String} {cc : ByteArray} {n d pc : Nat} {ls : LV} {st : List AV} {w : Wd} {i : Nat} {v : Int64} (hC : Cx x own cc n d) (hd : decode cc pc = .ok (.lload i, 2)) (pc' : Nat) (hp : pc + 2 = pc') (hv : ls[i]? = some (some (vl v))) (k : Z x pc' ls (vl v :: st) w) : Z x pc ls (st) w := fun H locs la hl hP hS => lv_lload hC.1 hC.2.1 hd (hl.2.2 i _ hv) (by subst hp; exact k H locs la hl hP hS)
theorem Z_aload_n {x : CX} {own : String} {cc : ByteArray} {n d pc : Nat} {ls : LV} {st : List AV} {w : Wd} {f : Fin 4} {i g j : Nat} (hC : Cx x own cc n d) (hd : decode cc pc = .ok (.aload_n f, 1)) (pc' : Nat) (hp : pc + 1 = pc') (hi : (f : Nat) = i) (hv : ls[i]? = some (some (vr g j))) (k : Z x pc' ls (vr g j :: st) w) : Z x pc ls (st) w := fun H locs la hl hP hS => lv_aload_n hC.1 hC.2.1 hd hi (hl.2.2 i _ hv) (by subst hp; exact k H locs la hl hP hS)
theorem Z_aload {x : CX} {own : String} {cc : ByteArray} {n d pc : Nat} {ls : LV} {st : List AV} {w : Wd} {i g j : Nat} (hC : Cx x own cc n d) (hd : decode cc pc = .ok (.aload i, 2)) (pc' : Nat) (hp : pc + 2 = pc') (hv : ls[i]? = some (some (vr g j))) (k : Z x pc' ls (vr g j :: st) w) : Z x pc ls (st) w := fun H locs la hl hP hS => lv_aload hC.1 hC.2.1 hd (hl.2.2 i _ hv) (by subst hp; exact k H locs la hl hP hS)
theorem Z_istore_n {x : CX} {own : String} {cc : ByteArray} {n d pc i : Nat} {ls : LV} {st : List AV} {w : Wd} {f : Fin 4} {v : Int32} (hC : Cx x own cc n d) (hd : decode cc pc = .ok (.istore_n f, 1)) (pc' : Nat) (hp : pc + 1 = pc') (he : (f : Nat) = i) (hi : i < ls.length) (ls' : LV) (hls : sto1 ls i (vi v) = ls') (k : Z x pc' ls' st w) : Z x pc ls (vi v :: st) w := fun H locs la hl hP hS => lv_istore_n hC.1 hC.2.1 hd he (lvr_has hl) hi rfl (fun la' h' => by subst hp; subst hls; exact k H locs la' (lvr_sto1 (v := vi v) hi h') hP hS)
theorem Z_istore {x : CX} {own : String} {cc : ByteArray} {n d pc i : Nat} {ls : LV} {st : List AV} {w : Wd} {v : Int32} (hC : Cx x own cc n d) (hd : decode cc pc = .ok (.istore i, 2)) (pc' : Nat) (hp : pc + 2 = pc') (hi : i < ls.length) (ls' : LV) (hls : sto1 ls i (vi v) = ls') (k : Z x pc' ls' st w) : Z x pc ls (vi v :: st) w := fun H locs la hl hP hS => lv_istore hC.1 hC.2.1 hd (lvr_has hl) hi rfl (fun la' h' => by subst hp; subst hls; exact k H locs la' (lvr_sto1 (v := vi v) hi h') hP hS)
theorem Z_lstore_n {x : CX} {own : String} {cc : ByteArray} {n d pc i : Nat} {ls : LV} {st : List AV} {w : Wd} {f : Fin 4} {v : Int64} (hC : Cx x own cc n d) (hd : decode cc pc = .ok (.lstore_n f, 1)) (pc' : Nat) (hp : pc + 1 = pc') (he : (f : Nat) = i) (hi : i + 1 < ls.length) (ls' : LV) (hls : sto2 ls i (vl v) = ls') (k : Z x pc' ls' st w) : Z x pc ls (vl v :: st) w := fun H locs la hl hP hS => lv_lstore_n hC.1 hC.2.1 hd he (lvr_has hl) hi rfl (fun la' h' => by subst hp; subst hls; exact k H locs la' (lvr_sto2 (v := vl v) hi h') hP hS)
theorem Z_lstore {x : CX} {own : String} {cc : ByteArray} {n d pc i : Nat} {ls : LV} {st : List AV} {w : Wd} {v : Int64} (hC : Cx x own cc n d) (hd : decode cc pc = .ok (.lstore i, 2)) (pc' : Nat) (hp : pc + 2 = pc') (hi : i + 1 < ls.length) (ls' : LV) (hls : sto2 ls i (vl v) = ls') (k : Z x pc' ls' st w) : Z x pc ls (vl v :: st) w := fun H locs la hl hP hS => lv_lstore hC.1 hC.2.1 hd (lvr_has hl) hi rfl (fun la' h' => by subst hp; subst hls; exact k H locs la' (lvr_sto2 (v := vl v) hi h') hP hS)
theorem Z_iinc {x : CX} {own : String} {cc : ByteArray} {n d pc i : Nat} {ls : LV} {st : List AV} {w : Wd} {m : Int} {v v' : Int32} (hC : Cx x own cc n d) (hd : decode cc pc = .ok (.iinc i m, 3)) (pc' : Nat) (hp : pc + 3 = pc') (hv : ls[i]? = some (some (vi v))) (hv' : v + Int32.ofInt m = v') (ls' : LV) (hls : sto1 ls i (vi v') = ls') (k : Z x pc' ls' st w) : Z x pc ls st w := fun H locs la hl hP hS => by
  have hi : i < ls.length := (List.getElem?_eq_some_iff.mp hv).1
  obtain ⟨j, hj⟩ := List.getElem?_of_mem (prs_mem (G := xG x).mpr ⟨i, vi v, hv, rfl⟩)
  exact lv_iinc hC.1 hC.2.1 hd (lvr_has hl) hj hv' hi rfl (fun la' h' => by subst hp; subst hls; exact k H locs la' (lvr_sto1 (v := vi v') hi h') hP hS)
theorem Z_goto {x : CX} {own : String} {cc : ByteArray} {n d pc : Nat} {ls : LV} {st : List AV} {w : Wd} {off : Int} (hC : Cx x own cc n d) (hd : decode cc pc = .ok (.goto off, 3)) (tgt : Nat) (ht : (pc : Int) + off = (tgt : Int)) (k : Z x tgt ls st w) : Z x pc ls st w := fun H locs la hl hP hS => lv_goto hC.1 hC.2.1 hd ht (k H locs la hl hP hS)
theorem Z_if_eq {x : CX} {own : String} {cc : ByteArray} {n d pc : Nat} {ls : LV} {st : List AV} {w : Wd} {x1 : Int32} {off : Int} (hC : Cx x own cc n d) (hd : decode cc pc = .ok (.ifCond .eq off, 3)) (pc' tgt : Nat) (hp : pc + 3 = pc') (ht : (pc : Int) + off = (tgt : Int)) (kt : x1 = 0 → Z x tgt ls st w) (kf : ¬ x1 = 0 → Z x pc' ls st w) : Z x pc ls (vi x1 :: st) w := fun H locs la hl hP hS => lv_if_eq hC.1 hC.2.1 hd ht (fun c => kt c H locs la hl hP hS) (fun c => by subst hp; exact kf c H locs la hl hP hS)
theorem Z_icmp_eq {x : CX} {own : String} {cc : ByteArray} {n d pc : Nat} {ls : LV} {st : List AV} {w : Wd} {x1 x2 : Int32} {off : Int} (hC : Cx x own cc n d) (hd : decode cc pc = .ok (.if_icmp .eq off, 3)) (pc' tgt : Nat) (hp : pc + 3 = pc') (ht : (pc : Int) + off = (tgt : Int)) (kt : x1 = x2 → Z x tgt ls st w) (kf : ¬ x1 = x2 → Z x pc' ls st w) : Z x pc ls (vi x2 :: vi x1 :: st) w := fun H locs la hl hP hS => lv_icmp_eq hC.1 hC.2.1 hd ht (fun c => kt c H locs la hl hP hS) (fun c => by subst hp; exact kf c H locs la hl hP hS)
theorem Z_if_ne {x : CX} {own : String} {cc : ByteArray} {n d pc : Nat} {ls : LV} {st : List AV} {w : Wd} {x1 : Int32} {off : Int} (hC : Cx x own cc n d) (hd : decode cc pc = .ok (.ifCond .ne off, 3)) (pc' tgt : Nat) (hp : pc + 3 = pc') (ht : (pc : Int) + off = (tgt : Int)) (kt : ¬ x1 = 0 → Z x tgt ls st w) (kf : x1 = 0 → Z x pc' ls st w) : Z x pc ls (vi x1 :: st) w := fun H locs la hl hP hS => lv_if_ne hC.1 hC.2.1 hd ht (fun c => kt c H locs la hl hP hS) (fun c => by subst hp; exact kf c H locs la hl hP hS)
theorem Z_icmp_ne {x : CX} {own : String} {cc : ByteArray} {n d pc : Nat} {ls : LV} {st : List AV} {w : Wd} {x1 x2 : Int32} {off : Int} (hC : Cx x own cc n d) (hd : decode cc pc = .ok (.if_icmp .ne off, 3)) (pc' tgt : Nat) (hp : pc + 3 = pc') (ht : (pc : Int) + off = (tgt : Int)) (kt : ¬ x1 = x2 → Z x tgt ls st w) (kf : x1 = x2 → Z x pc' ls st w) : Z x pc ls (vi x2 :: vi x1 :: st) w := fun H locs la hl hP hS => lv_icmp_ne hC.1 hC.2.1 hd ht (fun c => kt c H locs la hl hP hS) (fun c => by subst hp; exact kf c H locs la hl hP hS)
theorem Z_if_lt {x : CX} {own : String} {cc : ByteArray} {n d pc : Nat} {ls : LV} {st : List AV} {w : Wd} {x1 : Int32} {off : Int} (hC : Cx x own cc n d) (hd : decode cc pc = .ok (.ifCond .lt off, 3)) (pc' tgt : Nat) (hp : pc + 3 = pc') (ht : (pc : Int) + off = (tgt : Int)) (kt : x1 < 0 → Z x tgt ls st w) (kf : ¬ x1 < 0 → Z x pc' ls st w) : Z x pc ls (vi x1 :: st) w := fun H locs la hl hP hS => lv_if_lt hC.1 hC.2.1 hd ht (fun c => kt c H locs la hl hP hS) (fun c => by subst hp; exact kf c H locs la hl hP hS)
theorem Z_icmp_lt {x : CX} {own : String} {cc : ByteArray} {n d pc : Nat} {ls : LV} {st : List AV} {w : Wd} {x1 x2 : Int32} {off : Int} (hC : Cx x own cc n d) (hd : decode cc pc = .ok (.if_icmp .lt off, 3)) (pc' tgt : Nat) (hp : pc + 3 = pc') (ht : (pc : Int) + off = (tgt : Int)) (kt : x1 < x2 → Z x tgt ls st w) (kf : ¬ x1 < x2 → Z x pc' ls st w) : Z x pc ls (vi x2 :: vi x1 :: st) w := fun H locs la hl hP hS => lv_icmp_lt hC.1 hC.2.1 hd ht (fun c => kt c H locs la hl hP hS) (fun c => by subst hp; exact kf c H locs la hl hP hS)
theorem Z_if_ge {x : CX} {own : String} {cc : ByteArray} {n d pc : Nat} {ls : LV} {st : List AV} {w : Wd} {x1 : Int32} {off : Int} (hC : Cx x own cc n d) (hd : decode cc pc = .ok (.ifCond .ge off, 3)) (pc' tgt : Nat) (hp : pc + 3 = pc') (ht : (pc : Int) + off = (tgt : Int)) (kt : 0 ≤ x1 → Z x tgt ls st w) (kf : ¬ 0 ≤ x1 → Z x pc' ls st w) : Z x pc ls (vi x1 :: st) w := fun H locs la hl hP hS => lv_if_ge hC.1 hC.2.1 hd ht (fun c => kt c H locs la hl hP hS) (fun c => by subst hp; exact kf c H locs la hl hP hS)
theorem Z_icmp_ge {x : CX} {own : String} {cc : ByteArray} {n d pc : Nat} {ls : LV} {st : List AV} {w : Wd} {x1 x2 : Int32} {off : Int} (hC : Cx x own cc n d) (hd : decode cc pc = .ok (.if_icmp .ge off, 3)) (pc' tgt : Nat) (hp : pc + 3 = pc') (ht : (pc : Int) + off = (tgt : Int)) (kt : x2 ≤ x1 → Z x tgt ls st w) (kf : ¬ x2 ≤ x1 → Z x pc' ls st w) : Z x pc ls (vi x2 :: vi x1 :: st) w := fun H locs la hl hP hS => lv_icmp_ge hC.1 hC.2.1 hd ht (fun c => kt c H locs la hl hP hS) (fun c => by subst hp; exact kf c H locs la hl hP hS)
theorem Z_if_gt {x : CX} {own : String} {cc : ByteArray} {n d pc : Nat} {ls : LV} {st : List AV} {w : Wd} {x1 : Int32} {off : Int} (hC : Cx x own cc n d) (hd : decode cc pc = .ok (.ifCond .gt off, 3)) (pc' tgt : Nat) (hp : pc + 3 = pc') (ht : (pc : Int) + off = (tgt : Int)) (kt : 0 < x1 → Z x tgt ls st w) (kf : ¬ 0 < x1 → Z x pc' ls st w) : Z x pc ls (vi x1 :: st) w := fun H locs la hl hP hS => lv_if_gt hC.1 hC.2.1 hd ht (fun c => kt c H locs la hl hP hS) (fun c => by subst hp; exact kf c H locs la hl hP hS)
theorem Z_icmp_gt {x : CX} {own : String} {cc : ByteArray} {n d pc : Nat} {ls : LV} {st : List AV} {w : Wd} {x1 x2 : Int32} {off : Int} (hC : Cx x own cc n d) (hd : decode cc pc = .ok (.if_icmp .gt off, 3)) (pc' tgt : Nat) (hp : pc + 3 = pc') (ht : (pc : Int) + off = (tgt : Int)) (kt : x2 < x1 → Z x tgt ls st w) (kf : ¬ x2 < x1 → Z x pc' ls st w) : Z x pc ls (vi x2 :: vi x1 :: st) w := fun H locs la hl hP hS => lv_icmp_gt hC.1 hC.2.1 hd ht (fun c => kt c H locs la hl hP hS) (fun c => by subst hp; exact kf c H locs la hl hP hS)
theorem Z_if_le {x : CX} {own : String} {cc : ByteArray} {n d pc : Nat} {ls : LV} {st : List AV} {w : Wd} {x1 : Int32} {off : Int} (hC : Cx x own cc n d) (hd : decode cc pc = .ok (.ifCond .le off, 3)) (pc' tgt : Nat) (hp : pc + 3 = pc') (ht : (pc : Int) + off = (tgt : Int)) (kt : x1 ≤ 0 → Z x tgt ls st w) (kf : ¬ x1 ≤ 0 → Z x pc' ls st w) : Z x pc ls (vi x1 :: st) w := fun H locs la hl hP hS => lv_if_le hC.1 hC.2.1 hd ht (fun c => kt c H locs la hl hP hS) (fun c => by subst hp; exact kf c H locs la hl hP hS)
theorem Z_icmp_le {x : CX} {own : String} {cc : ByteArray} {n d pc : Nat} {ls : LV} {st : List AV} {w : Wd} {x1 x2 : Int32} {off : Int} (hC : Cx x own cc n d) (hd : decode cc pc = .ok (.if_icmp .le off, 3)) (pc' tgt : Nat) (hp : pc + 3 = pc') (ht : (pc : Int) + off = (tgt : Int)) (kt : x1 ≤ x2 → Z x tgt ls st w) (kf : ¬ x1 ≤ x2 → Z x pc' ls st w) : Z x pc ls (vi x2 :: vi x1 :: st) w := fun H locs la hl hP hS => lv_icmp_le hC.1 hC.2.1 hd ht (fun c => kt c H locs la hl hP hS) (fun c => by subst hp; exact kf c H locs la hl hP hS)
theorem Z_get {x : CX} {own : String} {cc : ByteArray} {n d pc : Nat} {ls : LV} {st : List AV} {w : Wd} {g i idx : Nat} {C : String} {T : u_T} {N : Nat} {fd : FD} (hC : Cx x own cc n d) (hm : (g, i) ∈ gis) (h10 : g < 10) (hc : cls[(lay g).1]? = some (C, T, N)) (hin : ∀ w ∈ u_ws C T N, w ∈ ww) (k : Nat) (hk : k < N) (hlk : Cond.fieldLink own idx C (T k).2.1 (T k).2.2.1 ∈ ww) (hs : (T k).1 = C) (hf : (lay g).2[k]? = some fd) (hd : decode cc pc = .ok (.getfield idx, 3)) (pc' : Nat) (hp : pc + 3 = pc') (kk : Z x pc' ls (fv w i fd :: st) w) : Z x pc ls (vr g i :: st) w := fun H locs la hl hP hS => by
  obtain ⟨q0, hq⟩ := List.getElem?_of_mem hm
  have he := wl_at (xG x) w hq
  rw [cel_obj h10] at he
  refine va_get (D := (xG x).1) (v := cv (xG x) (fv w i fd)) (fs := (lay g).2.map (fun d => cv (xG x) (fv w i d))) hC.1 hC.2.1 hC.2.2.2.1 hin hC.2.2.1 hC.2.2.2.2.1 hP q0 he hc k hk (hC.2.2.2.1 _ hlk) (fun z hz => by rw [hs] at hz; exact hz) ?_ hd ?_
  · rw [List.getElem?_map, hf]; rfl
  · subst hp; exact kk H locs la hl hP hS
theorem Z_putI {x : CX} {own : String} {cc : ByteArray} {n d pc : Nat} {ls : LV} {st : List AV} {w : Wd} {g i idx f : Nat} {C : String} {T : u_T} {N : Nat} {v : Int32} (ty0 : Nat → FieldType) (ty : FieldType) (hC : Cx x own cc n d) (hm : (g, i) ∈ gis) (h10 : g < 10) (hc : cls[(lay g).1]? = some (C, T, N)) (hin : ∀ w ∈ u_ws C T N, w ∈ ww) (hty : ∀ k, k < N → parseFieldDescriptor (T k).2.2.1 = some (ty0 k)) (hnm : ∀ a, a < N → ∀ b, b < N → a ≠ b → (T a).2.1 ≠ (T b).2.1) (k : Nat) (hk : k < N) (hlk : Cond.fieldLink own idx C (T k).2.1 (T k).2.2.1 ∈ ww) (hs : (T k).1 = C) (hfin : (T k).2.2.2 = false) (hpd : parseFieldDescriptor (T k).2.2.1 = some ty) (hn : narrow ty (.int v) = .int v) (hft : fits ty (.int v) = true) (ok : okI g k f = true) (hd : decode cc pc = .ok (.putfield idx, 3)) (pc' : Nat) (hp : pc + 3 = pc') (kk : Z x pc' ls st (sI w f i v)) : Z x pc ls (vi v :: vr g i :: st) w := fun H locs la hl hP hS => by
  obtain ⟨q0, hq⟩ := List.getElem?_of_mem hm
  have he := wl_at (xG x) w hq
  rw [cel_obj h10] at he
  have hlen : k < ((lay g).2.map (fun d => cv (xG x) (fv w i d))).length := by
    rw [List.length_map]; exact (List.getElem?_eq_some_iff.mp (okI_spec ok).1).1
  refine va_put (D := (xG x).1) (v := .int v) (ty := ty) (fs := (lay g).2.map (fun d => cv (xG x) (fv w i d))) hC.1 hC.2.1 hC.2.2.2.1 hin ty0 hty hnm hC.2.2.1 hC.2.2.2.2.1 hP (wl_D hC.2.2.2.2.2.1 w) hS q0 he hc k hk (hC.2.2.2.1 _ hlk) (fun z hz => by rw [hs] at hz; exact hz) hfin hpd hn hft hlen hd (fun H1 locs1 hP1 _ hS1 => ?_)
  rw [set_sI (f := f) (v := v) hq h10 ok] at hP1
  subst hp; exact kk H1 locs1 la hl hP1 hS1
theorem Z_putL {x : CX} {own : String} {cc : ByteArray} {n d pc : Nat} {ls : LV} {st : List AV} {w : Wd} {g i idx f : Nat} {C : String} {T : u_T} {N : Nat} {v : Int64} (ty0 : Nat → FieldType) (ty : FieldType) (hC : Cx x own cc n d) (hm : (g, i) ∈ gis) (h10 : g < 10) (hc : cls[(lay g).1]? = some (C, T, N)) (hin : ∀ w ∈ u_ws C T N, w ∈ ww) (hty : ∀ k, k < N → parseFieldDescriptor (T k).2.2.1 = some (ty0 k)) (hnm : ∀ a, a < N → ∀ b, b < N → a ≠ b → (T a).2.1 ≠ (T b).2.1) (k : Nat) (hk : k < N) (hlk : Cond.fieldLink own idx C (T k).2.1 (T k).2.2.1 ∈ ww) (hs : (T k).1 = C) (hfin : (T k).2.2.2 = false) (hpd : parseFieldDescriptor (T k).2.2.1 = some ty) (hn : narrow ty (.long v) = .long v) (hft : fits ty (.long v) = true) (ok : okL g k f = true) (hd : decode cc pc = .ok (.putfield idx, 3)) (pc' : Nat) (hp : pc + 3 = pc') (kk : Z x pc' ls st (sL w f i v)) : Z x pc ls (vl v :: vr g i :: st) w := fun H locs la hl hP hS => by
  obtain ⟨q0, hq⟩ := List.getElem?_of_mem hm
  have he := wl_at (xG x) w hq
  rw [cel_obj h10] at he
  have hlen : k < ((lay g).2.map (fun d => cv (xG x) (fv w i d))).length := by
    rw [List.length_map]; exact (List.getElem?_eq_some_iff.mp (okL_spec ok).1).1
  refine va_put (D := (xG x).1) (v := .long v) (ty := ty) (fs := (lay g).2.map (fun d => cv (xG x) (fv w i d))) hC.1 hC.2.1 hC.2.2.2.1 hin ty0 hty hnm hC.2.2.1 hC.2.2.2.2.1 hP (wl_D hC.2.2.2.2.2.1 w) hS q0 he hc k hk (hC.2.2.2.1 _ hlk) (fun z hz => by rw [hs] at hz; exact hz) hfin hpd hn hft hlen hd (fun H1 locs1 hP1 _ hS1 => ?_)
  rw [set_sL (f := f) (v := v) hq h10 ok] at hP1
  subst hp; exact kk H1 locs1 la hl hP1 hS1
theorem Z_iaload {x : CX} {own : String} {cc : ByteArray} {n d pc : Nat} {ls : LV} {st : List AV} {w : Wd} {g i : Nat} {j : Int32} (hC : Cx x own cc n d) (hm : (g, i) ∈ gis) (h10 : ¬ g < 10) (hk : (arr g).1 = 0) (hin : vp_in j (arr g).2) (hd : decode cc pc = .ok (.iaload, 1)) (pc' : Nat) (hp : pc + 1 = pc') (kk : Z x pc' ls (vi (gA w g i j.toNatClampNeg) :: st) w) : Z x pc ls (vi j :: vr g i :: st) w := fun H locs la hl hP hS => by
  obtain ⟨q0, hq⟩ := List.getElem?_of_mem hm
  have he := wl_at (xG x) w hq
  rw [cel_arr h10 (by rw [hk]; decide), hk] at he
  refine va_iald (D := (xG x).1) hC.1 hC.2.1 hC.2.2.2.2.1 hP q0 0 he rfl hin hd ?_
  subst hp; exact kk H locs la hl hP hS
theorem Z_baload {x : CX} {own : String} {cc : ByteArray} {n d pc : Nat} {ls : LV} {st : List AV} {w : Wd} {g i : Nat} {j : Int32} (hC : Cx x own cc n d) (hm : (g, i) ∈ gis) (h10 : ¬ g < 10) (hk : (arr g).1 = 1) (hin : vp_in j (arr g).2) (hd : decode cc pc = .ok (.baload, 1)) (pc' : Nat) (hp : pc + 1 = pc') (kk : Z x pc' ls (vi (gA w g i j.toNatClampNeg) :: st) w) : Z x pc ls (vi j :: vr g i :: st) w := fun H locs la hl hP hS => by
  obtain ⟨q0, hq⟩ := List.getElem?_of_mem hm
  have he := wl_at (xG x) w hq
  rw [cel_arr h10 (by rw [hk]; decide), hk] at he
  refine va_bald (D := (xG x).1) hC.1 hC.2.1 hC.2.2.2.2.1 hP q0 1 he rfl hin hd ?_
  subst hp; exact kk H locs la hl hP hS
theorem Z_iastore {x : CX} {own : String} {cc : ByteArray} {n d pc : Nat} {ls : LV} {st : List AV} {w : Wd} {g i : Nat} {j v : Int32} (hC : Cx x own cc n d) (hm : (g, i) ∈ gis) (h10 : ¬ g < 10) (hk : (arr g).1 = 0) (hin : vp_in j (arr g).2) (hd : decode cc pc = .ok (.iastore, 1)) (pc' : Nat) (hp : pc + 1 = pc') (kk : Z x pc' ls st (sA w g i (upd (gA w g i) j.toNatClampNeg v))) : Z x pc ls (vi v :: vi j :: vr g i :: st) w := fun H locs la hl hP hS => by
  obtain ⟨q0, hq⟩ := List.getElem?_of_mem hm
  have he := wl_at (xG x) w hq
  rw [cel_arr h10 (by rw [hk]; decide), hk] at he
  refine va_iast (D := (xG x).1) hC.1 hC.2.1 hC.2.2.2.2.1 hP (wl_D hC.2.2.2.2.2.1 w) hS q0 0 he rfl hin hd (fun H1 locs1 hP1 _ hS1 => ?_)
  have hset := set_sA (G := xG x) (w := w) (v := upd (gA w g i) j.toNatClampNeg v) hq h10 (by rw [hk]; decide)
  rw [hk] at hset
  rw [hset] at hP1
  subst hp; exact kk H1 locs1 la hl hP1 hS1
theorem Z_bastore {x : CX} {own : String} {cc : ByteArray} {n d pc : Nat} {ls : LV} {st : List AV} {w : Wd} {g i : Nat} {j v : Int32} (hC : Cx x own cc n d) (hm : (g, i) ∈ gis) (h10 : ¬ g < 10) (hk : (arr g).1 = 1) (hin : vp_in j (arr g).2) (hd : decode cc pc = .ok (.bastore, 1)) (pc' : Nat) (hp : pc + 1 = pc') (kk : Z x pc' ls st (sA w g i (upd (gA w g i) j.toNatClampNeg (vp_nar .byte v)))) : Z x pc ls (vi v :: vi j :: vr g i :: st) w := fun H locs la hl hP hS => by
  obtain ⟨q0, hq⟩ := List.getElem?_of_mem hm
  have he := wl_at (xG x) w hq
  rw [cel_arr h10 (by rw [hk]; decide), hk] at he
  refine va_bast (D := (xG x).1) hC.1 hC.2.1 hC.2.2.2.2.1 hP (wl_D hC.2.2.2.2.2.1 w) hS q0 1 he rfl hin hd (fun H1 locs1 hP1 _ hS1 => ?_)
  have hset := set_sA (G := xG x) (w := w) (v := upd (gA w g i) j.toNatClampNeg (vp_nar .byte v)) hq h10 (by rw [hk]; decide)
  rw [hk] at hset
  rw [hset] at hP1
  subst hp; exact kk H1 locs1 la hl hP1 hS1
theorem Z_alen {x : CX} {own : String} {cc : ByteArray} {n d pc : Nat} {ls : LV} {st : List AV} {w : Wd} {g i : Nat} {v : Int32} (hC : Cx x own cc n d) (hm : (g, i) ∈ gis) (h10 : ¬ g < 10) (hk : (arr g).1 < 2) (hv : Int32.ofNat (arr g).2 = v) (hd : decode cc pc = .ok (.arraylength, 1)) (pc' : Nat) (hp : pc + 1 = pc') (kk : Z x pc' ls (vi v :: st) w) : Z x pc ls (vr g i :: st) w := fun H locs la hl hP hS => by
  obtain ⟨q0, hq⟩ := List.getElem?_of_mem hm
  have he := wl_at (xG x) w hq
  rw [cel_arr h10 hk] at he
  have ht : ∃ ty, (tyG (xG x))[(arr g).1]? = some ((xG x).2.1 (arr g).1, ty) := by
    rcases (show (arr g).1 = 0 ∨ (arr g).1 = 1 by omega) with e | e <;> rw [e] <;> exact ⟨_, rfl⟩
  obtain ⟨ty, ht⟩ := ht
  refine va_alen (D := (xG x).1) hC.1 hC.2.1 hC.2.2.2.2.1 hP q0 (arr g).1 he ht hv hd ?_
  subst hp; exact kk H locs la hl hP hS
theorem Z_aaload {x : CX} {own : String} {cc : ByteArray} {n d pc : Nat} {ls : LV} {st : List AV} {w : Wd} {g i : Nat} {j : Int32} (hC : Cx x own cc n d) (hm : (g, i) ∈ gis) (h10 : ¬ g < 10) (hk : (arr g).1 = 2 ∨ (arr g).1 = 3) (hin : vp_in j (arr g).2) (hd : decode cc pc = .ok (.aaload, 1)) (pc' : Nat) (hp : pc + 1 = pc') (kk : Z x pc' ls (vr (g + 1) j.toNatClampNeg :: st) w) : Z x pc ls (vi j :: vr g i :: st) w := fun H locs la hl hP hS => by
  obtain ⟨q0, hq⟩ := List.getElem?_of_mem hm
  have he := wl_at (xG x) w hq
  rw [cel_out h10 (by omega)] at he
  have hlt : j.toNatClampNeg < (arr g).2 := Nat.not_le.mp fun q => hin (Or.inr q)
  have ht : ∃ ty, (tyG (xG x))[(arr g).1]? = some ((xG x).2.1 (arr g).1, .array ty) := by
    rcases hk with e | e <;> rw [e] <;> exact ⟨_, rfl⟩
  obtain ⟨ty, ht⟩ := ht
  refine W.aald (v := .ref ((xG x).2.2 (g + 1) j.toNatClampNeg)) (ty := .array ty) hC.1 hC.2.1 (hP q0 _ he) ((hC.2.2.2.2.1.2 _ _ ht).1 (arr g).2 (fun k => va_rf (if k < (arr g).2 then some ((xG x).2.2 (g + 1) k) else none))) rfl (fun q => by cases q) (by show ¬ (j < 0 ∨ (arrV _ _ _).slots.size ≤ _); rw [arrV_size]; exact hin) (by show (arrV _ _ _).slots[_]? = _; rw [arrV_read _ _ hlt]; show some (va_rf (if j.toNatClampNeg < (arr g).2 then _ else none)) = _; rw [if_pos hlt]; rfl) rfl rfl hd ?_
  subst hp; exact kk H locs la hl hP hS
theorem Z_getLet {x : CX} {own : String} {cc : ByteArray} {n d pc : Nat} {ls : LV} {st : List AV} {w : Wd} {idx : Nat} (hC : Cx x own cc n d) (hlk : Cond.fieldLink own idx "HatDraw" "LETTERS" "[I" ∈ ww) (hd : decode cc pc = .ok (.getstatic idx, 3)) (pc' : Nat) (hp : pc + 3 = pc') (kk : Z x pc' ls (vr 50 0 :: st) w) : Z x pc ls st w := fun H locs la hl hP hS => by
  refine va_gets hC.1 hC.2.1 hC.2.2.2.2.2.2.1.1 hS hC.2.2.1 (hC.2.2.2.1 _ hlk) (fun _ h => h) hd ?_
  subst hp; exact kk H locs la hl hP hS
theorem Z_ldLet {x : CX} {own : String} {cc : ByteArray} {n d pc : Nat} {ls : LV} {st : List AV} {w : Wd} {j : Int32} (hC : Cx x own cc n d) (hin : vp_in j 6) (hd : decode cc pc = .ok (.iaload, 1)) (pc' : Nat) (hp : pc + 1 = pc') (kk : Z x pc' ls (vi (letN j.toNatClampNeg) :: st) w) : Z x pc ls (vi j :: vr 50 0 :: st) w := fun H locs la hl hP hS => by
  refine va_ti hC.1 hC.2.1 hC.2.2.2.2.2.2.1.2 hS hin rfl hd ?_
  subst hp; exact kk H locs la hl hP hS
theorem Z_lenLet {x : CX} {own : String} {cc : ByteArray} {n d pc : Nat} {ls : LV} {st : List AV} {w : Wd} (hC : Cx x own cc n d) (hd : decode cc pc = .ok (.arraylength, 1)) (pc' : Nat) (hp : pc + 1 = pc') (kk : Z x pc' ls (vi 6 :: st) w) : Z x pc ls (vr 50 0 :: st) w := fun H locs la hl hP hS => by
  refine va_tlen hC.1 hC.2.1 hC.2.2.2.2.2.2.1.2 hS (v := 6) rfl hd ?_
  subst hp; exact kk H locs la hl hP hS
theorem Z_ldc {x : CX} {own : String} {cc : ByteArray} {n d pc : Nat} {ls : LV} {st : List AV} {w : Wd} {idx : Nat} {v : Int32} (hC : Cx x own cc n d) (hlk : Cond.constant own idx v ∈ ww) (hd : decode cc pc = .ok (.ldc idx, 2)) (pc' : Nat) (hp : pc + 2 = pc') (kk : Z x pc' ls (vi v :: st) w) : Z x pc ls st w := fun H locs la hl hP hS => by
  refine lv_ldc hC.1 hC.2.1 hC.2.2.1 (hC.2.2.2.1 _ hlk) hd ?_
  subst hp; exact kk H locs la hl hP hS
theorem Z_ldcw {x : CX} {own : String} {cc : ByteArray} {n d pc : Nat} {ls : LV} {st : List AV} {w : Wd} {idx : Nat} {v : Int32} (hC : Cx x own cc n d) (hlk : Cond.constant own idx v ∈ ww) (hd : decode cc pc = .ok (.ldc_w idx, 3)) (pc' : Nat) (hp : pc + 3 = pc') (kk : Z x pc' ls (vi v :: st) w) : Z x pc ls st w := fun H locs la hl hP hS => by
  refine lv_ldcw hC.1 hC.2.1 hC.2.2.1 (hC.2.2.2.1 _ hlk) hd ?_
  subst hp; exact kk H locs la hl hP hS
theorem Z_ldc2 {x : CX} {own : String} {cc : ByteArray} {n d pc : Nat} {ls : LV} {st : List AV} {w : Wd} {idx : Nat} {v : Int64} (hC : Cx x own cc n d) (hlk : Cond.constantLong own idx v ∈ ww) (hd : decode cc pc = .ok (.ldc2_w idx, 3)) (pc' : Nat) (hp : pc + 3 = pc') (kk : Z x pc' ls (vl v :: st) w) : Z x pc ls st w := fun H locs la hl hP hS => by
  refine lv_ldc2 hC.1 hC.2.1 hC.2.2.1 (hC.2.2.2.1 _ hlk) hd ?_
  subst hp; exact kk H locs la hl hP hS
theorem Z_switch {x : CX} {own : String} {cc : ByteArray} {n d pc : Nat} {ls : LV} {st : List AV} {w : Wd} {dflt lo hi : Int} {offs : Array Int} {len : Nat} {v : Int32} (hC : Cx x own cc n d) (hd : decode cc pc = .ok (.tableswitch dflt lo hi offs, len)) (tgt : Nat) (ht : (pc : Int) + dflt = (tgt : Int)) (ko : (v.toInt < lo ∨ hi < v.toInt) → Z x tgt ls st w) (ki : ¬ v.toInt < lo → ¬ hi < v.toInt → ∃ (off : Int) (t : Nat), offs[(v.toInt - lo).toNat]? = some off ∧ (pc : Int) + off = (t : Int) ∧ Z x t ls st w) : Z x pc ls (vi v :: st) w := fun H locs la hl hP hS => by
  by_cases h : v.toInt < lo ∨ hi < v.toInt
  · exact lv_tableOut hC.1 hC.2.1 hd h ht (ko h H locs la hl hP hS)
  · rw [not_or] at h
    obtain ⟨off, t, h1, h2, k⟩ := ki h.1 h.2
    exact lv_tableIn hC.1 hC.2.1 hd h.1 h.2 h1 h2 (k H locs la hl hP hS)
theorem Z_ireturn {x : CX} {own : String} {cc : ByteArray} {n d pc : Nat} {ls : LV} {st : List AV} {w : Wd} {v : Int32} (hC : Cx x own cc n d) (hr : (xM x).sig.returnType = some .int) (hQ : Rt x (some (vi v)) w) (hd : decode cc pc = .ok (.ireturn, 1)) : Z x pc ls [vi v] w := fun H locs la hl hP hS => by
  have hlocks := hC.2.2.2.2.2.2.2.2.1
  unfold Rt at hQ
  rw [hQ]
  exact W.iret (v := v) hC.1 hC.2.1 hr (fun t ht hW => ⟨rfl, by rw [ht]; exact hP, hS.F ht⟩) hS.2.2 hd hlocks
theorem Z_zreturn {x : CX} {own : String} {cc : ByteArray} {n d pc : Nat} {ls : LV} {st : List AV} {w : Wd} {v : Int32} (hC : Cx x own cc n d) (hr : (xM x).sig.returnType = some .boolean) (hn : narrow .boolean (.int v) = .int v) (hQ : Rt x (some (vi v)) w) (hd : decode cc pc = .ok (.ireturn, 1)) : Z x pc ls [vi v] w := fun H locs la hl hP hS => by
  have hlocks := hC.2.2.2.2.2.2.2.2.1
  unfold Rt at hQ
  rw [hQ]
  exact W.zret (v := v) (ty := .boolean) hC.1 hC.2.1 hr hn (fun t ht hW => ⟨rfl, by rw [ht]; exact hP, hS.F ht⟩) hS.2.2 hd hlocks
theorem Z_lreturn {x : CX} {own : String} {cc : ByteArray} {n d pc : Nat} {ls : LV} {st : List AV} {w : Wd} {v : Int64} (hC : Cx x own cc n d) (hr : (xM x).sig.returnType = some .long) (hQ : Rt x (some (vl v)) w) (hd : decode cc pc = .ok (.lreturn, 1)) : Z x pc ls [vl v] w := fun H locs la hl hP hS => by
  have hlocks := hC.2.2.2.2.2.2.2.2.1
  unfold Rt at hQ
  rw [hQ]
  exact W.lret (v := v) hC.1 hC.2.1 hr (fun t ht hW => ⟨rfl, by rw [ht]; exact hP, hS.F ht⟩) hS.2.2 hd hlocks
theorem Z_return {x : CX} {own : String} {cc : ByteArray} {n d pc : Nat} {ls : LV} {st : List AV} {w : Wd} (hC : Cx x own cc n d) (hr : (xM x).sig.returnType = none) (hQ : Rt x none w) (hd : decode cc pc = .ok (.return_, 1)) : Z x pc ls [] w := fun H locs la hl hP hS => by
  have hlocks := hC.2.2.2.2.2.2.2.2.1
  unfold Rt at hQ
  rw [hQ]
  exact W.vret hC.1 hC.2.1 hr (fun t ht hW => ⟨rfl, by rw [ht]; exact hP, hS.F ht⟩) hS.2.2 hd hlocks
theorem Wp.blind {G : GT} {w : Wd} {as : List Value} : FrameBlind (va_Pc as (Wp G w)) := fun a U g mk q => by
  obtain ⟨q0, qP, qK, qI, qT, qN⟩ := q
  exact ⟨q0, qP, va_K.moved (u := U) (U := U.calling g mk a) (Vm.Alike.refl U.vm) qK, qI, Sta.moved (u := U) (U := U.calling g mk a) (Vm.Alike.refl U.vm) qT, NW.same (u := U) (U := U.calling g mk a) rfl qN⟩
theorem Cx.pre {x : CX} {own : String} {cc : ByteArray} {n d : Nat} {w : Wd} {H : Heap} {locs : List Loc} (hC : Cx x own cc n d) (hP : va_P (xG x).1 cls (wl (xG x) w) H) (hS : va_S (aG (xG x)) (xs x).heap H locs) (U : State) (hU : U.heap = H) (hW : (xs x).WarmedH U.vm) : Wp (xG x) w U := by
  refine ⟨by rw [hU]; exact hP, va_K.moved hW.alike hC.2.2.2.2.1, hC.2.2.2.2.2.1, ?_, NW.warm hW hC.2.2.2.2.2.2.2.1⟩
  rw [hU]
  exact (hC.2.2.2.2.2.2.1.moved hW.alike).kept hS.2.1
theorem Z_run {x : CX} {pc : Nat} {ls : LV} {st st0 : List AV} {w w' : Wd} {r : Option AV} {a : Array Value} (pc' : Nat) (hp : pc + 3 = pc') (hr : ∀ (H : Heap) (locs : List Loc) (la : Array Slot), lvr (xG x) la ls → va_P (xG x).1 cls (wl (xG x) w) H → va_S (aG (xG x)) (xs x).heap H locs → va_Run (xp x) (xl x) (xe x) (xR x) (xs x) (xm x) (xa x) (xb x) (xM x) (xc x) H locs (xn x) (xo x) 0 0 (F0 (xm x) pc la (st0.map (cv (xG x)))) (st.map (cv (xG x))) (Qs (xG x) r w' a) (aG (xG x))) (k : Z x pc' ls (r.toList ++ st) w') : Z x pc ls st0 w := fun H locs la hl hP hS T hT X => by
  obtain ⟨v, st₀, t, T', L, h0, X', hL, e1, e2, ⟨hv, hp1, hz, hk⟩, stp⟩ := hr H locs la hl hP hS T hT X
  have hv : v = r.map (cv (xG x)) := by injection hv
  rw [h0] at hz hk
  have hS' : va_S (aG (xG x)) (xs x).heap T'.heap (locs ++ L) := ⟨Nat.le_trans hS.1 (by rw [e1]; exact hz), fun q h1 h2 => by rw [e1, hk q (Nat.lt_of_lt_of_le h1 hS.1) h2]; exact hS.2.1 q h1 h2, fun q hq => by
    rcases List.mem_append.mp hq with h | h
    · exact hS.2.2 q h
    · exact hL q h⟩
  obtain ⟨t2, a1, b1⟩ := k T'.heap (locs ++ L) la hl (by rw [e1]; exact hp1) hS' T' rfl X'
  refine ⟨t2, stp t2 ?_, b1⟩
  subst hp
  have he : v.toList ++ st.map (cv (xG x)) = (r.toList ++ st).map (cv (xG x)) := by
    rw [hv, List.map_append]; cases r <;> rfl
  rw [he]
  exact a1
theorem cats (G : GT) (st : List AV) : ((st.map (cv G)).map fun v => v.category).sum = (st.map cat).sum := by
  rw [List.map_map]
  congr 1
  apply List.map_congr_left
  intro v _
  exact cv_cat G v
theorem Z_callV {x : CX} {own : String} {cc : ByteArray} {n d pc : Nat} {ls : LV} {st : List AV} {w : Wd} {g i idx dc maxL m : Nat} {C : String} {T : u_T} {N : Nat} {y : MethodName} {bytes : ByteArray} {ret : Option FieldType} {st0 : List AV} {r : Option AV} {w' : Wd} (as : List AV) (hC : Cx x own cc n d) (hm : (g, i) ∈ gis) (h10 : g < 10) (hc : cls[(lay g).1]? = some (C, T, N)) (hy : y.cls = C ∧ y.cls ≠ "java/lang/invoke/MethodHandle" ∧ y.cls ≠ "java/lang/invoke/VarHandle" ∧ (parseMethodDescriptor y.desc).map (fun d => d.parameters.length) = some m) (w1 : Cond.methodLink own idx y ∈ ww) (w2 : Cond.instanceMethod y ∈ ww) (w3 : Cond.selects C y y ∈ ww) (w4 : Cond.initialized C ∈ ww) (w5 : Cond.code y bytes maxL ret ∈ ww) (hM : Sp (xG x) (xl x) y (Cond.code y bytes maxL ret :: ww) dc (vr g i :: as) w r w') (hdc : dc + 1 ≤ d) (hmx : maxL ≤ 45) (hln : ls.length = n) (hn : as.length = m) (hst : st0 = as.reverse ++ vr g i :: st) (hcat : (st.map cat).sum ≤ 8) (hd : decode cc pc = .ok (.invokevirtual idx, 3)) (pc' : Nat) (hp : pc + 3 = pc') (k : Z x pc' ls (r.toList ++ st) w') : Z x pc ls st0 w := by
  subst hst
  refine Z_run (a := (Value.ref ((xG x).2.2 g i) :: as.map (cv (xG x))).toArray) pc' hp (fun H locs la hl hP hS => ?_) k
  obtain ⟨q0, hq⟩ := List.getElem?_of_mem hm
  have he := wl_at (xG x) w hq
  rw [cel_obj h10] at he
  have hts := hC.2.2.2.1
  have hf := hC.2.2.2.2.2.2.2.2.2.2
  exact va_runV (As := as.map (cv (xG x))) ⟨hC.1, hC.2.1, hC.2.2.2.2.2.2.2.2.2.1, hC.2.2.1, hts⟩ hM (cwV m hts (fun w hw => by
      rcases List.mem_append.mp hw with h | h
      · rcases List.mem_cons.mp h with e | h
        · rw [e]; exact ww_good _ w1
        · rcases List.mem_cons.mp h with e | h
          · rw [e]; exact ww_good _ w2
          · rcases List.mem_cons.mp h with e | h
            · rw [e]; exact ww_good _ w3
            · rcases List.mem_cons.mp h with e | h
              · rw [e]; exact ww_good _ w4
              · cases h
      · exact gww w5 w h) rfl rfl rfl hy ⟨Nat.le_trans hdc hf.1, by show 8 + (maxL + 11) + 64 * dc ≤ _; have := hf.2.1; omega⟩)
    ⟨Wp.blind, va_recv hC.2.2.2.2.1 hP hc he, fun U hU hW => ⟨rfl, hC.pre hP hS U hU hW⟩⟩ rfl (by rw [List.length_map]; exact hn) (by show la.size = n; rw [hl.1]; exact hln) (by show List.map _ _ = _; rw [List.map_append, List.map_reverse]; rfl) (lv_room (by rw [cats]; exact hcat)) hd ⟨hf.2.2.1, hf.2.2.2⟩
theorem Z_callS {x : CX} {own : String} {cc : ByteArray} {n d pc : Nat} {ls : LV} {st : List AV} {w : Wd} {idx dc maxL m : Nat} {y : MethodName} {bytes : ByteArray} {ret : Option FieldType} {st0 : List AV} {r : Option AV} {w' : Wd} (as : List AV) (hC : Cx x own cc n d) (hy : y.cls ≠ "java/lang/invoke/MethodHandle" ∧ y.cls ≠ "java/lang/invoke/VarHandle" ∧ (parseMethodDescriptor y.desc).map (fun d => d.parameters.length) = some m) (w1 : Cond.methodLink own idx y ∈ ww) (w2 : Cond.static y ∈ ww) (w4 : Cond.initialized y.cls ∈ ww) (w5 : Cond.code y bytes maxL ret ∈ ww) (hM : Sp (xG x) (xl x) y (Cond.code y bytes maxL ret :: ww) dc as w r w') (hdc : dc + 1 ≤ d) (hmx : maxL ≤ 45) (hln : ls.length = n) (hn : as.length = m) (hst : st0 = as.reverse ++ st) (hcat : (st.map cat).sum ≤ 8) (hd : decode cc pc = .ok (.invokestatic idx, 3)) (pc' : Nat) (hp : pc + 3 = pc') (k : Z x pc' ls (r.toList ++ st) w') : Z x pc ls st0 w := by
  subst hst
  refine Z_run (a := (as.map (cv (xG x))).toArray) pc' hp (fun H locs la hl hP hS => ?_) k
  have hts := hC.2.2.2.1
  have hf := hC.2.2.2.2.2.2.2.2.2.2
  exact va_runS (As := as.map (cv (xG x))) ⟨hC.1, hC.2.1, hC.2.2.2.2.2.2.2.2.2.1, hC.2.2.1, hts⟩ hM (va_cwS m hts (fun w hw => by
      rcases List.mem_append.mp hw with h | h
      · rcases List.mem_cons.mp h with e | h
        · rw [e]; exact ww_good _ w1
        · rcases List.mem_cons.mp h with e | h
          · rw [e]; exact ww_good _ w2
          · rcases List.mem_cons.mp h with e | h
            · rw [e]; exact ww_good _ w4
            · cases h
      · exact gww w5 w h) rfl rfl rfl hy ⟨Nat.le_trans hdc hf.1, by show 8 + (maxL + 11) + 64 * dc ≤ _; have := hf.2.1; omega⟩)
    ⟨Wp.blind, fun U hU hW => ⟨rfl, hC.pre hP hS U hU hW⟩⟩ rfl (by rw [List.length_map]; exact hn) (by show la.size = n; rw [hl.1]; exact hln) (by show List.map _ _ = _; rw [List.map_append, List.map_reverse]) (lv_room (by rw [cats]; exact hcat)) hd ⟨hf.2.2.1, hf.2.2.2⟩
theorem Z_callSN {x : CX} {own : String} {cc : ByteArray} {n d pc : Nat} {ls : LV} {st : List AV} {w : Wd} {idx dc maxL m : Nat} {host : String} {y : MethodName} {bytes : ByteArray} {ret : Option FieldType} {st0 : List AV} {r : Option AV} {w' : Wd} (as : List AV) (hC : Cx x own cc n d) (hy : y.cls ≠ "java/lang/invoke/MethodHandle" ∧ y.cls ≠ "java/lang/invoke/VarHandle" ∧ (parseMethodDescriptor y.desc).map (fun d => d.parameters.length) = some m) (w1 : va_Nw (.methodLinkNest own idx y host) (xs x)) (w2 : Cond.static y ∈ ww) (w4 : Cond.initialized y.cls ∈ ww) (w5 : Cond.code y bytes maxL ret ∈ ww) (hM : Sp (xG x) (xl x) y (Cond.code y bytes maxL ret :: ww) dc as w r w') (hdc : dc + 1 ≤ d) (hmx : maxL ≤ 45) (hln : ls.length = n) (hn : as.length = m) (hst : st0 = as.reverse ++ st) (hcat : (st.map cat).sum ≤ 8) (hd : decode cc pc = .ok (.invokestatic idx, 3)) (pc' : Nat) (hp : pc + 3 = pc') (k : Z x pc' ls (r.toList ++ st) w') : Z x pc ls st0 w := by
  subst hst
  refine Z_run (a := (as.map (cv (xG x))).toArray) pc' hp (fun H locs la hl hP hS => ?_) k
  have hts := hC.2.2.2.1
  have hf := hC.2.2.2.2.2.2.2.2.2.2
  exact va_runSN (As := as.map (cv (xG x))) ⟨hC.1, hC.2.1, hC.2.2.2.2.2.2.2.2.2.1, hC.2.2.1, hts⟩ hM ⟨va_cnB m hts (gww w5) rfl rfl rfl w1 (hts _ w4) hy ⟨Nat.le_trans hdc hf.1, by show 8 + (maxL + 11) + 64 * dc ≤ _; have := hf.2.1; omega⟩, hts _ w2, trivial⟩
    ⟨Wp.blind, fun U hU hW => ⟨rfl, hC.pre hP hS U hU hW⟩⟩ rfl (by rw [List.length_map]; exact hn) (by show la.size = n; rw [hl.1]; exact hln) (by show List.map _ _ = _; rw [List.map_append, List.map_reverse]) (lv_room (by rw [cats]; exact hcat)) hd ⟨hf.2.2.1, hf.2.2.2⟩
theorem Z_copy {x : CX} {own : String} {cc : ByteArray} {n d pc : Nat} {ls : LV} {st : List AV} {w : Wd} {g i g' i' idx : Nat} {sp dp m : Int32} (hC : Cx x own cc n d) (hm : (g, i) ∈ gis) (hm' : (g', i') ∈ gis) (h10 : ¬ g < 10) (h10' : ¬ g' < 10) (hk : (arr g).1 = 0) (hk' : (arr g').1 = 0) (w1 : Cond.methodLink own idx arraycopyName ∈ ww) (w2 : Cond.native arraycopyName ∈ ww) (w3 : Cond.static arraycopyName ∈ ww) (w4 : Cond.initialized "java/lang/System" ∈ ww) (h1 : ¬ sp < 0) (h2 : ¬ dp < 0) (h3 : ¬ m < 0) (h4 : sp.toNatClampNeg + m.toNatClampNeg ≤ (arr g).2) (h5 : dp.toNatClampNeg + m.toNatClampNeg ≤ (arr g').2) (hdc : 1 ≤ d) (hln : ls.length = n) (hcat : (st.map cat).sum ≤ 8) (hd : decode cc pc = .ok (.invokestatic idx, 3)) (pc' : Nat) (hp : pc + 3 = pc') (k : Z x pc' ls st (sA w g' i' (va_cpy (gA w g i) (gA w g' i') sp.toNatClampNeg dp.toNatClampNeg m.toNatClampNeg))) : Z x pc ls (vi m :: vi dp :: vr g' i' :: vi sp :: vr g i :: st) w := fun H locs la hl hP hS => by
  obtain ⟨q0, hq⟩ := List.getElem?_of_mem hm
  obtain ⟨q1, hq'⟩ := List.getElem?_of_mem hm'
  have he := wl_at (xG x) w hq
  have he' := wl_at (xG x) w hq'
  rw [cel_arr h10 (by rw [hk]; decide), hk] at he
  rw [cel_arr h10' (by rw [hk']; decide), hk'] at he'
  have hts := hC.2.2.2.1
  have hf := hC.2.2.2.2.2.2.2.2.2.2
  refine va_copyi (D := (xG x).1) (ty := .int) hC.1 hC.2.1 (by rw [hl.1, hln]; exact hC.2.2.2.2.2.2.2.2.2.1) hC.2.2.1 (hts _ w1) (hts _ w2) (hts _ w3) (hts _ w4) hC.2.2.2.2.1 hP (wl_D hC.2.2.2.2.2.1 w) hS q0 q1 0 0 he he' rfl rfl rfl h1 h2 h3 h4 h5 (fun _ _ => rfl) (Nat.le_trans hdc hf.1) ?_ hd (fun H1 locs1 hP1 _ hS1 => ?_)
  · rw [cats]
    have e : nativeFrameWords "java/lang/System" "arraycopy" 5 + 11 ≤ 56 := by decide +kernel
    have := hf.2.1
    omega
  · have hset := set_sA (G := xG x) (w := w) (v := va_cpy (gA w g i) (gA w g' i') sp.toNatClampNeg dp.toNatClampNeg m.toNatClampNeg) hq' h10' (by rw [hk']; decide)
    rw [hk'] at hset
    rw [hset] at hP1
    subst hp; exact k H1 locs1 la hl hP1 hS1
/-- a guard -/
noncomputable def gd {α : Type} (P : Prop) (x : Option α) : Option α := @ite _ P (Classical.propDecidable P) x none
theorem gd_pos {α : Type} {P : Prop} {x : Option α} (h : P) : gd P x = x := by unfold gd; rw [if_pos h]
theorem gd_some {α : Type} {P : Prop} {x : Option α} {y : α} (h : gd P x = some y) : P ∧ x = some y := by
  unfold gd at h
  by_cases hp : P
  · rw [if_pos hp] at h; exact ⟨hp, h⟩
  · rw [if_neg hp] at h; cases h
theorem bd_some {α β : Type} {o : Option α} {f : α → Option β} {y : β} (h : o.bind f = some y) : ∃ a, o = some a ∧ f a = some y := by
  cases o with
  | none => cases h
  | some a => exact ⟨a, rfl, h⟩
end
section
theorem uw_X0 : ∀ w ∈ u_ws RX0 TX0 7, w ∈ ww := by
  intro w hw
  obtain ⟨k, hk, rfl⟩ := List.mem_map.mp hw
  have hk := List.mem_range.mp hk
  rcases (show k = 0 ∨ k = 1 ∨ k = 2 ∨ k = 3 ∨ k = 4 ∨ k = 5 ∨ k = 6 by omega) with rfl | rfl | rfl | rfl | rfl | rfl | rfl
  · exact ww_1 80 rfl rfl
  · exact ww_1 82 rfl rfl
  · exact ww_1 84 rfl rfl
  · exact ww_1 86 rfl rfl
  · exact ww_1 88 rfl rfl
  · exact ww_1 90 rfl rfl
  · exact ww_1 92 rfl rfl
theorem uw_X1 : ∀ w ∈ u_ws RX1 TX1 2, w ∈ ww := by
  intro w hw
  obtain ⟨k, hk, rfl⟩ := List.mem_map.mp hw
  have hk := List.mem_range.mp hk
  rcases (show k = 0 ∨ k = 1 by omega) with rfl | rfl
  · exact ww_1 34 rfl rfl
  · exact ww_1 36 rfl rfl
theorem uw_X2 : ∀ w ∈ u_ws RX2 TX2 6, w ∈ ww := by
  intro w hw
  obtain ⟨k, hk, rfl⟩ := List.mem_map.mp hw
  have hk := List.mem_range.mp hk
  rcases (show k = 0 ∨ k = 1 ∨ k = 2 ∨ k = 3 ∨ k = 4 ∨ k = 5 by omega) with rfl | rfl | rfl | rfl | rfl | rfl
  · exact ww_1 109 rfl rfl
  · exact ww_1 111 rfl rfl
  · exact ww_1 113 rfl rfl
  · exact ww_1 115 rfl rfl
  · exact ww_1 117 rfl rfl
  · exact ww_1 119 rfl rfl
theorem uw_X3 : ∀ w ∈ u_ws RX3 TX3 2, w ∈ ww := by
  intro w hw
  obtain ⟨k, hk, rfl⟩ := List.mem_map.mp hw
  have hk := List.mem_range.mp hk
  rcases (show k = 0 ∨ k = 1 by omega) with rfl | rfl
  · exact ww_1 53 rfl rfl
  · exact ww_1 55 rfl rfl
theorem uw_X4 : ∀ w ∈ u_ws RX4 TX4 17, w ∈ ww := by
  intro w hw
  obtain ⟨k, hk, rfl⟩ := List.mem_map.mp hw
  have hk := List.mem_range.mp hk
  rcases (show k = 0 ∨ k = 1 ∨ k = 2 ∨ k = 3 ∨ k = 4 ∨ k = 5 ∨ k = 6 ∨ k = 7 ∨ k = 8 ∨ k = 9 ∨ k = 10 ∨ k = 11 ∨ k = 12 ∨ k = 13 ∨ k = 14 ∨ k = 15 ∨ k = 16 by omega) with rfl | rfl | rfl | rfl | rfl | rfl | rfl | rfl | rfl | rfl | rfl | rfl | rfl | rfl | rfl | rfl | rfl
  · exact ww_1 140 rfl rfl
  · exact ww_1 142 rfl rfl
  · exact ww_1 144 rfl rfl
  · exact ww_1 146 rfl rfl
  · exact ww_1 148 rfl rfl
  · exact ww_1 150 rfl rfl
  · exact ww_1 152 rfl rfl
  · exact ww_1 154 rfl rfl
  · exact ww_1 156 rfl rfl
  · exact ww_1 158 rfl rfl
  · exact ww_1 160 rfl rfl
  · exact ww_1 162 rfl rfl
  · exact ww_1 164 rfl rfl
  · exact ww_1 166 rfl rfl
  · exact ww_1 168 rfl rfl
  · exact ww_1 170 rfl rfl
  · exact ww_1 172 rfl rfl
theorem uw_X5 : ∀ w ∈ u_ws RX5 TX5 32, w ∈ ww := by
  intro w hw
  obtain ⟨k, hk, rfl⟩ := List.mem_map.mp hw
  have hk := List.mem_range.mp hk
  rcases (show k = 0 ∨ k = 1 ∨ k = 2 ∨ k = 3 ∨ k = 4 ∨ k = 5 ∨ k = 6 ∨ k = 7 ∨ k = 8 ∨ k = 9 ∨ k = 10 ∨ k = 11 ∨ k = 12 ∨ k = 13 ∨ k = 14 ∨ k = 15 ∨ k = 16 ∨ k = 17 ∨ k = 18 ∨ k = 19 ∨ k = 20 ∨ k = 21 ∨ k = 22 ∨ k = 23 ∨ k = 24 ∨ k = 25 ∨ k = 26 ∨ k = 27 ∨ k = 28 ∨ k = 29 ∨ k = 30 ∨ k = 31 by omega) with rfl | rfl | rfl | rfl | rfl | rfl | rfl | rfl | rfl | rfl | rfl | rfl | rfl | rfl | rfl | rfl | rfl | rfl | rfl | rfl | rfl | rfl | rfl | rfl | rfl | rfl | rfl | rfl | rfl | rfl | rfl | rfl
  · exact ww_3 227 rfl rfl
  · exact ww_3 229 rfl rfl
  · exact ww_3 231 rfl rfl
  · exact ww_3 233 rfl rfl
  · exact ww_3 235 rfl rfl
  · exact ww_3 237 rfl rfl
  · exact ww_3 239 rfl rfl
  · exact ww_4 1 rfl rfl
  · exact ww_4 3 rfl rfl
  · exact ww_4 5 rfl rfl
  · exact ww_4 7 rfl rfl
  · exact ww_4 9 rfl rfl
  · exact ww_4 11 rfl rfl
  · exact ww_4 13 rfl rfl
  · exact ww_4 15 rfl rfl
  · exact ww_4 17 rfl rfl
  · exact ww_4 19 rfl rfl
  · exact ww_4 21 rfl rfl
  · exact ww_4 23 rfl rfl
  · exact ww_4 25 rfl rfl
  · exact ww_4 27 rfl rfl
  · exact ww_4 29 rfl rfl
  · exact ww_4 31 rfl rfl
  · exact ww_4 33 rfl rfl
  · exact ww_4 35 rfl rfl
  · exact ww_4 37 rfl rfl
  · exact ww_4 39 rfl rfl
  · exact ww_4 41 rfl rfl
  · exact ww_4 43 rfl rfl
  · exact ww_4 45 rfl rfl
  · exact ww_4 47 rfl rfl
  · exact ww_4 49 rfl rfl
theorem wini_L : Cond.initialized RL ∈ ww := ww_1 0 rfl rfl
theorem wini_X4 : Cond.initialized RX4 ∈ ww := ww_1 1 rfl rfl
theorem wini_X1 : Cond.initialized RX1 ∈ ww := ww_1 2 rfl rfl
theorem wini_J7 : Cond.initialized RJ7 ∈ ww := ww_1 3 rfl rfl
theorem wini_X3 : Cond.initialized RX3 ∈ ww := ww_1 4 rfl rfl
theorem wini_X0 : Cond.initialized RX0 ∈ ww := ww_1 5 rfl rfl
theorem wini_X2 : Cond.initialized RX2 ∈ ww := ww_1 6 rfl rfl
theorem wini_X5 : Cond.initialized RX5 ∈ ww := ww_1 7 rfl rfl
theorem wini_J10 : Cond.initialized RJ10 ∈ ww := ww_1 8 rfl rfl
theorem wini_J6 : Cond.initialized RJ6 ∈ ww := ww_1 9 rfl rfl
theorem wini_J9 : Cond.initialized RJ9 ∈ ww := ww_1 10 rfl rfl
theorem wc_X0_settle : Cond.code yX0_settle cX0_settle 4 none ∈ ww := ww_2 32 rfl rfl
abbrev cw_X0_settle : List Cond := Cond.code yX0_settle cX0_settle 4 none :: ww
theorem wi_X0_settle : Cond.instanceMethod yX0_settle ∈ ww := ww_2 30 rfl rfl
theorem wse_X0_settle : Cond.selects RX0 yX0_settle yX0_settle ∈ ww := ww_2 31 rfl rfl
theorem wc_X0_become : Cond.code yX0_become cX0_become 2 none ∈ ww := ww_3 67 rfl rfl
abbrev cw_X0_become : List Cond := Cond.code yX0_become cX0_become 2 none :: ww
theorem wi_X0_become : Cond.instanceMethod yX0_become ∈ ww := ww_3 65 rfl rfl
theorem wse_X0_become : Cond.selects RX0 yX0_become yX0_become ∈ ww := ww_3 66 rfl rfl
theorem wc_X0_addYear : Cond.code yX0_addYear cX0_addYear 2 none ∈ ww := ww_3 55 rfl rfl
abbrev cw_X0_addYear : List Cond := Cond.code yX0_addYear cX0_addYear 2 none :: ww
theorem wi_X0_addYear : Cond.instanceMethod yX0_addYear ∈ ww := ww_3 53 rfl rfl
theorem wse_X0_addYear : Cond.selects RX0 yX0_addYear yX0_addYear ∈ ww := ww_3 54 rfl rfl
theorem wc_X0_hadYear : Cond.code yX0_hadYear cX0_hadYear 3 (some .boolean) ∈ ww := ww_2 162 rfl rfl
abbrev cw_X0_hadYear : List Cond := Cond.code yX0_hadYear cX0_hadYear 3 (some .boolean) :: ww
theorem wi_X0_hadYear : Cond.instanceMethod yX0_hadYear ∈ ww := ww_2 160 rfl rfl
theorem wse_X0_hadYear : Cond.selects RX0 yX0_hadYear yX0_hadYear ∈ ww := ww_2 161 rfl rfl
theorem wc_X0_latest : Cond.code yX0_latest cX0_latest 2 (some .int) ∈ ww := ww_2 49 rfl rfl
abbrev cw_X0_latest : List Cond := Cond.code yX0_latest cX0_latest 2 (some .int) :: ww
theorem wi_X0_latest : Cond.instanceMethod yX0_latest ∈ ww := ww_2 47 rfl rfl
theorem wse_X0_latest : Cond.selects RX0 yX0_latest yX0_latest ∈ ww := ww_2 48 rfl rfl
theorem wc_X0_fact : Cond.code yX0_fact cX0_fact 3 (some .int) ∈ ww := ww_2 45 rfl rfl
abbrev cw_X0_fact : List Cond := Cond.code yX0_fact cX0_fact 3 (some .int) :: ww
theorem wi_X0_fact : Cond.instanceMethod yX0_fact ∈ ww := ww_2 43 rfl rfl
theorem wse_X0_fact : Cond.selects RX0 yX0_fact yX0_fact ∈ ww := ww_2 44 rfl rfl
theorem wc_X0_isFor : Cond.code yX0_isFor cX0_isFor 2 (some .boolean) ∈ ww := ww_2 84 rfl rfl
abbrev cw_X0_isFor : List Cond := Cond.code yX0_isFor cX0_isFor 2 (some .boolean) :: ww
theorem wi_X0_isFor : Cond.instanceMethod yX0_isFor ∈ ww := ww_2 83 rfl rfl
theorem wse_X0_isFor : Cond.selects RX0 yX0_isFor yX0_isFor ∈ ww := ww_p (yX0_isFor, 7) (List.mem_of_getElem? (i := 3) rfl) rfl
theorem wc_X0_barrier : Cond.code yX0_barrier cX0_barrier 4 (some .int) ∈ ww := ww_2 79 rfl rfl
abbrev cw_X0_barrier : List Cond := Cond.code yX0_barrier cX0_barrier 4 (some .int) :: ww
theorem wi_X0_barrier : Cond.instanceMethod yX0_barrier ∈ ww := ww_2 77 rfl rfl
theorem wse_X0_barrier : Cond.selects RX0 yX0_barrier yX0_barrier ∈ ww := ww_2 78 rfl rfl
theorem wc_X0_open : Cond.code yX0_open cX0_open 4 (some .int) ∈ ww := ww_2 75 rfl rfl
abbrev cw_X0_open : List Cond := Cond.code yX0_open cX0_open 4 (some .int) :: ww
theorem wi_X0_open : Cond.instanceMethod yX0_open ∈ ww := ww_2 73 rfl rfl
theorem wse_X0_open : Cond.selects RX0 yX0_open yX0_open ∈ ww := ww_2 74 rfl rfl
theorem wc_X0_minds : Cond.code yX0_minds cX0_minds 3 (some .boolean) ∈ ww := ww_2 122 rfl rfl
abbrev cw_X0_minds : List Cond := Cond.code yX0_minds cX0_minds 3 (some .boolean) :: ww
theorem wi_X0_minds : Cond.instanceMethod yX0_minds ∈ ww := ww_2 121 rfl rfl
theorem wse_X0_minds : Cond.selects RX0 yX0_minds yX0_minds ∈ ww := ww_p (yX0_minds, 7) (List.mem_of_getElem? (i := 5) rfl) rfl
theorem wc_X0_drawsBack : Cond.code yX0_drawsBack cX0_drawsBack 4 (some .boolean) ∈ ww := ww_2 166 rfl rfl
abbrev cw_X0_drawsBack : List Cond := Cond.code yX0_drawsBack cX0_drawsBack 4 (some .boolean) :: ww
theorem wi_X0_drawsBack : Cond.instanceMethod yX0_drawsBack ∈ ww := ww_2 164 rfl rfl
theorem wse_X0_drawsBack : Cond.selects RX0 yX0_drawsBack yX0_drawsBack ∈ ww := ww_2 165 rfl rfl
theorem wc_X0_against : Cond.code yX0_against cX0_against 5 (some .int) ∈ ww := ww_2 118 rfl rfl
abbrev cw_X0_against : List Cond := Cond.code yX0_against cX0_against 5 (some .int) :: ww
theorem wi_X0_against : Cond.instanceMethod yX0_against ∈ ww := ww_2 116 rfl rfl
theorem wse_X0_against : Cond.selects RX0 yX0_against yX0_against ∈ ww := ww_2 117 rfl rfl
theorem wc_X0_breaksRing : Cond.code yX0_breaksRing cX0_breaksRing 2 (some .boolean) ∈ ww := ww_2 126 rfl rfl
abbrev cw_X0_breaksRing : List Cond := Cond.code yX0_breaksRing cX0_breaksRing 2 (some .boolean) :: ww
theorem wi_X0_breaksRing : Cond.instanceMethod yX0_breaksRing ∈ ww := ww_2 124 rfl rfl
theorem wse_X0_breaksRing : Cond.selects RX0 yX0_breaksRing yX0_breaksRing ∈ ww := ww_2 125 rfl rfl
theorem wc_X0_othersAtTable : Cond.code yX0_othersAtTable cX0_othersAtTable 4 (some .int) ∈ ww := ww_2 63 rfl rfl
abbrev cw_X0_othersAtTable : List Cond := Cond.code yX0_othersAtTable cX0_othersAtTable 4 (some .int) :: ww
theorem wi_X0_othersAtTable : Cond.instanceMethod yX0_othersAtTable ∈ ww := ww_2 61 rfl rfl
theorem wse_X0_othersAtTable : Cond.selects RX0 yX0_othersAtTable yX0_othersAtTable ∈ ww := ww_2 62 rfl rfl
theorem wc_X0_yearsPaired : Cond.code yX0_yearsPaired cX0_yearsPaired 4 (some .int) ∈ ww := ww_2 67 rfl rfl
abbrev cw_X0_yearsPaired : List Cond := Cond.code yX0_yearsPaired cX0_yearsPaired 4 (some .int) :: ww
theorem wi_X0_yearsPaired : Cond.instanceMethod yX0_yearsPaired ∈ ww := ww_2 65 rfl rfl
theorem wse_X0_yearsPaired : Cond.selects RX0 yX0_yearsPaired yX0_yearsPaired ∈ ww := ww_2 66 rfl rfl
theorem wc_X0_worthier : Cond.code yX0_worthier cX0_worthier 4 (some .int) ∈ ww := ww_2 71 rfl rfl
abbrev cw_X0_worthier : List Cond := Cond.code yX0_worthier cX0_worthier 4 (some .int) :: ww
theorem wi_X0_worthier : Cond.instanceMethod yX0_worthier ∈ ww := ww_2 69 rfl rfl
theorem wse_X0_worthier : Cond.selects RX0 yX0_worthier yX0_worthier ∈ ww := ww_2 70 rfl rfl
theorem wc_X0_othersBarredFrom : Cond.code yX0_othersBarredFrom cX0_othersBarredFrom 4 (some .int) ∈ ww := ww_2 94 rfl rfl
abbrev cw_X0_othersBarredFrom : List Cond := Cond.code yX0_othersBarredFrom cX0_othersBarredFrom 4 (some .int) :: ww
theorem wi_X0_othersBarredFrom : Cond.instanceMethod yX0_othersBarredFrom ∈ ww := ww_2 92 rfl rfl
theorem wse_X0_othersBarredFrom : Cond.selects RX0 yX0_othersBarredFrom yX0_othersBarredFrom ∈ ww := ww_2 93 rfl rfl
theorem wc_X0_howManyOf : Cond.code yX0_howManyOf cX0_howManyOf 4 (some .int) ∈ ww := ww_3 157 rfl rfl
abbrev cw_X0_howManyOf : List Cond := Cond.code yX0_howManyOf cX0_howManyOf 4 (some .int) :: ww
theorem wi_X0_howManyOf : Cond.instanceMethod yX0_howManyOf ∈ ww := ww_3 155 rfl rfl
theorem wse_X0_howManyOf : Cond.selects RX0 yX0_howManyOf yX0_howManyOf ∈ ww := ww_3 156 rfl rfl
theorem wc_X0_greatestDifference : Cond.code yX0_greatestDifference cX0_greatestDifference 4 (some .int) ∈ ww := ww_3 129 rfl rfl
abbrev cw_X0_greatestDifference : List Cond := Cond.code yX0_greatestDifference cX0_greatestDifference 4 (some .int) :: ww
theorem wi_X0_greatestDifference : Cond.instanceMethod yX0_greatestDifference ∈ ww := ww_3 127 rfl rfl
theorem wse_X0_greatestDifference : Cond.selects RX0 yX0_greatestDifference yX0_greatestDifference ∈ ww := ww_3 128 rfl rfl
theorem wc_X1_isMissing : Cond.code yX1_isMissing cX1_isMissing 2 (some .boolean) ∈ ww := ww_1 201 rfl rfl
abbrev cw_X1_isMissing : List Cond := Cond.code yX1_isMissing cX1_isMissing 2 (some .boolean) :: ww
theorem wi_X1_isMissing : Cond.instanceMethod yX1_isMissing ∈ ww := ww_1 199 rfl rfl
theorem wse_X1_isMissing : Cond.selects RX1 yX1_isMissing yX1_isMissing ∈ ww := ww_1 200 rfl rfl
theorem wc_X1_renew : Cond.code yX1_renew cX1_renew 3 none ∈ ww := ww_1 189 rfl rfl
abbrev cw_X1_renew : List Cond := Cond.code yX1_renew cX1_renew 3 none :: ww
theorem wi_X1_renew : Cond.instanceMethod yX1_renew ∈ ww := ww_1 187 rfl rfl
theorem wse_X1_renew : Cond.selects RX1 yX1_renew yX1_renew ∈ ww := ww_1 188 rfl rfl
theorem wc_X1_missesPlace : Cond.code yX1_missesPlace cX1_missesPlace 3 (some .int) ∈ ww := ww_1 197 rfl rfl
abbrev cw_X1_missesPlace : List Cond := Cond.code yX1_missesPlace cX1_missesPlace 3 (some .int) :: ww
theorem wi_X1_missesPlace : Cond.instanceMethod yX1_missesPlace ∈ ww := ww_1 195 rfl rfl
theorem wse_X1_missesPlace : Cond.selects RX1 yX1_missesPlace yX1_missesPlace ∈ ww := ww_1 196 rfl rfl
theorem wc_X1_hasPlaces : Cond.code yX1_hasPlaces cX1_hasPlaces 4 (some .boolean) ∈ ww := ww_1 218 rfl rfl
abbrev cw_X1_hasPlaces : List Cond := Cond.code yX1_hasPlaces cX1_hasPlaces 4 (some .boolean) :: ww
theorem wi_X1_hasPlaces : Cond.instanceMethod yX1_hasPlaces ∈ ww := ww_1 216 rfl rfl
theorem wse_X1_hasPlaces : Cond.selects RX1 yX1_hasPlaces yX1_hasPlaces ∈ ww := ww_1 217 rfl rfl
theorem wc_X1_mixAll : Cond.code yX1_mixAll cX1_mixAll 7 (some .long) ∈ ww := ww_3 182 rfl rfl
abbrev cw_X1_mixAll : List Cond := Cond.code yX1_mixAll cX1_mixAll 7 (some .long) :: ww
theorem wi_X1_mixAll : Cond.instanceMethod yX1_mixAll ∈ ww := ww_3 180 rfl rfl
theorem wse_X1_mixAll : Cond.selects RX1 yX1_mixAll yX1_mixAll ∈ ww := ww_3 181 rfl rfl
theorem wc_X2_list : Cond.code yX2_list cX2_list 4 (some .int) ∈ ww := ww_2 145 rfl rfl
abbrev cw_X2_list : List Cond := Cond.code yX2_list cX2_list 4 (some .int) :: ww
theorem wi_X2_list : Cond.instanceMethod yX2_list ∈ ww := ww_2 143 rfl rfl
theorem wse_X2_list : Cond.selects RX2 yX2_list yX2_list ∈ ww := ww_2 144 rfl rfl
theorem wc_X2_extend : Cond.code yX2_extend cX2_extend 6 none ∈ ww := ww_2 153 rfl rfl
abbrev cw_X2_extend : List Cond := Cond.code yX2_extend cX2_extend 6 none :: ww
theorem wi_X2_extend : Cond.instanceMethod yX2_extend ∈ ww := ww_2 152 rfl rfl
theorem wse_X2_extend : Cond.selects RX2 yX2_extend yX2_extend ∈ ww := ww_p (yX2_extend, 6) (List.mem_of_getElem? (i := 7) rfl) rfl
theorem wc_X2_admit : Cond.code yX2_admit cX2_admit 2 none ∈ ww := ww_2 157 rfl rfl
abbrev cw_X2_admit : List Cond := Cond.code yX2_admit cX2_admit 2 none :: ww
theorem wi_X2_admit : Cond.instanceMethod yX2_admit ∈ ww := ww_2 156 rfl rfl
theorem wse_X2_admit : Cond.selects RX2 yX2_admit yX2_admit ∈ ww := ww_p (yX2_admit, 6) (List.mem_of_getElem? (i := 8) rfl) rfl
theorem wc_X2_fitsAt : Cond.code yX2_fitsAt cX2_fitsAt 4 (some .boolean) ∈ ww := ww_2 186 rfl rfl
abbrev cw_X2_fitsAt : List Cond := Cond.code yX2_fitsAt cX2_fitsAt 4 (some .boolean) :: ww
theorem wi_X2_fitsAt : Cond.instanceMethod yX2_fitsAt ∈ ww := ww_2 184 rfl rfl
theorem wse_X2_fitsAt : Cond.selects RX2 yX2_fitsAt yX2_fitsAt ∈ ww := ww_2 185 rfl rfl
theorem wc_X2_fitting : Cond.code yX2_fitting cX2_fitting 5 (some .int) ∈ ww := ww_2 231 rfl rfl
abbrev cw_X2_fitting : List Cond := Cond.code yX2_fitting cX2_fitting 5 (some .int) :: ww
theorem wi_X2_fitting : Cond.instanceMethod yX2_fitting ∈ ww := ww_2 229 rfl rfl
theorem wse_X2_fitting : Cond.selects RX2 yX2_fitting yX2_fitting ∈ ww := ww_2 230 rfl rfl
theorem wc_X2_placeOf : Cond.code yX2_placeOf cX2_placeOf 4 (some .int) ∈ ww := ww_2 182 rfl rfl
abbrev cw_X2_placeOf : List Cond := Cond.code yX2_placeOf cX2_placeOf 4 (some .int) :: ww
theorem wi_X2_placeOf : Cond.instanceMethod yX2_placeOf ∈ ww := ww_2 180 rfl rfl
theorem wse_X2_placeOf : Cond.selects RX2 yX2_placeOf yX2_placeOf ∈ ww := ww_2 181 rfl rfl
theorem wc_X2_differing : Cond.code yX2_differing cX2_differing 5 (some .int) ∈ ww := ww_3 96 rfl rfl
abbrev cw_X2_differing : List Cond := Cond.code yX2_differing cX2_differing 5 (some .int) :: ww
theorem wi_X2_differing : Cond.instanceMethod yX2_differing ∈ ww := ww_3 94 rfl rfl
theorem wse_X2_differing : Cond.selects RX2 yX2_differing yX2_differing ∈ ww := ww_3 95 rfl rfl
theorem wc_X2_shareByTurns : Cond.code yX2_shareByTurns cX2_shareByTurns 7 (some .int) ∈ ww := ww_3 11 rfl rfl
abbrev cw_X2_shareByTurns : List Cond := Cond.code yX2_shareByTurns cX2_shareByTurns 7 (some .int) :: ww
theorem wi_X2_shareByTurns : Cond.instanceMethod yX2_shareByTurns ∈ ww := ww_3 9 rfl rfl
theorem wse_X2_shareByTurns : Cond.selects RX2 yX2_shareByTurns yX2_shareByTurns ∈ ww := ww_3 10 rfl rfl
theorem wc_X2_shareOf : Cond.code yX2_shareOf cX2_shareOf 12 (some .int) ∈ ww := ww_3 19 rfl rfl
abbrev cw_X2_shareOf : List Cond := Cond.code yX2_shareOf cX2_shareOf 12 (some .int) :: ww
theorem wi_X2_shareOf : Cond.instanceMethod yX2_shareOf ∈ ww := ww_3 18 rfl rfl
theorem wse_X2_shareOf : Cond.selects RX2 yX2_shareOf yX2_shareOf ∈ ww := ww_p (yX2_shareOf, 6) (List.mem_of_getElem? (i := 14) rfl) rfl
theorem wc_X2_partsAt : Cond.code yX2_partsAt cX2_partsAt 6 (some .int) ∈ ww := ww_3 23 rfl rfl
abbrev cw_X2_partsAt : List Cond := Cond.code yX2_partsAt cX2_partsAt 6 (some .int) :: ww
theorem wi_X2_partsAt : Cond.instanceMethod yX2_partsAt ∈ ww := ww_3 22 rfl rfl
theorem wse_X2_partsAt : Cond.selects RX2 yX2_partsAt yX2_partsAt ∈ ww := ww_p (yX2_partsAt, 6) (List.mem_of_getElem? (i := 15) rfl) rfl
theorem wc_X3_isMissing : Cond.code yX3_isMissing cX3_isMissing 2 (some .boolean) ∈ ww := ww_2 7 rfl rfl
abbrev cw_X3_isMissing : List Cond := Cond.code yX3_isMissing cX3_isMissing 2 (some .boolean) :: ww
theorem wi_X3_isMissing : Cond.instanceMethod yX3_isMissing ∈ ww := ww_2 5 rfl rfl
theorem wse_X3_isMissing : Cond.selects RX3 yX3_isMissing yX3_isMissing ∈ ww := ww_2 6 rfl rfl
theorem wc_X3_renew : Cond.code yX3_renew cX3_renew 3 none ∈ ww := ww_1 236 rfl rfl
abbrev cw_X3_renew : List Cond := Cond.code yX3_renew cX3_renew 3 none :: ww
theorem wi_X3_renew : Cond.instanceMethod yX3_renew ∈ ww := ww_1 234 rfl rfl
theorem wse_X3_renew : Cond.selects RX3 yX3_renew yX3_renew ∈ ww := ww_1 235 rfl rfl
theorem wc_X3_firstFault : Cond.code yX3_firstFault cX3_firstFault 4 (some .int) ∈ ww := ww_2 15 rfl rfl
abbrev cw_X3_firstFault : List Cond := Cond.code yX3_firstFault cX3_firstFault 4 (some .int) :: ww
theorem wi_X3_firstFault : Cond.instanceMethod yX3_firstFault ∈ ww := ww_2 13 rfl rfl
theorem wse_X3_firstFault : Cond.selects RX3 yX3_firstFault yX3_firstFault ∈ ww := ww_2 14 rfl rfl
theorem wc_X3_isFigure : Cond.code yX3_isFigure cX3_isFigure 3 (some .boolean) ∈ ww := ww_2 24 rfl rfl
abbrev cw_X3_isFigure : List Cond := Cond.code yX3_isFigure cX3_isFigure 3 (some .boolean) :: ww
theorem wi_X3_isFigure : Cond.instanceMethod yX3_isFigure ∈ ww := ww_2 23 rfl rfl
theorem wse_X3_isFigure : Cond.selects RX3 yX3_isFigure yX3_isFigure ∈ ww := ww_p (yX3_isFigure, 2) (List.mem_of_getElem? (i := 1) rfl) rfl
theorem wc_X3_mixAll : Cond.code yX3_mixAll cX3_mixAll 7 (some .long) ∈ ww := ww_3 187 rfl rfl
abbrev cw_X3_mixAll : List Cond := Cond.code yX3_mixAll cX3_mixAll 7 (some .long) :: ww
theorem wi_X3_mixAll : Cond.instanceMethod yX3_mixAll ∈ ww := ww_3 185 rfl rfl
theorem wse_X3_mixAll : Cond.selects RX3 yX3_mixAll yX3_mixAll ∈ ww := ww_3 186 rfl rfl
theorem wc_X4_row : Cond.code yX4_row cX4_row 3 (some .int) ∈ ww := ww_1 178 rfl rfl
abbrev cw_X4_row : List Cond := Cond.code yX4_row cX4_row 3 (some .int) :: ww
theorem wi_X4_row : Cond.instanceMethod yX4_row ∈ ww := ww_1 176 rfl rfl
theorem wse_X4_row : Cond.selects RX4 yX4_row yX4_row ∈ ww := ww_1 177 rfl rfl
theorem wc_X4_lay : Cond.code yX4_lay cX4_lay 5 (some .int) ∈ ww := ww_1 193 rfl rfl
abbrev cw_X4_lay : List Cond := Cond.code yX4_lay cX4_lay 5 (some .int) :: ww
theorem wi_X4_lay : Cond.instanceMethod yX4_lay ∈ ww := ww_1 191 rfl rfl
theorem wse_X4_lay : Cond.selects RX4 yX4_lay yX4_lay ∈ ww := ww_1 192 rfl rfl
theorem wc_X4_at : Cond.code yX4_at cX4_at 4 (some .int) ∈ ww := ww_1 205 rfl rfl
abbrev cw_X4_at : List Cond := Cond.code yX4_at cX4_at 4 (some .int) :: ww
theorem wi_X4_at : Cond.instanceMethod yX4_at ∈ ww := ww_1 203 rfl rfl
theorem wse_X4_at : Cond.selects RX4 yX4_at yX4_at ∈ ww := ww_1 204 rfl rfl
theorem wc_X4_tear : Cond.code yX4_tear cX4_tear 2 (some .int) ∈ ww := ww_1 209 rfl rfl
abbrev cw_X4_tear : List Cond := Cond.code yX4_tear cX4_tear 2 (some .int) :: ww
theorem wi_X4_tear : Cond.instanceMethod yX4_tear ∈ ww := ww_1 207 rfl rfl
theorem wse_X4_tear : Cond.selects RX4 yX4_tear yX4_tear ∈ ww := ww_1 208 rfl rfl
theorem wc_X4_copy : Cond.code yX4_copy cX4_copy 6 (some .int) ∈ ww := ww_1 214 rfl rfl
abbrev cw_X4_copy : List Cond := Cond.code yX4_copy cX4_copy 6 (some .int) :: ww
theorem wi_X4_copy : Cond.instanceMethod yX4_copy ∈ ww := ww_1 212 rfl rfl
theorem wse_X4_copy : Cond.selects RX4 yX4_copy yX4_copy ∈ ww := ww_1 213 rfl rfl
theorem wc_X4_mean : Cond.code yX4_mean cX4_mean 6 (some .int) ∈ ww := ww_1 225 rfl rfl
abbrev cw_X4_mean : List Cond := Cond.code yX4_mean cX4_mean 6 (some .int) :: ww
theorem wi_X4_mean : Cond.instanceMethod yX4_mean ∈ ww := ww_1 223 rfl rfl
theorem wse_X4_mean : Cond.selects RX4 yX4_mean yX4_mean ∈ ww := ww_1 224 rfl rfl
theorem wc_X4_text : Cond.code yX4_text cX4_text 3 (some .int) ∈ ww := ww_1 229 rfl rfl
abbrev cw_X4_text : List Cond := Cond.code yX4_text cX4_text 3 (some .int) :: ww
theorem wi_X4_text : Cond.instanceMethod yX4_text ∈ ww := ww_1 227 rfl rfl
theorem wse_X4_text : Cond.selects RX4 yX4_text yX4_text ∈ ww := ww_1 228 rfl rfl
theorem wc_X4_put : Cond.code yX4_put cX4_put 5 (some .int) ∈ ww := ww_2 3 rfl rfl
abbrev cw_X4_put : List Cond := Cond.code yX4_put cX4_put 5 (some .int) :: ww
theorem wi_X4_put : Cond.instanceMethod yX4_put ∈ ww := ww_2 1 rfl rfl
theorem wse_X4_put : Cond.selects RX4 yX4_put yX4_put ∈ ww := ww_2 2 rfl rfl
theorem wc_X4_fault : Cond.code yX4_fault cX4_fault 2 (some .int) ∈ ww := ww_2 11 rfl rfl
abbrev cw_X4_fault : List Cond := Cond.code yX4_fault cX4_fault 2 (some .int) :: ww
theorem wi_X4_fault : Cond.instanceMethod yX4_fault ∈ ww := ww_2 9 rfl rfl
theorem wse_X4_fault : Cond.selects RX4 yX4_fault yX4_fault ∈ ww := ww_2 10 rfl rfl
theorem wc_X4_office : Cond.code yX4_office cX4_office 2 (some .int) ∈ ww := ww_2 28 rfl rfl
abbrev cw_X4_office : List Cond := Cond.code yX4_office cX4_office 2 (some .int) :: ww
theorem wi_X4_office : Cond.instanceMethod yX4_office ∈ ww := ww_2 26 rfl rfl
theorem wse_X4_office : Cond.selects RX4 yX4_office yX4_office ∈ ww := ww_2 27 rfl rfl
theorem wc_X4_mate : Cond.code yX4_mate cX4_mate 3 (some .int) ∈ ww := ww_2 37 rfl rfl
abbrev cw_X4_mate : List Cond := Cond.code yX4_mate cX4_mate 3 (some .int) :: ww
theorem wi_X4_mate : Cond.instanceMethod yX4_mate ∈ ww := ww_2 35 rfl rfl
theorem wse_X4_mate : Cond.selects RX4 yX4_mate yX4_mate ∈ ww := ww_2 36 rfl rfl
theorem wc_X4_mark : Cond.code yX4_mark cX4_mark 3 (some .int) ∈ ww := ww_2 56 rfl rfl
abbrev cw_X4_mark : List Cond := Cond.code yX4_mark cX4_mark 3 (some .int) :: ww
theorem wi_X4_mark : Cond.instanceMethod yX4_mark ∈ ww := ww_2 54 rfl rfl
theorem wse_X4_mark : Cond.selects RX4 yX4_mark yX4_mark ∈ ww := ww_2 55 rfl rfl
theorem wc_X4_rules : Cond.code yX4_rules cX4_rules 3 (some .int) ∈ ww := ww_2 98 rfl rfl
abbrev cw_X4_rules : List Cond := Cond.code yX4_rules cX4_rules 3 (some .int) :: ww
theorem wi_X4_rules : Cond.instanceMethod yX4_rules ∈ ww := ww_2 96 rfl rfl
theorem wse_X4_rules : Cond.selects RX4 yX4_rules yX4_rules ∈ ww := ww_2 97 rfl rfl
theorem wc_X4_move : Cond.code yX4_move cX4_move 4 (some .int) ∈ ww := ww_2 102 rfl rfl
abbrev cw_X4_move : List Cond := Cond.code yX4_move cX4_move 4 (some .int) :: ww
theorem wi_X4_move : Cond.instanceMethod yX4_move ∈ ww := ww_2 100 rfl rfl
theorem wse_X4_move : Cond.selects RX4 yX4_move yX4_move ∈ ww := ww_2 101 rfl rfl
theorem wc_X4_may : Cond.code yX4_may cX4_may 2 (some .int) ∈ ww := ww_2 106 rfl rfl
abbrev cw_X4_may : List Cond := Cond.code yX4_may cX4_may 2 (some .int) :: ww
theorem wi_X4_may : Cond.instanceMethod yX4_may ∈ ww := ww_2 104 rfl rfl
theorem wse_X4_may : Cond.selects RX4 yX4_may yX4_may ∈ ww := ww_2 105 rfl rfl
theorem wc_X4_judge : Cond.code yX4_judge cX4_judge 5 (some .int) ∈ ww := ww_2 110 rfl rfl
abbrev cw_X4_judge : List Cond := Cond.code yX4_judge cX4_judge 5 (some .int) :: ww
theorem wi_X4_judge : Cond.instanceMethod yX4_judge ∈ ww := ww_2 108 rfl rfl
theorem wse_X4_judge : Cond.selects RX4 yX4_judge yX4_judge ∈ ww := ww_2 109 rfl rfl
theorem wc_X4_ways : Cond.code yX4_ways cX4_ways 1 (some .int) ∈ ww := ww_2 137 rfl rfl
abbrev cw_X4_ways : List Cond := Cond.code yX4_ways cX4_ways 1 (some .int) :: ww
theorem wi_X4_ways : Cond.instanceMethod yX4_ways ∈ ww := ww_2 135 rfl rfl
theorem wse_X4_ways : Cond.selects RX4 yX4_ways yX4_ways ∈ ww := ww_2 136 rfl rfl
theorem wc_X4_nth : Cond.code yX4_nth cX4_nth 3 (some .int) ∈ ww := ww_2 170 rfl rfl
abbrev cw_X4_nth : List Cond := Cond.code yX4_nth cX4_nth 3 (some .int) :: ww
theorem wi_X4_nth : Cond.instanceMethod yX4_nth ∈ ww := ww_2 168 rfl rfl
theorem wse_X4_nth : Cond.selects RX4 yX4_nth yX4_nth ∈ ww := ww_2 169 rfl rfl
theorem wc_X4_number : Cond.code yX4_number cX4_number 3 (some .int) ∈ ww := ww_2 178 rfl rfl
abbrev cw_X4_number : List Cond := Cond.code yX4_number cX4_number 3 (some .int) :: ww
theorem wi_X4_number : Cond.instanceMethod yX4_number ∈ ww := ww_2 176 rfl rfl
theorem wse_X4_number : Cond.selects RX4 yX4_number yX4_number ∈ ww := ww_2 177 rfl rfl
theorem wc_X4_lot : Cond.code yX4_lot cX4_lot 4 (some .int) ∈ ww := ww_2 190 rfl rfl
abbrev cw_X4_lot : List Cond := Cond.code yX4_lot cX4_lot 4 (some .int) :: ww
theorem wi_X4_lot : Cond.instanceMethod yX4_lot ∈ ww := ww_2 188 rfl rfl
theorem wse_X4_lot : Cond.selects RX4 yX4_lot yX4_lot ∈ ww := ww_2 189 rfl rfl
theorem wc_X4_draw : Cond.code yX4_draw cX4_draw 2 (some .int) ∈ ww := ww_2 202 rfl rfl
abbrev cw_X4_draw : List Cond := Cond.code yX4_draw cX4_draw 2 (some .int) :: ww
theorem wi_X4_draw : Cond.instanceMethod yX4_draw ∈ ww := ww_2 200 rfl rfl
theorem wse_X4_draw : Cond.selects RX4 yX4_draw yX4_draw ∈ ww := ww_2 201 rfl rfl
theorem wc_X4_undo : Cond.code yX4_undo cX4_undo 3 (some .int) ∈ ww := ww_2 216 rfl rfl
abbrev cw_X4_undo : List Cond := Cond.code yX4_undo cX4_undo 3 (some .int) :: ww
theorem wi_X4_undo : Cond.instanceMethod yX4_undo ∈ ww := ww_2 214 rfl rfl
theorem wse_X4_undo : Cond.selects RX4 yX4_undo yX4_undo ∈ ww := ww_2 215 rfl rfl
theorem wc_X4_drew : Cond.code yX4_drew cX4_drew 2 (some .int) ∈ ww := ww_2 223 rfl rfl
abbrev cw_X4_drew : List Cond := Cond.code yX4_drew cX4_drew 2 (some .int) :: ww
theorem wi_X4_drew : Cond.instanceMethod yX4_drew ∈ ww := ww_2 221 rfl rfl
theorem wse_X4_drew : Cond.selects RX4 yX4_drew yX4_drew ∈ ww := ww_2 222 rfl rfl
theorem wc_X4_can : Cond.code yX4_can cX4_can 1 (some .int) ∈ ww := ww_2 227 rfl rfl
abbrev cw_X4_can : List Cond := Cond.code yX4_can cX4_can 1 (some .int) :: ww
theorem wi_X4_can : Cond.instanceMethod yX4_can ∈ ww := ww_2 225 rfl rfl
theorem wse_X4_can : Cond.selects RX4 yX4_can yX4_can ∈ ww := ww_2 226 rfl rfl
theorem wc_X4_turns : Cond.code yX4_turns cX4_turns 3 (some .int) ∈ ww := ww_3 0 rfl rfl
abbrev cw_X4_turns : List Cond := Cond.code yX4_turns cX4_turns 3 (some .int) :: ww
theorem wi_X4_turns : Cond.instanceMethod yX4_turns ∈ ww := ww_2 238 rfl rfl
theorem wse_X4_turns : Cond.selects RX4 yX4_turns yX4_turns ∈ ww := ww_2 239 rfl rfl
theorem wc_X4_alike : Cond.code yX4_alike cX4_alike 6 (some .int) ∈ ww := ww_3 29 rfl rfl
abbrev cw_X4_alike : List Cond := Cond.code yX4_alike cX4_alike 6 (some .int) :: ww
theorem wi_X4_alike : Cond.instanceMethod yX4_alike ∈ ww := ww_3 27 rfl rfl
theorem wse_X4_alike : Cond.selects RX4 yX4_alike yX4_alike ∈ ww := ww_3 28 rfl rfl
theorem wc_X4_play : Cond.code yX4_play cX4_play 6 (some .int) ∈ ww := ww_3 33 rfl rfl
abbrev cw_X4_play : List Cond := Cond.code yX4_play cX4_play 6 (some .int) :: ww
theorem wi_X4_play : Cond.instanceMethod yX4_play ∈ ww := ww_3 31 rfl rfl
theorem wse_X4_play : Cond.selects RX4 yX4_play yX4_play ∈ ww := ww_3 32 rfl rfl
theorem wc_X4_keep : Cond.code yX4_keep cX4_keep 2 (some .int) ∈ ww := ww_3 40 rfl rfl
abbrev cw_X4_keep : List Cond := Cond.code yX4_keep cX4_keep 2 (some .int) :: ww
theorem wi_X4_keep : Cond.instanceMethod yX4_keep ∈ ww := ww_3 38 rfl rfl
theorem wse_X4_keep : Cond.selects RX4 yX4_keep yX4_keep ∈ ww := ww_3 39 rfl rfl
theorem wc_X4_on : Cond.code yX4_on cX4_on 2 (some .int) ∈ ww := ww_3 47 rfl rfl
abbrev cw_X4_on : List Cond := Cond.code yX4_on cX4_on 2 (some .int) :: ww
theorem wi_X4_on : Cond.instanceMethod yX4_on ∈ ww := ww_3 45 rfl rfl
theorem wse_X4_on : Cond.selects RX4 yX4_on yX4_on ∈ ww := ww_3 46 rfl rfl
theorem wc_X4_year : Cond.code yX4_year cX4_year 3 (some .int) ∈ ww := ww_3 51 rfl rfl
abbrev cw_X4_year : List Cond := Cond.code yX4_year cX4_year 3 (some .int) :: ww
theorem wi_X4_year : Cond.instanceMethod yX4_year ∈ ww := ww_3 49 rfl rfl
theorem wse_X4_year : Cond.selects RX4 yX4_year yX4_year ∈ ww := ww_3 50 rfl rfl
theorem wc_X4_forget : Cond.code yX4_forget cX4_forget 3 (some .int) ∈ ww := ww_3 59 rfl rfl
abbrev cw_X4_forget : List Cond := Cond.code yX4_forget cX4_forget 3 (some .int) :: ww
theorem wi_X4_forget : Cond.instanceMethod yX4_forget ∈ ww := ww_3 57 rfl rfl
theorem wse_X4_forget : Cond.selects RX4 yX4_forget yX4_forget ∈ ww := ww_3 58 rfl rfl
theorem wc_X4_run : Cond.code yX4_run cX4_run 2 (some .int) ∈ ww := ww_3 63 rfl rfl
abbrev cw_X4_run : List Cond := Cond.code yX4_run cX4_run 2 (some .int) :: ww
theorem wi_X4_run : Cond.instanceMethod yX4_run ∈ ww := ww_3 61 rfl rfl
theorem wse_X4_run : Cond.selects RX4 yX4_run yX4_run ∈ ww := ww_3 62 rfl rfl
theorem wc_X4_times : Cond.code yX4_times cX4_times 5 (some .int) ∈ ww := ww_3 72 rfl rfl
abbrev cw_X4_times : List Cond := Cond.code yX4_times cX4_times 5 (some .int) :: ww
theorem wi_X4_times : Cond.instanceMethod yX4_times ∈ ww := ww_3 70 rfl rfl
theorem wse_X4_times : Cond.selects RX4 yX4_times yX4_times ∈ ww := ww_3 71 rfl rfl
theorem wc_X4_fits : Cond.code yX4_fits cX4_fits 4 (some .int) ∈ ww := ww_3 76 rfl rfl
abbrev cw_X4_fits : List Cond := Cond.code yX4_fits cX4_fits 4 (some .int) :: ww
theorem wi_X4_fits : Cond.instanceMethod yX4_fits ∈ ww := ww_3 74 rfl rfl
theorem wse_X4_fits : Cond.selects RX4 yX4_fits yX4_fits ∈ ww := ww_3 75 rfl rfl
theorem wc_X4_known : Cond.code yX4_known cX4_known 7 (some .int) ∈ ww := ww_3 92 rfl rfl
abbrev cw_X4_known : List Cond := Cond.code yX4_known cX4_known 7 (some .int) :: ww
theorem wi_X4_known : Cond.instanceMethod yX4_known ∈ ww := ww_3 90 rfl rfl
theorem wse_X4_known : Cond.selects RX4 yX4_known yX4_known ∈ ww := ww_3 91 rfl rfl
theorem wc_X4_still : Cond.code yX4_still cX4_still 8 (some .int) ∈ ww := ww_3 100 rfl rfl
abbrev cw_X4_still : List Cond := Cond.code yX4_still cX4_still 8 (some .int) :: ww
theorem wi_X4_still : Cond.instanceMethod yX4_still ∈ ww := ww_3 98 rfl rfl
theorem wse_X4_still : Cond.selects RX4 yX4_still yX4_still ∈ ww := ww_3 99 rfl rfl
theorem wc_X4_fewest : Cond.code yX4_fewest cX4_fewest 5 (some .int) ∈ ww := ww_3 104 rfl rfl
abbrev cw_X4_fewest : List Cond := Cond.code yX4_fewest cX4_fewest 5 (some .int) :: ww
theorem wi_X4_fewest : Cond.instanceMethod yX4_fewest ∈ ww := ww_3 102 rfl rfl
theorem wse_X4_fewest : Cond.selects RX4 yX4_fewest yX4_fewest ∈ ww := ww_3 103 rfl rfl
theorem wc_X4_drop : Cond.code yX4_drop cX4_drop 5 (some .int) ∈ ww := ww_3 108 rfl rfl
abbrev cw_X4_drop : List Cond := Cond.code yX4_drop cX4_drop 5 (some .int) :: ww
theorem wi_X4_drop : Cond.instanceMethod yX4_drop ∈ ww := ww_3 106 rfl rfl
theorem wse_X4_drop : Cond.selects RX4 yX4_drop yX4_drop ∈ ww := ww_3 107 rfl rfl
theorem wc_X4_table : Cond.code yX4_table cX4_table 6 (some .int) ∈ ww := ww_3 112 rfl rfl
abbrev cw_X4_table : List Cond := Cond.code yX4_table cX4_table 6 (some .int) :: ww
theorem wi_X4_table : Cond.instanceMethod yX4_table ∈ ww := ww_3 110 rfl rfl
theorem wse_X4_table : Cond.selects RX4 yX4_table yX4_table ∈ ww := ww_3 111 rfl rfl
theorem wc_X4_rings : Cond.code yX4_rings cX4_rings 3 (some .int) ∈ ww := ww_3 116 rfl rfl
abbrev cw_X4_rings : List Cond := Cond.code yX4_rings cX4_rings 3 (some .int) :: ww
theorem wi_X4_rings : Cond.instanceMethod yX4_rings ∈ ww := ww_3 114 rfl rfl
theorem wse_X4_rings : Cond.selects RX4 yX4_rings yX4_rings ∈ ww := ww_3 115 rfl rfl
theorem wc_X4_ringed : Cond.code yX4_ringed cX4_ringed 4 (some .int) ∈ ww := ww_3 121 rfl rfl
abbrev cw_X4_ringed : List Cond := Cond.code yX4_ringed cX4_ringed 4 (some .int) :: ww
theorem wi_X4_ringed : Cond.instanceMethod yX4_ringed ∈ ww := ww_3 119 rfl rfl
theorem wse_X4_ringed : Cond.selects RX4 yX4_ringed yX4_ringed ∈ ww := ww_3 120 rfl rfl
theorem wc_X4_even : Cond.code yX4_even cX4_even 6 (some .int) ∈ ww := ww_3 125 rfl rfl
abbrev cw_X4_even : List Cond := Cond.code yX4_even cX4_even 6 (some .int) :: ww
theorem wi_X4_even : Cond.instanceMethod yX4_even ∈ ww := ww_3 123 rfl rfl
theorem wse_X4_even : Cond.selects RX4 yX4_even yX4_even ∈ ww := ww_3 124 rfl rfl
theorem wc_X4_gain : Cond.code yX4_gain cX4_gain 5 (some .int) ∈ ww := ww_3 137 rfl rfl
abbrev cw_X4_gain : List Cond := Cond.code yX4_gain cX4_gain 5 (some .int) :: ww
theorem wi_X4_gain : Cond.instanceMethod yX4_gain ∈ ww := ww_3 135 rfl rfl
theorem wse_X4_gain : Cond.selects RX4 yX4_gain yX4_gain ∈ ww := ww_3 136 rfl rfl
theorem wc_X4_asked : Cond.code yX4_asked cX4_asked 1 (some .int) ∈ ww := ww_3 141 rfl rfl
abbrev cw_X4_asked : List Cond := Cond.code yX4_asked cX4_asked 1 (some .int) :: ww
theorem wi_X4_asked : Cond.instanceMethod yX4_asked ∈ ww := ww_3 139 rfl rfl
theorem wse_X4_asked : Cond.selects RX4 yX4_asked yX4_asked ∈ ww := ww_3 140 rfl rfl
theorem wc_X4_upper : Cond.code yX4_upper cX4_upper 1 (some .long) ∈ ww := ww_3 145 rfl rfl
abbrev cw_X4_upper : List Cond := Cond.code yX4_upper cX4_upper 1 (some .long) :: ww
theorem wi_X4_upper : Cond.instanceMethod yX4_upper ∈ ww := ww_3 143 rfl rfl
theorem wse_X4_upper : Cond.selects RX4 yX4_upper yX4_upper ∈ ww := ww_3 144 rfl rfl
theorem wc_X4_lower : Cond.code yX4_lower cX4_lower 1 (some .long) ∈ ww := ww_3 149 rfl rfl
abbrev cw_X4_lower : List Cond := Cond.code yX4_lower cX4_lower 1 (some .long) :: ww
theorem wi_X4_lower : Cond.instanceMethod yX4_lower ∈ ww := ww_3 147 rfl rfl
theorem wse_X4_lower : Cond.selects RX4 yX4_lower yX4_lower ∈ ww := ww_3 148 rfl rfl
theorem wc_X4_count : Cond.code yX4_count cX4_count 2 (some .int) ∈ ww := ww_3 153 rfl rfl
abbrev cw_X4_count : List Cond := Cond.code yX4_count cX4_count 2 (some .int) :: ww
theorem wi_X4_count : Cond.instanceMethod yX4_count ∈ ww := ww_3 151 rfl rfl
theorem wse_X4_count : Cond.selects RX4 yX4_count yX4_count ∈ ww := ww_3 152 rfl rfl
theorem wc_X4_finding : Cond.code yX4_finding cX4_finding 1 (some .int) ∈ ww := ww_3 164 rfl rfl
abbrev cw_X4_finding : List Cond := Cond.code yX4_finding cX4_finding 1 (some .int) :: ww
theorem wi_X4_finding : Cond.instanceMethod yX4_finding ∈ ww := ww_3 162 rfl rfl
theorem wse_X4_finding : Cond.selects RX4 yX4_finding yX4_finding ∈ ww := ww_3 163 rfl rfl
theorem wc_X4_findings : Cond.code yX4_findings cX4_findings 2 (some .int) ∈ ww := ww_3 168 rfl rfl
abbrev cw_X4_findings : List Cond := Cond.code yX4_findings cX4_findings 2 (some .int) :: ww
theorem wi_X4_findings : Cond.instanceMethod yX4_findings ∈ ww := ww_3 166 rfl rfl
theorem wse_X4_findings : Cond.selects RX4 yX4_findings yX4_findings ∈ ww := ww_3 167 rfl rfl
theorem wc_X4_digest : Cond.code yX4_digest cX4_digest 5 (some .long) ∈ ww := ww_3 172 rfl rfl
abbrev cw_X4_digest : List Cond := Cond.code yX4_digest cX4_digest 5 (some .long) :: ww
theorem wi_X4_digest : Cond.instanceMethod yX4_digest ∈ ww := ww_3 170 rfl rfl
theorem wse_X4_digest : Cond.selects RX4 yX4_digest yX4_digest ∈ ww := ww_3 171 rfl rfl
theorem wc_X4_isRow : Cond.code yX4_isRow cX4_isRow 1 (some .boolean) ∈ ww := ww_1 181 rfl rfl
abbrev cw_X4_isRow : List Cond := Cond.code yX4_isRow cX4_isRow 1 (some .boolean) :: ww
theorem wi_X4_isRow : Cond.static yX4_isRow ∈ ww := ww_1 180 rfl rfl
theorem wc_X4_isText : Cond.code yX4_isText cX4_isText 1 (some .boolean) ∈ ww := ww_1 232 rfl rfl
abbrev cw_X4_isText : List Cond := Cond.code yX4_isText cX4_isText 1 (some .boolean) :: ww
theorem wi_X4_isText : Cond.static yX4_isText ∈ ww := ww_1 231 rfl rfl
theorem wc_X4_isKeptPlace : Cond.code yX4_isKeptPlace cX4_isKeptPlace 1 (some .boolean) ∈ ww := ww_3 43 rfl rfl
abbrev cw_X4_isKeptPlace : List Cond := Cond.code yX4_isKeptPlace cX4_isKeptPlace 1 (some .boolean) :: ww
theorem wi_X4_isKeptPlace : Cond.static yX4_isKeptPlace ∈ ww := ww_3 42 rfl rfl
theorem wc_X4_isSeed : Cond.code yX4_isSeed cX4_isSeed 1 (some .boolean) ∈ ww := ww_2 193 rfl rfl
abbrev cw_X4_isSeed : List Cond := Cond.code yX4_isSeed cX4_isSeed 1 (some .boolean) :: ww
theorem wi_X4_isSeed : Cond.static yX4_isSeed ∈ ww := ww_2 192 rfl rfl
theorem wc_X4_isMate : Cond.code yX4_isMate cX4_isMate 2 (some .boolean) ∈ ww := ww_2 41 rfl rfl
abbrev cw_X4_isMate : List Cond := Cond.code yX4_isMate cX4_isMate 2 (some .boolean) :: ww
theorem wi_X4_isMate : Cond.instanceMethod yX4_isMate ∈ ww := ww_2 40 rfl rfl
theorem wse_X4_isMate : Cond.selects RX4 yX4_isMate yX4_isMate ∈ ww := ww_p (yX4_isMate, 17) (List.mem_of_getElem? (i := 2) rfl) rfl
theorem wc_X4_isSet : Cond.code yX4_isSet cX4_isSet 2 (some .boolean) ∈ ww := ww_3 80 rfl rfl
abbrev cw_X4_isSet : List Cond := Cond.code yX4_isSet cX4_isSet 2 (some .boolean) :: ww
theorem wi_X4_isSet : Cond.instanceMethod yX4_isSet ∈ ww := ww_3 79 rfl rfl
theorem wse_X4_isSet : Cond.selects RX4 yX4_isSet yX4_isSet ∈ ww := ww_p (yX4_isSet, 17) (List.mem_of_getElem? (i := 16) rfl) rfl
theorem wc_X4_refuse : Cond.code yX4_refuse cX4_refuse 2 (some .int) ∈ ww := ww_1 185 rfl rfl
abbrev cw_X4_refuse : List Cond := Cond.code yX4_refuse cX4_refuse 2 (some .int) :: ww
theorem wi_X4_refuse : Cond.instanceMethod yX4_refuse ∈ ww := ww_1 184 rfl rfl
theorem wse_X4_refuse : Cond.selects RX4 yX4_refuse yX4_refuse ∈ ww := ww_p (yX4_refuse, 17) (List.mem_of_getElem? (i := 0) rfl) rfl
theorem wc_X4_tellFraction : Cond.code yX4_tellFraction cX4_tellFraction 7 none ∈ ww := ww_3 4 rfl rfl
abbrev cw_X4_tellFraction : List Cond := Cond.code yX4_tellFraction cX4_tellFraction 7 none :: ww
theorem wi_X4_tellFraction : Cond.instanceMethod yX4_tellFraction ∈ ww := ww_3 3 rfl rfl
theorem wse_X4_tellFraction : Cond.selects RX4 yX4_tellFraction yX4_tellFraction ∈ ww := ww_p (yX4_tellFraction, 17) (List.mem_of_getElem? (i := 13) rfl) rfl
theorem wc_X4_listRight : Cond.code yX4_listRight cX4_listRight 1 none ∈ ww := ww_2 141 rfl rfl
abbrev cw_X4_listRight : List Cond := Cond.code yX4_listRight cX4_listRight 1 none :: ww
theorem wi_X4_listRight : Cond.instanceMethod yX4_listRight ∈ ww := ww_2 140 rfl rfl
theorem wse_X4_listRight : Cond.selects RX4 yX4_listRight yX4_listRight ∈ ww := ww_p (yX4_listRight, 17) (List.mem_of_getElem? (i := 6) rfl) rfl
theorem wc_X4_drawingIn : Cond.code yX4_drawingIn cX4_drawingIn 6 (some .int) ∈ ww := ww_2 114 rfl rfl
abbrev cw_X4_drawingIn : List Cond := Cond.code yX4_drawingIn cX4_drawingIn 6 (some .int) :: ww
theorem wi_X4_drawingIn : Cond.instanceMethod yX4_drawingIn ∈ ww := ww_2 113 rfl rfl
theorem wse_X4_drawingIn : Cond.selects RX4 yX4_drawingIn yX4_drawingIn ∈ ww := ww_p (yX4_drawingIn, 17) (List.mem_of_getElem? (i := 4) rfl) rfl
theorem wc_X4_rightDrawingIn : Cond.code yX4_rightDrawingIn cX4_rightDrawingIn 3 (some .int) ∈ ww := ww_3 84 rfl rfl
abbrev cw_X4_rightDrawingIn : List Cond := Cond.code yX4_rightDrawingIn cX4_rightDrawingIn 3 (some .int) :: ww
theorem wi_X4_rightDrawingIn : Cond.instanceMethod yX4_rightDrawingIn ∈ ww := ww_3 83 rfl rfl
theorem wse_X4_rightDrawingIn : Cond.selects RX4 yX4_rightDrawingIn yX4_rightDrawingIn ∈ ww := ww_p (yX4_rightDrawingIn, 17) (List.mem_of_getElem? (i := 17) rfl) rfl
theorem wc_X4_layDrawing : Cond.code yX4_layDrawing cX4_layDrawing 4 none ∈ ww := ww_2 174 rfl rfl
abbrev cw_X4_layDrawing : List Cond := Cond.code yX4_layDrawing cX4_layDrawing 4 none :: ww
theorem wi_X4_layDrawing : Cond.instanceMethod yX4_layDrawing ∈ ww := ww_2 173 rfl rfl
theorem wse_X4_layDrawing : Cond.selects RX4 yX4_layDrawing yX4_layDrawing ∈ ww := ww_p (yX4_layDrawing, 17) (List.mem_of_getElem? (i := 9) rfl) rfl
theorem wc_X4_isTaken : Cond.code yX4_isTaken cX4_isTaken 3 (some .boolean) ∈ ww := ww_2 206 rfl rfl
abbrev cw_X4_isTaken : List Cond := Cond.code yX4_isTaken cX4_isTaken 3 (some .boolean) :: ww
theorem wi_X4_isTaken : Cond.instanceMethod yX4_isTaken ∈ ww := ww_2 205 rfl rfl
theorem wse_X4_isTaken : Cond.selects RX4 yX4_isTaken yX4_isTaken ∈ ww := ww_p (yX4_isTaken, 17) (List.mem_of_getElem? (i := 10) rfl) rfl
theorem wc_X4_takePaper : Cond.code yX4_takePaper cX4_takePaper 2 none ∈ ww := ww_2 212 rfl rfl
abbrev cw_X4_takePaper : List Cond := Cond.code yX4_takePaper cX4_takePaper 2 none :: ww
theorem wi_X4_takePaper : Cond.instanceMethod yX4_takePaper ∈ ww := ww_2 211 rfl rfl
theorem wse_X4_takePaper : Cond.selects RX4 yX4_takePaper yX4_takePaper ∈ ww := ww_p (yX4_takePaper, 17) (List.mem_of_getElem? (i := 11) rfl) rfl
theorem wc_X4_nextOpen : Cond.code yX4_nextOpen cX4_nextOpen 3 (some .int) ∈ ww := ww_2 235 rfl rfl
abbrev cw_X4_nextOpen : List Cond := Cond.code yX4_nextOpen cX4_nextOpen 3 (some .int) :: ww
theorem wi_X4_nextOpen : Cond.instanceMethod yX4_nextOpen ∈ ww := ww_2 234 rfl rfl
theorem wse_X4_nextOpen : Cond.selects RX4 yX4_nextOpen yX4_nextOpen ∈ ww := ww_p (yX4_nextOpen, 17) (List.mem_of_getElem? (i := 12) rfl) rfl
theorem wc_X4_papersOf : Cond.code yX4_papersOf cX4_papersOf 4 (some .int) ∈ ww := ww_3 88 rfl rfl
abbrev cw_X4_papersOf : List Cond := Cond.code yX4_papersOf cX4_papersOf 4 (some .int) :: ww
theorem wi_X4_papersOf : Cond.instanceMethod yX4_papersOf ∈ ww := ww_3 87 rfl rfl
theorem wse_X4_papersOf : Cond.selects RX4 yX4_papersOf yX4_papersOf ∈ ww := ww_p (yX4_papersOf, 17) (List.mem_of_getElem? (i := 18) rfl) rfl
theorem wc_X4_paper : Cond.code yX4_paper cX4_paper 2 (some .int) ∈ ww := ww_2 52 rfl rfl
abbrev cw_X4_paper : List Cond := Cond.code yX4_paper cX4_paper 2 (some .int) :: ww
theorem wi_X4_paper : Cond.static yX4_paper ∈ ww := ww_2 51 rfl rfl
theorem wc_X4_firstOnes : Cond.code yX4_firstOnes cX4_firstOnes 1 (some .int) ∈ ww := ww_2 219 rfl rfl
abbrev cw_X4_firstOnes : List Cond := Cond.code yX4_firstOnes cX4_firstOnes 1 (some .int) :: ww
theorem wi_X4_firstOnes : Cond.static yX4_firstOnes ∈ ww := ww_2 218 rfl rfl
theorem wc_X4_nextLot : Cond.code yX4_nextLot cX4_nextLot 1 (some .int) ∈ ww := ww_2 197 rfl rfl
abbrev cw_X4_nextLot : List Cond := Cond.code yX4_nextLot cX4_nextLot 1 (some .int) :: ww
theorem wi_X4_nextLot : Cond.static yX4_nextLot ∈ ww := ww_2 196 rfl rfl
theorem wc_X4_bitNumber : Cond.code yX4_bitNumber cX4_bitNumber 4 (some .int) ∈ ww := ww_3 36 rfl rfl
abbrev cw_X4_bitNumber : List Cond := Cond.code yX4_bitNumber cX4_bitNumber 4 (some .int) :: ww
theorem wi_X4_bitNumber : Cond.static yX4_bitNumber ∈ ww := ww_3 35 rfl rfl
theorem wc_X4_isOf : Cond.code yX4_isOf cX4_isOf 2 (some .boolean) ∈ ww := ww_2 59 rfl rfl
abbrev cw_X4_isOf : List Cond := Cond.code yX4_isOf cX4_isOf 2 (some .boolean) :: ww
theorem wi_X4_isOf : Cond.static yX4_isOf ∈ ww := ww_2 58 rfl rfl
theorem wc_X4_kindOf : Cond.code yX4_kindOf cX4_kindOf 2 (some .int) ∈ ww := ww_2 18 rfl rfl
abbrev cw_X4_kindOf : List Cond := Cond.code yX4_kindOf cX4_kindOf 2 (some .int) :: ww
theorem wi_X4_kindOf : Cond.static yX4_kindOf ∈ ww := ww_2 17 rfl rfl
theorem wc_X4_ringOf : Cond.code yX4_ringOf cX4_ringOf 5 (some .int) ∈ ww := ww_2 132 rfl rfl
abbrev cw_X4_ringOf : List Cond := Cond.code yX4_ringOf cX4_ringOf 5 (some .int) :: ww
theorem wi_X4_ringOf : Cond.static yX4_ringOf ∈ ww := ww_2 131 rfl rfl
theorem wc_X4_ringCount : Cond.code yX4_ringCount cX4_ringCount 5 (some .int) ∈ ww := ww_2 129 rfl rfl
abbrev cw_X4_ringCount : List Cond := Cond.code yX4_ringCount cX4_ringCount 5 (some .int) :: ww
theorem wi_X4_ringCount : Cond.static yX4_ringCount ∈ ww := ww_2 128 rfl rfl
theorem wc_X4_howManyThere : Cond.code yX4_howManyThere cX4_howManyThere 3 (some .int) ∈ ww := ww_3 160 rfl rfl
abbrev cw_X4_howManyThere : List Cond := Cond.code yX4_howManyThere cX4_howManyThere 3 (some .int) :: ww
theorem wi_X4_howManyThere : Cond.static yX4_howManyThere ∈ ww := ww_3 159 rfl rfl
theorem wc_X4_mixPapers : Cond.code yX4_mixPapers cX4_mixPapers 7 (some .long) ∈ ww := ww_3 178 rfl rfl
abbrev cw_X4_mixPapers : List Cond := Cond.code yX4_mixPapers cX4_mixPapers 7 (some .long) :: ww
theorem wi_X4_mixPapers : Cond.static yX4_mixPapers ∈ ww := ww_3 177 rfl rfl
theorem wc_X5_in : Cond.code yX5_in cX5_in 3 (some .boolean) ∈ ww := ww_4 61 rfl rfl
abbrev cw_X5_in : List Cond := Cond.code yX5_in cX5_in 3 (some .boolean) :: ww
theorem wi_X5_in : Cond.static yX5_in ∈ ww := ww_4 60 rfl rfl
theorem wc_X5_meet : Cond.code yX5_meet cX5_meet 2 (some .int) ∈ ww := ww_4 65 rfl rfl
abbrev cw_X5_meet : List Cond := Cond.code yX5_meet cX5_meet 2 (some .int) :: ww
theorem wi_X5_meet : Cond.instanceMethod yX5_meet ∈ ww := ww_4 64 rfl rfl
theorem wse_X5_meet : Cond.selects RX5 yX5_meet yX5_meet ∈ ww := ww_p (yX5_meet, 32) (List.mem_of_getElem? (i := 19) rfl) rfl
theorem wc_X5_ask : Cond.code yX5_ask cX5_ask 3 (some .int) ∈ ww := ww_4 85 rfl rfl
abbrev cw_X5_ask : List Cond := Cond.code yX5_ask cX5_ask 3 (some .int) :: ww
theorem wi_X5_ask : Cond.instanceMethod yX5_ask ∈ ww := ww_4 84 rfl rfl
theorem wse_X5_ask : Cond.selects RX5 yX5_ask yX5_ask ∈ ww := ww_p (yX5_ask, 32) (List.mem_of_getElem? (i := 23) rfl) rfl
theorem wc_X5_part : Cond.code yX5_part cX5_part 12 (some .int) ∈ ww := ww_5 50 rfl rfl
abbrev cw_X5_part : List Cond := Cond.code yX5_part cX5_part 12 (some .int) :: ww
theorem wi_X5_part : Cond.instanceMethod yX5_part ∈ ww := ww_5 49 rfl rfl
theorem wse_X5_part : Cond.selects RX5 yX5_part yX5_part ∈ ww := ww_p (yX5_part, 32) (List.mem_of_getElem? (i := 46) rfl) rfl
theorem wc_X5_has : Cond.code yX5_has cX5_has 2 (some .boolean) ∈ ww := ww_4 171 rfl rfl
abbrev cw_X5_has : List Cond := Cond.code yX5_has cX5_has 2 (some .boolean) :: ww
theorem wi_X5_has : Cond.static yX5_has ∈ ww := ww_4 170 rfl rfl
theorem wc_X5_sizeOf : Cond.code yX5_sizeOf cX5_sizeOf 3 (some .int) ∈ ww := ww_4 178 rfl rfl
abbrev cw_X5_sizeOf : List Cond := Cond.code yX5_sizeOf cX5_sizeOf 3 (some .int) :: ww
theorem wi_X5_sizeOf : Cond.static yX5_sizeOf ∈ ww := ww_4 177 rfl rfl
theorem wc_X5_isRow : Cond.code yX5_isRow cX5_isRow 1 (some .boolean) ∈ ww := ww_4 58 rfl rfl
abbrev cw_X5_isRow : List Cond := Cond.code yX5_isRow cX5_isRow 1 (some .boolean) :: ww
theorem wi_X5_isRow : Cond.static yX5_isRow ∈ ww := ww_4 57 rfl rfl
theorem wc_X5_isText : Cond.code yX5_isText cX5_isText 1 (some .boolean) ∈ ww := ww_4 109 rfl rfl
abbrev cw_X5_isText : List Cond := Cond.code yX5_isText cX5_isText 1 (some .boolean) :: ww
theorem wi_X5_isText : Cond.static yX5_isText ∈ ww := ww_4 108 rfl rfl
theorem wc_X5_askedRow : Cond.code yX5_askedRow cX5_askedRow 2 (some .int) ∈ ww := ww_4 77 rfl rfl
abbrev cw_X5_askedRow : List Cond := Cond.code yX5_askedRow cX5_askedRow 2 (some .int) :: ww
theorem wi_X5_askedRow : Cond.instanceMethod yX5_askedRow ∈ ww := ww_4 76 rfl rfl
theorem wse_X5_askedRow : Cond.selects RX5 yX5_askedRow yX5_askedRow ∈ ww := ww_p (yX5_askedRow, 32) (List.mem_of_getElem? (i := 21) rfl) rfl
theorem wc_X5_askedText : Cond.code yX5_askedText cX5_askedText 2 (some .int) ∈ ww := ww_4 117 rfl rfl
abbrev cw_X5_askedText : List Cond := Cond.code yX5_askedText cX5_askedText 2 (some .int) :: ww
theorem wi_X5_askedText : Cond.instanceMethod yX5_askedText ∈ ww := ww_4 116 rfl rfl
theorem wse_X5_askedText : Cond.selects RX5 yX5_askedText yX5_askedText ∈ ww := ww_p (yX5_askedText, 32) (List.mem_of_getElem? (i := 24) rfl) rfl
theorem wc_X5_rowAt : Cond.code yX5_rowAt cX5_rowAt 3 (some .int) ∈ ww := ww_4 81 rfl rfl
abbrev cw_X5_rowAt : List Cond := Cond.code yX5_rowAt cX5_rowAt 3 (some .int) :: ww
theorem wi_X5_rowAt : Cond.instanceMethod yX5_rowAt ∈ ww := ww_4 80 rfl rfl
theorem wse_X5_rowAt : Cond.selects RX5 yX5_rowAt yX5_rowAt ∈ ww := ww_p (yX5_rowAt, 32) (List.mem_of_getElem? (i := 22) rfl) rfl
theorem wc_X5_setRow : Cond.code yX5_setRow cX5_setRow 4 none ∈ ww := ww_4 69 rfl rfl
abbrev cw_X5_setRow : List Cond := Cond.code yX5_setRow cX5_setRow 4 none :: ww
theorem wi_X5_setRow : Cond.instanceMethod yX5_setRow ∈ ww := ww_4 68 rfl rfl
theorem wse_X5_setRow : Cond.selects RX5 yX5_setRow yX5_setRow ∈ ww := ww_p (yX5_setRow, 32) (List.mem_of_getElem? (i := 20) rfl) rfl
theorem wc_X5_row : Cond.code yX5_row cX5_row 4 (some .int) ∈ ww := ww_4 55 rfl rfl
abbrev cw_X5_row : List Cond := Cond.code yX5_row cX5_row 4 (some .int) :: ww
theorem wi_X5_row : Cond.instanceMethod yX5_row ∈ ww := ww_4 53 rfl rfl
theorem wse_X5_row : Cond.selects RX5 yX5_row yX5_row ∈ ww := ww_4 54 rfl rfl
theorem wc_X5_at : Cond.code yX5_at cX5_at 4 (some .int) ∈ ww := ww_4 73 rfl rfl
abbrev cw_X5_at : List Cond := Cond.code yX5_at cX5_at 4 (some .int) :: ww
theorem wi_X5_at : Cond.instanceMethod yX5_at ∈ ww := ww_4 71 rfl rfl
theorem wse_X5_at : Cond.selects RX5 yX5_at yX5_at ∈ ww := ww_4 72 rfl rfl
theorem wc_X5_lay : Cond.code yX5_lay cX5_lay 5 (some .int) ∈ ww := ww_4 89 rfl rfl
abbrev cw_X5_lay : List Cond := Cond.code yX5_lay cX5_lay 5 (some .int) :: ww
theorem wi_X5_lay : Cond.instanceMethod yX5_lay ∈ ww := ww_4 87 rfl rfl
theorem wse_X5_lay : Cond.selects RX5 yX5_lay yX5_lay ∈ ww := ww_4 88 rfl rfl
theorem wc_X5_tear : Cond.code yX5_tear cX5_tear 3 (some .int) ∈ ww := ww_4 94 rfl rfl
abbrev cw_X5_tear : List Cond := Cond.code yX5_tear cX5_tear 3 (some .int) :: ww
theorem wi_X5_tear : Cond.instanceMethod yX5_tear ∈ ww := ww_4 92 rfl rfl
theorem wse_X5_tear : Cond.selects RX5 yX5_tear yX5_tear ∈ ww := ww_4 93 rfl rfl
theorem wc_X5_copy : Cond.code yX5_copy cX5_copy 7 (some .int) ∈ ww := ww_4 98 rfl rfl
abbrev cw_X5_copy : List Cond := Cond.code yX5_copy cX5_copy 7 (some .int) :: ww
theorem wi_X5_copy : Cond.instanceMethod yX5_copy ∈ ww := ww_4 96 rfl rfl
theorem wse_X5_copy : Cond.selects RX5 yX5_copy yX5_copy ∈ ww := ww_4 97 rfl rfl
theorem wc_X5_mean : Cond.code yX5_mean cX5_mean 6 (some .int) ∈ ww := ww_4 102 rfl rfl
abbrev cw_X5_mean : List Cond := Cond.code yX5_mean cX5_mean 6 (some .int) :: ww
theorem wi_X5_mean : Cond.instanceMethod yX5_mean ∈ ww := ww_4 100 rfl rfl
theorem wse_X5_mean : Cond.selects RX5 yX5_mean yX5_mean ∈ ww := ww_4 101 rfl rfl
theorem wc_X5_text : Cond.code yX5_text cX5_text 4 (some .int) ∈ ww := ww_4 106 rfl rfl
abbrev cw_X5_text : List Cond := Cond.code yX5_text cX5_text 4 (some .int) :: ww
theorem wi_X5_text : Cond.instanceMethod yX5_text ∈ ww := ww_4 104 rfl rfl
theorem wse_X5_text : Cond.selects RX5 yX5_text yX5_text ∈ ww := ww_4 105 rfl rfl
theorem wc_X5_put : Cond.code yX5_put cX5_put 6 (some .int) ∈ ww := ww_4 113 rfl rfl
abbrev cw_X5_put : List Cond := Cond.code yX5_put cX5_put 6 (some .int) :: ww
theorem wi_X5_put : Cond.instanceMethod yX5_put ∈ ww := ww_4 111 rfl rfl
theorem wse_X5_put : Cond.selects RX5 yX5_put yX5_put ∈ ww := ww_4 112 rfl rfl
theorem wc_X5_here : Cond.code yX5_here cX5_here 2 (some .int) ∈ ww := ww_4 129 rfl rfl
abbrev cw_X5_here : List Cond := Cond.code yX5_here cX5_here 2 (some .int) :: ww
theorem wi_X5_here : Cond.instanceMethod yX5_here ∈ ww := ww_4 128 rfl rfl
theorem wse_X5_here : Cond.selects RX5 yX5_here yX5_here ∈ ww := ww_p (yX5_here, 32) (List.mem_of_getElem? (i := 26) rfl) rfl
theorem wc_X5_kindOf : Cond.code yX5_kindOf cX5_kindOf 1 (some .int) ∈ ww := ww_4 136 rfl rfl
abbrev cw_X5_kindOf : List Cond := Cond.code yX5_kindOf cX5_kindOf 1 (some .int) :: ww
theorem wi_X5_kindOf : Cond.static yX5_kindOf ∈ ww := ww_4 135 rfl rfl
theorem wc_X5_readsMate : Cond.code yX5_readsMate cX5_readsMate 4 (some .boolean) ∈ ww := ww_4 133 rfl rfl
abbrev cw_X5_readsMate : List Cond := Cond.code yX5_readsMate cX5_readsMate 4 (some .boolean) :: ww
theorem wi_X5_readsMate : Cond.instanceMethod yX5_readsMate ∈ ww := ww_4 132 rfl rfl
theorem wse_X5_readsMate : Cond.selects RX5 yX5_readsMate yX5_readsMate ∈ ww := ww_p (yX5_readsMate, 32) (List.mem_of_getElem? (i := 27) rfl) rfl
theorem wc_X5_goesOn : Cond.code yX5_goesOn cX5_goesOn 2 (some .int) ∈ ww := ww_4 125 rfl rfl
abbrev cw_X5_goesOn : List Cond := Cond.code yX5_goesOn cX5_goesOn 2 (some .int) :: ww
theorem wi_X5_goesOn : Cond.instanceMethod yX5_goesOn ∈ ww := ww_4 124 rfl rfl
theorem wse_X5_goesOn : Cond.selects RX5 yX5_goesOn yX5_goesOn ∈ ww := ww_p (yX5_goesOn, 32) (List.mem_of_getElem? (i := 25) rfl) rfl
theorem wc_X5_fault : Cond.code yX5_fault cX5_fault 3 (some .int) ∈ ww := ww_4 121 rfl rfl
abbrev cw_X5_fault : List Cond := Cond.code yX5_fault cX5_fault 3 (some .int) :: ww
theorem wi_X5_fault : Cond.instanceMethod yX5_fault ∈ ww := ww_4 119 rfl rfl
theorem wse_X5_fault : Cond.selects RX5 yX5_fault yX5_fault ∈ ww := ww_4 120 rfl rfl
theorem wc_X5_office : Cond.code yX5_office cX5_office 4 (some .int) ∈ ww := ww_4 140 rfl rfl
abbrev cw_X5_office : List Cond := Cond.code yX5_office cX5_office 4 (some .int) :: ww
theorem wi_X5_office : Cond.instanceMethod yX5_office ∈ ww := ww_4 138 rfl rfl
theorem wse_X5_office : Cond.selects RX5 yX5_office yX5_office ∈ ww := ww_4 139 rfl rfl
theorem wc_X5_isMate : Cond.code yX5_isMate cX5_isMate 2 (some .boolean) ∈ ww := ww_4 148 rfl rfl
abbrev cw_X5_isMate : List Cond := Cond.code yX5_isMate cX5_isMate 2 (some .boolean) :: ww
theorem wi_X5_isMate : Cond.instanceMethod yX5_isMate ∈ ww := ww_4 147 rfl rfl
theorem wse_X5_isMate : Cond.selects RX5 yX5_isMate yX5_isMate ∈ ww := ww_p (yX5_isMate, 32) (List.mem_of_getElem? (i := 28) rfl) rfl
theorem wc_X5_isSet : Cond.code yX5_isSet cX5_isSet 2 (some .boolean) ∈ ww := ww_5 98 rfl rfl
abbrev cw_X5_isSet : List Cond := Cond.code yX5_isSet cX5_isSet 2 (some .boolean) :: ww
theorem wi_X5_isSet : Cond.instanceMethod yX5_isSet ∈ ww := ww_5 97 rfl rfl
theorem wse_X5_isSet : Cond.selects RX5 yX5_isSet yX5_isSet ∈ ww := ww_p (yX5_isSet, 32) (List.mem_of_getElem? (i := 49) rfl) rfl
theorem wc_X5_isA : Cond.code yX5_isA cX5_isA 3 (some .boolean) ∈ ww := ww_4 164 rfl rfl
abbrev cw_X5_isA : List Cond := Cond.code yX5_isA cX5_isA 3 (some .boolean) :: ww
theorem wi_X5_isA : Cond.instanceMethod yX5_isA ∈ ww := ww_4 163 rfl rfl
theorem wse_X5_isA : Cond.selects RX5 yX5_isA yX5_isA ∈ ww := ww_p (yX5_isA, 32) (List.mem_of_getElem? (i := 31) rfl) rfl
theorem wc_X5_lastOf : Cond.code yX5_lastOf cX5_lastOf 2 (some .int) ∈ ww := ww_4 156 rfl rfl
abbrev cw_X5_lastOf : List Cond := Cond.code yX5_lastOf cX5_lastOf 2 (some .int) :: ww
theorem wi_X5_lastOf : Cond.instanceMethod yX5_lastOf ∈ ww := ww_4 155 rfl rfl
theorem wse_X5_lastOf : Cond.selects RX5 yX5_lastOf yX5_lastOf ∈ ww := ww_p (yX5_lastOf, 32) (List.mem_of_getElem? (i := 30) rfl) rfl
theorem wc_X5_mateOf : Cond.code yX5_mateOf cX5_mateOf 3 (some .int) ∈ ww := ww_4 152 rfl rfl
abbrev cw_X5_mateOf : List Cond := Cond.code yX5_mateOf cX5_mateOf 3 (some .int) :: ww
theorem wi_X5_mateOf : Cond.instanceMethod yX5_mateOf ∈ ww := ww_4 151 rfl rfl
theorem wse_X5_mateOf : Cond.selects RX5 yX5_mateOf yX5_mateOf ∈ ww := ww_p (yX5_mateOf, 32) (List.mem_of_getElem? (i := 29) rfl) rfl
theorem wc_X5_mate : Cond.code yX5_mate cX5_mate 3 (some .int) ∈ ww := ww_4 144 rfl rfl
abbrev cw_X5_mate : List Cond := Cond.code yX5_mate cX5_mate 3 (some .int) :: ww
theorem wi_X5_mate : Cond.instanceMethod yX5_mate ∈ ww := ww_4 142 rfl rfl
theorem wse_X5_mate : Cond.selects RX5 yX5_mate yX5_mate ∈ ww := ww_4 143 rfl rfl
theorem wc_X5_barOf : Cond.code yX5_barOf cX5_barOf 4 (some .int) ∈ ww := ww_4 168 rfl rfl
abbrev cw_X5_barOf : List Cond := Cond.code yX5_barOf cX5_barOf 4 (some .int) :: ww
theorem wi_X5_barOf : Cond.instanceMethod yX5_barOf ∈ ww := ww_4 167 rfl rfl
theorem wse_X5_barOf : Cond.selects RX5 yX5_barOf yX5_barOf ∈ ww := ww_p (yX5_barOf, 32) (List.mem_of_getElem? (i := 32) rfl) rfl
theorem wc_X5_mayOf : Cond.code yX5_mayOf cX5_mayOf 4 (some .int) ∈ ww := ww_4 175 rfl rfl
abbrev cw_X5_mayOf : List Cond := Cond.code yX5_mayOf cX5_mayOf 4 (some .int) :: ww
theorem wi_X5_mayOf : Cond.instanceMethod yX5_mayOf ∈ ww := ww_4 174 rfl rfl
theorem wse_X5_mayOf : Cond.selects RX5 yX5_mayOf yX5_mayOf ∈ ww := ww_p (yX5_mayOf, 32) (List.mem_of_getElem? (i := 33) rfl) rfl
theorem wc_X5_mark : Cond.code yX5_mark cX5_mark 6 (some .int) ∈ ww := ww_4 160 rfl rfl
abbrev cw_X5_mark : List Cond := Cond.code yX5_mark cX5_mark 6 (some .int) :: ww
theorem wi_X5_mark : Cond.instanceMethod yX5_mark ∈ ww := ww_4 158 rfl rfl
theorem wse_X5_mark : Cond.selects RX5 yX5_mark yX5_mark ∈ ww := ww_4 159 rfl rfl
theorem wc_X5_rules : Cond.code yX5_rules cX5_rules 3 (some .int) ∈ ww := ww_4 182 rfl rfl
abbrev cw_X5_rules : List Cond := Cond.code yX5_rules cX5_rules 3 (some .int) :: ww
theorem wi_X5_rules : Cond.instanceMethod yX5_rules ∈ ww := ww_4 180 rfl rfl
theorem wse_X5_rules : Cond.selects RX5 yX5_rules yX5_rules ∈ ww := ww_4 181 rfl rfl
theorem wc_X5_move : Cond.code yX5_move cX5_move 4 (some .int) ∈ ww := ww_4 186 rfl rfl
abbrev cw_X5_move : List Cond := Cond.code yX5_move cX5_move 4 (some .int) :: ww
theorem wi_X5_move : Cond.instanceMethod yX5_move ∈ ww := ww_4 184 rfl rfl
theorem wse_X5_move : Cond.selects RX5 yX5_move yX5_move ∈ ww := ww_4 185 rfl rfl
theorem wc_X5_may : Cond.code yX5_may cX5_may 2 (some .int) ∈ ww := ww_4 190 rfl rfl
abbrev cw_X5_may : List Cond := Cond.code yX5_may cX5_may 2 (some .int) :: ww
theorem wi_X5_may : Cond.instanceMethod yX5_may ∈ ww := ww_4 188 rfl rfl
theorem wse_X5_may : Cond.selects RX5 yX5_may yX5_may ∈ ww := ww_4 189 rfl rfl
theorem wc_X5_askedDrawing : Cond.code yX5_askedDrawing cX5_askedDrawing 6 (some .int) ∈ ww := ww_4 198 rfl rfl
abbrev cw_X5_askedDrawing : List Cond := Cond.code yX5_askedDrawing cX5_askedDrawing 6 (some .int) :: ww
theorem wi_X5_askedDrawing : Cond.instanceMethod yX5_askedDrawing ∈ ww := ww_4 197 rfl rfl
theorem wse_X5_askedDrawing : Cond.selects RX5 yX5_askedDrawing yX5_askedDrawing ∈ ww := ww_p (yX5_askedDrawing, 32) (List.mem_of_getElem? (i := 34) rfl) rfl
theorem wc_X5_isBack : Cond.code yX5_isBack cX5_isBack 3 (some .boolean) ∈ ww := ww_4 206 rfl rfl
abbrev cw_X5_isBack : List Cond := Cond.code yX5_isBack cX5_isBack 3 (some .boolean) :: ww
theorem wi_X5_isBack : Cond.instanceMethod yX5_isBack ∈ ww := ww_4 205 rfl rfl
theorem wse_X5_isBack : Cond.selects RX5 yX5_isBack yX5_isBack ∈ ww := ww_p (yX5_isBack, 32) (List.mem_of_getElem? (i := 36) rfl) rfl
theorem wc_X5_ringOf : Cond.code yX5_ringOf cX5_ringOf 4 (some .int) ∈ ww := ww_5 134 rfl rfl
abbrev cw_X5_ringOf : List Cond := Cond.code yX5_ringOf cX5_ringOf 4 (some .int) :: ww
theorem wi_X5_ringOf : Cond.instanceMethod yX5_ringOf ∈ ww := ww_5 133 rfl rfl
theorem wse_X5_ringOf : Cond.selects RX5 yX5_ringOf yX5_ringOf ∈ ww := ww_p (yX5_ringOf, 32) (List.mem_of_getElem? (i := 52) rfl) rfl
theorem wc_X5_ringsOf : Cond.code yX5_ringsOf cX5_ringsOf 5 (some .int) ∈ ww := ww_4 210 rfl rfl
abbrev cw_X5_ringsOf : List Cond := Cond.code yX5_ringsOf cX5_ringsOf 5 (some .int) :: ww
theorem wi_X5_ringsOf : Cond.instanceMethod yX5_ringsOf ∈ ww := ww_4 209 rfl rfl
theorem wse_X5_ringsOf : Cond.selects RX5 yX5_ringsOf yX5_ringsOf ∈ ww := ww_p (yX5_ringsOf, 32) (List.mem_of_getElem? (i := 37) rfl) rfl
theorem wc_X5_badBy : Cond.code yX5_badBy cX5_badBy 3 (some .int) ∈ ww := ww_4 202 rfl rfl
abbrev cw_X5_badBy : List Cond := Cond.code yX5_badBy cX5_badBy 3 (some .int) :: ww
theorem wi_X5_badBy : Cond.instanceMethod yX5_badBy ∈ ww := ww_4 201 rfl rfl
theorem wse_X5_badBy : Cond.selects RX5 yX5_badBy yX5_badBy ∈ ww := ww_p (yX5_badBy, 32) (List.mem_of_getElem? (i := 35) rfl) rfl
theorem wc_X5_judge : Cond.code yX5_judge cX5_judge 4 (some .int) ∈ ww := ww_4 194 rfl rfl
abbrev cw_X5_judge : List Cond := Cond.code yX5_judge cX5_judge 4 (some .int) :: ww
theorem wi_X5_judge : Cond.instanceMethod yX5_judge ∈ ww := ww_4 192 rfl rfl
theorem wse_X5_judge : Cond.selects RX5 yX5_judge yX5_judge ∈ ww := ww_4 193 rfl rfl
theorem wc_X5_rightOn : Cond.code yX5_rightOn cX5_rightOn 3 none ∈ ww := ww_4 222 rfl rfl
abbrev cw_X5_rightOn : List Cond := Cond.code yX5_rightOn cX5_rightOn 3 none :: ww
theorem wi_X5_rightOn : Cond.instanceMethod yX5_rightOn ∈ ww := ww_4 221 rfl rfl
theorem wse_X5_rightOn : Cond.selects RX5 yX5_rightOn yX5_rightOn ∈ ww := ww_p (yX5_rightOn, 32) (List.mem_of_getElem? (i := 39) rfl) rfl
theorem wc_X5_setRights : Cond.code yX5_setRights cX5_setRights 1 none ∈ ww := ww_4 218 rfl rfl
abbrev cw_X5_setRights : List Cond := Cond.code yX5_setRights cX5_setRights 1 none :: ww
theorem wi_X5_setRights : Cond.instanceMethod yX5_setRights ∈ ww := ww_4 217 rfl rfl
theorem wse_X5_setRights : Cond.selects RX5 yX5_setRights yX5_setRights ∈ ww := ww_p (yX5_setRights, 32) (List.mem_of_getElem? (i := 38) rfl) rfl
theorem wc_X5_right : Cond.code yX5_right cX5_right 3 (some .int) ∈ ww := ww_4 235 rfl rfl
abbrev cw_X5_right : List Cond := Cond.code yX5_right cX5_right 3 (some .int) :: ww
theorem wi_X5_right : Cond.instanceMethod yX5_right ∈ ww := ww_4 234 rfl rfl
theorem wse_X5_right : Cond.selects RX5 yX5_right yX5_right ∈ ww := ww_p (yX5_right, 32) (List.mem_of_getElem? (i := 41) rfl) rfl
theorem wc_X5_ways : Cond.code yX5_ways cX5_ways 1 (some .int) ∈ ww := ww_4 214 rfl rfl
abbrev cw_X5_ways : List Cond := Cond.code yX5_ways cX5_ways 1 (some .int) :: ww
theorem wi_X5_ways : Cond.instanceMethod yX5_ways ∈ ww := ww_4 212 rfl rfl
theorem wse_X5_ways : Cond.selects RX5 yX5_ways yX5_ways ∈ ww := ww_4 213 rfl rfl
theorem wc_X5_layRight : Cond.code yX5_layRight cX5_layRight 4 none ∈ ww := ww_4 230 rfl rfl
abbrev cw_X5_layRight : List Cond := Cond.code yX5_layRight cX5_layRight 4 none :: ww
theorem wi_X5_layRight : Cond.instanceMethod yX5_layRight ∈ ww := ww_4 229 rfl rfl
theorem wse_X5_layRight : Cond.selects RX5 yX5_layRight yX5_layRight ∈ ww := ww_p (yX5_layRight, 32) (List.mem_of_getElem? (i := 40) rfl) rfl
theorem wc_X5_nth : Cond.code yX5_nth cX5_nth 3 (some .int) ∈ ww := ww_4 226 rfl rfl
abbrev cw_X5_nth : List Cond := Cond.code yX5_nth cX5_nth 3 (some .int) :: ww
theorem wi_X5_nth : Cond.instanceMethod yX5_nth ∈ ww := ww_4 224 rfl rfl
theorem wse_X5_nth : Cond.selects RX5 yX5_nth yX5_nth ∈ ww := ww_4 225 rfl rfl
theorem wc_X5_numberOf : Cond.code yX5_numberOf cX5_numberOf 5 (some .int) ∈ ww := ww_5 3 rfl rfl
abbrev cw_X5_numberOf : List Cond := Cond.code yX5_numberOf cX5_numberOf 5 (some .int) :: ww
theorem wi_X5_numberOf : Cond.instanceMethod yX5_numberOf ∈ ww := ww_5 2 rfl rfl
theorem wse_X5_numberOf : Cond.selects RX5 yX5_numberOf yX5_numberOf ∈ ww := ww_p (yX5_numberOf, 32) (List.mem_of_getElem? (i := 42) rfl) rfl
theorem wc_X5_number : Cond.code yX5_number cX5_number 3 (some .int) ∈ ww := ww_4 239 rfl rfl
abbrev cw_X5_number : List Cond := Cond.code yX5_number cX5_number 3 (some .int) :: ww
theorem wi_X5_number : Cond.instanceMethod yX5_number ∈ ww := ww_4 237 rfl rfl
theorem wse_X5_number : Cond.selects RX5 yX5_number yX5_number ∈ ww := ww_4 238 rfl rfl
theorem wc_X5_isSeed : Cond.code yX5_isSeed cX5_isSeed 1 (some .boolean) ∈ ww := ww_5 10 rfl rfl
abbrev cw_X5_isSeed : List Cond := Cond.code yX5_isSeed cX5_isSeed 1 (some .boolean) :: ww
theorem wi_X5_isSeed : Cond.static yX5_isSeed ∈ ww := ww_5 9 rfl rfl
theorem wc_X5_lot : Cond.code yX5_lot cX5_lot 4 (some .int) ∈ ww := ww_5 7 rfl rfl
abbrev cw_X5_lot : List Cond := Cond.code yX5_lot cX5_lot 4 (some .int) :: ww
theorem wi_X5_lot : Cond.instanceMethod yX5_lot ∈ ww := ww_5 5 rfl rfl
theorem wse_X5_lot : Cond.selects RX5 yX5_lot yX5_lot ∈ ww := ww_5 6 rfl rfl
theorem wc_X5_draw : Cond.code yX5_draw cX5_draw 3 (some .int) ∈ ww := ww_5 17 rfl rfl
abbrev cw_X5_draw : List Cond := Cond.code yX5_draw cX5_draw 3 (some .int) :: ww
theorem wi_X5_draw : Cond.instanceMethod yX5_draw ∈ ww := ww_5 15 rfl rfl
theorem wse_X5_draw : Cond.selects RX5 yX5_draw yX5_draw ∈ ww := ww_5 16 rfl rfl
theorem wc_X5_undo : Cond.code yX5_undo cX5_undo 3 (some .int) ∈ ww := ww_5 21 rfl rfl
abbrev cw_X5_undo : List Cond := Cond.code yX5_undo cX5_undo 3 (some .int) :: ww
theorem wi_X5_undo : Cond.instanceMethod yX5_undo ∈ ww := ww_5 19 rfl rfl
theorem wse_X5_undo : Cond.selects RX5 yX5_undo yX5_undo ∈ ww := ww_5 20 rfl rfl
theorem wc_X5_drew : Cond.code yX5_drew cX5_drew 2 (some .int) ∈ ww := ww_5 25 rfl rfl
abbrev cw_X5_drew : List Cond := Cond.code yX5_drew cX5_drew 2 (some .int) :: ww
theorem wi_X5_drew : Cond.instanceMethod yX5_drew ∈ ww := ww_5 23 rfl rfl
theorem wse_X5_drew : Cond.selects RX5 yX5_drew yX5_drew ∈ ww := ww_5 24 rfl rfl
theorem wc_X5_begins : Cond.code yX5_begins cX5_begins 5 (some .boolean) ∈ ww := ww_5 37 rfl rfl
abbrev cw_X5_begins : List Cond := Cond.code yX5_begins cX5_begins 5 (some .boolean) :: ww
theorem wi_X5_begins : Cond.instanceMethod yX5_begins ∈ ww := ww_5 36 rfl rfl
theorem wse_X5_begins : Cond.selects RX5 yX5_begins yX5_begins ∈ ww := ww_p (yX5_begins, 32) (List.mem_of_getElem? (i := 44) rfl) rfl
theorem wc_X5_cans : Cond.code yX5_cans cX5_cans 4 (some .int) ∈ ww := ww_5 33 rfl rfl
abbrev cw_X5_cans : List Cond := Cond.code yX5_cans cX5_cans 4 (some .int) :: ww
theorem wi_X5_cans : Cond.instanceMethod yX5_cans ∈ ww := ww_5 32 rfl rfl
theorem wse_X5_cans : Cond.selects RX5 yX5_cans yX5_cans ∈ ww := ww_p (yX5_cans, 32) (List.mem_of_getElem? (i := 43) rfl) rfl
theorem wc_X5_can : Cond.code yX5_can cX5_can 2 (some .int) ∈ ww := ww_5 29 rfl rfl
abbrev cw_X5_can : List Cond := Cond.code yX5_can cX5_can 2 (some .int) :: ww
theorem wi_X5_can : Cond.instanceMethod yX5_can ∈ ww := ww_5 27 rfl rfl
theorem wse_X5_can : Cond.selects RX5 yX5_can yX5_can ∈ ww := ww_5 28 rfl rfl
theorem wc_X5_turnOn : Cond.code yX5_turnOn cX5_turnOn 8 none ∈ ww := ww_5 46 rfl rfl
abbrev cw_X5_turnOn : List Cond := Cond.code yX5_turnOn cX5_turnOn 8 none :: ww
theorem wi_X5_turnOn : Cond.instanceMethod yX5_turnOn ∈ ww := ww_5 45 rfl rfl
theorem wse_X5_turnOn : Cond.selects RX5 yX5_turnOn yX5_turnOn ∈ ww := ww_p (yX5_turnOn, 32) (List.mem_of_getElem? (i := 45) rfl) rfl
theorem wc_X5_turns : Cond.code yX5_turns cX5_turns 6 (some .int) ∈ ww := ww_5 41 rfl rfl
abbrev cw_X5_turns : List Cond := Cond.code yX5_turns cX5_turns 6 (some .int) :: ww
theorem wi_X5_turns : Cond.instanceMethod yX5_turns ∈ ww := ww_5 39 rfl rfl
theorem wse_X5_turns : Cond.selects RX5 yX5_turns yX5_turns ∈ ww := ww_5 40 rfl rfl
theorem wc_X5_alike : Cond.code yX5_alike cX5_alike 7 (some .int) ∈ ww := ww_5 54 rfl rfl
abbrev cw_X5_alike : List Cond := Cond.code yX5_alike cX5_alike 7 (some .int) :: ww
theorem wi_X5_alike : Cond.instanceMethod yX5_alike ∈ ww := ww_5 52 rfl rfl
theorem wse_X5_alike : Cond.selects RX5 yX5_alike yX5_alike ∈ ww := ww_5 53 rfl rfl
theorem wc_X5_play : Cond.code yX5_play cX5_play 7 (some .int) ∈ ww := ww_5 58 rfl rfl
abbrev cw_X5_play : List Cond := Cond.code yX5_play cX5_play 7 (some .int) :: ww
theorem wi_X5_play : Cond.instanceMethod yX5_play ∈ ww := ww_5 56 rfl rfl
theorem wse_X5_play : Cond.selects RX5 yX5_play yX5_play ∈ ww := ww_5 57 rfl rfl
theorem wc_X5_keep : Cond.code yX5_keep cX5_keep 3 (some .int) ∈ ww := ww_5 62 rfl rfl
abbrev cw_X5_keep : List Cond := Cond.code yX5_keep cX5_keep 3 (some .int) :: ww
theorem wi_X5_keep : Cond.instanceMethod yX5_keep ∈ ww := ww_5 60 rfl rfl
theorem wse_X5_keep : Cond.selects RX5 yX5_keep yX5_keep ∈ ww := ww_5 61 rfl rfl
theorem wc_X5_on : Cond.code yX5_on cX5_on 3 (some .int) ∈ ww := ww_5 66 rfl rfl
abbrev cw_X5_on : List Cond := Cond.code yX5_on cX5_on 3 (some .int) :: ww
theorem wi_X5_on : Cond.instanceMethod yX5_on ∈ ww := ww_5 64 rfl rfl
theorem wse_X5_on : Cond.selects RX5 yX5_on yX5_on ∈ ww := ww_5 65 rfl rfl
theorem wc_X5_year : Cond.code yX5_year cX5_year 4 (some .int) ∈ ww := ww_5 70 rfl rfl
abbrev cw_X5_year : List Cond := Cond.code yX5_year cX5_year 4 (some .int) :: ww
theorem wi_X5_year : Cond.instanceMethod yX5_year ∈ ww := ww_5 68 rfl rfl
theorem wse_X5_year : Cond.selects RX5 yX5_year yX5_year ∈ ww := ww_5 69 rfl rfl
theorem wc_X5_forget : Cond.code yX5_forget cX5_forget 3 (some .int) ∈ ww := ww_5 74 rfl rfl
abbrev cw_X5_forget : List Cond := Cond.code yX5_forget cX5_forget 3 (some .int) :: ww
theorem wi_X5_forget : Cond.instanceMethod yX5_forget ∈ ww := ww_5 72 rfl rfl
theorem wse_X5_forget : Cond.selects RX5 yX5_forget yX5_forget ∈ ww := ww_5 73 rfl rfl
theorem wc_X5_isYear : Cond.code yX5_isYear cX5_isYear 5 (some .boolean) ∈ ww := ww_5 82 rfl rfl
abbrev cw_X5_isYear : List Cond := Cond.code yX5_isYear cX5_isYear 5 (some .boolean) :: ww
theorem wi_X5_isYear : Cond.instanceMethod yX5_isYear ∈ ww := ww_5 81 rfl rfl
theorem wse_X5_isYear : Cond.selects RX5 yX5_isYear yX5_isYear ∈ ww := ww_p (yX5_isYear, 32) (List.mem_of_getElem? (i := 47) rfl) rfl
theorem wc_X5_run : Cond.code yX5_run cX5_run 5 (some .int) ∈ ww := ww_5 78 rfl rfl
abbrev cw_X5_run : List Cond := Cond.code yX5_run cX5_run 5 (some .int) :: ww
theorem wi_X5_run : Cond.instanceMethod yX5_run ∈ ww := ww_5 76 rfl rfl
theorem wse_X5_run : Cond.selects RX5 yX5_run yX5_run ∈ ww := ww_5 77 rfl rfl
theorem wc_X5_times : Cond.code yX5_times cX5_times 5 (some .int) ∈ ww := ww_5 86 rfl rfl
abbrev cw_X5_times : List Cond := Cond.code yX5_times cX5_times 5 (some .int) :: ww
theorem wi_X5_times : Cond.instanceMethod yX5_times ∈ ww := ww_5 84 rfl rfl
theorem wse_X5_times : Cond.selects RX5 yX5_times yX5_times ∈ ww := ww_5 85 rfl rfl
theorem wc_X5_askedRight : Cond.code yX5_askedRight cX5_askedRight 3 (some .int) ∈ ww := ww_5 102 rfl rfl
abbrev cw_X5_askedRight : List Cond := Cond.code yX5_askedRight cX5_askedRight 3 (some .int) :: ww
theorem wi_X5_askedRight : Cond.instanceMethod yX5_askedRight ∈ ww := ww_5 101 rfl rfl
theorem wse_X5_askedRight : Cond.selects RX5 yX5_askedRight yX5_askedRight ∈ ww := ww_p (yX5_askedRight, 32) (List.mem_of_getElem? (i := 50) rfl) rfl
theorem wc_X5_knownOf : Cond.code yX5_knownOf cX5_knownOf 9 (some .int) ∈ ww := ww_5 106 rfl rfl
abbrev cw_X5_knownOf : List Cond := Cond.code yX5_knownOf cX5_knownOf 9 (some .int) :: ww
theorem wi_X5_knownOf : Cond.instanceMethod yX5_knownOf ∈ ww := ww_5 105 rfl rfl
theorem wse_X5_knownOf : Cond.selects RX5 yX5_knownOf yX5_knownOf ∈ ww := ww_p (yX5_knownOf, 32) (List.mem_of_getElem? (i := 51) rfl) rfl
theorem wc_X5_askedTelling : Cond.code yX5_askedTelling cX5_askedTelling 3 (some .int) ∈ ww := ww_5 94 rfl rfl
abbrev cw_X5_askedTelling : List Cond := Cond.code yX5_askedTelling cX5_askedTelling 3 (some .int) :: ww
theorem wi_X5_askedTelling : Cond.instanceMethod yX5_askedTelling ∈ ww := ww_5 93 rfl rfl
theorem wse_X5_askedTelling : Cond.selects RX5 yX5_askedTelling yX5_askedTelling ∈ ww := ww_p (yX5_askedTelling, 32) (List.mem_of_getElem? (i := 48) rfl) rfl
theorem wc_X5_fits : Cond.code yX5_fits cX5_fits 4 (some .int) ∈ ww := ww_5 90 rfl rfl
abbrev cw_X5_fits : List Cond := Cond.code yX5_fits cX5_fits 4 (some .int) :: ww
theorem wi_X5_fits : Cond.instanceMethod yX5_fits ∈ ww := ww_5 88 rfl rfl
theorem wse_X5_fits : Cond.selects RX5 yX5_fits yX5_fits ∈ ww := ww_5 89 rfl rfl
theorem wc_X5_known : Cond.code yX5_known cX5_known 4 (some .int) ∈ ww := ww_5 110 rfl rfl
abbrev cw_X5_known : List Cond := Cond.code yX5_known cX5_known 4 (some .int) :: ww
theorem wi_X5_known : Cond.instanceMethod yX5_known ∈ ww := ww_5 108 rfl rfl
theorem wse_X5_known : Cond.selects RX5 yX5_known yX5_known ∈ ww := ww_5 109 rfl rfl
theorem wc_X5_still : Cond.code yX5_still cX5_still 7 (some .int) ∈ ww := ww_5 114 rfl rfl
abbrev cw_X5_still : List Cond := Cond.code yX5_still cX5_still 7 (some .int) :: ww
theorem wi_X5_still : Cond.instanceMethod yX5_still ∈ ww := ww_5 112 rfl rfl
theorem wse_X5_still : Cond.selects RX5 yX5_still yX5_still ∈ ww := ww_5 113 rfl rfl
theorem wc_X5_fewest : Cond.code yX5_fewest cX5_fewest 5 (some .int) ∈ ww := ww_5 118 rfl rfl
abbrev cw_X5_fewest : List Cond := Cond.code yX5_fewest cX5_fewest 5 (some .int) :: ww
theorem wi_X5_fewest : Cond.instanceMethod yX5_fewest ∈ ww := ww_5 116 rfl rfl
theorem wse_X5_fewest : Cond.selects RX5 yX5_fewest yX5_fewest ∈ ww := ww_5 117 rfl rfl
theorem wc_X5_drop : Cond.code yX5_drop cX5_drop 4 (some .int) ∈ ww := ww_5 122 rfl rfl
abbrev cw_X5_drop : List Cond := Cond.code yX5_drop cX5_drop 4 (some .int) :: ww
theorem wi_X5_drop : Cond.instanceMethod yX5_drop ∈ ww := ww_5 120 rfl rfl
theorem wse_X5_drop : Cond.selects RX5 yX5_drop yX5_drop ∈ ww := ww_5 121 rfl rfl
theorem wc_X5_table : Cond.code yX5_table cX5_table 6 (some .int) ∈ ww := ww_5 126 rfl rfl
abbrev cw_X5_table : List Cond := Cond.code yX5_table cX5_table 6 (some .int) :: ww
theorem wi_X5_table : Cond.instanceMethod yX5_table ∈ ww := ww_5 124 rfl rfl
theorem wse_X5_table : Cond.selects RX5 yX5_table yX5_table ∈ ww := ww_5 125 rfl rfl
theorem wc_X5_rings : Cond.code yX5_rings cX5_rings 3 (some .int) ∈ ww := ww_5 130 rfl rfl
abbrev cw_X5_rings : List Cond := Cond.code yX5_rings cX5_rings 3 (some .int) :: ww
theorem wi_X5_rings : Cond.instanceMethod yX5_rings ∈ ww := ww_5 128 rfl rfl
theorem wse_X5_rings : Cond.selects RX5 yX5_rings yX5_rings ∈ ww := ww_5 129 rfl rfl
theorem wc_X5_lookAt : Cond.code yX5_lookAt cX5_lookAt 3 none ∈ ww := ww_5 142 rfl rfl
abbrev cw_X5_lookAt : List Cond := Cond.code yX5_lookAt cX5_lookAt 3 none :: ww
theorem wi_X5_lookAt : Cond.instanceMethod yX5_lookAt ∈ ww := ww_5 141 rfl rfl
theorem wse_X5_lookAt : Cond.selects RX5 yX5_lookAt yX5_lookAt ∈ ww := ww_p (yX5_lookAt, 32) (List.mem_of_getElem? (i := 53) rfl) rfl
theorem wc_X5_ringed : Cond.code yX5_ringed cX5_ringed 4 (some .int) ∈ ww := ww_5 138 rfl rfl
abbrev cw_X5_ringed : List Cond := Cond.code yX5_ringed cX5_ringed 4 (some .int) :: ww
theorem wi_X5_ringed : Cond.instanceMethod yX5_ringed ∈ ww := ww_5 136 rfl rfl
theorem wse_X5_ringed : Cond.selects RX5 yX5_ringed yX5_ringed ∈ ww := ww_5 137 rfl rfl
theorem wc_X5_even : Cond.code yX5_even cX5_even 8 (some .int) ∈ ww := ww_5 146 rfl rfl
abbrev cw_X5_even : List Cond := Cond.code yX5_even cX5_even 8 (some .int) :: ww
theorem wi_X5_even : Cond.instanceMethod yX5_even ∈ ww := ww_5 144 rfl rfl
theorem wse_X5_even : Cond.selects RX5 yX5_even yX5_even ∈ ww := ww_5 145 rfl rfl
theorem wc_X5_gain : Cond.code yX5_gain cX5_gain 5 (some .int) ∈ ww := ww_5 150 rfl rfl
abbrev cw_X5_gain : List Cond := Cond.code yX5_gain cX5_gain 5 (some .int) :: ww
theorem wi_X5_gain : Cond.instanceMethod yX5_gain ∈ ww := ww_5 148 rfl rfl
theorem wse_X5_gain : Cond.selects RX5 yX5_gain yX5_gain ∈ ww := ww_5 149 rfl rfl
theorem wc_X5_asked : Cond.code yX5_asked cX5_asked 1 (some .int) ∈ ww := ww_5 154 rfl rfl
abbrev cw_X5_asked : List Cond := Cond.code yX5_asked cX5_asked 1 (some .int) :: ww
theorem wi_X5_asked : Cond.instanceMethod yX5_asked ∈ ww := ww_5 152 rfl rfl
theorem wse_X5_asked : Cond.selects RX5 yX5_asked yX5_asked ∈ ww := ww_5 153 rfl rfl
theorem wc_X5_upper : Cond.code yX5_upper cX5_upper 1 (some .long) ∈ ww := ww_5 158 rfl rfl
abbrev cw_X5_upper : List Cond := Cond.code yX5_upper cX5_upper 1 (some .long) :: ww
theorem wi_X5_upper : Cond.instanceMethod yX5_upper ∈ ww := ww_5 156 rfl rfl
theorem wse_X5_upper : Cond.selects RX5 yX5_upper yX5_upper ∈ ww := ww_5 157 rfl rfl
theorem wc_X5_lower : Cond.code yX5_lower cX5_lower 1 (some .long) ∈ ww := ww_5 162 rfl rfl
abbrev cw_X5_lower : List Cond := Cond.code yX5_lower cX5_lower 1 (some .long) :: ww
theorem wi_X5_lower : Cond.instanceMethod yX5_lower ∈ ww := ww_5 160 rfl rfl
theorem wse_X5_lower : Cond.selects RX5 yX5_lower yX5_lower ∈ ww := ww_5 161 rfl rfl
theorem wc_X5_tells : Cond.code yX5_tells cX5_tells 4 (some .int) ∈ ww := ww_5 170 rfl rfl
abbrev cw_X5_tells : List Cond := Cond.code yX5_tells cX5_tells 4 (some .int) :: ww
theorem wi_X5_tells : Cond.instanceMethod yX5_tells ∈ ww := ww_5 169 rfl rfl
theorem wse_X5_tells : Cond.selects RX5 yX5_tells yX5_tells ∈ ww := ww_p (yX5_tells, 32) (List.mem_of_getElem? (i := 54) rfl) rfl
theorem wc_X5_count : Cond.code yX5_count cX5_count 2 (some .int) ∈ ww := ww_5 166 rfl rfl
abbrev cw_X5_count : List Cond := Cond.code yX5_count cX5_count 2 (some .int) :: ww
theorem wi_X5_count : Cond.instanceMethod yX5_count ∈ ww := ww_5 164 rfl rfl
theorem wse_X5_count : Cond.selects RX5 yX5_count yX5_count ∈ ww := ww_5 165 rfl rfl
theorem wc_X5_finding : Cond.code yX5_finding cX5_finding 1 (some .int) ∈ ww := ww_5 174 rfl rfl
abbrev cw_X5_finding : List Cond := Cond.code yX5_finding cX5_finding 1 (some .int) :: ww
theorem wi_X5_finding : Cond.instanceMethod yX5_finding ∈ ww := ww_5 172 rfl rfl
theorem wse_X5_finding : Cond.selects RX5 yX5_finding yX5_finding ∈ ww := ww_5 173 rfl rfl
theorem wc_X5_findings : Cond.code yX5_findings cX5_findings 2 (some .int) ∈ ww := ww_5 178 rfl rfl
abbrev cw_X5_findings : List Cond := Cond.code yX5_findings cX5_findings 2 (some .int) :: ww
theorem wi_X5_findings : Cond.instanceMethod yX5_findings ∈ ww := ww_5 176 rfl rfl
theorem wse_X5_findings : Cond.selects RX5 yX5_findings yX5_findings ∈ ww := ww_5 177 rfl rfl
theorem wc_X5_mix : Cond.code yX5_mix cX5_mix 2 none ∈ ww := ww_5 187 rfl rfl
abbrev cw_X5_mix : List Cond := Cond.code yX5_mix cX5_mix 2 none :: ww
theorem wi_X5_mix : Cond.instanceMethod yX5_mix ∈ ww := ww_5 186 rfl rfl
theorem wse_X5_mix : Cond.selects RX5 yX5_mix yX5_mix ∈ ww := ww_p (yX5_mix, 32) (List.mem_of_getElem? (i := 55) rfl) rfl
theorem wc_X5_mixOffice : Cond.code yX5_mixOffice cX5_mixOffice 3 none ∈ ww := ww_5 192 rfl rfl
abbrev cw_X5_mixOffice : List Cond := Cond.code yX5_mixOffice cX5_mixOffice 3 none :: ww
theorem wi_X5_mixOffice : Cond.instanceMethod yX5_mixOffice ∈ ww := ww_5 191 rfl rfl
theorem wse_X5_mixOffice : Cond.selects RX5 yX5_mixOffice yX5_mixOffice ∈ ww := ww_p (yX5_mixOffice, 32) (List.mem_of_getElem? (i := 56) rfl) rfl
theorem wc_X5_digest : Cond.code yX5_digest cX5_digest 3 (some .long) ∈ ww := ww_5 182 rfl rfl
abbrev cw_X5_digest : List Cond := Cond.code yX5_digest cX5_digest 3 (some .long) :: ww
theorem wi_X5_digest : Cond.instanceMethod yX5_digest ∈ ww := ww_5 180 rfl rfl
theorem wse_X5_digest : Cond.selects RX5 yX5_digest yX5_digest ∈ ww := ww_5 181 rfl rfl
theorem wc_J6_bitCount_0f7a4 : Cond.code yJ6_bitCount_0f7a4 cJ6_bitCount_0f7a4 1 (some .int) ∈ ww := ww_2 87 rfl rfl
abbrev cw_J6_bitCount_0f7a4 : List Cond := Cond.code yJ6_bitCount_0f7a4 cJ6_bitCount_0f7a4 1 (some .int) :: ww
theorem wi_J6_bitCount_0f7a4 : Cond.static yJ6_bitCount_0f7a4 ∈ ww := ww_2 86 rfl rfl
theorem wc_J9_abs_0f7a4 : Cond.code yJ9_abs_0f7a4 cJ9_abs_0f7a4 1 (some .int) ∈ ww := ww_3 132 rfl rfl
abbrev cw_J9_abs_0f7a4 : List Cond := Cond.code yJ9_abs_0f7a4 cJ9_abs_0f7a4 1 (some .int) :: ww
theorem wi_J9_abs_0f7a4 : Cond.static yJ9_abs_0f7a4 ∈ ww := ww_3 131 rfl rfl
theorem wc_J9_max_7cf53 : Cond.code yJ9_max_7cf53 cJ9_max_7cf53 2 (some .int) ∈ ww := ww_3 7 rfl rfl
abbrev cw_J9_max_7cf53 : List Cond := Cond.code yJ9_max_7cf53 cJ9_max_7cf53 2 (some .int) :: ww
theorem wi_J9_max_7cf53 : Cond.static yJ9_max_7cf53 ∈ ww := ww_3 6 rfl rfl
theorem wc_J9_min_7cf53 : Cond.code yJ9_min_7cf53 cJ9_min_7cf53 2 (some .int) ∈ ww := ww_2 148 rfl rfl
abbrev cw_J9_min_7cf53 : List Cond := Cond.code yJ9_min_7cf53 cJ9_min_7cf53 2 (some .int) :: ww
theorem wi_J9_min_7cf53 : Cond.static yJ9_min_7cf53 ∈ ww := ww_2 147 rfl rfl
theorem wc_J7_fill_53178 : Cond.code yJ7_fill_53178 cJ7_fill_53178 4 none ∈ ww := ww_1 29 rfl rfl
abbrev cw_J7_fill_53178 : List Cond := Cond.code yJ7_fill_53178 cJ7_fill_53178 4 none :: ww
theorem wi_J7_fill_53178 : Cond.static yJ7_fill_53178 ∈ ww := ww_1 28 rfl rfl
theorem wc_J7_fill_031fb : Cond.code yJ7_fill_031fb cJ7_fill_031fb 4 none ∈ ww := ww_1 239 rfl rfl
abbrev cw_J7_fill_031fb : List Cond := Cond.code yJ7_fill_031fb cJ7_fill_031fb 4 none :: ww
theorem wi_J7_fill_031fb : Cond.static yJ7_fill_031fb ∈ ww := ww_1 238 rfl rfl
theorem fk_X0_9 : Cond.fieldLink RX0 9 RX0 (TX0 0).2.1 (TX0 0).2.2.1 ∈ ww := ww_1 65 rfl rfl
theorem G_X0_9 {x : CX} {cc : ByteArray} {n d pc : Nat} {ls : LV} {st : List AV} {w : Wd} {i : Nat} (hC : Cx x RX0 cc n d) (hm : (3, i) ∈ gis) (hd : decode cc pc = .ok (.getfield 9, 3)) (pc' : Nat) (hp : pc + 3 = pc') (k : Z x pc' ls (vr 16 i :: st) w) : Z x pc ls (vr 3 i :: st) w := Z_get (C := RX0) (T := TX0) (N := 7) (fd := fr 16 0) hC hm (by decide) rfl uw_X0 0 (by decide) fk_X0_9 rfl rfl hd pc' hp k
theorem fk_X0_15 : Cond.fieldLink RX0 15 RX0 (TX0 1).2.1 (TX0 1).2.2.1 ∈ ww := ww_1 67 rfl rfl
theorem G_X0_15 {x : CX} {cc : ByteArray} {n d pc : Nat} {ls : LV} {st : List AV} {w : Wd} {i : Nat} (hC : Cx x RX0 cc n d) (hm : (3, i) ∈ gis) (hd : decode cc pc = .ok (.getfield 15, 3)) (pc' : Nat) (hp : pc + 3 = pc') (k : Z x pc' ls (vr 17 i :: st) w) : Z x pc ls (vr 3 i :: st) w := Z_get (C := RX0) (T := TX0) (N := 7) (fd := fr 17 0) hC hm (by decide) rfl uw_X0 1 (by decide) fk_X0_15 rfl rfl hd pc' hp k
theorem fk_X0_18 : Cond.fieldLink RX0 18 RX0 (TX0 2).2.1 (TX0 2).2.2.1 ∈ ww := ww_1 69 rfl rfl
theorem G_X0_18 {x : CX} {cc : ByteArray} {n d pc : Nat} {ls : LV} {st : List AV} {w : Wd} {i : Nat} (hC : Cx x RX0 cc n d) (hm : (3, i) ∈ gis) (hd : decode cc pc = .ok (.getfield 18, 3)) (pc' : Nat) (hp : pc + 3 = pc') (k : Z x pc' ls (vr 18 i :: st) w) : Z x pc ls (vr 3 i :: st) w := Z_get (C := RX0) (T := TX0) (N := 7) (fd := fr 18 0) hC hm (by decide) rfl uw_X0 2 (by decide) fk_X0_18 rfl rfl hd pc' hp k
theorem fk_X0_21 : Cond.fieldLink RX0 21 RX0 (TX0 3).2.1 (TX0 3).2.2.1 ∈ ww := ww_1 71 rfl rfl
theorem G_X0_21 {x : CX} {cc : ByteArray} {n d pc : Nat} {ls : LV} {st : List AV} {w : Wd} {i : Nat} (hC : Cx x RX0 cc n d) (hm : (3, i) ∈ gis) (hd : decode cc pc = .ok (.getfield 21, 3)) (pc' : Nat) (hp : pc + 3 = pc') (k : Z x pc' ls (vr 19 i :: st) w) : Z x pc ls (vr 3 i :: st) w := Z_get (C := RX0) (T := TX0) (N := 7) (fd := fr 19 0) hC hm (by decide) rfl uw_X0 3 (by decide) fk_X0_21 rfl rfl hd pc' hp k
theorem fk_X0_24 : Cond.fieldLink RX0 24 RX0 (TX0 6).2.1 (TX0 6).2.2.1 ∈ ww := ww_1 78 rfl rfl
theorem G_X0_24 {x : CX} {cc : ByteArray} {n d pc : Nat} {ls : LV} {st : List AV} {w : Wd} {i : Nat} (hC : Cx x RX0 cc n d) (hm : (3, i) ∈ gis) (hd : decode cc pc = .ok (.getfield 24, 3)) (pc' : Nat) (hp : pc + 3 = pc') (k : Z x pc' ls (vi (gI w 6 i) :: st) w) : Z x pc ls (vr 3 i :: st) w := Z_get (C := RX0) (T := TX0) (N := 7) (fd := fi 6) hC hm (by decide) rfl uw_X0 6 (by decide) fk_X0_24 rfl rfl hd pc' hp k
theorem P_X0_24 {x : CX} {cc : ByteArray} {n d pc : Nat} {ls : LV} {st : List AV} {w : Wd} {i : Nat} {v : Int32} (hC : Cx x RX0 cc n d) (hm : (3, i) ∈ gis) (hd : decode cc pc = .ok (.putfield 24, 3)) (pc' : Nat) (hp : pc + 3 = pc') (k : Z x pc' ls st (sI w 6 i v)) : Z x pc ls (vi v :: vr 3 i :: st) w := Z_putI (C := RX0) (T := TX0) (N := 7) (f := 6) tyX0 .int hC hm (by decide) rfl uw_X0 tyX0_ok nmX0 6 (by decide) fk_X0_24 rfl rfl (by decide +kernel) rfl rfl (by decide +kernel) hd pc' hp k
theorem fk_X0_28 : Cond.fieldLink RX0 28 RX0 (TX0 4).2.1 (TX0 4).2.2.1 ∈ ww := ww_1 73 rfl rfl
theorem G_X0_28 {x : CX} {cc : ByteArray} {n d pc : Nat} {ls : LV} {st : List AV} {w : Wd} {i : Nat} (hC : Cx x RX0 cc n d) (hm : (3, i) ∈ gis) (hd : decode cc pc = .ok (.getfield 28, 3)) (pc' : Nat) (hp : pc + 3 = pc') (k : Z x pc' ls (vi (gI w 4 i) :: st) w) : Z x pc ls (vr 3 i :: st) w := Z_get (C := RX0) (T := TX0) (N := 7) (fd := fi 4) hC hm (by decide) rfl uw_X0 4 (by decide) fk_X0_28 rfl rfl hd pc' hp k
theorem P_X0_28 {x : CX} {cc : ByteArray} {n d pc : Nat} {ls : LV} {st : List AV} {w : Wd} {i : Nat} {v : Int32} (hC : Cx x RX0 cc n d) (hm : (3, i) ∈ gis) (hd : decode cc pc = .ok (.putfield 28, 3)) (pc' : Nat) (hp : pc + 3 = pc') (k : Z x pc' ls st (sI w 4 i v)) : Z x pc ls (vi v :: vr 3 i :: st) w := Z_putI (C := RX0) (T := TX0) (N := 7) (f := 4) tyX0 .int hC hm (by decide) rfl uw_X0 tyX0_ok nmX0 4 (by decide) fk_X0_28 rfl rfl (by decide +kernel) rfl rfl (by decide +kernel) hd pc' hp k
theorem fk_X0_31 : Cond.fieldLink RX0 31 RX0 (TX0 5).2.1 (TX0 5).2.2.1 ∈ ww := ww_1 76 rfl rfl
theorem G_X0_31 {x : CX} {cc : ByteArray} {n d pc : Nat} {ls : LV} {st : List AV} {w : Wd} {i : Nat} (hC : Cx x RX0 cc n d) (hm : (3, i) ∈ gis) (hd : decode cc pc = .ok (.getfield 31, 3)) (pc' : Nat) (hp : pc + 3 = pc') (k : Z x pc' ls (vi (gI w 5 i) :: st) w) : Z x pc ls (vr 3 i :: st) w := Z_get (C := RX0) (T := TX0) (N := 7) (fd := fi 5) hC hm (by decide) rfl uw_X0 5 (by decide) fk_X0_31 rfl rfl hd pc' hp k
theorem P_X0_31 {x : CX} {cc : ByteArray} {n d pc : Nat} {ls : LV} {st : List AV} {w : Wd} {i : Nat} {v : Int32} (hC : Cx x RX0 cc n d) (hm : (3, i) ∈ gis) (hd : decode cc pc = .ok (.putfield 31, 3)) (pc' : Nat) (hp : pc + 3 = pc') (k : Z x pc' ls st (sI w 5 i v)) : Z x pc ls (vi v :: vr 3 i :: st) w := Z_putI (C := RX0) (T := TX0) (N := 7) (f := 5) tyX0 .int hC hm (by decide) rfl uw_X0 tyX0_ok nmX0 5 (by decide) fk_X0_31 rfl rfl (by decide +kernel) rfl rfl (by decide +kernel) hd pc' hp k
theorem fk_X1_11 : Cond.fieldLink RX1 11 RX1 (TX1 0).2.1 (TX1 0).2.2.1 ∈ ww := ww_1 30 rfl rfl
theorem G_X1_11 {x : CX} {cc : ByteArray} {n d pc : Nat} {ls : LV} {st : List AV} {w : Wd} {i : Nat} (hC : Cx x RX1 cc n d) (hm : (1, i) ∈ gis) (hd : decode cc pc = .ok (.getfield 11, 3)) (pc' : Nat) (hp : pc + 3 = pc') (k : Z x pc' ls (vr 10 i :: st) w) : Z x pc ls (vr 1 i :: st) w := Z_get (C := RX1) (T := TX1) (N := 2) (fd := fr 10 0) hC hm (by decide) rfl uw_X1 0 (by decide) fk_X1_11 rfl rfl hd pc' hp k
theorem fk_X1_16 : Cond.fieldLink RX1 16 RX1 (TX1 1).2.1 (TX1 1).2.2.1 ∈ ww := ww_1 32 rfl rfl
theorem G_X1_16 {x : CX} {cc : ByteArray} {n d pc : Nat} {ls : LV} {st : List AV} {w : Wd} {i : Nat} (hC : Cx x RX1 cc n d) (hm : (1, i) ∈ gis) (hd : decode cc pc = .ok (.getfield 16, 3)) (pc' : Nat) (hp : pc + 3 = pc') (k : Z x pc' ls (vr 12 i :: st) w) : Z x pc ls (vr 1 i :: st) w := Z_get (C := RX1) (T := TX1) (N := 2) (fd := fr 12 0) hC hm (by decide) rfl uw_X1 1 (by decide) fk_X1_16 rfl rfl hd pc' hp k
theorem fk_X2_9 : Cond.fieldLink RX2 9 RX2 (TX2 2).2.1 (TX2 2).2.2.1 ∈ ww := ww_1 105 rfl rfl
theorem G_X2_9 {x : CX} {cc : ByteArray} {n d pc : Nat} {ls : LV} {st : List AV} {w : Wd} {i : Nat} (hC : Cx x RX2 cc n d) (hm : (4, i) ∈ gis) (hd : decode cc pc = .ok (.getfield 9, 3)) (pc' : Nat) (hp : pc + 3 = pc') (k : Z x pc' ls (vr 3 i :: st) w) : Z x pc ls (vr 4 i :: st) w := Z_get (C := RX2) (T := TX2) (N := 6) (fd := fr 3 0) hC hm (by decide) rfl uw_X2 2 (by decide) fk_X2_9 rfl rfl hd pc' hp k
theorem fk_X2_15 : Cond.fieldLink RX2 15 RX2 (TX2 0).2.1 (TX2 0).2.2.1 ∈ ww := ww_1 101 rfl rfl
theorem G_X2_15 {x : CX} {cc : ByteArray} {n d pc : Nat} {ls : LV} {st : List AV} {w : Wd} {i : Nat} (hC : Cx x RX2 cc n d) (hm : (4, i) ∈ gis) (hd : decode cc pc = .ok (.getfield 15, 3)) (pc' : Nat) (hp : pc + 3 = pc') (k : Z x pc' ls (vr 20 i :: st) w) : Z x pc ls (vr 4 i :: st) w := Z_get (C := RX2) (T := TX2) (N := 6) (fd := fr 20 0) hC hm (by decide) rfl uw_X2 0 (by decide) fk_X2_15 rfl rfl hd pc' hp k
theorem fk_X2_19 : Cond.fieldLink RX2 19 RX2 (TX2 3).2.1 (TX2 3).2.2.1 ∈ ww := ww_1 106 rfl rfl
theorem G_X2_19 {x : CX} {cc : ByteArray} {n d pc : Nat} {ls : LV} {st : List AV} {w : Wd} {i : Nat} (hC : Cx x RX2 cc n d) (hm : (4, i) ∈ gis) (hd : decode cc pc = .ok (.getfield 19, 3)) (pc' : Nat) (hp : pc + 3 = pc') (k : Z x pc' ls (vr 21 i :: st) w) : Z x pc ls (vr 4 i :: st) w := Z_get (C := RX2) (T := TX2) (N := 6) (fd := fr 21 0) hC hm (by decide) rfl uw_X2 3 (by decide) fk_X2_19 rfl rfl hd pc' hp k
theorem fk_X2_22 : Cond.fieldLink RX2 22 RX2 (TX2 1).2.1 (TX2 1).2.2.1 ∈ ww := ww_1 103 rfl rfl
theorem G_X2_22 {x : CX} {cc : ByteArray} {n d pc : Nat} {ls : LV} {st : List AV} {w : Wd} {i : Nat} (hC : Cx x RX2 cc n d) (hm : (4, i) ∈ gis) (hd : decode cc pc = .ok (.getfield 22, 3)) (pc' : Nat) (hp : pc + 3 = pc') (k : Z x pc' ls (vi (gI w 201 i) :: st) w) : Z x pc ls (vr 4 i :: st) w := Z_get (C := RX2) (T := TX2) (N := 6) (fd := fi 201) hC hm (by decide) rfl uw_X2 1 (by decide) fk_X2_22 rfl rfl hd pc' hp k
theorem P_X2_22 {x : CX} {cc : ByteArray} {n d pc : Nat} {ls : LV} {st : List AV} {w : Wd} {i : Nat} {v : Int32} (hC : Cx x RX2 cc n d) (hm : (4, i) ∈ gis) (hd : decode cc pc = .ok (.putfield 22, 3)) (pc' : Nat) (hp : pc + 3 = pc') (k : Z x pc' ls st (sI w 201 i v)) : Z x pc ls (vi v :: vr 4 i :: st) w := Z_putI (C := RX2) (T := TX2) (N := 6) (f := 201) tyX2 .int hC hm (by decide) rfl uw_X2 tyX2_ok nmX2 1 (by decide) fk_X2_22 rfl rfl (by decide +kernel) rfl rfl (by decide +kernel) hd pc' hp k
theorem fk_X2_32 : Cond.fieldLink RX2 32 RX2 (TX2 4).2.1 (TX2 4).2.2.1 ∈ ww := ww_1 107 rfl rfl
theorem G_X2_32 {x : CX} {cc : ByteArray} {n d pc : Nat} {ls : LV} {st : List AV} {w : Wd} {i : Nat} (hC : Cx x RX2 cc n d) (hm : (4, i) ∈ gis) (hd : decode cc pc = .ok (.getfield 32, 3)) (pc' : Nat) (hp : pc + 3 = pc') (k : Z x pc' ls (vi (gI w 204 i) :: st) w) : Z x pc ls (vr 4 i :: st) w := Z_get (C := RX2) (T := TX2) (N := 6) (fd := fi 204) hC hm (by decide) rfl uw_X2 4 (by decide) fk_X2_32 rfl rfl hd pc' hp k
theorem P_X2_32 {x : CX} {cc : ByteArray} {n d pc : Nat} {ls : LV} {st : List AV} {w : Wd} {i : Nat} {v : Int32} (hC : Cx x RX2 cc n d) (hm : (4, i) ∈ gis) (hd : decode cc pc = .ok (.putfield 32, 3)) (pc' : Nat) (hp : pc + 3 = pc') (k : Z x pc' ls st (sI w 204 i v)) : Z x pc ls (vi v :: vr 4 i :: st) w := Z_putI (C := RX2) (T := TX2) (N := 6) (f := 204) tyX2 .int hC hm (by decide) rfl uw_X2 tyX2_ok nmX2 4 (by decide) fk_X2_32 rfl rfl (by decide +kernel) rfl rfl (by decide +kernel) hd pc' hp k
theorem fk_X2_35 : Cond.fieldLink RX2 35 RX2 (TX2 5).2.1 (TX2 5).2.2.1 ∈ ww := ww_1 108 rfl rfl
theorem G_X2_35 {x : CX} {cc : ByteArray} {n d pc : Nat} {ls : LV} {st : List AV} {w : Wd} {i : Nat} (hC : Cx x RX2 cc n d) (hm : (4, i) ∈ gis) (hd : decode cc pc = .ok (.getfield 35, 3)) (pc' : Nat) (hp : pc + 3 = pc') (k : Z x pc' ls (vi (gI w 205 i) :: st) w) : Z x pc ls (vr 4 i :: st) w := Z_get (C := RX2) (T := TX2) (N := 6) (fd := fi 205) hC hm (by decide) rfl uw_X2 5 (by decide) fk_X2_35 rfl rfl hd pc' hp k
theorem P_X2_35 {x : CX} {cc : ByteArray} {n d pc : Nat} {ls : LV} {st : List AV} {w : Wd} {i : Nat} {v : Int32} (hC : Cx x RX2 cc n d) (hm : (4, i) ∈ gis) (hz : v = 0 ∨ v = 1) (hd : decode cc pc = .ok (.putfield 35, 3)) (pc' : Nat) (hp : pc + 3 = pc') (k : Z x pc' ls st (sI w 205 i v)) : Z x pc ls (vi v :: vr 4 i :: st) w := Z_putI (C := RX2) (T := TX2) (N := 6) (f := 205) tyX2 .boolean hC hm (by decide) rfl uw_X2 tyX2_ok nmX2 5 (by decide) fk_X2_35 rfl rfl (by decide +kernel) (by rcases hz with h | h <;> rw [h] <;> rfl) (by rcases hz with h | h <;> rw [h] <;> rfl) (by decide +kernel) hd pc' hp k
theorem fk_X2_39 : Cond.fieldLink RX2 39 RX0 (TX0 4).2.1 (TX0 4).2.2.1 ∈ ww := ww_1 74 rfl rfl
theorem G_X2_39 {x : CX} {cc : ByteArray} {n d pc : Nat} {ls : LV} {st : List AV} {w : Wd} {i : Nat} (hC : Cx x RX2 cc n d) (hm : (3, i) ∈ gis) (hd : decode cc pc = .ok (.getfield 39, 3)) (pc' : Nat) (hp : pc + 3 = pc') (k : Z x pc' ls (vi (gI w 4 i) :: st) w) : Z x pc ls (vr 3 i :: st) w := Z_get (C := RX0) (T := TX0) (N := 7) (fd := fi 4) hC hm (by decide) rfl uw_X0 4 (by decide) fk_X2_39 rfl rfl hd pc' hp k
theorem fk_X3_11 : Cond.fieldLink RX3 11 RX3 (TX3 0).2.1 (TX3 0).2.2.1 ∈ ww := ww_1 49 rfl rfl
theorem G_X3_11 {x : CX} {cc : ByteArray} {n d pc : Nat} {ls : LV} {st : List AV} {w : Wd} {i : Nat} (hC : Cx x RX3 cc n d) (hm : (2, i) ∈ gis) (hd : decode cc pc = .ok (.getfield 11, 3)) (pc' : Nat) (hp : pc + 3 = pc') (k : Z x pc' ls (vr 13 i :: st) w) : Z x pc ls (vr 2 i :: st) w := Z_get (C := RX3) (T := TX3) (N := 2) (fd := fr 13 0) hC hm (by decide) rfl uw_X3 0 (by decide) fk_X3_11 rfl rfl hd pc' hp k
theorem fk_X3_16 : Cond.fieldLink RX3 16 RX3 (TX3 1).2.1 (TX3 1).2.2.1 ∈ ww := ww_1 51 rfl rfl
theorem G_X3_16 {x : CX} {cc : ByteArray} {n d pc : Nat} {ls : LV} {st : List AV} {w : Wd} {i : Nat} (hC : Cx x RX3 cc n d) (hm : (2, i) ∈ gis) (hd : decode cc pc = .ok (.getfield 16, 3)) (pc' : Nat) (hp : pc + 3 = pc') (k : Z x pc' ls (vr 15 i :: st) w) : Z x pc ls (vr 2 i :: st) w := Z_get (C := RX3) (T := TX3) (N := 2) (fd := fr 15 0) hC hm (by decide) rfl uw_X3 1 (by decide) fk_X3_16 rfl rfl hd pc' hp k
theorem fk_X4_10 : Cond.fieldLink RX4 10 RX4 (TX4 0).2.1 (TX4 0).2.2.1 ∈ ww := ww_1 123 rfl rfl
theorem G_X4_10 {x : CX} {cc : ByteArray} {n d pc : Nat} {ls : LV} {st : List AV} {w : Wd} {i : Nat} (hC : Cx x RX4 cc n d) (hm : (0, i) ∈ gis) (hd : decode cc pc = .ok (.getfield 10, 3)) (pc' : Nat) (hp : pc + 3 = pc') (k : Z x pc' ls (vr 1 i :: st) w) : Z x pc ls (vr 0 i :: st) w := Z_get (C := RX4) (T := TX4) (N := 17) (fd := fr 1 0) hC hm (by decide) rfl uw_X4 0 (by decide) fk_X4_10 rfl rfl hd pc' hp k
theorem fk_X4_19 : Cond.fieldLink RX4 19 RX4 (TX4 1).2.1 (TX4 1).2.2.1 ∈ ww := ww_1 124 rfl rfl
theorem G_X4_19 {x : CX} {cc : ByteArray} {n d pc : Nat} {ls : LV} {st : List AV} {w : Wd} {i : Nat} (hC : Cx x RX4 cc n d) (hm : (0, i) ∈ gis) (hd : decode cc pc = .ok (.getfield 19, 3)) (pc' : Nat) (hp : pc + 3 = pc') (k : Z x pc' ls (vr 2 i :: st) w) : Z x pc ls (vr 0 i :: st) w := Z_get (C := RX4) (T := TX4) (N := 17) (fd := fr 2 0) hC hm (by decide) rfl uw_X4 1 (by decide) fk_X4_19 rfl rfl hd pc' hp k
theorem fk_X4_26 : Cond.fieldLink RX4 26 RX4 (TX4 2).2.1 (TX4 2).2.2.1 ∈ ww := ww_1 125 rfl rfl
theorem G_X4_26 {x : CX} {cc : ByteArray} {n d pc : Nat} {ls : LV} {st : List AV} {w : Wd} {i : Nat} (hC : Cx x RX4 cc n d) (hm : (0, i) ∈ gis) (hd : decode cc pc = .ok (.getfield 26, 3)) (pc' : Nat) (hp : pc + 3 = pc') (k : Z x pc' ls (vr 3 i :: st) w) : Z x pc ls (vr 0 i :: st) w := Z_get (C := RX4) (T := TX4) (N := 17) (fd := fr 3 0) hC hm (by decide) rfl uw_X4 2 (by decide) fk_X4_26 rfl rfl hd pc' hp k
theorem fk_X4_30 : Cond.fieldLink RX4 30 RX4 (TX4 3).2.1 (TX4 3).2.2.1 ∈ ww := ww_1 126 rfl rfl
theorem G_X4_30 {x : CX} {cc : ByteArray} {n d pc : Nat} {ls : LV} {st : List AV} {w : Wd} {i : Nat} (hC : Cx x RX4 cc n d) (hm : (0, i) ∈ gis) (hd : decode cc pc = .ok (.getfield 30, 3)) (pc' : Nat) (hp : pc + 3 = pc') (k : Z x pc' ls (vr 3 (i + 1) :: st) w) : Z x pc ls (vr 0 i :: st) w := Z_get (C := RX4) (T := TX4) (N := 17) (fd := fr 3 1) hC hm (by decide) rfl uw_X4 3 (by decide) fk_X4_30 rfl rfl hd pc' hp k
theorem fk_X4_38 : Cond.fieldLink RX4 38 RX4 (TX4 4).2.1 (TX4 4).2.2.1 ∈ ww := ww_1 127 rfl rfl
theorem G_X4_38 {x : CX} {cc : ByteArray} {n d pc : Nat} {ls : LV} {st : List AV} {w : Wd} {i : Nat} (hC : Cx x RX4 cc n d) (hm : (0, i) ∈ gis) (hd : decode cc pc = .ok (.getfield 38, 3)) (pc' : Nat) (hp : pc + 3 = pc') (k : Z x pc' ls (vr 4 i :: st) w) : Z x pc ls (vr 0 i :: st) w := Z_get (C := RX4) (T := TX4) (N := 17) (fd := fr 4 0) hC hm (by decide) rfl uw_X4 4 (by decide) fk_X4_38 rfl rfl hd pc' hp k
theorem fk_X4_42 : Cond.fieldLink RX4 42 RX4 (TX4 5).2.1 (TX4 5).2.2.1 ∈ ww := ww_1 128 rfl rfl
theorem G_X4_42 {x : CX} {cc : ByteArray} {n d pc : Nat} {ls : LV} {st : List AV} {w : Wd} {i : Nat} (hC : Cx x RX4 cc n d) (hm : (0, i) ∈ gis) (hd : decode cc pc = .ok (.getfield 42, 3)) (pc' : Nat) (hp : pc + 3 = pc') (k : Z x pc' ls (vr 4 (i + 1) :: st) w) : Z x pc ls (vr 0 i :: st) w := Z_get (C := RX4) (T := TX4) (N := 17) (fd := fr 4 1) hC hm (by decide) rfl uw_X4 5 (by decide) fk_X4_42 rfl rfl hd pc' hp k
theorem fk_X4_45 : Cond.fieldLink RX4 45 RX4 (TX4 8).2.1 (TX4 8).2.2.1 ∈ ww := ww_1 131 rfl rfl
theorem G_X4_45 {x : CX} {cc : ByteArray} {n d pc : Nat} {ls : LV} {st : List AV} {w : Wd} {i : Nat} (hC : Cx x RX4 cc n d) (hm : (0, i) ∈ gis) (hd : decode cc pc = .ok (.getfield 45, 3)) (pc' : Nat) (hp : pc + 3 = pc') (k : Z x pc' ls (vr 22 i :: st) w) : Z x pc ls (vr 0 i :: st) w := Z_get (C := RX4) (T := TX4) (N := 17) (fd := fr 22 0) hC hm (by decide) rfl uw_X4 8 (by decide) fk_X4_45 rfl rfl hd pc' hp k
theorem fk_X4_49 : Cond.fieldLink RX4 49 RX4 (TX4 9).2.1 (TX4 9).2.2.1 ∈ ww := ww_1 132 rfl rfl
theorem G_X4_49 {x : CX} {cc : ByteArray} {n d pc : Nat} {ls : LV} {st : List AV} {w : Wd} {i : Nat} (hC : Cx x RX4 cc n d) (hm : (0, i) ∈ gis) (hd : decode cc pc = .ok (.getfield 49, 3)) (pc' : Nat) (hp : pc + 3 = pc') (k : Z x pc' ls (vr 23 i :: st) w) : Z x pc ls (vr 0 i :: st) w := Z_get (C := RX4) (T := TX4) (N := 17) (fd := fr 23 0) hC hm (by decide) rfl uw_X4 9 (by decide) fk_X4_49 rfl rfl hd pc' hp k
theorem fk_X4_52 : Cond.fieldLink RX4 52 RX4 (TX4 10).2.1 (TX4 10).2.2.1 ∈ ww := ww_1 133 rfl rfl
theorem G_X4_52 {x : CX} {cc : ByteArray} {n d pc : Nat} {ls : LV} {st : List AV} {w : Wd} {i : Nat} (hC : Cx x RX4 cc n d) (hm : (0, i) ∈ gis) (hd : decode cc pc = .ok (.getfield 52, 3)) (pc' : Nat) (hp : pc + 3 = pc') (k : Z x pc' ls (vr 24 i :: st) w) : Z x pc ls (vr 0 i :: st) w := Z_get (C := RX4) (T := TX4) (N := 17) (fd := fr 24 0) hC hm (by decide) rfl uw_X4 10 (by decide) fk_X4_52 rfl rfl hd pc' hp k
theorem fk_X4_55 : Cond.fieldLink RX4 55 RX4 (TX4 16).2.1 (TX4 16).2.2.1 ∈ ww := ww_1 139 rfl rfl
theorem G_X4_55 {x : CX} {cc : ByteArray} {n d pc : Nat} {ls : LV} {st : List AV} {w : Wd} {i : Nat} (hC : Cx x RX4 cc n d) (hm : (0, i) ∈ gis) (hd : decode cc pc = .ok (.getfield 55, 3)) (pc' : Nat) (hp : pc + 3 = pc') (k : Z x pc' ls (vr 25 i :: st) w) : Z x pc ls (vr 0 i :: st) w := Z_get (C := RX4) (T := TX4) (N := 17) (fd := fr 25 0) hC hm (by decide) rfl uw_X4 16 (by decide) fk_X4_55 rfl rfl hd pc' hp k
theorem fk_X4_64 : Cond.fieldLink RX4 64 RX4 (TX4 14).2.1 (TX4 14).2.2.1 ∈ ww := ww_1 137 rfl rfl
theorem G_X4_64 {x : CX} {cc : ByteArray} {n d pc : Nat} {ls : LV} {st : List AV} {w : Wd} {i : Nat} (hC : Cx x RX4 cc n d) (hm : (0, i) ∈ gis) (hd : decode cc pc = .ok (.getfield 64, 3)) (pc' : Nat) (hp : pc + 3 = pc') (k : Z x pc' ls (vl (gL w 414 i) :: st) w) : Z x pc ls (vr 0 i :: st) w := Z_get (C := RX4) (T := TX4) (N := 17) (fd := fl 414) hC hm (by decide) rfl uw_X4 14 (by decide) fk_X4_64 rfl rfl hd pc' hp k
theorem P_X4_64 {x : CX} {cc : ByteArray} {n d pc : Nat} {ls : LV} {st : List AV} {w : Wd} {i : Nat} {v : Int64} (hC : Cx x RX4 cc n d) (hm : (0, i) ∈ gis) (hd : decode cc pc = .ok (.putfield 64, 3)) (pc' : Nat) (hp : pc + 3 = pc') (k : Z x pc' ls st (sL w 414 i v)) : Z x pc ls (vl v :: vr 0 i :: st) w := Z_putL (C := RX4) (T := TX4) (N := 17) (f := 414) tyX4 .long hC hm (by decide) rfl uw_X4 tyX4_ok nmX4 14 (by decide) fk_X4_64 rfl rfl (by decide +kernel) rfl rfl (by decide +kernel) hd pc' hp k
theorem fk_X4_68 : Cond.fieldLink RX4 68 RX4 (TX4 11).2.1 (TX4 11).2.2.1 ∈ ww := ww_1 134 rfl rfl
theorem G_X4_68 {x : CX} {cc : ByteArray} {n d pc : Nat} {ls : LV} {st : List AV} {w : Wd} {i : Nat} (hC : Cx x RX4 cc n d) (hm : (0, i) ∈ gis) (hd : decode cc pc = .ok (.getfield 68, 3)) (pc' : Nat) (hp : pc + 3 = pc') (k : Z x pc' ls (vi (gI w 411 i) :: st) w) : Z x pc ls (vr 0 i :: st) w := Z_get (C := RX4) (T := TX4) (N := 17) (fd := fi 411) hC hm (by decide) rfl uw_X4 11 (by decide) fk_X4_68 rfl rfl hd pc' hp k
theorem P_X4_68 {x : CX} {cc : ByteArray} {n d pc : Nat} {ls : LV} {st : List AV} {w : Wd} {i : Nat} {v : Int32} (hC : Cx x RX4 cc n d) (hm : (0, i) ∈ gis) (hz : v = 0 ∨ v = 1) (hd : decode cc pc = .ok (.putfield 68, 3)) (pc' : Nat) (hp : pc + 3 = pc') (k : Z x pc' ls st (sI w 411 i v)) : Z x pc ls (vi v :: vr 0 i :: st) w := Z_putI (C := RX4) (T := TX4) (N := 17) (f := 411) tyX4 .boolean hC hm (by decide) rfl uw_X4 tyX4_ok nmX4 11 (by decide) fk_X4_68 rfl rfl (by decide +kernel) (by rcases hz with h | h <;> rw [h] <;> rfl) (by rcases hz with h | h <;> rw [h] <;> rfl) (by decide +kernel) hd pc' hp k
theorem fk_X4_88 : Cond.fieldLink RX4 88 RX1 (TX1 0).2.1 (TX1 0).2.2.1 ∈ ww := ww_1 31 rfl rfl
theorem G_X4_88 {x : CX} {cc : ByteArray} {n d pc : Nat} {ls : LV} {st : List AV} {w : Wd} {i : Nat} (hC : Cx x RX4 cc n d) (hm : (1, i) ∈ gis) (hd : decode cc pc = .ok (.getfield 88, 3)) (pc' : Nat) (hp : pc + 3 = pc') (k : Z x pc' ls (vr 10 i :: st) w) : Z x pc ls (vr 1 i :: st) w := Z_get (C := RX1) (T := TX1) (N := 2) (fd := fr 10 0) hC hm (by decide) rfl uw_X1 0 (by decide) fk_X4_88 rfl rfl hd pc' hp k
theorem fk_X4_92 : Cond.fieldLink RX4 92 RX4 (TX4 12).2.1 (TX4 12).2.2.1 ∈ ww := ww_1 135 rfl rfl
theorem G_X4_92 {x : CX} {cc : ByteArray} {n d pc : Nat} {ls : LV} {st : List AV} {w : Wd} {i : Nat} (hC : Cx x RX4 cc n d) (hm : (0, i) ∈ gis) (hd : decode cc pc = .ok (.getfield 92, 3)) (pc' : Nat) (hp : pc + 3 = pc') (k : Z x pc' ls (vi (gI w 412 i) :: st) w) : Z x pc ls (vr 0 i :: st) w := Z_get (C := RX4) (T := TX4) (N := 17) (fd := fi 412) hC hm (by decide) rfl uw_X4 12 (by decide) fk_X4_92 rfl rfl hd pc' hp k
theorem P_X4_92 {x : CX} {cc : ByteArray} {n d pc : Nat} {ls : LV} {st : List AV} {w : Wd} {i : Nat} {v : Int32} (hC : Cx x RX4 cc n d) (hm : (0, i) ∈ gis) (hd : decode cc pc = .ok (.putfield 92, 3)) (pc' : Nat) (hp : pc + 3 = pc') (k : Z x pc' ls st (sI w 412 i v)) : Z x pc ls (vi v :: vr 0 i :: st) w := Z_putI (C := RX4) (T := TX4) (N := 17) (f := 412) tyX4 .int hC hm (by decide) rfl uw_X4 tyX4_ok nmX4 12 (by decide) fk_X4_92 rfl rfl (by decide +kernel) rfl rfl (by decide +kernel) hd pc' hp k
theorem fk_X4_99 : Cond.fieldLink RX4 99 RX1 (TX1 1).2.1 (TX1 1).2.2.1 ∈ ww := ww_1 33 rfl rfl
theorem G_X4_99 {x : CX} {cc : ByteArray} {n d pc : Nat} {ls : LV} {st : List AV} {w : Wd} {i : Nat} (hC : Cx x RX4 cc n d) (hm : (1, i) ∈ gis) (hd : decode cc pc = .ok (.getfield 99, 3)) (pc' : Nat) (hp : pc + 3 = pc') (k : Z x pc' ls (vr 12 i :: st) w) : Z x pc ls (vr 1 i :: st) w := Z_get (C := RX1) (T := TX1) (N := 2) (fd := fr 12 0) hC hm (by decide) rfl uw_X1 1 (by decide) fk_X4_99 rfl rfl hd pc' hp k
theorem fk_X4_117 : Cond.fieldLink RX4 117 RX3 (TX3 1).2.1 (TX3 1).2.2.1 ∈ ww := ww_1 52 rfl rfl
theorem G_X4_117 {x : CX} {cc : ByteArray} {n d pc : Nat} {ls : LV} {st : List AV} {w : Wd} {i : Nat} (hC : Cx x RX4 cc n d) (hm : (2, i) ∈ gis) (hd : decode cc pc = .ok (.getfield 117, 3)) (pc' : Nat) (hp : pc + 3 = pc') (k : Z x pc' ls (vr 15 i :: st) w) : Z x pc ls (vr 2 i :: st) w := Z_get (C := RX3) (T := TX3) (N := 2) (fd := fr 15 0) hC hm (by decide) rfl uw_X3 1 (by decide) fk_X4_117 rfl rfl hd pc' hp k
theorem fk_X4_118 : Cond.fieldLink RX4 118 RX3 (TX3 0).2.1 (TX3 0).2.2.1 ∈ ww := ww_1 50 rfl rfl
theorem G_X4_118 {x : CX} {cc : ByteArray} {n d pc : Nat} {ls : LV} {st : List AV} {w : Wd} {i : Nat} (hC : Cx x RX4 cc n d) (hm : (2, i) ∈ gis) (hd : decode cc pc = .ok (.getfield 118, 3)) (pc' : Nat) (hp : pc + 3 = pc') (k : Z x pc' ls (vr 13 i :: st) w) : Z x pc ls (vr 2 i :: st) w := Z_get (C := RX3) (T := TX3) (N := 2) (fd := fr 13 0) hC hm (by decide) rfl uw_X3 0 (by decide) fk_X4_118 rfl rfl hd pc' hp k
theorem fk_X4_128 : Cond.fieldLink RX4 128 RX4 (TX4 6).2.1 (TX4 6).2.2.1 ∈ ww := ww_1 129 rfl rfl
theorem G_X4_128 {x : CX} {cc : ByteArray} {n d pc : Nat} {ls : LV} {st : List AV} {w : Wd} {i : Nat} (hC : Cx x RX4 cc n d) (hm : (0, i) ∈ gis) (hd : decode cc pc = .ok (.getfield 128, 3)) (pc' : Nat) (hp : pc + 3 = pc') (k : Z x pc' ls (vi (gI w 406 i) :: st) w) : Z x pc ls (vr 0 i :: st) w := Z_get (C := RX4) (T := TX4) (N := 17) (fd := fi 406) hC hm (by decide) rfl uw_X4 6 (by decide) fk_X4_128 rfl rfl hd pc' hp k
theorem P_X4_128 {x : CX} {cc : ByteArray} {n d pc : Nat} {ls : LV} {st : List AV} {w : Wd} {i : Nat} {v : Int32} (hC : Cx x RX4 cc n d) (hm : (0, i) ∈ gis) (hd : decode cc pc = .ok (.putfield 128, 3)) (pc' : Nat) (hp : pc + 3 = pc') (k : Z x pc' ls st (sI w 406 i v)) : Z x pc ls (vi v :: vr 0 i :: st) w := Z_putI (C := RX4) (T := TX4) (N := 17) (f := 406) tyX4 .int hC hm (by decide) rfl uw_X4 tyX4_ok nmX4 6 (by decide) fk_X4_128 rfl rfl (by decide +kernel) rfl rfl (by decide +kernel) hd pc' hp k
theorem fk_X4_131 : Cond.fieldLink RX4 131 RX4 (TX4 7).2.1 (TX4 7).2.2.1 ∈ ww := ww_1 130 rfl rfl
theorem G_X4_131 {x : CX} {cc : ByteArray} {n d pc : Nat} {ls : LV} {st : List AV} {w : Wd} {i : Nat} (hC : Cx x RX4 cc n d) (hm : (0, i) ∈ gis) (hd : decode cc pc = .ok (.getfield 131, 3)) (pc' : Nat) (hp : pc + 3 = pc') (k : Z x pc' ls (vi (gI w 407 i) :: st) w) : Z x pc ls (vr 0 i :: st) w := Z_get (C := RX4) (T := TX4) (N := 17) (fd := fi 407) hC hm (by decide) rfl uw_X4 7 (by decide) fk_X4_131 rfl rfl hd pc' hp k
theorem P_X4_131 {x : CX} {cc : ByteArray} {n d pc : Nat} {ls : LV} {st : List AV} {w : Wd} {i : Nat} {v : Int32} (hC : Cx x RX4 cc n d) (hm : (0, i) ∈ gis) (hd : decode cc pc = .ok (.putfield 131, 3)) (pc' : Nat) (hp : pc + 3 = pc') (k : Z x pc' ls st (sI w 407 i v)) : Z x pc ls (vi v :: vr 0 i :: st) w := Z_putI (C := RX4) (T := TX4) (N := 17) (f := 407) tyX4 .int hC hm (by decide) rfl uw_X4 tyX4_ok nmX4 7 (by decide) fk_X4_131 rfl rfl (by decide +kernel) rfl rfl (by decide +kernel) hd pc' hp k
theorem fk_X4_134 : Cond.fieldLink RX4 134 RX0 (TX0 4).2.1 (TX0 4).2.2.1 ∈ ww := ww_1 75 rfl rfl
theorem G_X4_134 {x : CX} {cc : ByteArray} {n d pc : Nat} {ls : LV} {st : List AV} {w : Wd} {i : Nat} (hC : Cx x RX4 cc n d) (hm : (3, i) ∈ gis) (hd : decode cc pc = .ok (.getfield 134, 3)) (pc' : Nat) (hp : pc + 3 = pc') (k : Z x pc' ls (vi (gI w 4 i) :: st) w) : Z x pc ls (vr 3 i :: st) w := Z_get (C := RX0) (T := TX0) (N := 7) (fd := fi 4) hC hm (by decide) rfl uw_X0 4 (by decide) fk_X4_134 rfl rfl hd pc' hp k
theorem fk_X4_143 : Cond.fieldLink RX4 143 RX0 (TX0 0).2.1 (TX0 0).2.2.1 ∈ ww := ww_1 66 rfl rfl
theorem G_X4_143 {x : CX} {cc : ByteArray} {n d pc : Nat} {ls : LV} {st : List AV} {w : Wd} {i : Nat} (hC : Cx x RX4 cc n d) (hm : (3, i) ∈ gis) (hd : decode cc pc = .ok (.getfield 143, 3)) (pc' : Nat) (hp : pc + 3 = pc') (k : Z x pc' ls (vr 16 i :: st) w) : Z x pc ls (vr 3 i :: st) w := Z_get (C := RX0) (T := TX0) (N := 7) (fd := fr 16 0) hC hm (by decide) rfl uw_X0 0 (by decide) fk_X4_143 rfl rfl hd pc' hp k
theorem fk_X4_170 : Cond.fieldLink RX4 170 RX0 (TX0 6).2.1 (TX0 6).2.2.1 ∈ ww := ww_1 79 rfl rfl
theorem G_X4_170 {x : CX} {cc : ByteArray} {n d pc : Nat} {ls : LV} {st : List AV} {w : Wd} {i : Nat} (hC : Cx x RX4 cc n d) (hm : (3, i) ∈ gis) (hd : decode cc pc = .ok (.getfield 170, 3)) (pc' : Nat) (hp : pc + 3 = pc') (k : Z x pc' ls (vi (gI w 6 i) :: st) w) : Z x pc ls (vr 3 i :: st) w := Z_get (C := RX0) (T := TX0) (N := 7) (fd := fi 6) hC hm (by decide) rfl uw_X0 6 (by decide) fk_X4_170 rfl rfl hd pc' hp k
theorem P_X4_170 {x : CX} {cc : ByteArray} {n d pc : Nat} {ls : LV} {st : List AV} {w : Wd} {i : Nat} {v : Int32} (hC : Cx x RX4 cc n d) (hm : (3, i) ∈ gis) (hd : decode cc pc = .ok (.putfield 170, 3)) (pc' : Nat) (hp : pc + 3 = pc') (k : Z x pc' ls st (sI w 6 i v)) : Z x pc ls (vi v :: vr 3 i :: st) w := Z_putI (C := RX0) (T := TX0) (N := 7) (f := 6) tyX0 .int hC hm (by decide) rfl uw_X0 tyX0_ok nmX0 6 (by decide) fk_X4_170 rfl rfl (by decide +kernel) rfl rfl (by decide +kernel) hd pc' hp k
theorem fk_X4_173 : Cond.fieldLink RX4 173 RX0 (TX0 1).2.1 (TX0 1).2.2.1 ∈ ww := ww_1 68 rfl rfl
theorem G_X4_173 {x : CX} {cc : ByteArray} {n d pc : Nat} {ls : LV} {st : List AV} {w : Wd} {i : Nat} (hC : Cx x RX4 cc n d) (hm : (3, i) ∈ gis) (hd : decode cc pc = .ok (.getfield 173, 3)) (pc' : Nat) (hp : pc + 3 = pc') (k : Z x pc' ls (vr 17 i :: st) w) : Z x pc ls (vr 3 i :: st) w := Z_get (C := RX0) (T := TX0) (N := 7) (fd := fr 17 0) hC hm (by decide) rfl uw_X0 1 (by decide) fk_X4_173 rfl rfl hd pc' hp k
theorem fk_X4_188 : Cond.fieldLink RX4 188 RX2 (TX2 1).2.1 (TX2 1).2.2.1 ∈ ww := ww_1 104 rfl rfl
theorem G_X4_188 {x : CX} {cc : ByteArray} {n d pc : Nat} {ls : LV} {st : List AV} {w : Wd} {i : Nat} (hC : Cx x RX4 cc n d) (hm : (4, i) ∈ gis) (hd : decode cc pc = .ok (.getfield 188, 3)) (pc' : Nat) (hp : pc + 3 = pc') (k : Z x pc' ls (vi (gI w 201 i) :: st) w) : Z x pc ls (vr 4 i :: st) w := Z_get (C := RX2) (T := TX2) (N := 6) (fd := fi 201) hC hm (by decide) rfl uw_X2 1 (by decide) fk_X4_188 rfl rfl hd pc' hp k
theorem fk_X4_191 : Cond.fieldLink RX4 191 RX2 (TX2 0).2.1 (TX2 0).2.2.1 ∈ ww := ww_1 102 rfl rfl
theorem G_X4_191 {x : CX} {cc : ByteArray} {n d pc : Nat} {ls : LV} {st : List AV} {w : Wd} {i : Nat} (hC : Cx x RX4 cc n d) (hm : (4, i) ∈ gis) (hd : decode cc pc = .ok (.getfield 191, 3)) (pc' : Nat) (hp : pc + 3 = pc') (k : Z x pc' ls (vr 20 i :: st) w) : Z x pc ls (vr 4 i :: st) w := Z_get (C := RX2) (T := TX2) (N := 6) (fd := fr 20 0) hC hm (by decide) rfl uw_X2 0 (by decide) fk_X4_191 rfl rfl hd pc' hp k
theorem fk_X4_249 : Cond.fieldLink RX4 249 RX0 (TX0 5).2.1 (TX0 5).2.2.1 ∈ ww := ww_1 77 rfl rfl
theorem G_X4_249 {x : CX} {cc : ByteArray} {n d pc : Nat} {ls : LV} {st : List AV} {w : Wd} {i : Nat} (hC : Cx x RX4 cc n d) (hm : (3, i) ∈ gis) (hd : decode cc pc = .ok (.getfield 249, 3)) (pc' : Nat) (hp : pc + 3 = pc') (k : Z x pc' ls (vi (gI w 5 i) :: st) w) : Z x pc ls (vr 3 i :: st) w := Z_get (C := RX0) (T := TX0) (N := 7) (fd := fi 5) hC hm (by decide) rfl uw_X0 5 (by decide) fk_X4_249 rfl rfl hd pc' hp k
theorem P_X4_249 {x : CX} {cc : ByteArray} {n d pc : Nat} {ls : LV} {st : List AV} {w : Wd} {i : Nat} {v : Int32} (hC : Cx x RX4 cc n d) (hm : (3, i) ∈ gis) (hd : decode cc pc = .ok (.putfield 249, 3)) (pc' : Nat) (hp : pc + 3 = pc') (k : Z x pc' ls st (sI w 5 i v)) : Z x pc ls (vi v :: vr 3 i :: st) w := Z_putI (C := RX0) (T := TX0) (N := 7) (f := 5) tyX0 .int hC hm (by decide) rfl uw_X0 tyX0_ok nmX0 5 (by decide) fk_X4_249 rfl rfl (by decide +kernel) rfl rfl (by decide +kernel) hd pc' hp k
theorem fk_X4_262 : Cond.fieldLink RX4 262 RX0 (TX0 3).2.1 (TX0 3).2.2.1 ∈ ww := ww_1 72 rfl rfl
theorem G_X4_262 {x : CX} {cc : ByteArray} {n d pc : Nat} {ls : LV} {st : List AV} {w : Wd} {i : Nat} (hC : Cx x RX4 cc n d) (hm : (3, i) ∈ gis) (hd : decode cc pc = .ok (.getfield 262, 3)) (pc' : Nat) (hp : pc + 3 = pc') (k : Z x pc' ls (vr 19 i :: st) w) : Z x pc ls (vr 3 i :: st) w := Z_get (C := RX0) (T := TX0) (N := 7) (fd := fr 19 0) hC hm (by decide) rfl uw_X0 3 (by decide) fk_X4_262 rfl rfl hd pc' hp k
theorem fk_X4_286 : Cond.fieldLink RX4 286 RX0 (TX0 2).2.1 (TX0 2).2.2.1 ∈ ww := ww_1 70 rfl rfl
theorem G_X4_286 {x : CX} {cc : ByteArray} {n d pc : Nat} {ls : LV} {st : List AV} {w : Wd} {i : Nat} (hC : Cx x RX4 cc n d) (hm : (3, i) ∈ gis) (hd : decode cc pc = .ok (.getfield 286, 3)) (pc' : Nat) (hp : pc + 3 = pc') (k : Z x pc' ls (vr 18 i :: st) w) : Z x pc ls (vr 3 i :: st) w := Z_get (C := RX0) (T := TX0) (N := 7) (fd := fr 18 0) hC hm (by decide) rfl uw_X0 2 (by decide) fk_X4_286 rfl rfl hd pc' hp k
theorem fk_X4_289 : Cond.fieldLink RX4 289 RX4 (TX4 13).2.1 (TX4 13).2.2.1 ∈ ww := ww_1 136 rfl rfl
theorem G_X4_289 {x : CX} {cc : ByteArray} {n d pc : Nat} {ls : LV} {st : List AV} {w : Wd} {i : Nat} (hC : Cx x RX4 cc n d) (hm : (0, i) ∈ gis) (hd : decode cc pc = .ok (.getfield 289, 3)) (pc' : Nat) (hp : pc + 3 = pc') (k : Z x pc' ls (vl (gL w 413 i) :: st) w) : Z x pc ls (vr 0 i :: st) w := Z_get (C := RX4) (T := TX4) (N := 17) (fd := fl 413) hC hm (by decide) rfl uw_X4 13 (by decide) fk_X4_289 rfl rfl hd pc' hp k
theorem P_X4_289 {x : CX} {cc : ByteArray} {n d pc : Nat} {ls : LV} {st : List AV} {w : Wd} {i : Nat} {v : Int64} (hC : Cx x RX4 cc n d) (hm : (0, i) ∈ gis) (hd : decode cc pc = .ok (.putfield 289, 3)) (pc' : Nat) (hp : pc + 3 = pc') (k : Z x pc' ls st (sL w 413 i v)) : Z x pc ls (vl v :: vr 0 i :: st) w := Z_putL (C := RX4) (T := TX4) (N := 17) (f := 413) tyX4 .long hC hm (by decide) rfl uw_X4 tyX4_ok nmX4 13 (by decide) fk_X4_289 rfl rfl (by decide +kernel) rfl rfl (by decide +kernel) hd pc' hp k
theorem fk_X4_299 : Cond.fieldLink RX4 299 RX4 (TX4 15).2.1 (TX4 15).2.2.1 ∈ ww := ww_1 138 rfl rfl
theorem G_X4_299 {x : CX} {cc : ByteArray} {n d pc : Nat} {ls : LV} {st : List AV} {w : Wd} {i : Nat} (hC : Cx x RX4 cc n d) (hm : (0, i) ∈ gis) (hd : decode cc pc = .ok (.getfield 299, 3)) (pc' : Nat) (hp : pc + 3 = pc') (k : Z x pc' ls (vi (gI w 415 i) :: st) w) : Z x pc ls (vr 0 i :: st) w := Z_get (C := RX4) (T := TX4) (N := 17) (fd := fi 415) hC hm (by decide) rfl uw_X4 15 (by decide) fk_X4_299 rfl rfl hd pc' hp k
theorem P_X4_299 {x : CX} {cc : ByteArray} {n d pc : Nat} {ls : LV} {st : List AV} {w : Wd} {i : Nat} {v : Int32} (hC : Cx x RX4 cc n d) (hm : (0, i) ∈ gis) (hd : decode cc pc = .ok (.putfield 299, 3)) (pc' : Nat) (hp : pc + 3 = pc') (k : Z x pc' ls st (sI w 415 i v)) : Z x pc ls (vi v :: vr 0 i :: st) w := Z_putI (C := RX4) (T := TX4) (N := 17) (f := 415) tyX4 .int hC hm (by decide) rfl uw_X4 tyX4_ok nmX4 15 (by decide) fk_X4_299 rfl rfl (by decide +kernel) rfl rfl (by decide +kernel) hd pc' hp k
theorem fk_X4_327 : Cond.fieldLink RX4 327 "HatDraw" "LETTERS" "[I" ∈ ww := ww_2 19 rfl rfl
theorem fk_X5_7 : Cond.fieldLink RX5 7 RX5 (TX5 1).2.1 (TX5 1).2.2.1 ∈ ww := ww_3 196 rfl rfl
theorem G_X5_7 {x : CX} {cc : ByteArray} {n d pc : Nat} {ls : LV} {st : List AV} {w : Wd} {i : Nat} (hC : Cx x RX5 cc n d) (hm : (5, i) ∈ gis) (hd : decode cc pc = .ok (.getfield 7, 3)) (pc' : Nat) (hp : pc + 3 = pc') (k : Z x pc' ls (vr 30 i :: st) w) : Z x pc ls (vr 5 i :: st) w := Z_get (C := RX5) (T := TX5) (N := 32) (fd := fr 30 0) hC hm (by decide) rfl uw_X5 1 (by decide) fk_X5_7 rfl rfl hd pc' hp k
theorem fk_X5_13 : Cond.fieldLink RX5 13 RX5 (TX5 4).2.1 (TX5 4).2.2.1 ∈ ww := ww_3 199 rfl rfl
theorem G_X5_13 {x : CX} {cc : ByteArray} {n d pc : Nat} {ls : LV} {st : List AV} {w : Wd} {i : Nat} (hC : Cx x RX5 cc n d) (hm : (5, i) ∈ gis) (hd : decode cc pc = .ok (.getfield 13, 3)) (pc' : Nat) (hp : pc + 3 = pc') (k : Z x pc' ls (vl (gL w 504 i) :: st) w) : Z x pc ls (vr 5 i :: st) w := Z_get (C := RX5) (T := TX5) (N := 32) (fd := fl 504) hC hm (by decide) rfl uw_X5 4 (by decide) fk_X5_13 rfl rfl hd pc' hp k
theorem P_X5_13 {x : CX} {cc : ByteArray} {n d pc : Nat} {ls : LV} {st : List AV} {w : Wd} {i : Nat} {v : Int64} (hC : Cx x RX5 cc n d) (hm : (5, i) ∈ gis) (hd : decode cc pc = .ok (.putfield 13, 3)) (pc' : Nat) (hp : pc + 3 = pc') (k : Z x pc' ls st (sL w 504 i v)) : Z x pc ls (vl v :: vr 5 i :: st) w := Z_putL (C := RX5) (T := TX5) (N := 32) (f := 504) tyX5 .long hC hm (by decide) rfl uw_X5 tyX5_ok nmX5 4 (by decide) fk_X5_13 rfl rfl (by decide +kernel) rfl rfl (by decide +kernel) hd pc' hp k
theorem fk_X5_17 : Cond.fieldLink RX5 17 RX5 (TX5 5).2.1 (TX5 5).2.2.1 ∈ ww := ww_3 200 rfl rfl
theorem G_X5_17 {x : CX} {cc : ByteArray} {n d pc : Nat} {ls : LV} {st : List AV} {w : Wd} {i : Nat} (hC : Cx x RX5 cc n d) (hm : (5, i) ∈ gis) (hd : decode cc pc = .ok (.getfield 17, 3)) (pc' : Nat) (hp : pc + 3 = pc') (k : Z x pc' ls (vr 31 i :: st) w) : Z x pc ls (vr 5 i :: st) w := Z_get (C := RX5) (T := TX5) (N := 32) (fd := fr 31 0) hC hm (by decide) rfl uw_X5 5 (by decide) fk_X5_17 rfl rfl hd pc' hp k
theorem fk_X5_20 : Cond.fieldLink RX5 20 RX5 (TX5 6).2.1 (TX5 6).2.2.1 ∈ ww := ww_3 201 rfl rfl
theorem G_X5_20 {x : CX} {cc : ByteArray} {n d pc : Nat} {ls : LV} {st : List AV} {w : Wd} {i : Nat} (hC : Cx x RX5 cc n d) (hm : (5, i) ∈ gis) (hd : decode cc pc = .ok (.getfield 20, 3)) (pc' : Nat) (hp : pc + 3 = pc') (k : Z x pc' ls (vr 32 i :: st) w) : Z x pc ls (vr 5 i :: st) w := Z_get (C := RX5) (T := TX5) (N := 32) (fd := fr 32 0) hC hm (by decide) rfl uw_X5 6 (by decide) fk_X5_20 rfl rfl hd pc' hp k
theorem fk_X5_23 : Cond.fieldLink RX5 23 RX5 (TX5 7).2.1 (TX5 7).2.2.1 ∈ ww := ww_3 202 rfl rfl
theorem G_X5_23 {x : CX} {cc : ByteArray} {n d pc : Nat} {ls : LV} {st : List AV} {w : Wd} {i : Nat} (hC : Cx x RX5 cc n d) (hm : (5, i) ∈ gis) (hd : decode cc pc = .ok (.getfield 23, 3)) (pc' : Nat) (hp : pc + 3 = pc') (k : Z x pc' ls (vr 33 i :: st) w) : Z x pc ls (vr 5 i :: st) w := Z_get (C := RX5) (T := TX5) (N := 32) (fd := fr 33 0) hC hm (by decide) rfl uw_X5 7 (by decide) fk_X5_23 rfl rfl hd pc' hp k
theorem fk_X5_26 : Cond.fieldLink RX5 26 RX5 (TX5 8).2.1 (TX5 8).2.2.1 ∈ ww := ww_3 203 rfl rfl
theorem G_X5_26 {x : CX} {cc : ByteArray} {n d pc : Nat} {ls : LV} {st : List AV} {w : Wd} {i : Nat} (hC : Cx x RX5 cc n d) (hm : (5, i) ∈ gis) (hd : decode cc pc = .ok (.getfield 26, 3)) (pc' : Nat) (hp : pc + 3 = pc') (k : Z x pc' ls (vr 34 i :: st) w) : Z x pc ls (vr 5 i :: st) w := Z_get (C := RX5) (T := TX5) (N := 32) (fd := fr 34 0) hC hm (by decide) rfl uw_X5 8 (by decide) fk_X5_26 rfl rfl hd pc' hp k
theorem fk_X5_29 : Cond.fieldLink RX5 29 RX5 (TX5 9).2.1 (TX5 9).2.2.1 ∈ ww := ww_3 204 rfl rfl
theorem G_X5_29 {x : CX} {cc : ByteArray} {n d pc : Nat} {ls : LV} {st : List AV} {w : Wd} {i : Nat} (hC : Cx x RX5 cc n d) (hm : (5, i) ∈ gis) (hd : decode cc pc = .ok (.getfield 29, 3)) (pc' : Nat) (hp : pc + 3 = pc') (k : Z x pc' ls (vr 35 i :: st) w) : Z x pc ls (vr 5 i :: st) w := Z_get (C := RX5) (T := TX5) (N := 32) (fd := fr 35 0) hC hm (by decide) rfl uw_X5 9 (by decide) fk_X5_29 rfl rfl hd pc' hp k
theorem fk_X5_32 : Cond.fieldLink RX5 32 RX5 (TX5 11).2.1 (TX5 11).2.2.1 ∈ ww := ww_3 206 rfl rfl
theorem G_X5_32 {x : CX} {cc : ByteArray} {n d pc : Nat} {ls : LV} {st : List AV} {w : Wd} {i : Nat} (hC : Cx x RX5 cc n d) (hm : (5, i) ∈ gis) (hd : decode cc pc = .ok (.getfield 32, 3)) (pc' : Nat) (hp : pc + 3 = pc') (k : Z x pc' ls (vi (gI w 511 i) :: st) w) : Z x pc ls (vr 5 i :: st) w := Z_get (C := RX5) (T := TX5) (N := 32) (fd := fi 511) hC hm (by decide) rfl uw_X5 11 (by decide) fk_X5_32 rfl rfl hd pc' hp k
theorem P_X5_32 {x : CX} {cc : ByteArray} {n d pc : Nat} {ls : LV} {st : List AV} {w : Wd} {i : Nat} {v : Int32} (hC : Cx x RX5 cc n d) (hm : (5, i) ∈ gis) (hd : decode cc pc = .ok (.putfield 32, 3)) (pc' : Nat) (hp : pc + 3 = pc') (k : Z x pc' ls st (sI w 511 i v)) : Z x pc ls (vi v :: vr 5 i :: st) w := Z_putI (C := RX5) (T := TX5) (N := 32) (f := 511) tyX5 .int hC hm (by decide) rfl uw_X5 tyX5_ok nmX5 11 (by decide) fk_X5_32 rfl rfl (by decide +kernel) rfl rfl (by decide +kernel) hd pc' hp k
theorem fk_X5_36 : Cond.fieldLink RX5 36 RX5 (TX5 12).2.1 (TX5 12).2.2.1 ∈ ww := ww_3 207 rfl rfl
theorem G_X5_36 {x : CX} {cc : ByteArray} {n d pc : Nat} {ls : LV} {st : List AV} {w : Wd} {i : Nat} (hC : Cx x RX5 cc n d) (hm : (5, i) ∈ gis) (hd : decode cc pc = .ok (.getfield 36, 3)) (pc' : Nat) (hp : pc + 3 = pc') (k : Z x pc' ls (vr 36 i :: st) w) : Z x pc ls (vr 5 i :: st) w := Z_get (C := RX5) (T := TX5) (N := 32) (fd := fr 36 0) hC hm (by decide) rfl uw_X5 12 (by decide) fk_X5_36 rfl rfl hd pc' hp k
theorem fk_X5_39 : Cond.fieldLink RX5 39 RX5 (TX5 13).2.1 (TX5 13).2.2.1 ∈ ww := ww_3 208 rfl rfl
theorem G_X5_39 {x : CX} {cc : ByteArray} {n d pc : Nat} {ls : LV} {st : List AV} {w : Wd} {i : Nat} (hC : Cx x RX5 cc n d) (hm : (5, i) ∈ gis) (hd : decode cc pc = .ok (.getfield 39, 3)) (pc' : Nat) (hp : pc + 3 = pc') (k : Z x pc' ls (vr 37 i :: st) w) : Z x pc ls (vr 5 i :: st) w := Z_get (C := RX5) (T := TX5) (N := 32) (fd := fr 37 0) hC hm (by decide) rfl uw_X5 13 (by decide) fk_X5_39 rfl rfl hd pc' hp k
theorem fk_X5_42 : Cond.fieldLink RX5 42 RX5 (TX5 14).2.1 (TX5 14).2.2.1 ∈ ww := ww_3 209 rfl rfl
theorem G_X5_42 {x : CX} {cc : ByteArray} {n d pc : Nat} {ls : LV} {st : List AV} {w : Wd} {i : Nat} (hC : Cx x RX5 cc n d) (hm : (5, i) ∈ gis) (hd : decode cc pc = .ok (.getfield 42, 3)) (pc' : Nat) (hp : pc + 3 = pc') (k : Z x pc' ls (vr 38 i :: st) w) : Z x pc ls (vr 5 i :: st) w := Z_get (C := RX5) (T := TX5) (N := 32) (fd := fr 38 0) hC hm (by decide) rfl uw_X5 14 (by decide) fk_X5_42 rfl rfl hd pc' hp k
theorem fk_X5_45 : Cond.fieldLink RX5 45 RX5 (TX5 17).2.1 (TX5 17).2.2.1 ∈ ww := ww_3 212 rfl rfl
theorem G_X5_45 {x : CX} {cc : ByteArray} {n d pc : Nat} {ls : LV} {st : List AV} {w : Wd} {i : Nat} (hC : Cx x RX5 cc n d) (hm : (5, i) ∈ gis) (hd : decode cc pc = .ok (.getfield 45, 3)) (pc' : Nat) (hp : pc + 3 = pc') (k : Z x pc' ls (vr 39 i :: st) w) : Z x pc ls (vr 5 i :: st) w := Z_get (C := RX5) (T := TX5) (N := 32) (fd := fr 39 0) hC hm (by decide) rfl uw_X5 17 (by decide) fk_X5_45 rfl rfl hd pc' hp k
theorem fk_X5_48 : Cond.fieldLink RX5 48 RX5 (TX5 19).2.1 (TX5 19).2.2.1 ∈ ww := ww_3 214 rfl rfl
theorem G_X5_48 {x : CX} {cc : ByteArray} {n d pc : Nat} {ls : LV} {st : List AV} {w : Wd} {i : Nat} (hC : Cx x RX5 cc n d) (hm : (5, i) ∈ gis) (hd : decode cc pc = .ok (.getfield 48, 3)) (pc' : Nat) (hp : pc + 3 = pc') (k : Z x pc' ls (vr 40 i :: st) w) : Z x pc ls (vr 5 i :: st) w := Z_get (C := RX5) (T := TX5) (N := 32) (fd := fr 40 0) hC hm (by decide) rfl uw_X5 19 (by decide) fk_X5_48 rfl rfl hd pc' hp k
theorem fk_X5_51 : Cond.fieldLink RX5 51 RX5 (TX5 21).2.1 (TX5 21).2.2.1 ∈ ww := ww_3 216 rfl rfl
theorem G_X5_51 {x : CX} {cc : ByteArray} {n d pc : Nat} {ls : LV} {st : List AV} {w : Wd} {i : Nat} (hC : Cx x RX5 cc n d) (hm : (5, i) ∈ gis) (hd : decode cc pc = .ok (.getfield 51, 3)) (pc' : Nat) (hp : pc + 3 = pc') (k : Z x pc' ls (vr 41 i :: st) w) : Z x pc ls (vr 5 i :: st) w := Z_get (C := RX5) (T := TX5) (N := 32) (fd := fr 41 0) hC hm (by decide) rfl uw_X5 21 (by decide) fk_X5_51 rfl rfl hd pc' hp k
theorem fk_X5_54 : Cond.fieldLink RX5 54 RX5 (TX5 25).2.1 (TX5 25).2.2.1 ∈ ww := ww_3 220 rfl rfl
theorem G_X5_54 {x : CX} {cc : ByteArray} {n d pc : Nat} {ls : LV} {st : List AV} {w : Wd} {i : Nat} (hC : Cx x RX5 cc n d) (hm : (5, i) ∈ gis) (hd : decode cc pc = .ok (.getfield 54, 3)) (pc' : Nat) (hp : pc + 3 = pc') (k : Z x pc' ls (vr 42 i :: st) w) : Z x pc ls (vr 5 i :: st) w := Z_get (C := RX5) (T := TX5) (N := 32) (fd := fr 42 0) hC hm (by decide) rfl uw_X5 25 (by decide) fk_X5_54 rfl rfl hd pc' hp k
theorem fk_X5_57 : Cond.fieldLink RX5 57 RX5 (TX5 28).2.1 (TX5 28).2.2.1 ∈ ww := ww_3 223 rfl rfl
theorem G_X5_57 {x : CX} {cc : ByteArray} {n d pc : Nat} {ls : LV} {st : List AV} {w : Wd} {i : Nat} (hC : Cx x RX5 cc n d) (hm : (5, i) ∈ gis) (hd : decode cc pc = .ok (.getfield 57, 3)) (pc' : Nat) (hp : pc + 3 = pc') (k : Z x pc' ls (vr 43 i :: st) w) : Z x pc ls (vr 5 i :: st) w := Z_get (C := RX5) (T := TX5) (N := 32) (fd := fr 43 0) hC hm (by decide) rfl uw_X5 28 (by decide) fk_X5_57 rfl rfl hd pc' hp k
theorem fk_X5_60 : Cond.fieldLink RX5 60 RX5 (TX5 29).2.1 (TX5 29).2.2.1 ∈ ww := ww_3 224 rfl rfl
theorem G_X5_60 {x : CX} {cc : ByteArray} {n d pc : Nat} {ls : LV} {st : List AV} {w : Wd} {i : Nat} (hC : Cx x RX5 cc n d) (hm : (5, i) ∈ gis) (hd : decode cc pc = .ok (.getfield 60, 3)) (pc' : Nat) (hp : pc + 3 = pc') (k : Z x pc' ls (vr 44 i :: st) w) : Z x pc ls (vr 5 i :: st) w := Z_get (C := RX5) (T := TX5) (N := 32) (fd := fr 44 0) hC hm (by decide) rfl uw_X5 29 (by decide) fk_X5_60 rfl rfl hd pc' hp k
theorem fk_X5_63 : Cond.fieldLink RX5 63 RX5 (TX5 0).2.1 (TX5 0).2.2.1 ∈ ww := ww_3 195 rfl rfl
theorem G_X5_63 {x : CX} {cc : ByteArray} {n d pc : Nat} {ls : LV} {st : List AV} {w : Wd} {i : Nat} (hC : Cx x RX5 cc n d) (hm : (5, i) ∈ gis) (hd : decode cc pc = .ok (.getfield 63, 3)) (pc' : Nat) (hp : pc + 3 = pc') (k : Z x pc' ls (vi (gI w 500 i) :: st) w) : Z x pc ls (vr 5 i :: st) w := Z_get (C := RX5) (T := TX5) (N := 32) (fd := fi 500) hC hm (by decide) rfl uw_X5 0 (by decide) fk_X5_63 rfl rfl hd pc' hp k
theorem P_X5_63 {x : CX} {cc : ByteArray} {n d pc : Nat} {ls : LV} {st : List AV} {w : Wd} {i : Nat} {v : Int32} (hC : Cx x RX5 cc n d) (hm : (5, i) ∈ gis) (hd : decode cc pc = .ok (.putfield 63, 3)) (pc' : Nat) (hp : pc + 3 = pc') (k : Z x pc' ls st (sI w 500 i v)) : Z x pc ls (vi v :: vr 5 i :: st) w := Z_putI (C := RX5) (T := TX5) (N := 32) (f := 500) tyX5 .int hC hm (by decide) rfl uw_X5 tyX5_ok nmX5 0 (by decide) fk_X5_63 rfl rfl (by decide +kernel) rfl rfl (by decide +kernel) hd pc' hp k
theorem fk_X5_66 : Cond.fieldLink RX5 66 RX5 (TX5 2).2.1 (TX5 2).2.2.1 ∈ ww := ww_3 197 rfl rfl
theorem G_X5_66 {x : CX} {cc : ByteArray} {n d pc : Nat} {ls : LV} {st : List AV} {w : Wd} {i : Nat} (hC : Cx x RX5 cc n d) (hm : (5, i) ∈ gis) (hd : decode cc pc = .ok (.getfield 66, 3)) (pc' : Nat) (hp : pc + 3 = pc') (k : Z x pc' ls (vi (gI w 502 i) :: st) w) : Z x pc ls (vr 5 i :: st) w := Z_get (C := RX5) (T := TX5) (N := 32) (fd := fi 502) hC hm (by decide) rfl uw_X5 2 (by decide) fk_X5_66 rfl rfl hd pc' hp k
theorem P_X5_66 {x : CX} {cc : ByteArray} {n d pc : Nat} {ls : LV} {st : List AV} {w : Wd} {i : Nat} {v : Int32} (hC : Cx x RX5 cc n d) (hm : (5, i) ∈ gis) (hd : decode cc pc = .ok (.putfield 66, 3)) (pc' : Nat) (hp : pc + 3 = pc') (k : Z x pc' ls st (sI w 502 i v)) : Z x pc ls (vi v :: vr 5 i :: st) w := Z_putI (C := RX5) (T := TX5) (N := 32) (f := 502) tyX5 .int hC hm (by decide) rfl uw_X5 tyX5_ok nmX5 2 (by decide) fk_X5_66 rfl rfl (by decide +kernel) rfl rfl (by decide +kernel) hd pc' hp k
theorem fk_X5_69 : Cond.fieldLink RX5 69 RX5 (TX5 3).2.1 (TX5 3).2.2.1 ∈ ww := ww_3 198 rfl rfl
theorem G_X5_69 {x : CX} {cc : ByteArray} {n d pc : Nat} {ls : LV} {st : List AV} {w : Wd} {i : Nat} (hC : Cx x RX5 cc n d) (hm : (5, i) ∈ gis) (hd : decode cc pc = .ok (.getfield 69, 3)) (pc' : Nat) (hp : pc + 3 = pc') (k : Z x pc' ls (vl (gL w 503 i) :: st) w) : Z x pc ls (vr 5 i :: st) w := Z_get (C := RX5) (T := TX5) (N := 32) (fd := fl 503) hC hm (by decide) rfl uw_X5 3 (by decide) fk_X5_69 rfl rfl hd pc' hp k
theorem P_X5_69 {x : CX} {cc : ByteArray} {n d pc : Nat} {ls : LV} {st : List AV} {w : Wd} {i : Nat} {v : Int64} (hC : Cx x RX5 cc n d) (hm : (5, i) ∈ gis) (hd : decode cc pc = .ok (.putfield 69, 3)) (pc' : Nat) (hp : pc + 3 = pc') (k : Z x pc' ls st (sL w 503 i v)) : Z x pc ls (vl v :: vr 5 i :: st) w := Z_putL (C := RX5) (T := TX5) (N := 32) (f := 503) tyX5 .long hC hm (by decide) rfl uw_X5 tyX5_ok nmX5 3 (by decide) fk_X5_69 rfl rfl (by decide +kernel) rfl rfl (by decide +kernel) hd pc' hp k
theorem fk_X5_107 : Cond.fieldLink RX5 107 RX5 (TX5 15).2.1 (TX5 15).2.2.1 ∈ ww := ww_3 210 rfl rfl
theorem G_X5_107 {x : CX} {cc : ByteArray} {n d pc : Nat} {ls : LV} {st : List AV} {w : Wd} {i : Nat} (hC : Cx x RX5 cc n d) (hm : (5, i) ∈ gis) (hd : decode cc pc = .ok (.getfield 107, 3)) (pc' : Nat) (hp : pc + 3 = pc') (k : Z x pc' ls (vi (gI w 515 i) :: st) w) : Z x pc ls (vr 5 i :: st) w := Z_get (C := RX5) (T := TX5) (N := 32) (fd := fi 515) hC hm (by decide) rfl uw_X5 15 (by decide) fk_X5_107 rfl rfl hd pc' hp k
theorem P_X5_107 {x : CX} {cc : ByteArray} {n d pc : Nat} {ls : LV} {st : List AV} {w : Wd} {i : Nat} {v : Int32} (hC : Cx x RX5 cc n d) (hm : (5, i) ∈ gis) (hd : decode cc pc = .ok (.putfield 107, 3)) (pc' : Nat) (hp : pc + 3 = pc') (k : Z x pc' ls st (sI w 515 i v)) : Z x pc ls (vi v :: vr 5 i :: st) w := Z_putI (C := RX5) (T := TX5) (N := 32) (f := 515) tyX5 .int hC hm (by decide) rfl uw_X5 tyX5_ok nmX5 15 (by decide) fk_X5_107 rfl rfl (by decide +kernel) rfl rfl (by decide +kernel) hd pc' hp k
theorem fk_X5_116 : Cond.fieldLink RX5 116 RX5 (TX5 16).2.1 (TX5 16).2.2.1 ∈ ww := ww_3 211 rfl rfl
theorem G_X5_116 {x : CX} {cc : ByteArray} {n d pc : Nat} {ls : LV} {st : List AV} {w : Wd} {i : Nat} (hC : Cx x RX5 cc n d) (hm : (5, i) ∈ gis) (hd : decode cc pc = .ok (.getfield 116, 3)) (pc' : Nat) (hp : pc + 3 = pc') (k : Z x pc' ls (vi (gI w 516 i) :: st) w) : Z x pc ls (vr 5 i :: st) w := Z_get (C := RX5) (T := TX5) (N := 32) (fd := fi 516) hC hm (by decide) rfl uw_X5 16 (by decide) fk_X5_116 rfl rfl hd pc' hp k
theorem P_X5_116 {x : CX} {cc : ByteArray} {n d pc : Nat} {ls : LV} {st : List AV} {w : Wd} {i : Nat} {v : Int32} (hC : Cx x RX5 cc n d) (hm : (5, i) ∈ gis) (hd : decode cc pc = .ok (.putfield 116, 3)) (pc' : Nat) (hp : pc + 3 = pc') (k : Z x pc' ls st (sI w 516 i v)) : Z x pc ls (vi v :: vr 5 i :: st) w := Z_putI (C := RX5) (T := TX5) (N := 32) (f := 516) tyX5 .int hC hm (by decide) rfl uw_X5 tyX5_ok nmX5 16 (by decide) fk_X5_116 rfl rfl (by decide +kernel) rfl rfl (by decide +kernel) hd pc' hp k
theorem fk_X5_125 : Cond.fieldLink RX5 125 RX5 (TX5 10).2.1 (TX5 10).2.2.1 ∈ ww := ww_3 205 rfl rfl
theorem G_X5_125 {x : CX} {cc : ByteArray} {n d pc : Nat} {ls : LV} {st : List AV} {w : Wd} {i : Nat} (hC : Cx x RX5 cc n d) (hm : (5, i) ∈ gis) (hd : decode cc pc = .ok (.getfield 125, 3)) (pc' : Nat) (hp : pc + 3 = pc') (k : Z x pc' ls (vi (gI w 510 i) :: st) w) : Z x pc ls (vr 5 i :: st) w := Z_get (C := RX5) (T := TX5) (N := 32) (fd := fi 510) hC hm (by decide) rfl uw_X5 10 (by decide) fk_X5_125 rfl rfl hd pc' hp k
theorem P_X5_125 {x : CX} {cc : ByteArray} {n d pc : Nat} {ls : LV} {st : List AV} {w : Wd} {i : Nat} {v : Int32} (hC : Cx x RX5 cc n d) (hm : (5, i) ∈ gis) (hd : decode cc pc = .ok (.putfield 125, 3)) (pc' : Nat) (hp : pc + 3 = pc') (k : Z x pc' ls st (sI w 510 i v)) : Z x pc ls (vi v :: vr 5 i :: st) w := Z_putI (C := RX5) (T := TX5) (N := 32) (f := 510) tyX5 .int hC hm (by decide) rfl uw_X5 tyX5_ok nmX5 10 (by decide) fk_X5_125 rfl rfl (by decide +kernel) rfl rfl (by decide +kernel) hd pc' hp k
theorem fk_X5_128 : Cond.fieldLink RX5 128 RX5 (TX5 24).2.1 (TX5 24).2.2.1 ∈ ww := ww_3 219 rfl rfl
theorem G_X5_128 {x : CX} {cc : ByteArray} {n d pc : Nat} {ls : LV} {st : List AV} {w : Wd} {i : Nat} (hC : Cx x RX5 cc n d) (hm : (5, i) ∈ gis) (hd : decode cc pc = .ok (.getfield 128, 3)) (pc' : Nat) (hp : pc + 3 = pc') (k : Z x pc' ls (vi (gI w 524 i) :: st) w) : Z x pc ls (vr 5 i :: st) w := Z_get (C := RX5) (T := TX5) (N := 32) (fd := fi 524) hC hm (by decide) rfl uw_X5 24 (by decide) fk_X5_128 rfl rfl hd pc' hp k
theorem P_X5_128 {x : CX} {cc : ByteArray} {n d pc : Nat} {ls : LV} {st : List AV} {w : Wd} {i : Nat} {v : Int32} (hC : Cx x RX5 cc n d) (hm : (5, i) ∈ gis) (hd : decode cc pc = .ok (.putfield 128, 3)) (pc' : Nat) (hp : pc + 3 = pc') (k : Z x pc' ls st (sI w 524 i v)) : Z x pc ls (vi v :: vr 5 i :: st) w := Z_putI (C := RX5) (T := TX5) (N := 32) (f := 524) tyX5 .int hC hm (by decide) rfl uw_X5 tyX5_ok nmX5 24 (by decide) fk_X5_128 rfl rfl (by decide +kernel) rfl rfl (by decide +kernel) hd pc' hp k
theorem fk_X5_131 : Cond.fieldLink RX5 131 RX5 (TX5 18).2.1 (TX5 18).2.2.1 ∈ ww := ww_3 213 rfl rfl
theorem G_X5_131 {x : CX} {cc : ByteArray} {n d pc : Nat} {ls : LV} {st : List AV} {w : Wd} {i : Nat} (hC : Cx x RX5 cc n d) (hm : (5, i) ∈ gis) (hd : decode cc pc = .ok (.getfield 131, 3)) (pc' : Nat) (hp : pc + 3 = pc') (k : Z x pc' ls (vi (gI w 518 i) :: st) w) : Z x pc ls (vr 5 i :: st) w := Z_get (C := RX5) (T := TX5) (N := 32) (fd := fi 518) hC hm (by decide) rfl uw_X5 18 (by decide) fk_X5_131 rfl rfl hd pc' hp k
theorem P_X5_131 {x : CX} {cc : ByteArray} {n d pc : Nat} {ls : LV} {st : List AV} {w : Wd} {i : Nat} {v : Int32} (hC : Cx x RX5 cc n d) (hm : (5, i) ∈ gis) (hd : decode cc pc = .ok (.putfield 131, 3)) (pc' : Nat) (hp : pc + 3 = pc') (k : Z x pc' ls st (sI w 518 i v)) : Z x pc ls (vi v :: vr 5 i :: st) w := Z_putI (C := RX5) (T := TX5) (N := 32) (f := 518) tyX5 .int hC hm (by decide) rfl uw_X5 tyX5_ok nmX5 18 (by decide) fk_X5_131 rfl rfl (by decide +kernel) rfl rfl (by decide +kernel) hd pc' hp k
theorem fk_X5_159 : Cond.fieldLink RX5 159 RX5 (TX5 20).2.1 (TX5 20).2.2.1 ∈ ww := ww_3 215 rfl rfl
theorem G_X5_159 {x : CX} {cc : ByteArray} {n d pc : Nat} {ls : LV} {st : List AV} {w : Wd} {i : Nat} (hC : Cx x RX5 cc n d) (hm : (5, i) ∈ gis) (hd : decode cc pc = .ok (.getfield 159, 3)) (pc' : Nat) (hp : pc + 3 = pc') (k : Z x pc' ls (vi (gI w 520 i) :: st) w) : Z x pc ls (vr 5 i :: st) w := Z_get (C := RX5) (T := TX5) (N := 32) (fd := fi 520) hC hm (by decide) rfl uw_X5 20 (by decide) fk_X5_159 rfl rfl hd pc' hp k
theorem P_X5_159 {x : CX} {cc : ByteArray} {n d pc : Nat} {ls : LV} {st : List AV} {w : Wd} {i : Nat} {v : Int32} (hC : Cx x RX5 cc n d) (hm : (5, i) ∈ gis) (hd : decode cc pc = .ok (.putfield 159, 3)) (pc' : Nat) (hp : pc + 3 = pc') (k : Z x pc' ls st (sI w 520 i v)) : Z x pc ls (vi v :: vr 5 i :: st) w := Z_putI (C := RX5) (T := TX5) (N := 32) (f := 520) tyX5 .int hC hm (by decide) rfl uw_X5 tyX5_ok nmX5 20 (by decide) fk_X5_159 rfl rfl (by decide +kernel) rfl rfl (by decide +kernel) hd pc' hp k
theorem fk_X5_175 : Cond.fieldLink RX5 175 RX5 (TX5 22).2.1 (TX5 22).2.2.1 ∈ ww := ww_3 217 rfl rfl
theorem G_X5_175 {x : CX} {cc : ByteArray} {n d pc : Nat} {ls : LV} {st : List AV} {w : Wd} {i : Nat} (hC : Cx x RX5 cc n d) (hm : (5, i) ∈ gis) (hd : decode cc pc = .ok (.getfield 175, 3)) (pc' : Nat) (hp : pc + 3 = pc') (k : Z x pc' ls (vi (gI w 522 i) :: st) w) : Z x pc ls (vr 5 i :: st) w := Z_get (C := RX5) (T := TX5) (N := 32) (fd := fi 522) hC hm (by decide) rfl uw_X5 22 (by decide) fk_X5_175 rfl rfl hd pc' hp k
theorem P_X5_175 {x : CX} {cc : ByteArray} {n d pc : Nat} {ls : LV} {st : List AV} {w : Wd} {i : Nat} {v : Int32} (hC : Cx x RX5 cc n d) (hm : (5, i) ∈ gis) (hd : decode cc pc = .ok (.putfield 175, 3)) (pc' : Nat) (hp : pc + 3 = pc') (k : Z x pc' ls st (sI w 522 i v)) : Z x pc ls (vi v :: vr 5 i :: st) w := Z_putI (C := RX5) (T := TX5) (N := 32) (f := 522) tyX5 .int hC hm (by decide) rfl uw_X5 tyX5_ok nmX5 22 (by decide) fk_X5_175 rfl rfl (by decide +kernel) rfl rfl (by decide +kernel) hd pc' hp k
theorem fk_X5_178 : Cond.fieldLink RX5 178 RX5 (TX5 23).2.1 (TX5 23).2.2.1 ∈ ww := ww_3 218 rfl rfl
theorem G_X5_178 {x : CX} {cc : ByteArray} {n d pc : Nat} {ls : LV} {st : List AV} {w : Wd} {i : Nat} (hC : Cx x RX5 cc n d) (hm : (5, i) ∈ gis) (hd : decode cc pc = .ok (.getfield 178, 3)) (pc' : Nat) (hp : pc + 3 = pc') (k : Z x pc' ls (vi (gI w 523 i) :: st) w) : Z x pc ls (vr 5 i :: st) w := Z_get (C := RX5) (T := TX5) (N := 32) (fd := fi 523) hC hm (by decide) rfl uw_X5 23 (by decide) fk_X5_178 rfl rfl hd pc' hp k
theorem P_X5_178 {x : CX} {cc : ByteArray} {n d pc : Nat} {ls : LV} {st : List AV} {w : Wd} {i : Nat} {v : Int32} (hC : Cx x RX5 cc n d) (hm : (5, i) ∈ gis) (hd : decode cc pc = .ok (.putfield 178, 3)) (pc' : Nat) (hp : pc + 3 = pc') (k : Z x pc' ls st (sI w 523 i v)) : Z x pc ls (vi v :: vr 5 i :: st) w := Z_putI (C := RX5) (T := TX5) (N := 32) (f := 523) tyX5 .int hC hm (by decide) rfl uw_X5 tyX5_ok nmX5 23 (by decide) fk_X5_178 rfl rfl (by decide +kernel) rfl rfl (by decide +kernel) hd pc' hp k
theorem fk_X5_209 : Cond.fieldLink RX5 209 RX5 (TX5 26).2.1 (TX5 26).2.2.1 ∈ ww := ww_3 221 rfl rfl
theorem G_X5_209 {x : CX} {cc : ByteArray} {n d pc : Nat} {ls : LV} {st : List AV} {w : Wd} {i : Nat} (hC : Cx x RX5 cc n d) (hm : (5, i) ∈ gis) (hd : decode cc pc = .ok (.getfield 209, 3)) (pc' : Nat) (hp : pc + 3 = pc') (k : Z x pc' ls (vi (gI w 526 i) :: st) w) : Z x pc ls (vr 5 i :: st) w := Z_get (C := RX5) (T := TX5) (N := 32) (fd := fi 526) hC hm (by decide) rfl uw_X5 26 (by decide) fk_X5_209 rfl rfl hd pc' hp k
theorem P_X5_209 {x : CX} {cc : ByteArray} {n d pc : Nat} {ls : LV} {st : List AV} {w : Wd} {i : Nat} {v : Int32} (hC : Cx x RX5 cc n d) (hm : (5, i) ∈ gis) (hd : decode cc pc = .ok (.putfield 209, 3)) (pc' : Nat) (hp : pc + 3 = pc') (k : Z x pc' ls st (sI w 526 i v)) : Z x pc ls (vi v :: vr 5 i :: st) w := Z_putI (C := RX5) (T := TX5) (N := 32) (f := 526) tyX5 .int hC hm (by decide) rfl uw_X5 tyX5_ok nmX5 26 (by decide) fk_X5_209 rfl rfl (by decide +kernel) rfl rfl (by decide +kernel) hd pc' hp k
theorem fk_X5_218 : Cond.fieldLink RX5 218 RX5 (TX5 27).2.1 (TX5 27).2.2.1 ∈ ww := ww_3 222 rfl rfl
theorem G_X5_218 {x : CX} {cc : ByteArray} {n d pc : Nat} {ls : LV} {st : List AV} {w : Wd} {i : Nat} (hC : Cx x RX5 cc n d) (hm : (5, i) ∈ gis) (hd : decode cc pc = .ok (.getfield 218, 3)) (pc' : Nat) (hp : pc + 3 = pc') (k : Z x pc' ls (vl (gL w 527 i) :: st) w) : Z x pc ls (vr 5 i :: st) w := Z_get (C := RX5) (T := TX5) (N := 32) (fd := fl 527) hC hm (by decide) rfl uw_X5 27 (by decide) fk_X5_218 rfl rfl hd pc' hp k
theorem P_X5_218 {x : CX} {cc : ByteArray} {n d pc : Nat} {ls : LV} {st : List AV} {w : Wd} {i : Nat} {v : Int64} (hC : Cx x RX5 cc n d) (hm : (5, i) ∈ gis) (hd : decode cc pc = .ok (.putfield 218, 3)) (pc' : Nat) (hp : pc + 3 = pc') (k : Z x pc' ls st (sL w 527 i v)) : Z x pc ls (vl v :: vr 5 i :: st) w := Z_putL (C := RX5) (T := TX5) (N := 32) (f := 527) tyX5 .long hC hm (by decide) rfl uw_X5 tyX5_ok nmX5 27 (by decide) fk_X5_218 rfl rfl (by decide +kernel) rfl rfl (by decide +kernel) hd pc' hp k
theorem fk_X5_234 : Cond.fieldLink RX5 234 RX5 (TX5 30).2.1 (TX5 30).2.2.1 ∈ ww := ww_3 225 rfl rfl
theorem G_X5_234 {x : CX} {cc : ByteArray} {n d pc : Nat} {ls : LV} {st : List AV} {w : Wd} {i : Nat} (hC : Cx x RX5 cc n d) (hm : (5, i) ∈ gis) (hd : decode cc pc = .ok (.getfield 234, 3)) (pc' : Nat) (hp : pc + 3 = pc') (k : Z x pc' ls (vi (gI w 530 i) :: st) w) : Z x pc ls (vr 5 i :: st) w := Z_get (C := RX5) (T := TX5) (N := 32) (fd := fi 530) hC hm (by decide) rfl uw_X5 30 (by decide) fk_X5_234 rfl rfl hd pc' hp k
theorem P_X5_234 {x : CX} {cc : ByteArray} {n d pc : Nat} {ls : LV} {st : List AV} {w : Wd} {i : Nat} {v : Int32} (hC : Cx x RX5 cc n d) (hm : (5, i) ∈ gis) (hd : decode cc pc = .ok (.putfield 234, 3)) (pc' : Nat) (hp : pc + 3 = pc') (k : Z x pc' ls st (sI w 530 i v)) : Z x pc ls (vi v :: vr 5 i :: st) w := Z_putI (C := RX5) (T := TX5) (N := 32) (f := 530) tyX5 .int hC hm (by decide) rfl uw_X5 tyX5_ok nmX5 30 (by decide) fk_X5_234 rfl rfl (by decide +kernel) rfl rfl (by decide +kernel) hd pc' hp k
theorem fk_X5_260 : Cond.fieldLink RX5 260 RX5 (TX5 31).2.1 (TX5 31).2.2.1 ∈ ww := ww_3 226 rfl rfl
theorem G_X5_260 {x : CX} {cc : ByteArray} {n d pc : Nat} {ls : LV} {st : List AV} {w : Wd} {i : Nat} (hC : Cx x RX5 cc n d) (hm : (5, i) ∈ gis) (hd : decode cc pc = .ok (.getfield 260, 3)) (pc' : Nat) (hp : pc + 3 = pc') (k : Z x pc' ls (vl (gL w 531 i) :: st) w) : Z x pc ls (vr 5 i :: st) w := Z_get (C := RX5) (T := TX5) (N := 32) (fd := fl 531) hC hm (by decide) rfl uw_X5 31 (by decide) fk_X5_260 rfl rfl hd pc' hp k
theorem P_X5_260 {x : CX} {cc : ByteArray} {n d pc : Nat} {ls : LV} {st : List AV} {w : Wd} {i : Nat} {v : Int64} (hC : Cx x RX5 cc n d) (hm : (5, i) ∈ gis) (hd : decode cc pc = .ok (.putfield 260, 3)) (pc' : Nat) (hp : pc + 3 = pc') (k : Z x pc' ls st (sL w 531 i v)) : Z x pc ls (vl v :: vr 5 i :: st) w := Z_putL (C := RX5) (T := TX5) (N := 32) (f := 531) tyX5 .long hC hm (by decide) rfl uw_X5 tyX5_ok nmX5 31 (by decide) fk_X5_260 rfl rfl (by decide +kernel) rfl rfl (by decide +kernel) hd pc' hp k
theorem kc_J6_265 : Cond.constant RJ6 265 (1431655765 : Int32) ∈ ww := ww_2 88 rfl rfl
theorem kc_J6_266 : Cond.constant RJ6 266 (858993459 : Int32) ∈ ww := ww_2 89 rfl rfl
theorem kc_J6_267 : Cond.constant RJ6 267 (252645135 : Int32) ∈ ww := ww_2 90 rfl rfl
theorem kc_X1_30 : Cond.constantLong RX1 30 (31 : Int64) ∈ ww := ww_3 183 rfl rfl
theorem kc_X2_78 : Cond.constant RX2 78 (518400 : Int32) ∈ ww := ww_3 15 rfl rfl
theorem kc_X3_37 : Cond.constantLong RX3 37 (31 : Int64) ∈ ww := ww_3 188 rfl rfl
theorem kc_X4_239 : Cond.constant RX4 239 (518400 : Int32) ∈ ww := ww_3 25 rfl rfl
theorem kc_X4_302 : Cond.constantLong RX4 302 (17 : Int64) ∈ ww := ww_3 173 rfl rfl
theorem kc_X4_304 : Cond.constantLong RX4 304 (31 : Int64) ∈ ww := ww_3 174 rfl rfl
theorem kc_X4_318 : Cond.constantLong RX4 318 (2147483647 : Int64) ∈ ww := ww_2 194 rfl rfl
theorem kc_X4_325 : Cond.constantLong RX4 325 (48271 : Int64) ∈ ww := ww_2 198 rfl rfl
theorem kc_X5_201 : Cond.constant RX5 201 (2147483646 : Int32) ∈ ww := ww_5 11 rfl rfl
theorem kc_X5_205 : Cond.constantLong RX5 205 (48271 : Int64) ∈ ww := ww_5 12 rfl rfl
theorem kc_X5_207 : Cond.constantLong RX5 207 (2147483647 : Int64) ∈ ww := ww_5 13 rfl rfl
theorem kc_X5_225 : Cond.constantLong RX5 225 (60 : Int64) ∈ ww := ww_5 42 rfl rfl
theorem kc_X5_258 : Cond.constantLong RX5 258 (31 : Int64) ∈ ww := ww_5 188 rfl rfl
theorem kc_X5_266 : Cond.constantLong RX5 266 (17 : Int64) ∈ ww := ww_5 183 rfl rfl
theorem ml_L_13 : Cond.methodLink RL 13 yX4_row ∈ ww := ww_1 175 rfl rfl
theorem K_L_13 {x : CX} {cc : ByteArray} {n d pc : Nat} {ls : LV} {st : List AV} {w : Wd} {i dc : Nat} {st0 : List AV} {r : Int32} {w' : Wd} (as : List AV) (hC : Cx x RL cc n d) (hm : (0, i) ∈ gis) (hM : Sp (xG x) (xl x) yX4_row cw_X4_row dc (vr 0 i :: as) w (some (vi r)) w') (hdc : dc + 1 ≤ d) (hln : ls.length = n) (hn : as.length = 2) (hst : st0 = as.reverse ++ vr 0 i :: st) (hcat : (st.map cat).sum ≤ 8) (hd : decode cc pc = .ok (.invokevirtual 13, 3)) (pc' : Nat) (hp : pc + 3 = pc') (k : Z x pc' ls (vi r :: st) w') : Z x pc ls st0 w := Z_callV (m := 2) (maxL := 3) (N := 17) (T := TX4) as hC hm (by decide) rfl ⟨rfl, by decide, by decide, by decide +kernel⟩ ml_L_13 wi_X4_row wse_X4_row wini_X4 wc_X4_row hM hdc (by decide) hln hn hst hcat hd pc' hp k
theorem ml_L_17 : Cond.methodLink RL 17 yX5_row ∈ ww := ww_4 52 rfl rfl
theorem K_L_17 {x : CX} {cc : ByteArray} {n d pc : Nat} {ls : LV} {st : List AV} {w : Wd} {i dc : Nat} {st0 : List AV} {r : Int32} {w' : Wd} (as : List AV) (hC : Cx x RL cc n d) (hm : (5, i) ∈ gis) (hM : Sp (xG x) (xl x) yX5_row cw_X5_row dc (vr 5 i :: as) w (some (vi r)) w') (hdc : dc + 1 ≤ d) (hln : ls.length = n) (hn : as.length = 2) (hst : st0 = as.reverse ++ vr 5 i :: st) (hcat : (st.map cat).sum ≤ 8) (hd : decode cc pc = .ok (.invokevirtual 17, 3)) (pc' : Nat) (hp : pc + 3 = pc') (k : Z x pc' ls (vi r :: st) w') : Z x pc ls st0 w := Z_callV (m := 2) (maxL := 4) (N := 32) (T := TX5) as hC hm (by decide) rfl ⟨rfl, by decide, by decide, by decide +kernel⟩ ml_L_17 wi_X5_row wse_X5_row wini_X5 wc_X5_row hM hdc (by decide) hln hn hst hcat hd pc' hp k
theorem ml_L_18 : Cond.methodLink RL 18 yX4_lay ∈ ww := ww_1 190 rfl rfl
theorem K_L_18 {x : CX} {cc : ByteArray} {n d pc : Nat} {ls : LV} {st : List AV} {w : Wd} {i dc : Nat} {st0 : List AV} {r : Int32} {w' : Wd} (as : List AV) (hC : Cx x RL cc n d) (hm : (0, i) ∈ gis) (hM : Sp (xG x) (xl x) yX4_lay cw_X4_lay dc (vr 0 i :: as) w (some (vi r)) w') (hdc : dc + 1 ≤ d) (hln : ls.length = n) (hn : as.length = 3) (hst : st0 = as.reverse ++ vr 0 i :: st) (hcat : (st.map cat).sum ≤ 8) (hd : decode cc pc = .ok (.invokevirtual 18, 3)) (pc' : Nat) (hp : pc + 3 = pc') (k : Z x pc' ls (vi r :: st) w') : Z x pc ls st0 w := Z_callV (m := 3) (maxL := 5) (N := 17) (T := TX4) as hC hm (by decide) rfl ⟨rfl, by decide, by decide, by decide +kernel⟩ ml_L_18 wi_X4_lay wse_X4_lay wini_X4 wc_X4_lay hM hdc (by decide) hln hn hst hcat hd pc' hp k
theorem ml_L_22 : Cond.methodLink RL 22 yX5_lay ∈ ww := ww_4 86 rfl rfl
theorem K_L_22 {x : CX} {cc : ByteArray} {n d pc : Nat} {ls : LV} {st : List AV} {w : Wd} {i dc : Nat} {st0 : List AV} {r : Int32} {w' : Wd} (as : List AV) (hC : Cx x RL cc n d) (hm : (5, i) ∈ gis) (hM : Sp (xG x) (xl x) yX5_lay cw_X5_lay dc (vr 5 i :: as) w (some (vi r)) w') (hdc : dc + 1 ≤ d) (hln : ls.length = n) (hn : as.length = 3) (hst : st0 = as.reverse ++ vr 5 i :: st) (hcat : (st.map cat).sum ≤ 8) (hd : decode cc pc = .ok (.invokevirtual 22, 3)) (pc' : Nat) (hp : pc + 3 = pc') (k : Z x pc' ls (vi r :: st) w') : Z x pc ls st0 w := Z_callV (m := 3) (maxL := 5) (N := 32) (T := TX5) as hC hm (by decide) rfl ⟨rfl, by decide, by decide, by decide +kernel⟩ ml_L_22 wi_X5_lay wse_X5_lay wini_X5 wc_X5_lay hM hdc (by decide) hln hn hst hcat hd pc' hp k
theorem ml_L_23 : Cond.methodLink RL 23 yX4_at ∈ ww := ww_1 202 rfl rfl
theorem K_L_23 {x : CX} {cc : ByteArray} {n d pc : Nat} {ls : LV} {st : List AV} {w : Wd} {i dc : Nat} {st0 : List AV} {r : Int32} {w' : Wd} (as : List AV) (hC : Cx x RL cc n d) (hm : (0, i) ∈ gis) (hM : Sp (xG x) (xl x) yX4_at cw_X4_at dc (vr 0 i :: as) w (some (vi r)) w') (hdc : dc + 1 ≤ d) (hln : ls.length = n) (hn : as.length = 2) (hst : st0 = as.reverse ++ vr 0 i :: st) (hcat : (st.map cat).sum ≤ 8) (hd : decode cc pc = .ok (.invokevirtual 23, 3)) (pc' : Nat) (hp : pc + 3 = pc') (k : Z x pc' ls (vi r :: st) w') : Z x pc ls st0 w := Z_callV (m := 2) (maxL := 4) (N := 17) (T := TX4) as hC hm (by decide) rfl ⟨rfl, by decide, by decide, by decide +kernel⟩ ml_L_23 wi_X4_at wse_X4_at wini_X4 wc_X4_at hM hdc (by decide) hln hn hst hcat hd pc' hp k
theorem ml_L_26 : Cond.methodLink RL 26 yX5_at ∈ ww := ww_4 70 rfl rfl
theorem K_L_26 {x : CX} {cc : ByteArray} {n d pc : Nat} {ls : LV} {st : List AV} {w : Wd} {i dc : Nat} {st0 : List AV} {r : Int32} {w' : Wd} (as : List AV) (hC : Cx x RL cc n d) (hm : (5, i) ∈ gis) (hM : Sp (xG x) (xl x) yX5_at cw_X5_at dc (vr 5 i :: as) w (some (vi r)) w') (hdc : dc + 1 ≤ d) (hln : ls.length = n) (hn : as.length = 2) (hst : st0 = as.reverse ++ vr 5 i :: st) (hcat : (st.map cat).sum ≤ 8) (hd : decode cc pc = .ok (.invokevirtual 26, 3)) (pc' : Nat) (hp : pc + 3 = pc') (k : Z x pc' ls (vi r :: st) w') : Z x pc ls st0 w := Z_callV (m := 2) (maxL := 4) (N := 32) (T := TX5) as hC hm (by decide) rfl ⟨rfl, by decide, by decide, by decide +kernel⟩ ml_L_26 wi_X5_at wse_X5_at wini_X5 wc_X5_at hM hdc (by decide) hln hn hst hcat hd pc' hp k
theorem ml_L_27 : Cond.methodLink RL 27 yX4_tear ∈ ww := ww_1 206 rfl rfl
theorem K_L_27 {x : CX} {cc : ByteArray} {n d pc : Nat} {ls : LV} {st : List AV} {w : Wd} {i dc : Nat} {st0 : List AV} {r : Int32} {w' : Wd} (as : List AV) (hC : Cx x RL cc n d) (hm : (0, i) ∈ gis) (hM : Sp (xG x) (xl x) yX4_tear cw_X4_tear dc (vr 0 i :: as) w (some (vi r)) w') (hdc : dc + 1 ≤ d) (hln : ls.length = n) (hn : as.length = 1) (hst : st0 = as.reverse ++ vr 0 i :: st) (hcat : (st.map cat).sum ≤ 8) (hd : decode cc pc = .ok (.invokevirtual 27, 3)) (pc' : Nat) (hp : pc + 3 = pc') (k : Z x pc' ls (vi r :: st) w') : Z x pc ls st0 w := Z_callV (m := 1) (maxL := 2) (N := 17) (T := TX4) as hC hm (by decide) rfl ⟨rfl, by decide, by decide, by decide +kernel⟩ ml_L_27 wi_X4_tear wse_X4_tear wini_X4 wc_X4_tear hM hdc (by decide) hln hn hst hcat hd pc' hp k
theorem ml_L_31 : Cond.methodLink RL 31 yX5_tear ∈ ww := ww_4 91 rfl rfl
theorem K_L_31 {x : CX} {cc : ByteArray} {n d pc : Nat} {ls : LV} {st : List AV} {w : Wd} {i dc : Nat} {st0 : List AV} {r : Int32} {w' : Wd} (as : List AV) (hC : Cx x RL cc n d) (hm : (5, i) ∈ gis) (hM : Sp (xG x) (xl x) yX5_tear cw_X5_tear dc (vr 5 i :: as) w (some (vi r)) w') (hdc : dc + 1 ≤ d) (hln : ls.length = n) (hn : as.length = 1) (hst : st0 = as.reverse ++ vr 5 i :: st) (hcat : (st.map cat).sum ≤ 8) (hd : decode cc pc = .ok (.invokevirtual 31, 3)) (pc' : Nat) (hp : pc + 3 = pc') (k : Z x pc' ls (vi r :: st) w') : Z x pc ls st0 w := Z_callV (m := 1) (maxL := 3) (N := 32) (T := TX5) as hC hm (by decide) rfl ⟨rfl, by decide, by decide, by decide +kernel⟩ ml_L_31 wi_X5_tear wse_X5_tear wini_X5 wc_X5_tear hM hdc (by decide) hln hn hst hcat hd pc' hp k
theorem ml_L_32 : Cond.methodLink RL 32 yX4_copy ∈ ww := ww_1 211 rfl rfl
theorem K_L_32 {x : CX} {cc : ByteArray} {n d pc : Nat} {ls : LV} {st : List AV} {w : Wd} {i dc : Nat} {st0 : List AV} {r : Int32} {w' : Wd} (as : List AV) (hC : Cx x RL cc n d) (hm : (0, i) ∈ gis) (hM : Sp (xG x) (xl x) yX4_copy cw_X4_copy dc (vr 0 i :: as) w (some (vi r)) w') (hdc : dc + 1 ≤ d) (hln : ls.length = n) (hn : as.length = 5) (hst : st0 = as.reverse ++ vr 0 i :: st) (hcat : (st.map cat).sum ≤ 8) (hd : decode cc pc = .ok (.invokevirtual 32, 3)) (pc' : Nat) (hp : pc + 3 = pc') (k : Z x pc' ls (vi r :: st) w') : Z x pc ls st0 w := Z_callV (m := 5) (maxL := 6) (N := 17) (T := TX4) as hC hm (by decide) rfl ⟨rfl, by decide, by decide, by decide +kernel⟩ ml_L_32 wi_X4_copy wse_X4_copy wini_X4 wc_X4_copy hM hdc (by decide) hln hn hst hcat hd pc' hp k
theorem ml_L_36 : Cond.methodLink RL 36 yX5_copy ∈ ww := ww_4 95 rfl rfl
theorem K_L_36 {x : CX} {cc : ByteArray} {n d pc : Nat} {ls : LV} {st : List AV} {w : Wd} {i dc : Nat} {st0 : List AV} {r : Int32} {w' : Wd} (as : List AV) (hC : Cx x RL cc n d) (hm : (5, i) ∈ gis) (hM : Sp (xG x) (xl x) yX5_copy cw_X5_copy dc (vr 5 i :: as) w (some (vi r)) w') (hdc : dc + 1 ≤ d) (hln : ls.length = n) (hn : as.length = 5) (hst : st0 = as.reverse ++ vr 5 i :: st) (hcat : (st.map cat).sum ≤ 8) (hd : decode cc pc = .ok (.invokevirtual 36, 3)) (pc' : Nat) (hp : pc + 3 = pc') (k : Z x pc' ls (vi r :: st) w') : Z x pc ls st0 w := Z_callV (m := 5) (maxL := 7) (N := 32) (T := TX5) as hC hm (by decide) rfl ⟨rfl, by decide, by decide, by decide +kernel⟩ ml_L_36 wi_X5_copy wse_X5_copy wini_X5 wc_X5_copy hM hdc (by decide) hln hn hst hcat hd pc' hp k
theorem ml_L_37 : Cond.methodLink RL 37 yX4_mean ∈ ww := ww_1 222 rfl rfl
theorem K_L_37 {x : CX} {cc : ByteArray} {n d pc : Nat} {ls : LV} {st : List AV} {w : Wd} {i dc : Nat} {st0 : List AV} {r : Int32} {w' : Wd} (as : List AV) (hC : Cx x RL cc n d) (hm : (0, i) ∈ gis) (hM : Sp (xG x) (xl x) yX4_mean cw_X4_mean dc (vr 0 i :: as) w (some (vi r)) w') (hdc : dc + 1 ≤ d) (hln : ls.length = n) (hn : as.length = 1) (hst : st0 = as.reverse ++ vr 0 i :: st) (hcat : (st.map cat).sum ≤ 8) (hd : decode cc pc = .ok (.invokevirtual 37, 3)) (pc' : Nat) (hp : pc + 3 = pc') (k : Z x pc' ls (vi r :: st) w') : Z x pc ls st0 w := Z_callV (m := 1) (maxL := 6) (N := 17) (T := TX4) as hC hm (by decide) rfl ⟨rfl, by decide, by decide, by decide +kernel⟩ ml_L_37 wi_X4_mean wse_X4_mean wini_X4 wc_X4_mean hM hdc (by decide) hln hn hst hcat hd pc' hp k
theorem ml_L_40 : Cond.methodLink RL 40 yX5_mean ∈ ww := ww_4 99 rfl rfl
theorem K_L_40 {x : CX} {cc : ByteArray} {n d pc : Nat} {ls : LV} {st : List AV} {w : Wd} {i dc : Nat} {st0 : List AV} {r : Int32} {w' : Wd} (as : List AV) (hC : Cx x RL cc n d) (hm : (5, i) ∈ gis) (hM : Sp (xG x) (xl x) yX5_mean cw_X5_mean dc (vr 5 i :: as) w (some (vi r)) w') (hdc : dc + 1 ≤ d) (hln : ls.length = n) (hn : as.length = 1) (hst : st0 = as.reverse ++ vr 5 i :: st) (hcat : (st.map cat).sum ≤ 8) (hd : decode cc pc = .ok (.invokevirtual 40, 3)) (pc' : Nat) (hp : pc + 3 = pc') (k : Z x pc' ls (vi r :: st) w') : Z x pc ls st0 w := Z_callV (m := 1) (maxL := 6) (N := 32) (T := TX5) as hC hm (by decide) rfl ⟨rfl, by decide, by decide, by decide +kernel⟩ ml_L_40 wi_X5_mean wse_X5_mean wini_X5 wc_X5_mean hM hdc (by decide) hln hn hst hcat hd pc' hp k
theorem ml_L_41 : Cond.methodLink RL 41 yX4_text ∈ ww := ww_1 226 rfl rfl
theorem K_L_41 {x : CX} {cc : ByteArray} {n d pc : Nat} {ls : LV} {st : List AV} {w : Wd} {i dc : Nat} {st0 : List AV} {r : Int32} {w' : Wd} (as : List AV) (hC : Cx x RL cc n d) (hm : (0, i) ∈ gis) (hM : Sp (xG x) (xl x) yX4_text cw_X4_text dc (vr 0 i :: as) w (some (vi r)) w') (hdc : dc + 1 ≤ d) (hln : ls.length = n) (hn : as.length = 2) (hst : st0 = as.reverse ++ vr 0 i :: st) (hcat : (st.map cat).sum ≤ 8) (hd : decode cc pc = .ok (.invokevirtual 41, 3)) (pc' : Nat) (hp : pc + 3 = pc') (k : Z x pc' ls (vi r :: st) w') : Z x pc ls st0 w := Z_callV (m := 2) (maxL := 3) (N := 17) (T := TX4) as hC hm (by decide) rfl ⟨rfl, by decide, by decide, by decide +kernel⟩ ml_L_41 wi_X4_text wse_X4_text wini_X4 wc_X4_text hM hdc (by decide) hln hn hst hcat hd pc' hp k
theorem ml_L_44 : Cond.methodLink RL 44 yX5_text ∈ ww := ww_4 103 rfl rfl
theorem K_L_44 {x : CX} {cc : ByteArray} {n d pc : Nat} {ls : LV} {st : List AV} {w : Wd} {i dc : Nat} {st0 : List AV} {r : Int32} {w' : Wd} (as : List AV) (hC : Cx x RL cc n d) (hm : (5, i) ∈ gis) (hM : Sp (xG x) (xl x) yX5_text cw_X5_text dc (vr 5 i :: as) w (some (vi r)) w') (hdc : dc + 1 ≤ d) (hln : ls.length = n) (hn : as.length = 2) (hst : st0 = as.reverse ++ vr 5 i :: st) (hcat : (st.map cat).sum ≤ 8) (hd : decode cc pc = .ok (.invokevirtual 44, 3)) (pc' : Nat) (hp : pc + 3 = pc') (k : Z x pc' ls (vi r :: st) w') : Z x pc ls st0 w := Z_callV (m := 2) (maxL := 4) (N := 32) (T := TX5) as hC hm (by decide) rfl ⟨rfl, by decide, by decide, by decide +kernel⟩ ml_L_44 wi_X5_text wse_X5_text wini_X5 wc_X5_text hM hdc (by decide) hln hn hst hcat hd pc' hp k
theorem ml_L_45 : Cond.methodLink RL 45 yX4_put ∈ ww := ww_2 0 rfl rfl
theorem K_L_45 {x : CX} {cc : ByteArray} {n d pc : Nat} {ls : LV} {st : List AV} {w : Wd} {i dc : Nat} {st0 : List AV} {r : Int32} {w' : Wd} (as : List AV) (hC : Cx x RL cc n d) (hm : (0, i) ∈ gis) (hM : Sp (xG x) (xl x) yX4_put cw_X4_put dc (vr 0 i :: as) w (some (vi r)) w') (hdc : dc + 1 ≤ d) (hln : ls.length = n) (hn : as.length = 3) (hst : st0 = as.reverse ++ vr 0 i :: st) (hcat : (st.map cat).sum ≤ 8) (hd : decode cc pc = .ok (.invokevirtual 45, 3)) (pc' : Nat) (hp : pc + 3 = pc') (k : Z x pc' ls (vi r :: st) w') : Z x pc ls st0 w := Z_callV (m := 3) (maxL := 5) (N := 17) (T := TX4) as hC hm (by decide) rfl ⟨rfl, by decide, by decide, by decide +kernel⟩ ml_L_45 wi_X4_put wse_X4_put wini_X4 wc_X4_put hM hdc (by decide) hln hn hst hcat hd pc' hp k
theorem ml_L_48 : Cond.methodLink RL 48 yX5_put ∈ ww := ww_4 110 rfl rfl
theorem K_L_48 {x : CX} {cc : ByteArray} {n d pc : Nat} {ls : LV} {st : List AV} {w : Wd} {i dc : Nat} {st0 : List AV} {r : Int32} {w' : Wd} (as : List AV) (hC : Cx x RL cc n d) (hm : (5, i) ∈ gis) (hM : Sp (xG x) (xl x) yX5_put cw_X5_put dc (vr 5 i :: as) w (some (vi r)) w') (hdc : dc + 1 ≤ d) (hln : ls.length = n) (hn : as.length = 3) (hst : st0 = as.reverse ++ vr 5 i :: st) (hcat : (st.map cat).sum ≤ 8) (hd : decode cc pc = .ok (.invokevirtual 48, 3)) (pc' : Nat) (hp : pc + 3 = pc') (k : Z x pc' ls (vi r :: st) w') : Z x pc ls st0 w := Z_callV (m := 3) (maxL := 6) (N := 32) (T := TX5) as hC hm (by decide) rfl ⟨rfl, by decide, by decide, by decide +kernel⟩ ml_L_48 wi_X5_put wse_X5_put wini_X5 wc_X5_put hM hdc (by decide) hln hn hst hcat hd pc' hp k
theorem ml_L_49 : Cond.methodLink RL 49 yX4_fault ∈ ww := ww_2 8 rfl rfl
theorem K_L_49 {x : CX} {cc : ByteArray} {n d pc : Nat} {ls : LV} {st : List AV} {w : Wd} {i dc : Nat} {st0 : List AV} {r : Int32} {w' : Wd} (as : List AV) (hC : Cx x RL cc n d) (hm : (0, i) ∈ gis) (hM : Sp (xG x) (xl x) yX4_fault cw_X4_fault dc (vr 0 i :: as) w (some (vi r)) w') (hdc : dc + 1 ≤ d) (hln : ls.length = n) (hn : as.length = 1) (hst : st0 = as.reverse ++ vr 0 i :: st) (hcat : (st.map cat).sum ≤ 8) (hd : decode cc pc = .ok (.invokevirtual 49, 3)) (pc' : Nat) (hp : pc + 3 = pc') (k : Z x pc' ls (vi r :: st) w') : Z x pc ls st0 w := Z_callV (m := 1) (maxL := 2) (N := 17) (T := TX4) as hC hm (by decide) rfl ⟨rfl, by decide, by decide, by decide +kernel⟩ ml_L_49 wi_X4_fault wse_X4_fault wini_X4 wc_X4_fault hM hdc (by decide) hln hn hst hcat hd pc' hp k
theorem ml_L_52 : Cond.methodLink RL 52 yX5_fault ∈ ww := ww_4 118 rfl rfl
theorem K_L_52 {x : CX} {cc : ByteArray} {n d pc : Nat} {ls : LV} {st : List AV} {w : Wd} {i dc : Nat} {st0 : List AV} {r : Int32} {w' : Wd} (as : List AV) (hC : Cx x RL cc n d) (hm : (5, i) ∈ gis) (hM : Sp (xG x) (xl x) yX5_fault cw_X5_fault dc (vr 5 i :: as) w (some (vi r)) w') (hdc : dc + 1 ≤ d) (hln : ls.length = n) (hn : as.length = 1) (hst : st0 = as.reverse ++ vr 5 i :: st) (hcat : (st.map cat).sum ≤ 8) (hd : decode cc pc = .ok (.invokevirtual 52, 3)) (pc' : Nat) (hp : pc + 3 = pc') (k : Z x pc' ls (vi r :: st) w') : Z x pc ls st0 w := Z_callV (m := 1) (maxL := 3) (N := 32) (T := TX5) as hC hm (by decide) rfl ⟨rfl, by decide, by decide, by decide +kernel⟩ ml_L_52 wi_X5_fault wse_X5_fault wini_X5 wc_X5_fault hM hdc (by decide) hln hn hst hcat hd pc' hp k
theorem ml_L_53 : Cond.methodLink RL 53 yX4_office ∈ ww := ww_2 25 rfl rfl
theorem K_L_53 {x : CX} {cc : ByteArray} {n d pc : Nat} {ls : LV} {st : List AV} {w : Wd} {i dc : Nat} {st0 : List AV} {r : Int32} {w' : Wd} (as : List AV) (hC : Cx x RL cc n d) (hm : (0, i) ∈ gis) (hM : Sp (xG x) (xl x) yX4_office cw_X4_office dc (vr 0 i :: as) w (some (vi r)) w') (hdc : dc + 1 ≤ d) (hln : ls.length = n) (hn : as.length = 1) (hst : st0 = as.reverse ++ vr 0 i :: st) (hcat : (st.map cat).sum ≤ 8) (hd : decode cc pc = .ok (.invokevirtual 53, 3)) (pc' : Nat) (hp : pc + 3 = pc') (k : Z x pc' ls (vi r :: st) w') : Z x pc ls st0 w := Z_callV (m := 1) (maxL := 2) (N := 17) (T := TX4) as hC hm (by decide) rfl ⟨rfl, by decide, by decide, by decide +kernel⟩ ml_L_53 wi_X4_office wse_X4_office wini_X4 wc_X4_office hM hdc (by decide) hln hn hst hcat hd pc' hp k
theorem ml_L_56 : Cond.methodLink RL 56 yX5_office ∈ ww := ww_4 137 rfl rfl
theorem K_L_56 {x : CX} {cc : ByteArray} {n d pc : Nat} {ls : LV} {st : List AV} {w : Wd} {i dc : Nat} {st0 : List AV} {r : Int32} {w' : Wd} (as : List AV) (hC : Cx x RL cc n d) (hm : (5, i) ∈ gis) (hM : Sp (xG x) (xl x) yX5_office cw_X5_office dc (vr 5 i :: as) w (some (vi r)) w') (hdc : dc + 1 ≤ d) (hln : ls.length = n) (hn : as.length = 1) (hst : st0 = as.reverse ++ vr 5 i :: st) (hcat : (st.map cat).sum ≤ 8) (hd : decode cc pc = .ok (.invokevirtual 56, 3)) (pc' : Nat) (hp : pc + 3 = pc') (k : Z x pc' ls (vi r :: st) w') : Z x pc ls st0 w := Z_callV (m := 1) (maxL := 4) (N := 32) (T := TX5) as hC hm (by decide) rfl ⟨rfl, by decide, by decide, by decide +kernel⟩ ml_L_56 wi_X5_office wse_X5_office wini_X5 wc_X5_office hM hdc (by decide) hln hn hst hcat hd pc' hp k
theorem ml_L_57 : Cond.methodLink RL 57 yX4_mate ∈ ww := ww_2 34 rfl rfl
theorem K_L_57 {x : CX} {cc : ByteArray} {n d pc : Nat} {ls : LV} {st : List AV} {w : Wd} {i dc : Nat} {st0 : List AV} {r : Int32} {w' : Wd} (as : List AV) (hC : Cx x RL cc n d) (hm : (0, i) ∈ gis) (hM : Sp (xG x) (xl x) yX4_mate cw_X4_mate dc (vr 0 i :: as) w (some (vi r)) w') (hdc : dc + 1 ≤ d) (hln : ls.length = n) (hn : as.length = 2) (hst : st0 = as.reverse ++ vr 0 i :: st) (hcat : (st.map cat).sum ≤ 8) (hd : decode cc pc = .ok (.invokevirtual 57, 3)) (pc' : Nat) (hp : pc + 3 = pc') (k : Z x pc' ls (vi r :: st) w') : Z x pc ls st0 w := Z_callV (m := 2) (maxL := 3) (N := 17) (T := TX4) as hC hm (by decide) rfl ⟨rfl, by decide, by decide, by decide +kernel⟩ ml_L_57 wi_X4_mate wse_X4_mate wini_X4 wc_X4_mate hM hdc (by decide) hln hn hst hcat hd pc' hp k
theorem ml_L_60 : Cond.methodLink RL 60 yX5_mate ∈ ww := ww_4 141 rfl rfl
theorem K_L_60 {x : CX} {cc : ByteArray} {n d pc : Nat} {ls : LV} {st : List AV} {w : Wd} {i dc : Nat} {st0 : List AV} {r : Int32} {w' : Wd} (as : List AV) (hC : Cx x RL cc n d) (hm : (5, i) ∈ gis) (hM : Sp (xG x) (xl x) yX5_mate cw_X5_mate dc (vr 5 i :: as) w (some (vi r)) w') (hdc : dc + 1 ≤ d) (hln : ls.length = n) (hn : as.length = 2) (hst : st0 = as.reverse ++ vr 5 i :: st) (hcat : (st.map cat).sum ≤ 8) (hd : decode cc pc = .ok (.invokevirtual 60, 3)) (pc' : Nat) (hp : pc + 3 = pc') (k : Z x pc' ls (vi r :: st) w') : Z x pc ls st0 w := Z_callV (m := 2) (maxL := 3) (N := 32) (T := TX5) as hC hm (by decide) rfl ⟨rfl, by decide, by decide, by decide +kernel⟩ ml_L_60 wi_X5_mate wse_X5_mate wini_X5 wc_X5_mate hM hdc (by decide) hln hn hst hcat hd pc' hp k
theorem ml_L_61 : Cond.methodLink RL 61 yX4_mark ∈ ww := ww_2 53 rfl rfl
theorem K_L_61 {x : CX} {cc : ByteArray} {n d pc : Nat} {ls : LV} {st : List AV} {w : Wd} {i dc : Nat} {st0 : List AV} {r : Int32} {w' : Wd} (as : List AV) (hC : Cx x RL cc n d) (hm : (0, i) ∈ gis) (hM : Sp (xG x) (xl x) yX4_mark cw_X4_mark dc (vr 0 i :: as) w (some (vi r)) w') (hdc : dc + 1 ≤ d) (hln : ls.length = n) (hn : as.length = 2) (hst : st0 = as.reverse ++ vr 0 i :: st) (hcat : (st.map cat).sum ≤ 8) (hd : decode cc pc = .ok (.invokevirtual 61, 3)) (pc' : Nat) (hp : pc + 3 = pc') (k : Z x pc' ls (vi r :: st) w') : Z x pc ls st0 w := Z_callV (m := 2) (maxL := 3) (N := 17) (T := TX4) as hC hm (by decide) rfl ⟨rfl, by decide, by decide, by decide +kernel⟩ ml_L_61 wi_X4_mark wse_X4_mark wini_X4 wc_X4_mark hM hdc (by decide) hln hn hst hcat hd pc' hp k
theorem ml_L_64 : Cond.methodLink RL 64 yX5_mark ∈ ww := ww_4 157 rfl rfl
theorem K_L_64 {x : CX} {cc : ByteArray} {n d pc : Nat} {ls : LV} {st : List AV} {w : Wd} {i dc : Nat} {st0 : List AV} {r : Int32} {w' : Wd} (as : List AV) (hC : Cx x RL cc n d) (hm : (5, i) ∈ gis) (hM : Sp (xG x) (xl x) yX5_mark cw_X5_mark dc (vr 5 i :: as) w (some (vi r)) w') (hdc : dc + 1 ≤ d) (hln : ls.length = n) (hn : as.length = 2) (hst : st0 = as.reverse ++ vr 5 i :: st) (hcat : (st.map cat).sum ≤ 8) (hd : decode cc pc = .ok (.invokevirtual 64, 3)) (pc' : Nat) (hp : pc + 3 = pc') (k : Z x pc' ls (vi r :: st) w') : Z x pc ls st0 w := Z_callV (m := 2) (maxL := 6) (N := 32) (T := TX5) as hC hm (by decide) rfl ⟨rfl, by decide, by decide, by decide +kernel⟩ ml_L_64 wi_X5_mark wse_X5_mark wini_X5 wc_X5_mark hM hdc (by decide) hln hn hst hcat hd pc' hp k
theorem ml_L_65 : Cond.methodLink RL 65 yX4_rules ∈ ww := ww_2 95 rfl rfl
theorem K_L_65 {x : CX} {cc : ByteArray} {n d pc : Nat} {ls : LV} {st : List AV} {w : Wd} {i dc : Nat} {st0 : List AV} {r : Int32} {w' : Wd} (as : List AV) (hC : Cx x RL cc n d) (hm : (0, i) ∈ gis) (hM : Sp (xG x) (xl x) yX4_rules cw_X4_rules dc (vr 0 i :: as) w (some (vi r)) w') (hdc : dc + 1 ≤ d) (hln : ls.length = n) (hn : as.length = 1) (hst : st0 = as.reverse ++ vr 0 i :: st) (hcat : (st.map cat).sum ≤ 8) (hd : decode cc pc = .ok (.invokevirtual 65, 3)) (pc' : Nat) (hp : pc + 3 = pc') (k : Z x pc' ls (vi r :: st) w') : Z x pc ls st0 w := Z_callV (m := 1) (maxL := 3) (N := 17) (T := TX4) as hC hm (by decide) rfl ⟨rfl, by decide, by decide, by decide +kernel⟩ ml_L_65 wi_X4_rules wse_X4_rules wini_X4 wc_X4_rules hM hdc (by decide) hln hn hst hcat hd pc' hp k
theorem ml_L_68 : Cond.methodLink RL 68 yX5_rules ∈ ww := ww_4 179 rfl rfl
theorem K_L_68 {x : CX} {cc : ByteArray} {n d pc : Nat} {ls : LV} {st : List AV} {w : Wd} {i dc : Nat} {st0 : List AV} {r : Int32} {w' : Wd} (as : List AV) (hC : Cx x RL cc n d) (hm : (5, i) ∈ gis) (hM : Sp (xG x) (xl x) yX5_rules cw_X5_rules dc (vr 5 i :: as) w (some (vi r)) w') (hdc : dc + 1 ≤ d) (hln : ls.length = n) (hn : as.length = 1) (hst : st0 = as.reverse ++ vr 5 i :: st) (hcat : (st.map cat).sum ≤ 8) (hd : decode cc pc = .ok (.invokevirtual 68, 3)) (pc' : Nat) (hp : pc + 3 = pc') (k : Z x pc' ls (vi r :: st) w') : Z x pc ls st0 w := Z_callV (m := 1) (maxL := 3) (N := 32) (T := TX5) as hC hm (by decide) rfl ⟨rfl, by decide, by decide, by decide +kernel⟩ ml_L_68 wi_X5_rules wse_X5_rules wini_X5 wc_X5_rules hM hdc (by decide) hln hn hst hcat hd pc' hp k
theorem ml_L_69 : Cond.methodLink RL 69 yX4_move ∈ ww := ww_2 99 rfl rfl
theorem K_L_69 {x : CX} {cc : ByteArray} {n d pc : Nat} {ls : LV} {st : List AV} {w : Wd} {i dc : Nat} {st0 : List AV} {r : Int32} {w' : Wd} (as : List AV) (hC : Cx x RL cc n d) (hm : (0, i) ∈ gis) (hM : Sp (xG x) (xl x) yX4_move cw_X4_move dc (vr 0 i :: as) w (some (vi r)) w') (hdc : dc + 1 ≤ d) (hln : ls.length = n) (hn : as.length = 2) (hst : st0 = as.reverse ++ vr 0 i :: st) (hcat : (st.map cat).sum ≤ 8) (hd : decode cc pc = .ok (.invokevirtual 69, 3)) (pc' : Nat) (hp : pc + 3 = pc') (k : Z x pc' ls (vi r :: st) w') : Z x pc ls st0 w := Z_callV (m := 2) (maxL := 4) (N := 17) (T := TX4) as hC hm (by decide) rfl ⟨rfl, by decide, by decide, by decide +kernel⟩ ml_L_69 wi_X4_move wse_X4_move wini_X4 wc_X4_move hM hdc (by decide) hln hn hst hcat hd pc' hp k
theorem ml_L_72 : Cond.methodLink RL 72 yX5_move ∈ ww := ww_4 183 rfl rfl
theorem K_L_72 {x : CX} {cc : ByteArray} {n d pc : Nat} {ls : LV} {st : List AV} {w : Wd} {i dc : Nat} {st0 : List AV} {r : Int32} {w' : Wd} (as : List AV) (hC : Cx x RL cc n d) (hm : (5, i) ∈ gis) (hM : Sp (xG x) (xl x) yX5_move cw_X5_move dc (vr 5 i :: as) w (some (vi r)) w') (hdc : dc + 1 ≤ d) (hln : ls.length = n) (hn : as.length = 2) (hst : st0 = as.reverse ++ vr 5 i :: st) (hcat : (st.map cat).sum ≤ 8) (hd : decode cc pc = .ok (.invokevirtual 72, 3)) (pc' : Nat) (hp : pc + 3 = pc') (k : Z x pc' ls (vi r :: st) w') : Z x pc ls st0 w := Z_callV (m := 2) (maxL := 4) (N := 32) (T := TX5) as hC hm (by decide) rfl ⟨rfl, by decide, by decide, by decide +kernel⟩ ml_L_72 wi_X5_move wse_X5_move wini_X5 wc_X5_move hM hdc (by decide) hln hn hst hcat hd pc' hp k
theorem ml_L_73 : Cond.methodLink RL 73 yX4_may ∈ ww := ww_2 103 rfl rfl
theorem K_L_73 {x : CX} {cc : ByteArray} {n d pc : Nat} {ls : LV} {st : List AV} {w : Wd} {i dc : Nat} {st0 : List AV} {r : Int32} {w' : Wd} (as : List AV) (hC : Cx x RL cc n d) (hm : (0, i) ∈ gis) (hM : Sp (xG x) (xl x) yX4_may cw_X4_may dc (vr 0 i :: as) w (some (vi r)) w') (hdc : dc + 1 ≤ d) (hln : ls.length = n) (hn : as.length = 1) (hst : st0 = as.reverse ++ vr 0 i :: st) (hcat : (st.map cat).sum ≤ 8) (hd : decode cc pc = .ok (.invokevirtual 73, 3)) (pc' : Nat) (hp : pc + 3 = pc') (k : Z x pc' ls (vi r :: st) w') : Z x pc ls st0 w := Z_callV (m := 1) (maxL := 2) (N := 17) (T := TX4) as hC hm (by decide) rfl ⟨rfl, by decide, by decide, by decide +kernel⟩ ml_L_73 wi_X4_may wse_X4_may wini_X4 wc_X4_may hM hdc (by decide) hln hn hst hcat hd pc' hp k
theorem ml_L_76 : Cond.methodLink RL 76 yX5_may ∈ ww := ww_4 187 rfl rfl
theorem K_L_76 {x : CX} {cc : ByteArray} {n d pc : Nat} {ls : LV} {st : List AV} {w : Wd} {i dc : Nat} {st0 : List AV} {r : Int32} {w' : Wd} (as : List AV) (hC : Cx x RL cc n d) (hm : (5, i) ∈ gis) (hM : Sp (xG x) (xl x) yX5_may cw_X5_may dc (vr 5 i :: as) w (some (vi r)) w') (hdc : dc + 1 ≤ d) (hln : ls.length = n) (hn : as.length = 1) (hst : st0 = as.reverse ++ vr 5 i :: st) (hcat : (st.map cat).sum ≤ 8) (hd : decode cc pc = .ok (.invokevirtual 76, 3)) (pc' : Nat) (hp : pc + 3 = pc') (k : Z x pc' ls (vi r :: st) w') : Z x pc ls st0 w := Z_callV (m := 1) (maxL := 2) (N := 32) (T := TX5) as hC hm (by decide) rfl ⟨rfl, by decide, by decide, by decide +kernel⟩ ml_L_76 wi_X5_may wse_X5_may wini_X5 wc_X5_may hM hdc (by decide) hln hn hst hcat hd pc' hp k
theorem ml_L_77 : Cond.methodLink RL 77 yX4_judge ∈ ww := ww_2 107 rfl rfl
theorem K_L_77 {x : CX} {cc : ByteArray} {n d pc : Nat} {ls : LV} {st : List AV} {w : Wd} {i dc : Nat} {st0 : List AV} {r : Int32} {w' : Wd} (as : List AV) (hC : Cx x RL cc n d) (hm : (0, i) ∈ gis) (hM : Sp (xG x) (xl x) yX4_judge cw_X4_judge dc (vr 0 i :: as) w (some (vi r)) w') (hdc : dc + 1 ≤ d) (hln : ls.length = n) (hn : as.length = 1) (hst : st0 = as.reverse ++ vr 0 i :: st) (hcat : (st.map cat).sum ≤ 8) (hd : decode cc pc = .ok (.invokevirtual 77, 3)) (pc' : Nat) (hp : pc + 3 = pc') (k : Z x pc' ls (vi r :: st) w') : Z x pc ls st0 w := Z_callV (m := 1) (maxL := 5) (N := 17) (T := TX4) as hC hm (by decide) rfl ⟨rfl, by decide, by decide, by decide +kernel⟩ ml_L_77 wi_X4_judge wse_X4_judge wini_X4 wc_X4_judge hM hdc (by decide) hln hn hst hcat hd pc' hp k
theorem ml_L_80 : Cond.methodLink RL 80 yX5_judge ∈ ww := ww_4 191 rfl rfl
theorem K_L_80 {x : CX} {cc : ByteArray} {n d pc : Nat} {ls : LV} {st : List AV} {w : Wd} {i dc : Nat} {st0 : List AV} {r : Int32} {w' : Wd} (as : List AV) (hC : Cx x RL cc n d) (hm : (5, i) ∈ gis) (hM : Sp (xG x) (xl x) yX5_judge cw_X5_judge dc (vr 5 i :: as) w (some (vi r)) w') (hdc : dc + 1 ≤ d) (hln : ls.length = n) (hn : as.length = 1) (hst : st0 = as.reverse ++ vr 5 i :: st) (hcat : (st.map cat).sum ≤ 8) (hd : decode cc pc = .ok (.invokevirtual 80, 3)) (pc' : Nat) (hp : pc + 3 = pc') (k : Z x pc' ls (vi r :: st) w') : Z x pc ls st0 w := Z_callV (m := 1) (maxL := 4) (N := 32) (T := TX5) as hC hm (by decide) rfl ⟨rfl, by decide, by decide, by decide +kernel⟩ ml_L_80 wi_X5_judge wse_X5_judge wini_X5 wc_X5_judge hM hdc (by decide) hln hn hst hcat hd pc' hp k
theorem ml_L_81 : Cond.methodLink RL 81 yX4_ways ∈ ww := ww_2 134 rfl rfl
theorem K_L_81 {x : CX} {cc : ByteArray} {n d pc : Nat} {ls : LV} {st : List AV} {w : Wd} {i dc : Nat} {st0 : List AV} {r : Int32} {w' : Wd} (as : List AV) (hC : Cx x RL cc n d) (hm : (0, i) ∈ gis) (hM : Sp (xG x) (xl x) yX4_ways cw_X4_ways dc (vr 0 i :: as) w (some (vi r)) w') (hdc : dc + 1 ≤ d) (hln : ls.length = n) (hn : as.length = 0) (hst : st0 = as.reverse ++ vr 0 i :: st) (hcat : (st.map cat).sum ≤ 8) (hd : decode cc pc = .ok (.invokevirtual 81, 3)) (pc' : Nat) (hp : pc + 3 = pc') (k : Z x pc' ls (vi r :: st) w') : Z x pc ls st0 w := Z_callV (m := 0) (maxL := 1) (N := 17) (T := TX4) as hC hm (by decide) rfl ⟨rfl, by decide, by decide, by decide +kernel⟩ ml_L_81 wi_X4_ways wse_X4_ways wini_X4 wc_X4_ways hM hdc (by decide) hln hn hst hcat hd pc' hp k
theorem ml_L_85 : Cond.methodLink RL 85 yX5_ways ∈ ww := ww_4 211 rfl rfl
theorem K_L_85 {x : CX} {cc : ByteArray} {n d pc : Nat} {ls : LV} {st : List AV} {w : Wd} {i dc : Nat} {st0 : List AV} {r : Int32} {w' : Wd} (as : List AV) (hC : Cx x RL cc n d) (hm : (5, i) ∈ gis) (hM : Sp (xG x) (xl x) yX5_ways cw_X5_ways dc (vr 5 i :: as) w (some (vi r)) w') (hdc : dc + 1 ≤ d) (hln : ls.length = n) (hn : as.length = 0) (hst : st0 = as.reverse ++ vr 5 i :: st) (hcat : (st.map cat).sum ≤ 8) (hd : decode cc pc = .ok (.invokevirtual 85, 3)) (pc' : Nat) (hp : pc + 3 = pc') (k : Z x pc' ls (vi r :: st) w') : Z x pc ls st0 w := Z_callV (m := 0) (maxL := 1) (N := 32) (T := TX5) as hC hm (by decide) rfl ⟨rfl, by decide, by decide, by decide +kernel⟩ ml_L_85 wi_X5_ways wse_X5_ways wini_X5 wc_X5_ways hM hdc (by decide) hln hn hst hcat hd pc' hp k
theorem ml_L_86 : Cond.methodLink RL 86 yX4_nth ∈ ww := ww_2 167 rfl rfl
theorem K_L_86 {x : CX} {cc : ByteArray} {n d pc : Nat} {ls : LV} {st : List AV} {w : Wd} {i dc : Nat} {st0 : List AV} {r : Int32} {w' : Wd} (as : List AV) (hC : Cx x RL cc n d) (hm : (0, i) ∈ gis) (hM : Sp (xG x) (xl x) yX4_nth cw_X4_nth dc (vr 0 i :: as) w (some (vi r)) w') (hdc : dc + 1 ≤ d) (hln : ls.length = n) (hn : as.length = 2) (hst : st0 = as.reverse ++ vr 0 i :: st) (hcat : (st.map cat).sum ≤ 8) (hd : decode cc pc = .ok (.invokevirtual 86, 3)) (pc' : Nat) (hp : pc + 3 = pc') (k : Z x pc' ls (vi r :: st) w') : Z x pc ls st0 w := Z_callV (m := 2) (maxL := 3) (N := 17) (T := TX4) as hC hm (by decide) rfl ⟨rfl, by decide, by decide, by decide +kernel⟩ ml_L_86 wi_X4_nth wse_X4_nth wini_X4 wc_X4_nth hM hdc (by decide) hln hn hst hcat hd pc' hp k
theorem ml_L_89 : Cond.methodLink RL 89 yX5_nth ∈ ww := ww_4 223 rfl rfl
theorem K_L_89 {x : CX} {cc : ByteArray} {n d pc : Nat} {ls : LV} {st : List AV} {w : Wd} {i dc : Nat} {st0 : List AV} {r : Int32} {w' : Wd} (as : List AV) (hC : Cx x RL cc n d) (hm : (5, i) ∈ gis) (hM : Sp (xG x) (xl x) yX5_nth cw_X5_nth dc (vr 5 i :: as) w (some (vi r)) w') (hdc : dc + 1 ≤ d) (hln : ls.length = n) (hn : as.length = 2) (hst : st0 = as.reverse ++ vr 5 i :: st) (hcat : (st.map cat).sum ≤ 8) (hd : decode cc pc = .ok (.invokevirtual 89, 3)) (pc' : Nat) (hp : pc + 3 = pc') (k : Z x pc' ls (vi r :: st) w') : Z x pc ls st0 w := Z_callV (m := 2) (maxL := 3) (N := 32) (T := TX5) as hC hm (by decide) rfl ⟨rfl, by decide, by decide, by decide +kernel⟩ ml_L_89 wi_X5_nth wse_X5_nth wini_X5 wc_X5_nth hM hdc (by decide) hln hn hst hcat hd pc' hp k
theorem ml_L_90 : Cond.methodLink RL 90 yX4_number ∈ ww := ww_2 175 rfl rfl
theorem K_L_90 {x : CX} {cc : ByteArray} {n d pc : Nat} {ls : LV} {st : List AV} {w : Wd} {i dc : Nat} {st0 : List AV} {r : Int32} {w' : Wd} (as : List AV) (hC : Cx x RL cc n d) (hm : (0, i) ∈ gis) (hM : Sp (xG x) (xl x) yX4_number cw_X4_number dc (vr 0 i :: as) w (some (vi r)) w') (hdc : dc + 1 ≤ d) (hln : ls.length = n) (hn : as.length = 1) (hst : st0 = as.reverse ++ vr 0 i :: st) (hcat : (st.map cat).sum ≤ 8) (hd : decode cc pc = .ok (.invokevirtual 90, 3)) (pc' : Nat) (hp : pc + 3 = pc') (k : Z x pc' ls (vi r :: st) w') : Z x pc ls st0 w := Z_callV (m := 1) (maxL := 3) (N := 17) (T := TX4) as hC hm (by decide) rfl ⟨rfl, by decide, by decide, by decide +kernel⟩ ml_L_90 wi_X4_number wse_X4_number wini_X4 wc_X4_number hM hdc (by decide) hln hn hst hcat hd pc' hp k
theorem ml_L_93 : Cond.methodLink RL 93 yX5_number ∈ ww := ww_4 236 rfl rfl
theorem K_L_93 {x : CX} {cc : ByteArray} {n d pc : Nat} {ls : LV} {st : List AV} {w : Wd} {i dc : Nat} {st0 : List AV} {r : Int32} {w' : Wd} (as : List AV) (hC : Cx x RL cc n d) (hm : (5, i) ∈ gis) (hM : Sp (xG x) (xl x) yX5_number cw_X5_number dc (vr 5 i :: as) w (some (vi r)) w') (hdc : dc + 1 ≤ d) (hln : ls.length = n) (hn : as.length = 1) (hst : st0 = as.reverse ++ vr 5 i :: st) (hcat : (st.map cat).sum ≤ 8) (hd : decode cc pc = .ok (.invokevirtual 93, 3)) (pc' : Nat) (hp : pc + 3 = pc') (k : Z x pc' ls (vi r :: st) w') : Z x pc ls st0 w := Z_callV (m := 1) (maxL := 3) (N := 32) (T := TX5) as hC hm (by decide) rfl ⟨rfl, by decide, by decide, by decide +kernel⟩ ml_L_93 wi_X5_number wse_X5_number wini_X5 wc_X5_number hM hdc (by decide) hln hn hst hcat hd pc' hp k
theorem ml_L_94 : Cond.methodLink RL 94 yX4_lot ∈ ww := ww_2 187 rfl rfl
theorem K_L_94 {x : CX} {cc : ByteArray} {n d pc : Nat} {ls : LV} {st : List AV} {w : Wd} {i dc : Nat} {st0 : List AV} {r : Int32} {w' : Wd} (as : List AV) (hC : Cx x RL cc n d) (hm : (0, i) ∈ gis) (hM : Sp (xG x) (xl x) yX4_lot cw_X4_lot dc (vr 0 i :: as) w (some (vi r)) w') (hdc : dc + 1 ≤ d) (hln : ls.length = n) (hn : as.length = 2) (hst : st0 = as.reverse ++ vr 0 i :: st) (hcat : (st.map cat).sum ≤ 8) (hd : decode cc pc = .ok (.invokevirtual 94, 3)) (pc' : Nat) (hp : pc + 3 = pc') (k : Z x pc' ls (vi r :: st) w') : Z x pc ls st0 w := Z_callV (m := 2) (maxL := 4) (N := 17) (T := TX4) as hC hm (by decide) rfl ⟨rfl, by decide, by decide, by decide +kernel⟩ ml_L_94 wi_X4_lot wse_X4_lot wini_X4 wc_X4_lot hM hdc (by decide) hln hn hst hcat hd pc' hp k
theorem ml_L_97 : Cond.methodLink RL 97 yX5_lot ∈ ww := ww_5 4 rfl rfl
theorem K_L_97 {x : CX} {cc : ByteArray} {n d pc : Nat} {ls : LV} {st : List AV} {w : Wd} {i dc : Nat} {st0 : List AV} {r : Int32} {w' : Wd} (as : List AV) (hC : Cx x RL cc n d) (hm : (5, i) ∈ gis) (hM : Sp (xG x) (xl x) yX5_lot cw_X5_lot dc (vr 5 i :: as) w (some (vi r)) w') (hdc : dc + 1 ≤ d) (hln : ls.length = n) (hn : as.length = 2) (hst : st0 = as.reverse ++ vr 5 i :: st) (hcat : (st.map cat).sum ≤ 8) (hd : decode cc pc = .ok (.invokevirtual 97, 3)) (pc' : Nat) (hp : pc + 3 = pc') (k : Z x pc' ls (vi r :: st) w') : Z x pc ls st0 w := Z_callV (m := 2) (maxL := 4) (N := 32) (T := TX5) as hC hm (by decide) rfl ⟨rfl, by decide, by decide, by decide +kernel⟩ ml_L_97 wi_X5_lot wse_X5_lot wini_X5 wc_X5_lot hM hdc (by decide) hln hn hst hcat hd pc' hp k
theorem ml_L_98 : Cond.methodLink RL 98 yX4_draw ∈ ww := ww_2 199 rfl rfl
theorem K_L_98 {x : CX} {cc : ByteArray} {n d pc : Nat} {ls : LV} {st : List AV} {w : Wd} {i dc : Nat} {st0 : List AV} {r : Int32} {w' : Wd} (as : List AV) (hC : Cx x RL cc n d) (hm : (0, i) ∈ gis) (hM : Sp (xG x) (xl x) yX4_draw cw_X4_draw dc (vr 0 i :: as) w (some (vi r)) w') (hdc : dc + 1 ≤ d) (hln : ls.length = n) (hn : as.length = 1) (hst : st0 = as.reverse ++ vr 0 i :: st) (hcat : (st.map cat).sum ≤ 8) (hd : decode cc pc = .ok (.invokevirtual 98, 3)) (pc' : Nat) (hp : pc + 3 = pc') (k : Z x pc' ls (vi r :: st) w') : Z x pc ls st0 w := Z_callV (m := 1) (maxL := 2) (N := 17) (T := TX4) as hC hm (by decide) rfl ⟨rfl, by decide, by decide, by decide +kernel⟩ ml_L_98 wi_X4_draw wse_X4_draw wini_X4 wc_X4_draw hM hdc (by decide) hln hn hst hcat hd pc' hp k
theorem ml_L_101 : Cond.methodLink RL 101 yX5_draw ∈ ww := ww_5 14 rfl rfl
theorem K_L_101 {x : CX} {cc : ByteArray} {n d pc : Nat} {ls : LV} {st : List AV} {w : Wd} {i dc : Nat} {st0 : List AV} {r : Int32} {w' : Wd} (as : List AV) (hC : Cx x RL cc n d) (hm : (5, i) ∈ gis) (hM : Sp (xG x) (xl x) yX5_draw cw_X5_draw dc (vr 5 i :: as) w (some (vi r)) w') (hdc : dc + 1 ≤ d) (hln : ls.length = n) (hn : as.length = 1) (hst : st0 = as.reverse ++ vr 5 i :: st) (hcat : (st.map cat).sum ≤ 8) (hd : decode cc pc = .ok (.invokevirtual 101, 3)) (pc' : Nat) (hp : pc + 3 = pc') (k : Z x pc' ls (vi r :: st) w') : Z x pc ls st0 w := Z_callV (m := 1) (maxL := 3) (N := 32) (T := TX5) as hC hm (by decide) rfl ⟨rfl, by decide, by decide, by decide +kernel⟩ ml_L_101 wi_X5_draw wse_X5_draw wini_X5 wc_X5_draw hM hdc (by decide) hln hn hst hcat hd pc' hp k
theorem ml_L_102 : Cond.methodLink RL 102 yX4_undo ∈ ww := ww_2 213 rfl rfl
theorem K_L_102 {x : CX} {cc : ByteArray} {n d pc : Nat} {ls : LV} {st : List AV} {w : Wd} {i dc : Nat} {st0 : List AV} {r : Int32} {w' : Wd} (as : List AV) (hC : Cx x RL cc n d) (hm : (0, i) ∈ gis) (hM : Sp (xG x) (xl x) yX4_undo cw_X4_undo dc (vr 0 i :: as) w (some (vi r)) w') (hdc : dc + 1 ≤ d) (hln : ls.length = n) (hn : as.length = 1) (hst : st0 = as.reverse ++ vr 0 i :: st) (hcat : (st.map cat).sum ≤ 8) (hd : decode cc pc = .ok (.invokevirtual 102, 3)) (pc' : Nat) (hp : pc + 3 = pc') (k : Z x pc' ls (vi r :: st) w') : Z x pc ls st0 w := Z_callV (m := 1) (maxL := 3) (N := 17) (T := TX4) as hC hm (by decide) rfl ⟨rfl, by decide, by decide, by decide +kernel⟩ ml_L_102 wi_X4_undo wse_X4_undo wini_X4 wc_X4_undo hM hdc (by decide) hln hn hst hcat hd pc' hp k
theorem ml_L_105 : Cond.methodLink RL 105 yX5_undo ∈ ww := ww_5 18 rfl rfl
theorem K_L_105 {x : CX} {cc : ByteArray} {n d pc : Nat} {ls : LV} {st : List AV} {w : Wd} {i dc : Nat} {st0 : List AV} {r : Int32} {w' : Wd} (as : List AV) (hC : Cx x RL cc n d) (hm : (5, i) ∈ gis) (hM : Sp (xG x) (xl x) yX5_undo cw_X5_undo dc (vr 5 i :: as) w (some (vi r)) w') (hdc : dc + 1 ≤ d) (hln : ls.length = n) (hn : as.length = 1) (hst : st0 = as.reverse ++ vr 5 i :: st) (hcat : (st.map cat).sum ≤ 8) (hd : decode cc pc = .ok (.invokevirtual 105, 3)) (pc' : Nat) (hp : pc + 3 = pc') (k : Z x pc' ls (vi r :: st) w') : Z x pc ls st0 w := Z_callV (m := 1) (maxL := 3) (N := 32) (T := TX5) as hC hm (by decide) rfl ⟨rfl, by decide, by decide, by decide +kernel⟩ ml_L_105 wi_X5_undo wse_X5_undo wini_X5 wc_X5_undo hM hdc (by decide) hln hn hst hcat hd pc' hp k
theorem ml_L_106 : Cond.methodLink RL 106 yX4_drew ∈ ww := ww_2 220 rfl rfl
theorem K_L_106 {x : CX} {cc : ByteArray} {n d pc : Nat} {ls : LV} {st : List AV} {w : Wd} {i dc : Nat} {st0 : List AV} {r : Int32} {w' : Wd} (as : List AV) (hC : Cx x RL cc n d) (hm : (0, i) ∈ gis) (hM : Sp (xG x) (xl x) yX4_drew cw_X4_drew dc (vr 0 i :: as) w (some (vi r)) w') (hdc : dc + 1 ≤ d) (hln : ls.length = n) (hn : as.length = 1) (hst : st0 = as.reverse ++ vr 0 i :: st) (hcat : (st.map cat).sum ≤ 8) (hd : decode cc pc = .ok (.invokevirtual 106, 3)) (pc' : Nat) (hp : pc + 3 = pc') (k : Z x pc' ls (vi r :: st) w') : Z x pc ls st0 w := Z_callV (m := 1) (maxL := 2) (N := 17) (T := TX4) as hC hm (by decide) rfl ⟨rfl, by decide, by decide, by decide +kernel⟩ ml_L_106 wi_X4_drew wse_X4_drew wini_X4 wc_X4_drew hM hdc (by decide) hln hn hst hcat hd pc' hp k
theorem ml_L_109 : Cond.methodLink RL 109 yX5_drew ∈ ww := ww_5 22 rfl rfl
theorem K_L_109 {x : CX} {cc : ByteArray} {n d pc : Nat} {ls : LV} {st : List AV} {w : Wd} {i dc : Nat} {st0 : List AV} {r : Int32} {w' : Wd} (as : List AV) (hC : Cx x RL cc n d) (hm : (5, i) ∈ gis) (hM : Sp (xG x) (xl x) yX5_drew cw_X5_drew dc (vr 5 i :: as) w (some (vi r)) w') (hdc : dc + 1 ≤ d) (hln : ls.length = n) (hn : as.length = 1) (hst : st0 = as.reverse ++ vr 5 i :: st) (hcat : (st.map cat).sum ≤ 8) (hd : decode cc pc = .ok (.invokevirtual 109, 3)) (pc' : Nat) (hp : pc + 3 = pc') (k : Z x pc' ls (vi r :: st) w') : Z x pc ls st0 w := Z_callV (m := 1) (maxL := 2) (N := 32) (T := TX5) as hC hm (by decide) rfl ⟨rfl, by decide, by decide, by decide +kernel⟩ ml_L_109 wi_X5_drew wse_X5_drew wini_X5 wc_X5_drew hM hdc (by decide) hln hn hst hcat hd pc' hp k
theorem ml_L_110 : Cond.methodLink RL 110 yX4_can ∈ ww := ww_2 224 rfl rfl
theorem K_L_110 {x : CX} {cc : ByteArray} {n d pc : Nat} {ls : LV} {st : List AV} {w : Wd} {i dc : Nat} {st0 : List AV} {r : Int32} {w' : Wd} (as : List AV) (hC : Cx x RL cc n d) (hm : (0, i) ∈ gis) (hM : Sp (xG x) (xl x) yX4_can cw_X4_can dc (vr 0 i :: as) w (some (vi r)) w') (hdc : dc + 1 ≤ d) (hln : ls.length = n) (hn : as.length = 0) (hst : st0 = as.reverse ++ vr 0 i :: st) (hcat : (st.map cat).sum ≤ 8) (hd : decode cc pc = .ok (.invokevirtual 110, 3)) (pc' : Nat) (hp : pc + 3 = pc') (k : Z x pc' ls (vi r :: st) w') : Z x pc ls st0 w := Z_callV (m := 0) (maxL := 1) (N := 17) (T := TX4) as hC hm (by decide) rfl ⟨rfl, by decide, by decide, by decide +kernel⟩ ml_L_110 wi_X4_can wse_X4_can wini_X4 wc_X4_can hM hdc (by decide) hln hn hst hcat hd pc' hp k
theorem ml_L_113 : Cond.methodLink RL 113 yX5_can ∈ ww := ww_5 26 rfl rfl
theorem K_L_113 {x : CX} {cc : ByteArray} {n d pc : Nat} {ls : LV} {st : List AV} {w : Wd} {i dc : Nat} {st0 : List AV} {r : Int32} {w' : Wd} (as : List AV) (hC : Cx x RL cc n d) (hm : (5, i) ∈ gis) (hM : Sp (xG x) (xl x) yX5_can cw_X5_can dc (vr 5 i :: as) w (some (vi r)) w') (hdc : dc + 1 ≤ d) (hln : ls.length = n) (hn : as.length = 0) (hst : st0 = as.reverse ++ vr 5 i :: st) (hcat : (st.map cat).sum ≤ 8) (hd : decode cc pc = .ok (.invokevirtual 113, 3)) (pc' : Nat) (hp : pc + 3 = pc') (k : Z x pc' ls (vi r :: st) w') : Z x pc ls st0 w := Z_callV (m := 0) (maxL := 2) (N := 32) (T := TX5) as hC hm (by decide) rfl ⟨rfl, by decide, by decide, by decide +kernel⟩ ml_L_113 wi_X5_can wse_X5_can wini_X5 wc_X5_can hM hdc (by decide) hln hn hst hcat hd pc' hp k
theorem ml_L_114 : Cond.methodLink RL 114 yX4_turns ∈ ww := ww_2 237 rfl rfl
theorem K_L_114 {x : CX} {cc : ByteArray} {n d pc : Nat} {ls : LV} {st : List AV} {w : Wd} {i dc : Nat} {st0 : List AV} {r : Int32} {w' : Wd} (as : List AV) (hC : Cx x RL cc n d) (hm : (0, i) ∈ gis) (hM : Sp (xG x) (xl x) yX4_turns cw_X4_turns dc (vr 0 i :: as) w (some (vi r)) w') (hdc : dc + 1 ≤ d) (hln : ls.length = n) (hn : as.length = 2) (hst : st0 = as.reverse ++ vr 0 i :: st) (hcat : (st.map cat).sum ≤ 8) (hd : decode cc pc = .ok (.invokevirtual 114, 3)) (pc' : Nat) (hp : pc + 3 = pc') (k : Z x pc' ls (vi r :: st) w') : Z x pc ls st0 w := Z_callV (m := 2) (maxL := 3) (N := 17) (T := TX4) as hC hm (by decide) rfl ⟨rfl, by decide, by decide, by decide +kernel⟩ ml_L_114 wi_X4_turns wse_X4_turns wini_X4 wc_X4_turns hM hdc (by decide) hln hn hst hcat hd pc' hp k
theorem ml_L_117 : Cond.methodLink RL 117 yX5_turns ∈ ww := ww_5 38 rfl rfl
theorem K_L_117 {x : CX} {cc : ByteArray} {n d pc : Nat} {ls : LV} {st : List AV} {w : Wd} {i dc : Nat} {st0 : List AV} {r : Int32} {w' : Wd} (as : List AV) (hC : Cx x RL cc n d) (hm : (5, i) ∈ gis) (hM : Sp (xG x) (xl x) yX5_turns cw_X5_turns dc (vr 5 i :: as) w (some (vi r)) w') (hdc : dc + 1 ≤ d) (hln : ls.length = n) (hn : as.length = 2) (hst : st0 = as.reverse ++ vr 5 i :: st) (hcat : (st.map cat).sum ≤ 8) (hd : decode cc pc = .ok (.invokevirtual 117, 3)) (pc' : Nat) (hp : pc + 3 = pc') (k : Z x pc' ls (vi r :: st) w') : Z x pc ls st0 w := Z_callV (m := 2) (maxL := 6) (N := 32) (T := TX5) as hC hm (by decide) rfl ⟨rfl, by decide, by decide, by decide +kernel⟩ ml_L_117 wi_X5_turns wse_X5_turns wini_X5 wc_X5_turns hM hdc (by decide) hln hn hst hcat hd pc' hp k
theorem ml_L_118 : Cond.methodLink RL 118 yX4_alike ∈ ww := ww_3 26 rfl rfl
theorem K_L_118 {x : CX} {cc : ByteArray} {n d pc : Nat} {ls : LV} {st : List AV} {w : Wd} {i dc : Nat} {st0 : List AV} {r : Int32} {w' : Wd} (as : List AV) (hC : Cx x RL cc n d) (hm : (0, i) ∈ gis) (hM : Sp (xG x) (xl x) yX4_alike cw_X4_alike dc (vr 0 i :: as) w (some (vi r)) w') (hdc : dc + 1 ≤ d) (hln : ls.length = n) (hn : as.length = 2) (hst : st0 = as.reverse ++ vr 0 i :: st) (hcat : (st.map cat).sum ≤ 8) (hd : decode cc pc = .ok (.invokevirtual 118, 3)) (pc' : Nat) (hp : pc + 3 = pc') (k : Z x pc' ls (vi r :: st) w') : Z x pc ls st0 w := Z_callV (m := 2) (maxL := 6) (N := 17) (T := TX4) as hC hm (by decide) rfl ⟨rfl, by decide, by decide, by decide +kernel⟩ ml_L_118 wi_X4_alike wse_X4_alike wini_X4 wc_X4_alike hM hdc (by decide) hln hn hst hcat hd pc' hp k
theorem ml_L_121 : Cond.methodLink RL 121 yX5_alike ∈ ww := ww_5 51 rfl rfl
theorem K_L_121 {x : CX} {cc : ByteArray} {n d pc : Nat} {ls : LV} {st : List AV} {w : Wd} {i dc : Nat} {st0 : List AV} {r : Int32} {w' : Wd} (as : List AV) (hC : Cx x RL cc n d) (hm : (5, i) ∈ gis) (hM : Sp (xG x) (xl x) yX5_alike cw_X5_alike dc (vr 5 i :: as) w (some (vi r)) w') (hdc : dc + 1 ≤ d) (hln : ls.length = n) (hn : as.length = 2) (hst : st0 = as.reverse ++ vr 5 i :: st) (hcat : (st.map cat).sum ≤ 8) (hd : decode cc pc = .ok (.invokevirtual 121, 3)) (pc' : Nat) (hp : pc + 3 = pc') (k : Z x pc' ls (vi r :: st) w') : Z x pc ls st0 w := Z_callV (m := 2) (maxL := 7) (N := 32) (T := TX5) as hC hm (by decide) rfl ⟨rfl, by decide, by decide, by decide +kernel⟩ ml_L_121 wi_X5_alike wse_X5_alike wini_X5 wc_X5_alike hM hdc (by decide) hln hn hst hcat hd pc' hp k
theorem ml_L_122 : Cond.methodLink RL 122 yX4_play ∈ ww := ww_3 30 rfl rfl
theorem K_L_122 {x : CX} {cc : ByteArray} {n d pc : Nat} {ls : LV} {st : List AV} {w : Wd} {i dc : Nat} {st0 : List AV} {r : Int32} {w' : Wd} (as : List AV) (hC : Cx x RL cc n d) (hm : (0, i) ∈ gis) (hM : Sp (xG x) (xl x) yX4_play cw_X4_play dc (vr 0 i :: as) w (some (vi r)) w') (hdc : dc + 1 ≤ d) (hln : ls.length = n) (hn : as.length = 1) (hst : st0 = as.reverse ++ vr 0 i :: st) (hcat : (st.map cat).sum ≤ 8) (hd : decode cc pc = .ok (.invokevirtual 122, 3)) (pc' : Nat) (hp : pc + 3 = pc') (k : Z x pc' ls (vi r :: st) w') : Z x pc ls st0 w := Z_callV (m := 1) (maxL := 6) (N := 17) (T := TX4) as hC hm (by decide) rfl ⟨rfl, by decide, by decide, by decide +kernel⟩ ml_L_122 wi_X4_play wse_X4_play wini_X4 wc_X4_play hM hdc (by decide) hln hn hst hcat hd pc' hp k
theorem ml_L_125 : Cond.methodLink RL 125 yX5_play ∈ ww := ww_5 55 rfl rfl
theorem K_L_125 {x : CX} {cc : ByteArray} {n d pc : Nat} {ls : LV} {st : List AV} {w : Wd} {i dc : Nat} {st0 : List AV} {r : Int32} {w' : Wd} (as : List AV) (hC : Cx x RL cc n d) (hm : (5, i) ∈ gis) (hM : Sp (xG x) (xl x) yX5_play cw_X5_play dc (vr 5 i :: as) w (some (vi r)) w') (hdc : dc + 1 ≤ d) (hln : ls.length = n) (hn : as.length = 1) (hst : st0 = as.reverse ++ vr 5 i :: st) (hcat : (st.map cat).sum ≤ 8) (hd : decode cc pc = .ok (.invokevirtual 125, 3)) (pc' : Nat) (hp : pc + 3 = pc') (k : Z x pc' ls (vi r :: st) w') : Z x pc ls st0 w := Z_callV (m := 1) (maxL := 7) (N := 32) (T := TX5) as hC hm (by decide) rfl ⟨rfl, by decide, by decide, by decide +kernel⟩ ml_L_125 wi_X5_play wse_X5_play wini_X5 wc_X5_play hM hdc (by decide) hln hn hst hcat hd pc' hp k
theorem ml_L_126 : Cond.methodLink RL 126 yX4_keep ∈ ww := ww_3 37 rfl rfl
theorem K_L_126 {x : CX} {cc : ByteArray} {n d pc : Nat} {ls : LV} {st : List AV} {w : Wd} {i dc : Nat} {st0 : List AV} {r : Int32} {w' : Wd} (as : List AV) (hC : Cx x RL cc n d) (hm : (0, i) ∈ gis) (hM : Sp (xG x) (xl x) yX4_keep cw_X4_keep dc (vr 0 i :: as) w (some (vi r)) w') (hdc : dc + 1 ≤ d) (hln : ls.length = n) (hn : as.length = 1) (hst : st0 = as.reverse ++ vr 0 i :: st) (hcat : (st.map cat).sum ≤ 8) (hd : decode cc pc = .ok (.invokevirtual 126, 3)) (pc' : Nat) (hp : pc + 3 = pc') (k : Z x pc' ls (vi r :: st) w') : Z x pc ls st0 w := Z_callV (m := 1) (maxL := 2) (N := 17) (T := TX4) as hC hm (by decide) rfl ⟨rfl, by decide, by decide, by decide +kernel⟩ ml_L_126 wi_X4_keep wse_X4_keep wini_X4 wc_X4_keep hM hdc (by decide) hln hn hst hcat hd pc' hp k
theorem ml_L_129 : Cond.methodLink RL 129 yX5_keep ∈ ww := ww_5 59 rfl rfl
theorem K_L_129 {x : CX} {cc : ByteArray} {n d pc : Nat} {ls : LV} {st : List AV} {w : Wd} {i dc : Nat} {st0 : List AV} {r : Int32} {w' : Wd} (as : List AV) (hC : Cx x RL cc n d) (hm : (5, i) ∈ gis) (hM : Sp (xG x) (xl x) yX5_keep cw_X5_keep dc (vr 5 i :: as) w (some (vi r)) w') (hdc : dc + 1 ≤ d) (hln : ls.length = n) (hn : as.length = 1) (hst : st0 = as.reverse ++ vr 5 i :: st) (hcat : (st.map cat).sum ≤ 8) (hd : decode cc pc = .ok (.invokevirtual 129, 3)) (pc' : Nat) (hp : pc + 3 = pc') (k : Z x pc' ls (vi r :: st) w') : Z x pc ls st0 w := Z_callV (m := 1) (maxL := 3) (N := 32) (T := TX5) as hC hm (by decide) rfl ⟨rfl, by decide, by decide, by decide +kernel⟩ ml_L_129 wi_X5_keep wse_X5_keep wini_X5 wc_X5_keep hM hdc (by decide) hln hn hst hcat hd pc' hp k
theorem ml_L_130 : Cond.methodLink RL 130 yX4_on ∈ ww := ww_3 44 rfl rfl
theorem K_L_130 {x : CX} {cc : ByteArray} {n d pc : Nat} {ls : LV} {st : List AV} {w : Wd} {i dc : Nat} {st0 : List AV} {r : Int32} {w' : Wd} (as : List AV) (hC : Cx x RL cc n d) (hm : (0, i) ∈ gis) (hM : Sp (xG x) (xl x) yX4_on cw_X4_on dc (vr 0 i :: as) w (some (vi r)) w') (hdc : dc + 1 ≤ d) (hln : ls.length = n) (hn : as.length = 1) (hst : st0 = as.reverse ++ vr 0 i :: st) (hcat : (st.map cat).sum ≤ 8) (hd : decode cc pc = .ok (.invokevirtual 130, 3)) (pc' : Nat) (hp : pc + 3 = pc') (k : Z x pc' ls (vi r :: st) w') : Z x pc ls st0 w := Z_callV (m := 1) (maxL := 2) (N := 17) (T := TX4) as hC hm (by decide) rfl ⟨rfl, by decide, by decide, by decide +kernel⟩ ml_L_130 wi_X4_on wse_X4_on wini_X4 wc_X4_on hM hdc (by decide) hln hn hst hcat hd pc' hp k
theorem ml_L_133 : Cond.methodLink RL 133 yX5_on ∈ ww := ww_5 63 rfl rfl
theorem K_L_133 {x : CX} {cc : ByteArray} {n d pc : Nat} {ls : LV} {st : List AV} {w : Wd} {i dc : Nat} {st0 : List AV} {r : Int32} {w' : Wd} (as : List AV) (hC : Cx x RL cc n d) (hm : (5, i) ∈ gis) (hM : Sp (xG x) (xl x) yX5_on cw_X5_on dc (vr 5 i :: as) w (some (vi r)) w') (hdc : dc + 1 ≤ d) (hln : ls.length = n) (hn : as.length = 1) (hst : st0 = as.reverse ++ vr 5 i :: st) (hcat : (st.map cat).sum ≤ 8) (hd : decode cc pc = .ok (.invokevirtual 133, 3)) (pc' : Nat) (hp : pc + 3 = pc') (k : Z x pc' ls (vi r :: st) w') : Z x pc ls st0 w := Z_callV (m := 1) (maxL := 3) (N := 32) (T := TX5) as hC hm (by decide) rfl ⟨rfl, by decide, by decide, by decide +kernel⟩ ml_L_133 wi_X5_on wse_X5_on wini_X5 wc_X5_on hM hdc (by decide) hln hn hst hcat hd pc' hp k
theorem ml_L_134 : Cond.methodLink RL 134 yX4_year ∈ ww := ww_3 48 rfl rfl
theorem K_L_134 {x : CX} {cc : ByteArray} {n d pc : Nat} {ls : LV} {st : List AV} {w : Wd} {i dc : Nat} {st0 : List AV} {r : Int32} {w' : Wd} (as : List AV) (hC : Cx x RL cc n d) (hm : (0, i) ∈ gis) (hM : Sp (xG x) (xl x) yX4_year cw_X4_year dc (vr 0 i :: as) w (some (vi r)) w') (hdc : dc + 1 ≤ d) (hln : ls.length = n) (hn : as.length = 1) (hst : st0 = as.reverse ++ vr 0 i :: st) (hcat : (st.map cat).sum ≤ 8) (hd : decode cc pc = .ok (.invokevirtual 134, 3)) (pc' : Nat) (hp : pc + 3 = pc') (k : Z x pc' ls (vi r :: st) w') : Z x pc ls st0 w := Z_callV (m := 1) (maxL := 3) (N := 17) (T := TX4) as hC hm (by decide) rfl ⟨rfl, by decide, by decide, by decide +kernel⟩ ml_L_134 wi_X4_year wse_X4_year wini_X4 wc_X4_year hM hdc (by decide) hln hn hst hcat hd pc' hp k
theorem ml_L_137 : Cond.methodLink RL 137 yX5_year ∈ ww := ww_5 67 rfl rfl
theorem K_L_137 {x : CX} {cc : ByteArray} {n d pc : Nat} {ls : LV} {st : List AV} {w : Wd} {i dc : Nat} {st0 : List AV} {r : Int32} {w' : Wd} (as : List AV) (hC : Cx x RL cc n d) (hm : (5, i) ∈ gis) (hM : Sp (xG x) (xl x) yX5_year cw_X5_year dc (vr 5 i :: as) w (some (vi r)) w') (hdc : dc + 1 ≤ d) (hln : ls.length = n) (hn : as.length = 1) (hst : st0 = as.reverse ++ vr 5 i :: st) (hcat : (st.map cat).sum ≤ 8) (hd : decode cc pc = .ok (.invokevirtual 137, 3)) (pc' : Nat) (hp : pc + 3 = pc') (k : Z x pc' ls (vi r :: st) w') : Z x pc ls st0 w := Z_callV (m := 1) (maxL := 4) (N := 32) (T := TX5) as hC hm (by decide) rfl ⟨rfl, by decide, by decide, by decide +kernel⟩ ml_L_137 wi_X5_year wse_X5_year wini_X5 wc_X5_year hM hdc (by decide) hln hn hst hcat hd pc' hp k
theorem ml_L_138 : Cond.methodLink RL 138 yX4_forget ∈ ww := ww_3 56 rfl rfl
theorem K_L_138 {x : CX} {cc : ByteArray} {n d pc : Nat} {ls : LV} {st : List AV} {w : Wd} {i dc : Nat} {st0 : List AV} {r : Int32} {w' : Wd} (as : List AV) (hC : Cx x RL cc n d) (hm : (0, i) ∈ gis) (hM : Sp (xG x) (xl x) yX4_forget cw_X4_forget dc (vr 0 i :: as) w (some (vi r)) w') (hdc : dc + 1 ≤ d) (hln : ls.length = n) (hn : as.length = 1) (hst : st0 = as.reverse ++ vr 0 i :: st) (hcat : (st.map cat).sum ≤ 8) (hd : decode cc pc = .ok (.invokevirtual 138, 3)) (pc' : Nat) (hp : pc + 3 = pc') (k : Z x pc' ls (vi r :: st) w') : Z x pc ls st0 w := Z_callV (m := 1) (maxL := 3) (N := 17) (T := TX4) as hC hm (by decide) rfl ⟨rfl, by decide, by decide, by decide +kernel⟩ ml_L_138 wi_X4_forget wse_X4_forget wini_X4 wc_X4_forget hM hdc (by decide) hln hn hst hcat hd pc' hp k
theorem ml_L_141 : Cond.methodLink RL 141 yX5_forget ∈ ww := ww_5 71 rfl rfl
theorem K_L_141 {x : CX} {cc : ByteArray} {n d pc : Nat} {ls : LV} {st : List AV} {w : Wd} {i dc : Nat} {st0 : List AV} {r : Int32} {w' : Wd} (as : List AV) (hC : Cx x RL cc n d) (hm : (5, i) ∈ gis) (hM : Sp (xG x) (xl x) yX5_forget cw_X5_forget dc (vr 5 i :: as) w (some (vi r)) w') (hdc : dc + 1 ≤ d) (hln : ls.length = n) (hn : as.length = 1) (hst : st0 = as.reverse ++ vr 5 i :: st) (hcat : (st.map cat).sum ≤ 8) (hd : decode cc pc = .ok (.invokevirtual 141, 3)) (pc' : Nat) (hp : pc + 3 = pc') (k : Z x pc' ls (vi r :: st) w') : Z x pc ls st0 w := Z_callV (m := 1) (maxL := 3) (N := 32) (T := TX5) as hC hm (by decide) rfl ⟨rfl, by decide, by decide, by decide +kernel⟩ ml_L_141 wi_X5_forget wse_X5_forget wini_X5 wc_X5_forget hM hdc (by decide) hln hn hst hcat hd pc' hp k
theorem ml_L_142 : Cond.methodLink RL 142 yX4_run ∈ ww := ww_3 60 rfl rfl
theorem K_L_142 {x : CX} {cc : ByteArray} {n d pc : Nat} {ls : LV} {st : List AV} {w : Wd} {i dc : Nat} {st0 : List AV} {r : Int32} {w' : Wd} (as : List AV) (hC : Cx x RL cc n d) (hm : (0, i) ∈ gis) (hM : Sp (xG x) (xl x) yX4_run cw_X4_run dc (vr 0 i :: as) w (some (vi r)) w') (hdc : dc + 1 ≤ d) (hln : ls.length = n) (hn : as.length = 0) (hst : st0 = as.reverse ++ vr 0 i :: st) (hcat : (st.map cat).sum ≤ 8) (hd : decode cc pc = .ok (.invokevirtual 142, 3)) (pc' : Nat) (hp : pc + 3 = pc') (k : Z x pc' ls (vi r :: st) w') : Z x pc ls st0 w := Z_callV (m := 0) (maxL := 2) (N := 17) (T := TX4) as hC hm (by decide) rfl ⟨rfl, by decide, by decide, by decide +kernel⟩ ml_L_142 wi_X4_run wse_X4_run wini_X4 wc_X4_run hM hdc (by decide) hln hn hst hcat hd pc' hp k
theorem ml_L_145 : Cond.methodLink RL 145 yX5_run ∈ ww := ww_5 75 rfl rfl
theorem K_L_145 {x : CX} {cc : ByteArray} {n d pc : Nat} {ls : LV} {st : List AV} {w : Wd} {i dc : Nat} {st0 : List AV} {r : Int32} {w' : Wd} (as : List AV) (hC : Cx x RL cc n d) (hm : (5, i) ∈ gis) (hM : Sp (xG x) (xl x) yX5_run cw_X5_run dc (vr 5 i :: as) w (some (vi r)) w') (hdc : dc + 1 ≤ d) (hln : ls.length = n) (hn : as.length = 0) (hst : st0 = as.reverse ++ vr 5 i :: st) (hcat : (st.map cat).sum ≤ 8) (hd : decode cc pc = .ok (.invokevirtual 145, 3)) (pc' : Nat) (hp : pc + 3 = pc') (k : Z x pc' ls (vi r :: st) w') : Z x pc ls st0 w := Z_callV (m := 0) (maxL := 5) (N := 32) (T := TX5) as hC hm (by decide) rfl ⟨rfl, by decide, by decide, by decide +kernel⟩ ml_L_145 wi_X5_run wse_X5_run wini_X5 wc_X5_run hM hdc (by decide) hln hn hst hcat hd pc' hp k
theorem ml_L_146 : Cond.methodLink RL 146 yX4_times ∈ ww := ww_3 69 rfl rfl
theorem K_L_146 {x : CX} {cc : ByteArray} {n d pc : Nat} {ls : LV} {st : List AV} {w : Wd} {i dc : Nat} {st0 : List AV} {r : Int32} {w' : Wd} (as : List AV) (hC : Cx x RL cc n d) (hm : (0, i) ∈ gis) (hM : Sp (xG x) (xl x) yX4_times cw_X4_times dc (vr 0 i :: as) w (some (vi r)) w') (hdc : dc + 1 ≤ d) (hln : ls.length = n) (hn : as.length = 2) (hst : st0 = as.reverse ++ vr 0 i :: st) (hcat : (st.map cat).sum ≤ 8) (hd : decode cc pc = .ok (.invokevirtual 146, 3)) (pc' : Nat) (hp : pc + 3 = pc') (k : Z x pc' ls (vi r :: st) w') : Z x pc ls st0 w := Z_callV (m := 2) (maxL := 5) (N := 17) (T := TX4) as hC hm (by decide) rfl ⟨rfl, by decide, by decide, by decide +kernel⟩ ml_L_146 wi_X4_times wse_X4_times wini_X4 wc_X4_times hM hdc (by decide) hln hn hst hcat hd pc' hp k
theorem ml_L_149 : Cond.methodLink RL 149 yX5_times ∈ ww := ww_5 83 rfl rfl
theorem K_L_149 {x : CX} {cc : ByteArray} {n d pc : Nat} {ls : LV} {st : List AV} {w : Wd} {i dc : Nat} {st0 : List AV} {r : Int32} {w' : Wd} (as : List AV) (hC : Cx x RL cc n d) (hm : (5, i) ∈ gis) (hM : Sp (xG x) (xl x) yX5_times cw_X5_times dc (vr 5 i :: as) w (some (vi r)) w') (hdc : dc + 1 ≤ d) (hln : ls.length = n) (hn : as.length = 2) (hst : st0 = as.reverse ++ vr 5 i :: st) (hcat : (st.map cat).sum ≤ 8) (hd : decode cc pc = .ok (.invokevirtual 149, 3)) (pc' : Nat) (hp : pc + 3 = pc') (k : Z x pc' ls (vi r :: st) w') : Z x pc ls st0 w := Z_callV (m := 2) (maxL := 5) (N := 32) (T := TX5) as hC hm (by decide) rfl ⟨rfl, by decide, by decide, by decide +kernel⟩ ml_L_149 wi_X5_times wse_X5_times wini_X5 wc_X5_times hM hdc (by decide) hln hn hst hcat hd pc' hp k
theorem ml_L_150 : Cond.methodLink RL 150 yX4_fits ∈ ww := ww_3 73 rfl rfl
theorem K_L_150 {x : CX} {cc : ByteArray} {n d pc : Nat} {ls : LV} {st : List AV} {w : Wd} {i dc : Nat} {st0 : List AV} {r : Int32} {w' : Wd} (as : List AV) (hC : Cx x RL cc n d) (hm : (0, i) ∈ gis) (hM : Sp (xG x) (xl x) yX4_fits cw_X4_fits dc (vr 0 i :: as) w (some (vi r)) w') (hdc : dc + 1 ≤ d) (hln : ls.length = n) (hn : as.length = 2) (hst : st0 = as.reverse ++ vr 0 i :: st) (hcat : (st.map cat).sum ≤ 8) (hd : decode cc pc = .ok (.invokevirtual 150, 3)) (pc' : Nat) (hp : pc + 3 = pc') (k : Z x pc' ls (vi r :: st) w') : Z x pc ls st0 w := Z_callV (m := 2) (maxL := 4) (N := 17) (T := TX4) as hC hm (by decide) rfl ⟨rfl, by decide, by decide, by decide +kernel⟩ ml_L_150 wi_X4_fits wse_X4_fits wini_X4 wc_X4_fits hM hdc (by decide) hln hn hst hcat hd pc' hp k
theorem ml_L_153 : Cond.methodLink RL 153 yX5_fits ∈ ww := ww_5 87 rfl rfl
theorem K_L_153 {x : CX} {cc : ByteArray} {n d pc : Nat} {ls : LV} {st : List AV} {w : Wd} {i dc : Nat} {st0 : List AV} {r : Int32} {w' : Wd} (as : List AV) (hC : Cx x RL cc n d) (hm : (5, i) ∈ gis) (hM : Sp (xG x) (xl x) yX5_fits cw_X5_fits dc (vr 5 i :: as) w (some (vi r)) w') (hdc : dc + 1 ≤ d) (hln : ls.length = n) (hn : as.length = 2) (hst : st0 = as.reverse ++ vr 5 i :: st) (hcat : (st.map cat).sum ≤ 8) (hd : decode cc pc = .ok (.invokevirtual 153, 3)) (pc' : Nat) (hp : pc + 3 = pc') (k : Z x pc' ls (vi r :: st) w') : Z x pc ls st0 w := Z_callV (m := 2) (maxL := 4) (N := 32) (T := TX5) as hC hm (by decide) rfl ⟨rfl, by decide, by decide, by decide +kernel⟩ ml_L_153 wi_X5_fits wse_X5_fits wini_X5 wc_X5_fits hM hdc (by decide) hln hn hst hcat hd pc' hp k
theorem ml_L_154 : Cond.methodLink RL 154 yX4_known ∈ ww := ww_3 89 rfl rfl
theorem K_L_154 {x : CX} {cc : ByteArray} {n d pc : Nat} {ls : LV} {st : List AV} {w : Wd} {i dc : Nat} {st0 : List AV} {r : Int32} {w' : Wd} (as : List AV) (hC : Cx x RL cc n d) (hm : (0, i) ∈ gis) (hM : Sp (xG x) (xl x) yX4_known cw_X4_known dc (vr 0 i :: as) w (some (vi r)) w') (hdc : dc + 1 ≤ d) (hln : ls.length = n) (hn : as.length = 2) (hst : st0 = as.reverse ++ vr 0 i :: st) (hcat : (st.map cat).sum ≤ 8) (hd : decode cc pc = .ok (.invokevirtual 154, 3)) (pc' : Nat) (hp : pc + 3 = pc') (k : Z x pc' ls (vi r :: st) w') : Z x pc ls st0 w := Z_callV (m := 2) (maxL := 7) (N := 17) (T := TX4) as hC hm (by decide) rfl ⟨rfl, by decide, by decide, by decide +kernel⟩ ml_L_154 wi_X4_known wse_X4_known wini_X4 wc_X4_known hM hdc (by decide) hln hn hst hcat hd pc' hp k
theorem ml_L_157 : Cond.methodLink RL 157 yX5_known ∈ ww := ww_5 107 rfl rfl
theorem K_L_157 {x : CX} {cc : ByteArray} {n d pc : Nat} {ls : LV} {st : List AV} {w : Wd} {i dc : Nat} {st0 : List AV} {r : Int32} {w' : Wd} (as : List AV) (hC : Cx x RL cc n d) (hm : (5, i) ∈ gis) (hM : Sp (xG x) (xl x) yX5_known cw_X5_known dc (vr 5 i :: as) w (some (vi r)) w') (hdc : dc + 1 ≤ d) (hln : ls.length = n) (hn : as.length = 2) (hst : st0 = as.reverse ++ vr 5 i :: st) (hcat : (st.map cat).sum ≤ 8) (hd : decode cc pc = .ok (.invokevirtual 157, 3)) (pc' : Nat) (hp : pc + 3 = pc') (k : Z x pc' ls (vi r :: st) w') : Z x pc ls st0 w := Z_callV (m := 2) (maxL := 4) (N := 32) (T := TX5) as hC hm (by decide) rfl ⟨rfl, by decide, by decide, by decide +kernel⟩ ml_L_157 wi_X5_known wse_X5_known wini_X5 wc_X5_known hM hdc (by decide) hln hn hst hcat hd pc' hp k
theorem ml_L_158 : Cond.methodLink RL 158 yX4_still ∈ ww := ww_3 97 rfl rfl
theorem K_L_158 {x : CX} {cc : ByteArray} {n d pc : Nat} {ls : LV} {st : List AV} {w : Wd} {i dc : Nat} {st0 : List AV} {r : Int32} {w' : Wd} (as : List AV) (hC : Cx x RL cc n d) (hm : (0, i) ∈ gis) (hM : Sp (xG x) (xl x) yX4_still cw_X4_still dc (vr 0 i :: as) w (some (vi r)) w') (hdc : dc + 1 ≤ d) (hln : ls.length = n) (hn : as.length = 2) (hst : st0 = as.reverse ++ vr 0 i :: st) (hcat : (st.map cat).sum ≤ 8) (hd : decode cc pc = .ok (.invokevirtual 158, 3)) (pc' : Nat) (hp : pc + 3 = pc') (k : Z x pc' ls (vi r :: st) w') : Z x pc ls st0 w := Z_callV (m := 2) (maxL := 8) (N := 17) (T := TX4) as hC hm (by decide) rfl ⟨rfl, by decide, by decide, by decide +kernel⟩ ml_L_158 wi_X4_still wse_X4_still wini_X4 wc_X4_still hM hdc (by decide) hln hn hst hcat hd pc' hp k
theorem ml_L_161 : Cond.methodLink RL 161 yX5_still ∈ ww := ww_5 111 rfl rfl
theorem K_L_161 {x : CX} {cc : ByteArray} {n d pc : Nat} {ls : LV} {st : List AV} {w : Wd} {i dc : Nat} {st0 : List AV} {r : Int32} {w' : Wd} (as : List AV) (hC : Cx x RL cc n d) (hm : (5, i) ∈ gis) (hM : Sp (xG x) (xl x) yX5_still cw_X5_still dc (vr 5 i :: as) w (some (vi r)) w') (hdc : dc + 1 ≤ d) (hln : ls.length = n) (hn : as.length = 2) (hst : st0 = as.reverse ++ vr 5 i :: st) (hcat : (st.map cat).sum ≤ 8) (hd : decode cc pc = .ok (.invokevirtual 161, 3)) (pc' : Nat) (hp : pc + 3 = pc') (k : Z x pc' ls (vi r :: st) w') : Z x pc ls st0 w := Z_callV (m := 2) (maxL := 7) (N := 32) (T := TX5) as hC hm (by decide) rfl ⟨rfl, by decide, by decide, by decide +kernel⟩ ml_L_161 wi_X5_still wse_X5_still wini_X5 wc_X5_still hM hdc (by decide) hln hn hst hcat hd pc' hp k
theorem ml_L_162 : Cond.methodLink RL 162 yX4_fewest ∈ ww := ww_3 101 rfl rfl
theorem K_L_162 {x : CX} {cc : ByteArray} {n d pc : Nat} {ls : LV} {st : List AV} {w : Wd} {i dc : Nat} {st0 : List AV} {r : Int32} {w' : Wd} (as : List AV) (hC : Cx x RL cc n d) (hm : (0, i) ∈ gis) (hM : Sp (xG x) (xl x) yX4_fewest cw_X4_fewest dc (vr 0 i :: as) w (some (vi r)) w') (hdc : dc + 1 ≤ d) (hln : ls.length = n) (hn : as.length = 1) (hst : st0 = as.reverse ++ vr 0 i :: st) (hcat : (st.map cat).sum ≤ 8) (hd : decode cc pc = .ok (.invokevirtual 162, 3)) (pc' : Nat) (hp : pc + 3 = pc') (k : Z x pc' ls (vi r :: st) w') : Z x pc ls st0 w := Z_callV (m := 1) (maxL := 5) (N := 17) (T := TX4) as hC hm (by decide) rfl ⟨rfl, by decide, by decide, by decide +kernel⟩ ml_L_162 wi_X4_fewest wse_X4_fewest wini_X4 wc_X4_fewest hM hdc (by decide) hln hn hst hcat hd pc' hp k
theorem ml_L_165 : Cond.methodLink RL 165 yX5_fewest ∈ ww := ww_5 115 rfl rfl
theorem K_L_165 {x : CX} {cc : ByteArray} {n d pc : Nat} {ls : LV} {st : List AV} {w : Wd} {i dc : Nat} {st0 : List AV} {r : Int32} {w' : Wd} (as : List AV) (hC : Cx x RL cc n d) (hm : (5, i) ∈ gis) (hM : Sp (xG x) (xl x) yX5_fewest cw_X5_fewest dc (vr 5 i :: as) w (some (vi r)) w') (hdc : dc + 1 ≤ d) (hln : ls.length = n) (hn : as.length = 1) (hst : st0 = as.reverse ++ vr 5 i :: st) (hcat : (st.map cat).sum ≤ 8) (hd : decode cc pc = .ok (.invokevirtual 165, 3)) (pc' : Nat) (hp : pc + 3 = pc') (k : Z x pc' ls (vi r :: st) w') : Z x pc ls st0 w := Z_callV (m := 1) (maxL := 5) (N := 32) (T := TX5) as hC hm (by decide) rfl ⟨rfl, by decide, by decide, by decide +kernel⟩ ml_L_165 wi_X5_fewest wse_X5_fewest wini_X5 wc_X5_fewest hM hdc (by decide) hln hn hst hcat hd pc' hp k
theorem ml_L_166 : Cond.methodLink RL 166 yX4_drop ∈ ww := ww_3 105 rfl rfl
theorem K_L_166 {x : CX} {cc : ByteArray} {n d pc : Nat} {ls : LV} {st : List AV} {w : Wd} {i dc : Nat} {st0 : List AV} {r : Int32} {w' : Wd} (as : List AV) (hC : Cx x RL cc n d) (hm : (0, i) ∈ gis) (hM : Sp (xG x) (xl x) yX4_drop cw_X4_drop dc (vr 0 i :: as) w (some (vi r)) w') (hdc : dc + 1 ≤ d) (hln : ls.length = n) (hn : as.length = 0) (hst : st0 = as.reverse ++ vr 0 i :: st) (hcat : (st.map cat).sum ≤ 8) (hd : decode cc pc = .ok (.invokevirtual 166, 3)) (pc' : Nat) (hp : pc + 3 = pc') (k : Z x pc' ls (vi r :: st) w') : Z x pc ls st0 w := Z_callV (m := 0) (maxL := 5) (N := 17) (T := TX4) as hC hm (by decide) rfl ⟨rfl, by decide, by decide, by decide +kernel⟩ ml_L_166 wi_X4_drop wse_X4_drop wini_X4 wc_X4_drop hM hdc (by decide) hln hn hst hcat hd pc' hp k
theorem ml_L_169 : Cond.methodLink RL 169 yX5_drop ∈ ww := ww_5 119 rfl rfl
theorem K_L_169 {x : CX} {cc : ByteArray} {n d pc : Nat} {ls : LV} {st : List AV} {w : Wd} {i dc : Nat} {st0 : List AV} {r : Int32} {w' : Wd} (as : List AV) (hC : Cx x RL cc n d) (hm : (5, i) ∈ gis) (hM : Sp (xG x) (xl x) yX5_drop cw_X5_drop dc (vr 5 i :: as) w (some (vi r)) w') (hdc : dc + 1 ≤ d) (hln : ls.length = n) (hn : as.length = 0) (hst : st0 = as.reverse ++ vr 5 i :: st) (hcat : (st.map cat).sum ≤ 8) (hd : decode cc pc = .ok (.invokevirtual 169, 3)) (pc' : Nat) (hp : pc + 3 = pc') (k : Z x pc' ls (vi r :: st) w') : Z x pc ls st0 w := Z_callV (m := 0) (maxL := 4) (N := 32) (T := TX5) as hC hm (by decide) rfl ⟨rfl, by decide, by decide, by decide +kernel⟩ ml_L_169 wi_X5_drop wse_X5_drop wini_X5 wc_X5_drop hM hdc (by decide) hln hn hst hcat hd pc' hp k
theorem ml_L_170 : Cond.methodLink RL 170 yX4_table ∈ ww := ww_3 109 rfl rfl
theorem K_L_170 {x : CX} {cc : ByteArray} {n d pc : Nat} {ls : LV} {st : List AV} {w : Wd} {i dc : Nat} {st0 : List AV} {r : Int32} {w' : Wd} (as : List AV) (hC : Cx x RL cc n d) (hm : (0, i) ∈ gis) (hM : Sp (xG x) (xl x) yX4_table cw_X4_table dc (vr 0 i :: as) w (some (vi r)) w') (hdc : dc + 1 ≤ d) (hln : ls.length = n) (hn : as.length = 1) (hst : st0 = as.reverse ++ vr 0 i :: st) (hcat : (st.map cat).sum ≤ 8) (hd : decode cc pc = .ok (.invokevirtual 170, 3)) (pc' : Nat) (hp : pc + 3 = pc') (k : Z x pc' ls (vi r :: st) w') : Z x pc ls st0 w := Z_callV (m := 1) (maxL := 6) (N := 17) (T := TX4) as hC hm (by decide) rfl ⟨rfl, by decide, by decide, by decide +kernel⟩ ml_L_170 wi_X4_table wse_X4_table wini_X4 wc_X4_table hM hdc (by decide) hln hn hst hcat hd pc' hp k
theorem ml_L_173 : Cond.methodLink RL 173 yX5_table ∈ ww := ww_5 123 rfl rfl
theorem K_L_173 {x : CX} {cc : ByteArray} {n d pc : Nat} {ls : LV} {st : List AV} {w : Wd} {i dc : Nat} {st0 : List AV} {r : Int32} {w' : Wd} (as : List AV) (hC : Cx x RL cc n d) (hm : (5, i) ∈ gis) (hM : Sp (xG x) (xl x) yX5_table cw_X5_table dc (vr 5 i :: as) w (some (vi r)) w') (hdc : dc + 1 ≤ d) (hln : ls.length = n) (hn : as.length = 1) (hst : st0 = as.reverse ++ vr 5 i :: st) (hcat : (st.map cat).sum ≤ 8) (hd : decode cc pc = .ok (.invokevirtual 173, 3)) (pc' : Nat) (hp : pc + 3 = pc') (k : Z x pc' ls (vi r :: st) w') : Z x pc ls st0 w := Z_callV (m := 1) (maxL := 6) (N := 32) (T := TX5) as hC hm (by decide) rfl ⟨rfl, by decide, by decide, by decide +kernel⟩ ml_L_173 wi_X5_table wse_X5_table wini_X5 wc_X5_table hM hdc (by decide) hln hn hst hcat hd pc' hp k
theorem ml_L_174 : Cond.methodLink RL 174 yX4_rings ∈ ww := ww_3 113 rfl rfl
theorem K_L_174 {x : CX} {cc : ByteArray} {n d pc : Nat} {ls : LV} {st : List AV} {w : Wd} {i dc : Nat} {st0 : List AV} {r : Int32} {w' : Wd} (as : List AV) (hC : Cx x RL cc n d) (hm : (0, i) ∈ gis) (hM : Sp (xG x) (xl x) yX4_rings cw_X4_rings dc (vr 0 i :: as) w (some (vi r)) w') (hdc : dc + 1 ≤ d) (hln : ls.length = n) (hn : as.length = 1) (hst : st0 = as.reverse ++ vr 0 i :: st) (hcat : (st.map cat).sum ≤ 8) (hd : decode cc pc = .ok (.invokevirtual 174, 3)) (pc' : Nat) (hp : pc + 3 = pc') (k : Z x pc' ls (vi r :: st) w') : Z x pc ls st0 w := Z_callV (m := 1) (maxL := 3) (N := 17) (T := TX4) as hC hm (by decide) rfl ⟨rfl, by decide, by decide, by decide +kernel⟩ ml_L_174 wi_X4_rings wse_X4_rings wini_X4 wc_X4_rings hM hdc (by decide) hln hn hst hcat hd pc' hp k
theorem ml_L_177 : Cond.methodLink RL 177 yX5_rings ∈ ww := ww_5 127 rfl rfl
theorem K_L_177 {x : CX} {cc : ByteArray} {n d pc : Nat} {ls : LV} {st : List AV} {w : Wd} {i dc : Nat} {st0 : List AV} {r : Int32} {w' : Wd} (as : List AV) (hC : Cx x RL cc n d) (hm : (5, i) ∈ gis) (hM : Sp (xG x) (xl x) yX5_rings cw_X5_rings dc (vr 5 i :: as) w (some (vi r)) w') (hdc : dc + 1 ≤ d) (hln : ls.length = n) (hn : as.length = 1) (hst : st0 = as.reverse ++ vr 5 i :: st) (hcat : (st.map cat).sum ≤ 8) (hd : decode cc pc = .ok (.invokevirtual 177, 3)) (pc' : Nat) (hp : pc + 3 = pc') (k : Z x pc' ls (vi r :: st) w') : Z x pc ls st0 w := Z_callV (m := 1) (maxL := 3) (N := 32) (T := TX5) as hC hm (by decide) rfl ⟨rfl, by decide, by decide, by decide +kernel⟩ ml_L_177 wi_X5_rings wse_X5_rings wini_X5 wc_X5_rings hM hdc (by decide) hln hn hst hcat hd pc' hp k
theorem ml_L_178 : Cond.methodLink RL 178 yX4_ringed ∈ ww := ww_3 118 rfl rfl
theorem K_L_178 {x : CX} {cc : ByteArray} {n d pc : Nat} {ls : LV} {st : List AV} {w : Wd} {i dc : Nat} {st0 : List AV} {r : Int32} {w' : Wd} (as : List AV) (hC : Cx x RL cc n d) (hm : (0, i) ∈ gis) (hM : Sp (xG x) (xl x) yX4_ringed cw_X4_ringed dc (vr 0 i :: as) w (some (vi r)) w') (hdc : dc + 1 ≤ d) (hln : ls.length = n) (hn : as.length = 1) (hst : st0 = as.reverse ++ vr 0 i :: st) (hcat : (st.map cat).sum ≤ 8) (hd : decode cc pc = .ok (.invokevirtual 178, 3)) (pc' : Nat) (hp : pc + 3 = pc') (k : Z x pc' ls (vi r :: st) w') : Z x pc ls st0 w := Z_callV (m := 1) (maxL := 4) (N := 17) (T := TX4) as hC hm (by decide) rfl ⟨rfl, by decide, by decide, by decide +kernel⟩ ml_L_178 wi_X4_ringed wse_X4_ringed wini_X4 wc_X4_ringed hM hdc (by decide) hln hn hst hcat hd pc' hp k
theorem ml_L_181 : Cond.methodLink RL 181 yX5_ringed ∈ ww := ww_5 135 rfl rfl
theorem K_L_181 {x : CX} {cc : ByteArray} {n d pc : Nat} {ls : LV} {st : List AV} {w : Wd} {i dc : Nat} {st0 : List AV} {r : Int32} {w' : Wd} (as : List AV) (hC : Cx x RL cc n d) (hm : (5, i) ∈ gis) (hM : Sp (xG x) (xl x) yX5_ringed cw_X5_ringed dc (vr 5 i :: as) w (some (vi r)) w') (hdc : dc + 1 ≤ d) (hln : ls.length = n) (hn : as.length = 1) (hst : st0 = as.reverse ++ vr 5 i :: st) (hcat : (st.map cat).sum ≤ 8) (hd : decode cc pc = .ok (.invokevirtual 181, 3)) (pc' : Nat) (hp : pc + 3 = pc') (k : Z x pc' ls (vi r :: st) w') : Z x pc ls st0 w := Z_callV (m := 1) (maxL := 4) (N := 32) (T := TX5) as hC hm (by decide) rfl ⟨rfl, by decide, by decide, by decide +kernel⟩ ml_L_181 wi_X5_ringed wse_X5_ringed wini_X5 wc_X5_ringed hM hdc (by decide) hln hn hst hcat hd pc' hp k
theorem ml_L_182 : Cond.methodLink RL 182 yX4_even ∈ ww := ww_3 122 rfl rfl
theorem K_L_182 {x : CX} {cc : ByteArray} {n d pc : Nat} {ls : LV} {st : List AV} {w : Wd} {i dc : Nat} {st0 : List AV} {r : Int32} {w' : Wd} (as : List AV) (hC : Cx x RL cc n d) (hm : (0, i) ∈ gis) (hM : Sp (xG x) (xl x) yX4_even cw_X4_even dc (vr 0 i :: as) w (some (vi r)) w') (hdc : dc + 1 ≤ d) (hln : ls.length = n) (hn : as.length = 1) (hst : st0 = as.reverse ++ vr 0 i :: st) (hcat : (st.map cat).sum ≤ 8) (hd : decode cc pc = .ok (.invokevirtual 182, 3)) (pc' : Nat) (hp : pc + 3 = pc') (k : Z x pc' ls (vi r :: st) w') : Z x pc ls st0 w := Z_callV (m := 1) (maxL := 6) (N := 17) (T := TX4) as hC hm (by decide) rfl ⟨rfl, by decide, by decide, by decide +kernel⟩ ml_L_182 wi_X4_even wse_X4_even wini_X4 wc_X4_even hM hdc (by decide) hln hn hst hcat hd pc' hp k
theorem ml_L_185 : Cond.methodLink RL 185 yX5_even ∈ ww := ww_5 143 rfl rfl
theorem K_L_185 {x : CX} {cc : ByteArray} {n d pc : Nat} {ls : LV} {st : List AV} {w : Wd} {i dc : Nat} {st0 : List AV} {r : Int32} {w' : Wd} (as : List AV) (hC : Cx x RL cc n d) (hm : (5, i) ∈ gis) (hM : Sp (xG x) (xl x) yX5_even cw_X5_even dc (vr 5 i :: as) w (some (vi r)) w') (hdc : dc + 1 ≤ d) (hln : ls.length = n) (hn : as.length = 1) (hst : st0 = as.reverse ++ vr 5 i :: st) (hcat : (st.map cat).sum ≤ 8) (hd : decode cc pc = .ok (.invokevirtual 185, 3)) (pc' : Nat) (hp : pc + 3 = pc') (k : Z x pc' ls (vi r :: st) w') : Z x pc ls st0 w := Z_callV (m := 1) (maxL := 8) (N := 32) (T := TX5) as hC hm (by decide) rfl ⟨rfl, by decide, by decide, by decide +kernel⟩ ml_L_185 wi_X5_even wse_X5_even wini_X5 wc_X5_even hM hdc (by decide) hln hn hst hcat hd pc' hp k
theorem ml_L_186 : Cond.methodLink RL 186 yX4_gain ∈ ww := ww_3 134 rfl rfl
theorem K_L_186 {x : CX} {cc : ByteArray} {n d pc : Nat} {ls : LV} {st : List AV} {w : Wd} {i dc : Nat} {st0 : List AV} {r : Int32} {w' : Wd} (as : List AV) (hC : Cx x RL cc n d) (hm : (0, i) ∈ gis) (hM : Sp (xG x) (xl x) yX4_gain cw_X4_gain dc (vr 0 i :: as) w (some (vi r)) w') (hdc : dc + 1 ≤ d) (hln : ls.length = n) (hn : as.length = 2) (hst : st0 = as.reverse ++ vr 0 i :: st) (hcat : (st.map cat).sum ≤ 8) (hd : decode cc pc = .ok (.invokevirtual 186, 3)) (pc' : Nat) (hp : pc + 3 = pc') (k : Z x pc' ls (vi r :: st) w') : Z x pc ls st0 w := Z_callV (m := 2) (maxL := 5) (N := 17) (T := TX4) as hC hm (by decide) rfl ⟨rfl, by decide, by decide, by decide +kernel⟩ ml_L_186 wi_X4_gain wse_X4_gain wini_X4 wc_X4_gain hM hdc (by decide) hln hn hst hcat hd pc' hp k
theorem ml_L_189 : Cond.methodLink RL 189 yX5_gain ∈ ww := ww_5 147 rfl rfl
theorem K_L_189 {x : CX} {cc : ByteArray} {n d pc : Nat} {ls : LV} {st : List AV} {w : Wd} {i dc : Nat} {st0 : List AV} {r : Int32} {w' : Wd} (as : List AV) (hC : Cx x RL cc n d) (hm : (5, i) ∈ gis) (hM : Sp (xG x) (xl x) yX5_gain cw_X5_gain dc (vr 5 i :: as) w (some (vi r)) w') (hdc : dc + 1 ≤ d) (hln : ls.length = n) (hn : as.length = 2) (hst : st0 = as.reverse ++ vr 5 i :: st) (hcat : (st.map cat).sum ≤ 8) (hd : decode cc pc = .ok (.invokevirtual 189, 3)) (pc' : Nat) (hp : pc + 3 = pc') (k : Z x pc' ls (vi r :: st) w') : Z x pc ls st0 w := Z_callV (m := 2) (maxL := 5) (N := 32) (T := TX5) as hC hm (by decide) rfl ⟨rfl, by decide, by decide, by decide +kernel⟩ ml_L_189 wi_X5_gain wse_X5_gain wini_X5 wc_X5_gain hM hdc (by decide) hln hn hst hcat hd pc' hp k
theorem ml_L_190 : Cond.methodLink RL 190 yX4_asked ∈ ww := ww_3 138 rfl rfl
theorem K_L_190 {x : CX} {cc : ByteArray} {n d pc : Nat} {ls : LV} {st : List AV} {w : Wd} {i dc : Nat} {st0 : List AV} {r : Int32} {w' : Wd} (as : List AV) (hC : Cx x RL cc n d) (hm : (0, i) ∈ gis) (hM : Sp (xG x) (xl x) yX4_asked cw_X4_asked dc (vr 0 i :: as) w (some (vi r)) w') (hdc : dc + 1 ≤ d) (hln : ls.length = n) (hn : as.length = 0) (hst : st0 = as.reverse ++ vr 0 i :: st) (hcat : (st.map cat).sum ≤ 8) (hd : decode cc pc = .ok (.invokevirtual 190, 3)) (pc' : Nat) (hp : pc + 3 = pc') (k : Z x pc' ls (vi r :: st) w') : Z x pc ls st0 w := Z_callV (m := 0) (maxL := 1) (N := 17) (T := TX4) as hC hm (by decide) rfl ⟨rfl, by decide, by decide, by decide +kernel⟩ ml_L_190 wi_X4_asked wse_X4_asked wini_X4 wc_X4_asked hM hdc (by decide) hln hn hst hcat hd pc' hp k
theorem ml_L_193 : Cond.methodLink RL 193 yX5_asked ∈ ww := ww_5 151 rfl rfl
theorem K_L_193 {x : CX} {cc : ByteArray} {n d pc : Nat} {ls : LV} {st : List AV} {w : Wd} {i dc : Nat} {st0 : List AV} {r : Int32} {w' : Wd} (as : List AV) (hC : Cx x RL cc n d) (hm : (5, i) ∈ gis) (hM : Sp (xG x) (xl x) yX5_asked cw_X5_asked dc (vr 5 i :: as) w (some (vi r)) w') (hdc : dc + 1 ≤ d) (hln : ls.length = n) (hn : as.length = 0) (hst : st0 = as.reverse ++ vr 5 i :: st) (hcat : (st.map cat).sum ≤ 8) (hd : decode cc pc = .ok (.invokevirtual 193, 3)) (pc' : Nat) (hp : pc + 3 = pc') (k : Z x pc' ls (vi r :: st) w') : Z x pc ls st0 w := Z_callV (m := 0) (maxL := 1) (N := 32) (T := TX5) as hC hm (by decide) rfl ⟨rfl, by decide, by decide, by decide +kernel⟩ ml_L_193 wi_X5_asked wse_X5_asked wini_X5 wc_X5_asked hM hdc (by decide) hln hn hst hcat hd pc' hp k
theorem ml_L_194 : Cond.methodLink RL 194 yX4_upper ∈ ww := ww_3 142 rfl rfl
theorem K_L_194 {x : CX} {cc : ByteArray} {n d pc : Nat} {ls : LV} {st : List AV} {w : Wd} {i dc : Nat} {st0 : List AV} {r : Int64} {w' : Wd} (as : List AV) (hC : Cx x RL cc n d) (hm : (0, i) ∈ gis) (hM : Sp (xG x) (xl x) yX4_upper cw_X4_upper dc (vr 0 i :: as) w (some (vl r)) w') (hdc : dc + 1 ≤ d) (hln : ls.length = n) (hn : as.length = 0) (hst : st0 = as.reverse ++ vr 0 i :: st) (hcat : (st.map cat).sum ≤ 8) (hd : decode cc pc = .ok (.invokevirtual 194, 3)) (pc' : Nat) (hp : pc + 3 = pc') (k : Z x pc' ls (vl r :: st) w') : Z x pc ls st0 w := Z_callV (m := 0) (maxL := 1) (N := 17) (T := TX4) as hC hm (by decide) rfl ⟨rfl, by decide, by decide, by decide +kernel⟩ ml_L_194 wi_X4_upper wse_X4_upper wini_X4 wc_X4_upper hM hdc (by decide) hln hn hst hcat hd pc' hp k
theorem ml_L_198 : Cond.methodLink RL 198 yX5_upper ∈ ww := ww_5 155 rfl rfl
theorem K_L_198 {x : CX} {cc : ByteArray} {n d pc : Nat} {ls : LV} {st : List AV} {w : Wd} {i dc : Nat} {st0 : List AV} {r : Int64} {w' : Wd} (as : List AV) (hC : Cx x RL cc n d) (hm : (5, i) ∈ gis) (hM : Sp (xG x) (xl x) yX5_upper cw_X5_upper dc (vr 5 i :: as) w (some (vl r)) w') (hdc : dc + 1 ≤ d) (hln : ls.length = n) (hn : as.length = 0) (hst : st0 = as.reverse ++ vr 5 i :: st) (hcat : (st.map cat).sum ≤ 8) (hd : decode cc pc = .ok (.invokevirtual 198, 3)) (pc' : Nat) (hp : pc + 3 = pc') (k : Z x pc' ls (vl r :: st) w') : Z x pc ls st0 w := Z_callV (m := 0) (maxL := 1) (N := 32) (T := TX5) as hC hm (by decide) rfl ⟨rfl, by decide, by decide, by decide +kernel⟩ ml_L_198 wi_X5_upper wse_X5_upper wini_X5 wc_X5_upper hM hdc (by decide) hln hn hst hcat hd pc' hp k
theorem ml_L_199 : Cond.methodLink RL 199 yX4_lower ∈ ww := ww_3 146 rfl rfl
theorem K_L_199 {x : CX} {cc : ByteArray} {n d pc : Nat} {ls : LV} {st : List AV} {w : Wd} {i dc : Nat} {st0 : List AV} {r : Int64} {w' : Wd} (as : List AV) (hC : Cx x RL cc n d) (hm : (0, i) ∈ gis) (hM : Sp (xG x) (xl x) yX4_lower cw_X4_lower dc (vr 0 i :: as) w (some (vl r)) w') (hdc : dc + 1 ≤ d) (hln : ls.length = n) (hn : as.length = 0) (hst : st0 = as.reverse ++ vr 0 i :: st) (hcat : (st.map cat).sum ≤ 8) (hd : decode cc pc = .ok (.invokevirtual 199, 3)) (pc' : Nat) (hp : pc + 3 = pc') (k : Z x pc' ls (vl r :: st) w') : Z x pc ls st0 w := Z_callV (m := 0) (maxL := 1) (N := 17) (T := TX4) as hC hm (by decide) rfl ⟨rfl, by decide, by decide, by decide +kernel⟩ ml_L_199 wi_X4_lower wse_X4_lower wini_X4 wc_X4_lower hM hdc (by decide) hln hn hst hcat hd pc' hp k
theorem ml_L_202 : Cond.methodLink RL 202 yX5_lower ∈ ww := ww_5 159 rfl rfl
theorem K_L_202 {x : CX} {cc : ByteArray} {n d pc : Nat} {ls : LV} {st : List AV} {w : Wd} {i dc : Nat} {st0 : List AV} {r : Int64} {w' : Wd} (as : List AV) (hC : Cx x RL cc n d) (hm : (5, i) ∈ gis) (hM : Sp (xG x) (xl x) yX5_lower cw_X5_lower dc (vr 5 i :: as) w (some (vl r)) w') (hdc : dc + 1 ≤ d) (hln : ls.length = n) (hn : as.length = 0) (hst : st0 = as.reverse ++ vr 5 i :: st) (hcat : (st.map cat).sum ≤ 8) (hd : decode cc pc = .ok (.invokevirtual 202, 3)) (pc' : Nat) (hp : pc + 3 = pc') (k : Z x pc' ls (vl r :: st) w') : Z x pc ls st0 w := Z_callV (m := 0) (maxL := 1) (N := 32) (T := TX5) as hC hm (by decide) rfl ⟨rfl, by decide, by decide, by decide +kernel⟩ ml_L_202 wi_X5_lower wse_X5_lower wini_X5 wc_X5_lower hM hdc (by decide) hln hn hst hcat hd pc' hp k
theorem ml_L_203 : Cond.methodLink RL 203 yX4_count ∈ ww := ww_3 150 rfl rfl
theorem K_L_203 {x : CX} {cc : ByteArray} {n d pc : Nat} {ls : LV} {st : List AV} {w : Wd} {i dc : Nat} {st0 : List AV} {r : Int32} {w' : Wd} (as : List AV) (hC : Cx x RL cc n d) (hm : (0, i) ∈ gis) (hM : Sp (xG x) (xl x) yX4_count cw_X4_count dc (vr 0 i :: as) w (some (vi r)) w') (hdc : dc + 1 ≤ d) (hln : ls.length = n) (hn : as.length = 1) (hst : st0 = as.reverse ++ vr 0 i :: st) (hcat : (st.map cat).sum ≤ 8) (hd : decode cc pc = .ok (.invokevirtual 203, 3)) (pc' : Nat) (hp : pc + 3 = pc') (k : Z x pc' ls (vi r :: st) w') : Z x pc ls st0 w := Z_callV (m := 1) (maxL := 2) (N := 17) (T := TX4) as hC hm (by decide) rfl ⟨rfl, by decide, by decide, by decide +kernel⟩ ml_L_203 wi_X4_count wse_X4_count wini_X4 wc_X4_count hM hdc (by decide) hln hn hst hcat hd pc' hp k
theorem ml_L_206 : Cond.methodLink RL 206 yX5_count ∈ ww := ww_5 163 rfl rfl
theorem K_L_206 {x : CX} {cc : ByteArray} {n d pc : Nat} {ls : LV} {st : List AV} {w : Wd} {i dc : Nat} {st0 : List AV} {r : Int32} {w' : Wd} (as : List AV) (hC : Cx x RL cc n d) (hm : (5, i) ∈ gis) (hM : Sp (xG x) (xl x) yX5_count cw_X5_count dc (vr 5 i :: as) w (some (vi r)) w') (hdc : dc + 1 ≤ d) (hln : ls.length = n) (hn : as.length = 1) (hst : st0 = as.reverse ++ vr 5 i :: st) (hcat : (st.map cat).sum ≤ 8) (hd : decode cc pc = .ok (.invokevirtual 206, 3)) (pc' : Nat) (hp : pc + 3 = pc') (k : Z x pc' ls (vi r :: st) w') : Z x pc ls st0 w := Z_callV (m := 1) (maxL := 2) (N := 32) (T := TX5) as hC hm (by decide) rfl ⟨rfl, by decide, by decide, by decide +kernel⟩ ml_L_206 wi_X5_count wse_X5_count wini_X5 wc_X5_count hM hdc (by decide) hln hn hst hcat hd pc' hp k
theorem ml_L_207 : Cond.methodLink RL 207 yX4_finding ∈ ww := ww_3 161 rfl rfl
theorem K_L_207 {x : CX} {cc : ByteArray} {n d pc : Nat} {ls : LV} {st : List AV} {w : Wd} {i dc : Nat} {st0 : List AV} {r : Int32} {w' : Wd} (as : List AV) (hC : Cx x RL cc n d) (hm : (0, i) ∈ gis) (hM : Sp (xG x) (xl x) yX4_finding cw_X4_finding dc (vr 0 i :: as) w (some (vi r)) w') (hdc : dc + 1 ≤ d) (hln : ls.length = n) (hn : as.length = 0) (hst : st0 = as.reverse ++ vr 0 i :: st) (hcat : (st.map cat).sum ≤ 8) (hd : decode cc pc = .ok (.invokevirtual 207, 3)) (pc' : Nat) (hp : pc + 3 = pc') (k : Z x pc' ls (vi r :: st) w') : Z x pc ls st0 w := Z_callV (m := 0) (maxL := 1) (N := 17) (T := TX4) as hC hm (by decide) rfl ⟨rfl, by decide, by decide, by decide +kernel⟩ ml_L_207 wi_X4_finding wse_X4_finding wini_X4 wc_X4_finding hM hdc (by decide) hln hn hst hcat hd pc' hp k
theorem ml_L_210 : Cond.methodLink RL 210 yX5_finding ∈ ww := ww_5 171 rfl rfl
theorem K_L_210 {x : CX} {cc : ByteArray} {n d pc : Nat} {ls : LV} {st : List AV} {w : Wd} {i dc : Nat} {st0 : List AV} {r : Int32} {w' : Wd} (as : List AV) (hC : Cx x RL cc n d) (hm : (5, i) ∈ gis) (hM : Sp (xG x) (xl x) yX5_finding cw_X5_finding dc (vr 5 i :: as) w (some (vi r)) w') (hdc : dc + 1 ≤ d) (hln : ls.length = n) (hn : as.length = 0) (hst : st0 = as.reverse ++ vr 5 i :: st) (hcat : (st.map cat).sum ≤ 8) (hd : decode cc pc = .ok (.invokevirtual 210, 3)) (pc' : Nat) (hp : pc + 3 = pc') (k : Z x pc' ls (vi r :: st) w') : Z x pc ls st0 w := Z_callV (m := 0) (maxL := 1) (N := 32) (T := TX5) as hC hm (by decide) rfl ⟨rfl, by decide, by decide, by decide +kernel⟩ ml_L_210 wi_X5_finding wse_X5_finding wini_X5 wc_X5_finding hM hdc (by decide) hln hn hst hcat hd pc' hp k
theorem ml_L_211 : Cond.methodLink RL 211 yX4_findings ∈ ww := ww_3 165 rfl rfl
theorem K_L_211 {x : CX} {cc : ByteArray} {n d pc : Nat} {ls : LV} {st : List AV} {w : Wd} {i dc : Nat} {st0 : List AV} {r : Int32} {w' : Wd} (as : List AV) (hC : Cx x RL cc n d) (hm : (0, i) ∈ gis) (hM : Sp (xG x) (xl x) yX4_findings cw_X4_findings dc (vr 0 i :: as) w (some (vi r)) w') (hdc : dc + 1 ≤ d) (hln : ls.length = n) (hn : as.length = 1) (hst : st0 = as.reverse ++ vr 0 i :: st) (hcat : (st.map cat).sum ≤ 8) (hd : decode cc pc = .ok (.invokevirtual 211, 3)) (pc' : Nat) (hp : pc + 3 = pc') (k : Z x pc' ls (vi r :: st) w') : Z x pc ls st0 w := Z_callV (m := 1) (maxL := 2) (N := 17) (T := TX4) as hC hm (by decide) rfl ⟨rfl, by decide, by decide, by decide +kernel⟩ ml_L_211 wi_X4_findings wse_X4_findings wini_X4 wc_X4_findings hM hdc (by decide) hln hn hst hcat hd pc' hp k
theorem ml_L_214 : Cond.methodLink RL 214 yX5_findings ∈ ww := ww_5 175 rfl rfl
theorem K_L_214 {x : CX} {cc : ByteArray} {n d pc : Nat} {ls : LV} {st : List AV} {w : Wd} {i dc : Nat} {st0 : List AV} {r : Int32} {w' : Wd} (as : List AV) (hC : Cx x RL cc n d) (hm : (5, i) ∈ gis) (hM : Sp (xG x) (xl x) yX5_findings cw_X5_findings dc (vr 5 i :: as) w (some (vi r)) w') (hdc : dc + 1 ≤ d) (hln : ls.length = n) (hn : as.length = 1) (hst : st0 = as.reverse ++ vr 5 i :: st) (hcat : (st.map cat).sum ≤ 8) (hd : decode cc pc = .ok (.invokevirtual 214, 3)) (pc' : Nat) (hp : pc + 3 = pc') (k : Z x pc' ls (vi r :: st) w') : Z x pc ls st0 w := Z_callV (m := 1) (maxL := 2) (N := 32) (T := TX5) as hC hm (by decide) rfl ⟨rfl, by decide, by decide, by decide +kernel⟩ ml_L_214 wi_X5_findings wse_X5_findings wini_X5 wc_X5_findings hM hdc (by decide) hln hn hst hcat hd pc' hp k
theorem ml_L_215 : Cond.methodLink RL 215 yX4_digest ∈ ww := ww_3 169 rfl rfl
theorem K_L_215 {x : CX} {cc : ByteArray} {n d pc : Nat} {ls : LV} {st : List AV} {w : Wd} {i dc : Nat} {st0 : List AV} {r : Int64} {w' : Wd} (as : List AV) (hC : Cx x RL cc n d) (hm : (0, i) ∈ gis) (hM : Sp (xG x) (xl x) yX4_digest cw_X4_digest dc (vr 0 i :: as) w (some (vl r)) w') (hdc : dc + 1 ≤ d) (hln : ls.length = n) (hn : as.length = 0) (hst : st0 = as.reverse ++ vr 0 i :: st) (hcat : (st.map cat).sum ≤ 8) (hd : decode cc pc = .ok (.invokevirtual 215, 3)) (pc' : Nat) (hp : pc + 3 = pc') (k : Z x pc' ls (vl r :: st) w') : Z x pc ls st0 w := Z_callV (m := 0) (maxL := 5) (N := 17) (T := TX4) as hC hm (by decide) rfl ⟨rfl, by decide, by decide, by decide +kernel⟩ ml_L_215 wi_X4_digest wse_X4_digest wini_X4 wc_X4_digest hM hdc (by decide) hln hn hst hcat hd pc' hp k
theorem ml_L_218 : Cond.methodLink RL 218 yX5_digest ∈ ww := ww_5 179 rfl rfl
theorem K_L_218 {x : CX} {cc : ByteArray} {n d pc : Nat} {ls : LV} {st : List AV} {w : Wd} {i dc : Nat} {st0 : List AV} {r : Int64} {w' : Wd} (as : List AV) (hC : Cx x RL cc n d) (hm : (5, i) ∈ gis) (hM : Sp (xG x) (xl x) yX5_digest cw_X5_digest dc (vr 5 i :: as) w (some (vl r)) w') (hdc : dc + 1 ≤ d) (hln : ls.length = n) (hn : as.length = 0) (hst : st0 = as.reverse ++ vr 5 i :: st) (hcat : (st.map cat).sum ≤ 8) (hd : decode cc pc = .ok (.invokevirtual 218, 3)) (pc' : Nat) (hp : pc + 3 = pc') (k : Z x pc' ls (vl r :: st) w') : Z x pc ls st0 w := Z_callV (m := 0) (maxL := 3) (N := 32) (T := TX5) as hC hm (by decide) rfl ⟨rfl, by decide, by decide, by decide +kernel⟩ ml_L_218 wi_X5_digest wse_X5_digest wini_X5 wc_X5_digest hM hdc (by decide) hln hn hst hcat hd pc' hp k
theorem K_X0_34 {x : CX} {cc : ByteArray} {n d pc : Nat} {ls : LV} {st : List AV} {w : Wd} {dc : Nat} {st0 : List AV} {r : Int32} {w' : Wd} (as : List AV) (hC : Cx x RX0 cc n d) (hM : Sp (xG x) (xl x) yX4_kindOf cw_X4_kindOf dc as w (some (vi r)) w') (hdc : dc + 1 ≤ d) (hln : ls.length = n) (hn : as.length = 1) (hst : st0 = as.reverse ++ st) (hcat : (st.map cat).sum ≤ 8) (hd : decode cc pc = .ok (.invokestatic 34, 3)) (pc' : Nat) (hp : pc + 3 = pc') (k : Z x pc' ls (vi r :: st) w') : Z x pc ls st0 w := Z_callSN (m := 1) (maxL := 2) as hC ⟨by decide, by decide, by decide +kernel⟩ hC.2.2.2.2.2.2.2.1.2.1 wi_X4_kindOf wini_X4 wc_X4_kindOf hM hdc (by decide) hln hn hst hcat hd pc' hp k
theorem ml_X0_38 : Cond.methodLink RX0 38 arraycopyName ∈ ww := ww_3 68 rfl rfl
theorem K_X0_44 {x : CX} {cc : ByteArray} {n d pc : Nat} {ls : LV} {st : List AV} {w : Wd} {dc : Nat} {st0 : List AV} {r : Int32} {w' : Wd} (as : List AV) (hC : Cx x RX0 cc n d) (hM : Sp (xG x) (xl x) yX4_paper cw_X4_paper dc as w (some (vi r)) w') (hdc : dc + 1 ≤ d) (hln : ls.length = n) (hn : as.length = 2) (hst : st0 = as.reverse ++ st) (hcat : (st.map cat).sum ≤ 8) (hd : decode cc pc = .ok (.invokestatic 44, 3)) (pc' : Nat) (hp : pc + 3 = pc') (k : Z x pc' ls (vi r :: st) w') : Z x pc ls st0 w := Z_callSN (m := 2) (maxL := 2) as hC ⟨by decide, by decide, by decide +kernel⟩ hC.2.2.2.2.2.2.2.1.2.2.1 wi_X4_paper wini_X4 wc_X4_paper hM hdc (by decide) hln hn hst hcat hd pc' hp k
theorem ml_X0_48 : Cond.methodLink RX0 48 yX0_latest ∈ ww := ww_2 46 rfl rfl
theorem K_X0_48 {x : CX} {cc : ByteArray} {n d pc : Nat} {ls : LV} {st : List AV} {w : Wd} {i dc : Nat} {st0 : List AV} {r : Int32} {w' : Wd} (as : List AV) (hC : Cx x RX0 cc n d) (hm : (3, i) ∈ gis) (hM : Sp (xG x) (xl x) yX0_latest cw_X0_latest dc (vr 3 i :: as) w (some (vi r)) w') (hdc : dc + 1 ≤ d) (hln : ls.length = n) (hn : as.length = 1) (hst : st0 = as.reverse ++ vr 3 i :: st) (hcat : (st.map cat).sum ≤ 8) (hd : decode cc pc = .ok (.invokevirtual 48, 3)) (pc' : Nat) (hp : pc + 3 = pc') (k : Z x pc' ls (vi r :: st) w') : Z x pc ls st0 w := Z_callV (m := 1) (maxL := 2) (N := 7) (T := TX0) as hC hm (by decide) rfl ⟨rfl, by decide, by decide, by decide +kernel⟩ ml_X0_48 wi_X0_latest wse_X0_latest wini_X0 wc_X0_latest hM hdc (by decide) hln hn hst hcat hd pc' hp k
theorem K_X0_51 {x : CX} {cc : ByteArray} {n d pc : Nat} {ls : LV} {st : List AV} {w : Wd} {dc : Nat} {st0 : List AV} {r : Int32} {w' : Wd} (as : List AV) (hC : Cx x RX0 cc n d) (hM : Sp (xG x) (xl x) yX4_isOf cw_X4_isOf dc as w (some (vi r)) w') (hdc : dc + 1 ≤ d) (hln : ls.length = n) (hn : as.length = 2) (hst : st0 = as.reverse ++ st) (hcat : (st.map cat).sum ≤ 8) (hd : decode cc pc = .ok (.invokestatic 51, 3)) (pc' : Nat) (hp : pc + 3 = pc') (k : Z x pc' ls (vi r :: st) w') : Z x pc ls st0 w := Z_callSN (m := 2) (maxL := 2) as hC ⟨by decide, by decide, by decide +kernel⟩ hC.2.2.2.2.2.2.2.1.2.2.2.1 wi_X4_isOf wini_X4 wc_X4_isOf hM hdc (by decide) hln hn hst hcat hd pc' hp k
theorem ml_X0_55 : Cond.methodLink RX0 55 yX0_isFor ∈ ww := ww_2 81 rfl rfl
theorem K_X0_55 {x : CX} {cc : ByteArray} {n d pc : Nat} {ls : LV} {st : List AV} {w : Wd} {i dc : Nat} {st0 : List AV} {r : Int32} {w' : Wd} (as : List AV) (hC : Cx x RX0 cc n d) (hm : (3, i) ∈ gis) (hM : Sp (xG x) (xl x) yX0_isFor cw_X0_isFor dc (vr 3 i :: as) w (some (vi r)) w') (hdc : dc + 1 ≤ d) (hln : ls.length = n) (hn : as.length = 1) (hst : st0 = as.reverse ++ vr 3 i :: st) (hcat : (st.map cat).sum ≤ 8) (hd : decode cc pc = .ok (.invokevirtual 55, 3)) (pc' : Nat) (hp : pc + 3 = pc') (k : Z x pc' ls (vi r :: st) w') : Z x pc ls st0 w := Z_callV (m := 1) (maxL := 2) (N := 7) (T := TX0) as hC hm (by decide) rfl ⟨rfl, by decide, by decide, by decide +kernel⟩ ml_X0_55 wi_X0_isFor wse_X0_isFor wini_X0 wc_X0_isFor hM hdc (by decide) hln hn hst hcat hd pc' hp k
theorem ml_X0_59 : Cond.methodLink RX0 59 yX0_barrier ∈ ww := ww_2 76 rfl rfl
theorem K_X0_59 {x : CX} {cc : ByteArray} {n d pc : Nat} {ls : LV} {st : List AV} {w : Wd} {i dc : Nat} {st0 : List AV} {r : Int32} {w' : Wd} (as : List AV) (hC : Cx x RX0 cc n d) (hm : (3, i) ∈ gis) (hM : Sp (xG x) (xl x) yX0_barrier cw_X0_barrier dc (vr 3 i :: as) w (some (vi r)) w') (hdc : dc + 1 ≤ d) (hln : ls.length = n) (hn : as.length = 2) (hst : st0 = as.reverse ++ vr 3 i :: st) (hcat : (st.map cat).sum ≤ 8) (hd : decode cc pc = .ok (.invokevirtual 59, 3)) (pc' : Nat) (hp : pc + 3 = pc') (k : Z x pc' ls (vi r :: st) w') : Z x pc ls st0 w := Z_callV (m := 2) (maxL := 4) (N := 7) (T := TX0) as hC hm (by decide) rfl ⟨rfl, by decide, by decide, by decide +kernel⟩ ml_X0_59 wi_X0_barrier wse_X0_barrier wini_X0 wc_X0_barrier hM hdc (by decide) hln hn hst hcat hd pc' hp k
theorem ml_X0_62 : Cond.methodLink RX0 62 yX0_minds ∈ ww := ww_2 119 rfl rfl
theorem K_X0_62 {x : CX} {cc : ByteArray} {n d pc : Nat} {ls : LV} {st : List AV} {w : Wd} {i dc : Nat} {st0 : List AV} {r : Int32} {w' : Wd} (as : List AV) (hC : Cx x RX0 cc n d) (hm : (3, i) ∈ gis) (hM : Sp (xG x) (xl x) yX0_minds cw_X0_minds dc (vr 3 i :: as) w (some (vi r)) w') (hdc : dc + 1 ≤ d) (hln : ls.length = n) (hn : as.length = 2) (hst : st0 = as.reverse ++ vr 3 i :: st) (hcat : (st.map cat).sum ≤ 8) (hd : decode cc pc = .ok (.invokevirtual 62, 3)) (pc' : Nat) (hp : pc + 3 = pc') (k : Z x pc' ls (vi r :: st) w') : Z x pc ls st0 w := Z_callV (m := 2) (maxL := 3) (N := 7) (T := TX0) as hC hm (by decide) rfl ⟨rfl, by decide, by decide, by decide +kernel⟩ ml_X0_62 wi_X0_minds wse_X0_minds wini_X0 wc_X0_minds hM hdc (by decide) hln hn hst hcat hd pc' hp k
theorem K_X0_65 {x : CX} {cc : ByteArray} {n d pc : Nat} {ls : LV} {st : List AV} {w : Wd} {dc : Nat} {st0 : List AV} {r : Int32} {w' : Wd} (as : List AV) (hC : Cx x RX0 cc n d) (hM : Sp (xG x) (xl x) yX4_ringCount cw_X4_ringCount dc as w (some (vi r)) w') (hdc : dc + 1 ≤ d) (hln : ls.length = n) (hn : as.length = 2) (hst : st0 = as.reverse ++ st) (hcat : (st.map cat).sum ≤ 8) (hd : decode cc pc = .ok (.invokestatic 65, 3)) (pc' : Nat) (hp : pc + 3 = pc') (k : Z x pc' ls (vi r :: st) w') : Z x pc ls st0 w := Z_callSN (m := 2) (maxL := 5) as hC ⟨by decide, by decide, by decide +kernel⟩ hC.2.2.2.2.2.2.2.1.2.2.2.2.1 wi_X4_ringCount wini_X4 wc_X4_ringCount hM hdc (by decide) hln hn hst hcat hd pc' hp k
theorem ml_X0_68 : Cond.methodLink RX0 68 yJ9_abs_0f7a4 ∈ ww := ww_3 130 rfl rfl
theorem K_X0_68 {x : CX} {cc : ByteArray} {n d pc : Nat} {ls : LV} {st : List AV} {w : Wd} {dc : Nat} {st0 : List AV} {r : Int32} {w' : Wd} (as : List AV) (hC : Cx x RX0 cc n d) (hM : Sp (xG x) (xl x) yJ9_abs_0f7a4 cw_J9_abs_0f7a4 dc as w (some (vi r)) w') (hdc : dc + 1 ≤ d) (hln : ls.length = n) (hn : as.length = 1) (hst : st0 = as.reverse ++ st) (hcat : (st.map cat).sum ≤ 8) (hd : decode cc pc = .ok (.invokestatic 68, 3)) (pc' : Nat) (hp : pc + 3 = pc') (k : Z x pc' ls (vi r :: st) w') : Z x pc ls st0 w := Z_callS (m := 1) (maxL := 1) as hC ⟨by decide, by decide, by decide +kernel⟩ ml_X0_68 wi_J9_abs_0f7a4 wini_J9 wc_J9_abs_0f7a4 hM hdc (by decide) hln hn hst hcat hd pc' hp k
theorem ml_X0_73 : Cond.methodLink RX0 73 yJ9_max_7cf53 ∈ ww := ww_3 133 rfl rfl
theorem K_X0_73 {x : CX} {cc : ByteArray} {n d pc : Nat} {ls : LV} {st : List AV} {w : Wd} {dc : Nat} {st0 : List AV} {r : Int32} {w' : Wd} (as : List AV) (hC : Cx x RX0 cc n d) (hM : Sp (xG x) (xl x) yJ9_max_7cf53 cw_J9_max_7cf53 dc as w (some (vi r)) w') (hdc : dc + 1 ≤ d) (hln : ls.length = n) (hn : as.length = 2) (hst : st0 = as.reverse ++ st) (hcat : (st.map cat).sum ≤ 8) (hd : decode cc pc = .ok (.invokestatic 73, 3)) (pc' : Nat) (hp : pc + 3 = pc') (k : Z x pc' ls (vi r :: st) w') : Z x pc ls st0 w := Z_callS (m := 2) (maxL := 2) as hC ⟨by decide, by decide, by decide +kernel⟩ ml_X0_73 wi_J9_max_7cf53 wini_J9 wc_J9_max_7cf53 hM hdc (by decide) hln hn hst hcat hd pc' hp k
theorem ml_X1_20 : Cond.methodLink RX1 20 yJ7_fill_53178 ∈ ww := ww_1 27 rfl rfl
theorem K_X1_20 {x : CX} {cc : ByteArray} {n d pc : Nat} {ls : LV} {st : List AV} {w : Wd} {dc : Nat} {st0 : List AV} {w' : Wd} (as : List AV) (hC : Cx x RX1 cc n d) (hM : Sp (xG x) (xl x) yJ7_fill_53178 cw_J7_fill_53178 dc as w none w') (hdc : dc + 1 ≤ d) (hln : ls.length = n) (hn : as.length = 2) (hst : st0 = as.reverse ++ st) (hcat : (st.map cat).sum ≤ 8) (hd : decode cc pc = .ok (.invokestatic 20, 3)) (pc' : Nat) (hp : pc + 3 = pc') (k : Z x pc' ls st w') : Z x pc ls st0 w := Z_callS (m := 2) (maxL := 4) as hC ⟨by decide, by decide, by decide +kernel⟩ ml_X1_20 wi_J7_fill_53178 wini_J7 wc_J7_fill_53178 hM hdc (by decide) hln hn hst hcat hd pc' hp k
theorem ml_X1_26 : Cond.methodLink RX1 26 yX1_isMissing ∈ ww := ww_1 198 rfl rfl
theorem K_X1_26 {x : CX} {cc : ByteArray} {n d pc : Nat} {ls : LV} {st : List AV} {w : Wd} {i dc : Nat} {st0 : List AV} {r : Int32} {w' : Wd} (as : List AV) (hC : Cx x RX1 cc n d) (hm : (1, i) ∈ gis) (hM : Sp (xG x) (xl x) yX1_isMissing cw_X1_isMissing dc (vr 1 i :: as) w (some (vi r)) w') (hdc : dc + 1 ≤ d) (hln : ls.length = n) (hn : as.length = 1) (hst : st0 = as.reverse ++ vr 1 i :: st) (hcat : (st.map cat).sum ≤ 8) (hd : decode cc pc = .ok (.invokevirtual 26, 3)) (pc' : Nat) (hp : pc + 3 = pc') (k : Z x pc' ls (vi r :: st) w') : Z x pc ls st0 w := Z_callV (m := 1) (maxL := 2) (N := 2) (T := TX1) as hC hm (by decide) rfl ⟨rfl, by decide, by decide, by decide +kernel⟩ ml_X1_26 wi_X1_isMissing wse_X1_isMissing wini_X1 wc_X1_isMissing hM hdc (by decide) hln hn hst hcat hd pc' hp k
theorem ml_X2_26 : Cond.methodLink RX2 26 yJ9_min_7cf53 ∈ ww := ww_2 146 rfl rfl
theorem K_X2_26 {x : CX} {cc : ByteArray} {n d pc : Nat} {ls : LV} {st : List AV} {w : Wd} {dc : Nat} {st0 : List AV} {r : Int32} {w' : Wd} (as : List AV) (hC : Cx x RX2 cc n d) (hM : Sp (xG x) (xl x) yJ9_min_7cf53 cw_J9_min_7cf53 dc as w (some (vi r)) w') (hdc : dc + 1 ≤ d) (hln : ls.length = n) (hn : as.length = 2) (hst : st0 = as.reverse ++ st) (hcat : (st.map cat).sum ≤ 8) (hd : decode cc pc = .ok (.invokestatic 26, 3)) (pc' : Nat) (hp : pc + 3 = pc') (k : Z x pc' ls (vi r :: st) w') : Z x pc ls st0 w := Z_callS (m := 2) (maxL := 2) as hC ⟨by decide, by decide, by decide +kernel⟩ ml_X2_26 wi_J9_min_7cf53 wini_J9 wc_J9_min_7cf53 hM hdc (by decide) hln hn hst hcat hd pc' hp k
theorem ml_X2_44 : Cond.methodLink RX2 44 yX0_open ∈ ww := ww_2 149 rfl rfl
theorem K_X2_44 {x : CX} {cc : ByteArray} {n d pc : Nat} {ls : LV} {st : List AV} {w : Wd} {i dc : Nat} {st0 : List AV} {r : Int32} {w' : Wd} (as : List AV) (hC : Cx x RX2 cc n d) (hm : (3, i) ∈ gis) (hM : Sp (xG x) (xl x) yX0_open cw_X0_open dc (vr 3 i :: as) w (some (vi r)) w') (hdc : dc + 1 ≤ d) (hln : ls.length = n) (hn : as.length = 1) (hst : st0 = as.reverse ++ vr 3 i :: st) (hcat : (st.map cat).sum ≤ 8) (hd : decode cc pc = .ok (.invokevirtual 44, 3)) (pc' : Nat) (hp : pc + 3 = pc') (k : Z x pc' ls (vi r :: st) w') : Z x pc ls st0 w := Z_callV (m := 1) (maxL := 4) (N := 7) (T := TX0) as hC hm (by decide) rfl ⟨rfl, by decide, by decide, by decide +kernel⟩ ml_X2_44 wi_X0_open wse_X0_open wini_X0 wc_X0_open hM hdc (by decide) hln hn hst hcat hd pc' hp k
theorem ml_X2_47 : Cond.methodLink RX2 47 yX2_extend ∈ ww := ww_2 150 rfl rfl
theorem K_X2_47 {x : CX} {cc : ByteArray} {n d pc : Nat} {ls : LV} {st : List AV} {w : Wd} {i dc : Nat} {st0 : List AV} {w' : Wd} (as : List AV) (hC : Cx x RX2 cc n d) (hm : (4, i) ∈ gis) (hM : Sp (xG x) (xl x) yX2_extend cw_X2_extend dc (vr 4 i :: as) w none w') (hdc : dc + 1 ≤ d) (hln : ls.length = n) (hn : as.length = 3) (hst : st0 = as.reverse ++ vr 4 i :: st) (hcat : (st.map cat).sum ≤ 8) (hd : decode cc pc = .ok (.invokevirtual 47, 3)) (pc' : Nat) (hp : pc + 3 = pc') (k : Z x pc' ls st w') : Z x pc ls st0 w := Z_callV (m := 3) (maxL := 6) (N := 6) (T := TX2) as hC hm (by decide) rfl ⟨rfl, by decide, by decide, by decide +kernel⟩ ml_X2_47 wi_X2_extend wse_X2_extend wini_X2 wc_X2_extend hM hdc (by decide) hln hn hst hcat hd pc' hp k
theorem ml_X2_51 : Cond.methodLink RX2 51 yX2_admit ∈ ww := ww_2 154 rfl rfl
theorem K_X2_51 {x : CX} {cc : ByteArray} {n d pc : Nat} {ls : LV} {st : List AV} {w : Wd} {i dc : Nat} {st0 : List AV} {w' : Wd} (as : List AV) (hC : Cx x RX2 cc n d) (hm : (4, i) ∈ gis) (hM : Sp (xG x) (xl x) yX2_admit cw_X2_admit dc (vr 4 i :: as) w none w') (hdc : dc + 1 ≤ d) (hln : ls.length = n) (hn : as.length = 1) (hst : st0 = as.reverse ++ vr 4 i :: st) (hcat : (st.map cat).sum ≤ 8) (hd : decode cc pc = .ok (.invokevirtual 51, 3)) (pc' : Nat) (hp : pc + 3 = pc') (k : Z x pc' ls st w') : Z x pc ls st0 w := Z_callV (m := 1) (maxL := 2) (N := 6) (T := TX2) as hC hm (by decide) rfl ⟨rfl, by decide, by decide, by decide +kernel⟩ ml_X2_51 wi_X2_admit wse_X2_admit wini_X2 wc_X2_admit hM hdc (by decide) hln hn hst hcat hd pc' hp k
theorem ml_X2_55 : Cond.methodLink RX2 55 yX0_drawsBack ∈ ww := ww_2 163 rfl rfl
theorem K_X2_55 {x : CX} {cc : ByteArray} {n d pc : Nat} {ls : LV} {st : List AV} {w : Wd} {i dc : Nat} {st0 : List AV} {r : Int32} {w' : Wd} (as : List AV) (hC : Cx x RX2 cc n d) (hm : (3, i) ∈ gis) (hM : Sp (xG x) (xl x) yX0_drawsBack cw_X0_drawsBack dc (vr 3 i :: as) w (some (vi r)) w') (hdc : dc + 1 ≤ d) (hln : ls.length = n) (hn : as.length = 3) (hst : st0 = as.reverse ++ vr 3 i :: st) (hcat : (st.map cat).sum ≤ 8) (hd : decode cc pc = .ok (.invokevirtual 55, 3)) (pc' : Nat) (hp : pc + 3 = pc') (k : Z x pc' ls (vi r :: st) w') : Z x pc ls st0 w := Z_callV (m := 3) (maxL := 4) (N := 7) (T := TX0) as hC hm (by decide) rfl ⟨rfl, by decide, by decide, by decide +kernel⟩ ml_X2_55 wi_X0_drawsBack wse_X0_drawsBack wini_X0 wc_X0_drawsBack hM hdc (by decide) hln hn hst hcat hd pc' hp k
theorem ml_X2_59 : Cond.methodLink RX2 59 yX0_breaksRing ∈ ww := ww_2 158 rfl rfl
theorem K_X2_59 {x : CX} {cc : ByteArray} {n d pc : Nat} {ls : LV} {st : List AV} {w : Wd} {i dc : Nat} {st0 : List AV} {r : Int32} {w' : Wd} (as : List AV) (hC : Cx x RX2 cc n d) (hm : (3, i) ∈ gis) (hM : Sp (xG x) (xl x) yX0_breaksRing cw_X0_breaksRing dc (vr 3 i :: as) w (some (vi r)) w') (hdc : dc + 1 ≤ d) (hln : ls.length = n) (hn : as.length = 1) (hst : st0 = as.reverse ++ vr 3 i :: st) (hcat : (st.map cat).sum ≤ 8) (hd : decode cc pc = .ok (.invokevirtual 59, 3)) (pc' : Nat) (hp : pc + 3 = pc') (k : Z x pc' ls (vi r :: st) w') : Z x pc ls st0 w := Z_callV (m := 1) (maxL := 2) (N := 7) (T := TX0) as hC hm (by decide) rfl ⟨rfl, by decide, by decide, by decide +kernel⟩ ml_X2_59 wi_X0_breaksRing wse_X0_breaksRing wini_X0 wc_X0_breaksRing hM hdc (by decide) hln hn hst hcat hd pc' hp k
theorem ml_X2_63 : Cond.methodLink RX2 63 yX0_hadYear ∈ ww := ww_2 159 rfl rfl
theorem K_X2_63 {x : CX} {cc : ByteArray} {n d pc : Nat} {ls : LV} {st : List AV} {w : Wd} {i dc : Nat} {st0 : List AV} {r : Int32} {w' : Wd} (as : List AV) (hC : Cx x RX2 cc n d) (hm : (3, i) ∈ gis) (hM : Sp (xG x) (xl x) yX0_hadYear cw_X0_hadYear dc (vr 3 i :: as) w (some (vi r)) w') (hdc : dc + 1 ≤ d) (hln : ls.length = n) (hn : as.length = 1) (hst : st0 = as.reverse ++ vr 3 i :: st) (hcat : (st.map cat).sum ≤ 8) (hd : decode cc pc = .ok (.invokevirtual 63, 3)) (pc' : Nat) (hp : pc + 3 = pc') (k : Z x pc' ls (vi r :: st) w') : Z x pc ls st0 w := Z_callV (m := 1) (maxL := 3) (N := 7) (T := TX0) as hC hm (by decide) rfl ⟨rfl, by decide, by decide, by decide +kernel⟩ ml_X2_63 wi_X0_hadYear wse_X0_hadYear wini_X0 wc_X0_hadYear hM hdc (by decide) hln hn hst hcat hd pc' hp k
theorem ml_X2_66 : Cond.methodLink RX2 66 yX2_fitsAt ∈ ww := ww_2 183 rfl rfl
theorem K_X2_66 {x : CX} {cc : ByteArray} {n d pc : Nat} {ls : LV} {st : List AV} {w : Wd} {i dc : Nat} {st0 : List AV} {r : Int32} {w' : Wd} (as : List AV) (hC : Cx x RX2 cc n d) (hm : (4, i) ∈ gis) (hM : Sp (xG x) (xl x) yX2_fitsAt cw_X2_fitsAt dc (vr 4 i :: as) w (some (vi r)) w') (hdc : dc + 1 ≤ d) (hln : ls.length = n) (hn : as.length = 3) (hst : st0 = as.reverse ++ vr 4 i :: st) (hcat : (st.map cat).sum ≤ 8) (hd : decode cc pc = .ok (.invokevirtual 66, 3)) (pc' : Nat) (hp : pc + 3 = pc') (k : Z x pc' ls (vi r :: st) w') : Z x pc ls st0 w := Z_callV (m := 3) (maxL := 4) (N := 6) (T := TX2) as hC hm (by decide) rfl ⟨rfl, by decide, by decide, by decide +kernel⟩ ml_X2_66 wi_X2_fitsAt wse_X2_fitsAt wini_X2 wc_X2_fitsAt hM hdc (by decide) hln hn hst hcat hd pc' hp k
theorem K_X2_69 {x : CX} {cc : ByteArray} {n d pc : Nat} {ls : LV} {st : List AV} {w : Wd} {dc : Nat} {st0 : List AV} {r : Int32} {w' : Wd} (as : List AV) (hC : Cx x RX2 cc n d) (hM : Sp (xG x) (xl x) yX4_firstOnes cw_X4_firstOnes dc as w (some (vi r)) w') (hdc : dc + 1 ≤ d) (hln : ls.length = n) (hn : as.length = 1) (hst : st0 = as.reverse ++ st) (hcat : (st.map cat).sum ≤ 8) (hd : decode cc pc = .ok (.invokestatic 69, 3)) (pc' : Nat) (hp : pc + 3 = pc') (k : Z x pc' ls (vi r :: st) w') : Z x pc ls st0 w := Z_callSN (m := 1) (maxL := 1) as hC ⟨by decide, by decide, by decide +kernel⟩ hC.2.2.2.2.2.2.2.1.2.2.2.2.2.1 wi_X4_firstOnes wini_X4 wc_X4_firstOnes hM hdc (by decide) hln hn hst hcat hd pc' hp k
theorem ml_X2_72 : Cond.methodLink RX2 72 yX2_placeOf ∈ ww := ww_3 13 rfl rfl
theorem K_X2_72 {x : CX} {cc : ByteArray} {n d pc : Nat} {ls : LV} {st : List AV} {w : Wd} {i dc : Nat} {st0 : List AV} {r : Int32} {w' : Wd} (as : List AV) (hC : Cx x RX2 cc n d) (hm : (4, i) ∈ gis) (hM : Sp (xG x) (xl x) yX2_placeOf cw_X2_placeOf dc (vr 4 i :: as) w (some (vi r)) w') (hdc : dc + 1 ≤ d) (hln : ls.length = n) (hn : as.length = 2) (hst : st0 = as.reverse ++ vr 4 i :: st) (hcat : (st.map cat).sum ≤ 8) (hd : decode cc pc = .ok (.invokevirtual 72, 3)) (pc' : Nat) (hp : pc + 3 = pc') (k : Z x pc' ls (vi r :: st) w') : Z x pc ls st0 w := Z_callV (m := 2) (maxL := 4) (N := 6) (T := TX2) as hC hm (by decide) rfl ⟨rfl, by decide, by decide, by decide +kernel⟩ ml_X2_72 wi_X2_placeOf wse_X2_placeOf wini_X2 wc_X2_placeOf hM hdc (by decide) hln hn hst hcat hd pc' hp k
theorem ml_X2_75 : Cond.methodLink RX2 75 yX2_fitting ∈ ww := ww_3 14 rfl rfl
theorem K_X2_75 {x : CX} {cc : ByteArray} {n d pc : Nat} {ls : LV} {st : List AV} {w : Wd} {i dc : Nat} {st0 : List AV} {r : Int32} {w' : Wd} (as : List AV) (hC : Cx x RX2 cc n d) (hm : (4, i) ∈ gis) (hM : Sp (xG x) (xl x) yX2_fitting cw_X2_fitting dc (vr 4 i :: as) w (some (vi r)) w') (hdc : dc + 1 ≤ d) (hln : ls.length = n) (hn : as.length = 2) (hst : st0 = as.reverse ++ vr 4 i :: st) (hcat : (st.map cat).sum ≤ 8) (hd : decode cc pc = .ok (.invokevirtual 75, 3)) (pc' : Nat) (hp : pc + 3 = pc') (k : Z x pc' ls (vi r :: st) w') : Z x pc ls st0 w := Z_callV (m := 2) (maxL := 5) (N := 6) (T := TX2) as hC hm (by decide) rfl ⟨rfl, by decide, by decide, by decide +kernel⟩ ml_X2_75 wi_X2_fitting wse_X2_fitting wini_X2 wc_X2_fitting hM hdc (by decide) hln hn hst hcat hd pc' hp k
theorem ml_X2_79 : Cond.methodLink RX2 79 yX2_shareOf ∈ ww := ww_3 16 rfl rfl
theorem K_X2_79 {x : CX} {cc : ByteArray} {n d pc : Nat} {ls : LV} {st : List AV} {w : Wd} {i dc : Nat} {st0 : List AV} {r : Int32} {w' : Wd} (as : List AV) (hC : Cx x RX2 cc n d) (hm : (4, i) ∈ gis) (hM : Sp (xG x) (xl x) yX2_shareOf cw_X2_shareOf dc (vr 4 i :: as) w (some (vi r)) w') (hdc : dc + 1 ≤ d) (hln : ls.length = n) (hn : as.length = 6) (hst : st0 = as.reverse ++ vr 4 i :: st) (hcat : (st.map cat).sum ≤ 8) (hd : decode cc pc = .ok (.invokevirtual 79, 3)) (pc' : Nat) (hp : pc + 3 = pc') (k : Z x pc' ls (vi r :: st) w') : Z x pc ls st0 w := Z_callV (m := 6) (maxL := 12) (N := 6) (T := TX2) as hC hm (by decide) rfl ⟨rfl, by decide, by decide, by decide +kernel⟩ ml_X2_79 wi_X2_shareOf wse_X2_shareOf wini_X2 wc_X2_shareOf hM hdc (by decide) hln hn hst hcat hd pc' hp k
theorem ml_X2_83 : Cond.methodLink RX2 83 yX2_partsAt ∈ ww := ww_3 20 rfl rfl
theorem K_X2_83 {x : CX} {cc : ByteArray} {n d pc : Nat} {ls : LV} {st : List AV} {w : Wd} {i dc : Nat} {st0 : List AV} {r : Int32} {w' : Wd} (as : List AV) (hC : Cx x RX2 cc n d) (hm : (4, i) ∈ gis) (hM : Sp (xG x) (xl x) yX2_partsAt cw_X2_partsAt dc (vr 4 i :: as) w (some (vi r)) w') (hdc : dc + 1 ≤ d) (hln : ls.length = n) (hn : as.length = 3) (hst : st0 = as.reverse ++ vr 4 i :: st) (hcat : (st.map cat).sum ≤ 8) (hd : decode cc pc = .ok (.invokevirtual 83, 3)) (pc' : Nat) (hp : pc + 3 = pc') (k : Z x pc' ls (vi r :: st) w') : Z x pc ls st0 w := Z_callV (m := 3) (maxL := 6) (N := 6) (T := TX2) as hC hm (by decide) rfl ⟨rfl, by decide, by decide, by decide +kernel⟩ ml_X2_83 wi_X2_partsAt wse_X2_partsAt wini_X2 wc_X2_partsAt hM hdc (by decide) hln hn hst hcat hd pc' hp k
theorem K_X2_87 {x : CX} {cc : ByteArray} {n d pc : Nat} {ls : LV} {st : List AV} {w : Wd} {dc : Nat} {st0 : List AV} {r : Int32} {w' : Wd} (as : List AV) (hC : Cx x RX2 cc n d) (hM : Sp (xG x) (xl x) yX4_paper cw_X4_paper dc as w (some (vi r)) w') (hdc : dc + 1 ≤ d) (hln : ls.length = n) (hn : as.length = 2) (hst : st0 = as.reverse ++ st) (hcat : (st.map cat).sum ≤ 8) (hd : decode cc pc = .ok (.invokestatic 87, 3)) (pc' : Nat) (hp : pc + 3 = pc') (k : Z x pc' ls (vi r :: st) w') : Z x pc ls st0 w := Z_callSN (m := 2) (maxL := 2) as hC ⟨by decide, by decide, by decide +kernel⟩ hC.2.2.2.2.2.2.2.1.2.2.2.2.2.2 wi_X4_paper wini_X4 wc_X4_paper hM hdc (by decide) hln hn hst hcat hd pc' hp k
theorem ml_X3_20 : Cond.methodLink RX3 20 yJ7_fill_53178 ∈ ww := ww_1 48 rfl rfl
theorem K_X3_20 {x : CX} {cc : ByteArray} {n d pc : Nat} {ls : LV} {st : List AV} {w : Wd} {dc : Nat} {st0 : List AV} {w' : Wd} (as : List AV) (hC : Cx x RX3 cc n d) (hM : Sp (xG x) (xl x) yJ7_fill_53178 cw_J7_fill_53178 dc as w none w') (hdc : dc + 1 ≤ d) (hln : ls.length = n) (hn : as.length = 2) (hst : st0 = as.reverse ++ st) (hcat : (st.map cat).sum ≤ 8) (hd : decode cc pc = .ok (.invokestatic 20, 3)) (pc' : Nat) (hp : pc + 3 = pc') (k : Z x pc' ls st w') : Z x pc ls st0 w := Z_callS (m := 2) (maxL := 4) as hC ⟨by decide, by decide, by decide +kernel⟩ ml_X3_20 wi_J7_fill_53178 wini_J7 wc_J7_fill_53178 hM hdc (by decide) hln hn hst hcat hd pc' hp k
theorem ml_X3_26 : Cond.methodLink RX3 26 yJ7_fill_031fb ∈ ww := ww_1 237 rfl rfl
theorem K_X3_26 {x : CX} {cc : ByteArray} {n d pc : Nat} {ls : LV} {st : List AV} {w : Wd} {dc : Nat} {st0 : List AV} {w' : Wd} (as : List AV) (hC : Cx x RX3 cc n d) (hM : Sp (xG x) (xl x) yJ7_fill_031fb cw_J7_fill_031fb dc as w none w') (hdc : dc + 1 ≤ d) (hln : ls.length = n) (hn : as.length = 2) (hst : st0 = as.reverse ++ st) (hcat : (st.map cat).sum ≤ 8) (hd : decode cc pc = .ok (.invokestatic 26, 3)) (pc' : Nat) (hp : pc + 3 = pc') (k : Z x pc' ls st w') : Z x pc ls st0 w := Z_callS (m := 2) (maxL := 4) as hC ⟨by decide, by decide, by decide +kernel⟩ ml_X3_26 wi_J7_fill_031fb wini_J7 wc_J7_fill_031fb hM hdc (by decide) hln hn hst hcat hd pc' hp k
theorem K_X3_29 {x : CX} {cc : ByteArray} {n d pc : Nat} {ls : LV} {st : List AV} {w : Wd} {dc : Nat} {st0 : List AV} {r : Int32} {w' : Wd} (as : List AV) (hC : Cx x RX3 cc n d) (hM : Sp (xG x) (xl x) yX4_kindOf cw_X4_kindOf dc as w (some (vi r)) w') (hdc : dc + 1 ≤ d) (hln : ls.length = n) (hn : as.length = 1) (hst : st0 = as.reverse ++ st) (hcat : (st.map cat).sum ≤ 8) (hd : decode cc pc = .ok (.invokestatic 29, 3)) (pc' : Nat) (hp : pc + 3 = pc') (k : Z x pc' ls (vi r :: st) w') : Z x pc ls st0 w := Z_callSN (m := 1) (maxL := 2) as hC ⟨by decide, by decide, by decide +kernel⟩ hC.2.2.2.2.2.2.2.1.1 wi_X4_kindOf wini_X4 wc_X4_kindOf hM hdc (by decide) hln hn hst hcat hd pc' hp k
theorem ml_X3_33 : Cond.methodLink RX3 33 yX3_isFigure ∈ ww := ww_2 21 rfl rfl
theorem K_X3_33 {x : CX} {cc : ByteArray} {n d pc : Nat} {ls : LV} {st : List AV} {w : Wd} {i dc : Nat} {st0 : List AV} {r : Int32} {w' : Wd} (as : List AV) (hC : Cx x RX3 cc n d) (hm : (2, i) ∈ gis) (hM : Sp (xG x) (xl x) yX3_isFigure cw_X3_isFigure dc (vr 2 i :: as) w (some (vi r)) w') (hdc : dc + 1 ≤ d) (hln : ls.length = n) (hn : as.length = 2) (hst : st0 = as.reverse ++ vr 2 i :: st) (hcat : (st.map cat).sum ≤ 8) (hd : decode cc pc = .ok (.invokevirtual 33, 3)) (pc' : Nat) (hp : pc + 3 = pc') (k : Z x pc' ls (vi r :: st) w') : Z x pc ls st0 w := Z_callV (m := 2) (maxL := 3) (N := 2) (T := TX3) as hC hm (by decide) rfl ⟨rfl, by decide, by decide, by decide +kernel⟩ ml_X3_33 wi_X3_isFigure wse_X3_isFigure wini_X3 wc_X3_isFigure hM hdc (by decide) hln hn hst hcat hd pc' hp k
theorem ml_X4_58 : Cond.methodLink RX4 58 yJ7_fill_53178 ∈ ww := ww_1 122 rfl rfl
theorem K_X4_58 {x : CX} {cc : ByteArray} {n d pc : Nat} {ls : LV} {st : List AV} {w : Wd} {dc : Nat} {st0 : List AV} {w' : Wd} (as : List AV) (hC : Cx x RX4 cc n d) (hM : Sp (xG x) (xl x) yJ7_fill_53178 cw_J7_fill_53178 dc as w none w') (hdc : dc + 1 ≤ d) (hln : ls.length = n) (hn : as.length = 2) (hst : st0 = as.reverse ++ st) (hcat : (st.map cat).sum ≤ 8) (hd : decode cc pc = .ok (.invokestatic 58, 3)) (pc' : Nat) (hp : pc + 3 = pc') (k : Z x pc' ls st w') : Z x pc ls st0 w := Z_callS (m := 2) (maxL := 4) as hC ⟨by decide, by decide, by decide +kernel⟩ ml_X4_58 wi_J7_fill_53178 wini_J7 wc_J7_fill_53178 hM hdc (by decide) hln hn hst hcat hd pc' hp k
theorem ml_X4_72 : Cond.methodLink RX4 72 yX4_isRow ∈ ww := ww_1 179 rfl rfl
theorem K_X4_72 {x : CX} {cc : ByteArray} {n d pc : Nat} {ls : LV} {st : List AV} {w : Wd} {dc : Nat} {st0 : List AV} {r : Int32} {w' : Wd} (as : List AV) (hC : Cx x RX4 cc n d) (hM : Sp (xG x) (xl x) yX4_isRow cw_X4_isRow dc as w (some (vi r)) w') (hdc : dc + 1 ≤ d) (hln : ls.length = n) (hn : as.length = 1) (hst : st0 = as.reverse ++ st) (hcat : (st.map cat).sum ≤ 8) (hd : decode cc pc = .ok (.invokestatic 72, 3)) (pc' : Nat) (hp : pc + 3 = pc') (k : Z x pc' ls (vi r :: st) w') : Z x pc ls st0 w := Z_callS (m := 1) (maxL := 1) as hC ⟨by decide, by decide, by decide +kernel⟩ ml_X4_72 wi_X4_isRow wini_X4 wc_X4_isRow hM hdc (by decide) hln hn hst hcat hd pc' hp k
theorem ml_X4_76 : Cond.methodLink RX4 76 yX4_refuse ∈ ww := ww_1 182 rfl rfl
theorem K_X4_76 {x : CX} {cc : ByteArray} {n d pc : Nat} {ls : LV} {st : List AV} {w : Wd} {i dc : Nat} {st0 : List AV} {r : Int32} {w' : Wd} (as : List AV) (hC : Cx x RX4 cc n d) (hm : (0, i) ∈ gis) (hM : Sp (xG x) (xl x) yX4_refuse cw_X4_refuse dc (vr 0 i :: as) w (some (vi r)) w') (hdc : dc + 1 ≤ d) (hln : ls.length = n) (hn : as.length = 1) (hst : st0 = as.reverse ++ vr 0 i :: st) (hcat : (st.map cat).sum ≤ 8) (hd : decode cc pc = .ok (.invokevirtual 76, 3)) (pc' : Nat) (hp : pc + 3 = pc') (k : Z x pc' ls (vi r :: st) w') : Z x pc ls st0 w := Z_callV (m := 1) (maxL := 2) (N := 17) (T := TX4) as hC hm (by decide) rfl ⟨rfl, by decide, by decide, by decide +kernel⟩ ml_X4_76 wi_X4_refuse wse_X4_refuse wini_X4 wc_X4_refuse hM hdc (by decide) hln hn hst hcat hd pc' hp k
theorem ml_X4_80 : Cond.methodLink RX4 80 yX1_renew ∈ ww := ww_1 186 rfl rfl
theorem K_X4_80 {x : CX} {cc : ByteArray} {n d pc : Nat} {ls : LV} {st : List AV} {w : Wd} {i dc : Nat} {st0 : List AV} {w' : Wd} (as : List AV) (hC : Cx x RX4 cc n d) (hm : (1, i) ∈ gis) (hM : Sp (xG x) (xl x) yX1_renew cw_X1_renew dc (vr 1 i :: as) w none w') (hdc : dc + 1 ≤ d) (hln : ls.length = n) (hn : as.length = 2) (hst : st0 = as.reverse ++ vr 1 i :: st) (hcat : (st.map cat).sum ≤ 8) (hd : decode cc pc = .ok (.invokevirtual 80, 3)) (pc' : Nat) (hp : pc + 3 = pc') (k : Z x pc' ls st w') : Z x pc ls st0 w := Z_callV (m := 2) (maxL := 3) (N := 2) (T := TX1) as hC hm (by decide) rfl ⟨rfl, by decide, by decide, by decide +kernel⟩ ml_X4_80 wi_X1_renew wse_X1_renew wini_X1 wc_X1_renew hM hdc (by decide) hln hn hst hcat hd pc' hp k
theorem ml_X4_84 : Cond.methodLink RX4 84 yX1_missesPlace ∈ ww := ww_1 194 rfl rfl
theorem K_X4_84 {x : CX} {cc : ByteArray} {n d pc : Nat} {ls : LV} {st : List AV} {w : Wd} {i dc : Nat} {st0 : List AV} {r : Int32} {w' : Wd} (as : List AV) (hC : Cx x RX4 cc n d) (hm : (1, i) ∈ gis) (hM : Sp (xG x) (xl x) yX1_missesPlace cw_X1_missesPlace dc (vr 1 i :: as) w (some (vi r)) w') (hdc : dc + 1 ≤ d) (hln : ls.length = n) (hn : as.length = 2) (hst : st0 = as.reverse ++ vr 1 i :: st) (hcat : (st.map cat).sum ≤ 8) (hd : decode cc pc = .ok (.invokevirtual 84, 3)) (pc' : Nat) (hp : pc + 3 = pc') (k : Z x pc' ls (vi r :: st) w') : Z x pc ls st0 w := Z_callV (m := 2) (maxL := 3) (N := 2) (T := TX1) as hC hm (by decide) rfl ⟨rfl, by decide, by decide, by decide +kernel⟩ ml_X4_84 wi_X1_missesPlace wse_X1_missesPlace wini_X1 wc_X1_missesPlace hM hdc (by decide) hln hn hst hcat hd pc' hp k
theorem ml_X4_96 : Cond.methodLink RX4 96 yX1_isMissing ∈ ww := ww_1 210 rfl rfl
theorem K_X4_96 {x : CX} {cc : ByteArray} {n d pc : Nat} {ls : LV} {st : List AV} {w : Wd} {i dc : Nat} {st0 : List AV} {r : Int32} {w' : Wd} (as : List AV) (hC : Cx x RX4 cc n d) (hm : (1, i) ∈ gis) (hM : Sp (xG x) (xl x) yX1_isMissing cw_X1_isMissing dc (vr 1 i :: as) w (some (vi r)) w') (hdc : dc + 1 ≤ d) (hln : ls.length = n) (hn : as.length = 1) (hst : st0 = as.reverse ++ vr 1 i :: st) (hcat : (st.map cat).sum ≤ 8) (hd : decode cc pc = .ok (.invokevirtual 96, 3)) (pc' : Nat) (hp : pc + 3 = pc') (k : Z x pc' ls (vi r :: st) w') : Z x pc ls st0 w := Z_callV (m := 1) (maxL := 2) (N := 2) (T := TX1) as hC hm (by decide) rfl ⟨rfl, by decide, by decide, by decide +kernel⟩ ml_X4_96 wi_X1_isMissing wse_X1_isMissing wini_X1 wc_X1_isMissing hM hdc (by decide) hln hn hst hcat hd pc' hp k
theorem ml_X4_102 : Cond.methodLink RX4 102 yX1_hasPlaces ∈ ww := ww_1 215 rfl rfl
theorem K_X4_102 {x : CX} {cc : ByteArray} {n d pc : Nat} {ls : LV} {st : List AV} {w : Wd} {i dc : Nat} {st0 : List AV} {r : Int32} {w' : Wd} (as : List AV) (hC : Cx x RX4 cc n d) (hm : (1, i) ∈ gis) (hM : Sp (xG x) (xl x) yX1_hasPlaces cw_X1_hasPlaces dc (vr 1 i :: as) w (some (vi r)) w') (hdc : dc + 1 ≤ d) (hln : ls.length = n) (hn : as.length = 3) (hst : st0 = as.reverse ++ vr 1 i :: st) (hcat : (st.map cat).sum ≤ 8) (hd : decode cc pc = .ok (.invokevirtual 102, 3)) (pc' : Nat) (hp : pc + 3 = pc') (k : Z x pc' ls (vi r :: st) w') : Z x pc ls st0 w := Z_callV (m := 3) (maxL := 4) (N := 2) (T := TX1) as hC hm (by decide) rfl ⟨rfl, by decide, by decide, by decide +kernel⟩ ml_X4_102 wi_X1_hasPlaces wse_X1_hasPlaces wini_X1 wc_X1_hasPlaces hM hdc (by decide) hln hn hst hcat hd pc' hp k
theorem ml_X4_106 : Cond.methodLink RX4 106 arraycopyName ∈ ww := ww_1 219 rfl rfl
theorem ml_X4_112 : Cond.methodLink RX4 112 yX4_isText ∈ ww := ww_1 230 rfl rfl
theorem K_X4_112 {x : CX} {cc : ByteArray} {n d pc : Nat} {ls : LV} {st : List AV} {w : Wd} {dc : Nat} {st0 : List AV} {r : Int32} {w' : Wd} (as : List AV) (hC : Cx x RX4 cc n d) (hM : Sp (xG x) (xl x) yX4_isText cw_X4_isText dc as w (some (vi r)) w') (hdc : dc + 1 ≤ d) (hln : ls.length = n) (hn : as.length = 1) (hst : st0 = as.reverse ++ st) (hcat : (st.map cat).sum ≤ 8) (hd : decode cc pc = .ok (.invokestatic 112, 3)) (pc' : Nat) (hp : pc + 3 = pc') (k : Z x pc' ls (vi r :: st) w') : Z x pc ls st0 w := Z_callS (m := 1) (maxL := 1) as hC ⟨by decide, by decide, by decide +kernel⟩ ml_X4_112 wi_X4_isText wini_X4 wc_X4_isText hM hdc (by decide) hln hn hst hcat hd pc' hp k
theorem ml_X4_115 : Cond.methodLink RX4 115 yX3_renew ∈ ww := ww_1 233 rfl rfl
theorem K_X4_115 {x : CX} {cc : ByteArray} {n d pc : Nat} {ls : LV} {st : List AV} {w : Wd} {i dc : Nat} {st0 : List AV} {w' : Wd} (as : List AV) (hC : Cx x RX4 cc n d) (hm : (2, i) ∈ gis) (hM : Sp (xG x) (xl x) yX3_renew cw_X3_renew dc (vr 2 i :: as) w none w') (hdc : dc + 1 ≤ d) (hln : ls.length = n) (hn : as.length = 2) (hst : st0 = as.reverse ++ vr 2 i :: st) (hcat : (st.map cat).sum ≤ 8) (hd : decode cc pc = .ok (.invokevirtual 115, 3)) (pc' : Nat) (hp : pc + 3 = pc') (k : Z x pc' ls st w') : Z x pc ls st0 w := Z_callV (m := 2) (maxL := 3) (N := 2) (T := TX3) as hC hm (by decide) rfl ⟨rfl, by decide, by decide, by decide +kernel⟩ ml_X4_115 wi_X3_renew wse_X3_renew wini_X3 wc_X3_renew hM hdc (by decide) hln hn hst hcat hd pc' hp k
theorem ml_X4_116 : Cond.methodLink RX4 116 yX3_isMissing ∈ ww := ww_2 4 rfl rfl
theorem K_X4_116 {x : CX} {cc : ByteArray} {n d pc : Nat} {ls : LV} {st : List AV} {w : Wd} {i dc : Nat} {st0 : List AV} {r : Int32} {w' : Wd} (as : List AV) (hC : Cx x RX4 cc n d) (hm : (2, i) ∈ gis) (hM : Sp (xG x) (xl x) yX3_isMissing cw_X3_isMissing dc (vr 2 i :: as) w (some (vi r)) w') (hdc : dc + 1 ≤ d) (hln : ls.length = n) (hn : as.length = 1) (hst : st0 = as.reverse ++ vr 2 i :: st) (hcat : (st.map cat).sum ≤ 8) (hd : decode cc pc = .ok (.invokevirtual 116, 3)) (pc' : Nat) (hp : pc + 3 = pc') (k : Z x pc' ls (vi r :: st) w') : Z x pc ls st0 w := Z_callV (m := 1) (maxL := 2) (N := 2) (T := TX3) as hC hm (by decide) rfl ⟨rfl, by decide, by decide, by decide +kernel⟩ ml_X4_116 wi_X3_isMissing wse_X3_isMissing wini_X3 wc_X3_isMissing hM hdc (by decide) hln hn hst hcat hd pc' hp k
theorem ml_X4_121 : Cond.methodLink RX4 121 yX3_firstFault ∈ ww := ww_2 12 rfl rfl
theorem K_X4_121 {x : CX} {cc : ByteArray} {n d pc : Nat} {ls : LV} {st : List AV} {w : Wd} {i dc : Nat} {st0 : List AV} {r : Int32} {w' : Wd} (as : List AV) (hC : Cx x RX4 cc n d) (hm : (2, i) ∈ gis) (hM : Sp (xG x) (xl x) yX3_firstFault cw_X3_firstFault dc (vr 2 i :: as) w (some (vi r)) w') (hdc : dc + 1 ≤ d) (hln : ls.length = n) (hn : as.length = 1) (hst : st0 = as.reverse ++ vr 2 i :: st) (hcat : (st.map cat).sum ≤ 8) (hd : decode cc pc = .ok (.invokevirtual 121, 3)) (pc' : Nat) (hp : pc + 3 = pc') (k : Z x pc' ls (vi r :: st) w') : Z x pc ls st0 w := Z_callV (m := 1) (maxL := 4) (N := 2) (T := TX3) as hC hm (by decide) rfl ⟨rfl, by decide, by decide, by decide +kernel⟩ ml_X4_121 wi_X3_firstFault wse_X3_firstFault wini_X3 wc_X3_firstFault hM hdc (by decide) hln hn hst hcat hd pc' hp k
theorem ml_X4_124 : Cond.methodLink RX4 124 yX0_settle ∈ ww := ww_2 29 rfl rfl
theorem K_X4_124 {x : CX} {cc : ByteArray} {n d pc : Nat} {ls : LV} {st : List AV} {w : Wd} {i dc : Nat} {st0 : List AV} {w' : Wd} (as : List AV) (hC : Cx x RX4 cc n d) (hm : (3, i) ∈ gis) (hM : Sp (xG x) (xl x) yX0_settle cw_X0_settle dc (vr 3 i :: as) w none w') (hdc : dc + 1 ≤ d) (hln : ls.length = n) (hn : as.length = 2) (hst : st0 = as.reverse ++ vr 3 i :: st) (hcat : (st.map cat).sum ≤ 8) (hd : decode cc pc = .ok (.invokevirtual 124, 3)) (pc' : Nat) (hp : pc + 3 = pc') (k : Z x pc' ls st w') : Z x pc ls st0 w := Z_callV (m := 2) (maxL := 4) (N := 7) (T := TX0) as hC hm (by decide) rfl ⟨rfl, by decide, by decide, by decide +kernel⟩ ml_X4_124 wi_X0_settle wse_X0_settle wini_X0 wc_X0_settle hM hdc (by decide) hln hn hst hcat hd pc' hp k
theorem ml_X4_137 : Cond.methodLink RX4 137 yX4_isMate ∈ ww := ww_2 38 rfl rfl
theorem K_X4_137 {x : CX} {cc : ByteArray} {n d pc : Nat} {ls : LV} {st : List AV} {w : Wd} {i dc : Nat} {st0 : List AV} {r : Int32} {w' : Wd} (as : List AV) (hC : Cx x RX4 cc n d) (hm : (0, i) ∈ gis) (hM : Sp (xG x) (xl x) yX4_isMate cw_X4_isMate dc (vr 0 i :: as) w (some (vi r)) w') (hdc : dc + 1 ≤ d) (hln : ls.length = n) (hn : as.length = 1) (hst : st0 = as.reverse ++ vr 0 i :: st) (hcat : (st.map cat).sum ≤ 8) (hd : decode cc pc = .ok (.invokevirtual 137, 3)) (pc' : Nat) (hp : pc + 3 = pc') (k : Z x pc' ls (vi r :: st) w') : Z x pc ls st0 w := Z_callV (m := 1) (maxL := 2) (N := 17) (T := TX4) as hC hm (by decide) rfl ⟨rfl, by decide, by decide, by decide +kernel⟩ ml_X4_137 wi_X4_isMate wse_X4_isMate wini_X4 wc_X4_isMate hM hdc (by decide) hln hn hst hcat hd pc' hp k
theorem ml_X4_140 : Cond.methodLink RX4 140 yX0_fact ∈ ww := ww_2 42 rfl rfl
theorem K_X4_140 {x : CX} {cc : ByteArray} {n d pc : Nat} {ls : LV} {st : List AV} {w : Wd} {i dc : Nat} {st0 : List AV} {r : Int32} {w' : Wd} (as : List AV) (hC : Cx x RX4 cc n d) (hm : (3, i) ∈ gis) (hM : Sp (xG x) (xl x) yX0_fact cw_X0_fact dc (vr 3 i :: as) w (some (vi r)) w') (hdc : dc + 1 ≤ d) (hln : ls.length = n) (hn : as.length = 2) (hst : st0 = as.reverse ++ vr 3 i :: st) (hcat : (st.map cat).sum ≤ 8) (hd : decode cc pc = .ok (.invokevirtual 140, 3)) (pc' : Nat) (hp : pc + 3 = pc') (k : Z x pc' ls (vi r :: st) w') : Z x pc ls st0 w := Z_callV (m := 2) (maxL := 3) (N := 7) (T := TX0) as hC hm (by decide) rfl ⟨rfl, by decide, by decide, by decide +kernel⟩ ml_X4_140 wi_X0_fact wse_X0_fact wini_X0 wc_X0_fact hM hdc (by decide) hln hn hst hcat hd pc' hp k
theorem ml_X4_146 : Cond.methodLink RX4 146 yX4_isOf ∈ ww := ww_2 57 rfl rfl
theorem K_X4_146 {x : CX} {cc : ByteArray} {n d pc : Nat} {ls : LV} {st : List AV} {w : Wd} {dc : Nat} {st0 : List AV} {r : Int32} {w' : Wd} (as : List AV) (hC : Cx x RX4 cc n d) (hM : Sp (xG x) (xl x) yX4_isOf cw_X4_isOf dc as w (some (vi r)) w') (hdc : dc + 1 ≤ d) (hln : ls.length = n) (hn : as.length = 2) (hst : st0 = as.reverse ++ st) (hcat : (st.map cat).sum ≤ 8) (hd : decode cc pc = .ok (.invokestatic 146, 3)) (pc' : Nat) (hp : pc + 3 = pc') (k : Z x pc' ls (vi r :: st) w') : Z x pc ls st0 w := Z_callS (m := 2) (maxL := 2) as hC ⟨by decide, by decide, by decide +kernel⟩ ml_X4_146 wi_X4_isOf wini_X4 wc_X4_isOf hM hdc (by decide) hln hn hst hcat hd pc' hp k
theorem ml_X4_150 : Cond.methodLink RX4 150 yX0_othersAtTable ∈ ww := ww_2 60 rfl rfl
theorem K_X4_150 {x : CX} {cc : ByteArray} {n d pc : Nat} {ls : LV} {st : List AV} {w : Wd} {i dc : Nat} {st0 : List AV} {r : Int32} {w' : Wd} (as : List AV) (hC : Cx x RX4 cc n d) (hm : (3, i) ∈ gis) (hM : Sp (xG x) (xl x) yX0_othersAtTable cw_X0_othersAtTable dc (vr 3 i :: as) w (some (vi r)) w') (hdc : dc + 1 ≤ d) (hln : ls.length = n) (hn : as.length = 1) (hst : st0 = as.reverse ++ vr 3 i :: st) (hcat : (st.map cat).sum ≤ 8) (hd : decode cc pc = .ok (.invokevirtual 150, 3)) (pc' : Nat) (hp : pc + 3 = pc') (k : Z x pc' ls (vi r :: st) w') : Z x pc ls st0 w := Z_callV (m := 1) (maxL := 4) (N := 7) (T := TX0) as hC hm (by decide) rfl ⟨rfl, by decide, by decide, by decide +kernel⟩ ml_X4_150 wi_X0_othersAtTable wse_X0_othersAtTable wini_X0 wc_X0_othersAtTable hM hdc (by decide) hln hn hst hcat hd pc' hp k
theorem ml_X4_153 : Cond.methodLink RX4 153 yX0_yearsPaired ∈ ww := ww_2 64 rfl rfl
theorem K_X4_153 {x : CX} {cc : ByteArray} {n d pc : Nat} {ls : LV} {st : List AV} {w : Wd} {i dc : Nat} {st0 : List AV} {r : Int32} {w' : Wd} (as : List AV) (hC : Cx x RX4 cc n d) (hm : (3, i) ∈ gis) (hM : Sp (xG x) (xl x) yX0_yearsPaired cw_X0_yearsPaired dc (vr 3 i :: as) w (some (vi r)) w') (hdc : dc + 1 ≤ d) (hln : ls.length = n) (hn : as.length = 1) (hst : st0 = as.reverse ++ vr 3 i :: st) (hcat : (st.map cat).sum ≤ 8) (hd : decode cc pc = .ok (.invokevirtual 153, 3)) (pc' : Nat) (hp : pc + 3 = pc') (k : Z x pc' ls (vi r :: st) w') : Z x pc ls st0 w := Z_callV (m := 1) (maxL := 4) (N := 7) (T := TX0) as hC hm (by decide) rfl ⟨rfl, by decide, by decide, by decide +kernel⟩ ml_X4_153 wi_X0_yearsPaired wse_X0_yearsPaired wini_X0 wc_X0_yearsPaired hM hdc (by decide) hln hn hst hcat hd pc' hp k
theorem ml_X4_156 : Cond.methodLink RX4 156 yX0_worthier ∈ ww := ww_2 68 rfl rfl
theorem K_X4_156 {x : CX} {cc : ByteArray} {n d pc : Nat} {ls : LV} {st : List AV} {w : Wd} {i dc : Nat} {st0 : List AV} {r : Int32} {w' : Wd} (as : List AV) (hC : Cx x RX4 cc n d) (hm : (3, i) ∈ gis) (hM : Sp (xG x) (xl x) yX0_worthier cw_X0_worthier dc (vr 3 i :: as) w (some (vi r)) w') (hdc : dc + 1 ≤ d) (hln : ls.length = n) (hn : as.length = 1) (hst : st0 = as.reverse ++ vr 3 i :: st) (hcat : (st.map cat).sum ≤ 8) (hd : decode cc pc = .ok (.invokevirtual 156, 3)) (pc' : Nat) (hp : pc + 3 = pc') (k : Z x pc' ls (vi r :: st) w') : Z x pc ls st0 w := Z_callV (m := 1) (maxL := 4) (N := 7) (T := TX0) as hC hm (by decide) rfl ⟨rfl, by decide, by decide, by decide +kernel⟩ ml_X4_156 wi_X0_worthier wse_X0_worthier wini_X0 wc_X0_worthier hM hdc (by decide) hln hn hst hcat hd pc' hp k
theorem ml_X4_159 : Cond.methodLink RX4 159 yX0_open ∈ ww := ww_2 72 rfl rfl
theorem K_X4_159 {x : CX} {cc : ByteArray} {n d pc : Nat} {ls : LV} {st : List AV} {w : Wd} {i dc : Nat} {st0 : List AV} {r : Int32} {w' : Wd} (as : List AV) (hC : Cx x RX4 cc n d) (hm : (3, i) ∈ gis) (hM : Sp (xG x) (xl x) yX0_open cw_X0_open dc (vr 3 i :: as) w (some (vi r)) w') (hdc : dc + 1 ≤ d) (hln : ls.length = n) (hn : as.length = 1) (hst : st0 = as.reverse ++ vr 3 i :: st) (hcat : (st.map cat).sum ≤ 8) (hd : decode cc pc = .ok (.invokevirtual 159, 3)) (pc' : Nat) (hp : pc + 3 = pc') (k : Z x pc' ls (vi r :: st) w') : Z x pc ls st0 w := Z_callV (m := 1) (maxL := 4) (N := 7) (T := TX0) as hC hm (by decide) rfl ⟨rfl, by decide, by decide, by decide +kernel⟩ ml_X4_159 wi_X0_open wse_X0_open wini_X0 wc_X0_open hM hdc (by decide) hln hn hst hcat hd pc' hp k
theorem ml_X4_162 : Cond.methodLink RX4 162 yJ6_bitCount_0f7a4 ∈ ww := ww_2 85 rfl rfl
theorem K_X4_162 {x : CX} {cc : ByteArray} {n d pc : Nat} {ls : LV} {st : List AV} {w : Wd} {dc : Nat} {st0 : List AV} {r : Int32} {w' : Wd} (as : List AV) (hC : Cx x RX4 cc n d) (hM : Sp (xG x) (xl x) yJ6_bitCount_0f7a4 cw_J6_bitCount_0f7a4 dc as w (some (vi r)) w') (hdc : dc + 1 ≤ d) (hln : ls.length = n) (hn : as.length = 1) (hst : st0 = as.reverse ++ st) (hcat : (st.map cat).sum ≤ 8) (hd : decode cc pc = .ok (.invokestatic 162, 3)) (pc' : Nat) (hp : pc + 3 = pc') (k : Z x pc' ls (vi r :: st) w') : Z x pc ls st0 w := Z_callS (m := 1) (maxL := 1) as hC ⟨by decide, by decide, by decide +kernel⟩ ml_X4_162 wi_J6_bitCount_0f7a4 wini_J6 wc_J6_bitCount_0f7a4 hM hdc (by decide) hln hn hst hcat hd pc' hp k
theorem ml_X4_167 : Cond.methodLink RX4 167 yX0_othersBarredFrom ∈ ww := ww_2 91 rfl rfl
theorem K_X4_167 {x : CX} {cc : ByteArray} {n d pc : Nat} {ls : LV} {st : List AV} {w : Wd} {i dc : Nat} {st0 : List AV} {r : Int32} {w' : Wd} (as : List AV) (hC : Cx x RX4 cc n d) (hm : (3, i) ∈ gis) (hM : Sp (xG x) (xl x) yX0_othersBarredFrom cw_X0_othersBarredFrom dc (vr 3 i :: as) w (some (vi r)) w') (hdc : dc + 1 ≤ d) (hln : ls.length = n) (hn : as.length = 1) (hst : st0 = as.reverse ++ vr 3 i :: st) (hcat : (st.map cat).sum ≤ 8) (hd : decode cc pc = .ok (.invokevirtual 167, 3)) (pc' : Nat) (hp : pc + 3 = pc') (k : Z x pc' ls (vi r :: st) w') : Z x pc ls st0 w := Z_callV (m := 1) (maxL := 4) (N := 7) (T := TX0) as hC hm (by decide) rfl ⟨rfl, by decide, by decide, by decide +kernel⟩ ml_X4_167 wi_X0_othersBarredFrom wse_X0_othersBarredFrom wini_X0 wc_X0_othersBarredFrom hM hdc (by decide) hln hn hst hcat hd pc' hp k
theorem ml_X4_176 : Cond.methodLink RX4 176 yX4_drawingIn ∈ ww := ww_2 111 rfl rfl
theorem K_X4_176 {x : CX} {cc : ByteArray} {n d pc : Nat} {ls : LV} {st : List AV} {w : Wd} {i dc : Nat} {st0 : List AV} {r : Int32} {w' : Wd} (as : List AV) (hC : Cx x RX4 cc n d) (hm : (0, i) ∈ gis) (hM : Sp (xG x) (xl x) yX4_drawingIn cw_X4_drawingIn dc (vr 0 i :: as) w (some (vi r)) w') (hdc : dc + 1 ≤ d) (hln : ls.length = n) (hn : as.length = 1) (hst : st0 = as.reverse ++ vr 0 i :: st) (hcat : (st.map cat).sum ≤ 8) (hd : decode cc pc = .ok (.invokevirtual 176, 3)) (pc' : Nat) (hp : pc + 3 = pc') (k : Z x pc' ls (vi r :: st) w') : Z x pc ls st0 w := Z_callV (m := 1) (maxL := 6) (N := 17) (T := TX4) as hC hm (by decide) rfl ⟨rfl, by decide, by decide, by decide +kernel⟩ ml_X4_176 wi_X4_drawingIn wse_X4_drawingIn wini_X4 wc_X4_drawingIn hM hdc (by decide) hln hn hst hcat hd pc' hp k
theorem ml_X4_179 : Cond.methodLink RX4 179 yX0_against ∈ ww := ww_2 115 rfl rfl
theorem K_X4_179 {x : CX} {cc : ByteArray} {n d pc : Nat} {ls : LV} {st : List AV} {w : Wd} {i dc : Nat} {st0 : List AV} {r : Int32} {w' : Wd} (as : List AV) (hC : Cx x RX4 cc n d) (hm : (3, i) ∈ gis) (hM : Sp (xG x) (xl x) yX0_against cw_X0_against dc (vr 3 i :: as) w (some (vi r)) w') (hdc : dc + 1 ≤ d) (hln : ls.length = n) (hn : as.length = 2) (hst : st0 = as.reverse ++ vr 3 i :: st) (hcat : (st.map cat).sum ≤ 8) (hd : decode cc pc = .ok (.invokevirtual 179, 3)) (pc' : Nat) (hp : pc + 3 = pc') (k : Z x pc' ls (vi r :: st) w') : Z x pc ls st0 w := Z_callV (m := 2) (maxL := 5) (N := 7) (T := TX0) as hC hm (by decide) rfl ⟨rfl, by decide, by decide, by decide +kernel⟩ ml_X4_179 wi_X0_against wse_X0_against wini_X0 wc_X0_against hM hdc (by decide) hln hn hst hcat hd pc' hp k
theorem ml_X4_182 : Cond.methodLink RX4 182 yX0_breaksRing ∈ ww := ww_2 123 rfl rfl
theorem K_X4_182 {x : CX} {cc : ByteArray} {n d pc : Nat} {ls : LV} {st : List AV} {w : Wd} {i dc : Nat} {st0 : List AV} {r : Int32} {w' : Wd} (as : List AV) (hC : Cx x RX4 cc n d) (hm : (3, i) ∈ gis) (hM : Sp (xG x) (xl x) yX0_breaksRing cw_X0_breaksRing dc (vr 3 i :: as) w (some (vi r)) w') (hdc : dc + 1 ≤ d) (hln : ls.length = n) (hn : as.length = 1) (hst : st0 = as.reverse ++ vr 3 i :: st) (hcat : (st.map cat).sum ≤ 8) (hd : decode cc pc = .ok (.invokevirtual 182, 3)) (pc' : Nat) (hp : pc + 3 = pc') (k : Z x pc' ls (vi r :: st) w') : Z x pc ls st0 w := Z_callV (m := 1) (maxL := 2) (N := 7) (T := TX0) as hC hm (by decide) rfl ⟨rfl, by decide, by decide, by decide +kernel⟩ ml_X4_182 wi_X0_breaksRing wse_X0_breaksRing wini_X0 wc_X0_breaksRing hM hdc (by decide) hln hn hst hcat hd pc' hp k
theorem ml_X4_185 : Cond.methodLink RX4 185 yX4_listRight ∈ ww := ww_2 138 rfl rfl
theorem K_X4_185 {x : CX} {cc : ByteArray} {n d pc : Nat} {ls : LV} {st : List AV} {w : Wd} {i dc : Nat} {st0 : List AV} {w' : Wd} (as : List AV) (hC : Cx x RX4 cc n d) (hm : (0, i) ∈ gis) (hM : Sp (xG x) (xl x) yX4_listRight cw_X4_listRight dc (vr 0 i :: as) w none w') (hdc : dc + 1 ≤ d) (hln : ls.length = n) (hn : as.length = 0) (hst : st0 = as.reverse ++ vr 0 i :: st) (hcat : (st.map cat).sum ≤ 8) (hd : decode cc pc = .ok (.invokevirtual 185, 3)) (pc' : Nat) (hp : pc + 3 = pc') (k : Z x pc' ls st w') : Z x pc ls st0 w := Z_callV (m := 0) (maxL := 1) (N := 17) (T := TX4) as hC hm (by decide) rfl ⟨rfl, by decide, by decide, by decide +kernel⟩ ml_X4_185 wi_X4_listRight wse_X4_listRight wini_X4 wc_X4_listRight hM hdc (by decide) hln hn hst hcat hd pc' hp k
theorem ml_X4_194 : Cond.methodLink RX4 194 yX4_layDrawing ∈ ww := ww_2 171 rfl rfl
theorem K_X4_194 {x : CX} {cc : ByteArray} {n d pc : Nat} {ls : LV} {st : List AV} {w : Wd} {i dc : Nat} {st0 : List AV} {w' : Wd} (as : List AV) (hC : Cx x RX4 cc n d) (hm : (0, i) ∈ gis) (hM : Sp (xG x) (xl x) yX4_layDrawing cw_X4_layDrawing dc (vr 0 i :: as) w none w') (hdc : dc + 1 ≤ d) (hln : ls.length = n) (hn : as.length = 2) (hst : st0 = as.reverse ++ vr 0 i :: st) (hcat : (st.map cat).sum ≤ 8) (hd : decode cc pc = .ok (.invokevirtual 194, 3)) (pc' : Nat) (hp : pc + 3 = pc') (k : Z x pc' ls st w') : Z x pc ls st0 w := Z_callV (m := 2) (maxL := 4) (N := 17) (T := TX4) as hC hm (by decide) rfl ⟨rfl, by decide, by decide, by decide +kernel⟩ ml_X4_194 wi_X4_layDrawing wse_X4_layDrawing wini_X4 wc_X4_layDrawing hM hdc (by decide) hln hn hst hcat hd pc' hp k
theorem ml_X4_197 : Cond.methodLink RX4 197 yX2_placeOf ∈ ww := ww_2 179 rfl rfl
theorem K_X4_197 {x : CX} {cc : ByteArray} {n d pc : Nat} {ls : LV} {st : List AV} {w : Wd} {i dc : Nat} {st0 : List AV} {r : Int32} {w' : Wd} (as : List AV) (hC : Cx x RX4 cc n d) (hm : (4, i) ∈ gis) (hM : Sp (xG x) (xl x) yX2_placeOf cw_X2_placeOf dc (vr 4 i :: as) w (some (vi r)) w') (hdc : dc + 1 ≤ d) (hln : ls.length = n) (hn : as.length = 2) (hst : st0 = as.reverse ++ vr 4 i :: st) (hcat : (st.map cat).sum ≤ 8) (hd : decode cc pc = .ok (.invokevirtual 197, 3)) (pc' : Nat) (hp : pc + 3 = pc') (k : Z x pc' ls (vi r :: st) w') : Z x pc ls st0 w := Z_callV (m := 2) (maxL := 4) (N := 6) (T := TX2) as hC hm (by decide) rfl ⟨rfl, by decide, by decide, by decide +kernel⟩ ml_X4_197 wi_X2_placeOf wse_X2_placeOf wini_X2 wc_X2_placeOf hM hdc (by decide) hln hn hst hcat hd pc' hp k
theorem ml_X4_200 : Cond.methodLink RX4 200 yX4_isSeed ∈ ww := ww_2 191 rfl rfl
theorem K_X4_200 {x : CX} {cc : ByteArray} {n d pc : Nat} {ls : LV} {st : List AV} {w : Wd} {dc : Nat} {st0 : List AV} {r : Int32} {w' : Wd} (as : List AV) (hC : Cx x RX4 cc n d) (hM : Sp (xG x) (xl x) yX4_isSeed cw_X4_isSeed dc as w (some (vi r)) w') (hdc : dc + 1 ≤ d) (hln : ls.length = n) (hn : as.length = 1) (hst : st0 = as.reverse ++ st) (hcat : (st.map cat).sum ≤ 8) (hd : decode cc pc = .ok (.invokestatic 200, 3)) (pc' : Nat) (hp : pc + 3 = pc') (k : Z x pc' ls (vi r :: st) w') : Z x pc ls st0 w := Z_callS (m := 1) (maxL := 1) as hC ⟨by decide, by decide, by decide +kernel⟩ ml_X4_200 wi_X4_isSeed wini_X4 wc_X4_isSeed hM hdc (by decide) hln hn hst hcat hd pc' hp k
theorem ml_X4_203 : Cond.methodLink RX4 203 yX4_nextLot ∈ ww := ww_2 195 rfl rfl
theorem K_X4_203 {x : CX} {cc : ByteArray} {n d pc : Nat} {ls : LV} {st : List AV} {w : Wd} {dc : Nat} {st0 : List AV} {r : Int32} {w' : Wd} (as : List AV) (hC : Cx x RX4 cc n d) (hM : Sp (xG x) (xl x) yX4_nextLot cw_X4_nextLot dc as w (some (vi r)) w') (hdc : dc + 1 ≤ d) (hln : ls.length = n) (hn : as.length = 1) (hst : st0 = as.reverse ++ st) (hcat : (st.map cat).sum ≤ 8) (hd : decode cc pc = .ok (.invokestatic 203, 3)) (pc' : Nat) (hp : pc + 3 = pc') (k : Z x pc' ls (vi r :: st) w') : Z x pc ls st0 w := Z_callS (m := 1) (maxL := 1) as hC ⟨by decide, by decide, by decide +kernel⟩ ml_X4_203 wi_X4_nextLot wini_X4 wc_X4_nextLot hM hdc (by decide) hln hn hst hcat hd pc' hp k
theorem ml_X4_206 : Cond.methodLink RX4 206 yX4_isTaken ∈ ww := ww_2 203 rfl rfl
theorem K_X4_206 {x : CX} {cc : ByteArray} {n d pc : Nat} {ls : LV} {st : List AV} {w : Wd} {i dc : Nat} {st0 : List AV} {r : Int32} {w' : Wd} (as : List AV) (hC : Cx x RX4 cc n d) (hm : (0, i) ∈ gis) (hM : Sp (xG x) (xl x) yX4_isTaken cw_X4_isTaken dc (vr 0 i :: as) w (some (vi r)) w') (hdc : dc + 1 ≤ d) (hln : ls.length = n) (hn : as.length = 1) (hst : st0 = as.reverse ++ vr 0 i :: st) (hcat : (st.map cat).sum ≤ 8) (hd : decode cc pc = .ok (.invokevirtual 206, 3)) (pc' : Nat) (hp : pc + 3 = pc') (k : Z x pc' ls (vi r :: st) w') : Z x pc ls st0 w := Z_callV (m := 1) (maxL := 3) (N := 17) (T := TX4) as hC hm (by decide) rfl ⟨rfl, by decide, by decide, by decide +kernel⟩ ml_X4_206 wi_X4_isTaken wse_X4_isTaken wini_X4 wc_X4_isTaken hM hdc (by decide) hln hn hst hcat hd pc' hp k
theorem ml_X4_209 : Cond.methodLink RX4 209 yX0_barrier ∈ ww := ww_2 207 rfl rfl
theorem K_X4_209 {x : CX} {cc : ByteArray} {n d pc : Nat} {ls : LV} {st : List AV} {w : Wd} {i dc : Nat} {st0 : List AV} {r : Int32} {w' : Wd} (as : List AV) (hC : Cx x RX4 cc n d) (hm : (3, i) ∈ gis) (hM : Sp (xG x) (xl x) yX0_barrier cw_X0_barrier dc (vr 3 i :: as) w (some (vi r)) w') (hdc : dc + 1 ≤ d) (hln : ls.length = n) (hn : as.length = 2) (hst : st0 = as.reverse ++ vr 3 i :: st) (hcat : (st.map cat).sum ≤ 8) (hd : decode cc pc = .ok (.invokevirtual 209, 3)) (pc' : Nat) (hp : pc + 3 = pc') (k : Z x pc' ls (vi r :: st) w') : Z x pc ls st0 w := Z_callV (m := 2) (maxL := 4) (N := 7) (T := TX0) as hC hm (by decide) rfl ⟨rfl, by decide, by decide, by decide +kernel⟩ ml_X4_209 wi_X0_barrier wse_X0_barrier wini_X0 wc_X0_barrier hM hdc (by decide) hln hn hst hcat hd pc' hp k
theorem ml_X4_212 : Cond.methodLink RX4 212 yX0_drawsBack ∈ ww := ww_2 208 rfl rfl
theorem K_X4_212 {x : CX} {cc : ByteArray} {n d pc : Nat} {ls : LV} {st : List AV} {w : Wd} {i dc : Nat} {st0 : List AV} {r : Int32} {w' : Wd} (as : List AV) (hC : Cx x RX4 cc n d) (hm : (3, i) ∈ gis) (hM : Sp (xG x) (xl x) yX0_drawsBack cw_X0_drawsBack dc (vr 3 i :: as) w (some (vi r)) w') (hdc : dc + 1 ≤ d) (hln : ls.length = n) (hn : as.length = 3) (hst : st0 = as.reverse ++ vr 3 i :: st) (hcat : (st.map cat).sum ≤ 8) (hd : decode cc pc = .ok (.invokevirtual 212, 3)) (pc' : Nat) (hp : pc + 3 = pc') (k : Z x pc' ls (vi r :: st) w') : Z x pc ls st0 w := Z_callV (m := 3) (maxL := 4) (N := 7) (T := TX0) as hC hm (by decide) rfl ⟨rfl, by decide, by decide, by decide +kernel⟩ ml_X4_212 wi_X0_drawsBack wse_X0_drawsBack wini_X0 wc_X0_drawsBack hM hdc (by decide) hln hn hst hcat hd pc' hp k
theorem ml_X4_215 : Cond.methodLink RX4 215 yX4_takePaper ∈ ww := ww_2 209 rfl rfl
theorem K_X4_215 {x : CX} {cc : ByteArray} {n d pc : Nat} {ls : LV} {st : List AV} {w : Wd} {i dc : Nat} {st0 : List AV} {w' : Wd} (as : List AV) (hC : Cx x RX4 cc n d) (hm : (0, i) ∈ gis) (hM : Sp (xG x) (xl x) yX4_takePaper cw_X4_takePaper dc (vr 0 i :: as) w none w') (hdc : dc + 1 ≤ d) (hln : ls.length = n) (hn : as.length = 1) (hst : st0 = as.reverse ++ vr 0 i :: st) (hcat : (st.map cat).sum ≤ 8) (hd : decode cc pc = .ok (.invokevirtual 215, 3)) (pc' : Nat) (hp : pc + 3 = pc') (k : Z x pc' ls st w') : Z x pc ls st0 w := Z_callV (m := 1) (maxL := 2) (N := 17) (T := TX4) as hC hm (by decide) rfl ⟨rfl, by decide, by decide, by decide +kernel⟩ ml_X4_215 wi_X4_takePaper wse_X4_takePaper wini_X4 wc_X4_takePaper hM hdc (by decide) hln hn hst hcat hd pc' hp k
theorem ml_X4_219 : Cond.methodLink RX4 219 yX4_firstOnes ∈ ww := ww_2 217 rfl rfl
theorem K_X4_219 {x : CX} {cc : ByteArray} {n d pc : Nat} {ls : LV} {st : List AV} {w : Wd} {dc : Nat} {st0 : List AV} {r : Int32} {w' : Wd} (as : List AV) (hC : Cx x RX4 cc n d) (hM : Sp (xG x) (xl x) yX4_firstOnes cw_X4_firstOnes dc as w (some (vi r)) w') (hdc : dc + 1 ≤ d) (hln : ls.length = n) (hn : as.length = 1) (hst : st0 = as.reverse ++ st) (hcat : (st.map cat).sum ≤ 8) (hd : decode cc pc = .ok (.invokestatic 219, 3)) (pc' : Nat) (hp : pc + 3 = pc') (k : Z x pc' ls (vi r :: st) w') : Z x pc ls st0 w := Z_callS (m := 1) (maxL := 1) as hC ⟨by decide, by decide, by decide +kernel⟩ ml_X4_219 wi_X4_firstOnes wini_X4 wc_X4_firstOnes hM hdc (by decide) hln hn hst hcat hd pc' hp k
theorem ml_X4_222 : Cond.methodLink RX4 222 yX4_paper ∈ ww := ww_2 133 rfl rfl
theorem K_X4_222 {x : CX} {cc : ByteArray} {n d pc : Nat} {ls : LV} {st : List AV} {w : Wd} {dc : Nat} {st0 : List AV} {r : Int32} {w' : Wd} (as : List AV) (hC : Cx x RX4 cc n d) (hM : Sp (xG x) (xl x) yX4_paper cw_X4_paper dc as w (some (vi r)) w') (hdc : dc + 1 ≤ d) (hln : ls.length = n) (hn : as.length = 2) (hst : st0 = as.reverse ++ st) (hcat : (st.map cat).sum ≤ 8) (hd : decode cc pc = .ok (.invokestatic 222, 3)) (pc' : Nat) (hp : pc + 3 = pc') (k : Z x pc' ls (vi r :: st) w') : Z x pc ls st0 w := Z_callS (m := 2) (maxL := 2) as hC ⟨by decide, by decide, by decide +kernel⟩ ml_X4_222 wi_X4_paper wini_X4 wc_X4_paper hM hdc (by decide) hln hn hst hcat hd pc' hp k
theorem ml_X4_225 : Cond.methodLink RX4 225 yX2_fitting ∈ ww := ww_2 228 rfl rfl
theorem K_X4_225 {x : CX} {cc : ByteArray} {n d pc : Nat} {ls : LV} {st : List AV} {w : Wd} {i dc : Nat} {st0 : List AV} {r : Int32} {w' : Wd} (as : List AV) (hC : Cx x RX4 cc n d) (hm : (4, i) ∈ gis) (hM : Sp (xG x) (xl x) yX2_fitting cw_X2_fitting dc (vr 4 i :: as) w (some (vi r)) w') (hdc : dc + 1 ≤ d) (hln : ls.length = n) (hn : as.length = 2) (hst : st0 = as.reverse ++ vr 4 i :: st) (hcat : (st.map cat).sum ≤ 8) (hd : decode cc pc = .ok (.invokevirtual 225, 3)) (pc' : Nat) (hp : pc + 3 = pc') (k : Z x pc' ls (vi r :: st) w') : Z x pc ls st0 w := Z_callV (m := 2) (maxL := 5) (N := 6) (T := TX2) as hC hm (by decide) rfl ⟨rfl, by decide, by decide, by decide +kernel⟩ ml_X4_225 wi_X2_fitting wse_X2_fitting wini_X2 wc_X2_fitting hM hdc (by decide) hln hn hst hcat hd pc' hp k
theorem ml_X4_228 : Cond.methodLink RX4 228 yX4_nextOpen ∈ ww := ww_2 232 rfl rfl
theorem K_X4_228 {x : CX} {cc : ByteArray} {n d pc : Nat} {ls : LV} {st : List AV} {w : Wd} {i dc : Nat} {st0 : List AV} {r : Int32} {w' : Wd} (as : List AV) (hC : Cx x RX4 cc n d) (hm : (0, i) ∈ gis) (hM : Sp (xG x) (xl x) yX4_nextOpen cw_X4_nextOpen dc (vr 0 i :: as) w (some (vi r)) w') (hdc : dc + 1 ≤ d) (hln : ls.length = n) (hn : as.length = 0) (hst : st0 = as.reverse ++ vr 0 i :: st) (hcat : (st.map cat).sum ≤ 8) (hd : decode cc pc = .ok (.invokevirtual 228, 3)) (pc' : Nat) (hp : pc + 3 = pc') (k : Z x pc' ls (vi r :: st) w') : Z x pc ls st0 w := Z_callV (m := 0) (maxL := 3) (N := 17) (T := TX4) as hC hm (by decide) rfl ⟨rfl, by decide, by decide, by decide +kernel⟩ ml_X4_228 wi_X4_nextOpen wse_X4_nextOpen wini_X4 wc_X4_nextOpen hM hdc (by decide) hln hn hst hcat hd pc' hp k
theorem ml_X4_232 : Cond.methodLink RX4 232 yX4_tellFraction ∈ ww := ww_3 1 rfl rfl
theorem K_X4_232 {x : CX} {cc : ByteArray} {n d pc : Nat} {ls : LV} {st : List AV} {w : Wd} {i dc : Nat} {st0 : List AV} {w' : Wd} (as : List AV) (hC : Cx x RX4 cc n d) (hm : (0, i) ∈ gis) (hM : Sp (xG x) (xl x) yX4_tellFraction cw_X4_tellFraction dc (vr 0 i :: as) w none w') (hdc : dc + 1 ≤ d) (hln : ls.length = n) (hn : as.length = 2) (hst : st0 = as.reverse ++ vr 0 i :: st) (hcat : (st.map cat).sum ≤ 8) (hd : decode cc pc = .ok (.invokevirtual 232, 3)) (pc' : Nat) (hp : pc + 3 = pc') (k : Z x pc' ls st w') : Z x pc ls st0 w := Z_callV (m := 2) (maxL := 7) (N := 17) (T := TX4) as hC hm (by decide) rfl ⟨rfl, by decide, by decide, by decide +kernel⟩ ml_X4_232 wi_X4_tellFraction wse_X4_tellFraction wini_X4 wc_X4_tellFraction hM hdc (by decide) hln hn hst hcat hd pc' hp k
theorem ml_X4_235 : Cond.methodLink RX4 235 yX2_shareByTurns ∈ ww := ww_3 8 rfl rfl
theorem K_X4_235 {x : CX} {cc : ByteArray} {n d pc : Nat} {ls : LV} {st : List AV} {w : Wd} {i dc : Nat} {st0 : List AV} {r : Int32} {w' : Wd} (as : List AV) (hC : Cx x RX4 cc n d) (hm : (4, i) ∈ gis) (hM : Sp (xG x) (xl x) yX2_shareByTurns cw_X2_shareByTurns dc (vr 4 i :: as) w (some (vi r)) w') (hdc : dc + 1 ≤ d) (hln : ls.length = n) (hn : as.length = 4) (hst : st0 = as.reverse ++ vr 4 i :: st) (hcat : (st.map cat).sum ≤ 8) (hd : decode cc pc = .ok (.invokevirtual 235, 3)) (pc' : Nat) (hp : pc + 3 = pc') (k : Z x pc' ls (vi r :: st) w') : Z x pc ls st0 w := Z_callV (m := 4) (maxL := 7) (N := 6) (T := TX2) as hC hm (by decide) rfl ⟨rfl, by decide, by decide, by decide +kernel⟩ ml_X4_235 wi_X2_shareByTurns wse_X2_shareByTurns wini_X2 wc_X2_shareByTurns hM hdc (by decide) hln hn hst hcat hd pc' hp k
theorem ml_X4_240 : Cond.methodLink RX4 240 yX2_fitsAt ∈ ww := ww_2 236 rfl rfl
theorem K_X4_240 {x : CX} {cc : ByteArray} {n d pc : Nat} {ls : LV} {st : List AV} {w : Wd} {i dc : Nat} {st0 : List AV} {r : Int32} {w' : Wd} (as : List AV) (hC : Cx x RX4 cc n d) (hm : (4, i) ∈ gis) (hM : Sp (xG x) (xl x) yX2_fitsAt cw_X2_fitsAt dc (vr 4 i :: as) w (some (vi r)) w') (hdc : dc + 1 ≤ d) (hln : ls.length = n) (hn : as.length = 3) (hst : st0 = as.reverse ++ vr 4 i :: st) (hcat : (st.map cat).sum ≤ 8) (hd : decode cc pc = .ok (.invokevirtual 240, 3)) (pc' : Nat) (hp : pc + 3 = pc') (k : Z x pc' ls (vi r :: st) w') : Z x pc ls st0 w := Z_callV (m := 3) (maxL := 4) (N := 6) (T := TX2) as hC hm (by decide) rfl ⟨rfl, by decide, by decide, by decide +kernel⟩ ml_X4_240 wi_X2_fitsAt wse_X2_fitsAt wini_X2 wc_X2_fitsAt hM hdc (by decide) hln hn hst hcat hd pc' hp k
theorem ml_X4_243 : Cond.methodLink RX4 243 yX4_bitNumber ∈ ww := ww_3 34 rfl rfl
theorem K_X4_243 {x : CX} {cc : ByteArray} {n d pc : Nat} {ls : LV} {st : List AV} {w : Wd} {dc : Nat} {st0 : List AV} {r : Int32} {w' : Wd} (as : List AV) (hC : Cx x RX4 cc n d) (hM : Sp (xG x) (xl x) yX4_bitNumber cw_X4_bitNumber dc as w (some (vi r)) w') (hdc : dc + 1 ≤ d) (hln : ls.length = n) (hn : as.length = 2) (hst : st0 = as.reverse ++ st) (hcat : (st.map cat).sum ≤ 8) (hd : decode cc pc = .ok (.invokestatic 243, 3)) (pc' : Nat) (hp : pc + 3 = pc') (k : Z x pc' ls (vi r :: st) w') : Z x pc ls st0 w := Z_callS (m := 2) (maxL := 4) as hC ⟨by decide, by decide, by decide +kernel⟩ ml_X4_243 wi_X4_bitNumber wini_X4 wc_X4_bitNumber hM hdc (by decide) hln hn hst hcat hd pc' hp k
theorem ml_X4_246 : Cond.methodLink RX4 246 yX4_isKeptPlace ∈ ww := ww_3 41 rfl rfl
theorem K_X4_246 {x : CX} {cc : ByteArray} {n d pc : Nat} {ls : LV} {st : List AV} {w : Wd} {dc : Nat} {st0 : List AV} {r : Int32} {w' : Wd} (as : List AV) (hC : Cx x RX4 cc n d) (hM : Sp (xG x) (xl x) yX4_isKeptPlace cw_X4_isKeptPlace dc as w (some (vi r)) w') (hdc : dc + 1 ≤ d) (hln : ls.length = n) (hn : as.length = 1) (hst : st0 = as.reverse ++ st) (hcat : (st.map cat).sum ≤ 8) (hd : decode cc pc = .ok (.invokestatic 246, 3)) (pc' : Nat) (hp : pc + 3 = pc') (k : Z x pc' ls (vi r :: st) w') : Z x pc ls st0 w := Z_callS (m := 1) (maxL := 1) as hC ⟨by decide, by decide, by decide +kernel⟩ ml_X4_246 wi_X4_isKeptPlace wini_X4 wc_X4_isKeptPlace hM hdc (by decide) hln hn hst hcat hd pc' hp k
theorem ml_X4_252 : Cond.methodLink RX4 252 yX0_addYear ∈ ww := ww_3 52 rfl rfl
theorem K_X4_252 {x : CX} {cc : ByteArray} {n d pc : Nat} {ls : LV} {st : List AV} {w : Wd} {i dc : Nat} {st0 : List AV} {w' : Wd} (as : List AV) (hC : Cx x RX4 cc n d) (hm : (3, i) ∈ gis) (hM : Sp (xG x) (xl x) yX0_addYear cw_X0_addYear dc (vr 3 i :: as) w none w') (hdc : dc + 1 ≤ d) (hln : ls.length = n) (hn : as.length = 1) (hst : st0 = as.reverse ++ vr 3 i :: st) (hcat : (st.map cat).sum ≤ 8) (hd : decode cc pc = .ok (.invokevirtual 252, 3)) (pc' : Nat) (hp : pc + 3 = pc') (k : Z x pc' ls st w') : Z x pc ls st0 w := Z_callV (m := 1) (maxL := 2) (N := 7) (T := TX0) as hC hm (by decide) rfl ⟨rfl, by decide, by decide, by decide +kernel⟩ ml_X4_252 wi_X0_addYear wse_X0_addYear wini_X0 wc_X0_addYear hM hdc (by decide) hln hn hst hcat hd pc' hp k
theorem ml_X4_255 : Cond.methodLink RX4 255 yX0_become ∈ ww := ww_3 64 rfl rfl
theorem K_X4_255 {x : CX} {cc : ByteArray} {n d pc : Nat} {ls : LV} {st : List AV} {w : Wd} {i dc : Nat} {st0 : List AV} {w' : Wd} (as : List AV) (hC : Cx x RX4 cc n d) (hm : (3, i) ∈ gis) (hM : Sp (xG x) (xl x) yX0_become cw_X0_become dc (vr 3 i :: as) w none w') (hdc : dc + 1 ≤ d) (hln : ls.length = n) (hn : as.length = 1) (hst : st0 = as.reverse ++ vr 3 i :: st) (hcat : (st.map cat).sum ≤ 8) (hd : decode cc pc = .ok (.invokevirtual 255, 3)) (pc' : Nat) (hp : pc + 3 = pc') (k : Z x pc' ls st w') : Z x pc ls st0 w := Z_callV (m := 1) (maxL := 2) (N := 7) (T := TX0) as hC hm (by decide) rfl ⟨rfl, by decide, by decide, by decide +kernel⟩ ml_X4_255 wi_X0_become wse_X0_become wini_X0 wc_X0_become hM hdc (by decide) hln hn hst hcat hd pc' hp k
theorem ml_X4_258 : Cond.methodLink RX4 258 yX2_list ∈ ww := ww_2 142 rfl rfl
theorem K_X4_258 {x : CX} {cc : ByteArray} {n d pc : Nat} {ls : LV} {st : List AV} {w : Wd} {i dc : Nat} {st0 : List AV} {r : Int32} {w' : Wd} (as : List AV) (hC : Cx x RX4 cc n d) (hm : (4, i) ∈ gis) (hM : Sp (xG x) (xl x) yX2_list cw_X2_list dc (vr 4 i :: as) w (some (vi r)) w') (hdc : dc + 1 ≤ d) (hln : ls.length = n) (hn : as.length = 2) (hst : st0 = as.reverse ++ vr 4 i :: st) (hcat : (st.map cat).sum ≤ 8) (hd : decode cc pc = .ok (.invokevirtual 258, 3)) (pc' : Nat) (hp : pc + 3 = pc') (k : Z x pc' ls (vi r :: st) w') : Z x pc ls st0 w := Z_callV (m := 2) (maxL := 4) (N := 6) (T := TX2) as hC hm (by decide) rfl ⟨rfl, by decide, by decide, by decide +kernel⟩ ml_X4_258 wi_X2_list wse_X2_list wini_X2 wc_X2_list hM hdc (by decide) hln hn hst hcat hd pc' hp k
theorem ml_X4_265 : Cond.methodLink RX4 265 yX4_isSet ∈ ww := ww_3 77 rfl rfl
theorem K_X4_265 {x : CX} {cc : ByteArray} {n d pc : Nat} {ls : LV} {st : List AV} {w : Wd} {i dc : Nat} {st0 : List AV} {r : Int32} {w' : Wd} (as : List AV) (hC : Cx x RX4 cc n d) (hm : (0, i) ∈ gis) (hM : Sp (xG x) (xl x) yX4_isSet cw_X4_isSet dc (vr 0 i :: as) w (some (vi r)) w') (hdc : dc + 1 ≤ d) (hln : ls.length = n) (hn : as.length = 1) (hst : st0 = as.reverse ++ vr 0 i :: st) (hcat : (st.map cat).sum ≤ 8) (hd : decode cc pc = .ok (.invokevirtual 265, 3)) (pc' : Nat) (hp : pc + 3 = pc') (k : Z x pc' ls (vi r :: st) w') : Z x pc ls st0 w := Z_callV (m := 1) (maxL := 2) (N := 17) (T := TX4) as hC hm (by decide) rfl ⟨rfl, by decide, by decide, by decide +kernel⟩ ml_X4_265 wi_X4_isSet wse_X4_isSet wini_X4 wc_X4_isSet hM hdc (by decide) hln hn hst hcat hd pc' hp k
theorem ml_X4_268 : Cond.methodLink RX4 268 yX4_rightDrawingIn ∈ ww := ww_3 81 rfl rfl
theorem K_X4_268 {x : CX} {cc : ByteArray} {n d pc : Nat} {ls : LV} {st : List AV} {w : Wd} {i dc : Nat} {st0 : List AV} {r : Int32} {w' : Wd} (as : List AV) (hC : Cx x RX4 cc n d) (hm : (0, i) ∈ gis) (hM : Sp (xG x) (xl x) yX4_rightDrawingIn cw_X4_rightDrawingIn dc (vr 0 i :: as) w (some (vi r)) w') (hdc : dc + 1 ≤ d) (hln : ls.length = n) (hn : as.length = 1) (hst : st0 = as.reverse ++ vr 0 i :: st) (hcat : (st.map cat).sum ≤ 8) (hd : decode cc pc = .ok (.invokevirtual 268, 3)) (pc' : Nat) (hp : pc + 3 = pc') (k : Z x pc' ls (vi r :: st) w') : Z x pc ls st0 w := Z_callV (m := 1) (maxL := 3) (N := 17) (T := TX4) as hC hm (by decide) rfl ⟨rfl, by decide, by decide, by decide +kernel⟩ ml_X4_268 wi_X4_rightDrawingIn wse_X4_rightDrawingIn wini_X4 wc_X4_rightDrawingIn hM hdc (by decide) hln hn hst hcat hd pc' hp k
theorem ml_X4_271 : Cond.methodLink RX4 271 yX4_papersOf ∈ ww := ww_3 85 rfl rfl
theorem K_X4_271 {x : CX} {cc : ByteArray} {n d pc : Nat} {ls : LV} {st : List AV} {w : Wd} {i dc : Nat} {st0 : List AV} {r : Int32} {w' : Wd} (as : List AV) (hC : Cx x RX4 cc n d) (hm : (0, i) ∈ gis) (hM : Sp (xG x) (xl x) yX4_papersOf cw_X4_papersOf dc (vr 0 i :: as) w (some (vi r)) w') (hdc : dc + 1 ≤ d) (hln : ls.length = n) (hn : as.length = 1) (hst : st0 = as.reverse ++ vr 0 i :: st) (hcat : (st.map cat).sum ≤ 8) (hd : decode cc pc = .ok (.invokevirtual 271, 3)) (pc' : Nat) (hp : pc + 3 = pc') (k : Z x pc' ls (vi r :: st) w') : Z x pc ls st0 w := Z_callV (m := 1) (maxL := 4) (N := 17) (T := TX4) as hC hm (by decide) rfl ⟨rfl, by decide, by decide, by decide +kernel⟩ ml_X4_271 wi_X4_papersOf wse_X4_papersOf wini_X4 wc_X4_papersOf hM hdc (by decide) hln hn hst hcat hd pc' hp k
theorem ml_X4_274 : Cond.methodLink RX4 274 yX2_differing ∈ ww := ww_3 93 rfl rfl
theorem K_X4_274 {x : CX} {cc : ByteArray} {n d pc : Nat} {ls : LV} {st : List AV} {w : Wd} {i dc : Nat} {st0 : List AV} {r : Int32} {w' : Wd} (as : List AV) (hC : Cx x RX4 cc n d) (hm : (4, i) ∈ gis) (hM : Sp (xG x) (xl x) yX2_differing cw_X2_differing dc (vr 4 i :: as) w (some (vi r)) w') (hdc : dc + 1 ≤ d) (hln : ls.length = n) (hn : as.length = 2) (hst : st0 = as.reverse ++ vr 4 i :: st) (hcat : (st.map cat).sum ≤ 8) (hd : decode cc pc = .ok (.invokevirtual 274, 3)) (pc' : Nat) (hp : pc + 3 = pc') (k : Z x pc' ls (vi r :: st) w') : Z x pc ls st0 w := Z_callV (m := 2) (maxL := 5) (N := 6) (T := TX2) as hC hm (by decide) rfl ⟨rfl, by decide, by decide, by decide +kernel⟩ ml_X4_274 wi_X2_differing wse_X2_differing wini_X2 wc_X2_differing hM hdc (by decide) hln hn hst hcat hd pc' hp k
theorem ml_X4_277 : Cond.methodLink RX4 277 yX4_ringOf ∈ ww := ww_2 130 rfl rfl
theorem K_X4_277 {x : CX} {cc : ByteArray} {n d pc : Nat} {ls : LV} {st : List AV} {w : Wd} {dc : Nat} {st0 : List AV} {r : Int32} {w' : Wd} (as : List AV) (hC : Cx x RX4 cc n d) (hM : Sp (xG x) (xl x) yX4_ringOf cw_X4_ringOf dc as w (some (vi r)) w') (hdc : dc + 1 ≤ d) (hln : ls.length = n) (hn : as.length = 2) (hst : st0 = as.reverse ++ st) (hcat : (st.map cat).sum ≤ 8) (hd : decode cc pc = .ok (.invokestatic 277, 3)) (pc' : Nat) (hp : pc + 3 = pc') (k : Z x pc' ls (vi r :: st) w') : Z x pc ls st0 w := Z_callS (m := 2) (maxL := 5) as hC ⟨by decide, by decide, by decide +kernel⟩ ml_X4_277 wi_X4_ringOf wini_X4 wc_X4_ringOf hM hdc (by decide) hln hn hst hcat hd pc' hp k
theorem ml_X4_280 : Cond.methodLink RX4 280 yX4_ringCount ∈ ww := ww_3 117 rfl rfl
theorem K_X4_280 {x : CX} {cc : ByteArray} {n d pc : Nat} {ls : LV} {st : List AV} {w : Wd} {dc : Nat} {st0 : List AV} {r : Int32} {w' : Wd} (as : List AV) (hC : Cx x RX4 cc n d) (hM : Sp (xG x) (xl x) yX4_ringCount cw_X4_ringCount dc as w (some (vi r)) w') (hdc : dc + 1 ≤ d) (hln : ls.length = n) (hn : as.length = 2) (hst : st0 = as.reverse ++ st) (hcat : (st.map cat).sum ≤ 8) (hd : decode cc pc = .ok (.invokestatic 280, 3)) (pc' : Nat) (hp : pc + 3 = pc') (k : Z x pc' ls (vi r :: st) w') : Z x pc ls st0 w := Z_callS (m := 2) (maxL := 5) as hC ⟨by decide, by decide, by decide +kernel⟩ ml_X4_280 wi_X4_ringCount wini_X4 wc_X4_ringCount hM hdc (by decide) hln hn hst hcat hd pc' hp k
theorem ml_X4_283 : Cond.methodLink RX4 283 yX0_greatestDifference ∈ ww := ww_3 126 rfl rfl
theorem K_X4_283 {x : CX} {cc : ByteArray} {n d pc : Nat} {ls : LV} {st : List AV} {w : Wd} {i dc : Nat} {st0 : List AV} {r : Int32} {w' : Wd} (as : List AV) (hC : Cx x RX4 cc n d) (hm : (3, i) ∈ gis) (hM : Sp (xG x) (xl x) yX0_greatestDifference cw_X0_greatestDifference dc (vr 3 i :: as) w (some (vi r)) w') (hdc : dc + 1 ≤ d) (hln : ls.length = n) (hn : as.length = 1) (hst : st0 = as.reverse ++ vr 3 i :: st) (hcat : (st.map cat).sum ≤ 8) (hd : decode cc pc = .ok (.invokevirtual 283, 3)) (pc' : Nat) (hp : pc + 3 = pc') (k : Z x pc' ls (vi r :: st) w') : Z x pc ls st0 w := Z_callV (m := 1) (maxL := 4) (N := 7) (T := TX0) as hC hm (by decide) rfl ⟨rfl, by decide, by decide, by decide +kernel⟩ ml_X4_283 wi_X0_greatestDifference wse_X0_greatestDifference wini_X0 wc_X0_greatestDifference hM hdc (by decide) hln hn hst hcat hd pc' hp k
theorem ml_X4_292 : Cond.methodLink RX4 292 yX0_howManyOf ∈ ww := ww_3 154 rfl rfl
theorem K_X4_292 {x : CX} {cc : ByteArray} {n d pc : Nat} {ls : LV} {st : List AV} {w : Wd} {i dc : Nat} {st0 : List AV} {r : Int32} {w' : Wd} (as : List AV) (hC : Cx x RX4 cc n d) (hm : (3, i) ∈ gis) (hM : Sp (xG x) (xl x) yX0_howManyOf cw_X0_howManyOf dc (vr 3 i :: as) w (some (vi r)) w') (hdc : dc + 1 ≤ d) (hln : ls.length = n) (hn : as.length = 1) (hst : st0 = as.reverse ++ vr 3 i :: st) (hcat : (st.map cat).sum ≤ 8) (hd : decode cc pc = .ok (.invokevirtual 292, 3)) (pc' : Nat) (hp : pc + 3 = pc') (k : Z x pc' ls (vi r :: st) w') : Z x pc ls st0 w := Z_callV (m := 1) (maxL := 4) (N := 7) (T := TX0) as hC hm (by decide) rfl ⟨rfl, by decide, by decide, by decide +kernel⟩ ml_X4_292 wi_X0_howManyOf wse_X0_howManyOf wini_X0 wc_X0_howManyOf hM hdc (by decide) hln hn hst hcat hd pc' hp k
theorem ml_X4_295 : Cond.methodLink RX4 295 yX4_howManyThere ∈ ww := ww_3 158 rfl rfl
theorem K_X4_295 {x : CX} {cc : ByteArray} {n d pc : Nat} {ls : LV} {st : List AV} {w : Wd} {dc : Nat} {st0 : List AV} {r : Int32} {w' : Wd} (as : List AV) (hC : Cx x RX4 cc n d) (hM : Sp (xG x) (xl x) yX4_howManyThere cw_X4_howManyThere dc as w (some (vi r)) w') (hdc : dc + 1 ≤ d) (hln : ls.length = n) (hn : as.length = 1) (hst : st0 = as.reverse ++ st) (hcat : (st.map cat).sum ≤ 8) (hd : decode cc pc = .ok (.invokestatic 295, 3)) (pc' : Nat) (hp : pc + 3 = pc') (k : Z x pc' ls (vi r :: st) w') : Z x pc ls st0 w := Z_callS (m := 1) (maxL := 3) as hC ⟨by decide, by decide, by decide +kernel⟩ ml_X4_295 wi_X4_howManyThere wini_X4 wc_X4_howManyThere hM hdc (by decide) hln hn hst hcat hd pc' hp k
theorem ml_X4_306 : Cond.methodLink RX4 306 yX4_count ∈ ww := ww_3 175 rfl rfl
theorem K_X4_306 {x : CX} {cc : ByteArray} {n d pc : Nat} {ls : LV} {st : List AV} {w : Wd} {i dc : Nat} {st0 : List AV} {r : Int32} {w' : Wd} (as : List AV) (hC : Cx x RX4 cc n d) (hm : (0, i) ∈ gis) (hM : Sp (xG x) (xl x) yX4_count cw_X4_count dc (vr 0 i :: as) w (some (vi r)) w') (hdc : dc + 1 ≤ d) (hln : ls.length = n) (hn : as.length = 1) (hst : st0 = as.reverse ++ vr 0 i :: st) (hcat : (st.map cat).sum ≤ 8) (hd : decode cc pc = .ok (.invokevirtual 306, 3)) (pc' : Nat) (hp : pc + 3 = pc') (k : Z x pc' ls (vi r :: st) w') : Z x pc ls st0 w := Z_callV (m := 1) (maxL := 2) (N := 17) (T := TX4) as hC hm (by decide) rfl ⟨rfl, by decide, by decide, by decide +kernel⟩ ml_X4_306 wi_X4_count wse_X4_count wini_X4 wc_X4_count hM hdc (by decide) hln hn hst hcat hd pc' hp k
theorem ml_X4_309 : Cond.methodLink RX4 309 yX4_mixPapers ∈ ww := ww_3 176 rfl rfl
theorem K_X4_309 {x : CX} {cc : ByteArray} {n d pc : Nat} {ls : LV} {st : List AV} {w : Wd} {dc : Nat} {st0 : List AV} {r : Int64} {w' : Wd} (as : List AV) (hC : Cx x RX4 cc n d) (hM : Sp (xG x) (xl x) yX4_mixPapers cw_X4_mixPapers dc as w (some (vl r)) w') (hdc : dc + 1 ≤ d) (hln : ls.length = n) (hn : as.length = 3) (hst : st0 = as.reverse ++ st) (hcat : (st.map cat).sum ≤ 8) (hd : decode cc pc = .ok (.invokestatic 309, 3)) (pc' : Nat) (hp : pc + 3 = pc') (k : Z x pc' ls (vl r :: st) w') : Z x pc ls st0 w := Z_callS (m := 3) (maxL := 7) as hC ⟨by decide, by decide, by decide +kernel⟩ ml_X4_309 wi_X4_mixPapers wini_X4 wc_X4_mixPapers hM hdc (by decide) hln hn hst hcat hd pc' hp k
theorem ml_X4_313 : Cond.methodLink RX4 313 yX1_mixAll ∈ ww := ww_3 179 rfl rfl
theorem K_X4_313 {x : CX} {cc : ByteArray} {n d pc : Nat} {ls : LV} {st : List AV} {w : Wd} {i dc : Nat} {st0 : List AV} {r : Int64} {w' : Wd} (as : List AV) (hC : Cx x RX4 cc n d) (hm : (1, i) ∈ gis) (hM : Sp (xG x) (xl x) yX1_mixAll cw_X1_mixAll dc (vr 1 i :: as) w (some (vl r)) w') (hdc : dc + 1 ≤ d) (hln : ls.length = n) (hn : as.length = 1) (hst : st0 = as.reverse ++ vr 1 i :: st) (hcat : (st.map cat).sum ≤ 8) (hd : decode cc pc = .ok (.invokevirtual 313, 3)) (pc' : Nat) (hp : pc + 3 = pc') (k : Z x pc' ls (vl r :: st) w') : Z x pc ls st0 w := Z_callV (m := 1) (maxL := 7) (N := 2) (T := TX1) as hC hm (by decide) rfl ⟨rfl, by decide, by decide, by decide +kernel⟩ ml_X4_313 wi_X1_mixAll wse_X1_mixAll wini_X1 wc_X1_mixAll hM hdc (by decide) hln hn hst hcat hd pc' hp k
theorem ml_X4_317 : Cond.methodLink RX4 317 yX3_mixAll ∈ ww := ww_3 184 rfl rfl
theorem K_X4_317 {x : CX} {cc : ByteArray} {n d pc : Nat} {ls : LV} {st : List AV} {w : Wd} {i dc : Nat} {st0 : List AV} {r : Int64} {w' : Wd} (as : List AV) (hC : Cx x RX4 cc n d) (hm : (2, i) ∈ gis) (hM : Sp (xG x) (xl x) yX3_mixAll cw_X3_mixAll dc (vr 2 i :: as) w (some (vl r)) w') (hdc : dc + 1 ≤ d) (hln : ls.length = n) (hn : as.length = 1) (hst : st0 = as.reverse ++ vr 2 i :: st) (hcat : (st.map cat).sum ≤ 8) (hd : decode cc pc = .ok (.invokevirtual 317, 3)) (pc' : Nat) (hp : pc + 3 = pc') (k : Z x pc' ls (vl r :: st) w') : Z x pc ls st0 w := Z_callV (m := 1) (maxL := 7) (N := 2) (T := TX3) as hC hm (by decide) rfl ⟨rfl, by decide, by decide, by decide +kernel⟩ ml_X4_317 wi_X3_mixAll wse_X3_mixAll wini_X3 wc_X3_mixAll hM hdc (by decide) hln hn hst hcat hd pc' hp k
theorem ml_X4_320 : Cond.methodLink RX4 320 yJ9_max_7cf53 ∈ ww := ww_3 5 rfl rfl
theorem K_X4_320 {x : CX} {cc : ByteArray} {n d pc : Nat} {ls : LV} {st : List AV} {w : Wd} {dc : Nat} {st0 : List AV} {r : Int32} {w' : Wd} (as : List AV) (hC : Cx x RX4 cc n d) (hM : Sp (xG x) (xl x) yJ9_max_7cf53 cw_J9_max_7cf53 dc as w (some (vi r)) w') (hdc : dc + 1 ≤ d) (hln : ls.length = n) (hn : as.length = 2) (hst : st0 = as.reverse ++ st) (hcat : (st.map cat).sum ≤ 8) (hd : decode cc pc = .ok (.invokestatic 320, 3)) (pc' : Nat) (hp : pc + 3 = pc') (k : Z x pc' ls (vi r :: st) w') : Z x pc ls st0 w := Z_callS (m := 2) (maxL := 2) as hC ⟨by decide, by decide, by decide +kernel⟩ ml_X4_320 wi_J9_max_7cf53 wini_J9 wc_J9_max_7cf53 hM hdc (by decide) hln hn hst hcat hd pc' hp k
theorem ml_X5_72 : Cond.methodLink RX5 72 yX5_in ∈ ww := ww_4 59 rfl rfl
theorem K_X5_72 {x : CX} {cc : ByteArray} {n d pc : Nat} {ls : LV} {st : List AV} {w : Wd} {dc : Nat} {st0 : List AV} {r : Int32} {w' : Wd} (as : List AV) (hC : Cx x RX5 cc n d) (hM : Sp (xG x) (xl x) yX5_in cw_X5_in dc as w (some (vi r)) w') (hdc : dc + 1 ≤ d) (hln : ls.length = n) (hn : as.length = 3) (hst : st0 = as.reverse ++ st) (hcat : (st.map cat).sum ≤ 8) (hd : decode cc pc = .ok (.invokestatic 72, 3)) (pc' : Nat) (hp : pc + 3 = pc') (k : Z x pc' ls (vi r :: st) w') : Z x pc ls st0 w := Z_callS (m := 3) (maxL := 3) as hC ⟨by decide, by decide, by decide +kernel⟩ ml_X5_72 wi_X5_in wini_X5 wc_X5_in hM hdc (by decide) hln hn hst hcat hd pc' hp k
theorem ml_X5_76 : Cond.methodLink RX5 76 yX5_isRow ∈ ww := ww_4 56 rfl rfl
theorem K_X5_76 {x : CX} {cc : ByteArray} {n d pc : Nat} {ls : LV} {st : List AV} {w : Wd} {dc : Nat} {st0 : List AV} {r : Int32} {w' : Wd} (as : List AV) (hC : Cx x RX5 cc n d) (hM : Sp (xG x) (xl x) yX5_isRow cw_X5_isRow dc as w (some (vi r)) w') (hdc : dc + 1 ≤ d) (hln : ls.length = n) (hn : as.length = 1) (hst : st0 = as.reverse ++ st) (hcat : (st.map cat).sum ≤ 8) (hd : decode cc pc = .ok (.invokestatic 76, 3)) (pc' : Nat) (hp : pc + 3 = pc') (k : Z x pc' ls (vi r :: st) w') : Z x pc ls st0 w := Z_callS (m := 1) (maxL := 1) as hC ⟨by decide, by decide, by decide +kernel⟩ ml_X5_76 wi_X5_isRow wini_X5 wc_X5_isRow hM hdc (by decide) hln hn hst hcat hd pc' hp k
theorem ml_X5_80 : Cond.methodLink RX5 80 yX5_meet ∈ ww := ww_4 62 rfl rfl
theorem K_X5_80 {x : CX} {cc : ByteArray} {n d pc : Nat} {ls : LV} {st : List AV} {w : Wd} {i dc : Nat} {st0 : List AV} {r : Int32} {w' : Wd} (as : List AV) (hC : Cx x RX5 cc n d) (hm : (5, i) ∈ gis) (hM : Sp (xG x) (xl x) yX5_meet cw_X5_meet dc (vr 5 i :: as) w (some (vi r)) w') (hdc : dc + 1 ≤ d) (hln : ls.length = n) (hn : as.length = 1) (hst : st0 = as.reverse ++ vr 5 i :: st) (hcat : (st.map cat).sum ≤ 8) (hd : decode cc pc = .ok (.invokevirtual 80, 3)) (pc' : Nat) (hp : pc + 3 = pc') (k : Z x pc' ls (vi r :: st) w') : Z x pc ls st0 w := Z_callV (m := 1) (maxL := 2) (N := 32) (T := TX5) as hC hm (by decide) rfl ⟨rfl, by decide, by decide, by decide +kernel⟩ ml_X5_80 wi_X5_meet wse_X5_meet wini_X5 wc_X5_meet hM hdc (by decide) hln hn hst hcat hd pc' hp k
theorem ml_X5_84 : Cond.methodLink RX5 84 yX5_isText ∈ ww := ww_4 107 rfl rfl
theorem K_X5_84 {x : CX} {cc : ByteArray} {n d pc : Nat} {ls : LV} {st : List AV} {w : Wd} {dc : Nat} {st0 : List AV} {r : Int32} {w' : Wd} (as : List AV) (hC : Cx x RX5 cc n d) (hM : Sp (xG x) (xl x) yX5_isText cw_X5_isText dc as w (some (vi r)) w') (hdc : dc + 1 ≤ d) (hln : ls.length = n) (hn : as.length = 1) (hst : st0 = as.reverse ++ st) (hcat : (st.map cat).sum ≤ 8) (hd : decode cc pc = .ok (.invokestatic 84, 3)) (pc' : Nat) (hp : pc + 3 = pc') (k : Z x pc' ls (vi r :: st) w') : Z x pc ls st0 w := Z_callS (m := 1) (maxL := 1) as hC ⟨by decide, by decide, by decide +kernel⟩ ml_X5_84 wi_X5_isText wini_X5 wc_X5_isText hM hdc (by decide) hln hn hst hcat hd pc' hp k
theorem ml_X5_87 : Cond.methodLink RX5 87 yX5_setRow ∈ ww := ww_4 66 rfl rfl
theorem K_X5_87 {x : CX} {cc : ByteArray} {n d pc : Nat} {ls : LV} {st : List AV} {w : Wd} {i dc : Nat} {st0 : List AV} {w' : Wd} (as : List AV) (hC : Cx x RX5 cc n d) (hm : (5, i) ∈ gis) (hM : Sp (xG x) (xl x) yX5_setRow cw_X5_setRow dc (vr 5 i :: as) w none w') (hdc : dc + 1 ≤ d) (hln : ls.length = n) (hn : as.length = 3) (hst : st0 = as.reverse ++ vr 5 i :: st) (hcat : (st.map cat).sum ≤ 8) (hd : decode cc pc = .ok (.invokevirtual 87, 3)) (pc' : Nat) (hp : pc + 3 = pc') (k : Z x pc' ls st w') : Z x pc ls st0 w := Z_callV (m := 3) (maxL := 4) (N := 32) (T := TX5) as hC hm (by decide) rfl ⟨rfl, by decide, by decide, by decide +kernel⟩ ml_X5_87 wi_X5_setRow wse_X5_setRow wini_X5 wc_X5_setRow hM hdc (by decide) hln hn hst hcat hd pc' hp k
theorem ml_X5_91 : Cond.methodLink RX5 91 yX5_askedRow ∈ ww := ww_4 74 rfl rfl
theorem K_X5_91 {x : CX} {cc : ByteArray} {n d pc : Nat} {ls : LV} {st : List AV} {w : Wd} {i dc : Nat} {st0 : List AV} {r : Int32} {w' : Wd} (as : List AV) (hC : Cx x RX5 cc n d) (hm : (5, i) ∈ gis) (hM : Sp (xG x) (xl x) yX5_askedRow cw_X5_askedRow dc (vr 5 i :: as) w (some (vi r)) w') (hdc : dc + 1 ≤ d) (hln : ls.length = n) (hn : as.length = 1) (hst : st0 = as.reverse ++ vr 5 i :: st) (hcat : (st.map cat).sum ≤ 8) (hd : decode cc pc = .ok (.invokevirtual 91, 3)) (pc' : Nat) (hp : pc + 3 = pc') (k : Z x pc' ls (vi r :: st) w') : Z x pc ls st0 w := Z_callV (m := 1) (maxL := 2) (N := 32) (T := TX5) as hC hm (by decide) rfl ⟨rfl, by decide, by decide, by decide +kernel⟩ ml_X5_91 wi_X5_askedRow wse_X5_askedRow wini_X5 wc_X5_askedRow hM hdc (by decide) hln hn hst hcat hd pc' hp k
theorem ml_X5_94 : Cond.methodLink RX5 94 yX5_rowAt ∈ ww := ww_4 78 rfl rfl
theorem K_X5_94 {x : CX} {cc : ByteArray} {n d pc : Nat} {ls : LV} {st : List AV} {w : Wd} {i dc : Nat} {st0 : List AV} {r : Int32} {w' : Wd} (as : List AV) (hC : Cx x RX5 cc n d) (hm : (5, i) ∈ gis) (hM : Sp (xG x) (xl x) yX5_rowAt cw_X5_rowAt dc (vr 5 i :: as) w (some (vi r)) w') (hdc : dc + 1 ≤ d) (hln : ls.length = n) (hn : as.length = 2) (hst : st0 = as.reverse ++ vr 5 i :: st) (hcat : (st.map cat).sum ≤ 8) (hd : decode cc pc = .ok (.invokevirtual 94, 3)) (pc' : Nat) (hp : pc + 3 = pc') (k : Z x pc' ls (vi r :: st) w') : Z x pc ls st0 w := Z_callV (m := 2) (maxL := 3) (N := 32) (T := TX5) as hC hm (by decide) rfl ⟨rfl, by decide, by decide, by decide +kernel⟩ ml_X5_94 wi_X5_rowAt wse_X5_rowAt wini_X5 wc_X5_rowAt hM hdc (by decide) hln hn hst hcat hd pc' hp k
theorem ml_X5_98 : Cond.methodLink RX5 98 yX5_ask ∈ ww := ww_4 82 rfl rfl
theorem K_X5_98 {x : CX} {cc : ByteArray} {n d pc : Nat} {ls : LV} {st : List AV} {w : Wd} {i dc : Nat} {st0 : List AV} {r : Int32} {w' : Wd} (as : List AV) (hC : Cx x RX5 cc n d) (hm : (5, i) ∈ gis) (hM : Sp (xG x) (xl x) yX5_ask cw_X5_ask dc (vr 5 i :: as) w (some (vi r)) w') (hdc : dc + 1 ≤ d) (hln : ls.length = n) (hn : as.length = 2) (hst : st0 = as.reverse ++ vr 5 i :: st) (hcat : (st.map cat).sum ≤ 8) (hd : decode cc pc = .ok (.invokevirtual 98, 3)) (pc' : Nat) (hp : pc + 3 = pc') (k : Z x pc' ls (vi r :: st) w') : Z x pc ls st0 w := Z_callV (m := 2) (maxL := 3) (N := 32) (T := TX5) as hC hm (by decide) rfl ⟨rfl, by decide, by decide, by decide +kernel⟩ ml_X5_98 wi_X5_ask wse_X5_ask wini_X5 wc_X5_ask hM hdc (by decide) hln hn hst hcat hd pc' hp k
theorem ml_X5_101 : Cond.methodLink RX5 101 yX5_at ∈ ww := ww_4 90 rfl rfl
theorem K_X5_101 {x : CX} {cc : ByteArray} {n d pc : Nat} {ls : LV} {st : List AV} {w : Wd} {i dc : Nat} {st0 : List AV} {r : Int32} {w' : Wd} (as : List AV) (hC : Cx x RX5 cc n d) (hm : (5, i) ∈ gis) (hM : Sp (xG x) (xl x) yX5_at cw_X5_at dc (vr 5 i :: as) w (some (vi r)) w') (hdc : dc + 1 ≤ d) (hln : ls.length = n) (hn : as.length = 2) (hst : st0 = as.reverse ++ vr 5 i :: st) (hcat : (st.map cat).sum ≤ 8) (hd : decode cc pc = .ok (.invokevirtual 101, 3)) (pc' : Nat) (hp : pc + 3 = pc') (k : Z x pc' ls (vi r :: st) w') : Z x pc ls st0 w := Z_callV (m := 2) (maxL := 4) (N := 32) (T := TX5) as hC hm (by decide) rfl ⟨rfl, by decide, by decide, by decide +kernel⟩ ml_X5_101 wi_X5_at wse_X5_at wini_X5 wc_X5_at hM hdc (by decide) hln hn hst hcat hd pc' hp k
theorem ml_X5_104 : Cond.methodLink RX5 104 yX5_askedText ∈ ww := ww_4 114 rfl rfl
theorem K_X5_104 {x : CX} {cc : ByteArray} {n d pc : Nat} {ls : LV} {st : List AV} {w : Wd} {i dc : Nat} {st0 : List AV} {r : Int32} {w' : Wd} (as : List AV) (hC : Cx x RX5 cc n d) (hm : (5, i) ∈ gis) (hM : Sp (xG x) (xl x) yX5_askedText cw_X5_askedText dc (vr 5 i :: as) w (some (vi r)) w') (hdc : dc + 1 ≤ d) (hln : ls.length = n) (hn : as.length = 1) (hst : st0 = as.reverse ++ vr 5 i :: st) (hcat : (st.map cat).sum ≤ 8) (hd : decode cc pc = .ok (.invokevirtual 104, 3)) (pc' : Nat) (hp : pc + 3 = pc') (k : Z x pc' ls (vi r :: st) w') : Z x pc ls st0 w := Z_callV (m := 1) (maxL := 2) (N := 32) (T := TX5) as hC hm (by decide) rfl ⟨rfl, by decide, by decide, by decide +kernel⟩ ml_X5_104 wi_X5_askedText wse_X5_askedText wini_X5 wc_X5_askedText hM hdc (by decide) hln hn hst hcat hd pc' hp k
theorem ml_X5_110 : Cond.methodLink RX5 110 yX5_here ∈ ww := ww_4 126 rfl rfl
theorem K_X5_110 {x : CX} {cc : ByteArray} {n d pc : Nat} {ls : LV} {st : List AV} {w : Wd} {i dc : Nat} {st0 : List AV} {r : Int32} {w' : Wd} (as : List AV) (hC : Cx x RX5 cc n d) (hm : (5, i) ∈ gis) (hM : Sp (xG x) (xl x) yX5_here cw_X5_here dc (vr 5 i :: as) w (some (vi r)) w') (hdc : dc + 1 ≤ d) (hln : ls.length = n) (hn : as.length = 1) (hst : st0 = as.reverse ++ vr 5 i :: st) (hcat : (st.map cat).sum ≤ 8) (hd : decode cc pc = .ok (.invokevirtual 110, 3)) (pc' : Nat) (hp : pc + 3 = pc') (k : Z x pc' ls (vi r :: st) w') : Z x pc ls st0 w := Z_callV (m := 1) (maxL := 2) (N := 32) (T := TX5) as hC hm (by decide) rfl ⟨rfl, by decide, by decide, by decide +kernel⟩ ml_X5_110 wi_X5_here wse_X5_here wini_X5 wc_X5_here hM hdc (by decide) hln hn hst hcat hd pc' hp k
theorem ml_X5_113 : Cond.methodLink RX5 113 yX5_kindOf ∈ ww := ww_4 134 rfl rfl
theorem K_X5_113 {x : CX} {cc : ByteArray} {n d pc : Nat} {ls : LV} {st : List AV} {w : Wd} {dc : Nat} {st0 : List AV} {r : Int32} {w' : Wd} (as : List AV) (hC : Cx x RX5 cc n d) (hM : Sp (xG x) (xl x) yX5_kindOf cw_X5_kindOf dc as w (some (vi r)) w') (hdc : dc + 1 ≤ d) (hln : ls.length = n) (hn : as.length = 1) (hst : st0 = as.reverse ++ st) (hcat : (st.map cat).sum ≤ 8) (hd : decode cc pc = .ok (.invokestatic 113, 3)) (pc' : Nat) (hp : pc + 3 = pc') (k : Z x pc' ls (vi r :: st) w') : Z x pc ls st0 w := Z_callS (m := 1) (maxL := 1) as hC ⟨by decide, by decide, by decide +kernel⟩ ml_X5_113 wi_X5_kindOf wini_X5 wc_X5_kindOf hM hdc (by decide) hln hn hst hcat hd pc' hp k
theorem ml_X5_119 : Cond.methodLink RX5 119 yX5_readsMate ∈ ww := ww_4 130 rfl rfl
theorem K_X5_119 {x : CX} {cc : ByteArray} {n d pc : Nat} {ls : LV} {st : List AV} {w : Wd} {i dc : Nat} {st0 : List AV} {r : Int32} {w' : Wd} (as : List AV) (hC : Cx x RX5 cc n d) (hm : (5, i) ∈ gis) (hM : Sp (xG x) (xl x) yX5_readsMate cw_X5_readsMate dc (vr 5 i :: as) w (some (vi r)) w') (hdc : dc + 1 ≤ d) (hln : ls.length = n) (hn : as.length = 1) (hst : st0 = as.reverse ++ vr 5 i :: st) (hcat : (st.map cat).sum ≤ 8) (hd : decode cc pc = .ok (.invokevirtual 119, 3)) (pc' : Nat) (hp : pc + 3 = pc') (k : Z x pc' ls (vi r :: st) w') : Z x pc ls st0 w := Z_callV (m := 1) (maxL := 4) (N := 32) (T := TX5) as hC hm (by decide) rfl ⟨rfl, by decide, by decide, by decide +kernel⟩ ml_X5_119 wi_X5_readsMate wse_X5_readsMate wini_X5 wc_X5_readsMate hM hdc (by decide) hln hn hst hcat hd pc' hp k
theorem ml_X5_122 : Cond.methodLink RX5 122 yX5_goesOn ∈ ww := ww_4 122 rfl rfl
theorem K_X5_122 {x : CX} {cc : ByteArray} {n d pc : Nat} {ls : LV} {st : List AV} {w : Wd} {i dc : Nat} {st0 : List AV} {r : Int32} {w' : Wd} (as : List AV) (hC : Cx x RX5 cc n d) (hm : (5, i) ∈ gis) (hM : Sp (xG x) (xl x) yX5_goesOn cw_X5_goesOn dc (vr 5 i :: as) w (some (vi r)) w') (hdc : dc + 1 ≤ d) (hln : ls.length = n) (hn : as.length = 1) (hst : st0 = as.reverse ++ vr 5 i :: st) (hcat : (st.map cat).sum ≤ 8) (hd : decode cc pc = .ok (.invokevirtual 122, 3)) (pc' : Nat) (hp : pc + 3 = pc') (k : Z x pc' ls (vi r :: st) w') : Z x pc ls st0 w := Z_callV (m := 1) (maxL := 2) (N := 32) (T := TX5) as hC hm (by decide) rfl ⟨rfl, by decide, by decide, by decide +kernel⟩ ml_X5_122 wi_X5_goesOn wse_X5_goesOn wini_X5 wc_X5_goesOn hM hdc (by decide) hln hn hst hcat hd pc' hp k
theorem ml_X5_134 : Cond.methodLink RX5 134 yX5_lastOf ∈ ww := ww_4 153 rfl rfl
theorem K_X5_134 {x : CX} {cc : ByteArray} {n d pc : Nat} {ls : LV} {st : List AV} {w : Wd} {i dc : Nat} {st0 : List AV} {r : Int32} {w' : Wd} (as : List AV) (hC : Cx x RX5 cc n d) (hm : (5, i) ∈ gis) (hM : Sp (xG x) (xl x) yX5_lastOf cw_X5_lastOf dc (vr 5 i :: as) w (some (vi r)) w') (hdc : dc + 1 ≤ d) (hln : ls.length = n) (hn : as.length = 1) (hst : st0 = as.reverse ++ vr 5 i :: st) (hcat : (st.map cat).sum ≤ 8) (hd : decode cc pc = .ok (.invokevirtual 134, 3)) (pc' : Nat) (hp : pc + 3 = pc') (k : Z x pc' ls (vi r :: st) w') : Z x pc ls st0 w := Z_callV (m := 1) (maxL := 2) (N := 32) (T := TX5) as hC hm (by decide) rfl ⟨rfl, by decide, by decide, by decide +kernel⟩ ml_X5_134 wi_X5_lastOf wse_X5_lastOf wini_X5 wc_X5_lastOf hM hdc (by decide) hln hn hst hcat hd pc' hp k
theorem ml_X5_137 : Cond.methodLink RX5 137 yX5_isMate ∈ ww := ww_4 145 rfl rfl
theorem K_X5_137 {x : CX} {cc : ByteArray} {n d pc : Nat} {ls : LV} {st : List AV} {w : Wd} {i dc : Nat} {st0 : List AV} {r : Int32} {w' : Wd} (as : List AV) (hC : Cx x RX5 cc n d) (hm : (5, i) ∈ gis) (hM : Sp (xG x) (xl x) yX5_isMate cw_X5_isMate dc (vr 5 i :: as) w (some (vi r)) w') (hdc : dc + 1 ≤ d) (hln : ls.length = n) (hn : as.length = 1) (hst : st0 = as.reverse ++ vr 5 i :: st) (hcat : (st.map cat).sum ≤ 8) (hd : decode cc pc = .ok (.invokevirtual 137, 3)) (pc' : Nat) (hp : pc + 3 = pc') (k : Z x pc' ls (vi r :: st) w') : Z x pc ls st0 w := Z_callV (m := 1) (maxL := 2) (N := 32) (T := TX5) as hC hm (by decide) rfl ⟨rfl, by decide, by decide, by decide +kernel⟩ ml_X5_137 wi_X5_isMate wse_X5_isMate wini_X5 wc_X5_isMate hM hdc (by decide) hln hn hst hcat hd pc' hp k
theorem ml_X5_140 : Cond.methodLink RX5 140 yX5_mateOf ∈ ww := ww_4 149 rfl rfl
theorem K_X5_140 {x : CX} {cc : ByteArray} {n d pc : Nat} {ls : LV} {st : List AV} {w : Wd} {i dc : Nat} {st0 : List AV} {r : Int32} {w' : Wd} (as : List AV) (hC : Cx x RX5 cc n d) (hm : (5, i) ∈ gis) (hM : Sp (xG x) (xl x) yX5_mateOf cw_X5_mateOf dc (vr 5 i :: as) w (some (vi r)) w') (hdc : dc + 1 ≤ d) (hln : ls.length = n) (hn : as.length = 2) (hst : st0 = as.reverse ++ vr 5 i :: st) (hcat : (st.map cat).sum ≤ 8) (hd : decode cc pc = .ok (.invokevirtual 140, 3)) (pc' : Nat) (hp : pc + 3 = pc') (k : Z x pc' ls (vi r :: st) w') : Z x pc ls st0 w := Z_callV (m := 2) (maxL := 3) (N := 32) (T := TX5) as hC hm (by decide) rfl ⟨rfl, by decide, by decide, by decide +kernel⟩ ml_X5_140 wi_X5_mateOf wse_X5_mateOf wini_X5 wc_X5_mateOf hM hdc (by decide) hln hn hst hcat hd pc' hp k
theorem ml_X5_143 : Cond.methodLink RX5 143 yX5_isA ∈ ww := ww_4 161 rfl rfl
theorem K_X5_143 {x : CX} {cc : ByteArray} {n d pc : Nat} {ls : LV} {st : List AV} {w : Wd} {i dc : Nat} {st0 : List AV} {r : Int32} {w' : Wd} (as : List AV) (hC : Cx x RX5 cc n d) (hm : (5, i) ∈ gis) (hM : Sp (xG x) (xl x) yX5_isA cw_X5_isA dc (vr 5 i :: as) w (some (vi r)) w') (hdc : dc + 1 ≤ d) (hln : ls.length = n) (hn : as.length = 2) (hst : st0 = as.reverse ++ vr 5 i :: st) (hcat : (st.map cat).sum ≤ 8) (hd : decode cc pc = .ok (.invokevirtual 143, 3)) (pc' : Nat) (hp : pc + 3 = pc') (k : Z x pc' ls (vi r :: st) w') : Z x pc ls st0 w := Z_callV (m := 2) (maxL := 3) (N := 32) (T := TX5) as hC hm (by decide) rfl ⟨rfl, by decide, by decide, by decide +kernel⟩ ml_X5_143 wi_X5_isA wse_X5_isA wini_X5 wc_X5_isA hM hdc (by decide) hln hn hst hcat hd pc' hp k
theorem ml_X5_147 : Cond.methodLink RX5 147 yX5_has ∈ ww := ww_4 169 rfl rfl
theorem K_X5_147 {x : CX} {cc : ByteArray} {n d pc : Nat} {ls : LV} {st : List AV} {w : Wd} {dc : Nat} {st0 : List AV} {r : Int32} {w' : Wd} (as : List AV) (hC : Cx x RX5 cc n d) (hM : Sp (xG x) (xl x) yX5_has cw_X5_has dc as w (some (vi r)) w') (hdc : dc + 1 ≤ d) (hln : ls.length = n) (hn : as.length = 2) (hst : st0 = as.reverse ++ st) (hcat : (st.map cat).sum ≤ 8) (hd : decode cc pc = .ok (.invokestatic 147, 3)) (pc' : Nat) (hp : pc + 3 = pc') (k : Z x pc' ls (vi r :: st) w') : Z x pc ls st0 w := Z_callS (m := 2) (maxL := 2) as hC ⟨by decide, by decide, by decide +kernel⟩ ml_X5_147 wi_X5_has wini_X5 wc_X5_has hM hdc (by decide) hln hn hst hcat hd pc' hp k
theorem ml_X5_150 : Cond.methodLink RX5 150 yX5_barOf ∈ ww := ww_4 165 rfl rfl
theorem K_X5_150 {x : CX} {cc : ByteArray} {n d pc : Nat} {ls : LV} {st : List AV} {w : Wd} {i dc : Nat} {st0 : List AV} {r : Int32} {w' : Wd} (as : List AV) (hC : Cx x RX5 cc n d) (hm : (5, i) ∈ gis) (hM : Sp (xG x) (xl x) yX5_barOf cw_X5_barOf dc (vr 5 i :: as) w (some (vi r)) w') (hdc : dc + 1 ≤ d) (hln : ls.length = n) (hn : as.length = 2) (hst : st0 = as.reverse ++ vr 5 i :: st) (hcat : (st.map cat).sum ≤ 8) (hd : decode cc pc = .ok (.invokevirtual 150, 3)) (pc' : Nat) (hp : pc + 3 = pc') (k : Z x pc' ls (vi r :: st) w') : Z x pc ls st0 w := Z_callV (m := 2) (maxL := 4) (N := 32) (T := TX5) as hC hm (by decide) rfl ⟨rfl, by decide, by decide, by decide +kernel⟩ ml_X5_150 wi_X5_barOf wse_X5_barOf wini_X5 wc_X5_barOf hM hdc (by decide) hln hn hst hcat hd pc' hp k
theorem ml_X5_153 : Cond.methodLink RX5 153 yX5_mayOf ∈ ww := ww_4 172 rfl rfl
theorem K_X5_153 {x : CX} {cc : ByteArray} {n d pc : Nat} {ls : LV} {st : List AV} {w : Wd} {i dc : Nat} {st0 : List AV} {r : Int32} {w' : Wd} (as : List AV) (hC : Cx x RX5 cc n d) (hm : (5, i) ∈ gis) (hM : Sp (xG x) (xl x) yX5_mayOf cw_X5_mayOf dc (vr 5 i :: as) w (some (vi r)) w') (hdc : dc + 1 ≤ d) (hln : ls.length = n) (hn : as.length = 1) (hst : st0 = as.reverse ++ vr 5 i :: st) (hcat : (st.map cat).sum ≤ 8) (hd : decode cc pc = .ok (.invokevirtual 153, 3)) (pc' : Nat) (hp : pc + 3 = pc') (k : Z x pc' ls (vi r :: st) w') : Z x pc ls st0 w := Z_callV (m := 1) (maxL := 4) (N := 32) (T := TX5) as hC hm (by decide) rfl ⟨rfl, by decide, by decide, by decide +kernel⟩ ml_X5_153 wi_X5_mayOf wse_X5_mayOf wini_X5 wc_X5_mayOf hM hdc (by decide) hln hn hst hcat hd pc' hp k
theorem ml_X5_156 : Cond.methodLink RX5 156 yX5_sizeOf ∈ ww := ww_4 176 rfl rfl
theorem K_X5_156 {x : CX} {cc : ByteArray} {n d pc : Nat} {ls : LV} {st : List AV} {w : Wd} {dc : Nat} {st0 : List AV} {r : Int32} {w' : Wd} (as : List AV) (hC : Cx x RX5 cc n d) (hM : Sp (xG x) (xl x) yX5_sizeOf cw_X5_sizeOf dc as w (some (vi r)) w') (hdc : dc + 1 ≤ d) (hln : ls.length = n) (hn : as.length = 1) (hst : st0 = as.reverse ++ st) (hcat : (st.map cat).sum ≤ 8) (hd : decode cc pc = .ok (.invokestatic 156, 3)) (pc' : Nat) (hp : pc + 3 = pc') (k : Z x pc' ls (vi r :: st) w') : Z x pc ls st0 w := Z_callS (m := 1) (maxL := 3) as hC ⟨by decide, by decide, by decide +kernel⟩ ml_X5_156 wi_X5_sizeOf wini_X5 wc_X5_sizeOf hM hdc (by decide) hln hn hst hcat hd pc' hp k
theorem ml_X5_162 : Cond.methodLink RX5 162 yX5_isBack ∈ ww := ww_4 203 rfl rfl
theorem K_X5_162 {x : CX} {cc : ByteArray} {n d pc : Nat} {ls : LV} {st : List AV} {w : Wd} {i dc : Nat} {st0 : List AV} {r : Int32} {w' : Wd} (as : List AV) (hC : Cx x RX5 cc n d) (hm : (5, i) ∈ gis) (hM : Sp (xG x) (xl x) yX5_isBack cw_X5_isBack dc (vr 5 i :: as) w (some (vi r)) w') (hdc : dc + 1 ≤ d) (hln : ls.length = n) (hn : as.length = 2) (hst : st0 = as.reverse ++ vr 5 i :: st) (hcat : (st.map cat).sum ≤ 8) (hd : decode cc pc = .ok (.invokevirtual 162, 3)) (pc' : Nat) (hp : pc + 3 = pc') (k : Z x pc' ls (vi r :: st) w') : Z x pc ls st0 w := Z_callV (m := 2) (maxL := 3) (N := 32) (T := TX5) as hC hm (by decide) rfl ⟨rfl, by decide, by decide, by decide +kernel⟩ ml_X5_162 wi_X5_isBack wse_X5_isBack wini_X5 wc_X5_isBack hM hdc (by decide) hln hn hst hcat hd pc' hp k
theorem ml_X5_165 : Cond.methodLink RX5 165 yX5_ringsOf ∈ ww := ww_4 207 rfl rfl
theorem K_X5_165 {x : CX} {cc : ByteArray} {n d pc : Nat} {ls : LV} {st : List AV} {w : Wd} {i dc : Nat} {st0 : List AV} {r : Int32} {w' : Wd} (as : List AV) (hC : Cx x RX5 cc n d) (hm : (5, i) ∈ gis) (hM : Sp (xG x) (xl x) yX5_ringsOf cw_X5_ringsOf dc (vr 5 i :: as) w (some (vi r)) w') (hdc : dc + 1 ≤ d) (hln : ls.length = n) (hn : as.length = 0) (hst : st0 = as.reverse ++ vr 5 i :: st) (hcat : (st.map cat).sum ≤ 8) (hd : decode cc pc = .ok (.invokevirtual 165, 3)) (pc' : Nat) (hp : pc + 3 = pc') (k : Z x pc' ls (vi r :: st) w') : Z x pc ls st0 w := Z_callV (m := 0) (maxL := 5) (N := 32) (T := TX5) as hC hm (by decide) rfl ⟨rfl, by decide, by decide, by decide +kernel⟩ ml_X5_165 wi_X5_ringsOf wse_X5_ringsOf wini_X5 wc_X5_ringsOf hM hdc (by decide) hln hn hst hcat hd pc' hp k
theorem ml_X5_169 : Cond.methodLink RX5 169 yX5_askedDrawing ∈ ww := ww_4 195 rfl rfl
theorem K_X5_169 {x : CX} {cc : ByteArray} {n d pc : Nat} {ls : LV} {st : List AV} {w : Wd} {i dc : Nat} {st0 : List AV} {r : Int32} {w' : Wd} (as : List AV) (hC : Cx x RX5 cc n d) (hm : (5, i) ∈ gis) (hM : Sp (xG x) (xl x) yX5_askedDrawing cw_X5_askedDrawing dc (vr 5 i :: as) w (some (vi r)) w') (hdc : dc + 1 ≤ d) (hln : ls.length = n) (hn : as.length = 1) (hst : st0 = as.reverse ++ vr 5 i :: st) (hcat : (st.map cat).sum ≤ 8) (hd : decode cc pc = .ok (.invokevirtual 169, 3)) (pc' : Nat) (hp : pc + 3 = pc') (k : Z x pc' ls (vi r :: st) w') : Z x pc ls st0 w := Z_callV (m := 1) (maxL := 6) (N := 32) (T := TX5) as hC hm (by decide) rfl ⟨rfl, by decide, by decide, by decide +kernel⟩ ml_X5_169 wi_X5_askedDrawing wse_X5_askedDrawing wini_X5 wc_X5_askedDrawing hM hdc (by decide) hln hn hst hcat hd pc' hp k
theorem ml_X5_172 : Cond.methodLink RX5 172 yX5_badBy ∈ ww := ww_4 199 rfl rfl
theorem K_X5_172 {x : CX} {cc : ByteArray} {n d pc : Nat} {ls : LV} {st : List AV} {w : Wd} {i dc : Nat} {st0 : List AV} {r : Int32} {w' : Wd} (as : List AV) (hC : Cx x RX5 cc n d) (hm : (5, i) ∈ gis) (hM : Sp (xG x) (xl x) yX5_badBy cw_X5_badBy dc (vr 5 i :: as) w (some (vi r)) w') (hdc : dc + 1 ≤ d) (hln : ls.length = n) (hn : as.length = 0) (hst : st0 = as.reverse ++ vr 5 i :: st) (hcat : (st.map cat).sum ≤ 8) (hd : decode cc pc = .ok (.invokevirtual 172, 3)) (pc' : Nat) (hp : pc + 3 = pc') (k : Z x pc' ls (vi r :: st) w') : Z x pc ls st0 w := Z_callV (m := 0) (maxL := 3) (N := 32) (T := TX5) as hC hm (by decide) rfl ⟨rfl, by decide, by decide, by decide +kernel⟩ ml_X5_172 wi_X5_badBy wse_X5_badBy wini_X5 wc_X5_badBy hM hdc (by decide) hln hn hst hcat hd pc' hp k
theorem ml_X5_181 : Cond.methodLink RX5 181 yX5_rightOn ∈ ww := ww_4 219 rfl rfl
theorem K_X5_181 {x : CX} {cc : ByteArray} {n d pc : Nat} {ls : LV} {st : List AV} {w : Wd} {i dc : Nat} {st0 : List AV} {w' : Wd} (as : List AV) (hC : Cx x RX5 cc n d) (hm : (5, i) ∈ gis) (hM : Sp (xG x) (xl x) yX5_rightOn cw_X5_rightOn dc (vr 5 i :: as) w none w') (hdc : dc + 1 ≤ d) (hln : ls.length = n) (hn : as.length = 1) (hst : st0 = as.reverse ++ vr 5 i :: st) (hcat : (st.map cat).sum ≤ 8) (hd : decode cc pc = .ok (.invokevirtual 181, 3)) (pc' : Nat) (hp : pc + 3 = pc') (k : Z x pc' ls st w') : Z x pc ls st0 w := Z_callV (m := 1) (maxL := 3) (N := 32) (T := TX5) as hC hm (by decide) rfl ⟨rfl, by decide, by decide, by decide +kernel⟩ ml_X5_181 wi_X5_rightOn wse_X5_rightOn wini_X5 wc_X5_rightOn hM hdc (by decide) hln hn hst hcat hd pc' hp k
theorem ml_X5_185 : Cond.methodLink RX5 185 yX5_setRights ∈ ww := ww_4 215 rfl rfl
theorem K_X5_185 {x : CX} {cc : ByteArray} {n d pc : Nat} {ls : LV} {st : List AV} {w : Wd} {i dc : Nat} {st0 : List AV} {w' : Wd} (as : List AV) (hC : Cx x RX5 cc n d) (hm : (5, i) ∈ gis) (hM : Sp (xG x) (xl x) yX5_setRights cw_X5_setRights dc (vr 5 i :: as) w none w') (hdc : dc + 1 ≤ d) (hln : ls.length = n) (hn : as.length = 0) (hst : st0 = as.reverse ++ vr 5 i :: st) (hcat : (st.map cat).sum ≤ 8) (hd : decode cc pc = .ok (.invokevirtual 185, 3)) (pc' : Nat) (hp : pc + 3 = pc') (k : Z x pc' ls st w') : Z x pc ls st0 w := Z_callV (m := 0) (maxL := 1) (N := 32) (T := TX5) as hC hm (by decide) rfl ⟨rfl, by decide, by decide, by decide +kernel⟩ ml_X5_185 wi_X5_setRights wse_X5_setRights wini_X5 wc_X5_setRights hM hdc (by decide) hln hn hst hcat hd pc' hp k
theorem ml_X5_188 : Cond.methodLink RX5 188 yX5_row ∈ ww := ww_4 231 rfl rfl
theorem K_X5_188 {x : CX} {cc : ByteArray} {n d pc : Nat} {ls : LV} {st : List AV} {w : Wd} {i dc : Nat} {st0 : List AV} {r : Int32} {w' : Wd} (as : List AV) (hC : Cx x RX5 cc n d) (hm : (5, i) ∈ gis) (hM : Sp (xG x) (xl x) yX5_row cw_X5_row dc (vr 5 i :: as) w (some (vi r)) w') (hdc : dc + 1 ≤ d) (hln : ls.length = n) (hn : as.length = 2) (hst : st0 = as.reverse ++ vr 5 i :: st) (hcat : (st.map cat).sum ≤ 8) (hd : decode cc pc = .ok (.invokevirtual 188, 3)) (pc' : Nat) (hp : pc + 3 = pc') (k : Z x pc' ls (vi r :: st) w') : Z x pc ls st0 w := Z_callV (m := 2) (maxL := 4) (N := 32) (T := TX5) as hC hm (by decide) rfl ⟨rfl, by decide, by decide, by decide +kernel⟩ ml_X5_188 wi_X5_row wse_X5_row wini_X5 wc_X5_row hM hdc (by decide) hln hn hst hcat hd pc' hp k
theorem ml_X5_191 : Cond.methodLink RX5 191 yX5_right ∈ ww := ww_4 232 rfl rfl
theorem K_X5_191 {x : CX} {cc : ByteArray} {n d pc : Nat} {ls : LV} {st : List AV} {w : Wd} {i dc : Nat} {st0 : List AV} {r : Int32} {w' : Wd} (as : List AV) (hC : Cx x RX5 cc n d) (hm : (5, i) ∈ gis) (hM : Sp (xG x) (xl x) yX5_right cw_X5_right dc (vr 5 i :: as) w (some (vi r)) w') (hdc : dc + 1 ≤ d) (hln : ls.length = n) (hn : as.length = 2) (hst : st0 = as.reverse ++ vr 5 i :: st) (hcat : (st.map cat).sum ≤ 8) (hd : decode cc pc = .ok (.invokevirtual 191, 3)) (pc' : Nat) (hp : pc + 3 = pc') (k : Z x pc' ls (vi r :: st) w') : Z x pc ls st0 w := Z_callV (m := 2) (maxL := 3) (N := 32) (T := TX5) as hC hm (by decide) rfl ⟨rfl, by decide, by decide, by decide +kernel⟩ ml_X5_191 wi_X5_right wse_X5_right wini_X5 wc_X5_right hM hdc (by decide) hln hn hst hcat hd pc' hp k
theorem ml_X5_194 : Cond.methodLink RX5 194 yX5_layRight ∈ ww := ww_4 227 rfl rfl
theorem K_X5_194 {x : CX} {cc : ByteArray} {n d pc : Nat} {ls : LV} {st : List AV} {w : Wd} {i dc : Nat} {st0 : List AV} {w' : Wd} (as : List AV) (hC : Cx x RX5 cc n d) (hm : (5, i) ∈ gis) (hM : Sp (xG x) (xl x) yX5_layRight cw_X5_layRight dc (vr 5 i :: as) w none w') (hdc : dc + 1 ≤ d) (hln : ls.length = n) (hn : as.length = 2) (hst : st0 = as.reverse ++ vr 5 i :: st) (hcat : (st.map cat).sum ≤ 8) (hd : decode cc pc = .ok (.invokevirtual 194, 3)) (pc' : Nat) (hp : pc + 3 = pc') (k : Z x pc' ls st w') : Z x pc ls st0 w := Z_callV (m := 2) (maxL := 4) (N := 32) (T := TX5) as hC hm (by decide) rfl ⟨rfl, by decide, by decide, by decide +kernel⟩ ml_X5_194 wi_X5_layRight wse_X5_layRight wini_X5 wc_X5_layRight hM hdc (by decide) hln hn hst hcat hd pc' hp k
theorem ml_X5_198 : Cond.methodLink RX5 198 yX5_numberOf ∈ ww := ww_5 0 rfl rfl
theorem K_X5_198 {x : CX} {cc : ByteArray} {n d pc : Nat} {ls : LV} {st : List AV} {w : Wd} {i dc : Nat} {st0 : List AV} {r : Int32} {w' : Wd} (as : List AV) (hC : Cx x RX5 cc n d) (hm : (5, i) ∈ gis) (hM : Sp (xG x) (xl x) yX5_numberOf cw_X5_numberOf dc (vr 5 i :: as) w (some (vi r)) w') (hdc : dc + 1 ≤ d) (hln : ls.length = n) (hn : as.length = 1) (hst : st0 = as.reverse ++ vr 5 i :: st) (hcat : (st.map cat).sum ≤ 8) (hd : decode cc pc = .ok (.invokevirtual 198, 3)) (pc' : Nat) (hp : pc + 3 = pc') (k : Z x pc' ls (vi r :: st) w') : Z x pc ls st0 w := Z_callV (m := 1) (maxL := 5) (N := 32) (T := TX5) as hC hm (by decide) rfl ⟨rfl, by decide, by decide, by decide +kernel⟩ ml_X5_198 wi_X5_numberOf wse_X5_numberOf wini_X5 wc_X5_numberOf hM hdc (by decide) hln hn hst hcat hd pc' hp k
theorem ml_X5_202 : Cond.methodLink RX5 202 yX5_isSeed ∈ ww := ww_5 8 rfl rfl
theorem K_X5_202 {x : CX} {cc : ByteArray} {n d pc : Nat} {ls : LV} {st : List AV} {w : Wd} {dc : Nat} {st0 : List AV} {r : Int32} {w' : Wd} (as : List AV) (hC : Cx x RX5 cc n d) (hM : Sp (xG x) (xl x) yX5_isSeed cw_X5_isSeed dc as w (some (vi r)) w') (hdc : dc + 1 ≤ d) (hln : ls.length = n) (hn : as.length = 1) (hst : st0 = as.reverse ++ st) (hcat : (st.map cat).sum ≤ 8) (hd : decode cc pc = .ok (.invokestatic 202, 3)) (pc' : Nat) (hp : pc + 3 = pc') (k : Z x pc' ls (vi r :: st) w') : Z x pc ls st0 w := Z_callS (m := 1) (maxL := 1) as hC ⟨by decide, by decide, by decide +kernel⟩ ml_X5_202 wi_X5_isSeed wini_X5 wc_X5_isSeed hM hdc (by decide) hln hn hst hcat hd pc' hp k
theorem ml_X5_212 : Cond.methodLink RX5 212 yX5_begins ∈ ww := ww_5 34 rfl rfl
theorem K_X5_212 {x : CX} {cc : ByteArray} {n d pc : Nat} {ls : LV} {st : List AV} {w : Wd} {i dc : Nat} {st0 : List AV} {r : Int32} {w' : Wd} (as : List AV) (hC : Cx x RX5 cc n d) (hm : (5, i) ∈ gis) (hM : Sp (xG x) (xl x) yX5_begins cw_X5_begins dc (vr 5 i :: as) w (some (vi r)) w') (hdc : dc + 1 ≤ d) (hln : ls.length = n) (hn : as.length = 2) (hst : st0 = as.reverse ++ vr 5 i :: st) (hcat : (st.map cat).sum ≤ 8) (hd : decode cc pc = .ok (.invokevirtual 212, 3)) (pc' : Nat) (hp : pc + 3 = pc') (k : Z x pc' ls (vi r :: st) w') : Z x pc ls st0 w := Z_callV (m := 2) (maxL := 5) (N := 32) (T := TX5) as hC hm (by decide) rfl ⟨rfl, by decide, by decide, by decide +kernel⟩ ml_X5_212 wi_X5_begins wse_X5_begins wini_X5 wc_X5_begins hM hdc (by decide) hln hn hst hcat hd pc' hp k
theorem ml_X5_215 : Cond.methodLink RX5 215 yX5_cans ∈ ww := ww_5 30 rfl rfl
theorem K_X5_215 {x : CX} {cc : ByteArray} {n d pc : Nat} {ls : LV} {st : List AV} {w : Wd} {i dc : Nat} {st0 : List AV} {r : Int32} {w' : Wd} (as : List AV) (hC : Cx x RX5 cc n d) (hm : (5, i) ∈ gis) (hM : Sp (xG x) (xl x) yX5_cans cw_X5_cans dc (vr 5 i :: as) w (some (vi r)) w') (hdc : dc + 1 ≤ d) (hln : ls.length = n) (hn : as.length = 1) (hst : st0 = as.reverse ++ vr 5 i :: st) (hcat : (st.map cat).sum ≤ 8) (hd : decode cc pc = .ok (.invokevirtual 215, 3)) (pc' : Nat) (hp : pc + 3 = pc') (k : Z x pc' ls (vi r :: st) w') : Z x pc ls st0 w := Z_callV (m := 1) (maxL := 4) (N := 32) (T := TX5) as hC hm (by decide) rfl ⟨rfl, by decide, by decide, by decide +kernel⟩ ml_X5_215 wi_X5_cans wse_X5_cans wini_X5 wc_X5_cans hM hdc (by decide) hln hn hst hcat hd pc' hp k
theorem ml_X5_221 : Cond.methodLink RX5 221 yX5_turnOn ∈ ww := ww_5 43 rfl rfl
theorem K_X5_221 {x : CX} {cc : ByteArray} {n d pc : Nat} {ls : LV} {st : List AV} {w : Wd} {i dc : Nat} {st0 : List AV} {w' : Wd} (as : List AV) (hC : Cx x RX5 cc n d) (hm : (5, i) ∈ gis) (hM : Sp (xG x) (xl x) yX5_turnOn cw_X5_turnOn dc (vr 5 i :: as) w none w') (hdc : dc + 1 ≤ d) (hln : ls.length = n) (hn : as.length = 4) (hst : st0 = as.reverse ++ vr 5 i :: st) (hcat : (st.map cat).sum ≤ 8) (hd : decode cc pc = .ok (.invokevirtual 221, 3)) (pc' : Nat) (hp : pc + 3 = pc') (k : Z x pc' ls st w') : Z x pc ls st0 w := Z_callV (m := 4) (maxL := 8) (N := 32) (T := TX5) as hC hm (by decide) rfl ⟨rfl, by decide, by decide, by decide +kernel⟩ ml_X5_221 wi_X5_turnOn wse_X5_turnOn wini_X5 wc_X5_turnOn hM hdc (by decide) hln hn hst hcat hd pc' hp k
theorem ml_X5_227 : Cond.methodLink RX5 227 yX5_part ∈ ww := ww_5 47 rfl rfl
theorem K_X5_227 {x : CX} {cc : ByteArray} {n d pc : Nat} {ls : LV} {st : List AV} {w : Wd} {i dc : Nat} {st0 : List AV} {r : Int32} {w' : Wd} (as : List AV) (hC : Cx x RX5 cc n d) (hm : (5, i) ∈ gis) (hM : Sp (xG x) (xl x) yX5_part cw_X5_part dc (vr 5 i :: as) w (some (vi r)) w') (hdc : dc + 1 ≤ d) (hln : ls.length = n) (hn : as.length = 3) (hst : st0 = as.reverse ++ vr 5 i :: st) (hcat : (st.map cat).sum ≤ 8) (hd : decode cc pc = .ok (.invokevirtual 227, 3)) (pc' : Nat) (hp : pc + 3 = pc') (k : Z x pc' ls (vi r :: st) w') : Z x pc ls st0 w := Z_callV (m := 3) (maxL := 12) (N := 32) (T := TX5) as hC hm (by decide) rfl ⟨rfl, by decide, by decide, by decide +kernel⟩ ml_X5_227 wi_X5_part wse_X5_part wini_X5 wc_X5_part hM hdc (by decide) hln hn hst hcat hd pc' hp k
theorem ml_X5_231 : Cond.methodLink RX5 231 yX5_isYear ∈ ww := ww_5 79 rfl rfl
theorem K_X5_231 {x : CX} {cc : ByteArray} {n d pc : Nat} {ls : LV} {st : List AV} {w : Wd} {i dc : Nat} {st0 : List AV} {r : Int32} {w' : Wd} (as : List AV) (hC : Cx x RX5 cc n d) (hm : (5, i) ∈ gis) (hM : Sp (xG x) (xl x) yX5_isYear cw_X5_isYear dc (vr 5 i :: as) w (some (vi r)) w') (hdc : dc + 1 ≤ d) (hln : ls.length = n) (hn : as.length = 1) (hst : st0 = as.reverse ++ vr 5 i :: st) (hcat : (st.map cat).sum ≤ 8) (hd : decode cc pc = .ok (.invokevirtual 231, 3)) (pc' : Nat) (hp : pc + 3 = pc') (k : Z x pc' ls (vi r :: st) w') : Z x pc ls st0 w := Z_callV (m := 1) (maxL := 5) (N := 32) (T := TX5) as hC hm (by decide) rfl ⟨rfl, by decide, by decide, by decide +kernel⟩ ml_X5_231 wi_X5_isYear wse_X5_isYear wini_X5 wc_X5_isYear hM hdc (by decide) hln hn hst hcat hd pc' hp k
theorem ml_X5_237 : Cond.methodLink RX5 237 yX5_isSet ∈ ww := ww_5 95 rfl rfl
theorem K_X5_237 {x : CX} {cc : ByteArray} {n d pc : Nat} {ls : LV} {st : List AV} {w : Wd} {i dc : Nat} {st0 : List AV} {r : Int32} {w' : Wd} (as : List AV) (hC : Cx x RX5 cc n d) (hm : (5, i) ∈ gis) (hM : Sp (xG x) (xl x) yX5_isSet cw_X5_isSet dc (vr 5 i :: as) w (some (vi r)) w') (hdc : dc + 1 ≤ d) (hln : ls.length = n) (hn : as.length = 1) (hst : st0 = as.reverse ++ vr 5 i :: st) (hcat : (st.map cat).sum ≤ 8) (hd : decode cc pc = .ok (.invokevirtual 237, 3)) (pc' : Nat) (hp : pc + 3 = pc') (k : Z x pc' ls (vi r :: st) w') : Z x pc ls st0 w := Z_callV (m := 1) (maxL := 2) (N := 32) (T := TX5) as hC hm (by decide) rfl ⟨rfl, by decide, by decide, by decide +kernel⟩ ml_X5_237 wi_X5_isSet wse_X5_isSet wini_X5 wc_X5_isSet hM hdc (by decide) hln hn hst hcat hd pc' hp k
theorem ml_X5_240 : Cond.methodLink RX5 240 yX5_askedRight ∈ ww := ww_5 99 rfl rfl
theorem K_X5_240 {x : CX} {cc : ByteArray} {n d pc : Nat} {ls : LV} {st : List AV} {w : Wd} {i dc : Nat} {st0 : List AV} {r : Int32} {w' : Wd} (as : List AV) (hC : Cx x RX5 cc n d) (hm : (5, i) ∈ gis) (hM : Sp (xG x) (xl x) yX5_askedRight cw_X5_askedRight dc (vr 5 i :: as) w (some (vi r)) w') (hdc : dc + 1 ≤ d) (hln : ls.length = n) (hn : as.length = 1) (hst : st0 = as.reverse ++ vr 5 i :: st) (hcat : (st.map cat).sum ≤ 8) (hd : decode cc pc = .ok (.invokevirtual 240, 3)) (pc' : Nat) (hp : pc + 3 = pc') (k : Z x pc' ls (vi r :: st) w') : Z x pc ls st0 w := Z_callV (m := 1) (maxL := 3) (N := 32) (T := TX5) as hC hm (by decide) rfl ⟨rfl, by decide, by decide, by decide +kernel⟩ ml_X5_240 wi_X5_askedRight wse_X5_askedRight wini_X5 wc_X5_askedRight hM hdc (by decide) hln hn hst hcat hd pc' hp k
theorem ml_X5_243 : Cond.methodLink RX5 243 yX5_askedTelling ∈ ww := ww_5 91 rfl rfl
theorem K_X5_243 {x : CX} {cc : ByteArray} {n d pc : Nat} {ls : LV} {st : List AV} {w : Wd} {i dc : Nat} {st0 : List AV} {r : Int32} {w' : Wd} (as : List AV) (hC : Cx x RX5 cc n d) (hm : (5, i) ∈ gis) (hM : Sp (xG x) (xl x) yX5_askedTelling cw_X5_askedTelling dc (vr 5 i :: as) w (some (vi r)) w') (hdc : dc + 1 ≤ d) (hln : ls.length = n) (hn : as.length = 2) (hst : st0 = as.reverse ++ vr 5 i :: st) (hcat : (st.map cat).sum ≤ 8) (hd : decode cc pc = .ok (.invokevirtual 243, 3)) (pc' : Nat) (hp : pc + 3 = pc') (k : Z x pc' ls (vi r :: st) w') : Z x pc ls st0 w := Z_callV (m := 2) (maxL := 3) (N := 32) (T := TX5) as hC hm (by decide) rfl ⟨rfl, by decide, by decide, by decide +kernel⟩ ml_X5_243 wi_X5_askedTelling wse_X5_askedTelling wini_X5 wc_X5_askedTelling hM hdc (by decide) hln hn hst hcat hd pc' hp k
theorem ml_X5_246 : Cond.methodLink RX5 246 yX5_knownOf ∈ ww := ww_5 103 rfl rfl
theorem K_X5_246 {x : CX} {cc : ByteArray} {n d pc : Nat} {ls : LV} {st : List AV} {w : Wd} {i dc : Nat} {st0 : List AV} {r : Int32} {w' : Wd} (as : List AV) (hC : Cx x RX5 cc n d) (hm : (5, i) ∈ gis) (hM : Sp (xG x) (xl x) yX5_knownOf cw_X5_knownOf dc (vr 5 i :: as) w (some (vi r)) w') (hdc : dc + 1 ≤ d) (hln : ls.length = n) (hn : as.length = 2) (hst : st0 = as.reverse ++ vr 5 i :: st) (hcat : (st.map cat).sum ≤ 8) (hd : decode cc pc = .ok (.invokevirtual 246, 3)) (pc' : Nat) (hp : pc + 3 = pc') (k : Z x pc' ls (vi r :: st) w') : Z x pc ls st0 w := Z_callV (m := 2) (maxL := 9) (N := 32) (T := TX5) as hC hm (by decide) rfl ⟨rfl, by decide, by decide, by decide +kernel⟩ ml_X5_246 wi_X5_knownOf wse_X5_knownOf wini_X5 wc_X5_knownOf hM hdc (by decide) hln hn hst hcat hd pc' hp k
theorem ml_X5_249 : Cond.methodLink RX5 249 yX5_ringOf ∈ ww := ww_5 131 rfl rfl
theorem K_X5_249 {x : CX} {cc : ByteArray} {n d pc : Nat} {ls : LV} {st : List AV} {w : Wd} {i dc : Nat} {st0 : List AV} {r : Int32} {w' : Wd} (as : List AV) (hC : Cx x RX5 cc n d) (hm : (5, i) ∈ gis) (hM : Sp (xG x) (xl x) yX5_ringOf cw_X5_ringOf dc (vr 5 i :: as) w (some (vi r)) w') (hdc : dc + 1 ≤ d) (hln : ls.length = n) (hn : as.length = 1) (hst : st0 = as.reverse ++ vr 5 i :: st) (hcat : (st.map cat).sum ≤ 8) (hd : decode cc pc = .ok (.invokevirtual 249, 3)) (pc' : Nat) (hp : pc + 3 = pc') (k : Z x pc' ls (vi r :: st) w') : Z x pc ls st0 w := Z_callV (m := 1) (maxL := 4) (N := 32) (T := TX5) as hC hm (by decide) rfl ⟨rfl, by decide, by decide, by decide +kernel⟩ ml_X5_249 wi_X5_ringOf wse_X5_ringOf wini_X5 wc_X5_ringOf hM hdc (by decide) hln hn hst hcat hd pc' hp k
theorem ml_X5_252 : Cond.methodLink RX5 252 yX5_lookAt ∈ ww := ww_5 139 rfl rfl
theorem K_X5_252 {x : CX} {cc : ByteArray} {n d pc : Nat} {ls : LV} {st : List AV} {w : Wd} {i dc : Nat} {st0 : List AV} {w' : Wd} (as : List AV) (hC : Cx x RX5 cc n d) (hm : (5, i) ∈ gis) (hM : Sp (xG x) (xl x) yX5_lookAt cw_X5_lookAt dc (vr 5 i :: as) w none w') (hdc : dc + 1 ≤ d) (hln : ls.length = n) (hn : as.length = 1) (hst : st0 = as.reverse ++ vr 5 i :: st) (hcat : (st.map cat).sum ≤ 8) (hd : decode cc pc = .ok (.invokevirtual 252, 3)) (pc' : Nat) (hp : pc + 3 = pc') (k : Z x pc' ls st w') : Z x pc ls st0 w := Z_callV (m := 1) (maxL := 3) (N := 32) (T := TX5) as hC hm (by decide) rfl ⟨rfl, by decide, by decide, by decide +kernel⟩ ml_X5_252 wi_X5_lookAt wse_X5_lookAt wini_X5 wc_X5_lookAt hM hdc (by decide) hln hn hst hcat hd pc' hp k
theorem ml_X5_255 : Cond.methodLink RX5 255 yX5_tells ∈ ww := ww_5 167 rfl rfl
theorem K_X5_255 {x : CX} {cc : ByteArray} {n d pc : Nat} {ls : LV} {st : List AV} {w : Wd} {i dc : Nat} {st0 : List AV} {r : Int32} {w' : Wd} (as : List AV) (hC : Cx x RX5 cc n d) (hm : (5, i) ∈ gis) (hM : Sp (xG x) (xl x) yX5_tells cw_X5_tells dc (vr 5 i :: as) w (some (vi r)) w') (hdc : dc + 1 ≤ d) (hln : ls.length = n) (hn : as.length = 1) (hst : st0 = as.reverse ++ vr 5 i :: st) (hcat : (st.map cat).sum ≤ 8) (hd : decode cc pc = .ok (.invokevirtual 255, 3)) (pc' : Nat) (hp : pc + 3 = pc') (k : Z x pc' ls (vi r :: st) w') : Z x pc ls st0 w := Z_callV (m := 1) (maxL := 4) (N := 32) (T := TX5) as hC hm (by decide) rfl ⟨rfl, by decide, by decide, by decide +kernel⟩ ml_X5_255 wi_X5_tells wse_X5_tells wini_X5 wc_X5_tells hM hdc (by decide) hln hn hst hcat hd pc' hp k
theorem ml_X5_263 : Cond.methodLink RX5 263 yX5_mix ∈ ww := ww_5 184 rfl rfl
theorem K_X5_263 {x : CX} {cc : ByteArray} {n d pc : Nat} {ls : LV} {st : List AV} {w : Wd} {i dc : Nat} {st0 : List AV} {w' : Wd} (as : List AV) (hC : Cx x RX5 cc n d) (hm : (5, i) ∈ gis) (hM : Sp (xG x) (xl x) yX5_mix cw_X5_mix dc (vr 5 i :: as) w none w') (hdc : dc + 1 ≤ d) (hln : ls.length = n) (hn : as.length = 1) (hst : st0 = as.reverse ++ vr 5 i :: st) (hcat : (st.map cat).sum ≤ 8) (hd : decode cc pc = .ok (.invokevirtual 263, 3)) (pc' : Nat) (hp : pc + 3 = pc') (k : Z x pc' ls st w') : Z x pc ls st0 w := Z_callV (m := 1) (maxL := 2) (N := 32) (T := TX5) as hC hm (by decide) rfl ⟨rfl, by decide, by decide, by decide +kernel⟩ ml_X5_263 wi_X5_mix wse_X5_mix wini_X5 wc_X5_mix hM hdc (by decide) hln hn hst hcat hd pc' hp k
theorem ml_X5_268 : Cond.methodLink RX5 268 yX5_mixOffice ∈ ww := ww_5 189 rfl rfl
theorem K_X5_268 {x : CX} {cc : ByteArray} {n d pc : Nat} {ls : LV} {st : List AV} {w : Wd} {i dc : Nat} {st0 : List AV} {w' : Wd} (as : List AV) (hC : Cx x RX5 cc n d) (hm : (5, i) ∈ gis) (hM : Sp (xG x) (xl x) yX5_mixOffice cw_X5_mixOffice dc (vr 5 i :: as) w none w') (hdc : dc + 1 ≤ d) (hln : ls.length = n) (hn : as.length = 0) (hst : st0 = as.reverse ++ vr 5 i :: st) (hcat : (st.map cat).sum ≤ 8) (hd : decode cc pc = .ok (.invokevirtual 268, 3)) (pc' : Nat) (hp : pc + 3 = pc') (k : Z x pc' ls st w') : Z x pc ls st0 w := Z_callV (m := 0) (maxL := 3) (N := 32) (T := TX5) as hC hm (by decide) rfl ⟨rfl, by decide, by decide, by decide +kernel⟩ ml_X5_268 wi_X5_mixOffice wse_X5_mixOffice wini_X5 wc_X5_mixOffice hM hdc (by decide) hln hn hst hcat hd pc' hp k
theorem wac_native : Cond.native arraycopyName ∈ ww := ww_1 221 rfl rfl
theorem wac_static : Cond.static arraycopyName ∈ ww := ww_1 220 rfl rfl
end
section
theorem it_t {α : Type} {P : Prop} [Decidable P] {a b : Option α} {y : α} (h : (if P then a else b) = some y) (c : P) : a = some y := by rw [if_pos c] at h; exact h
theorem it_f {α : Type} {P : Prop} [Decidable P] {a b : Option α} {y : α} (h : (if P then a else b) = some y) (c : ¬ P) : b = some y := by rw [if_neg c] at h; exact h
def wk (m : List Bool) (ls : LV) : LV := (List.range ls.length).map (fun i => if m.getD i false then ls.getD i none else none)
theorem Z_wk {x : CX} {pc : Nat} {ls : LV} {st : List AV} {w : Wd} (m : List Bool) (ls' : LV) (h : wk m ls = ls') (k : Z x pc ls' st w) : Z x pc ls st w := fun H locs la hl hP hS => by
  subst h
  refine k H locs la ⟨by rw [hl.1]; unfold wk; rw [List.length_map, List.length_range], hl.2.1, fun i v hv => ?_⟩ hP hS
  unfold wk at hv
  rw [List.getElem?_map] at hv
  cases hr : (List.range ls.length)[i]? with
  | none => rw [hr] at hv; cases hv
  | some j =>
    obtain ⟨hlt, e⟩ := List.getElem?_eq_some_iff.mp hr
    rw [List.getElem_range] at e
    subst e
    rw [hr] at hv
    have hv : (if m.getD i false = true then ls.getD i none else none) = some v := Option.some.inj hv
    by_cases hm : m.getD i false = true
    · rw [if_pos hm] at hv
      apply hl.2.2
      rw [List.getD_eq_getElem?_getD] at hv
      cases hq : ls[i]? with
      | none => rw [hq] at hv; cases hv
      | some o => rw [hq] at hv; rw [← hv]; rfl
    · rw [if_neg hm] at hv; cases hv
theorem Z_swIn {x : CX} {own : String} {cc : ByteArray} {n d pc : Nat} {ls : LV} {st : List AV} {w : Wd} {dflt lo hi m off : Int} {offs : Array Int} {len : Nat} {v : Int32} (hC : Cx x own cc n d) (hd : decode cc pc = .ok (.tableswitch dflt lo hi offs, len)) (hv : v.toInt = m) (h1 : ¬ m < lo) (h2 : ¬ hi < m) (ho : offs[(m - lo).toNat]? = some off) (tgt : Nat) (ht : (pc : Int) + off = (tgt : Int)) (k : Z x tgt ls st w) : Z x pc ls (vi v :: st) w := fun H locs la hl hP hS => by
  subst hv
  exact lv_tableIn hC.1 hC.2.1 hd h1 h2 ho ht (k H locs la hl hP hS)
theorem Z_swOut {x : CX} {own : String} {cc : ByteArray} {n d pc : Nat} {ls : LV} {st : List AV} {w : Wd} {dflt lo hi : Int} {offs : Array Int} {len : Nat} {v : Int32} (hC : Cx x own cc n d) (hd : decode cc pc = .ok (.tableswitch dflt lo hi offs, len)) (tgt : Nat) (ht : (pc : Int) + dflt = (tgt : Int)) (h : v.toInt < lo ∨ hi < v.toInt) (k : Z x tgt ls st w) : Z x pc ls (vi v :: st) w := fun H locs la hl hP hS => lv_tableOut hC.1 hC.2.1 hd h ht (k H locs la hl hP hS)
theorem ne_toInt {x v : Int32} {m : Int} (hv : v.toInt = m) (h : ¬ x = v) : ¬ x.toInt = m := fun e => h (Int32.toInt_inj.mp (e.trans hv.symm))
theorem nz {v : Int32} (h : v = 0 ∨ v = 1) : narrow .boolean (.int v) = .int v := by rcases h with h | h <;> rw [h] <;> rfl
theorem mm_1 (g : Nat) (h : (g, 0) ∈ gis) {i : Nat} (hi : i < 1) : (g, i) ∈ gis := by
  rw [show i = 0 by omega]; exact h
theorem mm_2 (g : Nat) (h0 : (g, 0) ∈ gis) (h1 : (g, 1) ∈ gis) {i : Nat} (hi : i < 2) : (g, i) ∈ gis := by
  rcases (show i = 0 ∨ i = 1 by omega) with rfl | rfl
  · exact h0
  · exact h1
theorem m_11 {i : Nat} (hi : i < 6) : (11, i) ∈ gis := by
  rcases (show i = 0 ∨ i = 1 ∨ i = 2 ∨ i = 3 ∨ i = 4 ∨ i = 5 by omega) with rfl | rfl | rfl | rfl | rfl | rfl <;> decide +kernel
theorem m_14 {i : Nat} (hi : i < 4) : (14, i) ∈ gis := by
  rcases (show i = 0 ∨ i = 1 ∨ i = 2 ∨ i = 3 by omega) with rfl | rfl | rfl | rfl <;> decide +kernel
theorem vp_lt {j : Int32} {n : Nat} (h : vp_in j n) : j.toNatClampNeg < n := Nat.not_le.mp fun q => h (Or.inr q)
theorem m_3 {i : Nat} (hi : i < 2) : (3, i) ∈ gis := mm_2 3 (by decide +kernel) (by decide +kernel) hi
theorem m_4 {i : Nat} (hi : i < 2) : (4, i) ∈ gis := mm_2 4 (by decide +kernel) (by decide +kernel) hi
theorem m_16 {i : Nat} (hi : i < 2) : (16, i) ∈ gis := mm_2 16 (by decide +kernel) (by decide +kernel) hi
theorem m_17 {i : Nat} (hi : i < 2) : (17, i) ∈ gis := mm_2 17 (by decide +kernel) (by decide +kernel) hi
theorem m_18 {i : Nat} (hi : i < 2) : (18, i) ∈ gis := mm_2 18 (by decide +kernel) (by decide +kernel) hi
theorem m_19 {i : Nat} (hi : i < 2) : (19, i) ∈ gis := mm_2 19 (by decide +kernel) (by decide +kernel) hi
theorem m_20 {i : Nat} (hi : i < 2) : (20, i) ∈ gis := mm_2 20 (by decide +kernel) (by decide +kernel) hi
theorem m_21 {i : Nat} (hi : i < 2) : (21, i) ∈ gis := mm_2 21 (by decide +kernel) (by decide +kernel) hi
theorem m_0 : (0, 0) ∈ gis := by decide +kernel
theorem m_1 : (1, 0) ∈ gis := by decide +kernel
theorem m_2 : (2, 0) ∈ gis := by decide +kernel
theorem m_5 : (5, 0) ∈ gis := by decide +kernel
theorem m_10 : (10, 0) ∈ gis := by decide +kernel
theorem m_12 : (12, 0) ∈ gis := by decide +kernel
theorem m_13 : (13, 0) ∈ gis := by decide +kernel
theorem m_15 : (15, 0) ∈ gis := by decide +kernel
theorem m_22 : (22, 0) ∈ gis := by decide +kernel
theorem m_23 : (23, 0) ∈ gis := by decide +kernel
theorem m_24 : (24, 0) ∈ gis := by decide +kernel
theorem m_25 : (25, 0) ∈ gis := by decide +kernel
theorem m_30 : (30, 0) ∈ gis := by decide +kernel
theorem m_31 : (31, 0) ∈ gis := by decide +kernel
theorem m_32 : (32, 0) ∈ gis := by decide +kernel
theorem m_33 : (33, 0) ∈ gis := by decide +kernel
theorem m_34 : (34, 0) ∈ gis := by decide +kernel
theorem m_35 : (35, 0) ∈ gis := by decide +kernel
theorem m_36 : (36, 0) ∈ gis := by decide +kernel
theorem m_37 : (37, 0) ∈ gis := by decide +kernel
theorem m_38 : (38, 0) ∈ gis := by decide +kernel
theorem m_39 : (39, 0) ∈ gis := by decide +kernel
theorem m_40 : (40, 0) ∈ gis := by decide +kernel
theorem m_41 : (41, 0) ∈ gis := by decide +kernel
theorem m_42 : (42, 0) ∈ gis := by decide +kernel
theorem m_43 : (43, 0) ∈ gis := by decide +kernel
theorem m_44 : (44, 0) ∈ gis := by decide +kernel
end
section
def t_X4_kindOf : List (Nat × Instr × Nat) := [(0, .iconst 0, 1), (1, .istore_n 1, 1), (2, .iload_n 1, 1), (3, .getstatic 327, 3), (6, .arraylength, 1), (7, .if_icmp .ge 20, 3), (10, .getstatic 327, 3), (13, .iload_n 1, 1), (14, .iaload, 1), (15, .iload_n 0, 1), (16, .if_icmp .ne 5, 3), (19, .iload_n 1, 1), (20, .ireturn, 1), (21, .iinc 1 1, 3), (24, .goto (-22), 3), (27, .bipush (-9), 2), (29, .ireturn, 1)]
set_option maxRecDepth 20000 in
theorem d_X4_kindOf : ∀ q ∈ t_X4_kindOf, decode cX4_kindOf q.1 = .ok q.2 := by decide +kernel
noncomputable def X4_kindOf_L1 (N : Nat) (x0 : Int32) : Nat → Int32 → Wd → Option ((Int32 × Wd) ⊕ (Wd))
  | 0, _, _ => none
  | n + 1, x1, w =>
  if (6 : Int32) ≤ x1 then
    some (.inr w)
  else
    gd (vp_in x1 6) (
    if (letN x1.toNatClampNeg) = x0 then
      some (.inl (x1, w))
    else
      X4_kindOf_L1 N x0 n (x1 + (1 : Int32)) w)
set_option maxRecDepth 20000 in
set_option maxHeartbeats 4000000 in
theorem z_X4_kindOf_L1 {x : CX} (hC : Cx x RX4 cX4_kindOf 2 0) (hr : (xM x).sig.returnType = (some .int)) (N : Nat) (x0 : Int32) : ∀ (n : Nat) (x1 : Int32) (w : Wd) (q : ((Int32 × Wd) ⊕ (Wd))), X4_kindOf_L1 N x0 n x1 w = some q → (∀ r : Int32 × Wd, q = .inl r → Rt x (some (vi r.1)) r.2) → (∀ o : Wd, q = .inr o → Z x 27 [none, none] [] o) → Z x 2 [some (vi x0), some (vi x1)] [] w := by
  intro n
  induction n with
  | zero =>
    intro x1 w q h
    cases h
  | succ n ih =>
    intro x1 w q h kr ke
    rw [X4_kindOf_L1] at h
    refine Z_iload_n hC (dk d_X4_kindOf 2 rfl) 3 rfl rfl rfl ?_
    refine Z_getLet hC fk_X4_327 (dk d_X4_kindOf 3 rfl) 6 rfl ?_
    refine Z_lenLet hC (dk d_X4_kindOf 4 rfl) 7 rfl ?_
    refine Z_icmp_ge hC (dk d_X4_kindOf 5 rfl) 10 27 rfl (by decide) (fun c => ?_) (fun c => ?_)
    · have h := it_t h c
      obtain rfl := Option.some.inj h
      refine Z_wk [false, false] [none, none] rfl ?_
      exact ke _ rfl
    · have h := it_f h c
      refine Z_getLet hC fk_X4_327 (dk d_X4_kindOf 6 rfl) 13 rfl ?_
      refine Z_iload_n hC (dk d_X4_kindOf 7 rfl) 14 rfl rfl rfl ?_
      obtain ⟨g1, h⟩ := gd_some h
      refine Z_ldLet hC g1 (dk d_X4_kindOf 8 rfl) 15 rfl ?_
      refine Z_iload_n hC (dk d_X4_kindOf 9 rfl) 16 rfl rfl rfl ?_
      refine Z_icmp_ne hC (dk d_X4_kindOf 10 rfl) 19 21 rfl (by decide) (fun c => ?_) (fun c => ?_)
      · have h := it_f h c
        refine Z_iinc hC (dk d_X4_kindOf 13 rfl) 24 rfl rfl rfl [some (vi x0), some (vi (x1 + (1 : Int32)))] rfl ?_
        refine Z_goto hC (dk d_X4_kindOf 14 rfl) 2 (by decide) ?_
        refine Z_wk [true, true] [some (vi x0), some (vi (x1 + (1 : Int32)))] rfl ?_
        exact ih (x1 + (1 : Int32)) w _ h kr ke
      · have h := it_t h c
        refine Z_iload_n hC (dk d_X4_kindOf 11 rfl) 20 rfl rfl rfl ?_
        obtain rfl := Option.some.inj h
        exact Z_ireturn (st := []) hC hr (kr _ rfl) (dk d_X4_kindOf 12 rfl)
noncomputable def f_X4_kindOf (N : Nat) (a1 : Int32) (w : Wd) : Option (Int32 × Wd) :=
  (X4_kindOf_L1 N a1 N (0 : Int32) w).bind (Sum.elim some (fun q2 =>
    some ((-9 : Int32), q2)))
set_option maxRecDepth 20000 in
set_option maxHeartbeats 4000000 in
theorem s_X4_kindOf (G : GT) (l : Launch) (N : Nat) (a1 : Int32) (w : Wd) (q : Int32 × Wd) (h : f_X4_kindOf N a1 w = some q) : Sp G l yX4_kindOf cw_X4_kindOf 0 [vi a1] w (some (vi q.1)) q.2 := by
  refine Sp_of (own := RX4) [some (vi a1), none] (by decide) rfl rfl (Nat.le_of_ble_eq_true rfl) ?_
  intro x hG hl hC hr hQ _ _
  subst hG
  subst hl
  unfold f_X4_kindOf at h
  refine Z_iconst (v := 0) hC (dk d_X4_kindOf 0 rfl) 1 rfl (by decide) ?_
  refine Z_istore_n hC (dk d_X4_kindOf 1 rfl) 2 rfl rfl (Nat.le_of_ble_eq_true rfl) [some (vi a1), some (vi (0 : Int32))] rfl ?_
  obtain ⟨q2, hq2, h⟩ := bd_some h
  refine Z_wk [true, true] [some (vi a1), some (vi (0 : Int32))] rfl ?_
  refine z_X4_kindOf_L1 hC hr N a1 N (0 : Int32) w q2 hq2 (fun r e => ?_) (fun o e => ?_)
  · subst e
    obtain rfl := Option.some.inj h
    exact hQ
  · subst e
    obtain ⟨q2, rfl⟩ : ∃ z, z = o := ⟨_, rfl⟩
    refine Z_bipush (v := -9) hC (dk d_X4_kindOf 15 rfl) 29 rfl (by decide) ?_
    obtain rfl := Option.some.inj h
    exact Z_ireturn (st := []) hC hr hQ (dk d_X4_kindOf 16 rfl)
def t_X0_settle : List (Nat × Instr × Nat) := [(0, .aload_n 0, 1), (1, .iconst 0, 1), (2, .putfield 28, 3), (5, .aload_n 0, 1), (6, .iconst 0, 1), (7, .putfield 31, 3), (10, .iconst 0, 1), (11, .istore_n 3, 1), (12, .iload_n 3, 1), (13, .iconst 2, 1), (14, .iadd, 1), (15, .iload_n 2, 1), (16, .if_icmp .ge 91, 3), (19, .aload_n 0, 1), (20, .getfield 28, 3), (23, .bipush 6, 2), (25, .if_icmp .ge 82, 3), (28, .aload_n 1, 1), (29, .iload_n 3, 1), (30, .baload, 1), (31, .bipush 32, 2), (33, .if_icmp .ne 9, 3), (36, .iinc 3 1, 3), (39, .goto (-27), 3), (42, .aload_n 0, 1), (43, .getfield 9, 3), (46, .aload_n 0, 1), (47, .getfield 28, 3), (50, .aload_n 1, 1), (51, .iload_n 3, 1), (52, .baload, 1), (53, .invokestatic 34, 3), (56, .iastore, 1), (57, .aload_n 0, 1), (58, .getfield 15, 3), (61, .aload_n 0, 1), (62, .getfield 28, 3), (65, .aload_n 1, 1), (66, .iload_n 3, 1), (67, .iconst 1, 1), (68, .iadd, 1), (69, .baload, 1), (70, .bipush 48, 2), (72, .isub, 1), (73, .iastore, 1), (74, .aload_n 0, 1), (75, .getfield 18, 3), (78, .aload_n 0, 1), (79, .getfield 28, 3), (82, .aload_n 1, 1), (83, .iload_n 3, 1), (84, .iconst 2, 1), (85, .iadd, 1), (86, .baload, 1), (87, .bipush 48, 2), (89, .isub, 1), (90, .iastore, 1), (91, .aload_n 0, 1), (92, .dup, 1), (93, .getfield 28, 3), (96, .iconst 1, 1), (97, .iadd, 1), (98, .putfield 28, 3), (101, .iinc 3 3, 3), (104, .goto (-92), 3), (107, .return_, 1)]
set_option maxRecDepth 20000 in
theorem d_X0_settle : ∀ q ∈ t_X0_settle, decode cX0_settle q.1 = .ok q.2 := by decide +kernel
noncomputable def X0_settle_L1 (N : Nat) (i : Nat) (t : Nat) (x2 : Int32) : Nat → Int32 → Wd → Option (Wd)
  | 0, _, _ => none
  | n + 1, x3, w =>
  if x2 ≤ (x3 + (2 : Int32)) then
    some w
  else
    if (6 : Int32) ≤ (gI w 4 i) then
      some w
    else
      gd (vp_in x3 60) (
      if (gA w 14 t x3.toNatClampNeg) = (32 : Int32) then
        X0_settle_L1 N i t x2 n (x3 + (1 : Int32)) w
      else
        gd (vp_in x3 60) (
        (f_X4_kindOf N (gA w 14 t x3.toNatClampNeg) w).bind (fun q3 =>
          gd (vp_in (gI w 4 i) 6) (
          gd (vp_in (x3 + (1 : Int32)) 60) (
          gd (vp_in (gI (sA q3.2 16 i (upd (gA q3.2 16 i) (gI w 4 i).toNatClampNeg q3.1)) 4 i) 6) (
          gd (vp_in (x3 + (2 : Int32)) 60) (
          gd (vp_in (gI (sA (sA q3.2 16 i (upd (gA q3.2 16 i) (gI w 4 i).toNatClampNeg q3.1)) 17 i (upd (gA (sA q3.2 16 i (upd (gA q3.2 16 i) (gI w 4 i).toNatClampNeg q3.1)) 17 i) (gI (sA q3.2 16 i (upd (gA q3.2 16 i) (gI w 4 i).toNatClampNeg q3.1)) 4 i).toNatClampNeg ((gA (sA q3.2 16 i (upd (gA q3.2 16 i) (gI w 4 i).toNatClampNeg q3.1)) 14 t (x3 + (1 : Int32)).toNatClampNeg) - (48 : Int32)))) 4 i) 6) (
          X0_settle_L1 N i t x2 n (x3 + (3 : Int32)) (sI (sA (sA (sA q3.2 16 i (upd (gA q3.2 16 i) (gI w 4 i).toNatClampNeg q3.1)) 17 i (upd (gA (sA q3.2 16 i (upd (gA q3.2 16 i) (gI w 4 i).toNatClampNeg q3.1)) 17 i) (gI (sA q3.2 16 i (upd (gA q3.2 16 i) (gI w 4 i).toNatClampNeg q3.1)) 4 i).toNatClampNeg ((gA (sA q3.2 16 i (upd (gA q3.2 16 i) (gI w 4 i).toNatClampNeg q3.1)) 14 t (x3 + (1 : Int32)).toNatClampNeg) - (48 : Int32)))) 18 i (upd (gA (sA (sA q3.2 16 i (upd (gA q3.2 16 i) (gI w 4 i).toNatClampNeg q3.1)) 17 i (upd (gA (sA q3.2 16 i (upd (gA q3.2 16 i) (gI w 4 i).toNatClampNeg q3.1)) 17 i) (gI (sA q3.2 16 i (upd (gA q3.2 16 i) (gI w 4 i).toNatClampNeg q3.1)) 4 i).toNatClampNeg ((gA (sA q3.2 16 i (upd (gA q3.2 16 i) (gI w 4 i).toNatClampNeg q3.1)) 14 t (x3 + (1 : Int32)).toNatClampNeg) - (48 : Int32)))) 18 i) (gI (sA (sA q3.2 16 i (upd (gA q3.2 16 i) (gI w 4 i).toNatClampNeg q3.1)) 17 i (upd (gA (sA q3.2 16 i (upd (gA q3.2 16 i) (gI w 4 i).toNatClampNeg q3.1)) 17 i) (gI (sA q3.2 16 i (upd (gA q3.2 16 i) (gI w 4 i).toNatClampNeg q3.1)) 4 i).toNatClampNeg ((gA (sA q3.2 16 i (upd (gA q3.2 16 i) (gI w 4 i).toNatClampNeg q3.1)) 14 t (x3 + (1 : Int32)).toNatClampNeg) - (48 : Int32)))) 4 i).toNatClampNeg ((gA (sA (sA q3.2 16 i (upd (gA q3.2 16 i) (gI w 4 i).toNatClampNeg q3.1)) 17 i (upd (gA (sA q3.2 16 i (upd (gA q3.2 16 i) (gI w 4 i).toNatClampNeg q3.1)) 17 i) (gI (sA q3.2 16 i (upd (gA q3.2 16 i) (gI w 4 i).toNatClampNeg q3.1)) 4 i).toNatClampNeg ((gA (sA q3.2 16 i (upd (gA q3.2 16 i) (gI w 4 i).toNatClampNeg q3.1)) 14 t (x3 + (1 : Int32)).toNatClampNeg) - (48 : Int32)))) 14 t (x3 + (2 : Int32)).toNatClampNeg) - (48 : Int32)))) 4 i ((gI (sA (sA (sA q3.2 16 i (upd (gA q3.2 16 i) (gI w 4 i).toNatClampNeg q3.1)) 17 i (upd (gA (sA q3.2 16 i (upd (gA q3.2 16 i) (gI w 4 i).toNatClampNeg q3.1)) 17 i) (gI (sA q3.2 16 i (upd (gA q3.2 16 i) (gI w 4 i).toNatClampNeg q3.1)) 4 i).toNatClampNeg ((gA (sA q3.2 16 i (upd (gA q3.2 16 i) (gI w 4 i).toNatClampNeg q3.1)) 14 t (x3 + (1 : Int32)).toNatClampNeg) - (48 : Int32)))) 18 i (upd (gA (sA (sA q3.2 16 i (upd (gA q3.2 16 i) (gI w 4 i).toNatClampNeg q3.1)) 17 i (upd (gA (sA q3.2 16 i (upd (gA q3.2 16 i) (gI w 4 i).toNatClampNeg q3.1)) 17 i) (gI (sA q3.2 16 i (upd (gA q3.2 16 i) (gI w 4 i).toNatClampNeg q3.1)) 4 i).toNatClampNeg ((gA (sA q3.2 16 i (upd (gA q3.2 16 i) (gI w 4 i).toNatClampNeg q3.1)) 14 t (x3 + (1 : Int32)).toNatClampNeg) - (48 : Int32)))) 18 i) (gI (sA (sA q3.2 16 i (upd (gA q3.2 16 i) (gI w 4 i).toNatClampNeg q3.1)) 17 i (upd (gA (sA q3.2 16 i (upd (gA q3.2 16 i) (gI w 4 i).toNatClampNeg q3.1)) 17 i) (gI (sA q3.2 16 i (upd (gA q3.2 16 i) (gI w 4 i).toNatClampNeg q3.1)) 4 i).toNatClampNeg ((gA (sA q3.2 16 i (upd (gA q3.2 16 i) (gI w 4 i).toNatClampNeg q3.1)) 14 t (x3 + (1 : Int32)).toNatClampNeg) - (48 : Int32)))) 4 i).toNatClampNeg ((gA (sA (sA q3.2 16 i (upd (gA q3.2 16 i) (gI w 4 i).toNatClampNeg q3.1)) 17 i (upd (gA (sA q3.2 16 i (upd (gA q3.2 16 i) (gI w 4 i).toNatClampNeg q3.1)) 17 i) (gI (sA q3.2 16 i (upd (gA q3.2 16 i) (gI w 4 i).toNatClampNeg q3.1)) 4 i).toNatClampNeg ((gA (sA q3.2 16 i (upd (gA q3.2 16 i) (gI w 4 i).toNatClampNeg q3.1)) 14 t (x3 + (1 : Int32)).toNatClampNeg) - (48 : Int32)))) 14 t (x3 + (2 : Int32)).toNatClampNeg) - (48 : Int32)))) 4 i) + (1 : Int32)))))))))))
set_option maxRecDepth 20000 in
set_option maxHeartbeats 4000000 in
theorem z_X0_settle_L1 {x : CX} (hC : Cx x RX0 cX0_settle 4 1) (hr : (xM x).sig.returnType = none) (N : Nat) (i : Nat) (t : Nat) (hi : i < 2) (ht : t < 4) (x2 : Int32) : ∀ (n : Nat) (x3 : Int32) (w : Wd) (q : (Wd)), X0_settle_L1 N i t x2 n x3 w = some q → Z x 107 [none, none, none, none] [] q → Z x 12 [some (vr 3 i), some (vr 14 t), some (vi x2), some (vi x3)] [] w := by
  intro n
  induction n with
  | zero =>
    intro x3 w q h
    cases h
  | succ n ih =>
    intro x3 w q h ke
    rw [X0_settle_L1] at h
    refine Z_iload_n hC (dk d_X0_settle 8 rfl) 13 rfl rfl rfl ?_
    refine Z_iconst (v := 2) hC (dk d_X0_settle 9 rfl) 14 rfl (by decide) ?_
    refine Z_iadd hC (dk d_X0_settle 10 rfl) 15 rfl ?_
    refine Z_iload_n hC (dk d_X0_settle 11 rfl) 16 rfl rfl rfl ?_
    refine Z_icmp_ge hC (dk d_X0_settle 12 rfl) 19 107 rfl (by decide) (fun c => ?_) (fun c => ?_)
    · have h := it_t h c
      obtain rfl := Option.some.inj h
      refine Z_wk [false, false, false, false] [none, none, none, none] rfl ?_
      exact ke
    · have h := it_f h c
      refine Z_aload_n hC (dk d_X0_settle 13 rfl) 20 rfl rfl rfl ?_
      refine G_X0_28 hC (m_3 hi) (dk d_X0_settle 14 rfl) 23 rfl ?_
      refine Z_bipush (v := 6) hC (dk d_X0_settle 15 rfl) 25 rfl (by decide) ?_
      refine Z_icmp_ge hC (dk d_X0_settle 16 rfl) 28 107 rfl (by decide) (fun c => ?_) (fun c => ?_)
      · have h := it_t h c
        obtain rfl := Option.some.inj h
        refine Z_wk [false, false, false, false] [none, none, none, none] rfl ?_
        exact ke
      · have h := it_f h c
        refine Z_aload_n hC (dk d_X0_settle 17 rfl) 29 rfl rfl rfl ?_
        refine Z_iload_n hC (dk d_X0_settle 18 rfl) 30 rfl rfl rfl ?_
        obtain ⟨g1, h⟩ := gd_some h
        refine Z_baload hC (m_14 ht) (by decide) rfl g1 (dk d_X0_settle 19 rfl) 31 rfl ?_
        refine Z_bipush (v := 32) hC (dk d_X0_settle 20 rfl) 33 rfl (by decide) ?_
        refine Z_icmp_ne hC (dk d_X0_settle 21 rfl) 36 42 rfl (by decide) (fun c => ?_) (fun c => ?_)
        · have h := it_f h c
          refine Z_aload_n hC (dk d_X0_settle 24 rfl) 43 rfl rfl rfl ?_
          refine G_X0_9 hC (m_3 hi) (dk d_X0_settle 25 rfl) 46 rfl ?_
          refine Z_aload_n hC (dk d_X0_settle 26 rfl) 47 rfl rfl rfl ?_
          refine G_X0_28 hC (m_3 hi) (dk d_X0_settle 27 rfl) 50 rfl ?_
          refine Z_aload_n hC (dk d_X0_settle 28 rfl) 51 rfl rfl rfl ?_
          refine Z_iload_n hC (dk d_X0_settle 29 rfl) 52 rfl rfl rfl ?_
          obtain ⟨g2, h⟩ := gd_some h
          refine Z_baload hC (m_14 ht) (by decide) rfl g2 (dk d_X0_settle 30 rfl) 53 rfl ?_
          obtain ⟨q3, hq3, h⟩ := bd_some h
          refine K_X0_34 [vi (gA w 14 t x3.toNatClampNeg)] hC (s_X4_kindOf (xG x) (xl x) N (gA w 14 t x3.toNatClampNeg) w q3 hq3) (Nat.le_of_ble_eq_true rfl) rfl rfl rfl (Nat.le_of_ble_eq_true rfl) (dk d_X0_settle 31 rfl) 56 rfl ?_
          obtain ⟨g4, h⟩ := gd_some h
          refine Z_iastore hC (m_16 hi) (by decide) rfl g4 (dk d_X0_settle 32 rfl) 57 rfl ?_
          refine Z_aload_n hC (dk d_X0_settle 33 rfl) 58 rfl rfl rfl ?_
          refine G_X0_15 hC (m_3 hi) (dk d_X0_settle 34 rfl) 61 rfl ?_
          refine Z_aload_n hC (dk d_X0_settle 35 rfl) 62 rfl rfl rfl ?_
          refine G_X0_28 hC (m_3 hi) (dk d_X0_settle 36 rfl) 65 rfl ?_
          refine Z_aload_n hC (dk d_X0_settle 37 rfl) 66 rfl rfl rfl ?_
          refine Z_iload_n hC (dk d_X0_settle 38 rfl) 67 rfl rfl rfl ?_
          refine Z_iconst (v := 1) hC (dk d_X0_settle 39 rfl) 68 rfl (by decide) ?_
          refine Z_iadd hC (dk d_X0_settle 40 rfl) 69 rfl ?_
          obtain ⟨g5, h⟩ := gd_some h
          refine Z_baload hC (m_14 ht) (by decide) rfl g5 (dk d_X0_settle 41 rfl) 70 rfl ?_
          refine Z_bipush (v := 48) hC (dk d_X0_settle 42 rfl) 72 rfl (by decide) ?_
          refine Z_isub hC (dk d_X0_settle 43 rfl) 73 rfl ?_
          obtain ⟨g6, h⟩ := gd_some h
          refine Z_iastore hC (m_17 hi) (by decide) rfl g6 (dk d_X0_settle 44 rfl) 74 rfl ?_
          refine Z_aload_n hC (dk d_X0_settle 45 rfl) 75 rfl rfl rfl ?_
          refine G_X0_18 hC (m_3 hi) (dk d_X0_settle 46 rfl) 78 rfl ?_
          refine Z_aload_n hC (dk d_X0_settle 47 rfl) 79 rfl rfl rfl ?_
          refine G_X0_28 hC (m_3 hi) (dk d_X0_settle 48 rfl) 82 rfl ?_
          refine Z_aload_n hC (dk d_X0_settle 49 rfl) 83 rfl rfl rfl ?_
          refine Z_iload_n hC (dk d_X0_settle 50 rfl) 84 rfl rfl rfl ?_
          refine Z_iconst (v := 2) hC (dk d_X0_settle 51 rfl) 85 rfl (by decide) ?_
          refine Z_iadd hC (dk d_X0_settle 52 rfl) 86 rfl ?_
          obtain ⟨g7, h⟩ := gd_some h
          refine Z_baload hC (m_14 ht) (by decide) rfl g7 (dk d_X0_settle 53 rfl) 87 rfl ?_
          refine Z_bipush (v := 48) hC (dk d_X0_settle 54 rfl) 89 rfl (by decide) ?_
          refine Z_isub hC (dk d_X0_settle 55 rfl) 90 rfl ?_
          obtain ⟨g8, h⟩ := gd_some h
          refine Z_iastore hC (m_18 hi) (by decide) rfl g8 (dk d_X0_settle 56 rfl) 91 rfl ?_
          refine Z_aload_n hC (dk d_X0_settle 57 rfl) 92 rfl rfl rfl ?_
          refine Z_dup hC (dk d_X0_settle 58 rfl) 93 rfl rfl ?_
          refine G_X0_28 hC (m_3 hi) (dk d_X0_settle 59 rfl) 96 rfl ?_
          refine Z_iconst (v := 1) hC (dk d_X0_settle 60 rfl) 97 rfl (by decide) ?_
          refine Z_iadd hC (dk d_X0_settle 61 rfl) 98 rfl ?_
          refine P_X0_28 hC (m_3 hi) (dk d_X0_settle 62 rfl) 101 rfl ?_
          refine Z_iinc hC (dk d_X0_settle 63 rfl) 104 rfl rfl rfl [some (vr 3 i), some (vr 14 t), some (vi x2), some (vi (x3 + (3 : Int32)))] rfl ?_
          refine Z_goto hC (dk d_X0_settle 64 rfl) 12 (by decide) ?_
          refine Z_wk [true, true, true, true] [some (vr 3 i), some (vr 14 t), some (vi x2), some (vi (x3 + (3 : Int32)))] rfl ?_
          exact ih (x3 + (3 : Int32)) (sI (sA (sA (sA q3.2 16 i (upd (gA q3.2 16 i) (gI w 4 i).toNatClampNeg q3.1)) 17 i (upd (gA (sA q3.2 16 i (upd (gA q3.2 16 i) (gI w 4 i).toNatClampNeg q3.1)) 17 i) (gI (sA q3.2 16 i (upd (gA q3.2 16 i) (gI w 4 i).toNatClampNeg q3.1)) 4 i).toNatClampNeg ((gA (sA q3.2 16 i (upd (gA q3.2 16 i) (gI w 4 i).toNatClampNeg q3.1)) 14 t (x3 + (1 : Int32)).toNatClampNeg) - (48 : Int32)))) 18 i (upd (gA (sA (sA q3.2 16 i (upd (gA q3.2 16 i) (gI w 4 i).toNatClampNeg q3.1)) 17 i (upd (gA (sA q3.2 16 i (upd (gA q3.2 16 i) (gI w 4 i).toNatClampNeg q3.1)) 17 i) (gI (sA q3.2 16 i (upd (gA q3.2 16 i) (gI w 4 i).toNatClampNeg q3.1)) 4 i).toNatClampNeg ((gA (sA q3.2 16 i (upd (gA q3.2 16 i) (gI w 4 i).toNatClampNeg q3.1)) 14 t (x3 + (1 : Int32)).toNatClampNeg) - (48 : Int32)))) 18 i) (gI (sA (sA q3.2 16 i (upd (gA q3.2 16 i) (gI w 4 i).toNatClampNeg q3.1)) 17 i (upd (gA (sA q3.2 16 i (upd (gA q3.2 16 i) (gI w 4 i).toNatClampNeg q3.1)) 17 i) (gI (sA q3.2 16 i (upd (gA q3.2 16 i) (gI w 4 i).toNatClampNeg q3.1)) 4 i).toNatClampNeg ((gA (sA q3.2 16 i (upd (gA q3.2 16 i) (gI w 4 i).toNatClampNeg q3.1)) 14 t (x3 + (1 : Int32)).toNatClampNeg) - (48 : Int32)))) 4 i).toNatClampNeg ((gA (sA (sA q3.2 16 i (upd (gA q3.2 16 i) (gI w 4 i).toNatClampNeg q3.1)) 17 i (upd (gA (sA q3.2 16 i (upd (gA q3.2 16 i) (gI w 4 i).toNatClampNeg q3.1)) 17 i) (gI (sA q3.2 16 i (upd (gA q3.2 16 i) (gI w 4 i).toNatClampNeg q3.1)) 4 i).toNatClampNeg ((gA (sA q3.2 16 i (upd (gA q3.2 16 i) (gI w 4 i).toNatClampNeg q3.1)) 14 t (x3 + (1 : Int32)).toNatClampNeg) - (48 : Int32)))) 14 t (x3 + (2 : Int32)).toNatClampNeg) - (48 : Int32)))) 4 i ((gI (sA (sA (sA q3.2 16 i (upd (gA q3.2 16 i) (gI w 4 i).toNatClampNeg q3.1)) 17 i (upd (gA (sA q3.2 16 i (upd (gA q3.2 16 i) (gI w 4 i).toNatClampNeg q3.1)) 17 i) (gI (sA q3.2 16 i (upd (gA q3.2 16 i) (gI w 4 i).toNatClampNeg q3.1)) 4 i).toNatClampNeg ((gA (sA q3.2 16 i (upd (gA q3.2 16 i) (gI w 4 i).toNatClampNeg q3.1)) 14 t (x3 + (1 : Int32)).toNatClampNeg) - (48 : Int32)))) 18 i (upd (gA (sA (sA q3.2 16 i (upd (gA q3.2 16 i) (gI w 4 i).toNatClampNeg q3.1)) 17 i (upd (gA (sA q3.2 16 i (upd (gA q3.2 16 i) (gI w 4 i).toNatClampNeg q3.1)) 17 i) (gI (sA q3.2 16 i (upd (gA q3.2 16 i) (gI w 4 i).toNatClampNeg q3.1)) 4 i).toNatClampNeg ((gA (sA q3.2 16 i (upd (gA q3.2 16 i) (gI w 4 i).toNatClampNeg q3.1)) 14 t (x3 + (1 : Int32)).toNatClampNeg) - (48 : Int32)))) 18 i) (gI (sA (sA q3.2 16 i (upd (gA q3.2 16 i) (gI w 4 i).toNatClampNeg q3.1)) 17 i (upd (gA (sA q3.2 16 i (upd (gA q3.2 16 i) (gI w 4 i).toNatClampNeg q3.1)) 17 i) (gI (sA q3.2 16 i (upd (gA q3.2 16 i) (gI w 4 i).toNatClampNeg q3.1)) 4 i).toNatClampNeg ((gA (sA q3.2 16 i (upd (gA q3.2 16 i) (gI w 4 i).toNatClampNeg q3.1)) 14 t (x3 + (1 : Int32)).toNatClampNeg) - (48 : Int32)))) 4 i).toNatClampNeg ((gA (sA (sA q3.2 16 i (upd (gA q3.2 16 i) (gI w 4 i).toNatClampNeg q3.1)) 17 i (upd (gA (sA q3.2 16 i (upd (gA q3.2 16 i) (gI w 4 i).toNatClampNeg q3.1)) 17 i) (gI (sA q3.2 16 i (upd (gA q3.2 16 i) (gI w 4 i).toNatClampNeg q3.1)) 4 i).toNatClampNeg ((gA (sA q3.2 16 i (upd (gA q3.2 16 i) (gI w 4 i).toNatClampNeg q3.1)) 14 t (x3 + (1 : Int32)).toNatClampNeg) - (48 : Int32)))) 14 t (x3 + (2 : Int32)).toNatClampNeg) - (48 : Int32)))) 4 i) + (1 : Int32))) _ h ke
        · have h := it_t h c
          refine Z_iinc hC (dk d_X0_settle 22 rfl) 39 rfl rfl rfl [some (vr 3 i), some (vr 14 t), some (vi x2), some (vi (x3 + (1 : Int32)))] rfl ?_
          refine Z_goto hC (dk d_X0_settle 23 rfl) 12 (by decide) ?_
          refine Z_wk [true, true, true, true] [some (vr 3 i), some (vr 14 t), some (vi x2), some (vi (x3 + (1 : Int32)))] rfl ?_
          exact ih (x3 + (1 : Int32)) w _ h ke
noncomputable def f_X0_settle (N : Nat) (i : Nat) (t : Nat) (a1 : Int32) (w : Wd) : Option (Wd) :=
  (X0_settle_L1 N i t a1 N (0 : Int32) (sI (sI w 4 i (0 : Int32)) 5 i (0 : Int32))).bind (fun q9 =>
    some q9)
set_option maxRecDepth 20000 in
set_option maxHeartbeats 4000000 in
theorem s_X0_settle (G : GT) (l : Launch) (N : Nat) (i : Nat) (t : Nat) (hi : i < 2) (ht : t < 4) (a1 : Int32) (w : Wd) (q : Wd) (h : f_X0_settle N i t a1 w = some q) : Sp G l yX0_settle cw_X0_settle 1 [vr 3 i, vr 14 t, vi a1] w none q := by
  refine Sp_of (own := RX0) [some (vr 3 i), some (vr 14 t), some (vi a1), none] (by decide) rfl rfl (Nat.le_of_ble_eq_true rfl) ?_
  intro x hG hl hC hr hQ _ _
  subst hG
  subst hl
  unfold f_X0_settle at h
  refine Z_aload_n hC (dk d_X0_settle 0 rfl) 1 rfl rfl rfl ?_
  refine Z_iconst (v := 0) hC (dk d_X0_settle 1 rfl) 2 rfl (by decide) ?_
  refine P_X0_28 hC (m_3 hi) (dk d_X0_settle 2 rfl) 5 rfl ?_
  refine Z_aload_n hC (dk d_X0_settle 3 rfl) 6 rfl rfl rfl ?_
  refine Z_iconst (v := 0) hC (dk d_X0_settle 4 rfl) 7 rfl (by decide) ?_
  refine P_X0_31 hC (m_3 hi) (dk d_X0_settle 5 rfl) 10 rfl ?_
  refine Z_iconst (v := 0) hC (dk d_X0_settle 6 rfl) 11 rfl (by decide) ?_
  refine Z_istore_n hC (dk d_X0_settle 7 rfl) 12 rfl rfl (Nat.le_of_ble_eq_true rfl) [some (vr 3 i), some (vr 14 t), some (vi a1), some (vi (0 : Int32))] rfl ?_
  obtain ⟨q9, hq9, h⟩ := bd_some h
  refine Z_wk [true, true, true, true] [some (vr 3 i), some (vr 14 t), some (vi a1), some (vi (0 : Int32))] rfl ?_
  refine z_X0_settle_L1 hC hr N i t hi ht a1 N (0 : Int32) (sI (sI w 4 i (0 : Int32)) 5 i (0 : Int32)) q9 hq9 ?_
  obtain rfl := Option.some.inj h
  exact Z_return (st := []) hC hr hQ (dk d_X0_settle 65 rfl)
def t_X0_become : List (Nat × Instr × Nat) := [(0, .aload_n 1, 1), (1, .getfield 9, 3), (4, .iconst 0, 1), (5, .aload_n 0, 1), (6, .getfield 9, 3), (9, .iconst 0, 1), (10, .bipush 6, 2), (12, .invokestatic 38, 3), (15, .aload_n 1, 1), (16, .getfield 15, 3), (19, .iconst 0, 1), (20, .aload_n 0, 1), (21, .getfield 15, 3), (24, .iconst 0, 1), (25, .bipush 6, 2), (27, .invokestatic 38, 3), (30, .aload_n 1, 1), (31, .getfield 18, 3), (34, .iconst 0, 1), (35, .aload_n 0, 1), (36, .getfield 18, 3), (39, .iconst 0, 1), (40, .bipush 6, 2), (42, .invokestatic 38, 3), (45, .aload_n 1, 1), (46, .getfield 21, 3), (49, .iconst 0, 1), (50, .aload_n 0, 1), (51, .getfield 21, 3), (54, .iconst 0, 1), (55, .aload_n 0, 1), (56, .getfield 21, 3), (59, .arraylength, 1), (60, .invokestatic 38, 3), (63, .aload_n 0, 1), (64, .aload_n 1, 1), (65, .getfield 28, 3), (68, .putfield 28, 3), (71, .aload_n 0, 1), (72, .aload_n 1, 1), (73, .getfield 31, 3), (76, .putfield 31, 3), (79, .aload_n 0, 1), (80, .aload_n 1, 1), (81, .getfield 24, 3), (84, .putfield 24, 3), (87, .return_, 1)]
set_option maxRecDepth 20000 in
theorem d_X0_become : ∀ q ∈ t_X0_become, decode cX0_become q.1 = .ok q.2 := by decide +kernel
noncomputable def f_X0_become (N : Nat) (i : Nat) (j : Nat) (w : Wd) : Option (Wd) :=
  gd (¬ (0 : Int32) < 0 ∧ ¬ (0 : Int32) < 0 ∧ ¬ (6 : Int32) < 0 ∧ (0 : Int32).toNatClampNeg + (6 : Int32).toNatClampNeg ≤ 6 ∧ (0 : Int32).toNatClampNeg + (6 : Int32).toNatClampNeg ≤ 6) (
  gd (¬ (0 : Int32) < 0 ∧ ¬ (0 : Int32) < 0 ∧ ¬ (6 : Int32) < 0 ∧ (0 : Int32).toNatClampNeg + (6 : Int32).toNatClampNeg ≤ 6 ∧ (0 : Int32).toNatClampNeg + (6 : Int32).toNatClampNeg ≤ 6) (
  gd (¬ (0 : Int32) < 0 ∧ ¬ (0 : Int32) < 0 ∧ ¬ (6 : Int32) < 0 ∧ (0 : Int32).toNatClampNeg + (6 : Int32).toNatClampNeg ≤ 6 ∧ (0 : Int32).toNatClampNeg + (6 : Int32).toNatClampNeg ≤ 6) (
  gd (¬ (0 : Int32) < 0 ∧ ¬ (0 : Int32) < 0 ∧ ¬ (42 : Int32) < 0 ∧ (0 : Int32).toNatClampNeg + (42 : Int32).toNatClampNeg ≤ 42 ∧ (0 : Int32).toNatClampNeg + (42 : Int32).toNatClampNeg ≤ 42) (
  some (sI (sI (sI (sA (sA (sA (sA w 16 i (va_cpy (gA w 16 j) (gA w 16 i) (0 : Int32).toNatClampNeg (0 : Int32).toNatClampNeg (6 : Int32).toNatClampNeg)) 17 i (va_cpy (gA (sA w 16 i (va_cpy (gA w 16 j) (gA w 16 i) (0 : Int32).toNatClampNeg (0 : Int32).toNatClampNeg (6 : Int32).toNatClampNeg)) 17 j) (gA (sA w 16 i (va_cpy (gA w 16 j) (gA w 16 i) (0 : Int32).toNatClampNeg (0 : Int32).toNatClampNeg (6 : Int32).toNatClampNeg)) 17 i) (0 : Int32).toNatClampNeg (0 : Int32).toNatClampNeg (6 : Int32).toNatClampNeg)) 18 i (va_cpy (gA (sA (sA w 16 i (va_cpy (gA w 16 j) (gA w 16 i) (0 : Int32).toNatClampNeg (0 : Int32).toNatClampNeg (6 : Int32).toNatClampNeg)) 17 i (va_cpy (gA (sA w 16 i (va_cpy (gA w 16 j) (gA w 16 i) (0 : Int32).toNatClampNeg (0 : Int32).toNatClampNeg (6 : Int32).toNatClampNeg)) 17 j) (gA (sA w 16 i (va_cpy (gA w 16 j) (gA w 16 i) (0 : Int32).toNatClampNeg (0 : Int32).toNatClampNeg (6 : Int32).toNatClampNeg)) 17 i) (0 : Int32).toNatClampNeg (0 : Int32).toNatClampNeg (6 : Int32).toNatClampNeg)) 18 j) (gA (sA (sA w 16 i (va_cpy (gA w 16 j) (gA w 16 i) (0 : Int32).toNatClampNeg (0 : Int32).toNatClampNeg (6 : Int32).toNatClampNeg)) 17 i (va_cpy (gA (sA w 16 i (va_cpy (gA w 16 j) (gA w 16 i) (0 : Int32).toNatClampNeg (0 : Int32).toNatClampNeg (6 : Int32).toNatClampNeg)) 17 j) (gA (sA w 16 i (va_cpy (gA w 16 j) (gA w 16 i) (0 : Int32).toNatClampNeg (0 : Int32).toNatClampNeg (6 : Int32).toNatClampNeg)) 17 i) (0 : Int32).toNatClampNeg (0 : Int32).toNatClampNeg (6 : Int32).toNatClampNeg)) 18 i) (0 : Int32).toNatClampNeg (0 : Int32).toNatClampNeg (6 : Int32).toNatClampNeg)) 19 i (va_cpy (gA (sA (sA (sA w 16 i (va_cpy (gA w 16 j) (gA w 16 i) (0 : Int32).toNatClampNeg (0 : Int32).toNatClampNeg (6 : Int32).toNatClampNeg)) 17 i (va_cpy (gA (sA w 16 i (va_cpy (gA w 16 j) (gA w 16 i) (0 : Int32).toNatClampNeg (0 : Int32).toNatClampNeg (6 : Int32).toNatClampNeg)) 17 j) (gA (sA w 16 i (va_cpy (gA w 16 j) (gA w 16 i) (0 : Int32).toNatClampNeg (0 : Int32).toNatClampNeg (6 : Int32).toNatClampNeg)) 17 i) (0 : Int32).toNatClampNeg (0 : Int32).toNatClampNeg (6 : Int32).toNatClampNeg)) 18 i (va_cpy (gA (sA (sA w 16 i (va_cpy (gA w 16 j) (gA w 16 i) (0 : Int32).toNatClampNeg (0 : Int32).toNatClampNeg (6 : Int32).toNatClampNeg)) 17 i (va_cpy (gA (sA w 16 i (va_cpy (gA w 16 j) (gA w 16 i) (0 : Int32).toNatClampNeg (0 : Int32).toNatClampNeg (6 : Int32).toNatClampNeg)) 17 j) (gA (sA w 16 i (va_cpy (gA w 16 j) (gA w 16 i) (0 : Int32).toNatClampNeg (0 : Int32).toNatClampNeg (6 : Int32).toNatClampNeg)) 17 i) (0 : Int32).toNatClampNeg (0 : Int32).toNatClampNeg (6 : Int32).toNatClampNeg)) 18 j) (gA (sA (sA w 16 i (va_cpy (gA w 16 j) (gA w 16 i) (0 : Int32).toNatClampNeg (0 : Int32).toNatClampNeg (6 : Int32).toNatClampNeg)) 17 i (va_cpy (gA (sA w 16 i (va_cpy (gA w 16 j) (gA w 16 i) (0 : Int32).toNatClampNeg (0 : Int32).toNatClampNeg (6 : Int32).toNatClampNeg)) 17 j) (gA (sA w 16 i (va_cpy (gA w 16 j) (gA w 16 i) (0 : Int32).toNatClampNeg (0 : Int32).toNatClampNeg (6 : Int32).toNatClampNeg)) 17 i) (0 : Int32).toNatClampNeg (0 : Int32).toNatClampNeg (6 : Int32).toNatClampNeg)) 18 i) (0 : Int32).toNatClampNeg (0 : Int32).toNatClampNeg (6 : Int32).toNatClampNeg)) 19 j) (gA (sA (sA (sA w 16 i (va_cpy (gA w 16 j) (gA w 16 i) (0 : Int32).toNatClampNeg (0 : Int32).toNatClampNeg (6 : Int32).toNatClampNeg)) 17 i (va_cpy (gA (sA w 16 i (va_cpy (gA w 16 j) (gA w 16 i) (0 : Int32).toNatClampNeg (0 : Int32).toNatClampNeg (6 : Int32).toNatClampNeg)) 17 j) (gA (sA w 16 i (va_cpy (gA w 16 j) (gA w 16 i) (0 : Int32).toNatClampNeg (0 : Int32).toNatClampNeg (6 : Int32).toNatClampNeg)) 17 i) (0 : Int32).toNatClampNeg (0 : Int32).toNatClampNeg (6 : Int32).toNatClampNeg)) 18 i (va_cpy (gA (sA (sA w 16 i (va_cpy (gA w 16 j) (gA w 16 i) (0 : Int32).toNatClampNeg (0 : Int32).toNatClampNeg (6 : Int32).toNatClampNeg)) 17 i (va_cpy (gA (sA w 16 i (va_cpy (gA w 16 j) (gA w 16 i) (0 : Int32).toNatClampNeg (0 : Int32).toNatClampNeg (6 : Int32).toNatClampNeg)) 17 j) (gA (sA w 16 i (va_cpy (gA w 16 j) (gA w 16 i) (0 : Int32).toNatClampNeg (0 : Int32).toNatClampNeg (6 : Int32).toNatClampNeg)) 17 i) (0 : Int32).toNatClampNeg (0 : Int32).toNatClampNeg (6 : Int32).toNatClampNeg)) 18 j) (gA (sA (sA w 16 i (va_cpy (gA w 16 j) (gA w 16 i) (0 : Int32).toNatClampNeg (0 : Int32).toNatClampNeg (6 : Int32).toNatClampNeg)) 17 i (va_cpy (gA (sA w 16 i (va_cpy (gA w 16 j) (gA w 16 i) (0 : Int32).toNatClampNeg (0 : Int32).toNatClampNeg (6 : Int32).toNatClampNeg)) 17 j) (gA (sA w 16 i (va_cpy (gA w 16 j) (gA w 16 i) (0 : Int32).toNatClampNeg (0 : Int32).toNatClampNeg (6 : Int32).toNatClampNeg)) 17 i) (0 : Int32).toNatClampNeg (0 : Int32).toNatClampNeg (6 : Int32).toNatClampNeg)) 18 i) (0 : Int32).toNatClampNeg (0 : Int32).toNatClampNeg (6 : Int32).toNatClampNeg)) 19 i) (0 : Int32).toNatClampNeg (0 : Int32).toNatClampNeg (42 : Int32).toNatClampNeg)) 4 i (gI (sA (sA (sA (sA w 16 i (va_cpy (gA w 16 j) (gA w 16 i) (0 : Int32).toNatClampNeg (0 : Int32).toNatClampNeg (6 : Int32).toNatClampNeg)) 17 i (va_cpy (gA (sA w 16 i (va_cpy (gA w 16 j) (gA w 16 i) (0 : Int32).toNatClampNeg (0 : Int32).toNatClampNeg (6 : Int32).toNatClampNeg)) 17 j) (gA (sA w 16 i (va_cpy (gA w 16 j) (gA w 16 i) (0 : Int32).toNatClampNeg (0 : Int32).toNatClampNeg (6 : Int32).toNatClampNeg)) 17 i) (0 : Int32).toNatClampNeg (0 : Int32).toNatClampNeg (6 : Int32).toNatClampNeg)) 18 i (va_cpy (gA (sA (sA w 16 i (va_cpy (gA w 16 j) (gA w 16 i) (0 : Int32).toNatClampNeg (0 : Int32).toNatClampNeg (6 : Int32).toNatClampNeg)) 17 i (va_cpy (gA (sA w 16 i (va_cpy (gA w 16 j) (gA w 16 i) (0 : Int32).toNatClampNeg (0 : Int32).toNatClampNeg (6 : Int32).toNatClampNeg)) 17 j) (gA (sA w 16 i (va_cpy (gA w 16 j) (gA w 16 i) (0 : Int32).toNatClampNeg (0 : Int32).toNatClampNeg (6 : Int32).toNatClampNeg)) 17 i) (0 : Int32).toNatClampNeg (0 : Int32).toNatClampNeg (6 : Int32).toNatClampNeg)) 18 j) (gA (sA (sA w 16 i (va_cpy (gA w 16 j) (gA w 16 i) (0 : Int32).toNatClampNeg (0 : Int32).toNatClampNeg (6 : Int32).toNatClampNeg)) 17 i (va_cpy (gA (sA w 16 i (va_cpy (gA w 16 j) (gA w 16 i) (0 : Int32).toNatClampNeg (0 : Int32).toNatClampNeg (6 : Int32).toNatClampNeg)) 17 j) (gA (sA w 16 i (va_cpy (gA w 16 j) (gA w 16 i) (0 : Int32).toNatClampNeg (0 : Int32).toNatClampNeg (6 : Int32).toNatClampNeg)) 17 i) (0 : Int32).toNatClampNeg (0 : Int32).toNatClampNeg (6 : Int32).toNatClampNeg)) 18 i) (0 : Int32).toNatClampNeg (0 : Int32).toNatClampNeg (6 : Int32).toNatClampNeg)) 19 i (va_cpy (gA (sA (sA (sA w 16 i (va_cpy (gA w 16 j) (gA w 16 i) (0 : Int32).toNatClampNeg (0 : Int32).toNatClampNeg (6 : Int32).toNatClampNeg)) 17 i (va_cpy (gA (sA w 16 i (va_cpy (gA w 16 j) (gA w 16 i) (0 : Int32).toNatClampNeg (0 : Int32).toNatClampNeg (6 : Int32).toNatClampNeg)) 17 j) (gA (sA w 16 i (va_cpy (gA w 16 j) (gA w 16 i) (0 : Int32).toNatClampNeg (0 : Int32).toNatClampNeg (6 : Int32).toNatClampNeg)) 17 i) (0 : Int32).toNatClampNeg (0 : Int32).toNatClampNeg (6 : Int32).toNatClampNeg)) 18 i (va_cpy (gA (sA (sA w 16 i (va_cpy (gA w 16 j) (gA w 16 i) (0 : Int32).toNatClampNeg (0 : Int32).toNatClampNeg (6 : Int32).toNatClampNeg)) 17 i (va_cpy (gA (sA w 16 i (va_cpy (gA w 16 j) (gA w 16 i) (0 : Int32).toNatClampNeg (0 : Int32).toNatClampNeg (6 : Int32).toNatClampNeg)) 17 j) (gA (sA w 16 i (va_cpy (gA w 16 j) (gA w 16 i) (0 : Int32).toNatClampNeg (0 : Int32).toNatClampNeg (6 : Int32).toNatClampNeg)) 17 i) (0 : Int32).toNatClampNeg (0 : Int32).toNatClampNeg (6 : Int32).toNatClampNeg)) 18 j) (gA (sA (sA w 16 i (va_cpy (gA w 16 j) (gA w 16 i) (0 : Int32).toNatClampNeg (0 : Int32).toNatClampNeg (6 : Int32).toNatClampNeg)) 17 i (va_cpy (gA (sA w 16 i (va_cpy (gA w 16 j) (gA w 16 i) (0 : Int32).toNatClampNeg (0 : Int32).toNatClampNeg (6 : Int32).toNatClampNeg)) 17 j) (gA (sA w 16 i (va_cpy (gA w 16 j) (gA w 16 i) (0 : Int32).toNatClampNeg (0 : Int32).toNatClampNeg (6 : Int32).toNatClampNeg)) 17 i) (0 : Int32).toNatClampNeg (0 : Int32).toNatClampNeg (6 : Int32).toNatClampNeg)) 18 i) (0 : Int32).toNatClampNeg (0 : Int32).toNatClampNeg (6 : Int32).toNatClampNeg)) 19 j) (gA (sA (sA (sA w 16 i (va_cpy (gA w 16 j) (gA w 16 i) (0 : Int32).toNatClampNeg (0 : Int32).toNatClampNeg (6 : Int32).toNatClampNeg)) 17 i (va_cpy (gA (sA w 16 i (va_cpy (gA w 16 j) (gA w 16 i) (0 : Int32).toNatClampNeg (0 : Int32).toNatClampNeg (6 : Int32).toNatClampNeg)) 17 j) (gA (sA w 16 i (va_cpy (gA w 16 j) (gA w 16 i) (0 : Int32).toNatClampNeg (0 : Int32).toNatClampNeg (6 : Int32).toNatClampNeg)) 17 i) (0 : Int32).toNatClampNeg (0 : Int32).toNatClampNeg (6 : Int32).toNatClampNeg)) 18 i (va_cpy (gA (sA (sA w 16 i (va_cpy (gA w 16 j) (gA w 16 i) (0 : Int32).toNatClampNeg (0 : Int32).toNatClampNeg (6 : Int32).toNatClampNeg)) 17 i (va_cpy (gA (sA w 16 i (va_cpy (gA w 16 j) (gA w 16 i) (0 : Int32).toNatClampNeg (0 : Int32).toNatClampNeg (6 : Int32).toNatClampNeg)) 17 j) (gA (sA w 16 i (va_cpy (gA w 16 j) (gA w 16 i) (0 : Int32).toNatClampNeg (0 : Int32).toNatClampNeg (6 : Int32).toNatClampNeg)) 17 i) (0 : Int32).toNatClampNeg (0 : Int32).toNatClampNeg (6 : Int32).toNatClampNeg)) 18 j) (gA (sA (sA w 16 i (va_cpy (gA w 16 j) (gA w 16 i) (0 : Int32).toNatClampNeg (0 : Int32).toNatClampNeg (6 : Int32).toNatClampNeg)) 17 i (va_cpy (gA (sA w 16 i (va_cpy (gA w 16 j) (gA w 16 i) (0 : Int32).toNatClampNeg (0 : Int32).toNatClampNeg (6 : Int32).toNatClampNeg)) 17 j) (gA (sA w 16 i (va_cpy (gA w 16 j) (gA w 16 i) (0 : Int32).toNatClampNeg (0 : Int32).toNatClampNeg (6 : Int32).toNatClampNeg)) 17 i) (0 : Int32).toNatClampNeg (0 : Int32).toNatClampNeg (6 : Int32).toNatClampNeg)) 18 i) (0 : Int32).toNatClampNeg (0 : Int32).toNatClampNeg (6 : Int32).toNatClampNeg)) 19 i) (0 : Int32).toNatClampNeg (0 : Int32).toNatClampNeg (42 : Int32).toNatClampNeg)) 4 j)) 5 i (gI (sI (sA (sA (sA (sA w 16 i (va_cpy (gA w 16 j) (gA w 16 i) (0 : Int32).toNatClampNeg (0 : Int32).toNatClampNeg (6 : Int32).toNatClampNeg)) 17 i (va_cpy (gA (sA w 16 i (va_cpy (gA w 16 j) (gA w 16 i) (0 : Int32).toNatClampNeg (0 : Int32).toNatClampNeg (6 : Int32).toNatClampNeg)) 17 j) (gA (sA w 16 i (va_cpy (gA w 16 j) (gA w 16 i) (0 : Int32).toNatClampNeg (0 : Int32).toNatClampNeg (6 : Int32).toNatClampNeg)) 17 i) (0 : Int32).toNatClampNeg (0 : Int32).toNatClampNeg (6 : Int32).toNatClampNeg)) 18 i (va_cpy (gA (sA (sA w 16 i (va_cpy (gA w 16 j) (gA w 16 i) (0 : Int32).toNatClampNeg (0 : Int32).toNatClampNeg (6 : Int32).toNatClampNeg)) 17 i (va_cpy (gA (sA w 16 i (va_cpy (gA w 16 j) (gA w 16 i) (0 : Int32).toNatClampNeg (0 : Int32).toNatClampNeg (6 : Int32).toNatClampNeg)) 17 j) (gA (sA w 16 i (va_cpy (gA w 16 j) (gA w 16 i) (0 : Int32).toNatClampNeg (0 : Int32).toNatClampNeg (6 : Int32).toNatClampNeg)) 17 i) (0 : Int32).toNatClampNeg (0 : Int32).toNatClampNeg (6 : Int32).toNatClampNeg)) 18 j) (gA (sA (sA w 16 i (va_cpy (gA w 16 j) (gA w 16 i) (0 : Int32).toNatClampNeg (0 : Int32).toNatClampNeg (6 : Int32).toNatClampNeg)) 17 i (va_cpy (gA (sA w 16 i (va_cpy (gA w 16 j) (gA w 16 i) (0 : Int32).toNatClampNeg (0 : Int32).toNatClampNeg (6 : Int32).toNatClampNeg)) 17 j) (gA (sA w 16 i (va_cpy (gA w 16 j) (gA w 16 i) (0 : Int32).toNatClampNeg (0 : Int32).toNatClampNeg (6 : Int32).toNatClampNeg)) 17 i) (0 : Int32).toNatClampNeg (0 : Int32).toNatClampNeg (6 : Int32).toNatClampNeg)) 18 i) (0 : Int32).toNatClampNeg (0 : Int32).toNatClampNeg (6 : Int32).toNatClampNeg)) 19 i (va_cpy (gA (sA (sA (sA w 16 i (va_cpy (gA w 16 j) (gA w 16 i) (0 : Int32).toNatClampNeg (0 : Int32).toNatClampNeg (6 : Int32).toNatClampNeg)) 17 i (va_cpy (gA (sA w 16 i (va_cpy (gA w 16 j) (gA w 16 i) (0 : Int32).toNatClampNeg (0 : Int32).toNatClampNeg (6 : Int32).toNatClampNeg)) 17 j) (gA (sA w 16 i (va_cpy (gA w 16 j) (gA w 16 i) (0 : Int32).toNatClampNeg (0 : Int32).toNatClampNeg (6 : Int32).toNatClampNeg)) 17 i) (0 : Int32).toNatClampNeg (0 : Int32).toNatClampNeg (6 : Int32).toNatClampNeg)) 18 i (va_cpy (gA (sA (sA w 16 i (va_cpy (gA w 16 j) (gA w 16 i) (0 : Int32).toNatClampNeg (0 : Int32).toNatClampNeg (6 : Int32).toNatClampNeg)) 17 i (va_cpy (gA (sA w 16 i (va_cpy (gA w 16 j) (gA w 16 i) (0 : Int32).toNatClampNeg (0 : Int32).toNatClampNeg (6 : Int32).toNatClampNeg)) 17 j) (gA (sA w 16 i (va_cpy (gA w 16 j) (gA w 16 i) (0 : Int32).toNatClampNeg (0 : Int32).toNatClampNeg (6 : Int32).toNatClampNeg)) 17 i) (0 : Int32).toNatClampNeg (0 : Int32).toNatClampNeg (6 : Int32).toNatClampNeg)) 18 j) (gA (sA (sA w 16 i (va_cpy (gA w 16 j) (gA w 16 i) (0 : Int32).toNatClampNeg (0 : Int32).toNatClampNeg (6 : Int32).toNatClampNeg)) 17 i (va_cpy (gA (sA w 16 i (va_cpy (gA w 16 j) (gA w 16 i) (0 : Int32).toNatClampNeg (0 : Int32).toNatClampNeg (6 : Int32).toNatClampNeg)) 17 j) (gA (sA w 16 i (va_cpy (gA w 16 j) (gA w 16 i) (0 : Int32).toNatClampNeg (0 : Int32).toNatClampNeg (6 : Int32).toNatClampNeg)) 17 i) (0 : Int32).toNatClampNeg (0 : Int32).toNatClampNeg (6 : Int32).toNatClampNeg)) 18 i) (0 : Int32).toNatClampNeg (0 : Int32).toNatClampNeg (6 : Int32).toNatClampNeg)) 19 j) (gA (sA (sA (sA w 16 i (va_cpy (gA w 16 j) (gA w 16 i) (0 : Int32).toNatClampNeg (0 : Int32).toNatClampNeg (6 : Int32).toNatClampNeg)) 17 i (va_cpy (gA (sA w 16 i (va_cpy (gA w 16 j) (gA w 16 i) (0 : Int32).toNatClampNeg (0 : Int32).toNatClampNeg (6 : Int32).toNatClampNeg)) 17 j) (gA (sA w 16 i (va_cpy (gA w 16 j) (gA w 16 i) (0 : Int32).toNatClampNeg (0 : Int32).toNatClampNeg (6 : Int32).toNatClampNeg)) 17 i) (0 : Int32).toNatClampNeg (0 : Int32).toNatClampNeg (6 : Int32).toNatClampNeg)) 18 i (va_cpy (gA (sA (sA w 16 i (va_cpy (gA w 16 j) (gA w 16 i) (0 : Int32).toNatClampNeg (0 : Int32).toNatClampNeg (6 : Int32).toNatClampNeg)) 17 i (va_cpy (gA (sA w 16 i (va_cpy (gA w 16 j) (gA w 16 i) (0 : Int32).toNatClampNeg (0 : Int32).toNatClampNeg (6 : Int32).toNatClampNeg)) 17 j) (gA (sA w 16 i (va_cpy (gA w 16 j) (gA w 16 i) (0 : Int32).toNatClampNeg (0 : Int32).toNatClampNeg (6 : Int32).toNatClampNeg)) 17 i) (0 : Int32).toNatClampNeg (0 : Int32).toNatClampNeg (6 : Int32).toNatClampNeg)) 18 j) (gA (sA (sA w 16 i (va_cpy (gA w 16 j) (gA w 16 i) (0 : Int32).toNatClampNeg (0 : Int32).toNatClampNeg (6 : Int32).toNatClampNeg)) 17 i (va_cpy (gA (sA w 16 i (va_cpy (gA w 16 j) (gA w 16 i) (0 : Int32).toNatClampNeg (0 : Int32).toNatClampNeg (6 : Int32).toNatClampNeg)) 17 j) (gA (sA w 16 i (va_cpy (gA w 16 j) (gA w 16 i) (0 : Int32).toNatClampNeg (0 : Int32).toNatClampNeg (6 : Int32).toNatClampNeg)) 17 i) (0 : Int32).toNatClampNeg (0 : Int32).toNatClampNeg (6 : Int32).toNatClampNeg)) 18 i) (0 : Int32).toNatClampNeg (0 : Int32).toNatClampNeg (6 : Int32).toNatClampNeg)) 19 i) (0 : Int32).toNatClampNeg (0 : Int32).toNatClampNeg (42 : Int32).toNatClampNeg)) 4 i (gI (sA (sA (sA (sA w 16 i (va_cpy (gA w 16 j) (gA w 16 i) (0 : Int32).toNatClampNeg (0 : Int32).toNatClampNeg (6 : Int32).toNatClampNeg)) 17 i (va_cpy (gA (sA w 16 i (va_cpy (gA w 16 j) (gA w 16 i) (0 : Int32).toNatClampNeg (0 : Int32).toNatClampNeg (6 : Int32).toNatClampNeg)) 17 j) (gA (sA w 16 i (va_cpy (gA w 16 j) (gA w 16 i) (0 : Int32).toNatClampNeg (0 : Int32).toNatClampNeg (6 : Int32).toNatClampNeg)) 17 i) (0 : Int32).toNatClampNeg (0 : Int32).toNatClampNeg (6 : Int32).toNatClampNeg)) 18 i (va_cpy (gA (sA (sA w 16 i (va_cpy (gA w 16 j) (gA w 16 i) (0 : Int32).toNatClampNeg (0 : Int32).toNatClampNeg (6 : Int32).toNatClampNeg)) 17 i (va_cpy (gA (sA w 16 i (va_cpy (gA w 16 j) (gA w 16 i) (0 : Int32).toNatClampNeg (0 : Int32).toNatClampNeg (6 : Int32).toNatClampNeg)) 17 j) (gA (sA w 16 i (va_cpy (gA w 16 j) (gA w 16 i) (0 : Int32).toNatClampNeg (0 : Int32).toNatClampNeg (6 : Int32).toNatClampNeg)) 17 i) (0 : Int32).toNatClampNeg (0 : Int32).toNatClampNeg (6 : Int32).toNatClampNeg)) 18 j) (gA (sA (sA w 16 i (va_cpy (gA w 16 j) (gA w 16 i) (0 : Int32).toNatClampNeg (0 : Int32).toNatClampNeg (6 : Int32).toNatClampNeg)) 17 i (va_cpy (gA (sA w 16 i (va_cpy (gA w 16 j) (gA w 16 i) (0 : Int32).toNatClampNeg (0 : Int32).toNatClampNeg (6 : Int32).toNatClampNeg)) 17 j) (gA (sA w 16 i (va_cpy (gA w 16 j) (gA w 16 i) (0 : Int32).toNatClampNeg (0 : Int32).toNatClampNeg (6 : Int32).toNatClampNeg)) 17 i) (0 : Int32).toNatClampNeg (0 : Int32).toNatClampNeg (6 : Int32).toNatClampNeg)) 18 i) (0 : Int32).toNatClampNeg (0 : Int32).toNatClampNeg (6 : Int32).toNatClampNeg)) 19 i (va_cpy (gA (sA (sA (sA w 16 i (va_cpy (gA w 16 j) (gA w 16 i) (0 : Int32).toNatClampNeg (0 : Int32).toNatClampNeg (6 : Int32).toNatClampNeg)) 17 i (va_cpy (gA (sA w 16 i (va_cpy (gA w 16 j) (gA w 16 i) (0 : Int32).toNatClampNeg (0 : Int32).toNatClampNeg (6 : Int32).toNatClampNeg)) 17 j) (gA (sA w 16 i (va_cpy (gA w 16 j) (gA w 16 i) (0 : Int32).toNatClampNeg (0 : Int32).toNatClampNeg (6 : Int32).toNatClampNeg)) 17 i) (0 : Int32).toNatClampNeg (0 : Int32).toNatClampNeg (6 : Int32).toNatClampNeg)) 18 i (va_cpy (gA (sA (sA w 16 i (va_cpy (gA w 16 j) (gA w 16 i) (0 : Int32).toNatClampNeg (0 : Int32).toNatClampNeg (6 : Int32).toNatClampNeg)) 17 i (va_cpy (gA (sA w 16 i (va_cpy (gA w 16 j) (gA w 16 i) (0 : Int32).toNatClampNeg (0 : Int32).toNatClampNeg (6 : Int32).toNatClampNeg)) 17 j) (gA (sA w 16 i (va_cpy (gA w 16 j) (gA w 16 i) (0 : Int32).toNatClampNeg (0 : Int32).toNatClampNeg (6 : Int32).toNatClampNeg)) 17 i) (0 : Int32).toNatClampNeg (0 : Int32).toNatClampNeg (6 : Int32).toNatClampNeg)) 18 j) (gA (sA (sA w 16 i (va_cpy (gA w 16 j) (gA w 16 i) (0 : Int32).toNatClampNeg (0 : Int32).toNatClampNeg (6 : Int32).toNatClampNeg)) 17 i (va_cpy (gA (sA w 16 i (va_cpy (gA w 16 j) (gA w 16 i) (0 : Int32).toNatClampNeg (0 : Int32).toNatClampNeg (6 : Int32).toNatClampNeg)) 17 j) (gA (sA w 16 i (va_cpy (gA w 16 j) (gA w 16 i) (0 : Int32).toNatClampNeg (0 : Int32).toNatClampNeg (6 : Int32).toNatClampNeg)) 17 i) (0 : Int32).toNatClampNeg (0 : Int32).toNatClampNeg (6 : Int32).toNatClampNeg)) 18 i) (0 : Int32).toNatClampNeg (0 : Int32).toNatClampNeg (6 : Int32).toNatClampNeg)) 19 j) (gA (sA (sA (sA w 16 i (va_cpy (gA w 16 j) (gA w 16 i) (0 : Int32).toNatClampNeg (0 : Int32).toNatClampNeg (6 : Int32).toNatClampNeg)) 17 i (va_cpy (gA (sA w 16 i (va_cpy (gA w 16 j) (gA w 16 i) (0 : Int32).toNatClampNeg (0 : Int32).toNatClampNeg (6 : Int32).toNatClampNeg)) 17 j) (gA (sA w 16 i (va_cpy (gA w 16 j) (gA w 16 i) (0 : Int32).toNatClampNeg (0 : Int32).toNatClampNeg (6 : Int32).toNatClampNeg)) 17 i) (0 : Int32).toNatClampNeg (0 : Int32).toNatClampNeg (6 : Int32).toNatClampNeg)) 18 i (va_cpy (gA (sA (sA w 16 i (va_cpy (gA w 16 j) (gA w 16 i) (0 : Int32).toNatClampNeg (0 : Int32).toNatClampNeg (6 : Int32).toNatClampNeg)) 17 i (va_cpy (gA (sA w 16 i (va_cpy (gA w 16 j) (gA w 16 i) (0 : Int32).toNatClampNeg (0 : Int32).toNatClampNeg (6 : Int32).toNatClampNeg)) 17 j) (gA (sA w 16 i (va_cpy (gA w 16 j) (gA w 16 i) (0 : Int32).toNatClampNeg (0 : Int32).toNatClampNeg (6 : Int32).toNatClampNeg)) 17 i) (0 : Int32).toNatClampNeg (0 : Int32).toNatClampNeg (6 : Int32).toNatClampNeg)) 18 j) (gA (sA (sA w 16 i (va_cpy (gA w 16 j) (gA w 16 i) (0 : Int32).toNatClampNeg (0 : Int32).toNatClampNeg (6 : Int32).toNatClampNeg)) 17 i (va_cpy (gA (sA w 16 i (va_cpy (gA w 16 j) (gA w 16 i) (0 : Int32).toNatClampNeg (0 : Int32).toNatClampNeg (6 : Int32).toNatClampNeg)) 17 j) (gA (sA w 16 i (va_cpy (gA w 16 j) (gA w 16 i) (0 : Int32).toNatClampNeg (0 : Int32).toNatClampNeg (6 : Int32).toNatClampNeg)) 17 i) (0 : Int32).toNatClampNeg (0 : Int32).toNatClampNeg (6 : Int32).toNatClampNeg)) 18 i) (0 : Int32).toNatClampNeg (0 : Int32).toNatClampNeg (6 : Int32).toNatClampNeg)) 19 i) (0 : Int32).toNatClampNeg (0 : Int32).toNatClampNeg (42 : Int32).toNatClampNeg)) 4 j)) 5 j)) 6 i (gI (sI (sI (sA (sA (sA (sA w 16 i (va_cpy (gA w 16 j) (gA w 16 i) (0 : Int32).toNatClampNeg (0 : Int32).toNatClampNeg (6 : Int32).toNatClampNeg)) 17 i (va_cpy (gA (sA w 16 i (va_cpy (gA w 16 j) (gA w 16 i) (0 : Int32).toNatClampNeg (0 : Int32).toNatClampNeg (6 : Int32).toNatClampNeg)) 17 j) (gA (sA w 16 i (va_cpy (gA w 16 j) (gA w 16 i) (0 : Int32).toNatClampNeg (0 : Int32).toNatClampNeg (6 : Int32).toNatClampNeg)) 17 i) (0 : Int32).toNatClampNeg (0 : Int32).toNatClampNeg (6 : Int32).toNatClampNeg)) 18 i (va_cpy (gA (sA (sA w 16 i (va_cpy (gA w 16 j) (gA w 16 i) (0 : Int32).toNatClampNeg (0 : Int32).toNatClampNeg (6 : Int32).toNatClampNeg)) 17 i (va_cpy (gA (sA w 16 i (va_cpy (gA w 16 j) (gA w 16 i) (0 : Int32).toNatClampNeg (0 : Int32).toNatClampNeg (6 : Int32).toNatClampNeg)) 17 j) (gA (sA w 16 i (va_cpy (gA w 16 j) (gA w 16 i) (0 : Int32).toNatClampNeg (0 : Int32).toNatClampNeg (6 : Int32).toNatClampNeg)) 17 i) (0 : Int32).toNatClampNeg (0 : Int32).toNatClampNeg (6 : Int32).toNatClampNeg)) 18 j) (gA (sA (sA w 16 i (va_cpy (gA w 16 j) (gA w 16 i) (0 : Int32).toNatClampNeg (0 : Int32).toNatClampNeg (6 : Int32).toNatClampNeg)) 17 i (va_cpy (gA (sA w 16 i (va_cpy (gA w 16 j) (gA w 16 i) (0 : Int32).toNatClampNeg (0 : Int32).toNatClampNeg (6 : Int32).toNatClampNeg)) 17 j) (gA (sA w 16 i (va_cpy (gA w 16 j) (gA w 16 i) (0 : Int32).toNatClampNeg (0 : Int32).toNatClampNeg (6 : Int32).toNatClampNeg)) 17 i) (0 : Int32).toNatClampNeg (0 : Int32).toNatClampNeg (6 : Int32).toNatClampNeg)) 18 i) (0 : Int32).toNatClampNeg (0 : Int32).toNatClampNeg (6 : Int32).toNatClampNeg)) 19 i (va_cpy (gA (sA (sA (sA w 16 i (va_cpy (gA w 16 j) (gA w 16 i) (0 : Int32).toNatClampNeg (0 : Int32).toNatClampNeg (6 : Int32).toNatClampNeg)) 17 i (va_cpy (gA (sA w 16 i (va_cpy (gA w 16 j) (gA w 16 i) (0 : Int32).toNatClampNeg (0 : Int32).toNatClampNeg (6 : Int32).toNatClampNeg)) 17 j) (gA (sA w 16 i (va_cpy (gA w 16 j) (gA w 16 i) (0 : Int32).toNatClampNeg (0 : Int32).toNatClampNeg (6 : Int32).toNatClampNeg)) 17 i) (0 : Int32).toNatClampNeg (0 : Int32).toNatClampNeg (6 : Int32).toNatClampNeg)) 18 i (va_cpy (gA (sA (sA w 16 i (va_cpy (gA w 16 j) (gA w 16 i) (0 : Int32).toNatClampNeg (0 : Int32).toNatClampNeg (6 : Int32).toNatClampNeg)) 17 i (va_cpy (gA (sA w 16 i (va_cpy (gA w 16 j) (gA w 16 i) (0 : Int32).toNatClampNeg (0 : Int32).toNatClampNeg (6 : Int32).toNatClampNeg)) 17 j) (gA (sA w 16 i (va_cpy (gA w 16 j) (gA w 16 i) (0 : Int32).toNatClampNeg (0 : Int32).toNatClampNeg (6 : Int32).toNatClampNeg)) 17 i) (0 : Int32).toNatClampNeg (0 : Int32).toNatClampNeg (6 : Int32).toNatClampNeg)) 18 j) (gA (sA (sA w 16 i (va_cpy (gA w 16 j) (gA w 16 i) (0 : Int32).toNatClampNeg (0 : Int32).toNatClampNeg (6 : Int32).toNatClampNeg)) 17 i (va_cpy (gA (sA w 16 i (va_cpy (gA w 16 j) (gA w 16 i) (0 : Int32).toNatClampNeg (0 : Int32).toNatClampNeg (6 : Int32).toNatClampNeg)) 17 j) (gA (sA w 16 i (va_cpy (gA w 16 j) (gA w 16 i) (0 : Int32).toNatClampNeg (0 : Int32).toNatClampNeg (6 : Int32).toNatClampNeg)) 17 i) (0 : Int32).toNatClampNeg (0 : Int32).toNatClampNeg (6 : Int32).toNatClampNeg)) 18 i) (0 : Int32).toNatClampNeg (0 : Int32).toNatClampNeg (6 : Int32).toNatClampNeg)) 19 j) (gA (sA (sA (sA w 16 i (va_cpy (gA w 16 j) (gA w 16 i) (0 : Int32).toNatClampNeg (0 : Int32).toNatClampNeg (6 : Int32).toNatClampNeg)) 17 i (va_cpy (gA (sA w 16 i (va_cpy (gA w 16 j) (gA w 16 i) (0 : Int32).toNatClampNeg (0 : Int32).toNatClampNeg (6 : Int32).toNatClampNeg)) 17 j) (gA (sA w 16 i (va_cpy (gA w 16 j) (gA w 16 i) (0 : Int32).toNatClampNeg (0 : Int32).toNatClampNeg (6 : Int32).toNatClampNeg)) 17 i) (0 : Int32).toNatClampNeg (0 : Int32).toNatClampNeg (6 : Int32).toNatClampNeg)) 18 i (va_cpy (gA (sA (sA w 16 i (va_cpy (gA w 16 j) (gA w 16 i) (0 : Int32).toNatClampNeg (0 : Int32).toNatClampNeg (6 : Int32).toNatClampNeg)) 17 i (va_cpy (gA (sA w 16 i (va_cpy (gA w 16 j) (gA w 16 i) (0 : Int32).toNatClampNeg (0 : Int32).toNatClampNeg (6 : Int32).toNatClampNeg)) 17 j) (gA (sA w 16 i (va_cpy (gA w 16 j) (gA w 16 i) (0 : Int32).toNatClampNeg (0 : Int32).toNatClampNeg (6 : Int32).toNatClampNeg)) 17 i) (0 : Int32).toNatClampNeg (0 : Int32).toNatClampNeg (6 : Int32).toNatClampNeg)) 18 j) (gA (sA (sA w 16 i (va_cpy (gA w 16 j) (gA w 16 i) (0 : Int32).toNatClampNeg (0 : Int32).toNatClampNeg (6 : Int32).toNatClampNeg)) 17 i (va_cpy (gA (sA w 16 i (va_cpy (gA w 16 j) (gA w 16 i) (0 : Int32).toNatClampNeg (0 : Int32).toNatClampNeg (6 : Int32).toNatClampNeg)) 17 j) (gA (sA w 16 i (va_cpy (gA w 16 j) (gA w 16 i) (0 : Int32).toNatClampNeg (0 : Int32).toNatClampNeg (6 : Int32).toNatClampNeg)) 17 i) (0 : Int32).toNatClampNeg (0 : Int32).toNatClampNeg (6 : Int32).toNatClampNeg)) 18 i) (0 : Int32).toNatClampNeg (0 : Int32).toNatClampNeg (6 : Int32).toNatClampNeg)) 19 i) (0 : Int32).toNatClampNeg (0 : Int32).toNatClampNeg (42 : Int32).toNatClampNeg)) 4 i (gI (sA (sA (sA (sA w 16 i (va_cpy (gA w 16 j) (gA w 16 i) (0 : Int32).toNatClampNeg (0 : Int32).toNatClampNeg (6 : Int32).toNatClampNeg)) 17 i (va_cpy (gA (sA w 16 i (va_cpy (gA w 16 j) (gA w 16 i) (0 : Int32).toNatClampNeg (0 : Int32).toNatClampNeg (6 : Int32).toNatClampNeg)) 17 j) (gA (sA w 16 i (va_cpy (gA w 16 j) (gA w 16 i) (0 : Int32).toNatClampNeg (0 : Int32).toNatClampNeg (6 : Int32).toNatClampNeg)) 17 i) (0 : Int32).toNatClampNeg (0 : Int32).toNatClampNeg (6 : Int32).toNatClampNeg)) 18 i (va_cpy (gA (sA (sA w 16 i (va_cpy (gA w 16 j) (gA w 16 i) (0 : Int32).toNatClampNeg (0 : Int32).toNatClampNeg (6 : Int32).toNatClampNeg)) 17 i (va_cpy (gA (sA w 16 i (va_cpy (gA w 16 j) (gA w 16 i) (0 : Int32).toNatClampNeg (0 : Int32).toNatClampNeg (6 : Int32).toNatClampNeg)) 17 j) (gA (sA w 16 i (va_cpy (gA w 16 j) (gA w 16 i) (0 : Int32).toNatClampNeg (0 : Int32).toNatClampNeg (6 : Int32).toNatClampNeg)) 17 i) (0 : Int32).toNatClampNeg (0 : Int32).toNatClampNeg (6 : Int32).toNatClampNeg)) 18 j) (gA (sA (sA w 16 i (va_cpy (gA w 16 j) (gA w 16 i) (0 : Int32).toNatClampNeg (0 : Int32).toNatClampNeg (6 : Int32).toNatClampNeg)) 17 i (va_cpy (gA (sA w 16 i (va_cpy (gA w 16 j) (gA w 16 i) (0 : Int32).toNatClampNeg (0 : Int32).toNatClampNeg (6 : Int32).toNatClampNeg)) 17 j) (gA (sA w 16 i (va_cpy (gA w 16 j) (gA w 16 i) (0 : Int32).toNatClampNeg (0 : Int32).toNatClampNeg (6 : Int32).toNatClampNeg)) 17 i) (0 : Int32).toNatClampNeg (0 : Int32).toNatClampNeg (6 : Int32).toNatClampNeg)) 18 i) (0 : Int32).toNatClampNeg (0 : Int32).toNatClampNeg (6 : Int32).toNatClampNeg)) 19 i (va_cpy (gA (sA (sA (sA w 16 i (va_cpy (gA w 16 j) (gA w 16 i) (0 : Int32).toNatClampNeg (0 : Int32).toNatClampNeg (6 : Int32).toNatClampNeg)) 17 i (va_cpy (gA (sA w 16 i (va_cpy (gA w 16 j) (gA w 16 i) (0 : Int32).toNatClampNeg (0 : Int32).toNatClampNeg (6 : Int32).toNatClampNeg)) 17 j) (gA (sA w 16 i (va_cpy (gA w 16 j) (gA w 16 i) (0 : Int32).toNatClampNeg (0 : Int32).toNatClampNeg (6 : Int32).toNatClampNeg)) 17 i) (0 : Int32).toNatClampNeg (0 : Int32).toNatClampNeg (6 : Int32).toNatClampNeg)) 18 i (va_cpy (gA (sA (sA w 16 i (va_cpy (gA w 16 j) (gA w 16 i) (0 : Int32).toNatClampNeg (0 : Int32).toNatClampNeg (6 : Int32).toNatClampNeg)) 17 i (va_cpy (gA (sA w 16 i (va_cpy (gA w 16 j) (gA w 16 i) (0 : Int32).toNatClampNeg (0 : Int32).toNatClampNeg (6 : Int32).toNatClampNeg)) 17 j) (gA (sA w 16 i (va_cpy (gA w 16 j) (gA w 16 i) (0 : Int32).toNatClampNeg (0 : Int32).toNatClampNeg (6 : Int32).toNatClampNeg)) 17 i) (0 : Int32).toNatClampNeg (0 : Int32).toNatClampNeg (6 : Int32).toNatClampNeg)) 18 j) (gA (sA (sA w 16 i (va_cpy (gA w 16 j) (gA w 16 i) (0 : Int32).toNatClampNeg (0 : Int32).toNatClampNeg (6 : Int32).toNatClampNeg)) 17 i (va_cpy (gA (sA w 16 i (va_cpy (gA w 16 j) (gA w 16 i) (0 : Int32).toNatClampNeg (0 : Int32).toNatClampNeg (6 : Int32).toNatClampNeg)) 17 j) (gA (sA w 16 i (va_cpy (gA w 16 j) (gA w 16 i) (0 : Int32).toNatClampNeg (0 : Int32).toNatClampNeg (6 : Int32).toNatClampNeg)) 17 i) (0 : Int32).toNatClampNeg (0 : Int32).toNatClampNeg (6 : Int32).toNatClampNeg)) 18 i) (0 : Int32).toNatClampNeg (0 : Int32).toNatClampNeg (6 : Int32).toNatClampNeg)) 19 j) (gA (sA (sA (sA w 16 i (va_cpy (gA w 16 j) (gA w 16 i) (0 : Int32).toNatClampNeg (0 : Int32).toNatClampNeg (6 : Int32).toNatClampNeg)) 17 i (va_cpy (gA (sA w 16 i (va_cpy (gA w 16 j) (gA w 16 i) (0 : Int32).toNatClampNeg (0 : Int32).toNatClampNeg (6 : Int32).toNatClampNeg)) 17 j) (gA (sA w 16 i (va_cpy (gA w 16 j) (gA w 16 i) (0 : Int32).toNatClampNeg (0 : Int32).toNatClampNeg (6 : Int32).toNatClampNeg)) 17 i) (0 : Int32).toNatClampNeg (0 : Int32).toNatClampNeg (6 : Int32).toNatClampNeg)) 18 i (va_cpy (gA (sA (sA w 16 i (va_cpy (gA w 16 j) (gA w 16 i) (0 : Int32).toNatClampNeg (0 : Int32).toNatClampNeg (6 : Int32).toNatClampNeg)) 17 i (va_cpy (gA (sA w 16 i (va_cpy (gA w 16 j) (gA w 16 i) (0 : Int32).toNatClampNeg (0 : Int32).toNatClampNeg (6 : Int32).toNatClampNeg)) 17 j) (gA (sA w 16 i (va_cpy (gA w 16 j) (gA w 16 i) (0 : Int32).toNatClampNeg (0 : Int32).toNatClampNeg (6 : Int32).toNatClampNeg)) 17 i) (0 : Int32).toNatClampNeg (0 : Int32).toNatClampNeg (6 : Int32).toNatClampNeg)) 18 j) (gA (sA (sA w 16 i (va_cpy (gA w 16 j) (gA w 16 i) (0 : Int32).toNatClampNeg (0 : Int32).toNatClampNeg (6 : Int32).toNatClampNeg)) 17 i (va_cpy (gA (sA w 16 i (va_cpy (gA w 16 j) (gA w 16 i) (0 : Int32).toNatClampNeg (0 : Int32).toNatClampNeg (6 : Int32).toNatClampNeg)) 17 j) (gA (sA w 16 i (va_cpy (gA w 16 j) (gA w 16 i) (0 : Int32).toNatClampNeg (0 : Int32).toNatClampNeg (6 : Int32).toNatClampNeg)) 17 i) (0 : Int32).toNatClampNeg (0 : Int32).toNatClampNeg (6 : Int32).toNatClampNeg)) 18 i) (0 : Int32).toNatClampNeg (0 : Int32).toNatClampNeg (6 : Int32).toNatClampNeg)) 19 i) (0 : Int32).toNatClampNeg (0 : Int32).toNatClampNeg (42 : Int32).toNatClampNeg)) 4 j)) 5 i (gI (sI (sA (sA (sA (sA w 16 i (va_cpy (gA w 16 j) (gA w 16 i) (0 : Int32).toNatClampNeg (0 : Int32).toNatClampNeg (6 : Int32).toNatClampNeg)) 17 i (va_cpy (gA (sA w 16 i (va_cpy (gA w 16 j) (gA w 16 i) (0 : Int32).toNatClampNeg (0 : Int32).toNatClampNeg (6 : Int32).toNatClampNeg)) 17 j) (gA (sA w 16 i (va_cpy (gA w 16 j) (gA w 16 i) (0 : Int32).toNatClampNeg (0 : Int32).toNatClampNeg (6 : Int32).toNatClampNeg)) 17 i) (0 : Int32).toNatClampNeg (0 : Int32).toNatClampNeg (6 : Int32).toNatClampNeg)) 18 i (va_cpy (gA (sA (sA w 16 i (va_cpy (gA w 16 j) (gA w 16 i) (0 : Int32).toNatClampNeg (0 : Int32).toNatClampNeg (6 : Int32).toNatClampNeg)) 17 i (va_cpy (gA (sA w 16 i (va_cpy (gA w 16 j) (gA w 16 i) (0 : Int32).toNatClampNeg (0 : Int32).toNatClampNeg (6 : Int32).toNatClampNeg)) 17 j) (gA (sA w 16 i (va_cpy (gA w 16 j) (gA w 16 i) (0 : Int32).toNatClampNeg (0 : Int32).toNatClampNeg (6 : Int32).toNatClampNeg)) 17 i) (0 : Int32).toNatClampNeg (0 : Int32).toNatClampNeg (6 : Int32).toNatClampNeg)) 18 j) (gA (sA (sA w 16 i (va_cpy (gA w 16 j) (gA w 16 i) (0 : Int32).toNatClampNeg (0 : Int32).toNatClampNeg (6 : Int32).toNatClampNeg)) 17 i (va_cpy (gA (sA w 16 i (va_cpy (gA w 16 j) (gA w 16 i) (0 : Int32).toNatClampNeg (0 : Int32).toNatClampNeg (6 : Int32).toNatClampNeg)) 17 j) (gA (sA w 16 i (va_cpy (gA w 16 j) (gA w 16 i) (0 : Int32).toNatClampNeg (0 : Int32).toNatClampNeg (6 : Int32).toNatClampNeg)) 17 i) (0 : Int32).toNatClampNeg (0 : Int32).toNatClampNeg (6 : Int32).toNatClampNeg)) 18 i) (0 : Int32).toNatClampNeg (0 : Int32).toNatClampNeg (6 : Int32).toNatClampNeg)) 19 i (va_cpy (gA (sA (sA (sA w 16 i (va_cpy (gA w 16 j) (gA w 16 i) (0 : Int32).toNatClampNeg (0 : Int32).toNatClampNeg (6 : Int32).toNatClampNeg)) 17 i (va_cpy (gA (sA w 16 i (va_cpy (gA w 16 j) (gA w 16 i) (0 : Int32).toNatClampNeg (0 : Int32).toNatClampNeg (6 : Int32).toNatClampNeg)) 17 j) (gA (sA w 16 i (va_cpy (gA w 16 j) (gA w 16 i) (0 : Int32).toNatClampNeg (0 : Int32).toNatClampNeg (6 : Int32).toNatClampNeg)) 17 i) (0 : Int32).toNatClampNeg (0 : Int32).toNatClampNeg (6 : Int32).toNatClampNeg)) 18 i (va_cpy (gA (sA (sA w 16 i (va_cpy (gA w 16 j) (gA w 16 i) (0 : Int32).toNatClampNeg (0 : Int32).toNatClampNeg (6 : Int32).toNatClampNeg)) 17 i (va_cpy (gA (sA w 16 i (va_cpy (gA w 16 j) (gA w 16 i) (0 : Int32).toNatClampNeg (0 : Int32).toNatClampNeg (6 : Int32).toNatClampNeg)) 17 j) (gA (sA w 16 i (va_cpy (gA w 16 j) (gA w 16 i) (0 : Int32).toNatClampNeg (0 : Int32).toNatClampNeg (6 : Int32).toNatClampNeg)) 17 i) (0 : Int32).toNatClampNeg (0 : Int32).toNatClampNeg (6 : Int32).toNatClampNeg)) 18 j) (gA (sA (sA w 16 i (va_cpy (gA w 16 j) (gA w 16 i) (0 : Int32).toNatClampNeg (0 : Int32).toNatClampNeg (6 : Int32).toNatClampNeg)) 17 i (va_cpy (gA (sA w 16 i (va_cpy (gA w 16 j) (gA w 16 i) (0 : Int32).toNatClampNeg (0 : Int32).toNatClampNeg (6 : Int32).toNatClampNeg)) 17 j) (gA (sA w 16 i (va_cpy (gA w 16 j) (gA w 16 i) (0 : Int32).toNatClampNeg (0 : Int32).toNatClampNeg (6 : Int32).toNatClampNeg)) 17 i) (0 : Int32).toNatClampNeg (0 : Int32).toNatClampNeg (6 : Int32).toNatClampNeg)) 18 i) (0 : Int32).toNatClampNeg (0 : Int32).toNatClampNeg (6 : Int32).toNatClampNeg)) 19 j) (gA (sA (sA (sA w 16 i (va_cpy (gA w 16 j) (gA w 16 i) (0 : Int32).toNatClampNeg (0 : Int32).toNatClampNeg (6 : Int32).toNatClampNeg)) 17 i (va_cpy (gA (sA w 16 i (va_cpy (gA w 16 j) (gA w 16 i) (0 : Int32).toNatClampNeg (0 : Int32).toNatClampNeg (6 : Int32).toNatClampNeg)) 17 j) (gA (sA w 16 i (va_cpy (gA w 16 j) (gA w 16 i) (0 : Int32).toNatClampNeg (0 : Int32).toNatClampNeg (6 : Int32).toNatClampNeg)) 17 i) (0 : Int32).toNatClampNeg (0 : Int32).toNatClampNeg (6 : Int32).toNatClampNeg)) 18 i (va_cpy (gA (sA (sA w 16 i (va_cpy (gA w 16 j) (gA w 16 i) (0 : Int32).toNatClampNeg (0 : Int32).toNatClampNeg (6 : Int32).toNatClampNeg)) 17 i (va_cpy (gA (sA w 16 i (va_cpy (gA w 16 j) (gA w 16 i) (0 : Int32).toNatClampNeg (0 : Int32).toNatClampNeg (6 : Int32).toNatClampNeg)) 17 j) (gA (sA w 16 i (va_cpy (gA w 16 j) (gA w 16 i) (0 : Int32).toNatClampNeg (0 : Int32).toNatClampNeg (6 : Int32).toNatClampNeg)) 17 i) (0 : Int32).toNatClampNeg (0 : Int32).toNatClampNeg (6 : Int32).toNatClampNeg)) 18 j) (gA (sA (sA w 16 i (va_cpy (gA w 16 j) (gA w 16 i) (0 : Int32).toNatClampNeg (0 : Int32).toNatClampNeg (6 : Int32).toNatClampNeg)) 17 i (va_cpy (gA (sA w 16 i (va_cpy (gA w 16 j) (gA w 16 i) (0 : Int32).toNatClampNeg (0 : Int32).toNatClampNeg (6 : Int32).toNatClampNeg)) 17 j) (gA (sA w 16 i (va_cpy (gA w 16 j) (gA w 16 i) (0 : Int32).toNatClampNeg (0 : Int32).toNatClampNeg (6 : Int32).toNatClampNeg)) 17 i) (0 : Int32).toNatClampNeg (0 : Int32).toNatClampNeg (6 : Int32).toNatClampNeg)) 18 i) (0 : Int32).toNatClampNeg (0 : Int32).toNatClampNeg (6 : Int32).toNatClampNeg)) 19 i) (0 : Int32).toNatClampNeg (0 : Int32).toNatClampNeg (42 : Int32).toNatClampNeg)) 4 i (gI (sA (sA (sA (sA w 16 i (va_cpy (gA w 16 j) (gA w 16 i) (0 : Int32).toNatClampNeg (0 : Int32).toNatClampNeg (6 : Int32).toNatClampNeg)) 17 i (va_cpy (gA (sA w 16 i (va_cpy (gA w 16 j) (gA w 16 i) (0 : Int32).toNatClampNeg (0 : Int32).toNatClampNeg (6 : Int32).toNatClampNeg)) 17 j) (gA (sA w 16 i (va_cpy (gA w 16 j) (gA w 16 i) (0 : Int32).toNatClampNeg (0 : Int32).toNatClampNeg (6 : Int32).toNatClampNeg)) 17 i) (0 : Int32).toNatClampNeg (0 : Int32).toNatClampNeg (6 : Int32).toNatClampNeg)) 18 i (va_cpy (gA (sA (sA w 16 i (va_cpy (gA w 16 j) (gA w 16 i) (0 : Int32).toNatClampNeg (0 : Int32).toNatClampNeg (6 : Int32).toNatClampNeg)) 17 i (va_cpy (gA (sA w 16 i (va_cpy (gA w 16 j) (gA w 16 i) (0 : Int32).toNatClampNeg (0 : Int32).toNatClampNeg (6 : Int32).toNatClampNeg)) 17 j) (gA (sA w 16 i (va_cpy (gA w 16 j) (gA w 16 i) (0 : Int32).toNatClampNeg (0 : Int32).toNatClampNeg (6 : Int32).toNatClampNeg)) 17 i) (0 : Int32).toNatClampNeg (0 : Int32).toNatClampNeg (6 : Int32).toNatClampNeg)) 18 j) (gA (sA (sA w 16 i (va_cpy (gA w 16 j) (gA w 16 i) (0 : Int32).toNatClampNeg (0 : Int32).toNatClampNeg (6 : Int32).toNatClampNeg)) 17 i (va_cpy (gA (sA w 16 i (va_cpy (gA w 16 j) (gA w 16 i) (0 : Int32).toNatClampNeg (0 : Int32).toNatClampNeg (6 : Int32).toNatClampNeg)) 17 j) (gA (sA w 16 i (va_cpy (gA w 16 j) (gA w 16 i) (0 : Int32).toNatClampNeg (0 : Int32).toNatClampNeg (6 : Int32).toNatClampNeg)) 17 i) (0 : Int32).toNatClampNeg (0 : Int32).toNatClampNeg (6 : Int32).toNatClampNeg)) 18 i) (0 : Int32).toNatClampNeg (0 : Int32).toNatClampNeg (6 : Int32).toNatClampNeg)) 19 i (va_cpy (gA (sA (sA (sA w 16 i (va_cpy (gA w 16 j) (gA w 16 i) (0 : Int32).toNatClampNeg (0 : Int32).toNatClampNeg (6 : Int32).toNatClampNeg)) 17 i (va_cpy (gA (sA w 16 i (va_cpy (gA w 16 j) (gA w 16 i) (0 : Int32).toNatClampNeg (0 : Int32).toNatClampNeg (6 : Int32).toNatClampNeg)) 17 j) (gA (sA w 16 i (va_cpy (gA w 16 j) (gA w 16 i) (0 : Int32).toNatClampNeg (0 : Int32).toNatClampNeg (6 : Int32).toNatClampNeg)) 17 i) (0 : Int32).toNatClampNeg (0 : Int32).toNatClampNeg (6 : Int32).toNatClampNeg)) 18 i (va_cpy (gA (sA (sA w 16 i (va_cpy (gA w 16 j) (gA w 16 i) (0 : Int32).toNatClampNeg (0 : Int32).toNatClampNeg (6 : Int32).toNatClampNeg)) 17 i (va_cpy (gA (sA w 16 i (va_cpy (gA w 16 j) (gA w 16 i) (0 : Int32).toNatClampNeg (0 : Int32).toNatClampNeg (6 : Int32).toNatClampNeg)) 17 j) (gA (sA w 16 i (va_cpy (gA w 16 j) (gA w 16 i) (0 : Int32).toNatClampNeg (0 : Int32).toNatClampNeg (6 : Int32).toNatClampNeg)) 17 i) (0 : Int32).toNatClampNeg (0 : Int32).toNatClampNeg (6 : Int32).toNatClampNeg)) 18 j) (gA (sA (sA w 16 i (va_cpy (gA w 16 j) (gA w 16 i) (0 : Int32).toNatClampNeg (0 : Int32).toNatClampNeg (6 : Int32).toNatClampNeg)) 17 i (va_cpy (gA (sA w 16 i (va_cpy (gA w 16 j) (gA w 16 i) (0 : Int32).toNatClampNeg (0 : Int32).toNatClampNeg (6 : Int32).toNatClampNeg)) 17 j) (gA (sA w 16 i (va_cpy (gA w 16 j) (gA w 16 i) (0 : Int32).toNatClampNeg (0 : Int32).toNatClampNeg (6 : Int32).toNatClampNeg)) 17 i) (0 : Int32).toNatClampNeg (0 : Int32).toNatClampNeg (6 : Int32).toNatClampNeg)) 18 i) (0 : Int32).toNatClampNeg (0 : Int32).toNatClampNeg (6 : Int32).toNatClampNeg)) 19 j) (gA (sA (sA (sA w 16 i (va_cpy (gA w 16 j) (gA w 16 i) (0 : Int32).toNatClampNeg (0 : Int32).toNatClampNeg (6 : Int32).toNatClampNeg)) 17 i (va_cpy (gA (sA w 16 i (va_cpy (gA w 16 j) (gA w 16 i) (0 : Int32).toNatClampNeg (0 : Int32).toNatClampNeg (6 : Int32).toNatClampNeg)) 17 j) (gA (sA w 16 i (va_cpy (gA w 16 j) (gA w 16 i) (0 : Int32).toNatClampNeg (0 : Int32).toNatClampNeg (6 : Int32).toNatClampNeg)) 17 i) (0 : Int32).toNatClampNeg (0 : Int32).toNatClampNeg (6 : Int32).toNatClampNeg)) 18 i (va_cpy (gA (sA (sA w 16 i (va_cpy (gA w 16 j) (gA w 16 i) (0 : Int32).toNatClampNeg (0 : Int32).toNatClampNeg (6 : Int32).toNatClampNeg)) 17 i (va_cpy (gA (sA w 16 i (va_cpy (gA w 16 j) (gA w 16 i) (0 : Int32).toNatClampNeg (0 : Int32).toNatClampNeg (6 : Int32).toNatClampNeg)) 17 j) (gA (sA w 16 i (va_cpy (gA w 16 j) (gA w 16 i) (0 : Int32).toNatClampNeg (0 : Int32).toNatClampNeg (6 : Int32).toNatClampNeg)) 17 i) (0 : Int32).toNatClampNeg (0 : Int32).toNatClampNeg (6 : Int32).toNatClampNeg)) 18 j) (gA (sA (sA w 16 i (va_cpy (gA w 16 j) (gA w 16 i) (0 : Int32).toNatClampNeg (0 : Int32).toNatClampNeg (6 : Int32).toNatClampNeg)) 17 i (va_cpy (gA (sA w 16 i (va_cpy (gA w 16 j) (gA w 16 i) (0 : Int32).toNatClampNeg (0 : Int32).toNatClampNeg (6 : Int32).toNatClampNeg)) 17 j) (gA (sA w 16 i (va_cpy (gA w 16 j) (gA w 16 i) (0 : Int32).toNatClampNeg (0 : Int32).toNatClampNeg (6 : Int32).toNatClampNeg)) 17 i) (0 : Int32).toNatClampNeg (0 : Int32).toNatClampNeg (6 : Int32).toNatClampNeg)) 18 i) (0 : Int32).toNatClampNeg (0 : Int32).toNatClampNeg (6 : Int32).toNatClampNeg)) 19 i) (0 : Int32).toNatClampNeg (0 : Int32).toNatClampNeg (42 : Int32).toNatClampNeg)) 4 j)) 5 j)) 6 j))))))
set_option maxRecDepth 20000 in
set_option maxHeartbeats 4000000 in
theorem s_X0_become (G : GT) (l : Launch) (N : Nat) (i : Nat) (j : Nat) (hi : i < 2) (hj : j < 2) (w : Wd) (q : Wd) (h : f_X0_become N i j w = some q) : Sp G l yX0_become cw_X0_become 1 [vr 3 i, vr 3 j] w none q := by
  refine Sp_of (own := RX0) [some (vr 3 i), some (vr 3 j)] (by decide) rfl rfl (Nat.le_of_ble_eq_true rfl) ?_
  intro x hG hl hC hr hQ _ _
  subst hG
  subst hl
  unfold f_X0_become at h
  refine Z_aload_n hC (dk d_X0_become 0 rfl) 1 rfl rfl rfl ?_
  refine G_X0_9 hC (m_3 hj) (dk d_X0_become 1 rfl) 4 rfl ?_
  refine Z_iconst (v := 0) hC (dk d_X0_become 2 rfl) 5 rfl (by decide) ?_
  refine Z_aload_n hC (dk d_X0_become 3 rfl) 6 rfl rfl rfl ?_
  refine G_X0_9 hC (m_3 hi) (dk d_X0_become 4 rfl) 9 rfl ?_
  refine Z_iconst (v := 0) hC (dk d_X0_become 5 rfl) 10 rfl (by decide) ?_
  refine Z_bipush (v := 6) hC (dk d_X0_become 6 rfl) 12 rfl (by decide) ?_
  obtain ⟨g1, h⟩ := gd_some h
  refine Z_copy hC (m_16 hj) (m_16 hi) (by decide) (by decide) rfl rfl ml_X0_38 wac_native wac_static wini_J10 g1.1 g1.2.1 g1.2.2.1 g1.2.2.2.1 g1.2.2.2.2 (by decide) rfl (Nat.le_of_ble_eq_true rfl) (dk d_X0_become 7 rfl) 15 rfl ?_
  refine Z_aload_n hC (dk d_X0_become 8 rfl) 16 rfl rfl rfl ?_
  refine G_X0_15 hC (m_3 hj) (dk d_X0_become 9 rfl) 19 rfl ?_
  refine Z_iconst (v := 0) hC (dk d_X0_become 10 rfl) 20 rfl (by decide) ?_
  refine Z_aload_n hC (dk d_X0_become 11 rfl) 21 rfl rfl rfl ?_
  refine G_X0_15 hC (m_3 hi) (dk d_X0_become 12 rfl) 24 rfl ?_
  refine Z_iconst (v := 0) hC (dk d_X0_become 13 rfl) 25 rfl (by decide) ?_
  refine Z_bipush (v := 6) hC (dk d_X0_become 14 rfl) 27 rfl (by decide) ?_
  obtain ⟨g2, h⟩ := gd_some h
  refine Z_copy hC (m_17 hj) (m_17 hi) (by decide) (by decide) rfl rfl ml_X0_38 wac_native wac_static wini_J10 g2.1 g2.2.1 g2.2.2.1 g2.2.2.2.1 g2.2.2.2.2 (by decide) rfl (Nat.le_of_ble_eq_true rfl) (dk d_X0_become 15 rfl) 30 rfl ?_
  refine Z_aload_n hC (dk d_X0_become 16 rfl) 31 rfl rfl rfl ?_
  refine G_X0_18 hC (m_3 hj) (dk d_X0_become 17 rfl) 34 rfl ?_
  refine Z_iconst (v := 0) hC (dk d_X0_become 18 rfl) 35 rfl (by decide) ?_
  refine Z_aload_n hC (dk d_X0_become 19 rfl) 36 rfl rfl rfl ?_
  refine G_X0_18 hC (m_3 hi) (dk d_X0_become 20 rfl) 39 rfl ?_
  refine Z_iconst (v := 0) hC (dk d_X0_become 21 rfl) 40 rfl (by decide) ?_
  refine Z_bipush (v := 6) hC (dk d_X0_become 22 rfl) 42 rfl (by decide) ?_
  obtain ⟨g3, h⟩ := gd_some h
  refine Z_copy hC (m_18 hj) (m_18 hi) (by decide) (by decide) rfl rfl ml_X0_38 wac_native wac_static wini_J10 g3.1 g3.2.1 g3.2.2.1 g3.2.2.2.1 g3.2.2.2.2 (by decide) rfl (Nat.le_of_ble_eq_true rfl) (dk d_X0_become 23 rfl) 45 rfl ?_
  refine Z_aload_n hC (dk d_X0_become 24 rfl) 46 rfl rfl rfl ?_
  refine G_X0_21 hC (m_3 hj) (dk d_X0_become 25 rfl) 49 rfl ?_
  refine Z_iconst (v := 0) hC (dk d_X0_become 26 rfl) 50 rfl (by decide) ?_
  refine Z_aload_n hC (dk d_X0_become 27 rfl) 51 rfl rfl rfl ?_
  refine G_X0_21 hC (m_3 hi) (dk d_X0_become 28 rfl) 54 rfl ?_
  refine Z_iconst (v := 0) hC (dk d_X0_become 29 rfl) 55 rfl (by decide) ?_
  refine Z_aload_n hC (dk d_X0_become 30 rfl) 56 rfl rfl rfl ?_
  refine G_X0_21 hC (m_3 hi) (dk d_X0_become 31 rfl) 59 rfl ?_
  refine Z_alen (v := 42) hC (m_19 hi) (by decide) (by decide) (by decide) (dk d_X0_become 32 rfl) 60 rfl ?_
  obtain ⟨g4, h⟩ := gd_some h
  refine Z_copy hC (m_19 hj) (m_19 hi) (by decide) (by decide) rfl rfl ml_X0_38 wac_native wac_static wini_J10 g4.1 g4.2.1 g4.2.2.1 g4.2.2.2.1 g4.2.2.2.2 (by decide) rfl (Nat.le_of_ble_eq_true rfl) (dk d_X0_become 33 rfl) 63 rfl ?_
  refine Z_aload_n hC (dk d_X0_become 34 rfl) 64 rfl rfl rfl ?_
  refine Z_aload_n hC (dk d_X0_become 35 rfl) 65 rfl rfl rfl ?_
  refine G_X0_28 hC (m_3 hj) (dk d_X0_become 36 rfl) 68 rfl ?_
  refine P_X0_28 hC (m_3 hi) (dk d_X0_become 37 rfl) 71 rfl ?_
  refine Z_aload_n hC (dk d_X0_become 38 rfl) 72 rfl rfl rfl ?_
  refine Z_aload_n hC (dk d_X0_become 39 rfl) 73 rfl rfl rfl ?_
  refine G_X0_31 hC (m_3 hj) (dk d_X0_become 40 rfl) 76 rfl ?_
  refine P_X0_31 hC (m_3 hi) (dk d_X0_become 41 rfl) 79 rfl ?_
  refine Z_aload_n hC (dk d_X0_become 42 rfl) 80 rfl rfl rfl ?_
  refine Z_aload_n hC (dk d_X0_become 43 rfl) 81 rfl rfl rfl ?_
  refine G_X0_24 hC (m_3 hj) (dk d_X0_become 44 rfl) 84 rfl ?_
  refine P_X0_24 hC (m_3 hi) (dk d_X0_become 45 rfl) 87 rfl ?_
  obtain rfl := Option.some.inj h
  exact Z_return (st := []) hC hr hQ (dk d_X0_become 46 rfl)
def t_X0_addYear : List (Nat × Instr × Nat) := [(0, .aload_n 0, 1), (1, .getfield 31, 3), (4, .aload_n 0, 1), (5, .getfield 21, 3), (8, .arraylength, 1), (9, .if_icmp .ge 23, 3), (12, .aload_n 0, 1), (13, .getfield 21, 3), (16, .aload_n 0, 1), (17, .getfield 31, 3), (20, .iload_n 1, 1), (21, .iastore, 1), (22, .aload_n 0, 1), (23, .dup, 1), (24, .getfield 31, 3), (27, .iconst 1, 1), (28, .iadd, 1), (29, .putfield 31, 3), (32, .return_, 1)]
set_option maxRecDepth 20000 in
theorem d_X0_addYear : ∀ q ∈ t_X0_addYear, decode cX0_addYear q.1 = .ok q.2 := by decide +kernel
noncomputable def f_X0_addYear (N : Nat) (i : Nat) (a1 : Int32) (w : Wd) : Option (Wd) :=
  if (42 : Int32) ≤ (gI w 5 i) then
    some w
  else
    gd (vp_in (gI w 5 i) 42) (
    some (sI (sA w 19 i (upd (gA w 19 i) (gI w 5 i).toNatClampNeg a1)) 5 i ((gI (sA w 19 i (upd (gA w 19 i) (gI w 5 i).toNatClampNeg a1)) 5 i) + (1 : Int32))))
set_option maxRecDepth 20000 in
set_option maxHeartbeats 4000000 in
theorem s_X0_addYear (G : GT) (l : Launch) (N : Nat) (i : Nat) (hi : i < 2) (a1 : Int32) (w : Wd) (q : Wd) (h : f_X0_addYear N i a1 w = some q) : Sp G l yX0_addYear cw_X0_addYear 0 [vr 3 i, vi a1] w none q := by
  refine Sp_of (own := RX0) [some (vr 3 i), some (vi a1)] (by decide) rfl rfl (Nat.le_of_ble_eq_true rfl) ?_
  intro x hG hl hC hr hQ _ _
  subst hG
  subst hl
  unfold f_X0_addYear at h
  refine Z_aload_n hC (dk d_X0_addYear 0 rfl) 1 rfl rfl rfl ?_
  refine G_X0_31 hC (m_3 hi) (dk d_X0_addYear 1 rfl) 4 rfl ?_
  refine Z_aload_n hC (dk d_X0_addYear 2 rfl) 5 rfl rfl rfl ?_
  refine G_X0_21 hC (m_3 hi) (dk d_X0_addYear 3 rfl) 8 rfl ?_
  refine Z_alen (v := 42) hC (m_19 hi) (by decide) (by decide) (by decide) (dk d_X0_addYear 4 rfl) 9 rfl ?_
  refine Z_icmp_ge hC (dk d_X0_addYear 5 rfl) 12 32 rfl (by decide) (fun c => ?_) (fun c => ?_)
  · have h := it_t h c
    obtain rfl := Option.some.inj h
    exact Z_return (st := []) hC hr hQ (dk d_X0_addYear 18 rfl)
  · have h := it_f h c
    refine Z_aload_n hC (dk d_X0_addYear 6 rfl) 13 rfl rfl rfl ?_
    refine G_X0_21 hC (m_3 hi) (dk d_X0_addYear 7 rfl) 16 rfl ?_
    refine Z_aload_n hC (dk d_X0_addYear 8 rfl) 17 rfl rfl rfl ?_
    refine G_X0_31 hC (m_3 hi) (dk d_X0_addYear 9 rfl) 20 rfl ?_
    refine Z_iload_n hC (dk d_X0_addYear 10 rfl) 21 rfl rfl rfl ?_
    obtain ⟨g1, h⟩ := gd_some h
    refine Z_iastore hC (m_19 hi) (by decide) rfl g1 (dk d_X0_addYear 11 rfl) 22 rfl ?_
    refine Z_aload_n hC (dk d_X0_addYear 12 rfl) 23 rfl rfl rfl ?_
    refine Z_dup hC (dk d_X0_addYear 13 rfl) 24 rfl rfl ?_
    refine G_X0_31 hC (m_3 hi) (dk d_X0_addYear 14 rfl) 27 rfl ?_
    refine Z_iconst (v := 1) hC (dk d_X0_addYear 15 rfl) 28 rfl (by decide) ?_
    refine Z_iadd hC (dk d_X0_addYear 16 rfl) 29 rfl ?_
    refine P_X0_31 hC (m_3 hi) (dk d_X0_addYear 17 rfl) 32 rfl ?_
    obtain rfl := Option.some.inj h
    exact Z_return (st := []) hC hr hQ (dk d_X0_addYear 18 rfl)
def t_X0_hadYear : List (Nat × Instr × Nat) := [(0, .iconst 0, 1), (1, .istore_n 2, 1), (2, .iload_n 2, 1), (3, .aload_n 0, 1), (4, .getfield 31, 3), (7, .if_icmp .ge 21, 3), (10, .aload_n 0, 1), (11, .getfield 21, 3), (14, .iload_n 2, 1), (15, .iaload, 1), (16, .iload_n 1, 1), (17, .if_icmp .ne 5, 3), (20, .iconst 1, 1), (21, .ireturn, 1), (22, .iinc 2 1, 3), (25, .goto (-23), 3), (28, .iconst 0, 1), (29, .ireturn, 1)]
set_option maxRecDepth 20000 in
theorem d_X0_hadYear : ∀ q ∈ t_X0_hadYear, decode cX0_hadYear q.1 = .ok q.2 := by decide +kernel
noncomputable def X0_hadYear_L1 (N : Nat) (i : Nat) (x1 : Int32) : Nat → Int32 → Wd → Option ((Int32 × Wd) ⊕ (Wd))
  | 0, _, _ => none
  | n + 1, x2, w =>
  if (gI w 5 i) ≤ x2 then
    some (.inr w)
  else
    gd (vp_in x2 42) (
    if (gA w 19 i x2.toNatClampNeg) = x1 then
      some (.inl ((1 : Int32), w))
    else
      X0_hadYear_L1 N i x1 n (x2 + (1 : Int32)) w)
set_option maxRecDepth 20000 in
set_option maxHeartbeats 4000000 in
theorem z_X0_hadYear_L1 {x : CX} (hC : Cx x RX0 cX0_hadYear 3 0) (hr : (xM x).sig.returnType = (some .boolean)) (N : Nat) (i : Nat) (hi : i < 2) (x1 : Int32) : ∀ (n : Nat) (x2 : Int32) (w : Wd) (q : ((Int32 × Wd) ⊕ (Wd))), X0_hadYear_L1 N i x1 n x2 w = some q → (∀ r : Int32 × Wd, q = .inl r → Rt x (some (vi r.1)) r.2) → (∀ o : Wd, q = .inr o → Z x 28 [none, none, none] [] o) → Z x 2 [some (vr 3 i), some (vi x1), some (vi x2)] [] w := by
  intro n
  induction n with
  | zero =>
    intro x2 w q h
    cases h
  | succ n ih =>
    intro x2 w q h kr ke
    rw [X0_hadYear_L1] at h
    refine Z_iload_n hC (dk d_X0_hadYear 2 rfl) 3 rfl rfl rfl ?_
    refine Z_aload_n hC (dk d_X0_hadYear 3 rfl) 4 rfl rfl rfl ?_
    refine G_X0_31 hC (m_3 hi) (dk d_X0_hadYear 4 rfl) 7 rfl ?_
    refine Z_icmp_ge hC (dk d_X0_hadYear 5 rfl) 10 28 rfl (by decide) (fun c => ?_) (fun c => ?_)
    · have h := it_t h c
      obtain rfl := Option.some.inj h
      refine Z_wk [false, false, false] [none, none, none] rfl ?_
      exact ke _ rfl
    · have h := it_f h c
      refine Z_aload_n hC (dk d_X0_hadYear 6 rfl) 11 rfl rfl rfl ?_
      refine G_X0_21 hC (m_3 hi) (dk d_X0_hadYear 7 rfl) 14 rfl ?_
      refine Z_iload_n hC (dk d_X0_hadYear 8 rfl) 15 rfl rfl rfl ?_
      obtain ⟨g1, h⟩ := gd_some h
      refine Z_iaload hC (m_19 hi) (by decide) rfl g1 (dk d_X0_hadYear 9 rfl) 16 rfl ?_
      refine Z_iload_n hC (dk d_X0_hadYear 10 rfl) 17 rfl rfl rfl ?_
      refine Z_icmp_ne hC (dk d_X0_hadYear 11 rfl) 20 22 rfl (by decide) (fun c => ?_) (fun c => ?_)
      · have h := it_f h c
        refine Z_iinc hC (dk d_X0_hadYear 14 rfl) 25 rfl rfl rfl [some (vr 3 i), some (vi x1), some (vi (x2 + (1 : Int32)))] rfl ?_
        refine Z_goto hC (dk d_X0_hadYear 15 rfl) 2 (by decide) ?_
        refine Z_wk [true, true, true] [some (vr 3 i), some (vi x1), some (vi (x2 + (1 : Int32)))] rfl ?_
        exact ih (x2 + (1 : Int32)) w _ h kr ke
      · have h := it_t h c
        refine Z_iconst (v := 1) hC (dk d_X0_hadYear 12 rfl) 21 rfl (by decide) ?_
        obtain rfl := Option.some.inj h
        exact Z_zreturn (st := []) hC hr rfl (kr _ rfl) (dk d_X0_hadYear 13 rfl)
noncomputable def f_X0_hadYear (N : Nat) (i : Nat) (a1 : Int32) (w : Wd) : Option (Int32 × Wd) :=
  (X0_hadYear_L1 N i a1 N (0 : Int32) w).bind (Sum.elim some (fun q2 =>
    some ((0 : Int32), q2)))
set_option maxRecDepth 20000 in
set_option maxHeartbeats 4000000 in
theorem s_X0_hadYear (G : GT) (l : Launch) (N : Nat) (i : Nat) (hi : i < 2) (a1 : Int32) (w : Wd) (q : Int32 × Wd) (h : f_X0_hadYear N i a1 w = some q) : Sp G l yX0_hadYear cw_X0_hadYear 0 [vr 3 i, vi a1] w (some (vi q.1)) q.2 := by
  refine Sp_of (own := RX0) [some (vr 3 i), some (vi a1), none] (by decide) rfl rfl (Nat.le_of_ble_eq_true rfl) ?_
  intro x hG hl hC hr hQ _ _
  subst hG
  subst hl
  unfold f_X0_hadYear at h
  refine Z_iconst (v := 0) hC (dk d_X0_hadYear 0 rfl) 1 rfl (by decide) ?_
  refine Z_istore_n hC (dk d_X0_hadYear 1 rfl) 2 rfl rfl (Nat.le_of_ble_eq_true rfl) [some (vr 3 i), some (vi a1), some (vi (0 : Int32))] rfl ?_
  obtain ⟨q2, hq2, h⟩ := bd_some h
  refine Z_wk [true, true, true] [some (vr 3 i), some (vi a1), some (vi (0 : Int32))] rfl ?_
  refine z_X0_hadYear_L1 hC hr N i hi a1 N (0 : Int32) w q2 hq2 (fun r e => ?_) (fun o e => ?_)
  · subst e
    obtain rfl := Option.some.inj h
    exact hQ
  · subst e
    obtain ⟨q2, rfl⟩ : ∃ z, z = o := ⟨_, rfl⟩
    refine Z_iconst (v := 0) hC (dk d_X0_hadYear 16 rfl) 29 rfl (by decide) ?_
    obtain rfl := Option.some.inj h
    exact Z_zreturn (st := []) hC hr rfl hQ (dk d_X0_hadYear 17 rfl)
def t_X4_paper : List (Nat × Instr × Nat) := [(0, .iload_n 0, 1), (1, .iconst 3, 1), (2, .iload_n 1, 1), (3, .imul, 1), (4, .ishr, 1), (5, .bipush 7, 2), (7, .iand, 1), (8, .ireturn, 1)]
set_option maxRecDepth 20000 in
theorem d_X4_paper : ∀ q ∈ t_X4_paper, decode cX4_paper q.1 = .ok q.2 := by decide +kernel
noncomputable def f_X4_paper (N : Nat) (a1 : Int32) (a2 : Int32) (w : Wd) : Option (Int32 × Wd) :=
  some ((a1 >>> (((3 : Int32) * a2) &&& (31 : Int32))) &&& (7 : Int32), w)
set_option maxRecDepth 20000 in
set_option maxHeartbeats 4000000 in
theorem s_X4_paper (G : GT) (l : Launch) (N : Nat) (a1 : Int32) (a2 : Int32) (w : Wd) (q : Int32 × Wd) (h : f_X4_paper N a1 a2 w = some q) : Sp G l yX4_paper cw_X4_paper 0 [vi a1, vi a2] w (some (vi q.1)) q.2 := by
  refine Sp_of (own := RX4) [some (vi a1), some (vi a2)] (by decide) rfl rfl (Nat.le_of_ble_eq_true rfl) ?_
  intro x hG hl hC hr hQ _ _
  subst hG
  subst hl
  unfold f_X4_paper at h
  refine Z_iload_n hC (dk d_X4_paper 0 rfl) 1 rfl rfl rfl ?_
  refine Z_iconst (v := 3) hC (dk d_X4_paper 1 rfl) 2 rfl (by decide) ?_
  refine Z_iload_n hC (dk d_X4_paper 2 rfl) 3 rfl rfl rfl ?_
  refine Z_imul hC (dk d_X4_paper 3 rfl) 4 rfl ?_
  refine Z_ishr hC (dk d_X4_paper 4 rfl) 5 rfl ?_
  refine Z_bipush (v := 7) hC (dk d_X4_paper 5 rfl) 7 rfl (by decide) ?_
  refine Z_iand hC (dk d_X4_paper 6 rfl) 8 rfl ?_
  obtain rfl := Option.some.inj h
  exact Z_ireturn (st := []) hC hr hQ (dk d_X4_paper 7 rfl)
def t_X0_latest : List (Nat × Instr × Nat) := [(0, .aload_n 0, 1), (1, .getfield 31, 3), (4, .ifCond .ne 8, 3), (7, .bipush (-9), 2), (9, .goto 18, 3), (12, .aload_n 0, 1), (13, .getfield 21, 3), (16, .aload_n 0, 1), (17, .getfield 31, 3), (20, .iconst 1, 1), (21, .isub, 1), (22, .iaload, 1), (23, .iload_n 1, 1), (24, .invokestatic 44, 3), (27, .ireturn, 1)]
set_option maxRecDepth 20000 in
theorem d_X0_latest : ∀ q ∈ t_X0_latest, decode cX0_latest q.1 = .ok q.2 := by decide +kernel
noncomputable def f_X0_latest (N : Nat) (i : Nat) (a1 : Int32) (w : Wd) : Option (Int32 × Wd) :=
  if (gI w 5 i) = 0 then
    some ((-9 : Int32), w)
  else
    gd (vp_in ((gI w 5 i) - (1 : Int32)) 42) (
    (f_X4_paper N (gA w 19 i ((gI w 5 i) - (1 : Int32)).toNatClampNeg) a1 w).bind (fun q2 =>
      some (q2.1, q2.2)))
set_option maxRecDepth 20000 in
set_option maxHeartbeats 4000000 in
theorem s_X0_latest (G : GT) (l : Launch) (N : Nat) (i : Nat) (hi : i < 2) (a1 : Int32) (w : Wd) (q : Int32 × Wd) (h : f_X0_latest N i a1 w = some q) : Sp G l yX0_latest cw_X0_latest 1 [vr 3 i, vi a1] w (some (vi q.1)) q.2 := by
  refine Sp_of (own := RX0) [some (vr 3 i), some (vi a1)] (by decide) rfl rfl (Nat.le_of_ble_eq_true rfl) ?_
  intro x hG hl hC hr hQ _ _
  subst hG
  subst hl
  unfold f_X0_latest at h
  refine Z_aload_n hC (dk d_X0_latest 0 rfl) 1 rfl rfl rfl ?_
  refine G_X0_31 hC (m_3 hi) (dk d_X0_latest 1 rfl) 4 rfl ?_
  refine Z_if_ne hC (dk d_X0_latest 2 rfl) 7 12 rfl (by decide) (fun c => ?_) (fun c => ?_)
  · have h := it_f h c
    refine Z_aload_n hC (dk d_X0_latest 5 rfl) 13 rfl rfl rfl ?_
    refine G_X0_21 hC (m_3 hi) (dk d_X0_latest 6 rfl) 16 rfl ?_
    refine Z_aload_n hC (dk d_X0_latest 7 rfl) 17 rfl rfl rfl ?_
    refine G_X0_31 hC (m_3 hi) (dk d_X0_latest 8 rfl) 20 rfl ?_
    refine Z_iconst (v := 1) hC (dk d_X0_latest 9 rfl) 21 rfl (by decide) ?_
    refine Z_isub hC (dk d_X0_latest 10 rfl) 22 rfl ?_
    obtain ⟨g1, h⟩ := gd_some h
    refine Z_iaload hC (m_19 hi) (by decide) rfl g1 (dk d_X0_latest 11 rfl) 23 rfl ?_
    refine Z_iload_n hC (dk d_X0_latest 12 rfl) 24 rfl rfl rfl ?_
    obtain ⟨q2, hq2, h⟩ := bd_some h
    refine K_X0_44 [vi (gA w 19 i ((gI w 5 i) - (1 : Int32)).toNatClampNeg), vi a1] hC (s_X4_paper (xG x) (xl x) N (gA w 19 i ((gI w 5 i) - (1 : Int32)).toNatClampNeg) a1 w q2 hq2) (Nat.le_of_ble_eq_true rfl) rfl rfl rfl (Nat.le_of_ble_eq_true rfl) (dk d_X0_latest 13 rfl) 27 rfl ?_
    obtain rfl := Option.some.inj h
    exact Z_ireturn (st := []) hC hr hQ (dk d_X0_latest 14 rfl)
  · have h := it_t h c
    refine Z_bipush (v := -9) hC (dk d_X0_latest 3 rfl) 9 rfl (by decide) ?_
    refine Z_goto hC (dk d_X0_latest 4 rfl) 27 (by decide) ?_
    obtain rfl := Option.some.inj h
    exact Z_ireturn (st := []) hC hr hQ (dk d_X0_latest 14 rfl)
def t_X0_fact : List (Nat × Instr × Nat) := [(0, .iload_n 2, 1), (1, .tableswitch 48 0 2 #[27, 34, 41], 27), (28, .aload_n 0, 1), (29, .getfield 9, 3), (32, .iload_n 1, 1), (33, .iaload, 1), (34, .ireturn, 1), (35, .aload_n 0, 1), (36, .getfield 15, 3), (39, .iload_n 1, 1), (40, .iaload, 1), (41, .ireturn, 1), (42, .aload_n 0, 1), (43, .getfield 18, 3), (46, .iload_n 1, 1), (47, .iaload, 1), (48, .ireturn, 1), (49, .aload_n 0, 1), (50, .iload_n 1, 1), (51, .invokevirtual 48, 3), (54, .ireturn, 1)]
set_option maxRecDepth 20000 in
theorem d_X0_fact : ∀ q ∈ t_X0_fact, decode cX0_fact q.1 = .ok q.2 := by decide +kernel
noncomputable def f_X0_fact (N : Nat) (i : Nat) (a1 : Int32) (a2 : Int32) (w : Wd) : Option (Int32 × Wd) :=
  if a2 = (0 : Int32) then
    gd (vp_in a1 6) (
    some (gA w 16 i a1.toNatClampNeg, w))
  else
  if a2 = (1 : Int32) then
    gd (vp_in a1 6) (
    some (gA w 17 i a1.toNatClampNeg, w))
  else
  if a2 = (2 : Int32) then
    gd (vp_in a1 6) (
    some (gA w 18 i a1.toNatClampNeg, w))
  else
    (f_X0_latest N i a1 w).bind (fun q4 =>
      some (q4.1, q4.2))
set_option maxRecDepth 20000 in
set_option maxHeartbeats 4000000 in
theorem s_X0_fact (G : GT) (l : Launch) (N : Nat) (i : Nat) (hi : i < 2) (a1 : Int32) (a2 : Int32) (w : Wd) (q : Int32 × Wd) (h : f_X0_fact N i a1 a2 w = some q) : Sp G l yX0_fact cw_X0_fact 2 [vr 3 i, vi a1, vi a2] w (some (vi q.1)) q.2 := by
  refine Sp_of (own := RX0) [some (vr 3 i), some (vi a1), some (vi a2)] (by decide) rfl rfl (Nat.le_of_ble_eq_true rfl) ?_
  intro x hG hl hC hr hQ _ _
  subst hG
  subst hl
  unfold f_X0_fact at h
  refine Z_iload_n hC (dk d_X0_fact 0 rfl) 1 rfl rfl rfl ?_
  by_cases c0 : a2 = (0 : Int32)
  · have h := it_t h c0
    refine Z_swIn hC (dk d_X0_fact 1 rfl) (m := 0) (by rw [c0]; rfl) (by decide) (by decide) rfl 28 (by decide) ?_
    refine Z_aload_n hC (dk d_X0_fact 2 rfl) 29 rfl rfl rfl ?_
    refine G_X0_9 hC (m_3 hi) (dk d_X0_fact 3 rfl) 32 rfl ?_
    refine Z_iload_n hC (dk d_X0_fact 4 rfl) 33 rfl rfl rfl ?_
    obtain ⟨g1, h⟩ := gd_some h
    refine Z_iaload hC (m_16 hi) (by decide) rfl g1 (dk d_X0_fact 5 rfl) 34 rfl ?_
    obtain rfl := Option.some.inj h
    exact Z_ireturn (st := []) hC hr hQ (dk d_X0_fact 6 rfl)
  have h := it_f h c0
  by_cases c1 : a2 = (1 : Int32)
  · have h := it_t h c1
    refine Z_swIn hC (dk d_X0_fact 1 rfl) (m := 1) (by rw [c1]; rfl) (by decide) (by decide) rfl 35 (by decide) ?_
    refine Z_aload_n hC (dk d_X0_fact 7 rfl) 36 rfl rfl rfl ?_
    refine G_X0_15 hC (m_3 hi) (dk d_X0_fact 8 rfl) 39 rfl ?_
    refine Z_iload_n hC (dk d_X0_fact 9 rfl) 40 rfl rfl rfl ?_
    obtain ⟨g2, h⟩ := gd_some h
    refine Z_iaload hC (m_17 hi) (by decide) rfl g2 (dk d_X0_fact 10 rfl) 41 rfl ?_
    obtain rfl := Option.some.inj h
    exact Z_ireturn (st := []) hC hr hQ (dk d_X0_fact 11 rfl)
  have h := it_f h c1
  by_cases c2 : a2 = (2 : Int32)
  · have h := it_t h c2
    refine Z_swIn hC (dk d_X0_fact 1 rfl) (m := 2) (by rw [c2]; rfl) (by decide) (by decide) rfl 42 (by decide) ?_
    refine Z_aload_n hC (dk d_X0_fact 12 rfl) 43 rfl rfl rfl ?_
    refine G_X0_18 hC (m_3 hi) (dk d_X0_fact 13 rfl) 46 rfl ?_
    refine Z_iload_n hC (dk d_X0_fact 14 rfl) 47 rfl rfl rfl ?_
    obtain ⟨g3, h⟩ := gd_some h
    refine Z_iaload hC (m_18 hi) (by decide) rfl g3 (dk d_X0_fact 15 rfl) 48 rfl ?_
    obtain rfl := Option.some.inj h
    exact Z_ireturn (st := []) hC hr hQ (dk d_X0_fact 16 rfl)
  have h := it_f h c2
  refine Z_swOut hC (dk d_X0_fact 1 rfl) 49 (by decide) (by have e0 := ne_toInt (m := 0) rfl c0; have e1 := ne_toInt (m := 1) rfl c1; have e2 := ne_toInt (m := 2) rfl c2; omega) ?_
  refine Z_aload_n hC (dk d_X0_fact 17 rfl) 50 rfl rfl rfl ?_
  refine Z_iload_n hC (dk d_X0_fact 18 rfl) 51 rfl rfl rfl ?_
  obtain ⟨q4, hq4, h⟩ := bd_some h
  refine K_X0_48 [vi a1] hC (m_3 hi) (s_X0_latest (xG x) (xl x) N i hi a1 w q4 hq4) (Nat.le_of_ble_eq_true rfl) rfl rfl rfl (Nat.le_of_ble_eq_true rfl) (dk d_X0_fact 19 rfl) 54 rfl ?_
  obtain rfl := Option.some.inj h
  exact Z_ireturn (st := []) hC hr hQ (dk d_X0_fact 20 rfl)
end
