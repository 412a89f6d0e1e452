section
-- ===== PART A: goes FIRST, ahead of the names: the tables' words, and 'selects' of the private methods out of them =====
/-- a private method of a class that the tables say can be made, by its rows of tables_1 -/
def lw_okq (q : MethodName × Nat) : Prop := (q.1.cls ≠ "java/lang/invoke/MethodHandle" ∧ q.1.cls ≠ "java/lang/invoke/VarHandle") ∧ Cond.instantiable q.1.cls q.2 ∈ tables_1 ∧ Cond.privateMethod q.1 ∈ tables_1 ∧ Cond.instanceMethod q.1 ∈ tables_1
theorem lw_p0 : lw_okq (⟨"HatDraw", "refuse", "(I)I"⟩, 17) := ⟨⟨by decide +kernel, by decide +kernel⟩, List.mem_of_getElem? (i := 12) (by decide +kernel), List.mem_of_getElem? (i := 183) (by decide +kernel), List.mem_of_getElem? (i := 184) (by decide +kernel)⟩
theorem lw_p1 : lw_okq (⟨"HatDraw$Texts", "isFigure", "(II)Z"⟩, 2) := ⟨⟨by decide +kernel, by decide +kernel⟩, List.mem_of_getElem? (i := 41) (by decide +kernel), List.mem_of_getElem? (i := 262) (by decide +kernel), List.mem_of_getElem? (i := 263) (by decide +kernel)⟩
theorem lw_p2 : lw_okq (⟨"HatDraw", "isMate", "(I)Z"⟩, 17) := ⟨⟨by decide +kernel, by decide +kernel⟩, List.mem_of_getElem? (i := 12) (by decide +kernel), List.mem_of_getElem? (i := 279) (by decide +kernel), List.mem_of_getElem? (i := 280) (by decide +kernel)⟩
theorem lw_p3 : lw_okq (⟨"HatDraw$Office", "isFor", "(I)Z"⟩, 7) := ⟨⟨by decide +kernel, by decide +kernel⟩, List.mem_of_getElem? (i := 60) (by decide +kernel), List.mem_of_getElem? (i := 322) (by decide +kernel), List.mem_of_getElem? (i := 323) (by decide +kernel)⟩
theorem lw_p4 : lw_okq (⟨"HatDraw", "drawingIn", "(I)I"⟩, 17) := ⟨⟨by decide +kernel, by decide +kernel⟩, List.mem_of_getElem? (i := 12) (by decide +kernel), List.mem_of_getElem? (i := 352) (by decide +kernel), List.mem_of_getElem? (i := 353) (by decide +kernel)⟩
theorem lw_p5 : lw_okq (⟨"HatDraw$Office", "minds", "(II)Z"⟩, 7) := ⟨⟨by decide +kernel, by decide +kernel⟩, List.mem_of_getElem? (i := 60) (by decide +kernel), List.mem_of_getElem? (i := 360) (by decide +kernel), List.mem_of_getElem? (i := 361) (by decide +kernel)⟩
theorem lw_p6 : lw_okq (⟨"HatDraw", "listRight", "()V"⟩, 17) := ⟨⟨by decide +kernel, by decide +kernel⟩, List.mem_of_getElem? (i := 12) (by decide +kernel), List.mem_of_getElem? (i := 379) (by decide +kernel), List.mem_of_getElem? (i := 380) (by decide +kernel)⟩
theorem lw_p7 : lw_okq (⟨"HatDraw$Search", "extend", "(III)V"⟩, 6) := ⟨⟨by decide +kernel, by decide +kernel⟩, List.mem_of_getElem? (i := 96) (by decide +kernel), List.mem_of_getElem? (i := 391) (by decide +kernel), List.mem_of_getElem? (i := 392) (by decide +kernel)⟩
theorem lw_p8 : lw_okq (⟨"HatDraw$Search", "admit", "(I)V"⟩, 6) := ⟨⟨by decide +kernel, by decide +kernel⟩, List.mem_of_getElem? (i := 96) (by decide +kernel), List.mem_of_getElem? (i := 395) (by decide +kernel), List.mem_of_getElem? (i := 396) (by decide +kernel)⟩
theorem lw_p9 : lw_okq (⟨"HatDraw", "layDrawing", "(II)V"⟩, 17) := ⟨⟨by decide +kernel, by decide +kernel⟩, List.mem_of_getElem? (i := 12) (by decide +kernel), List.mem_of_getElem? (i := 412) (by decide +kernel), List.mem_of_getElem? (i := 413) (by decide +kernel)⟩
theorem lw_p10 : lw_okq (⟨"HatDraw", "isTaken", "(I)Z"⟩, 17) := ⟨⟨by decide +kernel, by decide +kernel⟩, List.mem_of_getElem? (i := 12) (by decide +kernel), List.mem_of_getElem? (i := 444) (by decide +kernel), List.mem_of_getElem? (i := 445) (by decide +kernel)⟩
theorem lw_p11 : lw_okq (⟨"HatDraw", "takePaper", "(I)V"⟩, 17) := ⟨⟨by decide +kernel, by decide +kernel⟩, List.mem_of_getElem? (i := 12) (by decide +kernel), List.mem_of_getElem? (i := 450) (by decide +kernel), List.mem_of_getElem? (i := 451) (by decide +kernel)⟩
theorem lw_p12 : lw_okq (⟨"HatDraw", "nextOpen", "()I"⟩, 17) := ⟨⟨by decide +kernel, by decide +kernel⟩, List.mem_of_getElem? (i := 12) (by decide +kernel), List.mem_of_getElem? (i := 473) (by decide +kernel), List.mem_of_getElem? (i := 474) (by decide +kernel)⟩
theorem lw_p13 : lw_okq (⟨"HatDraw", "tellFraction", "(II)V"⟩, 17) := ⟨⟨by decide +kernel, by decide +kernel⟩, List.mem_of_getElem? (i := 12) (by decide +kernel), List.mem_of_getElem? (i := 482) (by decide +kernel), List.mem_of_getElem? (i := 483) (by decide +kernel)⟩
theorem lw_p14 : lw_okq (⟨"HatDraw$Search", "shareOf", "(IIIIII)I"⟩, 6) := ⟨⟨by decide +kernel, by decide +kernel⟩, List.mem_of_getElem? (i := 96) (by decide +kernel), List.mem_of_getElem? (i := 497) (by decide +kernel), List.mem_of_getElem? (i := 498) (by decide +kernel)⟩
theorem lw_p15 : lw_okq (⟨"HatDraw$Search", "partsAt", "(III)I"⟩, 6) := ⟨⟨by decide +kernel, by decide +kernel⟩, List.mem_of_getElem? (i := 96) (by decide +kernel), List.mem_of_getElem? (i := 501) (by decide +kernel), List.mem_of_getElem? (i := 502) (by decide +kernel)⟩
def lw_privs_1 : List (MethodName × Nat) := [(⟨"HatDraw", "refuse", "(I)I"⟩, 17), (⟨"HatDraw$Texts", "isFigure", "(II)Z"⟩, 2), (⟨"HatDraw", "isMate", "(I)Z"⟩, 17), (⟨"HatDraw$Office", "isFor", "(I)Z"⟩, 7), (⟨"HatDraw", "drawingIn", "(I)I"⟩, 17), (⟨"HatDraw$Office", "minds", "(II)Z"⟩, 7), (⟨"HatDraw", "listRight", "()V"⟩, 17), (⟨"HatDraw$Search", "extend", "(III)V"⟩, 6), (⟨"HatDraw$Search", "admit", "(I)V"⟩, 6), (⟨"HatDraw", "layDrawing", "(II)V"⟩, 17), (⟨"HatDraw", "isTaken", "(I)Z"⟩, 17), (⟨"HatDraw", "takePaper", "(I)V"⟩, 17), (⟨"HatDraw", "nextOpen", "()I"⟩, 17), (⟨"HatDraw", "tellFraction", "(II)V"⟩, 17), (⟨"HatDraw$Search", "shareOf", "(IIIIII)I"⟩, 6), (⟨"HatDraw$Search", "partsAt", "(III)I"⟩, 6)]
theorem lw_r1 : ∀ q ∈ lw_privs_1, lw_okq q := List.forall_mem_cons.mpr ⟨lw_p0, List.forall_mem_cons.mpr ⟨lw_p1, List.forall_mem_cons.mpr ⟨lw_p2, List.forall_mem_cons.mpr ⟨lw_p3, List.forall_mem_cons.mpr ⟨lw_p4, List.forall_mem_cons.mpr ⟨lw_p5, List.forall_mem_cons.mpr ⟨lw_p6, List.forall_mem_cons.mpr ⟨lw_p7, List.forall_mem_cons.mpr ⟨lw_p8, List.forall_mem_cons.mpr ⟨lw_p9, List.forall_mem_cons.mpr ⟨lw_p10, List.forall_mem_cons.mpr ⟨lw_p11, List.forall_mem_cons.mpr ⟨lw_p12, List.forall_mem_cons.mpr ⟨lw_p13, List.forall_mem_cons.mpr ⟨lw_p14, List.forall_mem_cons.mpr ⟨lw_p15, fun _ h => absurd h List.not_mem_nil⟩⟩⟩⟩⟩⟩⟩⟩⟩⟩⟩⟩⟩⟩⟩⟩
theorem lw_p16 : lw_okq (⟨"HatDraw", "isSet", "(I)Z"⟩, 17) := ⟨⟨by decide +kernel, by decide +kernel⟩, List.mem_of_getElem? (i := 12) (by decide +kernel), List.mem_of_getElem? (i := 558) (by decide +kernel), List.mem_of_getElem? (i := 559) (by decide +kernel)⟩
theorem lw_p17 : lw_okq (⟨"HatDraw", "rightDrawingIn", "(I)I"⟩, 17) := ⟨⟨by decide +kernel, by decide +kernel⟩, List.mem_of_getElem? (i := 12) (by decide +kernel), List.mem_of_getElem? (i := 562) (by decide +kernel), List.mem_of_getElem? (i := 563) (by decide +kernel)⟩
theorem lw_p18 : lw_okq (⟨"HatDraw", "papersOf", "(I)I"⟩, 17) := ⟨⟨by decide +kernel, by decide +kernel⟩, List.mem_of_getElem? (i := 12) (by decide +kernel), List.mem_of_getElem? (i := 566) (by decide +kernel), List.mem_of_getElem? (i := 567) (by decide +kernel)⟩
theorem lw_p19 : lw_okq (⟨"HatDrawModel", "meet", "(I)I"⟩, 32) := ⟨⟨by decide +kernel, by decide +kernel⟩, List.mem_of_getElem? (i := 670) (by decide +kernel), List.mem_of_getElem? (i := 783) (by decide +kernel), List.mem_of_getElem? (i := 784) (by decide +kernel)⟩
theorem lw_p20 : lw_okq (⟨"HatDrawModel", "setRow", "(III)V"⟩, 32) := ⟨⟨by decide +kernel, by decide +kernel⟩, List.mem_of_getElem? (i := 670) (by decide +kernel), List.mem_of_getElem? (i := 787) (by decide +kernel), List.mem_of_getElem? (i := 788) (by decide +kernel)⟩
theorem lw_p21 : lw_okq (⟨"HatDrawModel", "askedRow", "(I)I"⟩, 32) := ⟨⟨by decide +kernel, by decide +kernel⟩, List.mem_of_getElem? (i := 670) (by decide +kernel), List.mem_of_getElem? (i := 795) (by decide +kernel), List.mem_of_getElem? (i := 796) (by decide +kernel)⟩
theorem lw_p22 : lw_okq (⟨"HatDrawModel", "rowAt", "(II)I"⟩, 32) := ⟨⟨by decide +kernel, by decide +kernel⟩, List.mem_of_getElem? (i := 670) (by decide +kernel), List.mem_of_getElem? (i := 799) (by decide +kernel), List.mem_of_getElem? (i := 800) (by decide +kernel)⟩
theorem lw_p23 : lw_okq (⟨"HatDrawModel", "ask", "(II)I"⟩, 32) := ⟨⟨by decide +kernel, by decide +kernel⟩, List.mem_of_getElem? (i := 670) (by decide +kernel), List.mem_of_getElem? (i := 803) (by decide +kernel), List.mem_of_getElem? (i := 804) (by decide +kernel)⟩
theorem lw_p24 : lw_okq (⟨"HatDrawModel", "askedText", "(I)I"⟩, 32) := ⟨⟨by decide +kernel, by decide +kernel⟩, List.mem_of_getElem? (i := 670) (by decide +kernel), List.mem_of_getElem? (i := 835) (by decide +kernel), List.mem_of_getElem? (i := 836) (by decide +kernel)⟩
theorem lw_p25 : lw_okq (⟨"HatDrawModel", "goesOn", "(I)I"⟩, 32) := ⟨⟨by decide +kernel, by decide +kernel⟩, List.mem_of_getElem? (i := 670) (by decide +kernel), List.mem_of_getElem? (i := 843) (by decide +kernel), List.mem_of_getElem? (i := 844) (by decide +kernel)⟩
theorem lw_p26 : lw_okq (⟨"HatDrawModel", "here", "(I)I"⟩, 32) := ⟨⟨by decide +kernel, by decide +kernel⟩, List.mem_of_getElem? (i := 670) (by decide +kernel), List.mem_of_getElem? (i := 847) (by decide +kernel), List.mem_of_getElem? (i := 848) (by decide +kernel)⟩
theorem lw_p27 : lw_okq (⟨"HatDrawModel", "readsMate", "(I)Z"⟩, 32) := ⟨⟨by decide +kernel, by decide +kernel⟩, List.mem_of_getElem? (i := 670) (by decide +kernel), List.mem_of_getElem? (i := 851) (by decide +kernel), List.mem_of_getElem? (i := 852) (by decide +kernel)⟩
theorem lw_p28 : lw_okq (⟨"HatDrawModel", "isMate", "(I)Z"⟩, 32) := ⟨⟨by decide +kernel, by decide +kernel⟩, List.mem_of_getElem? (i := 670) (by decide +kernel), List.mem_of_getElem? (i := 866) (by decide +kernel), List.mem_of_getElem? (i := 867) (by decide +kernel)⟩
theorem lw_p29 : lw_okq (⟨"HatDrawModel", "mateOf", "(II)I"⟩, 32) := ⟨⟨by decide +kernel, by decide +kernel⟩, List.mem_of_getElem? (i := 670) (by decide +kernel), List.mem_of_getElem? (i := 870) (by decide +kernel), List.mem_of_getElem? (i := 871) (by decide +kernel)⟩
theorem lw_p30 : lw_okq (⟨"HatDrawModel", "lastOf", "(I)I"⟩, 32) := ⟨⟨by decide +kernel, by decide +kernel⟩, List.mem_of_getElem? (i := 670) (by decide +kernel), List.mem_of_getElem? (i := 874) (by decide +kernel), List.mem_of_getElem? (i := 875) (by decide +kernel)⟩
theorem lw_p31 : lw_okq (⟨"HatDrawModel", "isA", "(II)Z"⟩, 32) := ⟨⟨by decide +kernel, by decide +kernel⟩, List.mem_of_getElem? (i := 670) (by decide +kernel), List.mem_of_getElem? (i := 882) (by decide +kernel), List.mem_of_getElem? (i := 883) (by decide +kernel)⟩
def lw_privs_2 : List (MethodName × Nat) := [(⟨"HatDraw", "isSet", "(I)Z"⟩, 17), (⟨"HatDraw", "rightDrawingIn", "(I)I"⟩, 17), (⟨"HatDraw", "papersOf", "(I)I"⟩, 17), (⟨"HatDrawModel", "meet", "(I)I"⟩, 32), (⟨"HatDrawModel", "setRow", "(III)V"⟩, 32), (⟨"HatDrawModel", "askedRow", "(I)I"⟩, 32), (⟨"HatDrawModel", "rowAt", "(II)I"⟩, 32), (⟨"HatDrawModel", "ask", "(II)I"⟩, 32), (⟨"HatDrawModel", "askedText", "(I)I"⟩, 32), (⟨"HatDrawModel", "goesOn", "(I)I"⟩, 32), (⟨"HatDrawModel", "here", "(I)I"⟩, 32), (⟨"HatDrawModel", "readsMate", "(I)Z"⟩, 32), (⟨"HatDrawModel", "isMate", "(I)Z"⟩, 32), (⟨"HatDrawModel", "mateOf", "(II)I"⟩, 32), (⟨"HatDrawModel", "lastOf", "(I)I"⟩, 32), (⟨"HatDrawModel", "isA", "(II)Z"⟩, 32)]
theorem lw_r2 : ∀ q ∈ lw_privs_2, lw_okq q := List.forall_mem_cons.mpr ⟨lw_p16, List.forall_mem_cons.mpr ⟨lw_p17, List.forall_mem_cons.mpr ⟨lw_p18, List.forall_mem_cons.mpr ⟨lw_p19, List.forall_mem_cons.mpr ⟨lw_p20, List.forall_mem_cons.mpr ⟨lw_p21, List.forall_mem_cons.mpr ⟨lw_p22, List.forall_mem_cons.mpr ⟨lw_p23, List.forall_mem_cons.mpr ⟨lw_p24, List.forall_mem_cons.mpr ⟨lw_p25, List.forall_mem_cons.mpr ⟨lw_p26, List.forall_mem_cons.mpr ⟨lw_p27, List.forall_mem_cons.mpr ⟨lw_p28, List.forall_mem_cons.mpr ⟨lw_p29, List.forall_mem_cons.mpr ⟨lw_p30, List.forall_mem_cons.mpr ⟨lw_p31, fun _ h => absurd h List.not_mem_nil⟩⟩⟩⟩⟩⟩⟩⟩⟩⟩⟩⟩⟩⟩⟩⟩
theorem lw_p32 : lw_okq (⟨"HatDrawModel", "barOf", "(II)I"⟩, 32) := ⟨⟨by decide +kernel, by decide +kernel⟩, List.mem_of_getElem? (i := 670) (by decide +kernel), List.mem_of_getElem? (i := 886) (by decide +kernel), List.mem_of_getElem? (i := 887) (by decide +kernel)⟩
theorem lw_p33 : lw_okq (⟨"HatDrawModel", "mayOf", "(I)I"⟩, 32) := ⟨⟨by decide +kernel, by decide +kernel⟩, List.mem_of_getElem? (i := 670) (by decide +kernel), List.mem_of_getElem? (i := 893) (by decide +kernel), List.mem_of_getElem? (i := 894) (by decide +kernel)⟩
theorem lw_p34 : lw_okq (⟨"HatDrawModel", "askedDrawing", "(I)I"⟩, 32) := ⟨⟨by decide +kernel, by decide +kernel⟩, List.mem_of_getElem? (i := 670) (by decide +kernel), List.mem_of_getElem? (i := 916) (by decide +kernel), List.mem_of_getElem? (i := 917) (by decide +kernel)⟩
theorem lw_p35 : lw_okq (⟨"HatDrawModel", "badBy", "()I"⟩, 32) := ⟨⟨by decide +kernel, by decide +kernel⟩, List.mem_of_getElem? (i := 670) (by decide +kernel), List.mem_of_getElem? (i := 920) (by decide +kernel), List.mem_of_getElem? (i := 921) (by decide +kernel)⟩
theorem lw_p36 : lw_okq (⟨"HatDrawModel", "isBack", "(II)Z"⟩, 32) := ⟨⟨by decide +kernel, by decide +kernel⟩, List.mem_of_getElem? (i := 670) (by decide +kernel), List.mem_of_getElem? (i := 924) (by decide +kernel), List.mem_of_getElem? (i := 925) (by decide +kernel)⟩
theorem lw_p37 : lw_okq (⟨"HatDrawModel", "ringsOf", "()I"⟩, 32) := ⟨⟨by decide +kernel, by decide +kernel⟩, List.mem_of_getElem? (i := 670) (by decide +kernel), List.mem_of_getElem? (i := 928) (by decide +kernel), List.mem_of_getElem? (i := 929) (by decide +kernel)⟩
theorem lw_p38 : lw_okq (⟨"HatDrawModel", "setRights", "()V"⟩, 32) := ⟨⟨by decide +kernel, by decide +kernel⟩, List.mem_of_getElem? (i := 670) (by decide +kernel), List.mem_of_getElem? (i := 936) (by decide +kernel), List.mem_of_getElem? (i := 937) (by decide +kernel)⟩
theorem lw_p39 : lw_okq (⟨"HatDrawModel", "rightOn", "(I)V"⟩, 32) := ⟨⟨by decide +kernel, by decide +kernel⟩, List.mem_of_getElem? (i := 670) (by decide +kernel), List.mem_of_getElem? (i := 940) (by decide +kernel), List.mem_of_getElem? (i := 941) (by decide +kernel)⟩
theorem lw_p40 : lw_okq (⟨"HatDrawModel", "layRight", "(II)V"⟩, 32) := ⟨⟨by decide +kernel, by decide +kernel⟩, List.mem_of_getElem? (i := 670) (by decide +kernel), List.mem_of_getElem? (i := 948) (by decide +kernel), List.mem_of_getElem? (i := 949) (by decide +kernel)⟩
theorem lw_p41 : lw_okq (⟨"HatDrawModel", "right", "(II)I"⟩, 32) := ⟨⟨by decide +kernel, by decide +kernel⟩, List.mem_of_getElem? (i := 670) (by decide +kernel), List.mem_of_getElem? (i := 953) (by decide +kernel), List.mem_of_getElem? (i := 954) (by decide +kernel)⟩
theorem lw_p42 : lw_okq (⟨"HatDrawModel", "numberOf", "(I)I"⟩, 32) := ⟨⟨by decide +kernel, by decide +kernel⟩, List.mem_of_getElem? (i := 670) (by decide +kernel), List.mem_of_getElem? (i := 961) (by decide +kernel), List.mem_of_getElem? (i := 962) (by decide +kernel)⟩
theorem lw_p43 : lw_okq (⟨"HatDrawModel", "cans", "(I)I"⟩, 32) := ⟨⟨by decide +kernel, by decide +kernel⟩, List.mem_of_getElem? (i := 670) (by decide +kernel), List.mem_of_getElem? (i := 991) (by decide +kernel), List.mem_of_getElem? (i := 992) (by decide +kernel)⟩
theorem lw_p44 : lw_okq (⟨"HatDrawModel", "begins", "(II)Z"⟩, 32) := ⟨⟨by decide +kernel, by decide +kernel⟩, List.mem_of_getElem? (i := 670) (by decide +kernel), List.mem_of_getElem? (i := 995) (by decide +kernel), List.mem_of_getElem? (i := 996) (by decide +kernel)⟩
theorem lw_p45 : lw_okq (⟨"HatDrawModel", "turnOn", "(IIIJ)V"⟩, 32) := ⟨⟨by decide +kernel, by decide +kernel⟩, List.mem_of_getElem? (i := 670) (by decide +kernel), List.mem_of_getElem? (i := 1004) (by decide +kernel), List.mem_of_getElem? (i := 1005) (by decide +kernel)⟩
theorem lw_p46 : lw_okq (⟨"HatDrawModel", "part", "(JJI)I"⟩, 32) := ⟨⟨by decide +kernel, by decide +kernel⟩, List.mem_of_getElem? (i := 670) (by decide +kernel), List.mem_of_getElem? (i := 1008) (by decide +kernel), List.mem_of_getElem? (i := 1009) (by decide +kernel)⟩
theorem lw_p47 : lw_okq (⟨"HatDrawModel", "isYear", "(I)Z"⟩, 32) := ⟨⟨by decide +kernel, by decide +kernel⟩, List.mem_of_getElem? (i := 670) (by decide +kernel), List.mem_of_getElem? (i := 1040) (by decide +kernel), List.mem_of_getElem? (i := 1041) (by decide +kernel)⟩
def lw_privs_3 : List (MethodName × Nat) := [(⟨"HatDrawModel", "barOf", "(II)I"⟩, 32), (⟨"HatDrawModel", "mayOf", "(I)I"⟩, 32), (⟨"HatDrawModel", "askedDrawing", "(I)I"⟩, 32), (⟨"HatDrawModel", "badBy", "()I"⟩, 32), (⟨"HatDrawModel", "isBack", "(II)Z"⟩, 32), (⟨"HatDrawModel", "ringsOf", "()I"⟩, 32), (⟨"HatDrawModel", "setRights", "()V"⟩, 32), (⟨"HatDrawModel", "rightOn", "(I)V"⟩, 32), (⟨"HatDrawModel", "layRight", "(II)V"⟩, 32), (⟨"HatDrawModel", "right", "(II)I"⟩, 32), (⟨"HatDrawModel", "numberOf", "(I)I"⟩, 32), (⟨"HatDrawModel", "cans", "(I)I"⟩, 32), (⟨"HatDrawModel", "begins", "(II)Z"⟩, 32), (⟨"HatDrawModel", "turnOn", "(IIIJ)V"⟩, 32), (⟨"HatDrawModel", "part", "(JJI)I"⟩, 32), (⟨"HatDrawModel", "isYear", "(I)Z"⟩, 32)]
theorem lw_r3 : ∀ q ∈ lw_privs_3, lw_okq q := List.forall_mem_cons.mpr ⟨lw_p32, List.forall_mem_cons.mpr ⟨lw_p33, List.forall_mem_cons.mpr ⟨lw_p34, List.forall_mem_cons.mpr ⟨lw_p35, List.forall_mem_cons.mpr ⟨lw_p36, List.forall_mem_cons.mpr ⟨lw_p37, List.forall_mem_cons.mpr ⟨lw_p38, List.forall_mem_cons.mpr ⟨lw_p39, List.forall_mem_cons.mpr ⟨lw_p40, List.forall_mem_cons.mpr ⟨lw_p41, List.forall_mem_cons.mpr ⟨lw_p42, List.forall_mem_cons.mpr ⟨lw_p43, List.forall_mem_cons.mpr ⟨lw_p44, List.forall_mem_cons.mpr ⟨lw_p45, List.forall_mem_cons.mpr ⟨lw_p46, List.forall_mem_cons.mpr ⟨lw_p47, fun _ h => absurd h List.not_mem_nil⟩⟩⟩⟩⟩⟩⟩⟩⟩⟩⟩⟩⟩⟩⟩⟩
theorem lw_p48 : lw_okq (⟨"HatDrawModel", "askedTelling", "(II)I"⟩, 32) := ⟨⟨by decide +kernel, by decide +kernel⟩, List.mem_of_getElem? (i := 670) (by decide +kernel), List.mem_of_getElem? (i := 1052) (by decide +kernel), List.mem_of_getElem? (i := 1053) (by decide +kernel)⟩
theorem lw_p49 : lw_okq (⟨"HatDrawModel", "isSet", "(I)Z"⟩, 32) := ⟨⟨by decide +kernel, by decide +kernel⟩, List.mem_of_getElem? (i := 670) (by decide +kernel), List.mem_of_getElem? (i := 1056) (by decide +kernel), List.mem_of_getElem? (i := 1057) (by decide +kernel)⟩
theorem lw_p50 : lw_okq (⟨"HatDrawModel", "askedRight", "(I)I"⟩, 32) := ⟨⟨by decide +kernel, by decide +kernel⟩, List.mem_of_getElem? (i := 670) (by decide +kernel), List.mem_of_getElem? (i := 1060) (by decide +kernel), List.mem_of_getElem? (i := 1061) (by decide +kernel)⟩
theorem lw_p51 : lw_okq (⟨"HatDrawModel", "knownOf", "(II)I"⟩, 32) := ⟨⟨by decide +kernel, by decide +kernel⟩, List.mem_of_getElem? (i := 670) (by decide +kernel), List.mem_of_getElem? (i := 1064) (by decide +kernel), List.mem_of_getElem? (i := 1065) (by decide +kernel)⟩
theorem lw_p52 : lw_okq (⟨"HatDrawModel", "ringOf", "(I)I"⟩, 32) := ⟨⟨by decide +kernel, by decide +kernel⟩, List.mem_of_getElem? (i := 670) (by decide +kernel), List.mem_of_getElem? (i := 1092) (by decide +kernel), List.mem_of_getElem? (i := 1093) (by decide +kernel)⟩
theorem lw_p53 : lw_okq (⟨"HatDrawModel", "lookAt", "(I)V"⟩, 32) := ⟨⟨by decide +kernel, by decide +kernel⟩, List.mem_of_getElem? (i := 670) (by decide +kernel), List.mem_of_getElem? (i := 1100) (by decide +kernel), List.mem_of_getElem? (i := 1101) (by decide +kernel)⟩
theorem lw_p54 : lw_okq (⟨"HatDrawModel", "tells", "(I)I"⟩, 32) := ⟨⟨by decide +kernel, by decide +kernel⟩, List.mem_of_getElem? (i := 670) (by decide +kernel), List.mem_of_getElem? (i := 1128) (by decide +kernel), List.mem_of_getElem? (i := 1129) (by decide +kernel)⟩
theorem lw_p55 : lw_okq (⟨"HatDrawModel", "mix", "(I)V"⟩, 32) := ⟨⟨by decide +kernel, by decide +kernel⟩, List.mem_of_getElem? (i := 670) (by decide +kernel), List.mem_of_getElem? (i := 1145) (by decide +kernel), List.mem_of_getElem? (i := 1146) (by decide +kernel)⟩
theorem lw_p56 : lw_okq (⟨"HatDrawModel", "mixOffice", "()V"⟩, 32) := ⟨⟨by decide +kernel, by decide +kernel⟩, List.mem_of_getElem? (i := 670) (by decide +kernel), List.mem_of_getElem? (i := 1150) (by decide +kernel), List.mem_of_getElem? (i := 1151) (by decide +kernel)⟩
def lw_privs_4 : List (MethodName × Nat) := [(⟨"HatDrawModel", "askedTelling", "(II)I"⟩, 32), (⟨"HatDrawModel", "isSet", "(I)Z"⟩, 32), (⟨"HatDrawModel", "askedRight", "(I)I"⟩, 32), (⟨"HatDrawModel", "knownOf", "(II)I"⟩, 32), (⟨"HatDrawModel", "ringOf", "(I)I"⟩, 32), (⟨"HatDrawModel", "lookAt", "(I)V"⟩, 32), (⟨"HatDrawModel", "tells", "(I)I"⟩, 32), (⟨"HatDrawModel", "mix", "(I)V"⟩, 32), (⟨"HatDrawModel", "mixOffice", "()V"⟩, 32)]
theorem lw_r4 : ∀ q ∈ lw_privs_4, lw_okq q := List.forall_mem_cons.mpr ⟨lw_p48, List.forall_mem_cons.mpr ⟨lw_p49, List.forall_mem_cons.mpr ⟨lw_p50, List.forall_mem_cons.mpr ⟨lw_p51, List.forall_mem_cons.mpr ⟨lw_p52, List.forall_mem_cons.mpr ⟨lw_p53, List.forall_mem_cons.mpr ⟨lw_p54, List.forall_mem_cons.mpr ⟨lw_p55, List.forall_mem_cons.mpr ⟨lw_p56, fun _ h => absurd h List.not_mem_nil⟩⟩⟩⟩⟩⟩⟩⟩⟩
def lw_privs : List (MethodName × Nat) := lw_privs_1 ++ (lw_privs_2 ++ (lw_privs_3 ++ (lw_privs_4)))
def lw_tbl : List Cond := k2_sels lw_privs ++ tables_1
theorem lw_privs_ok : ∀ q ∈ lw_privs, lw_okq q := by
  show ∀ q ∈ lw_privs_1 ++ (lw_privs_2 ++ (lw_privs_3 ++ (lw_privs_4))), lw_okq q
  exact List.forall_mem_append.mpr ⟨lw_r1, List.forall_mem_append.mpr ⟨lw_r2, List.forall_mem_append.mpr ⟨lw_r3, lw_r4⟩⟩⟩
-- ===== end of PART A; then your names; then what follows =====
end
section
/-! ===== BEGIN words of one list among another's, by their places ===== -/
theorem goodIn_r {big : List Cond} (ws : List Cond) (ps : List Nat) (hp : ws = ps.filterMap (fun i => big[i]?)) (h : ws.all goodWord = true) : GoodIn big ws := by
  intro w hw
  have h1 := List.all_eq_true.mp h w hw
  rw [hp] at hw
  obtain ⟨i, -, hi⟩ := List.mem_filterMap.mp hw
  have hm : w ∈ big := by first | exact List.mem_of_getElem? hi | exact List.getElem?_mem hi
  exact ⟨hm, good_of_word h1⟩
theorem goodIn_app {big a b : List Cond} (ha : GoodIn big a) (hb : GoodIn big b) : GoodIn big (a ++ b) := fun w h => (List.mem_append.mp h).elim (ha w) (hb w)
theorem goodIn_ca {big a b : List Cond} {c : Cond} (ha : GoodIn big (c :: a)) (hb : GoodIn big b) : GoodIn big (c :: (a ++ b)) := fun w h => (List.mem_cons.mp h).elim (fun e => ha w (List.mem_cons.mpr (Or.inl e))) (fun h => (List.mem_append.mp h).elim (fun h => ha w (List.mem_cons.mpr (Or.inr h))) (hb w))
theorem goodIn_sub {big ws : List Cond} (hm : ∀ w ∈ ws, w ∈ big) (h : ws.all goodWord = true) : GoodIn big ws := fun w hw => ⟨hm w hw, good_of_word (List.all_eq_true.mp h w hw)⟩
/-! ===== END ===== -/

/-! ===== BEGIN new T[n][m]: the outer array a place, the inner ones among the pooled ===== -/
/-- f, but v at every address of l -/
def vr_up {α : Type} (f : Nat → α) (l : List Nat) (v : α) : Nat → α := fun a => if a ∈ l then v else f a
theorem vr_up_in {α : Type} {f : Nat → α} {l : List Nat} {v : α} {a : Nat} (h : a ∈ l) : vr_up f l v a = v := if_pos h
theorem vr_up_ne {α : Type} {f : Nat → α} {l : List Nat} {v : α} {a : Nat} (h : a ∉ l) : vr_up f l v a = f a := if_neg h
theorem vr_rows {L l : List Nat} {f : Nat → va_E} {e : va_E} (h : ∀ a, a ∈ l → a ∉ L) : va_pl L f ++ l.map (fun a => (a, e)) = va_pl (L ++ l) (vr_up f l e) := by
  unfold va_pl
  rw [List.map_append]
  congr 1
  · apply List.map_congr_left
    intro a ha
    rw [vr_up_ne (fun q => h a q ha)]
  · apply List.map_congr_left
    intro a ha
    rw [vr_up_in ha]
theorem vr_lay {X rows : va_W} {x : Nat × va_E} {pl : va_W} {D : va_G} {cl : List vw_C} {H : Heap} (hP : va_P D cl (((X ++ pl) ++ [x]) ++ rows) H) : va_P D cl ((X ++ [x]) ++ (pl ++ rows)) H := by
  rw [List.append_assoc (X ++ pl)] at hP
  have h := va_P.swap hP
  rw [← List.append_assoc X] at h
  have h2 := va_P.swap h
  rw [List.append_assoc (X ++ [x])] at h2
  exact h2
theorem vr_layD {X rows : va_W} {x : Nat × va_E} {pl : va_W} {A : Nat → Prop} (hD : va_D A (((X ++ pl) ++ [x]) ++ rows)) : va_D A ((X ++ [x]) ++ (pl ++ rows)) := by
  rw [List.append_assoc (X ++ pl)] at hD
  have h := va_D.swap hD
  rw [← List.append_assoc X] at h
  have h2 := va_D.swap h
  rw [List.append_assoc (X ++ [x])] at h2
  exact h2
theorem vr_outer (c : ClassId) (N h0 : Nat) : ∀ i : Nat, Jvm.Free.Multi.outerC c N h0 i = arrV c N (fun j => va_rf (if j < i then some (h0 + 1 + j) else none))
  | 0 => by
    show ({ cls := c, slots := Array.replicate N .null, vm := .none } : Cell) = _
    rw [arrV_new]
    refine congrArg (arrV c N) (funext fun j => ?_)
    simp [va_rf]
  | i + 1 => by
    show (Jvm.Free.Multi.outerC c N h0 i).setSlot i (.ref (h0 + 1 + i)) = _
    rw [vr_outer c N h0 i, arrV_store]
    refine congrArg (arrV c N) (funext fun j => ?_)
    by_cases e : j = i
    · subst e
      simp [updV, va_rf]
    · by_cases h : j < i
      · simp [updV, e, h, Nat.lt_succ_of_lt h]
      · simp [updV, e, h, show ¬ j < i + 1 by omega]
def va_AOA (ty : FieldType) (U : State) : Prop := (Cond.arrayOver (.array ty)).before #[] U = true
theorem va_AOA.of {ty : FieldType} {A : Array Value} {U : State} (h : (Cond.arrayOver (.array ty)).before A U = true) : va_AOA ty U := h
theorem va_AOA.use {ty : FieldType} {A : Array Value} {U : State} (h : va_AOA ty U) : (Cond.arrayOver (.array ty)).before A U = true := h
section VGM
variable {p : Program} {l : Launch} {e : Env} {R : Room} {s : State} {m : MethodId} {args : Array Value} {below : List Frame} {meth : Method} {c : Code} {H : Heap} {locs : List Loc} {cells slots : Nat} {Q : State → Prop}
variable {cc : ByteArray} {pc : Nat} {ls : Array Slot} {rest : List Value} {D : va_G} {cl : List vw_C} {A : Nat → Prop} {a : Nat} {tys : List (ClassId × FieldType)} {ws : va_W} {H0 : Heap}
theorem va_mna {X : va_W} {L : List Nat} {f : Nat → va_E} {cc : ByteArray} (hexec : p.tables.exec = Jvm.exec) (hb : c.code = cc) {own : String} {index : Nat} {ty : FieldType} {cy : ClassId} (hown : s.vm.findClass own = some m.cls) (hclink : (Cond.classLink own index ("[" ++ (FieldType.array ty).toString)).before args s = true) (hover : va_AOA ty s) (harr : (Cond.arrayClass ty).before args s = true) (hcy : s.vm.findClass (FieldType.array ty).toString = some cy)
    (hK : va_K D cl tys s) (hP : va_P D cl (X ++ va_pl L f) H) (hD : va_D A (X ++ va_pl L f)) (hS : va_S A H0 H locs) (hA : ∀ q, H0.size ≤ q → A q) {n k : Int32} {N' K' : Nat} {z : vp_A} (hn : ¬ n < 0) (hk : ¬ k < 0) (hN : n.toNatClampNeg = N') (hM : k.toNatClampNeg = K')
    (hb1 : N' * 4 ≤ 536870912) (hb2 : K' * componentBytes ty ≤ 536870912) (hb3 : K' ≤ 536870912) (hdf : fits ty (defaultValue ty) = true) (hdd : (defaultValue ty).isDefault = true) (hcells : cells + (1 + N') ≤ R.cells) (hslots : slots + (N' + N' * K') ≤ R.slots) (hz : ∀ c : ClassId, Jvm.Free.Multi.innerC c K' (defaultValue ty) = vp_cell c z) (hdg : decode cc pc = .ok (.multianewarray index 2, 4))
    (kk : ∀ (q : Nat) (r : Nat → Nat) (cA : ClassId) (H1 : Heap), (∀ i j : Nat, i < N' → j < N' → r i = r j → i = j) → (∀ i : Nat, i < N' → r i ∉ L) → va_K D cl (tys ++ [(cA, .array ty)]) s →
      va_P D cl ((X ++ [(q, .inl (cA, N', .inr (.inr (.inr (.inr (fun i => if i < N' then some (r i) else none))))))]) ++ va_pl (L ++ (List.range N').map r) (vr_up f ((List.range N').map r) (.inl (cy, z)))) H1 → va_D A ((X ++ [(q, .inl (cA, N', .inr (.inr (.inr (.inr (fun i => if i < N' then some (r i) else none))))))]) ++ va_pl (L ++ (List.range N').map r) (vr_up f ((List.range N').map r) (.inl (cy, z)))) → va_S A H0 H1 locs →
      W p l e R s m args below meth c H1 locs (cells + 1 + N') (slots + N' + N' * K') Q (F0 m (pc + 4) ls (.ref q :: rest))) : W p l e R s m args below meth c H locs cells slots Q (F0 m pc ls (.int k :: .int n :: rest)) := by
  subst hN
  subst hM
  intro T hT Xs
  obtain ⟨vm₁, cA, comp, -, fA, fC, hO, -, X', step⟩ := Xs.multianewarray2F hexec hown hclink (va_AOA.use hover) harr (g := F0 m pc ls (.int k :: .int n :: rest)) rfl (by rw [hb]; exact hdg) rfl hn hk hb1 hb2 hb3 hdf hdd hcells hslots
  have ec : some cy = some comp := hcy.symm.trans fC
  cases ec
  generalize hF : Jvm.Free.Multi.fill (T.setVm vm₁) cA cy n.toNatClampNeg k.toNatClampNeg (defaultValue ty) n.toNatClampNeg = F at X' step
  have hTh : (T.setVm vm₁).heap = H := hT
  obtain ⟨f1, f2, -, -⟩ := Jvm.Free.Multi.fill_facts (T.setVm vm₁) cA cy n.toNatClampNeg k.toNatClampNeg (defaultValue ty) n.toNatClampNeg
  rw [hF, hTh] at f1 f2
  have hold : ∀ x : Nat, x < H.size → F.heap[x]? = H[x]? := fun x hx => by
    have := Jvm.Free.Multi.fill_old (T.setVm vm₁) cA cy n.toNatClampNeg k.toNatClampNeg (defaultValue ty) (a := x) (by rw [hTh]; exact hx) n.toNatClampNeg
    rw [hF, hTh] at this
    exact this
  have hrow : ∀ j : Nat, j < n.toNatClampNeg → F.heap[H.size + 1 + j]? = some (vp_cell cy z) := fun j hj => by
    have := Jvm.Free.Multi.fill_inner (T.setVm vm₁) cA cy n.toNatClampNeg k.toNatClampNeg (defaultValue ty) n.toNatClampNeg j hj
    rw [hF, hTh, hz] at this
    exact this
  have hout : Jvm.Free.Multi.outerC cA n.toNatClampNeg H.size n.toNatClampNeg = vp_cell cA (n.toNatClampNeg, .inr (.inr (.inr (.inr (fun i => if i < n.toNatClampNeg then some (H.size + 1 + i) else none))))) := by
    rw [vp_cell_q]
    exact vr_outer cA n.toNatClampNeg H.size n.toNatClampNeg
  rw [hout] at f2
  have hlt : ∀ a, a ∈ L → a < H.size := fun a ha => by
    obtain ⟨k9, hk9⟩ := va_pl_get (X := X) (f := f) ha
    exact (hP k9 _ hk9).lt
  have hnl : ∀ i : Nat, i < n.toNatClampNeg → H.size + 1 + i ∉ L := fun i _ h => by
    have := hlt _ h
    omega
  have hnm : ∀ a, a ∈ (List.range n.toNatClampNeg).map (fun i => H.size + 1 + i) → a ∉ L := fun a ha h => by
    obtain ⟨i, -, rfl⟩ := List.mem_map.mp ha
    have := hlt _ h
    omega
  have hP0 : va_P D cl (X ++ va_pl L f) F.heap := hP.kept (fun k9 x hx => hold x.1 ((hP k9 x hx).lt))
  have hP1 : va_P D cl ((X ++ va_pl L f) ++ [(H.size, .inl (cA, n.toNatClampNeg, .inr (.inr (.inr (.inr (fun i => if i < n.toNatClampNeg then some (H.size + 1 + i) else none))))))]) F.heap := hP0.app (fun k9 x hx => by
    have h0 : k9 < 1 := (List.getElem?_eq_some_iff.mp hx).1
    rw [show k9 = 0 by omega] at hx
    cases hx
    exact f2)
  have hP2 : va_P D cl (((X ++ va_pl L f) ++ [(H.size, .inl (cA, n.toNatClampNeg, .inr (.inr (.inr (.inr (fun i => if i < n.toNatClampNeg then some (H.size + 1 + i) else none))))))]) ++ ((List.range n.toNatClampNeg).map (fun i => H.size + 1 + i)).map (fun a => (a, .inl (cy, z)))) F.heap := hP1.app (fun k9 x hx => by
    obtain ⟨a, ha, rfl⟩ := List.mem_map.mp (List.mem_of_getElem? hx)
    obtain ⟨i, hi, rfl⟩ := List.mem_map.mp ha
    exact hrow i (List.mem_range.mp hi))
  have hD2 : va_D A (((X ++ va_pl L f) ++ [(H.size, .inl (cA, n.toNatClampNeg, .inr (.inr (.inr (.inr (fun i => if i < n.toNatClampNeg then some (H.size + 1 + i) else none))))))]) ++ ((List.range n.toNatClampNeg).map (fun i => H.size + 1 + i)).map (fun a => (a, .inl (cy, z)))) := by
    have hD1 := hD.push (e := .inl (cA, n.toNatClampNeg, .inr (.inr (.inr (.inr (fun i => if i < n.toNatClampNeg then some (H.size + 1 + i) else none)))))) hP rfl (hA _ hS.1)
    generalize hW1 : (X ++ va_pl L f) ++ [(H.size, .inl (cA, n.toNatClampNeg, .inr (.inr (.inr (.inr (fun i => if i < n.toNatClampNeg then some (H.size + 1 + i) else none))))))] = W1 at hD1 hP1 ⊢
    have hle : ∀ (k9 : Nat) (x : Nat × va_E), W1[k9]? = some x → x.1 ≤ H.size := fun k9 x hx => by
      rw [← hW1] at hx
      by_cases hl : k9 < (X ++ va_pl L f).length
      · rw [List.getElem?_append_left hl] at hx
        exact Nat.le_of_lt ((hP k9 x hx).lt)
      · rw [List.getElem?_append_right (by omega)] at hx
        have h0 : k9 - (X ++ va_pl L f).length < 1 := (List.getElem?_eq_some_iff.mp hx).1
        rw [show k9 - (X ++ va_pl L f).length = 0 by omega] at hx
        cases hx
        exact Nat.le_refl _
    have hr : ∀ (k9 : Nat) (x : Nat × va_E), (((List.range n.toNatClampNeg).map (fun i => H.size + 1 + i)).map (fun a => ((a, .inl (cy, z)) : Nat × va_E)))[k9]? = some x → x.1 = H.size + 1 + k9 := fun k9 x hx => by
      rw [List.getElem?_map, List.getElem?_map] at hx
      by_cases h9 : k9 < n.toNatClampNeg
      · rw [List.getElem?_range h9] at hx
        cases hx
        rfl
      · have hn0 : (List.range n.toNatClampNeg)[k9]? = none := List.getElem?_eq_none (by rw [List.length_range]; omega)
        rw [hn0] at hx
        cases hx
    refine ⟨fun i j x y hi hj hxy => ?_, fun k9 x hx => ?_⟩
    · by_cases h1 : i < W1.length <;> by_cases h2 : j < W1.length
      · rw [List.getElem?_append_left h1] at hi
        rw [List.getElem?_append_left h2] at hj
        exact hD1.1 i j x y hi hj hxy
      · rw [List.getElem?_append_left h1] at hi
        rw [List.getElem?_append_right (by omega)] at hj
        have := hle _ _ hi
        have := hr _ _ hj
        omega
      · rw [List.getElem?_append_right (by omega)] at hi
        rw [List.getElem?_append_left h2] at hj
        have := hle _ _ hj
        have := hr _ _ hi
        omega
      · rw [List.getElem?_append_right (by omega)] at hi hj
        have := hr _ _ hi
        have := hr _ _ hj
        omega
    · by_cases h1 : k9 < W1.length
      · rw [List.getElem?_append_left h1] at hx
        exact hD1.2 k9 x hx
      · rw [List.getElem?_append_right (by omega)] at hx
        have := hr _ _ hx
        exact hA _ (by have := hS.1; omega)
  have hAr : ArrOfT s cA (.array ty) := fun N9 z9 => by
    obtain ⟨-, k9, hk9, cm9, hkk9⟩ := (hO 0 0 0).1
    exact ⟨(fun q hq => by cases hq), k9, hk9, cm9, hkk9⟩
  have hK2 : va_K D cl (tys ++ [(cA, .array ty)]) s := ⟨hK.1, fun k9 x hx => by
    by_cases hl : k9 < tys.length
    · rw [List.getElem?_append_left hl] at hx
      exact hK.2 k9 x hx
    · rw [List.getElem?_append_right (by omega)] at hx
      have h0 : k9 - tys.length < 1 := (List.getElem?_eq_some_iff.mp hx).1
      rw [show k9 - tys.length = 0 by omega] at hx
      cases hx
      exact ⟨hAr, fA⟩⟩
  obtain ⟨t, a1, b1⟩ := kk H.size (fun i => H.size + 1 + i) cA F.heap (fun i j _ _ h => by have h9 : H.size + 1 + i = H.size + 1 + j := h; omega) hnl hK2 (by rw [← vr_rows hnm]; exact vr_lay hP2) (by rw [← vr_rows hnm]; exact vr_layD hD2) ⟨by rw [f1]; have := hS.1; omega, fun x h1 h2 => (hold x (Nat.lt_of_lt_of_le h1 hS.1)).trans (hS.2.1 x h1 h2), hS.2.2⟩ F rfl X'
  refine ⟨t, step t ?_, b1⟩
  have e : T.heap.size = H.size := by rw [hT]
  rw [e]
  exact a1
end VGM
/-! ===== END ===== -/
def RX0 : String := "HatDraw$Office"
def TX0 : u_T := fun k => match k with
  | 0 => ("HatDraw$Office", "kinds", "[I", true)
  | 1 => ("HatDraw$Office", "tables", "[I", true)
  | 2 => ("HatDraw$Office", "worths", "[I", true)
  | 3 => ("HatDraw$Office", "years", "[I", true)
  | 4 => ("HatDraw$Office", "size", "I", false)
  | 5 => ("HatDraw$Office", "yearCount", "I", false)
  | _ => ("HatDraw$Office", "rules", "I", false)
def tyX0 : Nat → FieldType := fun k => match k with
  | 0 => .array .int
  | 1 => .array .int
  | 2 => .array .int
  | 3 => .array .int
  | 4 => .int
  | 5 => .int
  | _ => .int
abbrev wsX00 : List Cond := u_ws RX0 TX0 7
theorem nmX0 : ∀ a, a < 7 → ∀ b, b < 7 → a ≠ b → (TX0 a).2.1 ≠ (TX0 b).2.1 := by decide +kernel
theorem tyX0_ok : ∀ k, k < 7 → parseFieldDescriptor (TX0 k).2.2.1 = some (tyX0 k) := by decide +kernel
abbrev cX0_init : ByteArray := prog_2_method_1_code
def yX0_init : MethodName := ⟨RX0, "<init>", "()V"⟩
abbrev cX0_settle : ByteArray := prog_2_method_2_code
def yX0_settle : MethodName := ⟨RX0, "settle", "([BI)V"⟩
abbrev cX0_become : ByteArray := prog_2_method_3_code
def yX0_become : MethodName := ⟨RX0, "become", "(LHatDraw$Office;)V"⟩
abbrev cX0_addYear : ByteArray := prog_2_method_4_code
def yX0_addYear : MethodName := ⟨RX0, "addYear", "(I)V"⟩
abbrev cX0_hadYear : ByteArray := prog_2_method_5_code
def yX0_hadYear : MethodName := ⟨RX0, "hadYear", "(I)Z"⟩
abbrev cX0_latest : ByteArray := prog_2_method_6_code
def yX0_latest : MethodName := ⟨RX0, "latest", "(I)I"⟩
abbrev cX0_fact : ByteArray := prog_2_method_7_code
def yX0_fact : MethodName := ⟨RX0, "fact", "(II)I"⟩
abbrev cX0_isFor : ByteArray := prog_2_method_8_code
def yX0_isFor : MethodName := ⟨RX0, "isFor", "(I)Z"⟩
abbrev cX0_barrier : ByteArray := prog_2_method_9_code
def yX0_barrier : MethodName := ⟨RX0, "barrier", "(II)I"⟩
abbrev cX0_open : ByteArray := prog_2_method_10_code
def yX0_open : MethodName := ⟨RX0, "open", "(I)I"⟩
abbrev cX0_minds : ByteArray := prog_2_method_11_code
def yX0_minds : MethodName := ⟨RX0, "minds", "(II)Z"⟩
abbrev cX0_drawsBack : ByteArray := prog_2_method_12_code
def yX0_drawsBack : MethodName := ⟨RX0, "drawsBack", "(III)Z"⟩
abbrev cX0_against : ByteArray := prog_2_method_13_code
def yX0_against : MethodName := ⟨RX0, "against", "(II)I"⟩
abbrev cX0_breaksRing : ByteArray := prog_2_method_14_code
def yX0_breaksRing : MethodName := ⟨RX0, "breaksRing", "(I)Z"⟩
abbrev cX0_othersAtTable : ByteArray := prog_2_method_15_code
def yX0_othersAtTable : MethodName := ⟨RX0, "othersAtTable", "(I)I"⟩
abbrev cX0_yearsPaired : ByteArray := prog_2_method_16_code
def yX0_yearsPaired : MethodName := ⟨RX0, "yearsPaired", "(I)I"⟩
abbrev cX0_worthier : ByteArray := prog_2_method_17_code
def yX0_worthier : MethodName := ⟨RX0, "worthier", "(I)I"⟩
abbrev cX0_othersBarredFrom : ByteArray := prog_2_method_18_code
def yX0_othersBarredFrom : MethodName := ⟨RX0, "othersBarredFrom", "(I)I"⟩
abbrev cX0_howManyOf : ByteArray := prog_2_method_19_code
def yX0_howManyOf : MethodName := ⟨RX0, "howManyOf", "(I)I"⟩
abbrev cX0_greatestDifference : ByteArray := prog_2_method_20_code
def yX0_greatestDifference : MethodName := ⟨RX0, "greatestDifference", "(I)I"⟩
def RX1 : String := "HatDraw$Rows"
def TX1 : u_T := fun k => match k with
  | 0 => ("HatDraw$Rows", "cells", "[[I", true)
  | _ => ("HatDraw$Rows", "sizes", "[I", true)
def tyX1 : Nat → FieldType := fun k => match k with
  | 0 => .array (.array .int)
  | _ => .array .int
abbrev wsX10 : List Cond := u_ws RX1 TX1 2
theorem nmX1 : ∀ a, a < 2 → ∀ b, b < 2 → a ≠ b → (TX1 a).2.1 ≠ (TX1 b).2.1 := by decide +kernel
theorem tyX1_ok : ∀ k, k < 2 → parseFieldDescriptor (TX1 k).2.2.1 = some (tyX1 k) := by decide +kernel
abbrev cX1_init : ByteArray := prog_3_method_1_code
def yX1_init : MethodName := ⟨RX1, "<init>", "()V"⟩
abbrev cX1_isMissing : ByteArray := prog_3_method_2_code
def yX1_isMissing : MethodName := ⟨RX1, "isMissing", "(I)Z"⟩
abbrev cX1_renew : ByteArray := prog_3_method_3_code
def yX1_renew : MethodName := ⟨RX1, "renew", "(II)V"⟩
abbrev cX1_missesPlace : ByteArray := prog_3_method_4_code
def yX1_missesPlace : MethodName := ⟨RX1, "missesPlace", "(II)I"⟩
abbrev cX1_hasPlaces : ByteArray := prog_3_method_5_code
def yX1_hasPlaces : MethodName := ⟨RX1, "hasPlaces", "(III)Z"⟩
abbrev cX1_mixAll : ByteArray := prog_3_method_6_code
def yX1_mixAll : MethodName := ⟨RX1, "mixAll", "(J)J"⟩
def RX2 : String := "HatDraw$Search"
def TX2 : u_T := fun k => match k with
  | 0 => ("HatDraw$Search", "codes", "[I", true)
  | 1 => ("HatDraw$Search", "found", "I", false)
  | 2 => ("HatDraw$Search", "office", "LHatDraw$Office;", true)
  | 3 => ("HatDraw$Search", "open", "[I", true)
  | 4 => ("HatDraw$Search", "wanted", "I", false)
  | _ => ("HatDraw$Search", "newOnly", "Z", false)
def tyX2 : Nat → FieldType := fun k => match k with
  | 0 => .array .int
  | 1 => .int
  | 2 => .object "HatDraw$Office"
  | 3 => .array .int
  | 4 => .int
  | _ => .boolean
abbrev wsX20 : List Cond := u_ws RX2 TX2 6
theorem nmX2 : ∀ a, a < 6 → ∀ b, b < 6 → a ≠ b → (TX2 a).2.1 ≠ (TX2 b).2.1 := by decide +kernel
theorem tyX2_ok : ∀ k, k < 6 → parseFieldDescriptor (TX2 k).2.2.1 = some (tyX2 k) := by decide +kernel
abbrev cX2_init : ByteArray := prog_4_method_1_code
def yX2_init : MethodName := ⟨RX2, "<init>", "(LHatDraw$Office;)V"⟩
abbrev cX2_list : ByteArray := prog_4_method_2_code
def yX2_list : MethodName := ⟨RX2, "list", "(IZ)I"⟩
abbrev cX2_extend : ByteArray := prog_4_method_3_code
def yX2_extend : MethodName := ⟨RX2, "extend", "(III)V"⟩
abbrev cX2_admit : ByteArray := prog_4_method_4_code
def yX2_admit : MethodName := ⟨RX2, "admit", "(I)V"⟩
abbrev cX2_fitsAt : ByteArray := prog_4_method_5_code
def yX2_fitsAt : MethodName := ⟨RX2, "fitsAt", "(III)Z"⟩
abbrev cX2_fitting : ByteArray := prog_4_method_6_code
def yX2_fitting : MethodName := ⟨RX2, "fitting", "(II)I"⟩
abbrev cX2_placeOf : ByteArray := prog_4_method_7_code
def yX2_placeOf : MethodName := ⟨RX2, "placeOf", "(II)I"⟩
abbrev cX2_differing : ByteArray := prog_4_method_8_code
def yX2_differing : MethodName := ⟨RX2, "differing", "(II)I"⟩
abbrev cX2_shareByTurns : ByteArray := prog_4_method_9_code
def yX2_shareByTurns : MethodName := ⟨RX2, "shareByTurns", "(IIII)I"⟩
abbrev cX2_shareOf : ByteArray := prog_4_method_10_code
def yX2_shareOf : MethodName := ⟨RX2, "shareOf", "(IIIIII)I"⟩
abbrev cX2_partsAt : ByteArray := prog_4_method_11_code
def yX2_partsAt : MethodName := ⟨RX2, "partsAt", "(III)I"⟩
def RX3 : String := "HatDraw$Texts"
def TX3 : u_T := fun k => match k with
  | 0 => ("HatDraw$Texts", "cells", "[[B", true)
  | _ => ("HatDraw$Texts", "sizes", "[I", true)
def tyX3 : Nat → FieldType := fun k => match k with
  | 0 => .array (.array .byte)
  | _ => .array .int
abbrev wsX30 : List Cond := u_ws RX3 TX3 2
theorem nmX3 : ∀ a, a < 2 → ∀ b, b < 2 → a ≠ b → (TX3 a).2.1 ≠ (TX3 b).2.1 := by decide +kernel
theorem tyX3_ok : ∀ k, k < 2 → parseFieldDescriptor (TX3 k).2.2.1 = some (tyX3 k) := by decide +kernel
abbrev cX3_init : ByteArray := prog_5_method_1_code
def yX3_init : MethodName := ⟨RX3, "<init>", "()V"⟩
abbrev cX3_isMissing : ByteArray := prog_5_method_2_code
def yX3_isMissing : MethodName := ⟨RX3, "isMissing", "(I)Z"⟩
abbrev cX3_renew : ByteArray := prog_5_method_3_code
def yX3_renew : MethodName := ⟨RX3, "renew", "(II)V"⟩
abbrev cX3_firstFault : ByteArray := prog_5_method_4_code
def yX3_firstFault : MethodName := ⟨RX3, "firstFault", "(I)I"⟩
abbrev cX3_isFigure : ByteArray := prog_5_method_5_code
def yX3_isFigure : MethodName := ⟨RX3, "isFigure", "(II)Z"⟩
abbrev cX3_mixAll : ByteArray := prog_5_method_6_code
def yX3_mixAll : MethodName := ⟨RX3, "mixAll", "(J)J"⟩
def RX4 : String := "HatDraw"
def TX4 : u_T := fun k => match k with
  | 0 => ("HatDraw", "rows", "LHatDraw$Rows;", true)
  | 1 => ("HatDraw", "texts", "LHatDraw$Texts;", true)
  | 2 => ("HatDraw", "here", "LHatDraw$Office;", true)
  | 3 => ("HatDraw", "trial", "LHatDraw$Office;", true)
  | 4 => ("HatDraw", "right", "LHatDraw$Search;", true)
  | 5 => ("HatDraw", "tried", "LHatDraw$Search;", true)
  | 6 => ("HatDraw", "hat", "I", false)
  | 7 => ("HatDraw", "drawn", "I", false)
  | 8 => ("HatDraw", "keptHats", "[I", true)
  | 9 => ("HatDraw", "keptDrawn", "[I", true)
  | 10 => ("HatDraw", "keptRules", "[I", true)
  | 11 => ("HatDraw", "stale", "Z", false)
  | 12 => ("HatDraw", "told", "I", false)
  | 13 => ("HatDraw", "upperTold", "J", false)
  | 14 => ("HatDraw", "lowerTold", "J", false)
  | 15 => ("HatDraw", "lastFinding", "I", false)
  | _ => ("HatDraw", "findingCounts", "[I", true)
def tyX4 : Nat → FieldType := fun k => match k with
  | 0 => .object "HatDraw$Rows"
  | 1 => .object "HatDraw$Texts"
  | 2 => .object "HatDraw$Office"
  | 3 => .object "HatDraw$Office"
  | 4 => .object "HatDraw$Search"
  | 5 => .object "HatDraw$Search"
  | 6 => .int
  | 7 => .int
  | 8 => .array .int
  | 9 => .array .int
  | 10 => .array .int
  | 11 => .boolean
  | 12 => .int
  | 13 => .long
  | 14 => .long
  | 15 => .int
  | _ => .array .int
abbrev wsX40 : List Cond := u_ws RX4 TX4 17
theorem nmX4 : ∀ a, a < 17 → ∀ b, b < 17 → a ≠ b → (TX4 a).2.1 ≠ (TX4 b).2.1 := by decide +kernel
theorem tyX4_ok : ∀ k, k < 17 → parseFieldDescriptor (TX4 k).2.2.1 = some (tyX4 k) := by decide +kernel
abbrev cX4_init : ByteArray := prog_1_method_1_code
def yX4_init : MethodName := ⟨RX4, "<init>", "()V"⟩
abbrev cX4_row : ByteArray := prog_1_method_2_code
def yX4_row : MethodName := ⟨RX4, "row", "(II)I"⟩
abbrev cX4_lay : ByteArray := prog_1_method_3_code
def yX4_lay : MethodName := ⟨RX4, "lay", "(III)I"⟩
abbrev cX4_at : ByteArray := prog_1_method_4_code
def yX4_at : MethodName := ⟨RX4, "at", "(II)I"⟩
abbrev cX4_tear : ByteArray := prog_1_method_5_code
def yX4_tear : MethodName := ⟨RX4, "tear", "(I)I"⟩
abbrev cX4_copy : ByteArray := prog_1_method_6_code
def yX4_copy : MethodName := ⟨RX4, "copy", "(IIIII)I"⟩
abbrev cX4_mean : ByteArray := prog_1_method_7_code
def yX4_mean : MethodName := ⟨RX4, "mean", "(I)I"⟩
abbrev cX4_text : ByteArray := prog_1_method_8_code
def yX4_text : MethodName := ⟨RX4, "text", "(II)I"⟩
abbrev cX4_put : ByteArray := prog_1_method_9_code
def yX4_put : MethodName := ⟨RX4, "put", "(III)I"⟩
abbrev cX4_fault : ByteArray := prog_1_method_10_code
def yX4_fault : MethodName := ⟨RX4, "fault", "(I)I"⟩
abbrev cX4_office : ByteArray := prog_1_method_11_code
def yX4_office : MethodName := ⟨RX4, "office", "(I)I"⟩
abbrev cX4_mate : ByteArray := prog_1_method_12_code
def yX4_mate : MethodName := ⟨RX4, "mate", "(II)I"⟩
abbrev cX4_mark : ByteArray := prog_1_method_13_code
def yX4_mark : MethodName := ⟨RX4, "mark", "(II)I"⟩
abbrev cX4_rules : ByteArray := prog_1_method_14_code
def yX4_rules : MethodName := ⟨RX4, "rules", "(I)I"⟩
abbrev cX4_move : ByteArray := prog_1_method_15_code
def yX4_move : MethodName := ⟨RX4, "move", "(II)I"⟩
abbrev cX4_may : ByteArray := prog_1_method_16_code
def yX4_may : MethodName := ⟨RX4, "may", "(I)I"⟩
abbrev cX4_judge : ByteArray := prog_1_method_17_code
def yX4_judge : MethodName := ⟨RX4, "judge", "(I)I"⟩
abbrev cX4_ways : ByteArray := prog_1_method_18_code
def yX4_ways : MethodName := ⟨RX4, "ways", "()I"⟩
abbrev cX4_nth : ByteArray := prog_1_method_19_code
def yX4_nth : MethodName := ⟨RX4, "nth", "(II)I"⟩
abbrev cX4_number : ByteArray := prog_1_method_20_code
def yX4_number : MethodName := ⟨RX4, "number", "(I)I"⟩
abbrev cX4_lot : ByteArray := prog_1_method_21_code
def yX4_lot : MethodName := ⟨RX4, "lot", "(II)I"⟩
abbrev cX4_draw : ByteArray := prog_1_method_22_code
def yX4_draw : MethodName := ⟨RX4, "draw", "(I)I"⟩
abbrev cX4_undo : ByteArray := prog_1_method_23_code
def yX4_undo : MethodName := ⟨RX4, "undo", "(I)I"⟩
abbrev cX4_drew : ByteArray := prog_1_method_24_code
def yX4_drew : MethodName := ⟨RX4, "drew", "(I)I"⟩
abbrev cX4_can : ByteArray := prog_1_method_25_code
def yX4_can : MethodName := ⟨RX4, "can", "()I"⟩
abbrev cX4_turns : ByteArray := prog_1_method_26_code
def yX4_turns : MethodName := ⟨RX4, "turns", "(II)I"⟩
abbrev cX4_alike : ByteArray := prog_1_method_27_code
def yX4_alike : MethodName := ⟨RX4, "alike", "(II)I"⟩
abbrev cX4_play : ByteArray := prog_1_method_28_code
def yX4_play : MethodName := ⟨RX4, "play", "(I)I"⟩
abbrev cX4_keep : ByteArray := prog_1_method_29_code
def yX4_keep : MethodName := ⟨RX4, "keep", "(I)I"⟩
abbrev cX4_on : ByteArray := prog_1_method_30_code
def yX4_on : MethodName := ⟨RX4, "on", "(I)I"⟩
abbrev cX4_year : ByteArray := prog_1_method_31_code
def yX4_year : MethodName := ⟨RX4, "year", "(I)I"⟩
abbrev cX4_forget : ByteArray := prog_1_method_32_code
def yX4_forget : MethodName := ⟨RX4, "forget", "(I)I"⟩
abbrev cX4_run : ByteArray := prog_1_method_33_code
def yX4_run : MethodName := ⟨RX4, "run", "()I"⟩
abbrev cX4_times : ByteArray := prog_1_method_34_code
def yX4_times : MethodName := ⟨RX4, "times", "(II)I"⟩
abbrev cX4_fits : ByteArray := prog_1_method_35_code
def yX4_fits : MethodName := ⟨RX4, "fits", "(II)I"⟩
abbrev cX4_known : ByteArray := prog_1_method_36_code
def yX4_known : MethodName := ⟨RX4, "known", "(II)I"⟩
abbrev cX4_still : ByteArray := prog_1_method_37_code
def yX4_still : MethodName := ⟨RX4, "still", "(II)I"⟩
abbrev cX4_fewest : ByteArray := prog_1_method_38_code
def yX4_fewest : MethodName := ⟨RX4, "fewest", "(I)I"⟩
abbrev cX4_drop : ByteArray := prog_1_method_39_code
def yX4_drop : MethodName := ⟨RX4, "drop", "()I"⟩
abbrev cX4_table : ByteArray := prog_1_method_40_code
def yX4_table : MethodName := ⟨RX4, "table", "(I)I"⟩
abbrev cX4_rings : ByteArray := prog_1_method_41_code
def yX4_rings : MethodName := ⟨RX4, "rings", "(I)I"⟩
abbrev cX4_ringed : ByteArray := prog_1_method_42_code
def yX4_ringed : MethodName := ⟨RX4, "ringed", "(I)I"⟩
abbrev cX4_even : ByteArray := prog_1_method_43_code
def yX4_even : MethodName := ⟨RX4, "even", "(I)I"⟩
abbrev cX4_gain : ByteArray := prog_1_method_44_code
def yX4_gain : MethodName := ⟨RX4, "gain", "(II)I"⟩
abbrev cX4_asked : ByteArray := prog_1_method_45_code
def yX4_asked : MethodName := ⟨RX4, "asked", "()I"⟩
abbrev cX4_upper : ByteArray := prog_1_method_46_code
def yX4_upper : MethodName := ⟨RX4, "upper", "()J"⟩
abbrev cX4_lower : ByteArray := prog_1_method_47_code
def yX4_lower : MethodName := ⟨RX4, "lower", "()J"⟩
abbrev cX4_count : ByteArray := prog_1_method_48_code
def yX4_count : MethodName := ⟨RX4, "count", "(I)I"⟩
abbrev cX4_finding : ByteArray := prog_1_method_49_code
def yX4_finding : MethodName := ⟨RX4, "finding", "()I"⟩
abbrev cX4_findings : ByteArray := prog_1_method_50_code
def yX4_findings : MethodName := ⟨RX4, "findings", "(I)I"⟩
abbrev cX4_digest : ByteArray := prog_1_method_51_code
def yX4_digest : MethodName := ⟨RX4, "digest", "()J"⟩
abbrev cX4_isRow : ByteArray := prog_1_method_52_code
def yX4_isRow : MethodName := ⟨RX4, "isRow", "(I)Z"⟩
abbrev cX4_isText : ByteArray := prog_1_method_53_code
def yX4_isText : MethodName := ⟨RX4, "isText", "(I)Z"⟩
abbrev cX4_isKeptPlace : ByteArray := prog_1_method_54_code
def yX4_isKeptPlace : MethodName := ⟨RX4, "isKeptPlace", "(I)Z"⟩
abbrev cX4_isSeed : ByteArray := prog_1_method_55_code
def yX4_isSeed : MethodName := ⟨RX4, "isSeed", "(I)Z"⟩
abbrev cX4_isMate : ByteArray := prog_1_method_56_code
def yX4_isMate : MethodName := ⟨RX4, "isMate", "(I)Z"⟩
abbrev cX4_isSet : ByteArray := prog_1_method_57_code
def yX4_isSet : MethodName := ⟨RX4, "isSet", "(I)Z"⟩
abbrev cX4_refuse : ByteArray := prog_1_method_58_code
def yX4_refuse : MethodName := ⟨RX4, "refuse", "(I)I"⟩
abbrev cX4_tellFraction : ByteArray := prog_1_method_59_code
def yX4_tellFraction : MethodName := ⟨RX4, "tellFraction", "(II)V"⟩
abbrev cX4_listRight : ByteArray := prog_1_method_60_code
def yX4_listRight : MethodName := ⟨RX4, "listRight", "()V"⟩
abbrev cX4_drawingIn : ByteArray := prog_1_method_61_code
def yX4_drawingIn : MethodName := ⟨RX4, "drawingIn", "(I)I"⟩
abbrev cX4_rightDrawingIn : ByteArray := prog_1_method_62_code
def yX4_rightDrawingIn : MethodName := ⟨RX4, "rightDrawingIn", "(I)I"⟩
abbrev cX4_layDrawing : ByteArray := prog_1_method_63_code
def yX4_layDrawing : MethodName := ⟨RX4, "layDrawing", "(II)V"⟩
abbrev cX4_isTaken : ByteArray := prog_1_method_64_code
def yX4_isTaken : MethodName := ⟨RX4, "isTaken", "(I)Z"⟩
abbrev cX4_takePaper : ByteArray := prog_1_method_65_code
def yX4_takePaper : MethodName := ⟨RX4, "takePaper", "(I)V"⟩
abbrev cX4_nextOpen : ByteArray := prog_1_method_66_code
def yX4_nextOpen : MethodName := ⟨RX4, "nextOpen", "()I"⟩
abbrev cX4_papersOf : ByteArray := prog_1_method_67_code
def yX4_papersOf : MethodName := ⟨RX4, "papersOf", "(I)I"⟩
abbrev cX4_paper : ByteArray := prog_1_method_68_code
def yX4_paper : MethodName := ⟨RX4, "paper", "(II)I"⟩
abbrev cX4_firstOnes : ByteArray := prog_1_method_69_code
def yX4_firstOnes : MethodName := ⟨RX4, "firstOnes", "(I)I"⟩
abbrev cX4_nextLot : ByteArray := prog_1_method_70_code
def yX4_nextLot : MethodName := ⟨RX4, "nextLot", "(I)I"⟩
abbrev cX4_bitNumber : ByteArray := prog_1_method_71_code
def yX4_bitNumber : MethodName := ⟨RX4, "bitNumber", "(II)I"⟩
abbrev cX4_isOf : ByteArray := prog_1_method_72_code
def yX4_isOf : MethodName := ⟨RX4, "isOf", "(II)Z"⟩
abbrev cX4_kindOf : ByteArray := prog_1_method_73_code
def yX4_kindOf : MethodName := ⟨RX4, "kindOf", "(I)I"⟩
abbrev cX4_ringOf : ByteArray := prog_1_method_74_code
def yX4_ringOf : MethodName := ⟨RX4, "ringOf", "(II)I"⟩
abbrev cX4_ringCount : ByteArray := prog_1_method_75_code
def yX4_ringCount : MethodName := ⟨RX4, "ringCount", "(II)I"⟩
abbrev cX4_howManyThere : ByteArray := prog_1_method_76_code
def yX4_howManyThere : MethodName := ⟨RX4, "howManyThere", "([I)I"⟩
abbrev cX4_mixPapers : ByteArray := prog_1_method_77_code
def yX4_mixPapers : MethodName := ⟨RX4, "mixPapers", "(JII)J"⟩
def RX5 : String := "HatDrawModel"
def TX5 : u_T := fun k => match k with
  | 0 => ("HatDrawModel", "finding", "I", false)
  | 1 => ("HatDrawModel", "findings", "[I", true)
  | 2 => ("HatDrawModel", "asked", "I", false)
  | 3 => ("HatDrawModel", "upper", "J", false)
  | 4 => ("HatDrawModel", "lower", "J", false)
  | 5 => ("HatDrawModel", "sizes", "[I", true)
  | 6 => ("HatDrawModel", "rows", "[I", true)
  | 7 => ("HatDrawModel", "moving", "[I", true)
  | 8 => ("HatDrawModel", "lengths", "[I", true)
  | 9 => ("HatDrawModel", "texts", "[I", true)
  | 10 => ("HatDrawModel", "many", "I", false)
  | 11 => ("HatDrawModel", "rules", "I", false)
  | 12 => ("HatDrawModel", "kinds", "[I", true)
  | 13 => ("HatDrawModel", "tables", "[I", true)
  | 14 => ("HatDrawModel", "worths", "[I", true)
  | 15 => ("HatDrawModel", "readAt", "I", false)
  | 16 => ("HatDrawModel", "readMany", "I", false)
  | 17 => ("HatDrawModel", "years", "[I", true)
  | 18 => ("HatDrawModel", "yearMany", "I", false)
  | 19 => ("HatDrawModel", "one", "[I", true)
  | 20 => ("HatDrawModel", "badMate", "I", false)
  | 21 => ("HatDrawModel", "rights", "[I", true)
  | 22 => ("HatDrawModel", "rightMany", "I", false)
  | 23 => ("HatDrawModel", "laidSet", "I", false)
  | 24 => ("HatDrawModel", "drawn", "I", false)
  | 25 => ("HatDrawModel", "hat", "[I", true)
  | 26 => ("HatDrawModel", "beginMany", "I", false)
  | 27 => ("HatDrawModel", "turnSum", "J", false)
  | 28 => ("HatDrawModel", "aside", "[I", true)
  | 29 => ("HatDrawModel", "kept", "[I", true)
  | 30 => ("HatDrawModel", "fitMany", "I", false)
  | _ => ("HatDrawModel", "h0", "J", false)
def tyX5 : Nat → FieldType := fun k => match k with
  | 0 => .int
  | 1 => .array .int
  | 2 => .int
  | 3 => .long
  | 4 => .long
  | 5 => .array .int
  | 6 => .array .int
  | 7 => .array .int
  | 8 => .array .int
  | 9 => .array .int
  | 10 => .int
  | 11 => .int
  | 12 => .array .int
  | 13 => .array .int
  | 14 => .array .int
  | 15 => .int
  | 16 => .int
  | 17 => .array .int
  | 18 => .int
  | 19 => .array .int
  | 20 => .int
  | 21 => .array .int
  | 22 => .int
  | 23 => .int
  | 24 => .int
  | 25 => .array .int
  | 26 => .int
  | 27 => .long
  | 28 => .array .int
  | 29 => .array .int
  | 30 => .int
  | _ => .long
abbrev wsX50 : List Cond := u_ws RX5 TX5 32
theorem nmX5 : ∀ a, a < 32 → ∀ b, b < 32 → a ≠ b → (TX5 a).2.1 ≠ (TX5 b).2.1 := by decide +kernel
theorem tyX5_ok : ∀ k, k < 32 → parseFieldDescriptor (TX5 k).2.2.1 = some (tyX5 k) := by decide +kernel
abbrev cX5_init : ByteArray := prog_7_method_1_code
def yX5_init : MethodName := ⟨RX5, "<init>", "()V"⟩
abbrev cX5_in : ByteArray := prog_7_method_3_code
def yX5_in : MethodName := ⟨RX5, "in", "(III)Z"⟩
abbrev cX5_meet : ByteArray := prog_7_method_4_code
def yX5_meet : MethodName := ⟨RX5, "meet", "(I)I"⟩
abbrev cX5_ask : ByteArray := prog_7_method_5_code
def yX5_ask : MethodName := ⟨RX5, "ask", "(II)I"⟩
abbrev cX5_part : ByteArray := prog_7_method_6_code
def yX5_part : MethodName := ⟨RX5, "part", "(JJI)I"⟩
abbrev cX5_has : ByteArray := prog_7_method_7_code
def yX5_has : MethodName := ⟨RX5, "has", "(II)Z"⟩
abbrev cX5_sizeOf : ByteArray := prog_7_method_8_code
def yX5_sizeOf : MethodName := ⟨RX5, "sizeOf", "(I)I"⟩
abbrev cX5_isRow : ByteArray := prog_7_method_9_code
def yX5_isRow : MethodName := ⟨RX5, "isRow", "(I)Z"⟩
abbrev cX5_isText : ByteArray := prog_7_method_10_code
def yX5_isText : MethodName := ⟨RX5, "isText", "(I)Z"⟩
abbrev cX5_askedRow : ByteArray := prog_7_method_11_code
def yX5_askedRow : MethodName := ⟨RX5, "askedRow", "(I)I"⟩
abbrev cX5_askedText : ByteArray := prog_7_method_12_code
def yX5_askedText : MethodName := ⟨RX5, "askedText", "(I)I"⟩
abbrev cX5_rowAt : ByteArray := prog_7_method_13_code
def yX5_rowAt : MethodName := ⟨RX5, "rowAt", "(II)I"⟩
abbrev cX5_setRow : ByteArray := prog_7_method_14_code
def yX5_setRow : MethodName := ⟨RX5, "setRow", "(III)V"⟩
abbrev cX5_row : ByteArray := prog_7_method_15_code
def yX5_row : MethodName := ⟨RX5, "row", "(II)I"⟩
abbrev cX5_at : ByteArray := prog_7_method_16_code
def yX5_at : MethodName := ⟨RX5, "at", "(II)I"⟩
abbrev cX5_lay : ByteArray := prog_7_method_17_code
def yX5_lay : MethodName := ⟨RX5, "lay", "(III)I"⟩
abbrev cX5_tear : ByteArray := prog_7_method_18_code
def yX5_tear : MethodName := ⟨RX5, "tear", "(I)I"⟩
abbrev cX5_copy : ByteArray := prog_7_method_19_code
def yX5_copy : MethodName := ⟨RX5, "copy", "(IIIII)I"⟩
abbrev cX5_mean : ByteArray := prog_7_method_20_code
def yX5_mean : MethodName := ⟨RX5, "mean", "(I)I"⟩
abbrev cX5_text : ByteArray := prog_7_method_21_code
def yX5_text : MethodName := ⟨RX5, "text", "(II)I"⟩
abbrev cX5_put : ByteArray := prog_7_method_22_code
def yX5_put : MethodName := ⟨RX5, "put", "(III)I"⟩
abbrev cX5_here : ByteArray := prog_7_method_23_code
def yX5_here : MethodName := ⟨RX5, "here", "(I)I"⟩
abbrev cX5_kindOf : ByteArray := prog_7_method_24_code
def yX5_kindOf : MethodName := ⟨RX5, "kindOf", "(I)I"⟩
abbrev cX5_readsMate : ByteArray := prog_7_method_25_code
def yX5_readsMate : MethodName := ⟨RX5, "readsMate", "(I)Z"⟩
abbrev cX5_goesOn : ByteArray := prog_7_method_26_code
def yX5_goesOn : MethodName := ⟨RX5, "goesOn", "(I)I"⟩
abbrev cX5_fault : ByteArray := prog_7_method_27_code
def yX5_fault : MethodName := ⟨RX5, "fault", "(I)I"⟩
abbrev cX5_office : ByteArray := prog_7_method_28_code
def yX5_office : MethodName := ⟨RX5, "office", "(I)I"⟩
abbrev cX5_isMate : ByteArray := prog_7_method_29_code
def yX5_isMate : MethodName := ⟨RX5, "isMate", "(I)Z"⟩
abbrev cX5_isSet : ByteArray := prog_7_method_30_code
def yX5_isSet : MethodName := ⟨RX5, "isSet", "(I)Z"⟩
abbrev cX5_isA : ByteArray := prog_7_method_31_code
def yX5_isA : MethodName := ⟨RX5, "isA", "(II)Z"⟩
abbrev cX5_lastOf : ByteArray := prog_7_method_32_code
def yX5_lastOf : MethodName := ⟨RX5, "lastOf", "(I)I"⟩
abbrev cX5_mateOf : ByteArray := prog_7_method_33_code
def yX5_mateOf : MethodName := ⟨RX5, "mateOf", "(II)I"⟩
abbrev cX5_mate : ByteArray := prog_7_method_34_code
def yX5_mate : MethodName := ⟨RX5, "mate", "(II)I"⟩
abbrev cX5_barOf : ByteArray := prog_7_method_35_code
def yX5_barOf : MethodName := ⟨RX5, "barOf", "(II)I"⟩
abbrev cX5_mayOf : ByteArray := prog_7_method_36_code
def yX5_mayOf : MethodName := ⟨RX5, "mayOf", "(I)I"⟩
abbrev cX5_mark : ByteArray := prog_7_method_37_code
def yX5_mark : MethodName := ⟨RX5, "mark", "(II)I"⟩
abbrev cX5_rules : ByteArray := prog_7_method_38_code
def yX5_rules : MethodName := ⟨RX5, "rules", "(I)I"⟩
abbrev cX5_move : ByteArray := prog_7_method_39_code
def yX5_move : MethodName := ⟨RX5, "move", "(II)I"⟩
abbrev cX5_may : ByteArray := prog_7_method_40_code
def yX5_may : MethodName := ⟨RX5, "may", "(I)I"⟩
abbrev cX5_askedDrawing : ByteArray := prog_7_method_41_code
def yX5_askedDrawing : MethodName := ⟨RX5, "askedDrawing", "(I)I"⟩
abbrev cX5_isBack : ByteArray := prog_7_method_42_code
def yX5_isBack : MethodName := ⟨RX5, "isBack", "(II)Z"⟩
abbrev cX5_ringOf : ByteArray := prog_7_method_43_code
def yX5_ringOf : MethodName := ⟨RX5, "ringOf", "(I)I"⟩
abbrev cX5_ringsOf : ByteArray := prog_7_method_44_code
def yX5_ringsOf : MethodName := ⟨RX5, "ringsOf", "()I"⟩
abbrev cX5_badBy : ByteArray := prog_7_method_45_code
def yX5_badBy : MethodName := ⟨RX5, "badBy", "()I"⟩
abbrev cX5_judge : ByteArray := prog_7_method_46_code
def yX5_judge : MethodName := ⟨RX5, "judge", "(I)I"⟩
abbrev cX5_rightOn : ByteArray := prog_7_method_47_code
def yX5_rightOn : MethodName := ⟨RX5, "rightOn", "(I)V"⟩
abbrev cX5_setRights : ByteArray := prog_7_method_48_code
def yX5_setRights : MethodName := ⟨RX5, "setRights", "()V"⟩
abbrev cX5_right : ByteArray := prog_7_method_49_code
def yX5_right : MethodName := ⟨RX5, "right", "(II)I"⟩
abbrev cX5_ways : ByteArray := prog_7_method_50_code
def yX5_ways : MethodName := ⟨RX5, "ways", "()I"⟩
abbrev cX5_layRight : ByteArray := prog_7_method_51_code
def yX5_layRight : MethodName := ⟨RX5, "layRight", "(II)V"⟩
abbrev cX5_nth : ByteArray := prog_7_method_52_code
def yX5_nth : MethodName := ⟨RX5, "nth", "(II)I"⟩
abbrev cX5_numberOf : ByteArray := prog_7_method_53_code
def yX5_numberOf : MethodName := ⟨RX5, "numberOf", "(I)I"⟩
abbrev cX5_number : ByteArray := prog_7_method_54_code
def yX5_number : MethodName := ⟨RX5, "number", "(I)I"⟩
abbrev cX5_isSeed : ByteArray := prog_7_method_55_code
def yX5_isSeed : MethodName := ⟨RX5, "isSeed", "(I)Z"⟩
abbrev cX5_lot : ByteArray := prog_7_method_56_code
def yX5_lot : MethodName := ⟨RX5, "lot", "(II)I"⟩
abbrev cX5_draw : ByteArray := prog_7_method_57_code
def yX5_draw : MethodName := ⟨RX5, "draw", "(I)I"⟩
abbrev cX5_undo : ByteArray := prog_7_method_58_code
def yX5_undo : MethodName := ⟨RX5, "undo", "(I)I"⟩
abbrev cX5_drew : ByteArray := prog_7_method_59_code
def yX5_drew : MethodName := ⟨RX5, "drew", "(I)I"⟩
abbrev cX5_begins : ByteArray := prog_7_method_60_code
def yX5_begins : MethodName := ⟨RX5, "begins", "(II)Z"⟩
abbrev cX5_cans : ByteArray := prog_7_method_61_code
def yX5_cans : MethodName := ⟨RX5, "cans", "(I)I"⟩
abbrev cX5_can : ByteArray := prog_7_method_62_code
def yX5_can : MethodName := ⟨RX5, "can", "()I"⟩
abbrev cX5_turnOn : ByteArray := prog_7_method_63_code
def yX5_turnOn : MethodName := ⟨RX5, "turnOn", "(IIIJ)V"⟩
abbrev cX5_turns : ByteArray := prog_7_method_64_code
def yX5_turns : MethodName := ⟨RX5, "turns", "(II)I"⟩
abbrev cX5_alike : ByteArray := prog_7_method_65_code
def yX5_alike : MethodName := ⟨RX5, "alike", "(II)I"⟩
abbrev cX5_play : ByteArray := prog_7_method_66_code
def yX5_play : MethodName := ⟨RX5, "play", "(I)I"⟩
abbrev cX5_keep : ByteArray := prog_7_method_67_code
def yX5_keep : MethodName := ⟨RX5, "keep", "(I)I"⟩
abbrev cX5_on : ByteArray := prog_7_method_68_code
def yX5_on : MethodName := ⟨RX5, "on", "(I)I"⟩
abbrev cX5_year : ByteArray := prog_7_method_69_code
def yX5_year : MethodName := ⟨RX5, "year", "(I)I"⟩
abbrev cX5_forget : ByteArray := prog_7_method_70_code
def yX5_forget : MethodName := ⟨RX5, "forget", "(I)I"⟩
abbrev cX5_isYear : ByteArray := prog_7_method_71_code
def yX5_isYear : MethodName := ⟨RX5, "isYear", "(I)Z"⟩
abbrev cX5_run : ByteArray := prog_7_method_72_code
def yX5_run : MethodName := ⟨RX5, "run", "()I"⟩
abbrev cX5_times : ByteArray := prog_7_method_73_code
def yX5_times : MethodName := ⟨RX5, "times", "(II)I"⟩
abbrev cX5_askedRight : ByteArray := prog_7_method_74_code
def yX5_askedRight : MethodName := ⟨RX5, "askedRight", "(I)I"⟩
abbrev cX5_knownOf : ByteArray := prog_7_method_75_code
def yX5_knownOf : MethodName := ⟨RX5, "knownOf", "(II)I"⟩
abbrev cX5_askedTelling : ByteArray := prog_7_method_76_code
def yX5_askedTelling : MethodName := ⟨RX5, "askedTelling", "(II)I"⟩
abbrev cX5_fits : ByteArray := prog_7_method_77_code
def yX5_fits : MethodName := ⟨RX5, "fits", "(II)I"⟩
abbrev cX5_known : ByteArray := prog_7_method_78_code
def yX5_known : MethodName := ⟨RX5, "known", "(II)I"⟩
abbrev cX5_still : ByteArray := prog_7_method_79_code
def yX5_still : MethodName := ⟨RX5, "still", "(II)I"⟩
abbrev cX5_fewest : ByteArray := prog_7_method_80_code
def yX5_fewest : MethodName := ⟨RX5, "fewest", "(I)I"⟩
abbrev cX5_drop : ByteArray := prog_7_method_81_code
def yX5_drop : MethodName := ⟨RX5, "drop", "()I"⟩
abbrev cX5_table : ByteArray := prog_7_method_82_code
def yX5_table : MethodName := ⟨RX5, "table", "(I)I"⟩
abbrev cX5_rings : ByteArray := prog_7_method_83_code
def yX5_rings : MethodName := ⟨RX5, "rings", "(I)I"⟩
abbrev cX5_lookAt : ByteArray := prog_7_method_84_code
def yX5_lookAt : MethodName := ⟨RX5, "lookAt", "(I)V"⟩
abbrev cX5_ringed : ByteArray := prog_7_method_85_code
def yX5_ringed : MethodName := ⟨RX5, "ringed", "(I)I"⟩
abbrev cX5_even : ByteArray := prog_7_method_86_code
def yX5_even : MethodName := ⟨RX5, "even", "(I)I"⟩
abbrev cX5_gain : ByteArray := prog_7_method_87_code
def yX5_gain : MethodName := ⟨RX5, "gain", "(II)I"⟩
abbrev cX5_asked : ByteArray := prog_7_method_88_code
def yX5_asked : MethodName := ⟨RX5, "asked", "()I"⟩
abbrev cX5_upper : ByteArray := prog_7_method_89_code
def yX5_upper : MethodName := ⟨RX5, "upper", "()J"⟩
abbrev cX5_lower : ByteArray := prog_7_method_90_code
def yX5_lower : MethodName := ⟨RX5, "lower", "()J"⟩
abbrev cX5_tells : ByteArray := prog_7_method_91_code
def yX5_tells : MethodName := ⟨RX5, "tells", "(I)I"⟩
abbrev cX5_count : ByteArray := prog_7_method_92_code
def yX5_count : MethodName := ⟨RX5, "count", "(I)I"⟩
abbrev cX5_finding : ByteArray := prog_7_method_93_code
def yX5_finding : MethodName := ⟨RX5, "finding", "()I"⟩
abbrev cX5_findings : ByteArray := prog_7_method_94_code
def yX5_findings : MethodName := ⟨RX5, "findings", "(I)I"⟩
abbrev cX5_mix : ByteArray := prog_7_method_95_code
def yX5_mix : MethodName := ⟨RX5, "mix", "(I)V"⟩
abbrev cX5_mixOffice : ByteArray := prog_7_method_96_code
def yX5_mixOffice : MethodName := ⟨RX5, "mixOffice", "()V"⟩
abbrev cX5_digest : ByteArray := prog_7_method_97_code
def yX5_digest : MethodName := ⟨RX5, "digest", "()J"⟩
def RJ6 : String := "java/lang/Integer"
def TJ6 : u_T := fun k => match k with
  | _ => ("", "", "", false)
def tyJ6 : Nat → FieldType := fun k => match k with
  | _ => .int
abbrev wsJ60 : List Cond := u_ws RJ6 TJ6 0
theorem nmJ6 : ∀ a, a < 0 → ∀ b, b < 0 → a ≠ b → (TJ6 a).2.1 ≠ (TJ6 b).2.1 := by decide +kernel
theorem tyJ6_ok : ∀ k, k < 0 → parseFieldDescriptor (TJ6 k).2.2.1 = some (tyJ6 k) := by decide +kernel
abbrev cJ6_bitCount_0f7a4 : ByteArray := prog_8_method_49_code
def yJ6_bitCount_0f7a4 : MethodName := ⟨RJ6, "bitCount", "(I)I"⟩
def RJ9 : String := "java/lang/Math"
def TJ9 : u_T := fun k => match k with
  | _ => ("", "", "", false)
def tyJ9 : Nat → FieldType := fun k => match k with
  | _ => .int
abbrev wsJ90 : List Cond := u_ws RJ9 TJ9 0
theorem nmJ9 : ∀ a, a < 0 → ∀ b, b < 0 → a ≠ b → (TJ9 a).2.1 ≠ (TJ9 b).2.1 := by decide +kernel
theorem tyJ9_ok : ∀ k, k < 0 → parseFieldDescriptor (TJ9 k).2.2.1 = some (tyJ9 k) := by decide +kernel
abbrev cJ9_abs_0f7a4 : ByteArray := prog_9_method_59_code
def yJ9_abs_0f7a4 : MethodName := ⟨RJ9, "abs", "(I)I"⟩
abbrev cJ9_max_7cf53 : ByteArray := prog_9_method_65_code
def yJ9_max_7cf53 : MethodName := ⟨RJ9, "max", "(II)I"⟩
abbrev cJ9_min_7cf53 : ByteArray := prog_9_method_69_code
def yJ9_min_7cf53 : MethodName := ⟨RJ9, "min", "(II)I"⟩
def RJ10 : String := "java/lang/System"
def TJ10 : u_T := fun k => match k with
  | _ => ("", "", "", false)
def tyJ10 : Nat → FieldType := fun k => match k with
  | _ => .int
abbrev wsJ100 : List Cond := u_ws RJ10 TJ10 0
theorem nmJ10 : ∀ a, a < 0 → ∀ b, b < 0 → a ≠ b → (TJ10 a).2.1 ≠ (TJ10 b).2.1 := by decide +kernel
theorem tyJ10_ok : ∀ k, k < 0 → parseFieldDescriptor (TJ10 k).2.2.1 = some (tyJ10 k) := by decide +kernel
def RJ7 : String := "java/util/Arrays"
def TJ7 : u_T := fun k => match k with
  | _ => ("", "", "", false)
def tyJ7 : Nat → FieldType := fun k => match k with
  | _ => .int
abbrev wsJ70 : List Cond := u_ws RJ7 TJ7 0
theorem nmJ7 : ∀ a, a < 0 → ∀ b, b < 0 → a ≠ b → (TJ7 a).2.1 ≠ (TJ7 b).2.1 := by decide +kernel
theorem tyJ7_ok : ∀ k, k < 0 → parseFieldDescriptor (TJ7 k).2.2.1 = some (tyJ7 k) := by decide +kernel
abbrev cJ7_fill_53178 : ByteArray := prog_11_method_103_code
def yJ7_fill_53178 : MethodName := ⟨RJ7, "fill", "([II)V"⟩
abbrev cJ7_fill_031fb : ByteArray := prog_11_method_109_code
def yJ7_fill_031fb : MethodName := ⟨RJ7, "fill", "([BB)V"⟩
def RL : String := "HatDrawLaw"
abbrev cL_law : ByteArray := code
def yL_law : MethodName := ⟨RL, "law", "([I)Z"⟩
end
section
/-! words: all good words of the tables, one list for every method -/
def ww : List Cond := lw_tbl.filter goodWord
theorem ww_of {w : Cond} (h : w ∈ lw_tbl) (g : goodWord w = true) : w ∈ ww := List.mem_filter.mpr ⟨h, g⟩
theorem ww_p {w : Cond} (q : MethodName × Nat) (hq : q ∈ lw_privs) (e : Cond.selects q.1.cls q.1 q.1 = w) : w ∈ ww := by
  subst e
  exact ww_of (List.mem_append_left _ (List.mem_map.mpr ⟨q, hq, rfl⟩)) rfl
theorem ww_1 {w : Cond} (i : Nat) (h : tables_1_1[i]? = some w) (g : goodWord w = true) : w ∈ ww := ww_of (List.mem_append_right _ (List.mem_append_left _ (List.mem_of_getElem? h))) g
theorem ww_2 {w : Cond} (i : Nat) (h : tables_1_2[i]? = some w) (g : goodWord w = true) : w ∈ ww := ww_of (List.mem_append_right _ (List.mem_append_right _ (List.mem_append_left _ (List.mem_of_getElem? h)))) g
theorem ww_3 {w : Cond} (i : Nat) (h : tables_1_3[i]? = some w) (g : goodWord w = true) : w ∈ ww := ww_of (List.mem_append_right _ (List.mem_append_right _ (List.mem_append_right _ (List.mem_append_left _ (List.mem_of_getElem? h))))) g
theorem ww_4 {w : Cond} (i : Nat) (h : tables_1_4[i]? = some w) (g : goodWord w = true) : w ∈ ww := ww_of (List.mem_append_right _ (List.mem_append_right _ (List.mem_append_right _ (List.mem_append_right _ (List.mem_append_left _ (List.mem_of_getElem? h)))))) g
theorem ww_5 {w : Cond} (i : Nat) (h : tables_1_5[i]? = some w) (g : goodWord w = true) : w ∈ ww := ww_of (List.mem_append_right _ (List.mem_append_right _ (List.mem_append_right _ (List.mem_append_right _ (List.mem_append_right _ (List.mem_of_getElem? h)))))) g
theorem ww_good : ∀ w ∈ ww, w ∈ ww ∧ ((w.onTables && w.keeps) = true ∨ ∃ ty, w = .arrayClass ty) := fun w h => ⟨h, good_of_word (List.mem_filter.mp h).2⟩
theorem gww {y : MethodName} {b : ByteArray} {n : Nat} {r : Option FieldType} (h : Cond.code y b n r ∈ ww) : GoodIn ww (Cond.code y b n r :: ww) := fun w hw => by
  rcases List.mem_cons.mp hw with e | e
  · rw [e]; exact ww_good _ h
  · exact ww_good _ e
/-! the universe: values, worlds -/
abbrev AV : Type := Int32 ⊕ (Int64 ⊕ (Nat × Nat))
abbrev vi (x : Int32) : AV := .inl x
abbrev vl (x : Int64) : AV := .inr (.inl x)
abbrev vr (g i : Nat) : AV := .inr (.inr (g, i))
abbrev Wd : Type := (Nat → Nat → Int32) × (Nat → Nat → Int64) × (Nat → Nat → Nat → Int32)
def gI (w : Wd) (f i : Nat) : Int32 := w.1 f i
def gL (w : Wd) (f i : Nat) : Int64 := w.2.1 f i
def gA (w : Wd) (g i : Nat) : Nat → Int32 := w.2.2 g i
def sI (w : Wd) (f i : Nat) (v : Int32) : Wd := (fun f' i' => if f' = f ∧ i' = i then v else w.1 f' i', w.2.1, w.2.2)
def sL (w : Wd) (f i : Nat) (v : Int64) : Wd := (w.1, fun f' i' => if f' = f ∧ i' = i then v else w.2.1 f' i', w.2.2)
def sA (w : Wd) (g i : Nat) (v : Nat → Int32) : Wd := (w.1, w.2.1, fun g' i' => if g' = g ∧ i' = i then v else w.2.2 g' i')
theorem gI_sI (w : Wd) (f i f' i' : Nat) (v : Int32) : gI (sI w f i v) f' i' = if f' = f ∧ i' = i then v else gI w f' i' := rfl
theorem gI_sL (w : Wd) (f i f' i' : Nat) (v : Int64) : gI (sL w f i v) f' i' = gI w f' i' := rfl
theorem gI_sA (w : Wd) (f i f' i' : Nat) (v : Nat → Int32) : gI (sA w f i v) f' i' = gI w f' i' := rfl
theorem gL_sI (w : Wd) (f i f' i' : Nat) (v : Int32) : gL (sI w f i v) f' i' = gL w f' i' := rfl
theorem gL_sL (w : Wd) (f i f' i' : Nat) (v : Int64) : gL (sL w f i v) f' i' = if f' = f ∧ i' = i then v else gL w f' i' := rfl
theorem gL_sA (w : Wd) (f i f' i' : Nat) (v : Nat → Int32) : gL (sA w f i v) f' i' = gL w f' i' := rfl
theorem gA_sI (w : Wd) (f i f' i' : Nat) (v : Int32) : gA (sI w f i v) f' i' = gA w f' i' := rfl
theorem gA_sL (w : Wd) (f i f' i' : Nat) (v : Int64) : gA (sL w f i v) f' i' = gA w f' i' := rfl
theorem gA_sA (w : Wd) (f i f' i' : Nat) (v : Nat → Int32) : gA (sA w f i v) f' i' = if f' = f ∧ i' = i then v else gA w f' i' := rfl
/-- D, the class ids of the kinds of arrays, the addresses -/
abbrev GT : Type := va_G × (Nat → ClassId) × (Nat → Nat → Nat)
def cv (G : GT) : AV → Value
  | .inl x => .int x
  | .inr (.inl x) => .long x
  | .inr (.inr q) => .ref (G.2.2 q.1 q.2)
def cat : AV → Nat
  | .inr (.inl _) => 2
  | _ => 1
theorem cv_cat (G : GT) (v : AV) : (cv G v).category = cat v := by
  rcases v with x | x | x <;> rfl
abbrev FD : Type := Nat ⊕ (Nat ⊕ (Nat × Nat))
def fv (w : Wd) (i : Nat) : FD → AV
  | .inl f => .inl (gI w f i)
  | .inr (.inl f) => .inr (.inl (gL w f i))
  | .inr (.inr q) => .inr (.inr (q.1, i + q.2))
abbrev fi (n : Nat) : FD := .inl n
abbrev fl (n : Nat) : FD := .inr (.inl n)
abbrev fr (g i : Nat) : FD := .inr (.inr (g, i))
abbrev cls : List vw_C := [(RX0, TX0, 7), (RX1, TX1, 2), (RX2, TX2, 6), (RX3, TX3, 2), (RX4, TX4, 17), (RX5, TX5, 32)]
/-- the objects: class, fields -/
def lay : Nat → Nat × List FD
  | 0 => (4, [fr 1 0, fr 2 0, fr 3 0, fr 3 1, fr 4 0, fr 4 1, fi 406, fi 407, fr 22 0, fr 23 0, fr 24 0, fi 411, fi 412, fl 413, fl 414, fi 415, fr 25 0])
  | 1 => (1, [fr 10 0, fr 12 0])
  | 2 => (3, [fr 13 0, fr 15 0])
  | 3 => (0, [fr 16 0, fr 17 0, fr 18 0, fr 19 0, fi 4, fi 5, fi 6])
  | 4 => (2, [fr 20 0, fi 201, fr 3 0, fr 21 0, fi 204, fi 205])
  | _ => (5, [fi 500, fr 30 0, fi 502, fl 503, fl 504, fr 31 0, fr 32 0, fr 33 0, fr 34 0, fr 35 0, fi 510, fi 511, fr 36 0, fr 37 0, fr 38 0, fi 515, fi 516, fr 39 0, fi 518, fr 40 0, fi 520, fr 41 0, fi 522, fi 523, fi 524, fr 42 0, fi 526, fl 527, fr 43 0, fr 44 0, fi 530, fl 531])
/-- the arrays: kind (0 int, 1 byte, 2 of int arrays, 3 of byte arrays), length -/
def arr : Nat → Nat × Nat
  | 10 => (2, 6)
  | 11 => (0, 40)
  | 12 => (0, 6)
  | 13 => (3, 4)
  | 14 => (1, 60)
  | 15 => (0, 4)
  | 16 => (0, 6)
  | 17 => (0, 6)
  | 18 => (0, 6)
  | 19 => (0, 42)
  | 20 => (0, 265)
  | 21 => (0, 6)
  | 22 => (0, 3)
  | 23 => (0, 3)
  | 24 => (0, 3)
  | 25 => (0, 6)
  | 30 => (0, 6)
  | 31 => (0, 6)
  | 32 => (0, 240)
  | 33 => (0, 40)
  | 34 => (0, 4)
  | 35 => (0, 240)
  | 36 => (0, 12)
  | 37 => (0, 12)
  | 38 => (0, 12)
  | 39 => (0, 252)
  | 40 => (0, 6)
  | 41 => (0, 4320)
  | 42 => (0, 6)
  | 43 => (0, 6)
  | 44 => (0, 24)
  | _ => (0, 0)
def gis : List (Nat × Nat) := [(0, 0), (1, 0), (2, 0), (3, 0), (3, 1), (4, 0), (4, 1), (5, 0), (10, 0), (11, 0), (11, 1), (11, 2), (11, 3), (11, 4), (11, 5), (12, 0), (13, 0), (14, 0), (14, 1), (14, 2), (14, 3), (15, 0), (16, 0), (16, 1), (17, 0), (17, 1), (18, 0), (18, 1), (19, 0), (19, 1), (20, 0), (20, 1), (21, 0), (21, 1), (22, 0), (23, 0), (24, 0), (25, 0), (30, 0), (31, 0), (32, 0), (33, 0), (34, 0), (35, 0), (36, 0), (37, 0), (38, 0), (39, 0), (40, 0), (41, 0), (42, 0), (43, 0), (44, 0)]
theorem gis_nd : gis.Nodup := by decide +kernel
def cel (G : GT) (w : Wd) (q : Nat × Nat) : va_E :=
  if q.1 < 10 then .inr ((lay q.1).1, (lay q.1).2.map (fun d => cv G (fv w q.2 d)))
  else if (arr q.1).1 < 2 then .inl (G.2.1 (arr q.1).1, (arr q.1).2, .inl (gA w q.1 q.2))
  else .inl (G.2.1 (arr q.1).1, (arr q.1).2, .inr (.inr (.inr (.inr (fun k => if k < (arr q.1).2 then some (G.2.2 (q.1 + 1) k) else none)))))
def wl (G : GT) (w : Wd) : va_W := gis.map (fun q => (G.2.2 q.1 q.2, cel G w q))
def aG (G : GT) : Nat → Prop := fun a => ∃ q ∈ gis, a = G.2.2 q.1 q.2
def Inj (G : GT) : Prop := ∀ p ∈ gis, ∀ q ∈ gis, G.2.2 p.1 p.2 = G.2.2 q.1 q.2 → p = q
def tyG (G : GT) : List (ClassId × FieldType) := [(G.2.1 0, .int), (G.2.1 1, .byte), (G.2.1 2, .array .int), (G.2.1 3, .array .byte)]
theorem wl_at (G : GT) (w : Wd) {k : Nat} {q : Nat × Nat} (h : gis[k]? = some q) : (wl G w)[k]? = some (G.2.2 q.1 q.2, cel G w q) := by
  unfold wl; rw [List.getElem?_map, h]; rfl
theorem wl_get {G : GT} {w : Wd} {k : Nat} {x : Nat × va_E} (h : (wl G w)[k]? = some x) : ∃ q, gis[k]? = some q ∧ x = (G.2.2 q.1 q.2, cel G w q) := by
  unfold wl at h
  rw [List.getElem?_map] at h
  cases hq : gis[k]? with
  | none => rw [hq] at h; cases h
  | some q => rw [hq] at h; exact ⟨q, rfl, (Option.some.inj h).symm⟩
theorem wl_D {G : GT} (hi : Inj G) (w : Wd) : va_D (aG G) (wl G w) := by
  refine ⟨fun i j p q h1 h2 e => ?_, fun k q h => ?_⟩
  · obtain ⟨a, a1, rfl⟩ := wl_get h1
    obtain ⟨b, b1, rfl⟩ := wl_get h2
    have hab : a = b := hi a (List.mem_of_getElem? a1) b (List.mem_of_getElem? b1) e
    subst hab
    obtain ⟨l1, e1⟩ := List.getElem?_eq_some_iff.mp a1
    obtain ⟨l2, e2⟩ := List.getElem?_eq_some_iff.mp b1
    exact (List.getElem_inj (h₀ := l1) (h₁ := l2) gis_nd).mp (e1.trans e2.symm)
  · obtain ⟨a, a1, rfl⟩ := wl_get h
    exact ⟨a, List.mem_of_getElem? a1, rfl⟩
theorem wl_set {G : GT} {w w' : Wd} {k : Nat} {q : Nat × Nat} {e : va_E} (hk : gis[k]? = some q) (he : cel G w' q = e) (ho : ∀ p ∈ gis, p ≠ q → cel G w' p = cel G w p) : (wl G w).set k (G.2.2 q.1 q.2, e) = wl G w' := by
  apply List.ext_getElem?
  intro j
  by_cases hj : j = k
  · subst hj
    have hl : j < (wl G w).length := (List.getElem?_eq_some_iff.mp (wl_at G w hk)).1
    rw [List.getElem?_set_self hl, wl_at G w' hk, he]
  · rw [List.getElem?_set_ne (Ne.symm hj)]
    unfold wl
    rw [List.getElem?_map, List.getElem?_map]
    cases hp : gis[j]? with
    | none => rfl
    | some p =>
      have hpq : p ≠ q := by
        intro e0
        subst e0
        obtain ⟨l1, e1⟩ := List.getElem?_eq_some_iff.mp hp
        obtain ⟨l2, e2⟩ := List.getElem?_eq_some_iff.mp hk
        exact hj ((List.getElem_inj (h₀ := l1) (h₁ := l2) gis_nd).mp (e1.trans e2.symm))
      show some (G.2.2 p.1 p.2, cel G w p) = some (G.2.2 p.1 p.2, cel G w' p)
      rw [ho p (List.mem_of_getElem? hp) hpq]
/-- field k of the objects g is the int f, and nothing else is -/
def okI (g k f : Nat) : Bool := decide ((lay g).2[k]? = some (.inl f)) && gis.all (fun p => decide (p.1 < 10) == false || (List.range (lay p.1).2.length).all (fun j => (p.1 == g && j == k) || !(decide ((lay p.1).2[j]? = some (.inl f)))))
def okL (g k f : Nat) : Bool := decide ((lay g).2[k]? = some (.inr (.inl f))) && gis.all (fun p => decide (p.1 < 10) == false || (List.range (lay p.1).2.length).all (fun j => (p.1 == g && j == k) || !(decide ((lay p.1).2[j]? = some (.inr (.inl f))))))
theorem cel_arr {G : GT} {w : Wd} {g i : Nat} (h : ¬ g < 10) (hk : (arr g).1 < 2) : cel G w (g, i) = .inl (G.2.1 (arr g).1, (arr g).2, .inl (gA w g i)) := by
  unfold cel; rw [if_neg h, if_pos hk]
theorem cel_out {G : GT} {w : Wd} {g i : Nat} (h : ¬ g < 10) (hk : ¬ (arr g).1 < 2) : cel G w (g, i) = .inl (G.2.1 (arr g).1, (arr g).2, .inr (.inr (.inr (.inr (fun k => if k < (arr g).2 then some (G.2.2 (g + 1) k) else none))))) := by
  unfold cel; rw [if_neg h, if_neg hk]
theorem cel_obj {G : GT} {w : Wd} {g i : Nat} (h : g < 10) : cel G w (g, i) = .inr ((lay g).1, (lay g).2.map (fun d => cv G (fv w i d))) := by
  unfold cel; rw [if_pos h]
theorem set_sA {G : GT} {w : Wd} {k g i : Nat} {v : Nat → Int32} (hk : gis[k]? = some (g, i)) (h : ¬ g < 10) (h2 : (arr g).1 < 2) : (wl G w).set k (G.2.2 g i, .inl (G.2.1 (arr g).1, (arr g).2, .inl v)) = wl G (sA w g i v) := by
  refine wl_set hk ?_ ?_
  · rw [cel_arr h h2, gA_sA, if_pos ⟨rfl, rfl⟩]
  · intro p _ hp
    obtain ⟨g', i'⟩ := p
    unfold cel
    by_cases h3 : g' < 10
    · rw [if_pos h3, if_pos h3]
      rfl
    · rw [if_neg h3, if_neg h3, gA_sA]
      have hno : ¬ (g' = g ∧ i' = i) := by
        rintro ⟨rfl, rfl⟩
        exact hp rfl
      rw [if_neg (c := (g', i').1 = g ∧ (g', i').2 = i) hno]
theorem okI_spec {g k f : Nat} (h : okI g k f = true) : (lay g).2[k]? = some (.inl f) ∧ ∀ p ∈ gis, p.1 < 10 → ∀ j, (lay p.1).2[j]? = some (.inl f) → p.1 = g ∧ j = k := by
  unfold okI at h
  rw [Bool.and_eq_true, decide_eq_true_eq] at h
  refine ⟨h.1, fun p hp h10 j hj => ?_⟩
  have h1 := List.all_eq_true.mp h.2 p hp
  rw [Bool.or_eq_true] at h1
  rcases h1 with h1 | h1
  · simp [h10] at h1
  · have hl : j < (lay p.1).2.length := (List.getElem?_eq_some_iff.mp hj).1
    have h2 := List.all_eq_true.mp h1 j (List.mem_range.mpr hl)
    simp only [hj, decide_true, Bool.not_true, Bool.or_false, Bool.and_eq_true, beq_iff_eq] at h2
    exact h2
theorem okL_spec {g k f : Nat} (h : okL g k f = true) : (lay g).2[k]? = some (.inr (.inl f)) ∧ ∀ p ∈ gis, p.1 < 10 → ∀ j, (lay p.1).2[j]? = some (.inr (.inl f)) → p.1 = g ∧ j = k := by
  unfold okL at h
  rw [Bool.and_eq_true, decide_eq_true_eq] at h
  refine ⟨h.1, fun p hp h10 j hj => ?_⟩
  have h1 := List.all_eq_true.mp h.2 p hp
  rw [Bool.or_eq_true] at h1
  rcases h1 with h1 | h1
  · simp [h10] at h1
  · have hl : j < (lay p.1).2.length := (List.getElem?_eq_some_iff.mp hj).1
    have h2 := List.all_eq_true.mp h1 j (List.mem_range.mpr hl)
    simp only [hj, decide_true, Bool.not_true, Bool.or_false, Bool.and_eq_true, beq_iff_eq] at h2
    exact h2
theorem set_sI {G : GT} {w : Wd} {q0 g i k f : Nat} {v : Int32} (hq : gis[q0]? = some (g, i)) (h : g < 10) (ok : okI g k f = true) : (wl G w).set q0 (G.2.2 g i, .inr ((lay g).1, ((lay g).2.map (fun d => cv G (fv w i d))).set k (.int v))) = wl G (sI w f i v) := by
  obtain ⟨h1, h2⟩ := okI_spec ok
  have hmem := List.mem_of_getElem? hq
  refine wl_set hq ?_ ?_
  · rw [cel_obj h]
    congr 2
    apply List.ext_getElem?
    intro j
    by_cases hj : j = k
    · subst hj
      have hl : j < ((lay g).2.map (fun d => cv G (fv w i d))).length := by
        rw [List.length_map]; exact (List.getElem?_eq_some_iff.mp h1).1
      rw [List.getElem?_set_self hl, List.getElem?_map, h1]
      simp [fv, cv, gI_sI]
    · rw [List.getElem?_set_ne (Ne.symm hj), List.getElem?_map, List.getElem?_map]
      cases hd : (lay g).2[j]? with
      | none => rfl
      | some d =>
        rcases d with f' | f' | r
        · have hne : f' ≠ f := by
            intro e0; subst e0
            exact hj (h2 (g, i) hmem h j hd).2
          simp [fv, cv, gI_sI, hne]
        · rfl
        · rfl
  · intro p hp hne
    obtain ⟨g', i'⟩ := p
    unfold cel
    by_cases h3 : g' < 10
    · rw [if_pos h3, if_pos h3]
      congr 2
      apply List.map_congr_left
      intro d hd
      rcases d with f' | f' | r
      · show Value.int _ = Value.int _
        rw [gI_sI]
        by_cases hc : f' = f ∧ i' = i
        · obtain ⟨rfl, rfl⟩ := hc
          obtain ⟨j, hj⟩ := List.getElem?_of_mem hd
          have := (h2 (g', i') hp h3 j hj).1
          exact absurd (by rw [show g' = g from this]) hne
        · rw [if_neg hc]
      · rfl
      · rfl
    · rw [if_neg h3, if_neg h3]
      rfl
theorem set_sL {G : GT} {w : Wd} {q0 g i k f : Nat} {v : Int64} (hq : gis[q0]? = some (g, i)) (h : g < 10) (ok : okL g k f = true) : (wl G w).set q0 (G.2.2 g i, .inr ((lay g).1, ((lay g).2.map (fun d => cv G (fv w i d))).set k (.long v))) = wl G (sL w f i v) := by
  obtain ⟨h1, h2⟩ := okL_spec ok
  have hmem := List.mem_of_getElem? hq
  refine wl_set hq ?_ ?_
  · rw [cel_obj h]
    congr 2
    apply List.ext_getElem?
    intro j
    by_cases hj : j = k
    · subst hj
      have hl : j < ((lay g).2.map (fun d => cv G (fv w i d))).length := by
        rw [List.length_map]; exact (List.getElem?_eq_some_iff.mp h1).1
      rw [List.getElem?_set_self hl, List.getElem?_map, h1]
      simp [fv, cv, gL_sL]
    · rw [List.getElem?_set_ne (Ne.symm hj), List.getElem?_map, List.getElem?_map]
      cases hd : (lay g).2[j]? with
      | none => rfl
      | some d =>
        rcases d with f' | f' | r
        · rfl
        · have hne : f' ≠ f := by
            intro e0; subst e0
            exact hj (h2 (g, i) hmem h j hd).2
          simp [fv, cv, gL_sL, hne]
        · rfl
  · intro p hp hne
    obtain ⟨g', i'⟩ := p
    unfold cel
    by_cases h3 : g' < 10
    · rw [if_pos h3, if_pos h3]
      congr 2
      apply List.map_congr_left
      intro d hd
      rcases d with f' | f' | r
      · rfl
      · show Value.long _ = Value.long _
        rw [gL_sL]
        by_cases hc : f' = f ∧ i' = i
        · obtain ⟨rfl, rfl⟩ := hc
          obtain ⟨j, hj⟩ := List.getElem?_of_mem hd
          have := (h2 (g', i') hp h3 j hj).1
          exact absurd (by rw [show g' = g from this]) hne
        · rw [if_neg hc]
      · rfl
    · rw [if_neg h3, if_neg h3]
      rfl
end
section
abbrev CX : Type := (Program × Launch × Env × Room) × (State × MethodId × Array Value × List Frame) × (Method × Code) × (Nat × Nat × (State → Prop)) × GT
abbrev xp (x : CX) : Program := x.1.1
abbrev xl (x : CX) : Launch := x.1.2.1
abbrev xe (x : CX) : Env := x.1.2.2.1
abbrev xR (x : CX) : Room := x.1.2.2.2
abbrev xs (x : CX) : State := x.2.1.1
abbrev xm (x : CX) : MethodId := x.2.1.2.1
abbrev xa (x : CX) : Array Value := x.2.1.2.2.1
abbrev xb (x : CX) : List Frame := x.2.1.2.2.2
abbrev xM (x : CX) : Method := x.2.2.1.1
abbrev xc (x : CX) : Code := x.2.2.1.2
abbrev xn (x : CX) : Nat := x.2.2.2.1.1
abbrev xo (x : CX) : Nat := x.2.2.2.1.2.1
abbrev xQ (x : CX) : State → Prop := x.2.2.2.1.2.2
abbrev xG (x : CX) : GT := x.2.2.2.2
abbrev LV : Type := List (Option AV)
def lvr (G : GT) (la : Array Slot) (ls : LV) : Prop := la.size = ls.length ∧ lv_wf la ∧ ∀ (i : Nat) (v : AV), ls[i]? = some (some v) → la[i]? = some (.val (cv G v))
def prs (G : GT) (ls : LV) : List (Nat × Value) := (List.range ls.length).filterMap (fun i => match ls[i]? with | some (some v) => some (i, cv G v) | _ => none)
theorem prs_mem {G : GT} {ls : LV} {q : Nat × Value} : q ∈ prs G ls ↔ ∃ (i : Nat) (v : AV), ls[i]? = some (some v) ∧ q = (i, cv G v) := by
  unfold prs
  rw [List.mem_filterMap]
  constructor
  · rintro ⟨i, -, h⟩
    cases h1 : ls[i]? with
    | none => rw [h1] at h; cases h
    | some o =>
      rw [h1] at h
      cases o with
      | none => cases h
      | some v => exact ⟨i, v, h1, (Option.some.inj h).symm⟩
  · rintro ⟨i, v, h, rfl⟩
    refine ⟨i, List.mem_range.mpr (List.getElem?_eq_some_iff.mp h).1, ?_⟩
    rw [h]
theorem lvr_has {G : GT} {la : Array Slot} {ls : LV} (h : lvr G la ls) : lv_has la ls.length (prs G ls) := by
  refine ⟨h.1, h.2.1, fun q hq => ?_⟩
  obtain ⟨i, v, h1, rfl⟩ := prs_mem.mp hq
  exact h.2.2 i v h1
/-- a long that stands ahead of place i goes -/
def klj (ls : LV) (j : Nat) : LV := match ls[j]? with
  | some (some (.inr (.inl _))) => ls.set j none
  | _ => ls
def kl (ls : LV) : Nat → LV
  | 0 => ls
  | j + 1 => klj ls j
def sto1 (ls : LV) (i : Nat) (v : AV) : LV := (kl ls i).set i (some v)
def sto2 (ls : LV) (i : Nat) (v : AV) : LV := ((kl ls i).set i (some v)).set (i + 1) none
theorem kl_len (ls : LV) (i : Nat) : (kl ls i).length = ls.length := by
  cases i with
  | zero => rfl
  | succ j =>
    show (klj ls j).length = ls.length
    unfold klj
    split
    · rw [List.length_set]
    · rfl
theorem kl_get {ls : LV} {i j : Nat} {v : AV} (h : (kl ls i)[j]? = some (some v)) : ls[j]? = some (some v) ∧ ¬ (j + 1 = i ∧ cat v = 2) := by
  cases i with
  | zero => exact ⟨h, fun q => by omega⟩
  | succ k =>
    have h9 : (klj ls k)[j]? = some (some v) := h
    clear h
    unfold klj at h9
    split at h9
    · rename_i x hx
      by_cases hj : j = k
      · subst hj
        rw [List.getElem?_set_self (List.getElem?_eq_some_iff.mp hx).1] at h9
        cases h9
      · rw [List.getElem?_set_ne (Ne.symm hj)] at h9
        exact ⟨h9, fun q => by omega⟩
    · rename_i hx
      refine ⟨h9, ?_⟩
      rintro ⟨q1, q2⟩
      have hjk : j = k := by omega
      subst hjk
      rcases v with x | x | x
      · cases q2
      · exact hx x h9
      · cases q2
theorem lvr_sto1 {G : GT} {la' : Array Slot} {ls : LV} {i : Nat} {v : AV} (hi : i < ls.length) (h' : lv_has la' ls.length ((i, cv G v) :: (prs G ls).filter (fun q => !(q.1 == i) && !(q.1 + 1 == i && q.2.category == 2)))) : lvr G la' (sto1 ls i v) := by
  refine ⟨by unfold sto1; rw [List.length_set, kl_len]; exact h'.1, h'.2.1, fun j u hj => ?_⟩
  unfold sto1 at hj
  by_cases e : j = i
  · subst e
    rw [List.getElem?_set_self (by rw [kl_len]; exact hi)] at hj
    cases hj
    exact h'.2.2 (j, cv G v) List.mem_cons_self
  · rw [List.getElem?_set_ne (Ne.symm e)] at hj
    obtain ⟨h1, h2⟩ := kl_get hj
    refine h'.2.2 (j, cv G u) (List.mem_cons_of_mem _ (List.mem_filter.mpr ⟨prs_mem.mpr ⟨j, u, h1, rfl⟩, ?_⟩))
    simp only [cv_cat, Bool.and_eq_true, Bool.not_eq_true', beq_eq_false_iff_ne, ne_eq, Bool.and_eq_false_iff]
    refine ⟨e, ?_⟩
    by_cases q : j + 1 = i
    · exact Or.inr (fun z => h2 ⟨q, z⟩)
    · exact Or.inl q
theorem lvr_sto2 {G : GT} {la' : Array Slot} {ls : LV} {i : Nat} {v : AV} (hi : i + 1 < ls.length) (h' : lv_has la' ls.length ((i, cv G v) :: (prs G ls).filter (fun q => !(q.1 == i) && (!(q.1 == i + 1) && !(q.1 + 1 == i && q.2.category == 2))))) : lvr G la' (sto2 ls i v) := by
  refine ⟨by unfold sto2; rw [List.length_set, List.length_set, kl_len]; exact h'.1, h'.2.1, fun j u hj => ?_⟩
  unfold sto2 at hj
  by_cases e2 : j = i + 1
  · subst e2
    rw [List.getElem?_set_self (by rw [List.length_set, kl_len]; exact hi)] at hj
    cases hj
  · rw [List.getElem?_set_ne (Ne.symm e2)] at hj
    by_cases e : j = i
    · subst e
      rw [List.getElem?_set_self (by rw [kl_len]; omega)] at hj
      cases hj
      exact h'.2.2 (j, cv G v) List.mem_cons_self
    · rw [List.getElem?_set_ne (Ne.symm e)] at hj
      obtain ⟨h1, h2⟩ := kl_get hj
      refine h'.2.2 (j, cv G u) (List.mem_cons_of_mem _ (List.mem_filter.mpr ⟨prs_mem.mpr ⟨j, u, h1, rfl⟩, ?_⟩))
      simp only [cv_cat, Bool.and_eq_true, Bool.not_eq_true', beq_eq_false_iff_ne, ne_eq, Bool.and_eq_false_iff]
      refine ⟨e, e2, ?_⟩
      by_cases q : j + 1 = i
      · exact Or.inr (fun z => h2 ⟨q, z⟩)
      · exact Or.inl q
def letN (k : Nat) : Int32 := ([109, 98, 110, 115, 99, 112] : List Int32).getD k 0
def Sta (G : GT) (U : State) (H : Heap) : Prop := va_Z "HatDraw" "LETTERS" "[I" (.ref (G.2.2 50 0)) (aG G) U H ∧ va_T .int (G.2.2 50 0) 6 (fun k => .int (letN k)) (aG G) U H
def NW (U : State) : Prop := va_Nw (.methodLinkNest RX3 29 yX4_kindOf RX4) U ∧ va_Nw (.methodLinkNest RX0 34 yX4_kindOf RX4) U ∧ va_Nw (.methodLinkNest RX0 44 yX4_paper RX4) U ∧ va_Nw (.methodLinkNest RX0 51 yX4_isOf RX4) U ∧ va_Nw (.methodLinkNest RX0 65 yX4_ringCount RX4) U ∧ va_Nw (.methodLinkNest RX2 69 yX4_firstOnes RX4) U ∧ va_Nw (.methodLinkNest RX2 87 yX4_paper RX4) U
theorem NW.warm {s U : State} (hW : s.WarmedH U.vm) (h : NW s) : NW U := ⟨h.1.warmM hW, h.2.1.warmM hW, h.2.2.1.warmM hW, h.2.2.2.1.warmM hW, h.2.2.2.2.1.warmM hW, h.2.2.2.2.2.1.warmM hW, h.2.2.2.2.2.2.warmM hW⟩
theorem NW.same {u U : State} (e : u.vm = U.vm) (h : NW u) : NW U := ⟨h.1.same rfl e, h.2.1.same rfl e, h.2.2.1.same rfl e, h.2.2.2.1.same rfl e, h.2.2.2.2.1.same rfl e, h.2.2.2.2.2.1.same rfl e, h.2.2.2.2.2.2.same rfl e⟩
theorem Sta.moved {G : GT} {u U : State} {H : Heap} (hvm : u.vm.Alike U.vm) (h : Sta G u H) : Sta G U H := ⟨h.1.moved hvm, h.2.moved hvm⟩
theorem Sta.kept {G : GT} {U : State} {H H1 : Heap} (h : Sta G U H) (hq : ∀ a : Nat, a < H.size → ¬ aG G a → H1[a]? = H[a]?) : Sta G U H1 := ⟨h.1.kept hq, h.2.kept hq⟩
/-- what holds of a state when a method begins -/
def Wp (G : GT) (w : Wd) (U : State) : Prop := va_P G.1 cls (wl G w) U.heap ∧ va_K G.1 cls (tyG G) U ∧ Inj G ∧ Sta G U U.heap ∧ NW U
def rmD (d : Nat) : Room := { frames := d, cells := 0, slots := 0, locals := 64 * d }
def Qs (G : GT) (r : Option AV) (w : Wd) : Array Value → State → Outcome → State → Prop := fun _ st o t => o = .returned (r.map (cv G)) ∧ va_P G.1 cls (wl G w) t.heap ∧ va_F (aG G) st t
/-- a contract: from the world w the method answers r, and the world is w' -/
def Sp (G : GT) (l : Launch) (y : MethodName) (ws : List Cond) (d : Nat) (as : List AV) (w : Wd) (r : Option AV) (w' : Wd) : Prop := Met l y ws (rmD d) (va_Pc (as.map (cv G)) (Wp G w)) (Qs G r w') 0 0 (aG G)
/-- what holds while a method runs -/
def Cx (x : CX) (own : String) (cc : ByteArray) (n d : Nat) : Prop := (xp x).tables.exec = Jvm.exec ∧ (xc x).code = cc ∧ (xs x).vm.findClass own = some (xm x).cls ∧ (∀ w ∈ ww, w.before (xa x) (xs x) = true) ∧ va_K (xG x).1 cls (tyG (xG x)) (xs x) ∧ Inj (xG x) ∧ Sta (xG x) (xs x) (xs x).heap ∧ NW (xs x) ∧ (xM x).locks = false ∧ (xc x).maxLocals = n ∧ d ≤ (xR x).frames ∧ 64 * d ≤ (xR x).locals ∧ xn x ≤ (xR x).cells ∧ xo x ≤ (xR x).slots
def Z (x : CX) (pc : Nat) (ls : LV) (st : List AV) (w : Wd) : Prop := ∀ (H : Heap) (locs : List Loc) (la : Array Slot), lvr (xG x) la ls → va_P (xG x).1 cls (wl (xG x) w) H → va_S (aG (xG x)) (xs x).heap H locs → W (xp x) (xl x) (xe x) (xR x) (xs x) (xm x) (xa x) (xb x) (xM x) (xc x) H locs (xn x) (xo x) (xQ x) (F0 (xm x) pc la (st.map (cv (xG x))))
def Rt (x : CX) (r : Option AV) (w : Wd) : Prop := xQ x = MQ (xb x) (Qs (xG x) r w) (xa x) (xs x) (xn x) (xo x) (aG (xG x))
theorem dk {t : List (Nat × Instr × Nat)} {c : ByteArray} (h : ∀ q ∈ t, decode c q.1 = .ok q.2) (k : Nat) {pc : Nat} {ins : Instr × Nat} (e : t[k]? = some (pc, ins)) : decode c pc = .ok ins := h (pc, ins) (List.mem_of_getElem? e)
/-- the locals at a method's begin -/
def ent : List AV → LV
  | [] => []
  | .inr (.inl x) :: as => some (.inr (.inl x)) :: none :: ent as
  | v :: as => some v :: ent as
theorem ent_args (G : GT) : ∀ (as : List AV) (off i : Nat) (v : AV), (ent as)[i]? = some (some v) → (off + i, cv G v) ∈ lv_args off (as.map (cv G)) := by
  intro as
  induction as with
  | nil => intro off i v h; simp [ent] at h
  | cons a as ih =>
    intro off i v h
    rcases a with x | x | x
    · cases i with
      | zero =>
        simp only [ent, List.getElem?_cons_zero] at h
        cases h
        exact List.mem_cons_self
      | succ i =>
        simp only [ent, List.getElem?_cons_succ] at h
        have := ih (off + 1) i v h
        rw [show off + (i + 1) = off + 1 + i by omega]
        exact List.mem_cons_of_mem _ this
    · cases i with
      | zero =>
        simp only [ent, List.getElem?_cons_zero] at h
        cases h
        exact List.mem_cons_self
      | succ i =>
        cases i with
        | zero => simp [ent] at h
        | succ i =>
          simp only [ent, List.getElem?_cons_succ] at h
          have := ih (off + 2) i v h
          rw [show off + (i + 1 + 1) = off + 2 + i by omega]
          exact List.mem_cons_of_mem _ this
    · cases i with
      | zero =>
        simp only [ent, List.getElem?_cons_zero] at h
        cases h
        exact List.mem_cons_self
      | succ i =>
        simp only [ent, List.getElem?_cons_succ] at h
        have := ih (off + 1) i v h
        rw [show off + (i + 1) = off + 1 + i by omega]
        exact List.mem_cons_of_mem _ this
theorem ent_len (G : GT) : ∀ (as : List AV), (lg_sl (as.map (cv G))).length = (ent as).length := by
  intro as
  induction as with
  | nil => rfl
  | cons a as ih =>
    unfold lg_sl at ih ⊢
    rw [List.map_cons, List.flatMap_cons, List.length_append, ih]
    rcases a with x | x | x
    · simp [ent, cv, Value.category]; omega
    · simp [ent, cv, Value.category]; omega
    · simp [ent, cv, Value.category]; omega
theorem Sp_of {G : GT} {l : Launch} {y : MethodName} {own : String} {cc : ByteArray} {maxL d : Nat} {ret : Option FieldType} {as : List AV} {w w' : Wd} {r : Option AV} (ls : LV) (hy : plainName own = true) (ho : y.cls = own) (hls : ent as ++ List.replicate (maxL - (ent as).length) none = ls) (hln : (ent as).length ≤ maxL)
    (body : ∀ x : CX, xG x = G → xl x = l → Cx x own cc maxL d → (xM x).sig.returnType = ret → Rt x r w' → xn x = 0 → xo x = 0 → Z x 0 ls [] w) : Sp G l y (.code y cc maxL ret :: ww) d as w r w' := by
  subst ho
  refine Met.ofW (cc := cc) (maxL := maxL) (ret := ret) hy rfl ?_
  intro p e s m args below meth c s₁ B hml hv
  obtain ⟨rfl, hP, hK, hI, hT, hN⟩ := hv
  have hts := atoms_spec (ws := .code y cc maxL ret :: ww) B.pre
  have hl := lv_entry (as.map (cv G)) (n := maxL) (by rw [ent_len]; exact hln)
  rw [lg_entry_eq]
  generalize (lg_sl (as.map (cv G)) ++ List.replicate (maxL - (lg_sl (as.map (cv G))).length) Slot.unset).toArray = la at hl ⊢
  have hlv : lvr G la ls := by
    subst hls
    refine ⟨by rw [hl.1, List.length_append, List.length_replicate]; omega, hl.2.1, fun i v h => ?_⟩
    by_cases hi : i < (ent as).length
    · rw [List.getElem?_append_left hi] at h
      have := ent_args G as 0 i v h
      rw [Nat.zero_add] at this
      exact hl.2.2 _ this
    · rw [List.getElem?_append_right (by omega), List.getElem?_replicate] at h
      split at h <;> cases h
  exact body ((p, l, e, (headSpec (.code y cc maxL ret :: ww) (rmD d)).room), (s, m, (as.map (cv G)).toArray, below), (meth, c), (0, 0, MQ below (Qs G r w') (as.map (cv G)).toArray s 0 0 (aG G)), G) rfl rfl
    ⟨B.exec, B.bytes, findClass_of_methodNamed B.named, fun w hw => hts w (List.mem_cons_of_mem _ hw), hK, hI, hT, hN, B.notSynchronized, hml, Nat.le_refl _, Nat.le_refl _, Nat.zero_le _, Nat.zero_le _⟩ B.returns rfl rfl rfl s.heap [] la hlv hP va_S.rf
theorem Z_iconst {x : CX} {own : String} {cc : ByteArray} {n d pc : Nat} {ls : LV} {st : List AV} {w : Wd} {m : Int} {v : Int32} (hC : Cx x own cc n d) (hd : decode cc pc = .ok (.iconst m, 1)) (pc' : Nat) (hp : pc + 1 = pc') (hv : Int32.ofInt m = v) (k : Z x pc' ls (vi v :: st) w) : Z x pc ls (st) w := fun H locs la hl hP hS => lv_iconst hC.1 hC.2.1 hd hv (by subst hp; exact k H locs la hl hP hS)
theorem Z_bipush {x : CX} {own : String} {cc : ByteArray} {n d pc : Nat} {ls : LV} {st : List AV} {w : Wd} {m : Int} {v : Int32} (hC : Cx x own cc n d) (hd : decode cc pc = .ok (.bipush m, 2)) (pc' : Nat) (hp : pc + 2 = pc') (hv : (Int8.ofInt m).toInt32 = v) (k : Z x pc' ls (vi v :: st) w) : Z x pc ls (st) w := fun H locs la hl hP hS => lv_bipush hC.1 hC.2.1 hd hv (by subst hp; exact k H locs la hl hP hS)
theorem Z_sipush {x : CX} {own : String} {cc : ByteArray} {n d pc : Nat} {ls : LV} {st : List AV} {w : Wd} {m : Int} {v : Int32} (hC : Cx x own cc n d) (hd : decode cc pc = .ok (.sipush m, 3)) (pc' : Nat) (hp : pc + 3 = pc') (hv : (Int16.ofInt m).toInt32 = v) (k : Z x pc' ls (vi v :: st) w) : Z x pc ls (st) w := fun H locs la hl hP hS => lv_sipush hC.1 hC.2.1 hd hv (by subst hp; exact k H locs la hl hP hS)
theorem Z_lconst {x : CX} {own : String} {cc : ByteArray} {n d pc : Nat} {ls : LV} {st : List AV} {w : Wd} {m : Fin 2} {v : Int64} (hC : Cx x own cc n d) (hd : decode cc pc = .ok (.lconst m, 1)) (pc' : Nat) (hp : pc + 1 = pc') (hv : Int64.ofNat m = v) (k : Z x pc' ls (vl v :: st) w) : Z x pc ls (st) w := fun H locs la hl hP hS => lv_lconst hC.1 hC.2.1 hd hv (by subst hp; exact k H locs la hl hP hS)
theorem Z_iadd {x : CX} {own : String} {cc : ByteArray} {n d pc : Nat} {ls : LV} {st : List AV} {w : Wd} {x1 x2 : Int32} (hC : Cx x own cc n d) (hd : decode cc pc = .ok (.iadd, 1)) (pc' : Nat) (hp : pc + 1 = pc') (k : Z x pc' ls (vi (x1 + x2) :: st) w) : Z x pc ls (vi x2 :: vi x1 :: st) w := fun H locs la hl hP hS => lv_iadd hC.1 hC.2.1 hd (by subst hp; exact k H locs la hl hP hS)
theorem Z_isub {x : CX} {own : String} {cc : ByteArray} {n d pc : Nat} {ls : LV} {st : List AV} {w : Wd} {x1 x2 : Int32} (hC : Cx x own cc n d) (hd : decode cc pc = .ok (.isub, 1)) (pc' : Nat) (hp : pc + 1 = pc') (k : Z x pc' ls (vi (x1 - x2) :: st) w) : Z x pc ls (vi x2 :: vi x1 :: st) w := fun H locs la hl hP hS => lv_isub hC.1 hC.2.1 hd (by subst hp; exact k H locs la hl hP hS)
theorem Z_imul {x : CX} {own : String} {cc : ByteArray} {n d pc : Nat} {ls : LV} {st : List AV} {w : Wd} {x1 x2 : Int32} (hC : Cx x own cc n d) (hd : decode cc pc = .ok (.imul, 1)) (pc' : Nat) (hp : pc + 1 = pc') (k : Z x pc' ls (vi (x1 * x2) :: st) w) : Z x pc ls (vi x2 :: vi x1 :: st) w := fun H locs la hl hP hS => lv_imul hC.1 hC.2.1 hd (by subst hp; exact k H locs la hl hP hS)
theorem Z_iand {x : CX} {own : String} {cc : ByteArray} {n d pc : Nat} {ls : LV} {st : List AV} {w : Wd} {x1 x2 : Int32} (hC : Cx x own cc n d) (hd : decode cc pc = .ok (.iand, 1)) (pc' : Nat) (hp : pc + 1 = pc') (k : Z x pc' ls (vi (x1 &&& x2) :: st) w) : Z x pc ls (vi x2 :: vi x1 :: st) w := fun H locs la hl hP hS => lv_iand hC.1 hC.2.1 hd (by subst hp; exact k H locs la hl hP hS)
theorem Z_ior {x : CX} {own : String} {cc : ByteArray} {n d pc : Nat} {ls : LV} {st : List AV} {w : Wd} {x1 x2 : Int32} (hC : Cx x own cc n d) (hd : decode cc pc = .ok (.ior, 1)) (pc' : Nat) (hp : pc + 1 = pc') (k : Z x pc' ls (vi (x1 ||| x2) :: st) w) : Z x pc ls (vi x2 :: vi x1 :: st) w := fun H locs la hl hP hS => lv_ior hC.1 hC.2.1 hd (by subst hp; exact k H locs la hl hP hS)
theorem Z_ixor {x : CX} {own : String} {cc : ByteArray} {n d pc : Nat} {ls : LV} {st : List AV} {w : Wd} {x1 x2 : Int32} (hC : Cx x own cc n d) (hd : decode cc pc = .ok (.ixor, 1)) (pc' : Nat) (hp : pc + 1 = pc') (k : Z x pc' ls (vi (x1 ^^^ x2) :: st) w) : Z x pc ls (vi x2 :: vi x1 :: st) w := fun H locs la hl hP hS => lv_ixor hC.1 hC.2.1 hd (by subst hp; exact k H locs la hl hP hS)
theorem Z_ishl {x : CX} {own : String} {cc : ByteArray} {n d pc : Nat} {ls : LV} {st : List AV} {w : Wd} {x1 x2 : Int32} (hC : Cx x own cc n d) (hd : decode cc pc = .ok (.ishl, 1)) (pc' : Nat) (hp : pc + 1 = pc') (k : Z x pc' ls (vi (x1 <<< (x2 &&& 31)) :: st) w) : Z x pc ls (vi x2 :: vi x1 :: st) w := fun H locs la hl hP hS => lv_ishl hC.1 hC.2.1 hd (by subst hp; exact k H locs la hl hP hS)
theorem Z_ishr {x : CX} {own : String} {cc : ByteArray} {n d pc : Nat} {ls : LV} {st : List AV} {w : Wd} {x1 x2 : Int32} (hC : Cx x own cc n d) (hd : decode cc pc = .ok (.ishr, 1)) (pc' : Nat) (hp : pc + 1 = pc') (k : Z x pc' ls (vi (x1 >>> (x2 &&& 31)) :: st) w) : Z x pc ls (vi x2 :: vi x1 :: st) w := fun H locs la hl hP hS => lv_ishr hC.1 hC.2.1 hd (by subst hp; exact k H locs la hl hP hS)
theorem Z_idiv {x : CX} {own : String} {cc : ByteArray} {n d pc : Nat} {ls : LV} {st : List AV} {w : Wd} {x1 x2 : Int32} (hC : Cx x own cc n d) (hd : decode cc pc = .ok (.idiv, 1)) (pc' : Nat) (hp : pc + 1 = pc') (hne : ¬ x2 = 0) (k : Z x pc' ls (vi (x1 / x2) :: st) w) : Z x pc ls (vi x2 :: vi x1 :: st) w := fun H locs la hl hP hS => lv_idiv hC.1 hC.2.1 hd hne (by subst hp; exact k H locs la hl hP hS)
theorem Z_irem {x : CX} {own : String} {cc : ByteArray} {n d pc : Nat} {ls : LV} {st : List AV} {w : Wd} {x1 x2 : Int32} (hC : Cx x own cc n d) (hd : decode cc pc = .ok (.irem, 1)) (pc' : Nat) (hp : pc + 1 = pc') (hne : ¬ x2 = 0) (k : Z x pc' ls (vi (x1 - x1 / x2 * x2) :: st) w) : Z x pc ls (vi x2 :: vi x1 :: st) w := fun H locs la hl hP hS => lv_irem hC.1 hC.2.1 hd hne (by subst hp; exact k H locs la hl hP hS)
theorem Z_ineg {x : CX} {own : String} {cc : ByteArray} {n d pc : Nat} {ls : LV} {st : List AV} {w : Wd} {x1 : Int32} (hC : Cx x own cc n d) (hd : decode cc pc = .ok (.ineg, 1)) (pc' : Nat) (hp : pc + 1 = pc') (k : Z x pc' ls (vi (-x1) :: st) w) : Z x pc ls (vi x1 :: st) w := fun H locs la hl hP hS => lv_ineg hC.1 hC.2.1 hd (by subst hp; exact k H locs la hl hP hS)
theorem Z_iushr {x : CX} {own : String} {cc : ByteArray} {n d pc : Nat} {ls : LV} {st : List AV} {w : Wd} {x1 x2 : Int32} (hC : Cx x own cc n d) (hd : decode cc pc = .ok (.iushr, 1)) (pc' : Nat) (hp : pc + 1 = pc') (k : Z x pc' ls (vi ((x1.toUInt32 >>> (x2.toUInt32 &&& Int32.toUInt32 31)).toInt32) :: st) w) : Z x pc ls (vi x2 :: vi x1 :: st) w := fun H locs la hl hP hS => lv_iushr hC.1 hC.2.1 hd rfl (by subst hp; exact k H locs la hl hP hS)
theorem Z_ladd {x : CX} {own : String} {cc : ByteArray} {n d pc : Nat} {ls : LV} {st : List AV} {w : Wd} {x1 x2 : Int64} (hC : Cx x own cc n d) (hd : decode cc pc = .ok (.ladd, 1)) (pc' : Nat) (hp : pc + 1 = pc') (k : Z x pc' ls (vl (x1 + x2) :: st) w) : Z x pc ls (vl x2 :: vl x1 :: st) w := fun H locs la hl hP hS => lv_ladd hC.1 hC.2.1 hd (by subst hp; exact k H locs la hl hP hS)
theorem Z_lmul {x : CX} {own : String} {cc : ByteArray} {n d pc : Nat} {ls : LV} {st : List AV} {w : Wd} {x1 x2 : Int64} (hC : Cx x own cc n d) (hd : decode cc pc = .ok (.lmul, 1)) (pc' : Nat) (hp : pc + 1 = pc') (k : Z x pc' ls (vl (x1 * x2) :: st) w) : Z x pc ls (vl x2 :: vl x1 :: st) w := fun H locs la hl hP hS => lv_lmul hC.1 hC.2.1 hd (by subst hp; exact k H locs la hl hP hS)
theorem Z_ldiv {x : CX} {own : String} {cc : ByteArray} {n d pc : Nat} {ls : LV} {st : List AV} {w : Wd} {x1 x2 : Int64} (hC : Cx x own cc n d) (hd : decode cc pc = .ok (.ldiv, 1)) (pc' : Nat) (hp : pc + 1 = pc') (hne : ¬ x2 = 0) (k : Z x pc' ls (vl (x1 / x2) :: st) w) : Z x pc ls (vl x2 :: vl x1 :: st) w := fun H locs la hl hP hS => lv_ldiv hC.1 hC.2.1 hd hne (by subst hp; exact k H locs la hl hP hS)
theorem Z_lrem {x : CX} {own : String} {cc : ByteArray} {n d pc : Nat} {ls : LV} {st : List AV} {w : Wd} {x1 x2 : Int64} (hC : Cx x own cc n d) (hd : decode cc pc = .ok (.lrem, 1)) (pc' : Nat) (hp : pc + 1 = pc') (hne : ¬ x2 = 0) (k : Z x pc' ls (vl (x1 - x1 / x2 * x2) :: st) w) : Z x pc ls (vl x2 :: vl x1 :: st) w := fun H locs la hl hP hS => lv_lrem hC.1 hC.2.1 hd hne (by subst hp; exact k H locs la hl hP hS)
theorem Z_lcmp {x : CX} {own : String} {cc : ByteArray} {n d pc : Nat} {ls : LV} {st : List AV} {w : Wd} {x1 x2 : Int64} (hC : Cx x own cc n d) (hd : decode cc pc = .ok (.lcmp, 1)) (pc' : Nat) (hp : pc + 1 = pc') (k : Z x pc' ls (vi (lg_cmp x1 x2) :: st) w) : Z x pc ls (vl x2 :: vl x1 :: st) w := fun H locs la hl hP hS => W.lcmp hC.1 hC.2.1 hd (by subst hp; exact k H locs la hl hP hS)
theorem Z_i2l {x : CX} {own : String} {cc : ByteArray} {n d pc : Nat} {ls : LV} {st : List AV} {w : Wd} {x1 : Int32} (hC : Cx x own cc n d) (hd : decode cc pc = .ok (.i2l, 1)) (pc' : Nat) (hp : pc + 1 = pc') (k : Z x pc' ls (vl x1.toInt64 :: st) w) : Z x pc ls (vi x1 :: st) w := fun H locs la hl hP hS => lv_i2l hC.1 hC.2.1 hd rfl (by subst hp; exact k H locs la hl hP hS)
theorem Z_l2i {x : CX} {own : String} {cc : ByteArray} {n d pc : Nat} {ls : LV} {st : List AV} {w : Wd} {x1 : Int64} (hC : Cx x own cc n d) (hd : decode cc pc = .ok (.l2i, 1)) (pc' : Nat) (hp : pc + 1 = pc') (k : Z x pc' ls (vi x1.toInt32 :: st) w) : Z x pc ls (vl x1 :: st) w := fun H locs la hl hP hS => lv_l2i hC.1 hC.2.1 hd rfl (by subst hp; exact k H locs la hl hP hS)
theorem Z_i2b {x : CX} {own : String} {cc : ByteArray} {n d pc : Nat} {ls : LV} {st : List AV} {w : Wd} {x1 : Int32} (hC : Cx x own cc n d) (hd : decode cc pc = .ok (.i2b, 1)) (pc' : Nat) (hp : pc + 1 = pc') (k : Z x pc' ls (vi x1.toInt8.toInt32 :: st) w) : Z x pc ls (vi x1 :: st) w := fun H locs la hl hP hS => lv_i2b hC.1 hC.2.1 hd rfl (by subst hp; exact k H locs la hl hP hS)
theorem Z_dup {x : CX} {own : String} {cc : ByteArray} {n d pc : Nat} {ls : LV} {st : List AV} {w : Wd} {a : AV} (hC : Cx x own cc n d) (hd : decode cc pc = .ok (.dup, 1)) (pc' : Nat) (hp : pc + 1 = pc') (hc : cat a = 1) (k : Z x pc' ls (a :: a :: st) w) : Z x pc ls (a :: st) w := fun H locs la hl hP hS => lv_dup hC.1 hC.2.1 hd (by rw [cv_cat]; exact hc) (by subst hp; exact k H locs la hl hP hS)
theorem Z_pop {x : CX} {own : String} {cc : ByteArray} {n d pc : Nat} {ls : LV} {st : List AV} {w : Wd} {a : AV} (hC : Cx x own cc n d) (hd : decode cc pc = .ok (.pop, 1)) (pc' : Nat) (hp : pc + 1 = pc') (hc : cat a = 1) (k : Z x pc' ls (st) w) : Z x pc ls (a :: st) w := fun H locs la hl hP hS => lv_pop hC.1 hC.2.1 hd (by rw [cv_cat]; exact hc) (by subst hp; exact k H locs la hl hP hS)
theorem Z_dup2 {x : CX} {own : String} {cc : ByteArray} {n d pc : Nat} {ls : LV} {st : List AV} {w : Wd} {a b : AV} (hC : Cx x own cc n d) (hd : decode cc pc = .ok (.dup2, 1)) (pc' : Nat) (hp : pc + 1 = pc') (hc : cat a = 1) (hc2 : cat b = 1) (k : Z x pc' ls (a :: b :: a :: b :: st) w) : Z x pc ls (a :: b :: st) w := fun H locs la hl hP hS => lv_dup2_11 hC.1 hC.2.1 hd (by rw [cv_cat]; exact hc) (by rw [cv_cat]; exact hc2) (by subst hp; exact k H locs la hl hP hS)
theorem Z_iload_n {x : CX} {own : String} {cc : ByteArray} {n d pc : Nat} {ls : LV} {st : List AV} {w : Wd} {f : Fin 4} {i : Nat} {v : Int32} (hC : Cx x own cc n d) (hd : decode cc pc = .ok (.iload_n f, 1)) (pc' : Nat) (hp : pc + 1 = pc') (hi : (f : Nat) = i) (hv : ls[i]? = some (some (vi v))) (k : Z x pc' ls (vi v :: st) w) : Z x pc ls (st) w := fun H locs la hl hP hS => lv_iload_n hC.1 hC.2.1 hd hi (hl.2.2 i _ hv) (by subst hp; exact k H locs la hl hP hS)
theorem Z_iload {x : CX} {own : String} {cc : ByteArray} {n d pc : Nat} {ls : LV} {st : List AV} {w : Wd} {i : Nat} {v : Int32} (hC : Cx x own cc n d) (hd : decode cc pc = .ok (.iload i, 2)) (pc' : Nat) (hp : pc + 2 = pc') (hv : ls[i]? = some (some (vi v))) (k : Z x pc' ls (vi v :: st) w) : Z x pc ls (st) w := fun H locs la hl hP hS => lv_iload hC.1 hC.2.1 hd (hl.2.2 i _ hv) (by subst hp; exact k H locs la hl hP hS)
theorem Z_lload_n {x : CX} {own : String} {cc : ByteArray} {n d pc : Nat} {ls : LV} {st : List AV} {w : Wd} {f : Fin 4} {i : Nat} {v : Int64} (hC : Cx x own cc n d) (hd : decode cc pc = .ok (.lload_n f, 1)) (pc' : Nat) (hp : pc + 1 = pc') (hi : (f : Nat) = i) (hv : ls[i]? = some (some (vl v))) (k : Z x pc' ls (vl v :: st) w) : Z x pc ls (st) w := fun H locs la hl hP hS => lv_lload_n hC.1 hC.2.1 hd hi (hl.2.2 i _ hv) (by subst hp; exact k H locs la hl hP hS)
theorem Z_lload {x : CX} {own : String} {cc : ByteArray} {n d pc : Nat} {ls : LV} {st : List AV} {w : Wd} {i : Nat} {v : Int64} (hC : Cx x own cc n d) (hd : decode cc pc = .ok (.lload i, 2)) (pc' : Nat) (hp : pc + 2 = pc') (hv : ls[i]? = some (some (vl v))) (k : Z x pc' ls (vl v :: st) w) : Z x pc ls (st) w := fun H locs la hl hP hS => lv_lload hC.1 hC.2.1 hd (hl.2.2 i _ hv) (by subst hp; exact k H locs la hl hP hS)
theorem Z_aload_n {x : CX} {own : String} {cc : ByteArray} {n d pc : Nat} {ls : LV} {st : List AV} {w : Wd} {f : Fin 4} {i g j : Nat} (hC : Cx x own cc n d) (hd : decode cc pc = .ok (.aload_n f, 1)) (pc' : Nat) (hp : pc + 1 = pc') (hi : (f : Nat) = i) (hv : ls[i]? = some (some (vr g j))) (k : Z x pc' ls (vr g j :: st) w) : Z x pc ls (st) w := fun H locs la hl hP hS => lv_aload_n hC.1 hC.2.1 hd hi (hl.2.2 i _ hv) (by subst hp; exact k H locs la hl hP hS)
theorem Z_aload {x : CX} {own : String} {cc : ByteArray} {n d pc : Nat} {ls : LV} {st : List AV} {w : Wd} {i g j : Nat} (hC : Cx x own cc n d) (hd : decode cc pc = .ok (.aload i, 2)) (pc' : Nat) (hp : pc + 2 = pc') (hv : ls[i]? = some (some (vr g j))) (k : Z x pc' ls (vr g j :: st) w) : Z x pc ls (st) w := fun H locs la hl hP hS => lv_aload hC.1 hC.2.1 hd (hl.2.2 i _ hv) (by subst hp; exact k H locs la hl hP hS)
theorem Z_istore_n {x : CX} {own : String} {cc : ByteArray} {n d pc i : Nat} {ls : LV} {st : List AV} {w : Wd} {f : Fin 4} {v : Int32} (hC : Cx x own cc n d) (hd : decode cc pc = .ok (.istore_n f, 1)) (pc' : Nat) (hp : pc + 1 = pc') (he : (f : Nat) = i) (hi : i < ls.length) (ls' : LV) (hls : sto1 ls i (vi v) = ls') (k : Z x pc' ls' st w) : Z x pc ls (vi v :: st) w := fun H locs la hl hP hS => lv_istore_n hC.1 hC.2.1 hd he (lvr_has hl) hi rfl (fun la' h' => by subst hp; subst hls; exact k H locs la' (lvr_sto1 (v := vi v) hi h') hP hS)
theorem Z_istore {x : CX} {own : String} {cc : ByteArray} {n d pc i : Nat} {ls : LV} {st : List AV} {w : Wd} {v : Int32} (hC : Cx x own cc n d) (hd : decode cc pc = .ok (.istore i, 2)) (pc' : Nat) (hp : pc + 2 = pc') (hi : i < ls.length) (ls' : LV) (hls : sto1 ls i (vi v) = ls') (k : Z x pc' ls' st w) : Z x pc ls (vi v :: st) w := fun H locs la hl hP hS => lv_istore hC.1 hC.2.1 hd (lvr_has hl) hi rfl (fun la' h' => by subst hp; subst hls; exact k H locs la' (lvr_sto1 (v := vi v) hi h') hP hS)
theorem Z_lstore_n {x : CX} {own : String} {cc : ByteArray} {n d pc i : Nat} {ls : LV} {st : List AV} {w : Wd} {f : Fin 4} {v : Int64} (hC : Cx x own cc n d) (hd : decode cc pc = .ok (.lstore_n f, 1)) (pc' : Nat) (hp : pc + 1 = pc') (he : (f : Nat) = i) (hi : i + 1 < ls.length) (ls' : LV) (hls : sto2 ls i (vl v) = ls') (k : Z x pc' ls' st w) : Z x pc ls (vl v :: st) w := fun H locs la hl hP hS => lv_lstore_n hC.1 hC.2.1 hd he (lvr_has hl) hi rfl (fun la' h' => by subst hp; subst hls; exact k H locs la' (lvr_sto2 (v := vl v) hi h') hP hS)
theorem Z_lstore {x : CX} {own : String} {cc : ByteArray} {n d pc i : Nat} {ls : LV} {st : List AV} {w : Wd} {v : Int64} (hC : Cx x own cc n d) (hd : decode cc pc = .ok (.lstore i, 2)) (pc' : Nat) (hp : pc + 2 = pc') (hi : i + 1 < ls.length) (ls' : LV) (hls : sto2 ls i (vl v) = ls') (k : Z x pc' ls' st w) : Z x pc ls (vl v :: st) w := fun H locs la hl hP hS => lv_lstore hC.1 hC.2.1 hd (lvr_has hl) hi rfl (fun la' h' => by subst hp; subst hls; exact k H locs la' (lvr_sto2 (v := vl v) hi h') hP hS)
theorem Z_iinc {x : CX} {own : String} {cc : ByteArray} {n d pc i : Nat} {ls : LV} {st : List AV} {w : Wd} {m : Int} {v v' : Int32} (hC : Cx x own cc n d) (hd : decode cc pc = .ok (.iinc i m, 3)) (pc' : Nat) (hp : pc + 3 = pc') (hv : ls[i]? = some (some (vi v))) (hv' : v + Int32.ofInt m = v') (ls' : LV) (hls : sto1 ls i (vi v') = ls') (k : Z x pc' ls' st w) : Z x pc ls st w := fun H locs la hl hP hS => by
  have hi : i < ls.length := (List.getElem?_eq_some_iff.mp hv).1
  obtain ⟨j, hj⟩ := List.getElem?_of_mem (prs_mem (G := xG x).mpr ⟨i, vi v, hv, rfl⟩)
  exact lv_iinc hC.1 hC.2.1 hd (lvr_has hl) hj hv' hi rfl (fun la' h' => by subst hp; subst hls; exact k H locs la' (lvr_sto1 (v := vi v') hi h') hP hS)
theorem Z_goto {x : CX} {own : String} {cc : ByteArray} {n d pc : Nat} {ls : LV} {st : List AV} {w : Wd} {off : Int} (hC : Cx x own cc n d) (hd : decode cc pc = .ok (.goto off, 3)) (tgt : Nat) (ht : (pc : Int) + off = (tgt : Int)) (k : Z x tgt ls st w) : Z x pc ls st w := fun H locs la hl hP hS => lv_goto hC.1 hC.2.1 hd ht (k H locs la hl hP hS)
theorem Z_if_eq {x : CX} {own : String} {cc : ByteArray} {n d pc : Nat} {ls : LV} {st : List AV} {w : Wd} {x1 : Int32} {off : Int} (hC : Cx x own cc n d) (hd : decode cc pc = .ok (.ifCond .eq off, 3)) (pc' tgt : Nat) (hp : pc + 3 = pc') (ht : (pc : Int) + off = (tgt : Int)) (kt : x1 = 0 → Z x tgt ls st w) (kf : ¬ x1 = 0 → Z x pc' ls st w) : Z x pc ls (vi x1 :: st) w := fun H locs la hl hP hS => lv_if_eq hC.1 hC.2.1 hd ht (fun c => kt c H locs la hl hP hS) (fun c => by subst hp; exact kf c H locs la hl hP hS)
theorem Z_icmp_eq {x : CX} {own : String} {cc : ByteArray} {n d pc : Nat} {ls : LV} {st : List AV} {w : Wd} {x1 x2 : Int32} {off : Int} (hC : Cx x own cc n d) (hd : decode cc pc = .ok (.if_icmp .eq off, 3)) (pc' tgt : Nat) (hp : pc + 3 = pc') (ht : (pc : Int) + off = (tgt : Int)) (kt : x1 = x2 → Z x tgt ls st w) (kf : ¬ x1 = x2 → Z x pc' ls st w) : Z x pc ls (vi x2 :: vi x1 :: st) w := fun H locs la hl hP hS => lv_icmp_eq hC.1 hC.2.1 hd ht (fun c => kt c H locs la hl hP hS) (fun c => by subst hp; exact kf c H locs la hl hP hS)
theorem Z_if_ne {x : CX} {own : String} {cc : ByteArray} {n d pc : Nat} {ls : LV} {st : List AV} {w : Wd} {x1 : Int32} {off : Int} (hC : Cx x own cc n d) (hd : decode cc pc = .ok (.ifCond .ne off, 3)) (pc' tgt : Nat) (hp : pc + 3 = pc') (ht : (pc : Int) + off = (tgt : Int)) (kt : ¬ x1 = 0 → Z x tgt ls st w) (kf : x1 = 0 → Z x pc' ls st w) : Z x pc ls (vi x1 :: st) w := fun H locs la hl hP hS => lv_if_ne hC.1 hC.2.1 hd ht (fun c => kt c H locs la hl hP hS) (fun c => by subst hp; exact kf c H locs la hl hP hS)
theorem Z_icmp_ne {x : CX} {own : String} {cc : ByteArray} {n d pc : Nat} {ls : LV} {st : List AV} {w : Wd} {x1 x2 : Int32} {off : Int} (hC : Cx x own cc n d) (hd : decode cc pc = .ok (.if_icmp .ne off, 3)) (pc' tgt : Nat) (hp : pc + 3 = pc') (ht : (pc : Int) + off = (tgt : Int)) (kt : ¬ x1 = x2 → Z x tgt ls st w) (kf : x1 = x2 → Z x pc' ls st w) : Z x pc ls (vi x2 :: vi x1 :: st) w := fun H locs la hl hP hS => lv_icmp_ne hC.1 hC.2.1 hd ht (fun c => kt c H locs la hl hP hS) (fun c => by subst hp; exact kf c H locs la hl hP hS)
theorem Z_if_lt {x : CX} {own : String} {cc : ByteArray} {n d pc : Nat} {ls : LV} {st : List AV} {w : Wd} {x1 : Int32} {off : Int} (hC : Cx x own cc n d) (hd : decode cc pc = .ok (.ifCond .lt off, 3)) (pc' tgt : Nat) (hp : pc + 3 = pc') (ht : (pc : Int) + off = (tgt : Int)) (kt : x1 < 0 → Z x tgt ls st w) (kf : ¬ x1 < 0 → Z x pc' ls st w) : Z x pc ls (vi x1 :: st) w := fun H locs la hl hP hS => lv_if_lt hC.1 hC.2.1 hd ht (fun c => kt c H locs la hl hP hS) (fun c => by subst hp; exact kf c H locs la hl hP hS)
theorem Z_icmp_lt {x : CX} {own : String} {cc : ByteArray} {n d pc : Nat} {ls : LV} {st : List AV} {w : Wd} {x1 x2 : Int32} {off : Int} (hC : Cx x own cc n d) (hd : decode cc pc = .ok (.if_icmp .lt off, 3)) (pc' tgt : Nat) (hp : pc + 3 = pc') (ht : (pc : Int) + off = (tgt : Int)) (kt : x1 < x2 → Z x tgt ls st w) (kf : ¬ x1 < x2 → Z x pc' ls st w) : Z x pc ls (vi x2 :: vi x1 :: st) w := fun H locs la hl hP hS => lv_icmp_lt hC.1 hC.2.1 hd ht (fun c => kt c H locs la hl hP hS) (fun c => by subst hp; exact kf c H locs la hl hP hS)
theorem Z_if_ge {x : CX} {own : String} {cc : ByteArray} {n d pc : Nat} {ls : LV} {st : List AV} {w : Wd} {x1 : Int32} {off : Int} (hC : Cx x own cc n d) (hd : decode cc pc = .ok (.ifCond .ge off, 3)) (pc' tgt : Nat) (hp : pc + 3 = pc') (ht : (pc : Int) + off = (tgt : Int)) (kt : 0 ≤ x1 → Z x tgt ls st w) (kf : ¬ 0 ≤ x1 → Z x pc' ls st w) : Z x pc ls (vi x1 :: st) w := fun H locs la hl hP hS => lv_if_ge hC.1 hC.2.1 hd ht (fun c => kt c H locs la hl hP hS) (fun c => by subst hp; exact kf c H locs la hl hP hS)
theorem Z_icmp_ge {x : CX} {own : String} {cc : ByteArray} {n d pc : Nat} {ls : LV} {st : List AV} {w : Wd} {x1 x2 : Int32} {off : Int} (hC : Cx x own cc n d) (hd : decode cc pc = .ok (.if_icmp .ge off, 3)) (pc' tgt : Nat) (hp : pc + 3 = pc') (ht : (pc : Int) + off = (tgt : Int)) (kt : x2 ≤ x1 → Z x tgt ls st w) (kf : ¬ x2 ≤ x1 → Z x pc' ls st w) : Z x pc ls (vi x2 :: vi x1 :: st) w := fun H locs la hl hP hS => lv_icmp_ge hC.1 hC.2.1 hd ht (fun c => kt c H locs la hl hP hS) (fun c => by subst hp; exact kf c H locs la hl hP hS)
theorem Z_if_gt {x : CX} {own : String} {cc : ByteArray} {n d pc : Nat} {ls : LV} {st : List AV} {w : Wd} {x1 : Int32} {off : Int} (hC : Cx x own cc n d) (hd : decode cc pc = .ok (.ifCond .gt off, 3)) (pc' tgt : Nat) (hp : pc + 3 = pc') (ht : (pc : Int) + off = (tgt : Int)) (kt : 0 < x1 → Z x tgt ls st w) (kf : ¬ 0 < x1 → Z x pc' ls st w) : Z x pc ls (vi x1 :: st) w := fun H locs la hl hP hS => lv_if_gt hC.1 hC.2.1 hd ht (fun c => kt c H locs la hl hP hS) (fun c => by subst hp; exact kf c H locs la hl hP hS)
theorem Z_icmp_gt {x : CX} {own : String} {cc : ByteArray} {n d pc : Nat} {ls : LV} {st : List AV} {w : Wd} {x1 x2 : Int32} {off : Int} (hC : Cx x own cc n d) (hd : decode cc pc = .ok (.if_icmp .gt off, 3)) (pc' tgt : Nat) (hp : pc + 3 = pc') (ht : (pc : Int) + off = (tgt : Int)) (kt : x2 < x1 → Z x tgt ls st w) (kf : ¬ x2 < x1 → Z x pc' ls st w) : Z x pc ls (vi x2 :: vi x1 :: st) w := fun H locs la hl hP hS => lv_icmp_gt hC.1 hC.2.1 hd ht (fun c => kt c H locs la hl hP hS) (fun c => by subst hp; exact kf c H locs la hl hP hS)
theorem Z_if_le {x : CX} {own : String} {cc : ByteArray} {n d pc : Nat} {ls : LV} {st : List AV} {w : Wd} {x1 : Int32} {off : Int} (hC : Cx x own cc n d) (hd : decode cc pc = .ok (.ifCond .le off, 3)) (pc' tgt : Nat) (hp : pc + 3 = pc') (ht : (pc : Int) + off = (tgt : Int)) (kt : x1 ≤ 0 → Z x tgt ls st w) (kf : ¬ x1 ≤ 0 → Z x pc' ls st w) : Z x pc ls (vi x1 :: st) w := fun H locs la hl hP hS => lv_if_le hC.1 hC.2.1 hd ht (fun c => kt c H locs la hl hP hS) (fun c => by subst hp; exact kf c H locs la hl hP hS)
theorem Z_icmp_le {x : CX} {own : String} {cc : ByteArray} {n d pc : Nat} {ls : LV} {st : List AV} {w : Wd} {x1 x2 : Int32} {off : Int} (hC : Cx x own cc n d) (hd : decode cc pc = .ok (.if_icmp .le off, 3)) (pc' tgt : Nat) (hp : pc + 3 = pc') (ht : (pc : Int) + off = (tgt : Int)) (kt : x1 ≤ x2 → Z x tgt ls st w) (kf : ¬ x1 ≤ x2 → Z x pc' ls st w) : Z x pc ls (vi x2 :: vi x1 :: st) w := fun H locs la hl hP hS => lv_icmp_le hC.1 hC.2.1 hd ht (fun c => kt c H locs la hl hP hS) (fun c => by subst hp; exact kf c H locs la hl hP hS)
theorem Z_get {x : CX} {own : String} {cc : ByteArray} {n d pc : Nat} {ls : LV} {st : List AV} {w : Wd} {g i idx : Nat} {C : String} {T : u_T} {N : Nat} {fd : FD} (hC : Cx x own cc n d) (hm : (g, i) ∈ gis) (h10 : g < 10) (hc : cls[(lay g).1]? = some (C, T, N)) (hin : ∀ w ∈ u_ws C T N, w ∈ ww) (k : Nat) (hk : k < N) (hlk : Cond.fieldLink own idx C (T k).2.1 (T k).2.2.1 ∈ ww) (hs : (T k).1 = C) (hf : (lay g).2[k]? = some fd) (hd : decode cc pc = .ok (.getfield idx, 3)) (pc' : Nat) (hp : pc + 3 = pc') (kk : Z x pc' ls (fv w i fd :: st) w) : Z x pc ls (vr g i :: st) w := fun H locs la hl hP hS => by
  obtain ⟨q0, hq⟩ := List.getElem?_of_mem hm
  have he := wl_at (xG x) w hq
  rw [cel_obj h10] at he
  refine va_get (D := (xG x).1) (v := cv (xG x) (fv w i fd)) (fs := (lay g).2.map (fun d => cv (xG x) (fv w i d))) hC.1 hC.2.1 hC.2.2.2.1 hin hC.2.2.1 hC.2.2.2.2.1 hP q0 he hc k hk (hC.2.2.2.1 _ hlk) (fun z hz => by rw [hs] at hz; exact hz) ?_ hd ?_
  · rw [List.getElem?_map, hf]; rfl
  · subst hp; exact kk H locs la hl hP hS
theorem Z_putI {x : CX} {own : String} {cc : ByteArray} {n d pc : Nat} {ls : LV} {st : List AV} {w : Wd} {g i idx f : Nat} {C : String} {T : u_T} {N : Nat} {v : Int32} (ty0 : Nat → FieldType) (ty : FieldType) (hC : Cx x own cc n d) (hm : (g, i) ∈ gis) (h10 : g < 10) (hc : cls[(lay g).1]? = some (C, T, N)) (hin : ∀ w ∈ u_ws C T N, w ∈ ww) (hty : ∀ k, k < N → parseFieldDescriptor (T k).2.2.1 = some (ty0 k)) (hnm : ∀ a, a < N → ∀ b, b < N → a ≠ b → (T a).2.1 ≠ (T b).2.1) (k : Nat) (hk : k < N) (hlk : Cond.fieldLink own idx C (T k).2.1 (T k).2.2.1 ∈ ww) (hs : (T k).1 = C) (hfin : (T k).2.2.2 = false) (hpd : parseFieldDescriptor (T k).2.2.1 = some ty) (hn : narrow ty (.int v) = .int v) (hft : fits ty (.int v) = true) (ok : okI g k f = true) (hd : decode cc pc = .ok (.putfield idx, 3)) (pc' : Nat) (hp : pc + 3 = pc') (kk : Z x pc' ls st (sI w f i v)) : Z x pc ls (vi v :: vr g i :: st) w := fun H locs la hl hP hS => by
  obtain ⟨q0, hq⟩ := List.getElem?_of_mem hm
  have he := wl_at (xG x) w hq
  rw [cel_obj h10] at he
  have hlen : k < ((lay g).2.map (fun d => cv (xG x) (fv w i d))).length := by
    rw [List.length_map]; exact (List.getElem?_eq_some_iff.mp (okI_spec ok).1).1
  refine va_put (D := (xG x).1) (v := .int v) (ty := ty) (fs := (lay g).2.map (fun d => cv (xG x) (fv w i d))) hC.1 hC.2.1 hC.2.2.2.1 hin ty0 hty hnm hC.2.2.1 hC.2.2.2.2.1 hP (wl_D hC.2.2.2.2.2.1 w) hS q0 he hc k hk (hC.2.2.2.1 _ hlk) (fun z hz => by rw [hs] at hz; exact hz) hfin hpd hn hft hlen hd (fun H1 locs1 hP1 _ hS1 => ?_)
  rw [set_sI (f := f) (v := v) hq h10 ok] at hP1
  subst hp; exact kk H1 locs1 la hl hP1 hS1
theorem Z_putL {x : CX} {own : String} {cc : ByteArray} {n d pc : Nat} {ls : LV} {st : List AV} {w : Wd} {g i idx f : Nat} {C : String} {T : u_T} {N : Nat} {v : Int64} (ty0 : Nat → FieldType) (ty : FieldType) (hC : Cx x own cc n d) (hm : (g, i) ∈ gis) (h10 : g < 10) (hc : cls[(lay g).1]? = some (C, T, N)) (hin : ∀ w ∈ u_ws C T N, w ∈ ww) (hty : ∀ k, k < N → parseFieldDescriptor (T k).2.2.1 = some (ty0 k)) (hnm : ∀ a, a < N → ∀ b, b < N → a ≠ b → (T a).2.1 ≠ (T b).2.1) (k : Nat) (hk : k < N) (hlk : Cond.fieldLink own idx C (T k).2.1 (T k).2.2.1 ∈ ww) (hs : (T k).1 = C) (hfin : (T k).2.2.2 = false) (hpd : parseFieldDescriptor (T k).2.2.1 = some ty) (hn : narrow ty (.long v) = .long v) (hft : fits ty (.long v) = true) (ok : okL g k f = true) (hd : decode cc pc = .ok (.putfield idx, 3)) (pc' : Nat) (hp : pc + 3 = pc') (kk : Z x pc' ls st (sL w f i v)) : Z x pc ls (vl v :: vr g i :: st) w := fun H locs la hl hP hS => by
  obtain ⟨q0, hq⟩ := List.getElem?_of_mem hm
  have he := wl_at (xG x) w hq
  rw [cel_obj h10] at he
  have hlen : k < ((lay g).2.map (fun d => cv (xG x) (fv w i d))).length := by
    rw [List.length_map]; exact (List.getElem?_eq_some_iff.mp (okL_spec ok).1).1
  refine va_put (D := (xG x).1) (v := .long v) (ty := ty) (fs := (lay g).2.map (fun d => cv (xG x) (fv w i d))) hC.1 hC.2.1 hC.2.2.2.1 hin ty0 hty hnm hC.2.2.1 hC.2.2.2.2.1 hP (wl_D hC.2.2.2.2.2.1 w) hS q0 he hc k hk (hC.2.2.2.1 _ hlk) (fun z hz => by rw [hs] at hz; exact hz) hfin hpd hn hft hlen hd (fun H1 locs1 hP1 _ hS1 => ?_)
  rw [set_sL (f := f) (v := v) hq h10 ok] at hP1
  subst hp; exact kk H1 locs1 la hl hP1 hS1
theorem Z_iaload {x : CX} {own : String} {cc : ByteArray} {n d pc : Nat} {ls : LV} {st : List AV} {w : Wd} {g i : Nat} {j : Int32} (hC : Cx x own cc n d) (hm : (g, i) ∈ gis) (h10 : ¬ g < 10) (hk : (arr g).1 = 0) (hin : vp_in j (arr g).2) (hd : decode cc pc = .ok (.iaload, 1)) (pc' : Nat) (hp : pc + 1 = pc') (kk : Z x pc' ls (vi (gA w g i j.toNatClampNeg) :: st) w) : Z x pc ls (vi j :: vr g i :: st) w := fun H locs la hl hP hS => by
  obtain ⟨q0, hq⟩ := List.getElem?_of_mem hm
  have he := wl_at (xG x) w hq
  rw [cel_arr h10 (by rw [hk]; decide), hk] at he
  refine va_iald (D := (xG x).1) hC.1 hC.2.1 hC.2.2.2.2.1 hP q0 0 he rfl hin hd ?_
  subst hp; exact kk H locs la hl hP hS
theorem Z_baload {x : CX} {own : String} {cc : ByteArray} {n d pc : Nat} {ls : LV} {st : List AV} {w : Wd} {g i : Nat} {j : Int32} (hC : Cx x own cc n d) (hm : (g, i) ∈ gis) (h10 : ¬ g < 10) (hk : (arr g).1 = 1) (hin : vp_in j (arr g).2) (hd : decode cc pc = .ok (.baload, 1)) (pc' : Nat) (hp : pc + 1 = pc') (kk : Z x pc' ls (vi (gA w g i j.toNatClampNeg) :: st) w) : Z x pc ls (vi j :: vr g i :: st) w := fun H locs la hl hP hS => by
  obtain ⟨q0, hq⟩ := List.getElem?_of_mem hm
  have he := wl_at (xG x) w hq
  rw [cel_arr h10 (by rw [hk]; decide), hk] at he
  refine va_bald (D := (xG x).1) hC.1 hC.2.1 hC.2.2.2.2.1 hP q0 1 he rfl hin hd ?_
  subst hp; exact kk H locs la hl hP hS
theorem Z_iastore {x : CX} {own : String} {cc : ByteArray} {n d pc : Nat} {ls : LV} {st : List AV} {w : Wd} {g i : Nat} {j v : Int32} (hC : Cx x own cc n d) (hm : (g, i) ∈ gis) (h10 : ¬ g < 10) (hk : (arr g).1 = 0) (hin : vp_in j (arr g).2) (hd : decode cc pc = .ok (.iastore, 1)) (pc' : Nat) (hp : pc + 1 = pc') (kk : Z x pc' ls st (sA w g i (upd (gA w g i) j.toNatClampNeg v))) : Z x pc ls (vi v :: vi j :: vr g i :: st) w := fun H locs la hl hP hS => by
  obtain ⟨q0, hq⟩ := List.getElem?_of_mem hm
  have he := wl_at (xG x) w hq
  rw [cel_arr h10 (by rw [hk]; decide), hk] at he
  refine va_iast (D := (xG x).1) hC.1 hC.2.1 hC.2.2.2.2.1 hP (wl_D hC.2.2.2.2.2.1 w) hS q0 0 he rfl hin hd (fun H1 locs1 hP1 _ hS1 => ?_)
  have hset := set_sA (G := xG x) (w := w) (v := upd (gA w g i) j.toNatClampNeg v) hq h10 (by rw [hk]; decide)
  rw [hk] at hset
  rw [hset] at hP1
  subst hp; exact kk H1 locs1 la hl hP1 hS1
theorem Z_bastore {x : CX} {own : String} {cc : ByteArray} {n d pc : Nat} {ls : LV} {st : List AV} {w : Wd} {g i : Nat} {j v : Int32} (hC : Cx x own cc n d) (hm : (g, i) ∈ gis) (h10 : ¬ g < 10) (hk : (arr g).1 = 1) (hin : vp_in j (arr g).2) (hd : decode cc pc = .ok (.bastore, 1)) (pc' : Nat) (hp : pc + 1 = pc') (kk : Z x pc' ls st (sA w g i (upd (gA w g i) j.toNatClampNeg (vp_nar .byte v)))) : Z x pc ls (vi v :: vi j :: vr g i :: st) w := fun H locs la hl hP hS => by
  obtain ⟨q0, hq⟩ := List.getElem?_of_mem hm
  have he := wl_at (xG x) w hq
  rw [cel_arr h10 (by rw [hk]; decide), hk] at he
  refine va_bast (D := (xG x).1) hC.1 hC.2.1 hC.2.2.2.2.1 hP (wl_D hC.2.2.2.2.2.1 w) hS q0 1 he rfl hin hd (fun H1 locs1 hP1 _ hS1 => ?_)
  have hset := set_sA (G := xG x) (w := w) (v := upd (gA w g i) j.toNatClampNeg (vp_nar .byte v)) hq h10 (by rw [hk]; decide)
  rw [hk] at hset
  rw [hset] at hP1
  subst hp; exact kk H1 locs1 la hl hP1 hS1
theorem Z_alen {x : CX} {own : String} {cc : ByteArray} {n d pc : Nat} {ls : LV} {st : List AV} {w : Wd} {g i : Nat} {v : Int32} (hC : Cx x own cc n d) (hm : (g, i) ∈ gis) (h10 : ¬ g < 10) (hk : (arr g).1 < 2) (hv : Int32.ofNat (arr g).2 = v) (hd : decode cc pc = .ok (.arraylength, 1)) (pc' : Nat) (hp : pc + 1 = pc') (kk : Z x pc' ls (vi v :: st) w) : Z x pc ls (vr g i :: st) w := fun H locs la hl hP hS => by
  obtain ⟨q0, hq⟩ := List.getElem?_of_mem hm
  have he := wl_at (xG x) w hq
  rw [cel_arr h10 hk] at he
  have ht : ∃ ty, (tyG (xG x))[(arr g).1]? = some ((xG x).2.1 (arr g).1, ty) := by
    rcases (show (arr g).1 = 0 ∨ (arr g).1 = 1 by omega) with e | e <;> rw [e] <;> exact ⟨_, rfl⟩
  obtain ⟨ty, ht⟩ := ht
  refine va_alen (D := (xG x).1) hC.1 hC.2.1 hC.2.2.2.2.1 hP q0 (arr g).1 he ht hv hd ?_
  subst hp; exact kk H locs la hl hP hS
theorem Z_aaload {x : CX} {own : String} {cc : ByteArray} {n d pc : Nat} {ls : LV} {st : List AV} {w : Wd} {g i : Nat} {j : Int32} (hC : Cx x own cc n d) (hm : (g, i) ∈ gis) (h10 : ¬ g < 10) (hk : (arr g).1 = 2 ∨ (arr g).1 = 3) (hin : vp_in j (arr g).2) (hd : decode cc pc = .ok (.aaload, 1)) (pc' : Nat) (hp : pc + 1 = pc') (kk : Z x pc' ls (vr (g + 1) j.toNatClampNeg :: st) w) : Z x pc ls (vi j :: vr g i :: st) w := fun H locs la hl hP hS => by
  obtain ⟨q0, hq⟩ := List.getElem?_of_mem hm
  have he := wl_at (xG x) w hq
  rw [cel_out h10 (by omega)] at he
  have hlt : j.toNatClampNeg < (arr g).2 := Nat.not_le.mp fun q => hin (Or.inr q)
  have ht : ∃ ty, (tyG (xG x))[(arr g).1]? = some ((xG x).2.1 (arr g).1, .array ty) := by
    rcases hk with e | e <;> rw [e] <;> exact ⟨_, rfl⟩
  obtain ⟨ty, ht⟩ := ht
  refine W.aald (v := .ref ((xG x).2.2 (g + 1) j.toNatClampNeg)) (ty := .array ty) hC.1 hC.2.1 (hP q0 _ he) ((hC.2.2.2.2.1.2 _ _ ht).1 (arr g).2 (fun k => va_rf (if k < (arr g).2 then some ((xG x).2.2 (g + 1) k) else none))) rfl (fun q => by cases q) (by show ¬ (j < 0 ∨ (arrV _ _ _).slots.size ≤ _); rw [arrV_size]; exact hin) (by show (arrV _ _ _).slots[_]? = _; rw [arrV_read _ _ hlt]; show some (va_rf (if j.toNatClampNeg < (arr g).2 then _ else none)) = _; rw [if_pos hlt]; rfl) rfl rfl hd ?_
  subst hp; exact kk H locs la hl hP hS
theorem Z_getLet {x : CX} {own : String} {cc : ByteArray} {n d pc : Nat} {ls : LV} {st : List AV} {w : Wd} {idx : Nat} (hC : Cx x own cc n d) (hlk : Cond.fieldLink own idx "HatDraw" "LETTERS" "[I" ∈ ww) (hd : decode cc pc = .ok (.getstatic idx, 3)) (pc' : Nat) (hp : pc + 3 = pc') (kk : Z x pc' ls (vr 50 0 :: st) w) : Z x pc ls st w := fun H locs la hl hP hS => by
  refine va_gets hC.1 hC.2.1 hC.2.2.2.2.2.2.1.1 hS hC.2.2.1 (hC.2.2.2.1 _ hlk) (fun _ h => h) hd ?_
  subst hp; exact kk H locs la hl hP hS
theorem Z_ldLet {x : CX} {own : String} {cc : ByteArray} {n d pc : Nat} {ls : LV} {st : List AV} {w : Wd} {j : Int32} (hC : Cx x own cc n d) (hin : vp_in j 6) (hd : decode cc pc = .ok (.iaload, 1)) (pc' : Nat) (hp : pc + 1 = pc') (kk : Z x pc' ls (vi (letN j.toNatClampNeg) :: st) w) : Z x pc ls (vi j :: vr 50 0 :: st) w := fun H locs la hl hP hS => by
  refine va_ti hC.1 hC.2.1 hC.2.2.2.2.2.2.1.2 hS hin rfl hd ?_
  subst hp; exact kk H locs la hl hP hS
theorem Z_lenLet {x : CX} {own : String} {cc : ByteArray} {n d pc : Nat} {ls : LV} {st : List AV} {w : Wd} (hC : Cx x own cc n d) (hd : decode cc pc = .ok (.arraylength, 1)) (pc' : Nat) (hp : pc + 1 = pc') (kk : Z x pc' ls (vi 6 :: st) w) : Z x pc ls (vr 50 0 :: st) w := fun H locs la hl hP hS => by
  refine va_tlen hC.1 hC.2.1 hC.2.2.2.2.2.2.1.2 hS (v := 6) rfl hd ?_
  subst hp; exact kk H locs la hl hP hS
theorem Z_ldc {x : CX} {own : String} {cc : ByteArray} {n d pc : Nat} {ls : LV} {st : List AV} {w : Wd} {idx : Nat} {v : Int32} (hC : Cx x own cc n d) (hlk : Cond.constant own idx v ∈ ww) (hd : decode cc pc = .ok (.ldc idx, 2)) (pc' : Nat) (hp : pc + 2 = pc') (kk : Z x pc' ls (vi v :: st) w) : Z x pc ls st w := fun H locs la hl hP hS => by
  refine lv_ldc hC.1 hC.2.1 hC.2.2.1 (hC.2.2.2.1 _ hlk) hd ?_
  subst hp; exact kk H locs la hl hP hS
theorem Z_ldcw {x : CX} {own : String} {cc : ByteArray} {n d pc : Nat} {ls : LV} {st : List AV} {w : Wd} {idx : Nat} {v : Int32} (hC : Cx x own cc n d) (hlk : Cond.constant own idx v ∈ ww) (hd : decode cc pc = .ok (.ldc_w idx, 3)) (pc' : Nat) (hp : pc + 3 = pc') (kk : Z x pc' ls (vi v :: st) w) : Z x pc ls st w := fun H locs la hl hP hS => by
  refine lv_ldcw hC.1 hC.2.1 hC.2.2.1 (hC.2.2.2.1 _ hlk) hd ?_
  subst hp; exact kk H locs la hl hP hS
theorem Z_ldc2 {x : CX} {own : String} {cc : ByteArray} {n d pc : Nat} {ls : LV} {st : List AV} {w : Wd} {idx : Nat} {v : Int64} (hC : Cx x own cc n d) (hlk : Cond.constantLong own idx v ∈ ww) (hd : decode cc pc = .ok (.ldc2_w idx, 3)) (pc' : Nat) (hp : pc + 3 = pc') (kk : Z x pc' ls (vl v :: st) w) : Z x pc ls st w := fun H locs la hl hP hS => by
  refine lv_ldc2 hC.1 hC.2.1 hC.2.2.1 (hC.2.2.2.1 _ hlk) hd ?_
  subst hp; exact kk H locs la hl hP hS
theorem Z_switch {x : CX} {own : String} {cc : ByteArray} {n d pc : Nat} {ls : LV} {st : List AV} {w : Wd} {dflt lo hi : Int} {offs : Array Int} {len : Nat} {v : Int32} (hC : Cx x own cc n d) (hd : decode cc pc = .ok (.tableswitch dflt lo hi offs, len)) (tgt : Nat) (ht : (pc : Int) + dflt = (tgt : Int)) (ko : (v.toInt < lo ∨ hi < v.toInt) → Z x tgt ls st w) (ki : ¬ v.toInt < lo → ¬ hi < v.toInt → ∃ (off : Int) (t : Nat), offs[(v.toInt - lo).toNat]? = some off ∧ (pc : Int) + off = (t : Int) ∧ Z x t ls st w) : Z x pc ls (vi v :: st) w := fun H locs la hl hP hS => by
  by_cases h : v.toInt < lo ∨ hi < v.toInt
  · exact lv_tableOut hC.1 hC.2.1 hd h ht (ko h H locs la hl hP hS)
  · rw [not_or] at h
    obtain ⟨off, t, h1, h2, k⟩ := ki h.1 h.2
    exact lv_tableIn hC.1 hC.2.1 hd h.1 h.2 h1 h2 (k H locs la hl hP hS)
theorem Z_ireturn {x : CX} {own : String} {cc : ByteArray} {n d pc : Nat} {ls : LV} {st : List AV} {w : Wd} {v : Int32} (hC : Cx x own cc n d) (hr : (xM x).sig.returnType = some .int) (hQ : Rt x (some (vi v)) w) (hd : decode cc pc = .ok (.ireturn, 1)) : Z x pc ls [vi v] w := fun H locs la hl hP hS => by
  have hlocks := hC.2.2.2.2.2.2.2.2.1
  unfold Rt at hQ
  rw [hQ]
  exact W.iret (v := v) hC.1 hC.2.1 hr (fun t ht hW => ⟨rfl, by rw [ht]; exact hP, hS.F ht⟩) hS.2.2 hd hlocks
theorem Z_zreturn {x : CX} {own : String} {cc : ByteArray} {n d pc : Nat} {ls : LV} {st : List AV} {w : Wd} {v : Int32} (hC : Cx x own cc n d) (hr : (xM x).sig.returnType = some .boolean) (hn : narrow .boolean (.int v) = .int v) (hQ : Rt x (some (vi v)) w) (hd : decode cc pc = .ok (.ireturn, 1)) : Z x pc ls [vi v] w := fun H locs la hl hP hS => by
  have hlocks := hC.2.2.2.2.2.2.2.2.1
  unfold Rt at hQ
  rw [hQ]
  exact W.zret (v := v) (ty := .boolean) hC.1 hC.2.1 hr hn (fun t ht hW => ⟨rfl, by rw [ht]; exact hP, hS.F ht⟩) hS.2.2 hd hlocks
theorem Z_lreturn {x : CX} {own : String} {cc : ByteArray} {n d pc : Nat} {ls : LV} {st : List AV} {w : Wd} {v : Int64} (hC : Cx x own cc n d) (hr : (xM x).sig.returnType = some .long) (hQ : Rt x (some (vl v)) w) (hd : decode cc pc = .ok (.lreturn, 1)) : Z x pc ls [vl v] w := fun H locs la hl hP hS => by
  have hlocks := hC.2.2.2.2.2.2.2.2.1
  unfold Rt at hQ
  rw [hQ]
  exact W.lret (v := v) hC.1 hC.2.1 hr (fun t ht hW => ⟨rfl, by rw [ht]; exact hP, hS.F ht⟩) hS.2.2 hd hlocks
theorem Z_return {x : CX} {own : String} {cc : ByteArray} {n d pc : Nat} {ls : LV} {st : List AV} {w : Wd} (hC : Cx x own cc n d) (hr : (xM x).sig.returnType = none) (hQ : Rt x none w) (hd : decode cc pc = .ok (.return_, 1)) : Z x pc ls [] w := fun H locs la hl hP hS => by
  have hlocks := hC.2.2.2.2.2.2.2.2.1
  unfold Rt at hQ
  rw [hQ]
  exact W.vret hC.1 hC.2.1 hr (fun t ht hW => ⟨rfl, by rw [ht]; exact hP, hS.F ht⟩) hS.2.2 hd hlocks
theorem Wp.blind {G : GT} {w : Wd} {as : List Value} : FrameBlind (va_Pc as (Wp G w)) := fun a U g mk q => by
  obtain ⟨q0, qP, qK, qI, qT, qN⟩ := q
  exact ⟨q0, qP, va_K.moved (u := U) (U := U.calling g mk a) (Vm.Alike.refl U.vm) qK, qI, Sta.moved (u := U) (U := U.calling g mk a) (Vm.Alike.refl U.vm) qT, NW.same (u := U) (U := U.calling g mk a) rfl qN⟩
theorem Cx.pre {x : CX} {own : String} {cc : ByteArray} {n d : Nat} {w : Wd} {H : Heap} {locs : List Loc} (hC : Cx x own cc n d) (hP : va_P (xG x).1 cls (wl (xG x) w) H) (hS : va_S (aG (xG x)) (xs x).heap H locs) (U : State) (hU : U.heap = H) (hW : (xs x).WarmedH U.vm) : Wp (xG x) w U := by
  refine ⟨by rw [hU]; exact hP, va_K.moved hW.alike hC.2.2.2.2.1, hC.2.2.2.2.2.1, ?_, NW.warm hW hC.2.2.2.2.2.2.2.1⟩
  rw [hU]
  exact (hC.2.2.2.2.2.2.1.moved hW.alike).kept hS.2.1
theorem Z_run {x : CX} {pc : Nat} {ls : LV} {st st0 : List AV} {w w' : Wd} {r : Option AV} {a : Array Value} (pc' : Nat) (hp : pc + 3 = pc') (hr : ∀ (H : Heap) (locs : List Loc) (la : Array Slot), lvr (xG x) la ls → va_P (xG x).1 cls (wl (xG x) w) H → va_S (aG (xG x)) (xs x).heap H locs → va_Run (xp x) (xl x) (xe x) (xR x) (xs x) (xm x) (xa x) (xb x) (xM x) (xc x) H locs (xn x) (xo x) 0 0 (F0 (xm x) pc la (st0.map (cv (xG x)))) (st.map (cv (xG x))) (Qs (xG x) r w' a) (aG (xG x))) (k : Z x pc' ls (r.toList ++ st) w') : Z x pc ls st0 w := fun H locs la hl hP hS T hT X => by
  obtain ⟨v, st₀, t, T', L, h0, X', hL, e1, e2, ⟨hv, hp1, hz, hk⟩, stp⟩ := hr H locs la hl hP hS T hT X
  have hv : v = r.map (cv (xG x)) := by injection hv
  rw [h0] at hz hk
  have hS' : va_S (aG (xG x)) (xs x).heap T'.heap (locs ++ L) := ⟨Nat.le_trans hS.1 (by rw [e1]; exact hz), fun q h1 h2 => by rw [e1, hk q (Nat.lt_of_lt_of_le h1 hS.1) h2]; exact hS.2.1 q h1 h2, fun q hq => by
    rcases List.mem_append.mp hq with h | h
    · exact hS.2.2 q h
    · exact hL q h⟩
  obtain ⟨t2, a1, b1⟩ := k T'.heap (locs ++ L) la hl (by rw [e1]; exact hp1) hS' T' rfl X'
  refine ⟨t2, stp t2 ?_, b1⟩
  subst hp
  have he : v.toList ++ st.map (cv (xG x)) = (r.toList ++ st).map (cv (xG x)) := by
    rw [hv, List.map_append]; cases r <;> rfl
  rw [he]
  exact a1
theorem cats (G : GT) (st : List AV) : ((st.map (cv G)).map fun v => v.category).sum = (st.map cat).sum := by
  rw [List.map_map]
  congr 1
  apply List.map_congr_left
  intro v _
  exact cv_cat G v
theorem Z_callV {x : CX} {own : String} {cc : ByteArray} {n d pc : Nat} {ls : LV} {st : List AV} {w : Wd} {g i idx dc maxL m : Nat} {C : String} {T : u_T} {N : Nat} {y : MethodName} {bytes : ByteArray} {ret : Option FieldType} {st0 : List AV} {r : Option AV} {w' : Wd} (as : List AV) (hC : Cx x own cc n d) (hm : (g, i) ∈ gis) (h10 : g < 10) (hc : cls[(lay g).1]? = some (C, T, N)) (hy : y.cls = C ∧ y.cls ≠ "java/lang/invoke/MethodHandle" ∧ y.cls ≠ "java/lang/invoke/VarHandle" ∧ (parseMethodDescriptor y.desc).map (fun d => d.parameters.length) = some m) (w1 : Cond.methodLink own idx y ∈ ww) (w2 : Cond.instanceMethod y ∈ ww) (w3 : Cond.selects C y y ∈ ww) (w4 : Cond.initialized C ∈ ww) (w5 : Cond.code y bytes maxL ret ∈ ww) (hM : Sp (xG x) (xl x) y (Cond.code y bytes maxL ret :: ww) dc (vr g i :: as) w r w') (hdc : dc + 1 ≤ d) (hmx : maxL ≤ 45) (hln : ls.length = n) (hn : as.length = m) (hst : st0 = as.reverse ++ vr g i :: st) (hcat : (st.map cat).sum ≤ 8) (hd : decode cc pc = .ok (.invokevirtual idx, 3)) (pc' : Nat) (hp : pc + 3 = pc') (k : Z x pc' ls (r.toList ++ st) w') : Z x pc ls st0 w := by
  subst hst
  refine Z_run (a := (Value.ref ((xG x).2.2 g i) :: as.map (cv (xG x))).toArray) pc' hp (fun H locs la hl hP hS => ?_) k
  obtain ⟨q0, hq⟩ := List.getElem?_of_mem hm
  have he := wl_at (xG x) w hq
  rw [cel_obj h10] at he
  have hts := hC.2.2.2.1
  have hf := hC.2.2.2.2.2.2.2.2.2.2
  exact va_runV (As := as.map (cv (xG x))) ⟨hC.1, hC.2.1, hC.2.2.2.2.2.2.2.2.2.1, hC.2.2.1, hts⟩ hM (cwV m hts (fun w hw => by
      rcases List.mem_append.mp hw with h | h
      · rcases List.mem_cons.mp h with e | h
        · rw [e]; exact ww_good _ w1
        · rcases List.mem_cons.mp h with e | h
          · rw [e]; exact ww_good _ w2
          · rcases List.mem_cons.mp h with e | h
            · rw [e]; exact ww_good _ w3
            · rcases List.mem_cons.mp h with e | h
              · rw [e]; exact ww_good _ w4
              · cases h
      · exact gww w5 w h) rfl rfl rfl hy ⟨Nat.le_trans hdc hf.1, by show 8 + (maxL + 11) + 64 * dc ≤ _; have := hf.2.1; omega⟩)
    ⟨Wp.blind, va_recv hC.2.2.2.2.1 hP hc he, fun U hU hW => ⟨rfl, hC.pre hP hS U hU hW⟩⟩ rfl (by rw [List.length_map]; exact hn) (by show la.size = n; rw [hl.1]; exact hln) (by show List.map _ _ = _; rw [List.map_append, List.map_reverse]; rfl) (lv_room (by rw [cats]; exact hcat)) hd ⟨hf.2.2.1, hf.2.2.2⟩
theorem Z_callS {x : CX} {own : String} {cc : ByteArray} {n d pc : Nat} {ls : LV} {st : List AV} {w : Wd} {idx dc maxL m : Nat} {y : MethodName} {bytes : ByteArray} {ret : Option FieldType} {st0 : List AV} {r : Option AV} {w' : Wd} (as : List AV) (hC : Cx x own cc n d) (hy : y.cls ≠ "java/lang/invoke/MethodHandle" ∧ y.cls ≠ "java/lang/invoke/VarHandle" ∧ (parseMethodDescriptor y.desc).map (fun d => d.parameters.length) = some m) (w1 : Cond.methodLink own idx y ∈ ww) (w2 : Cond.static y ∈ ww) (w4 : Cond.initialized y.cls ∈ ww) (w5 : Cond.code y bytes maxL ret ∈ ww) (hM : Sp (xG x) (xl x) y (Cond.code y bytes maxL ret :: ww) dc as w r w') (hdc : dc + 1 ≤ d) (hmx : maxL ≤ 45) (hln : ls.length = n) (hn : as.length = m) (hst : st0 = as.reverse ++ st) (hcat : (st.map cat).sum ≤ 8) (hd : decode cc pc = .ok (.invokestatic idx, 3)) (pc' : Nat) (hp : pc + 3 = pc') (k : Z x pc' ls (r.toList ++ st) w') : Z x pc ls st0 w := by
  subst hst
  refine Z_run (a := (as.map (cv (xG x))).toArray) pc' hp (fun H locs la hl hP hS => ?_) k
  have hts := hC.2.2.2.1
  have hf := hC.2.2.2.2.2.2.2.2.2.2
  exact va_runS (As := as.map (cv (xG x))) ⟨hC.1, hC.2.1, hC.2.2.2.2.2.2.2.2.2.1, hC.2.2.1, hts⟩ hM (va_cwS m hts (fun w hw => by
      rcases List.mem_append.mp hw with h | h
      · rcases List.mem_cons.mp h with e | h
        · rw [e]; exact ww_good _ w1
        · rcases List.mem_cons.mp h with e | h
          · rw [e]; exact ww_good _ w2
          · rcases List.mem_cons.mp h with e | h
            · rw [e]; exact ww_good _ w4
            · cases h
      · exact gww w5 w h) rfl rfl rfl hy ⟨Nat.le_trans hdc hf.1, by show 8 + (maxL + 11) + 64 * dc ≤ _; have := hf.2.1; omega⟩)
    ⟨Wp.blind, fun U hU hW => ⟨rfl, hC.pre hP hS U hU hW⟩⟩ rfl (by rw [List.length_map]; exact hn) (by show la.size = n; rw [hl.1]; exact hln) (by show List.map _ _ = _; rw [List.map_append, List.map_reverse]) (lv_room (by rw [cats]; exact hcat)) hd ⟨hf.2.2.1, hf.2.2.2⟩
theorem Z_callSN {x : CX} {own : String} {cc : ByteArray} {n d pc : Nat} {ls : LV} {st : List AV} {w : Wd} {idx dc maxL m : Nat} {host : String} {y : MethodName} {bytes : ByteArray} {ret : Option FieldType} {st0 : List AV} {r : Option AV} {w' : Wd} (as : List AV) (hC : Cx x own cc n d) (hy : y.cls ≠ "java/lang/invoke/MethodHandle" ∧ y.cls ≠ "java/lang/invoke/VarHandle" ∧ (parseMethodDescriptor y.desc).map (fun d => d.parameters.length) = some m) (w1 : va_Nw (.methodLinkNest own idx y host) (xs x)) (w2 : Cond.static y ∈ ww) (w4 : Cond.initialized y.cls ∈ ww) (w5 : Cond.code y bytes maxL ret ∈ ww) (hM : Sp (xG x) (xl x) y (Cond.code y bytes maxL ret :: ww) dc as w r w') (hdc : dc + 1 ≤ d) (hmx : maxL ≤ 45) (hln : ls.length = n) (hn : as.length = m) (hst : st0 = as.reverse ++ st) (hcat : (st.map cat).sum ≤ 8) (hd : decode cc pc = .ok (.invokestatic idx, 3)) (pc' : Nat) (hp : pc + 3 = pc') (k : Z x pc' ls (r.toList ++ st) w') : Z x pc ls st0 w := by
  subst hst
  refine Z_run (a := (as.map (cv (xG x))).toArray) pc' hp (fun H locs la hl hP hS => ?_) k
  have hts := hC.2.2.2.1
  have hf := hC.2.2.2.2.2.2.2.2.2.2
  exact va_runSN (As := as.map (cv (xG x))) ⟨hC.1, hC.2.1, hC.2.2.2.2.2.2.2.2.2.1, hC.2.2.1, hts⟩ hM ⟨va_cnB m hts (gww w5) rfl rfl rfl w1 (hts _ w4) hy ⟨Nat.le_trans hdc hf.1, by show 8 + (maxL + 11) + 64 * dc ≤ _; have := hf.2.1; omega⟩, hts _ w2, trivial⟩
    ⟨Wp.blind, fun U hU hW => ⟨rfl, hC.pre hP hS U hU hW⟩⟩ rfl (by rw [List.length_map]; exact hn) (by show la.size = n; rw [hl.1]; exact hln) (by show List.map _ _ = _; rw [List.map_append, List.map_reverse]) (lv_room (by rw [cats]; exact hcat)) hd ⟨hf.2.2.1, hf.2.2.2⟩
theorem Z_copy {x : CX} {own : String} {cc : ByteArray} {n d pc : Nat} {ls : LV} {st : List AV} {w : Wd} {g i g' i' idx : Nat} {sp dp m : Int32} (hC : Cx x own cc n d) (hm : (g, i) ∈ gis) (hm' : (g', i') ∈ gis) (h10 : ¬ g < 10) (h10' : ¬ g' < 10) (hk : (arr g).1 = 0) (hk' : (arr g').1 = 0) (w1 : Cond.methodLink own idx arraycopyName ∈ ww) (w2 : Cond.native arraycopyName ∈ ww) (w3 : Cond.static arraycopyName ∈ ww) (w4 : Cond.initialized "java/lang/System" ∈ ww) (h1 : ¬ sp < 0) (h2 : ¬ dp < 0) (h3 : ¬ m < 0) (h4 : sp.toNatClampNeg + m.toNatClampNeg ≤ (arr g).2) (h5 : dp.toNatClampNeg + m.toNatClampNeg ≤ (arr g').2) (hdc : 1 ≤ d) (hln : ls.length = n) (hcat : (st.map cat).sum ≤ 8) (hd : decode cc pc = .ok (.invokestatic idx, 3)) (pc' : Nat) (hp : pc + 3 = pc') (k : Z x pc' ls st (sA w g' i' (va_cpy (gA w g i) (gA w g' i') sp.toNatClampNeg dp.toNatClampNeg m.toNatClampNeg))) : Z x pc ls (vi m :: vi dp :: vr g' i' :: vi sp :: vr g i :: st) w := fun H locs la hl hP hS => by
  obtain ⟨q0, hq⟩ := List.getElem?_of_mem hm
  obtain ⟨q1, hq'⟩ := List.getElem?_of_mem hm'
  have he := wl_at (xG x) w hq
  have he' := wl_at (xG x) w hq'
  rw [cel_arr h10 (by rw [hk]; decide), hk] at he
  rw [cel_arr h10' (by rw [hk']; decide), hk'] at he'
  have hts := hC.2.2.2.1
  have hf := hC.2.2.2.2.2.2.2.2.2.2
  refine va_copyi (D := (xG x).1) (ty := .int) hC.1 hC.2.1 (by rw [hl.1, hln]; exact hC.2.2.2.2.2.2.2.2.2.1) hC.2.2.1 (hts _ w1) (hts _ w2) (hts _ w3) (hts _ w4) hC.2.2.2.2.1 hP (wl_D hC.2.2.2.2.2.1 w) hS q0 q1 0 0 he he' rfl rfl rfl h1 h2 h3 h4 h5 (fun _ _ => rfl) (Nat.le_trans hdc hf.1) ?_ hd (fun H1 locs1 hP1 _ hS1 => ?_)
  · rw [cats]
    have e : nativeFrameWords "java/lang/System" "arraycopy" 5 + 11 ≤ 56 := by decide +kernel
    have := hf.2.1
    omega
  · have hset := set_sA (G := xG x) (w := w) (v := va_cpy (gA w g i) (gA w g' i') sp.toNatClampNeg dp.toNatClampNeg m.toNatClampNeg) hq' h10' (by rw [hk']; decide)
    rw [hk'] at hset
    rw [hset] at hP1
    subst hp; exact k H1 locs1 la hl hP1 hS1
/-- a guard -/
noncomputable def gd {α : Type} (P : Prop) (x : Option α) : Option α := @ite _ P (Classical.propDecidable P) x none
theorem gd_pos {α : Type} {P : Prop} {x : Option α} (h : P) : gd P x = x := by unfold gd; rw [if_pos h]
theorem gd_some {α : Type} {P : Prop} {x : Option α} {y : α} (h : gd P x = some y) : P ∧ x = some y := by
  unfold gd at h
  by_cases hp : P
  · rw [if_pos hp] at h; exact ⟨hp, h⟩
  · rw [if_neg hp] at h; cases h
theorem bd_some {α β : Type} {o : Option α} {f : α → Option β} {y : β} (h : o.bind f = some y) : ∃ a, o = some a ∧ f a = some y := by
  cases o with
  | none => cases h
  | some a => exact ⟨a, rfl, h⟩
end
