section
-- ===== PART A: goes FIRST, ahead of the names: the tables' words, and 'selects' of the private methods out of them =====
/-- a private method of a class that the tables say can be made, by its rows of tables_1 -/
def lw_okq (q : MethodName × Nat) : Prop := (q.1.cls ≠ "java/lang/invoke/MethodHandle" ∧ q.1.cls ≠ "java/lang/invoke/VarHandle") ∧ Cond.instantiable q.1.cls q.2 ∈ tables_1 ∧ Cond.privateMethod q.1 ∈ tables_1 ∧ Cond.instanceMethod q.1 ∈ tables_1
theorem lw_p0 : lw_okq (⟨"BigPolys$Whole", "trim", "()V"⟩, 3) := ⟨⟨by decide +kernel, by decide +kernel⟩, List.mem_of_getElem? (i := 28) (by decide +kernel), List.mem_of_getElem? (i := 205) (by decide +kernel), List.mem_of_getElem? (i := 206) (by decide +kernel)⟩
theorem lw_p1 : lw_okq (⟨"BigPolys$Whole", "join", "(LBigPolys$Whole;)V"⟩, 3) := ⟨⟨by decide +kernel, by decide +kernel⟩, List.mem_of_getElem? (i := 28) (by decide +kernel), List.mem_of_getElem? (i := 215) (by decide +kernel), List.mem_of_getElem? (i := 216) (by decide +kernel)⟩
theorem lw_p2 : lw_okq (⟨"BigPolys$Whole", "compareAbs", "(LBigPolys$Whole;)I"⟩, 3) := ⟨⟨by decide +kernel, by decide +kernel⟩, List.mem_of_getElem? (i := 28) (by decide +kernel), List.mem_of_getElem? (i := 223) (by decide +kernel), List.mem_of_getElem? (i := 224) (by decide +kernel)⟩
theorem lw_p3 : lw_okq (⟨"BigPolys$Whole", "differ", "(LBigPolys$Whole;LBigPolys$Whole;)V"⟩, 3) := ⟨⟨by decide +kernel, by decide +kernel⟩, List.mem_of_getElem? (i := 28) (by decide +kernel), List.mem_of_getElem? (i := 227) (by decide +kernel), List.mem_of_getElem? (i := 228) (by decide +kernel)⟩
theorem lw_p4 : lw_okq (⟨"BigPolys", "deliver", "(ILBigPolys$Poly;)I"⟩, 7) := ⟨⟨by decide +kernel, by decide +kernel⟩, List.mem_of_getElem? (i := 12) (by decide +kernel), List.mem_of_getElem? (i := 232) (by decide +kernel), List.mem_of_getElem? (i := 233) (by decide +kernel)⟩
theorem lw_p5 : lw_okq (⟨"BigPolys$Whole", "window", "(II)J"⟩, 3) := ⟨⟨by decide +kernel, by decide +kernel⟩, List.mem_of_getElem? (i := 28) (by decide +kernel), List.mem_of_getElem? (i := 329) (by decide +kernel), List.mem_of_getElem? (i := 330) (by decide +kernel)⟩
theorem lw_p6 : lw_okq (⟨"BigPolys$Whole", "takesTooMuch", "(LBigPolys$Whole;JI)Z"⟩, 3) := ⟨⟨by decide +kernel, by decide +kernel⟩, List.mem_of_getElem? (i := 28) (by decide +kernel), List.mem_of_getElem? (i := 339) (by decide +kernel), List.mem_of_getElem? (i := 340) (by decide +kernel)⟩
theorem lw_p7 : lw_okq (⟨"BigPolys$Whole", "giveBack", "(LBigPolys$Whole;I)V"⟩, 3) := ⟨⟨by decide +kernel, by decide +kernel⟩, List.mem_of_getElem? (i := 28) (by decide +kernel), List.mem_of_getElem? (i := 343) (by decide +kernel), List.mem_of_getElem? (i := 344) (by decide +kernel)⟩
theorem lw_p8 : lw_okq (⟨"BigPolys$Bench", "meet", "()V"⟩, 6) := ⟨⟨by decide +kernel, by decide +kernel⟩, List.mem_of_getElem? (i := 71) (by decide +kernel), List.mem_of_getElem? (i := 364) (by decide +kernel), List.mem_of_getElem? (i := 365) (by decide +kernel)⟩
theorem lw_p9 : lw_okq (⟨"BigPolys$Chain", "build", "()V"⟩, 7) := ⟨⟨by decide +kernel, by decide +kernel⟩, List.mem_of_getElem? (i := 65) (by decide +kernel), List.mem_of_getElem? (i := 373) (by decide +kernel), List.mem_of_getElem? (i := 374) (by decide +kernel)⟩
theorem lw_p10 : lw_okq (⟨"BigPolys$Chain", "raise", "(LBigPolys$Whole;I)V"⟩, 7) := ⟨⟨by decide +kernel, by decide +kernel⟩, List.mem_of_getElem? (i := 65) (by decide +kernel), List.mem_of_getElem? (i := 384) (by decide +kernel), List.mem_of_getElem? (i := 385) (by decide +kernel)⟩
theorem lw_p11 : lw_okq (⟨"BigPolys$Chain", "follow", "(LBigPolys$Poly;I)V"⟩, 7) := ⟨⟨by decide +kernel, by decide +kernel⟩, List.mem_of_getElem? (i := 65) (by decide +kernel), List.mem_of_getElem? (i := 391) (by decide +kernel), List.mem_of_getElem? (i := 392) (by decide +kernel)⟩
theorem lw_p12 : lw_okq (⟨"BigPolys$Chain", "divisorAtEnd", "()LBigPolys$Poly;"⟩, 7) := ⟨⟨by decide +kernel, by decide +kernel⟩, List.mem_of_getElem? (i := 65) (by decide +kernel), List.mem_of_getElem? (i := 397) (by decide +kernel), List.mem_of_getElem? (i := 398) (by decide +kernel)⟩
theorem lw_p13 : lw_okq (⟨"BigPolys$Chain", "begin", "(LBigPolys$Poly;)V"⟩, 7) := ⟨⟨by decide +kernel, by decide +kernel⟩, List.mem_of_getElem? (i := 65) (by decide +kernel), List.mem_of_getElem? (i := 419) (by decide +kernel), List.mem_of_getElem? (i := 420) (by decide +kernel)⟩
theorem lw_p14 : lw_okq (⟨"BigPolys$Chain", "rootsBelow", "(JI)I"⟩, 7) := ⟨⟨by decide +kernel, by decide +kernel⟩, List.mem_of_getElem? (i := 65) (by decide +kernel), List.mem_of_getElem? (i := 473) (by decide +kernel), List.mem_of_getElem? (i := 474) (by decide +kernel)⟩
theorem lw_p15 : lw_okq (⟨"BigPolysModel", "zero", "(I)V"⟩, 10) := ⟨⟨by decide +kernel, by decide +kernel⟩, List.mem_of_getElem? (i := 507) (by decide +kernel), List.mem_of_getElem? (i := 559) (by decide +kernel), List.mem_of_getElem? (i := 560) (by decide +kernel)⟩
def lw_privs_1 : List (MethodName × Nat) := [(⟨"BigPolys$Whole", "trim", "()V"⟩, 3), (⟨"BigPolys$Whole", "join", "(LBigPolys$Whole;)V"⟩, 3), (⟨"BigPolys$Whole", "compareAbs", "(LBigPolys$Whole;)I"⟩, 3), (⟨"BigPolys$Whole", "differ", "(LBigPolys$Whole;LBigPolys$Whole;)V"⟩, 3), (⟨"BigPolys", "deliver", "(ILBigPolys$Poly;)I"⟩, 7), (⟨"BigPolys$Whole", "window", "(II)J"⟩, 3), (⟨"BigPolys$Whole", "takesTooMuch", "(LBigPolys$Whole;JI)Z"⟩, 3), (⟨"BigPolys$Whole", "giveBack", "(LBigPolys$Whole;I)V"⟩, 3), (⟨"BigPolys$Bench", "meet", "()V"⟩, 6), (⟨"BigPolys$Chain", "build", "()V"⟩, 7), (⟨"BigPolys$Chain", "raise", "(LBigPolys$Whole;I)V"⟩, 7), (⟨"BigPolys$Chain", "follow", "(LBigPolys$Poly;I)V"⟩, 7), (⟨"BigPolys$Chain", "divisorAtEnd", "()LBigPolys$Poly;"⟩, 7), (⟨"BigPolys$Chain", "begin", "(LBigPolys$Poly;)V"⟩, 7), (⟨"BigPolys$Chain", "rootsBelow", "(JI)I"⟩, 7), (⟨"BigPolysModel", "zero", "(I)V"⟩, 10)]
theorem lw_r1 : ∀ q ∈ lw_privs_1, lw_okq q := List.forall_mem_cons.mpr ⟨lw_p0, List.forall_mem_cons.mpr ⟨lw_p1, List.forall_mem_cons.mpr ⟨lw_p2, List.forall_mem_cons.mpr ⟨lw_p3, List.forall_mem_cons.mpr ⟨lw_p4, List.forall_mem_cons.mpr ⟨lw_p5, List.forall_mem_cons.mpr ⟨lw_p6, List.forall_mem_cons.mpr ⟨lw_p7, List.forall_mem_cons.mpr ⟨lw_p8, List.forall_mem_cons.mpr ⟨lw_p9, List.forall_mem_cons.mpr ⟨lw_p10, List.forall_mem_cons.mpr ⟨lw_p11, List.forall_mem_cons.mpr ⟨lw_p12, List.forall_mem_cons.mpr ⟨lw_p13, List.forall_mem_cons.mpr ⟨lw_p14, List.forall_mem_cons.mpr ⟨lw_p15, fun _ h => absurd h List.not_mem_nil⟩⟩⟩⟩⟩⟩⟩⟩⟩⟩⟩⟩⟩⟩⟩⟩
theorem lw_p16 : lw_okq (⟨"BigPolysModel", "measure", "(I)V"⟩, 10) := ⟨⟨by decide +kernel, by decide +kernel⟩, List.mem_of_getElem? (i := 507) (by decide +kernel), List.mem_of_getElem? (i := 563) (by decide +kernel), List.mem_of_getElem? (i := 564) (by decide +kernel)⟩
theorem lw_p17 : lw_okq (⟨"BigPolysModel", "shiftUp", "(II)V"⟩, 10) := ⟨⟨by decide +kernel, by decide +kernel⟩, List.mem_of_getElem? (i := 507) (by decide +kernel), List.mem_of_getElem? (i := 571) (by decide +kernel), List.mem_of_getElem? (i := 572) (by decide +kernel)⟩
theorem lw_p18 : lw_okq (⟨"BigPolysModel", "trim", "(I)V"⟩, 10) := ⟨⟨by decide +kernel, by decide +kernel⟩, List.mem_of_getElem? (i := 507) (by decide +kernel), List.mem_of_getElem? (i := 576) (by decide +kernel), List.mem_of_getElem? (i := 577) (by decide +kernel)⟩
theorem lw_p19 : lw_okq (⟨"BigPolysModel", "put", "(IJ)V"⟩, 10) := ⟨⟨by decide +kernel, by decide +kernel⟩, List.mem_of_getElem? (i := 507) (by decide +kernel), List.mem_of_getElem? (i := 580) (by decide +kernel), List.mem_of_getElem? (i := 581) (by decide +kernel)⟩
theorem lw_p20 : lw_okq (⟨"BigPolysModel", "sum", "(IIII)V"⟩, 10) := ⟨⟨by decide +kernel, by decide +kernel⟩, List.mem_of_getElem? (i := 507) (by decide +kernel), List.mem_of_getElem? (i := 584) (by decide +kernel), List.mem_of_getElem? (i := 585) (by decide +kernel)⟩
theorem lw_p21 : lw_okq (⟨"BigPolysModel", "copy", "(II)V"⟩, 10) := ⟨⟨by decide +kernel, by decide +kernel⟩, List.mem_of_getElem? (i := 507) (by decide +kernel), List.mem_of_getElem? (i := 588) (by decide +kernel), List.mem_of_getElem? (i := 589) (by decide +kernel)⟩
theorem lw_p22 : lw_okq (⟨"BigPolysModel", "compareSizes", "(II)I"⟩, 10) := ⟨⟨by decide +kernel, by decide +kernel⟩, List.mem_of_getElem? (i := 507) (by decide +kernel), List.mem_of_getElem? (i := 592) (by decide +kernel), List.mem_of_getElem? (i := 593) (by decide +kernel)⟩
theorem lw_p23 : lw_okq (⟨"BigPolysModel", "result", "(II)I"⟩, 10) := ⟨⟨by decide +kernel, by decide +kernel⟩, List.mem_of_getElem? (i := 507) (by decide +kernel), List.mem_of_getElem? (i := 600) (by decide +kernel), List.mem_of_getElem? (i := 601) (by decide +kernel)⟩
theorem lw_p24 : lw_okq (⟨"BigPolysModel", "bitsOf", "(I)I"⟩, 10) := ⟨⟨by decide +kernel, by decide +kernel⟩, List.mem_of_getElem? (i := 507) (by decide +kernel), List.mem_of_getElem? (i := 604) (by decide +kernel), List.mem_of_getElem? (i := 605) (by decide +kernel)⟩
theorem lw_p25 : lw_okq (⟨"BigPolysModel", "copyAll", "(II)V"⟩, 10) := ⟨⟨by decide +kernel, by decide +kernel⟩, List.mem_of_getElem? (i := 507) (by decide +kernel), List.mem_of_getElem? (i := 608) (by decide +kernel), List.mem_of_getElem? (i := 609) (by decide +kernel)⟩
theorem lw_p26 : lw_okq (⟨"BigPolysModel", "clear", "(I)V"⟩, 10) := ⟨⟨by decide +kernel, by decide +kernel⟩, List.mem_of_getElem? (i := 507) (by decide +kernel), List.mem_of_getElem? (i := 616) (by decide +kernel), List.mem_of_getElem? (i := 617) (by decide +kernel)⟩
theorem lw_p27 : lw_okq (⟨"BigPolysModel", "times", "(III)V"⟩, 10) := ⟨⟨by decide +kernel, by decide +kernel⟩, List.mem_of_getElem? (i := 507) (by decide +kernel), List.mem_of_getElem? (i := 620) (by decide +kernel), List.mem_of_getElem? (i := 621) (by decide +kernel)⟩
theorem lw_p28 : lw_okq (⟨"BigPolysModel", "deriveTo", "(II)V"⟩, 10) := ⟨⟨by decide +kernel, by decide +kernel⟩, List.mem_of_getElem? (i := 507) (by decide +kernel), List.mem_of_getElem? (i := 628) (by decide +kernel), List.mem_of_getElem? (i := 629) (by decide +kernel)⟩
theorem lw_p29 : lw_okq (⟨"BigPolysModel", "remain", "(Z)V"⟩, 10) := ⟨⟨by decide +kernel, by decide +kernel⟩, List.mem_of_getElem? (i := 507) (by decide +kernel), List.mem_of_getElem? (i := 640) (by decide +kernel), List.mem_of_getElem? (i := 641) (by decide +kernel)⟩
theorem lw_p30 : lw_okq (⟨"BigPolysModel", "over", "()Z"⟩, 10) := ⟨⟨by decide +kernel, by decide +kernel⟩, List.mem_of_getElem? (i := 507) (by decide +kernel), List.mem_of_getElem? (i := 648) (by decide +kernel), List.mem_of_getElem? (i := 649) (by decide +kernel)⟩
theorem lw_p31 : lw_okq (⟨"BigPolysModel", "divide", "(III)V"⟩, 10) := ⟨⟨by decide +kernel, by decide +kernel⟩, List.mem_of_getElem? (i := 507) (by decide +kernel), List.mem_of_getElem? (i := 652) (by decide +kernel), List.mem_of_getElem? (i := 653) (by decide +kernel)⟩
def lw_privs_2 : List (MethodName × Nat) := [(⟨"BigPolysModel", "measure", "(I)V"⟩, 10), (⟨"BigPolysModel", "shiftUp", "(II)V"⟩, 10), (⟨"BigPolysModel", "trim", "(I)V"⟩, 10), (⟨"BigPolysModel", "put", "(IJ)V"⟩, 10), (⟨"BigPolysModel", "sum", "(IIII)V"⟩, 10), (⟨"BigPolysModel", "copy", "(II)V"⟩, 10), (⟨"BigPolysModel", "compareSizes", "(II)I"⟩, 10), (⟨"BigPolysModel", "result", "(II)I"⟩, 10), (⟨"BigPolysModel", "bitsOf", "(I)I"⟩, 10), (⟨"BigPolysModel", "copyAll", "(II)V"⟩, 10), (⟨"BigPolysModel", "clear", "(I)V"⟩, 10), (⟨"BigPolysModel", "times", "(III)V"⟩, 10), (⟨"BigPolysModel", "deriveTo", "(II)V"⟩, 10), (⟨"BigPolysModel", "remain", "(Z)V"⟩, 10), (⟨"BigPolysModel", "over", "()Z"⟩, 10), (⟨"BigPolysModel", "divide", "(III)V"⟩, 10)]
theorem lw_r2 : ∀ q ∈ lw_privs_2, lw_okq q := List.forall_mem_cons.mpr ⟨lw_p16, List.forall_mem_cons.mpr ⟨lw_p17, List.forall_mem_cons.mpr ⟨lw_p18, List.forall_mem_cons.mpr ⟨lw_p19, List.forall_mem_cons.mpr ⟨lw_p20, List.forall_mem_cons.mpr ⟨lw_p21, List.forall_mem_cons.mpr ⟨lw_p22, List.forall_mem_cons.mpr ⟨lw_p23, List.forall_mem_cons.mpr ⟨lw_p24, List.forall_mem_cons.mpr ⟨lw_p25, List.forall_mem_cons.mpr ⟨lw_p26, List.forall_mem_cons.mpr ⟨lw_p27, List.forall_mem_cons.mpr ⟨lw_p28, List.forall_mem_cons.mpr ⟨lw_p29, List.forall_mem_cons.mpr ⟨lw_p30, List.forall_mem_cons.mpr ⟨lw_p31, fun _ h => absurd h List.not_mem_nil⟩⟩⟩⟩⟩⟩⟩⟩⟩⟩⟩⟩⟩⟩⟩⟩
theorem lw_p32 : lw_okq (⟨"BigPolysModel", "halve", "(I)V"⟩, 10) := ⟨⟨by decide +kernel, by decide +kernel⟩, List.mem_of_getElem? (i := 507) (by decide +kernel), List.mem_of_getElem? (i := 656) (by decide +kernel), List.mem_of_getElem? (i := 657) (by decide +kernel)⟩
theorem lw_p33 : lw_okq (⟨"BigPolysModel", "divisor", "()V"⟩, 10) := ⟨⟨by decide +kernel, by decide +kernel⟩, List.mem_of_getElem? (i := 507) (by decide +kernel), List.mem_of_getElem? (i := 664) (by decide +kernel), List.mem_of_getElem? (i := 665) (by decide +kernel)⟩
theorem lw_p34 : lw_okq (⟨"BigPolysModel", "makePrimitive", "(IZ)V"⟩, 10) := ⟨⟨by decide +kernel, by decide +kernel⟩, List.mem_of_getElem? (i := 507) (by decide +kernel), List.mem_of_getElem? (i := 668) (by decide +kernel), List.mem_of_getElem? (i := 669) (by decide +kernel)⟩
theorem lw_p35 : lw_okq (⟨"BigPolysModel", "common", "(II)V"⟩, 10) := ⟨⟨by decide +kernel, by decide +kernel⟩, List.mem_of_getElem? (i := 507) (by decide +kernel), List.mem_of_getElem? (i := 672) (by decide +kernel), List.mem_of_getElem? (i := 673) (by decide +kernel)⟩
theorem lw_p36 : lw_okq (⟨"BigPolysModel", "onceOf", "(I)V"⟩, 10) := ⟨⟨by decide +kernel, by decide +kernel⟩, List.mem_of_getElem? (i := 507) (by decide +kernel), List.mem_of_getElem? (i := 680) (by decide +kernel), List.mem_of_getElem? (i := 681) (by decide +kernel)⟩
theorem lw_p37 : lw_okq (⟨"BigPolysModel", "signAt", "(IJJ)I"⟩, 10) := ⟨⟨by decide +kernel, by decide +kernel⟩, List.mem_of_getElem? (i := 507) (by decide +kernel), List.mem_of_getElem? (i := 688) (by decide +kernel), List.mem_of_getElem? (i := 689) (by decide +kernel)⟩
theorem lw_p38 : lw_okq (⟨"BigPolysModel", "makeChain", "(I)V"⟩, 10) := ⟨⟨by decide +kernel, by decide +kernel⟩, List.mem_of_getElem? (i := 507) (by decide +kernel), List.mem_of_getElem? (i := 696) (by decide +kernel), List.mem_of_getElem? (i := 697) (by decide +kernel)⟩
theorem lw_p39 : lw_okq (⟨"BigPolysModel", "changes", "(J)I"⟩, 10) := ⟨⟨by decide +kernel, by decide +kernel⟩, List.mem_of_getElem? (i := 507) (by decide +kernel), List.mem_of_getElem? (i := 700) (by decide +kernel), List.mem_of_getElem? (i := 701) (by decide +kernel)⟩
theorem lw_p40 : lw_okq (⟨"BigPolysModel", "changesFar", "(Z)I"⟩, 10) := ⟨⟨by decide +kernel, by decide +kernel⟩, List.mem_of_getElem? (i := 507) (by decide +kernel), List.mem_of_getElem? (i := 708) (by decide +kernel), List.mem_of_getElem? (i := 709) (by decide +kernel)⟩
theorem lw_p41 : lw_okq (⟨"BigPolysModel", "below", "(J)I"⟩, 10) := ⟨⟨by decide +kernel, by decide +kernel⟩, List.mem_of_getElem? (i := 507) (by decide +kernel), List.mem_of_getElem? (i := 719) (by decide +kernel), List.mem_of_getElem? (i := 720) (by decide +kernel)⟩
def lw_privs_3 : List (MethodName × Nat) := [(⟨"BigPolysModel", "halve", "(I)V"⟩, 10), (⟨"BigPolysModel", "divisor", "()V"⟩, 10), (⟨"BigPolysModel", "makePrimitive", "(IZ)V"⟩, 10), (⟨"BigPolysModel", "common", "(II)V"⟩, 10), (⟨"BigPolysModel", "onceOf", "(I)V"⟩, 10), (⟨"BigPolysModel", "signAt", "(IJJ)I"⟩, 10), (⟨"BigPolysModel", "makeChain", "(I)V"⟩, 10), (⟨"BigPolysModel", "changes", "(J)I"⟩, 10), (⟨"BigPolysModel", "changesFar", "(Z)I"⟩, 10), (⟨"BigPolysModel", "below", "(J)I"⟩, 10)]
theorem lw_r3 : ∀ q ∈ lw_privs_3, lw_okq q := List.forall_mem_cons.mpr ⟨lw_p32, List.forall_mem_cons.mpr ⟨lw_p33, List.forall_mem_cons.mpr ⟨lw_p34, List.forall_mem_cons.mpr ⟨lw_p35, List.forall_mem_cons.mpr ⟨lw_p36, List.forall_mem_cons.mpr ⟨lw_p37, List.forall_mem_cons.mpr ⟨lw_p38, List.forall_mem_cons.mpr ⟨lw_p39, List.forall_mem_cons.mpr ⟨lw_p40, List.forall_mem_cons.mpr ⟨lw_p41, fun _ h => absurd h List.not_mem_nil⟩⟩⟩⟩⟩⟩⟩⟩⟩⟩
def lw_privs : List (MethodName × Nat) := lw_privs_1 ++ (lw_privs_2 ++ (lw_privs_3))
def lw_tbl : List Cond := k2_sels lw_privs ++ tables_1
theorem lw_privs_ok : ∀ q ∈ lw_privs, lw_okq q := by
  show ∀ q ∈ lw_privs_1 ++ (lw_privs_2 ++ (lw_privs_3)), lw_okq q
  exact List.forall_mem_append.mpr ⟨lw_r1, List.forall_mem_append.mpr ⟨lw_r2, lw_r3⟩⟩
-- ===== end of PART A; then your names; then what follows =====
end
section
/-! ===== BEGIN words of one list among another's, by their places ===== -/
/-! ===== END ===== -/

/-! ===== BEGIN printed: names, fields, word lists, decode rows ===== -/
def RX0 : String := "BigPolys$Bench"
def TX0 : u_T := fun k => match k with
  | 0 => ("BigPolys$Bench", "work", "LBigPolys$Poly;", true)
  | 1 => ("BigPolys$Bench", "part", "LBigPolys$Poly;", true)
  | 2 => ("BigPolys$Bench", "one", "LBigPolys$Whole;", true)
  | 3 => ("BigPolys$Bench", "two", "LBigPolys$Whole;", true)
  | 4 => ("BigPolys$Bench", "three", "LBigPolys$Whole;", true)
  | _ => ("BigPolys$Bench", "four", "LBigPolys$Whole;", true)
def tyX0 : Nat → FieldType := fun k => match k with
  | 0 => .object "BigPolys$Poly"
  | 1 => .object "BigPolys$Poly"
  | 2 => .object "BigPolys$Whole"
  | 3 => .object "BigPolys$Whole"
  | 4 => .object "BigPolys$Whole"
  | _ => .object "BigPolys$Whole"
abbrev wsX00 : List Cond := u_ws RX0 TX0 6
theorem nmX0 : ∀ a, a < 6 → ∀ b, b < 6 → a ≠ b → (TX0 a).2.1 ≠ (TX0 b).2.1 := by decide +kernel
theorem tyX0_ok : ∀ k, k < 6 → parseFieldDescriptor (TX0 k).2.2.1 = some (tyX0 k) := by decide +kernel
abbrev cX0_init : ByteArray := prog_2_method_1_code
def yX0_init : MethodName := ⟨RX0, "<init>", "()V"⟩
abbrev cX0_sum : ByteArray := prog_2_method_2_code
def yX0_sum : MethodName := ⟨RX0, "sum", "(LBigPolys$Poly;LBigPolys$Poly;I)V"⟩
abbrev cX0_times : ByteArray := prog_2_method_3_code
def yX0_times : MethodName := ⟨RX0, "times", "(LBigPolys$Poly;LBigPolys$Poly;)V"⟩
abbrev cX0_move : ByteArray := prog_2_method_4_code
def yX0_move : MethodName := ⟨RX0, "move", "(LBigPolys$Poly;I)V"⟩
abbrev cX0_rest : ByteArray := prog_2_method_5_code
def yX0_rest : MethodName := ⟨RX0, "rest", "(LBigPolys$Poly;LBigPolys$Poly;)V"⟩
abbrev cX0_reduce : ByteArray := prog_2_method_6_code
def yX0_reduce : MethodName := ⟨RX0, "reduce", "(LBigPolys$Poly;)V"⟩
abbrev cX0_splits : ByteArray := prog_2_method_7_code
def yX0_splits : MethodName := ⟨RX0, "splits", "(LBigPolys$Poly;LBigPolys$Poly;)Z"⟩
abbrev cX0_signAt : ByteArray := prog_2_method_8_code
def yX0_signAt : MethodName := ⟨RX0, "signAt", "(LBigPolys$Poly;JJ)I"⟩
abbrev cX0_makePrimitive : ByteArray := prog_2_method_9_code
def yX0_makePrimitive : MethodName := ⟨RX0, "makePrimitive", "(LBigPolys$Poly;)V"⟩
abbrev cX0_meet : ByteArray := prog_2_method_10_code
def yX0_meet : MethodName := ⟨RX0, "meet", "()V"⟩
abbrev cX0_divideAll : ByteArray := prog_2_method_11_code
def yX0_divideAll : MethodName := ⟨RX0, "divideAll", "(LBigPolys$Poly;LBigPolys$Whole;)V"⟩
abbrev cX0_makeSmall : ByteArray := prog_2_method_12_code
def yX0_makeSmall : MethodName := ⟨RX0, "makeSmall", "(LBigPolys$Poly;LBigPolys$Poly;LBigPolys$Poly;)V"⟩
def RX1 : String := "BigPolys$Chain"
def TX1 : u_T := fun k => match k with
  | 0 => ("BigPolys$Chain", "bench", "LBigPolys$Bench;", true)
  | 1 => ("BigPolys$Chain", "links", "[LBigPolys$Poly;", true)
  | 2 => ("BigPolys$Chain", "lead", "LBigPolys$Whole;", true)
  | 3 => ("BigPolys$Chain", "height", "LBigPolys$Whole;", true)
  | 4 => ("BigPolys$Chain", "power", "LBigPolys$Whole;", true)
  | 5 => ("BigPolys$Chain", "next", "LBigPolys$Whole;", true)
  | _ => ("BigPolys$Chain", "last", "I", false)
def tyX1 : Nat → FieldType := fun k => match k with
  | 0 => .object "BigPolys$Bench"
  | 1 => .array (.object "BigPolys$Poly")
  | 2 => .object "BigPolys$Whole"
  | 3 => .object "BigPolys$Whole"
  | 4 => .object "BigPolys$Whole"
  | 5 => .object "BigPolys$Whole"
  | _ => .int
abbrev wsX10 : List Cond := u_ws RX1 TX1 7
theorem nmX1 : ∀ a, a < 7 → ∀ b, b < 7 → a ≠ b → (TX1 a).2.1 ≠ (TX1 b).2.1 := by decide +kernel
theorem tyX1_ok : ∀ k, k < 7 → parseFieldDescriptor (TX1 k).2.2.1 = some (tyX1 k) := by decide +kernel
abbrev cX1_init : ByteArray := prog_3_method_1_code
def yX1_init : MethodName := ⟨RX1, "<init>", "()V"⟩
abbrev cX1_commonDivisor : ByteArray := prog_3_method_2_code
def yX1_commonDivisor : MethodName := ⟨RX1, "commonDivisor", "(LBigPolys$Poly;LBigPolys$Poly;)LBigPolys$Poly;"⟩
abbrev cX1_squareFree : ByteArray := prog_3_method_3_code
def yX1_squareFree : MethodName := ⟨RX1, "squareFree", "(LBigPolys$Poly;)LBigPolys$Poly;"⟩
abbrev cX1_prepare : ByteArray := prog_3_method_4_code
def yX1_prepare : MethodName := ⟨RX1, "prepare", "(LBigPolys$Poly;)V"⟩
abbrev cX1_begin : ByteArray := prog_3_method_5_code
def yX1_begin : MethodName := ⟨RX1, "begin", "(LBigPolys$Poly;)V"⟩
abbrev cX1_build : ByteArray := prog_3_method_6_code
def yX1_build : MethodName := ⟨RX1, "build", "()V"⟩
abbrev cX1_raise : ByteArray := prog_3_method_7_code
def yX1_raise : MethodName := ⟨RX1, "raise", "(LBigPolys$Whole;I)V"⟩
abbrev cX1_follow : ByteArray := prog_3_method_8_code
def yX1_follow : MethodName := ⟨RX1, "follow", "(LBigPolys$Poly;I)V"⟩
abbrev cX1_divisorAtEnd : ByteArray := prog_3_method_9_code
def yX1_divisorAtEnd : MethodName := ⟨RX1, "divisorAtEnd", "()LBigPolys$Poly;"⟩
abbrev cX1_changes : ByteArray := prog_3_method_10_code
def yX1_changes : MethodName := ⟨RX1, "changes", "(JZ)I"⟩
abbrev cX1_floorOfRoot : ByteArray := prog_3_method_11_code
def yX1_floorOfRoot : MethodName := ⟨RX1, "floorOfRoot", "(I)J"⟩
abbrev cX1_rootsBelow : ByteArray := prog_3_method_12_code
def yX1_rootsBelow : MethodName := ⟨RX1, "rootsBelow", "(JI)I"⟩
def RX2 : String := "BigPolys$Poly"
def TX2 : u_T := fun k => match k with
  | 0 => ("BigPolys$Poly", "terms", "[LBigPolys$Whole;", true)
  | _ => ("BigPolys$Poly", "degree", "I", false)
def tyX2 : Nat → FieldType := fun k => match k with
  | 0 => .array (.object "BigPolys$Whole")
  | _ => .int
abbrev wsX20 : List Cond := u_ws RX2 TX2 2
theorem nmX2 : ∀ a, a < 2 → ∀ b, b < 2 → a ≠ b → (TX2 a).2.1 ≠ (TX2 b).2.1 := by decide +kernel
theorem tyX2_ok : ∀ k, k < 2 → parseFieldDescriptor (TX2 k).2.2.1 = some (tyX2 k) := by decide +kernel
abbrev cX2_init : ByteArray := prog_4_method_1_code
def yX2_init : MethodName := ⟨RX2, "<init>", "(II)V"⟩
abbrev cX2_clear : ByteArray := prog_4_method_2_code
def yX2_clear : MethodName := ⟨RX2, "clear", "()V"⟩
abbrev cX2_setOne : ByteArray := prog_4_method_3_code
def yX2_setOne : MethodName := ⟨RX2, "setOne", "()V"⟩
abbrev cX2_load : ByteArray := prog_4_method_4_code
def yX2_load : MethodName := ⟨RX2, "load", "(LBigPolys$Poly;)V"⟩
abbrev cX2_slopeOf : ByteArray := prog_4_method_5_code
def yX2_slopeOf : MethodName := ⟨RX2, "slopeOf", "(LBigPolys$Poly;)V"⟩
abbrev cX2_negate : ByteArray := prog_4_method_6_code
def yX2_negate : MethodName := ⟨RX2, "negate", "()V"⟩
abbrev cX2_measure : ByteArray := prog_4_method_7_code
def yX2_measure : MethodName := ⟨RX2, "measure", "()V"⟩
abbrev cX2_leadSign : ByteArray := prog_4_method_8_code
def yX2_leadSign : MethodName := ⟨RX2, "leadSign", "()I"⟩
abbrev cX2_signBeyond : ByteArray := prog_4_method_9_code
def yX2_signBeyond : MethodName := ⟨RX2, "signBeyond", "(J)I"⟩
abbrev cX2_fits : ByteArray := prog_4_method_10_code
def yX2_fits : MethodName := ⟨RX2, "fits", "()Z"⟩
abbrev cX2_isLike : ByteArray := prog_4_method_11_code
def yX2_isLike : MethodName := ⟨RX2, "isLike", "(LBigPolys$Poly;)Z"⟩
def RX3 : String := "BigPolys$Whole"
def TX3 : u_T := fun k => match k with
  | 0 => ("BigPolys$Whole", "digits", "[I", true)
  | 1 => ("BigPolys$Whole", "size", "I", false)
  | _ => ("BigPolys$Whole", "sign", "I", false)
def tyX3 : Nat → FieldType := fun k => match k with
  | 0 => .array .int
  | 1 => .int
  | _ => .int
abbrev wsX30 : List Cond := u_ws RX3 TX3 3
theorem nmX3 : ∀ a, a < 3 → ∀ b, b < 3 → a ≠ b → (TX3 a).2.1 ≠ (TX3 b).2.1 := by decide +kernel
theorem tyX3_ok : ∀ k, k < 3 → parseFieldDescriptor (TX3 k).2.2.1 = some (tyX3 k) := by decide +kernel
abbrev cX3_init : ByteArray := prog_5_method_1_code
def yX3_init : MethodName := ⟨RX3, "<init>", "(I)V"⟩
abbrev cX3_clear : ByteArray := prog_5_method_2_code
def yX3_clear : MethodName := ⟨RX3, "clear", "()V"⟩
abbrev cX3_setOne : ByteArray := prog_5_method_3_code
def yX3_setOne : MethodName := ⟨RX3, "setOne", "()V"⟩
abbrev cX3_put : ByteArray := prog_5_method_4_code
def yX3_put : MethodName := ⟨RX3, "put", "(III)V"⟩
abbrev cX3_load : ByteArray := prog_5_method_5_code
def yX3_load : MethodName := ⟨RX3, "load", "(LBigPolys$Whole;)V"⟩
abbrev cX3_negate : ByteArray := prog_5_method_6_code
def yX3_negate : MethodName := ⟨RX3, "negate", "()V"⟩
abbrev cX3_isUnit : ByteArray := prog_5_method_7_code
def yX3_isUnit : MethodName := ⟨RX3, "isUnit", "()Z"⟩
abbrev cX3_isLike : ByteArray := prog_5_method_8_code
def yX3_isLike : MethodName := ⟨RX3, "isLike", "(LBigPolys$Whole;)Z"⟩
abbrev cX3_plus : ByteArray := prog_5_method_9_code
def yX3_plus : MethodName := ⟨RX3, "plus", "(LBigPolys$Whole;I)V"⟩
abbrev cX3_compareAbs : ByteArray := prog_5_method_10_code
def yX3_compareAbs : MethodName := ⟨RX3, "compareAbs", "(LBigPolys$Whole;)I"⟩
abbrev cX3_join : ByteArray := prog_5_method_11_code
def yX3_join : MethodName := ⟨RX3, "join", "(LBigPolys$Whole;)V"⟩
abbrev cX3_differ : ByteArray := prog_5_method_12_code
def yX3_differ : MethodName := ⟨RX3, "differ", "(LBigPolys$Whole;LBigPolys$Whole;)V"⟩
abbrev cX3_trim : ByteArray := prog_5_method_13_code
def yX3_trim : MethodName := ⟨RX3, "trim", "()V"⟩
abbrev cX3_scale : ByteArray := prog_5_method_14_code
def yX3_scale : MethodName := ⟨RX3, "scale", "(J)V"⟩
abbrev cX3_product : ByteArray := prog_5_method_15_code
def yX3_product : MethodName := ⟨RX3, "product", "(LBigPolys$Whole;LBigPolys$Whole;)V"⟩
abbrev cX3_divide : ByteArray := prog_5_method_16_code
def yX3_divide : MethodName := ⟨RX3, "divide", "(LBigPolys$Whole;LBigPolys$Whole;)V"⟩
abbrev cX3_window : ByteArray := prog_5_method_17_code
def yX3_window : MethodName := ⟨RX3, "window", "(II)J"⟩
abbrev cX3_guess : ByteArray := prog_5_method_18_code
def yX3_guess : MethodName := ⟨RX3, "guess", "(JJJJ)J"⟩
abbrev cX3_takesTooMuch : ByteArray := prog_5_method_19_code
def yX3_takesTooMuch : MethodName := ⟨RX3, "takesTooMuch", "(LBigPolys$Whole;JI)Z"⟩
abbrev cX3_giveBack : ByteArray := prog_5_method_20_code
def yX3_giveBack : MethodName := ⟨RX3, "giveBack", "(LBigPolys$Whole;I)V"⟩
def RX4 : String := "BigPolys"
def TX4 : u_T := fun k => match k with
  | 0 => ("BigPolys", "registers", "[LBigPolys$Poly;", true)
  | 1 => ("BigPolys", "bench", "LBigPolys$Bench;", true)
  | 2 => ("BigPolys", "chain", "LBigPolys$Chain;", true)
  | 3 => ("BigPolys", "handRegister", "I", false)
  | 4 => ("BigPolys", "handPower", "I", false)
  | 5 => ("BigPolys", "handSign", "I", false)
  | _ => ("BigPolys", "handCount", "I", false)
def tyX4 : Nat → FieldType := fun k => match k with
  | 0 => .array (.object "BigPolys$Poly")
  | 1 => .object "BigPolys$Bench"
  | 2 => .object "BigPolys$Chain"
  | 3 => .int
  | 4 => .int
  | 5 => .int
  | _ => .int
abbrev wsX40 : List Cond := u_ws RX4 TX4 7
theorem nmX4 : ∀ a, a < 7 → ∀ b, b < 7 → a ≠ b → (TX4 a).2.1 ≠ (TX4 b).2.1 := by decide +kernel
theorem tyX4_ok : ∀ k, k < 7 → parseFieldDescriptor (TX4 k).2.2.1 = some (tyX4 k) := by decide +kernel
abbrev cX4_init : ByteArray := prog_1_method_1_code
def yX4_init : MethodName := ⟨RX4, "<init>", "()V"⟩
abbrev cX4_coefficient : ByteArray := prog_1_method_2_code
def yX4_coefficient : MethodName := ⟨RX4, "coefficient", "(III)Z"⟩
abbrev cX4_word : ByteArray := prog_1_method_3_code
def yX4_word : MethodName := ⟨RX4, "word", "(I)Z"⟩
abbrev cX4_add : ByteArray := prog_1_method_4_code
def yX4_add : MethodName := ⟨RX4, "add", "(IIIZ)I"⟩
abbrev cX4_multiply : ByteArray := prog_1_method_5_code
def yX4_multiply : MethodName := ⟨RX4, "multiply", "(III)I"⟩
abbrev cX4_derive : ByteArray := prog_1_method_6_code
def yX4_derive : MethodName := ⟨RX4, "derive", "(II)I"⟩
abbrev cX4_shift : ByteArray := prog_1_method_7_code
def yX4_shift : MethodName := ⟨RX4, "shift", "(III)I"⟩
abbrev cX4_remainder : ByteArray := prog_1_method_8_code
def yX4_remainder : MethodName := ⟨RX4, "remainder", "(III)I"⟩
abbrev cX4_quotient : ByteArray := prog_1_method_9_code
def yX4_quotient : MethodName := ⟨RX4, "quotient", "(III)I"⟩
abbrev cX4_gcd : ByteArray := prog_1_method_10_code
def yX4_gcd : MethodName := ⟨RX4, "gcd", "(III)I"⟩
abbrev cX4_once : ByteArray := prog_1_method_11_code
def yX4_once : MethodName := ⟨RX4, "once", "(II)I"⟩
abbrev cX4_sign : ByteArray := prog_1_method_12_code
def yX4_sign : MethodName := ⟨RX4, "sign", "(III)I"⟩
abbrev cX4_roots : ByteArray := prog_1_method_13_code
def yX4_roots : MethodName := ⟨RX4, "roots", "(III)I"⟩
abbrev cX4_allRoots : ByteArray := prog_1_method_14_code
def yX4_allRoots : MethodName := ⟨RX4, "allRoots", "(I)I"⟩
abbrev cX4_place : ByteArray := prog_1_method_15_code
def yX4_place : MethodName := ⟨RX4, "place", "(II)J"⟩
abbrev cX4_degree : ByteArray := prog_1_method_16_code
def yX4_degree : MethodName := ⟨RX4, "degree", "(I)I"⟩
abbrev cX4_signOf : ByteArray := prog_1_method_17_code
def yX4_signOf : MethodName := ⟨RX4, "signOf", "(II)I"⟩
abbrev cX4_words : ByteArray := prog_1_method_18_code
def yX4_words : MethodName := ⟨RX4, "words", "(II)I"⟩
abbrev cX4_wordOf : ByteArray := prog_1_method_19_code
def yX4_wordOf : MethodName := ⟨RX4, "wordOf", "(III)I"⟩
abbrev cX4_same : ByteArray := prog_1_method_20_code
def yX4_same : MethodName := ⟨RX4, "same", "(II)Z"⟩
abbrev cX4_isRegister : ByteArray := prog_1_method_21_code
def yX4_isRegister : MethodName := ⟨RX4, "isRegister", "(I)Z"⟩
abbrev cX4_areRegisters : ByteArray := prog_1_method_22_code
def yX4_areRegisters : MethodName := ⟨RX4, "areRegisters", "(III)Z"⟩
abbrev cX4_isCoefficient : ByteArray := prog_1_method_23_code
def yX4_isCoefficient : MethodName := ⟨RX4, "isCoefficient", "(II)Z"⟩
abbrev cX4_deliver : ByteArray := prog_1_method_24_code
def yX4_deliver : MethodName := ⟨RX4, "deliver", "(ILBigPolys$Poly;)I"⟩
def RX5 : String := "BigPolysModel"
def TX5 : u_T := fun k => match k with
  | 0 => ("BigPolysModel", "limbs", "[J", true)
  | 1 => ("BigPolysModel", "sizes", "[I", true)
  | 2 => ("BigPolysModel", "signs", "[I", true)
  | 3 => ("BigPolysModel", "degrees", "[I", true)
  | 4 => ("BigPolysModel", "handRegister", "I", false)
  | 5 => ("BigPolysModel", "handPower", "I", false)
  | 6 => ("BigPolysModel", "handSign", "I", false)
  | 7 => ("BigPolysModel", "handWords", "I", false)
  | 8 => ("BigPolysModel", "handRow", "[I", true)
  | _ => ("BigPolysModel", "chainSize", "I", false)
def tyX5 : Nat → FieldType := fun k => match k with
  | 0 => .array .long
  | 1 => .array .int
  | 2 => .array .int
  | 3 => .array .int
  | 4 => .int
  | 5 => .int
  | 6 => .int
  | 7 => .int
  | 8 => .array .int
  | _ => .int
abbrev wsX50 : List Cond := u_ws RX5 TX5 10
theorem nmX5 : ∀ a, a < 10 → ∀ b, b < 10 → a ≠ b → (TX5 a).2.1 ≠ (TX5 b).2.1 := by decide +kernel
theorem tyX5_ok : ∀ k, k < 10 → parseFieldDescriptor (TX5 k).2.2.1 = some (tyX5 k) := by decide +kernel
abbrev cX5_init : ByteArray := prog_7_method_1_code
def yX5_init : MethodName := ⟨RX5, "<init>", "()V"⟩
abbrev cX5_zero : ByteArray := prog_7_method_3_code
def yX5_zero : MethodName := ⟨RX5, "zero", "(I)V"⟩
abbrev cX5_put : ByteArray := prog_7_method_4_code
def yX5_put : MethodName := ⟨RX5, "put", "(IJ)V"⟩
abbrev cX5_copy : ByteArray := prog_7_method_5_code
def yX5_copy : MethodName := ⟨RX5, "copy", "(II)V"⟩
abbrev cX5_trim : ByteArray := prog_7_method_6_code
def yX5_trim : MethodName := ⟨RX5, "trim", "(I)V"⟩
abbrev cX5_compareSizes : ByteArray := prog_7_method_7_code
def yX5_compareSizes : MethodName := ⟨RX5, "compareSizes", "(II)I"⟩
abbrev cX5_sum : ByteArray := prog_7_method_8_code
def yX5_sum : MethodName := ⟨RX5, "sum", "(IIII)V"⟩
abbrev cX5_times : ByteArray := prog_7_method_9_code
def yX5_times : MethodName := ⟨RX5, "times", "(III)V"⟩
abbrev cX5_bitsOf : ByteArray := prog_7_method_10_code
def yX5_bitsOf : MethodName := ⟨RX5, "bitsOf", "(I)I"⟩
abbrev cX5_shiftUp : ByteArray := prog_7_method_11_code
def yX5_shiftUp : MethodName := ⟨RX5, "shiftUp", "(II)V"⟩
abbrev cX5_halve : ByteArray := prog_7_method_12_code
def yX5_halve : MethodName := ⟨RX5, "halve", "(I)V"⟩
abbrev cX5_divide : ByteArray := prog_7_method_13_code
def yX5_divide : MethodName := ⟨RX5, "divide", "(III)V"⟩
abbrev cX5_common : ByteArray := prog_7_method_14_code
def yX5_common : MethodName := ⟨RX5, "common", "(II)V"⟩
abbrev cX5_at : ByteArray := prog_7_method_15_code
def yX5_at : MethodName := ⟨RX5, "at", "(II)I"⟩
abbrev cX5_measure : ByteArray := prog_7_method_16_code
def yX5_measure : MethodName := ⟨RX5, "measure", "(I)V"⟩
abbrev cX5_clear : ByteArray := prog_7_method_17_code
def yX5_clear : MethodName := ⟨RX5, "clear", "(I)V"⟩
abbrev cX5_copyAll : ByteArray := prog_7_method_18_code
def yX5_copyAll : MethodName := ⟨RX5, "copyAll", "(II)V"⟩
abbrev cX5_makePrimitive : ByteArray := prog_7_method_19_code
def yX5_makePrimitive : MethodName := ⟨RX5, "makePrimitive", "(IZ)V"⟩
abbrev cX5_remain : ByteArray := prog_7_method_20_code
def yX5_remain : MethodName := ⟨RX5, "remain", "(Z)V"⟩
abbrev cX5_divisor : ByteArray := prog_7_method_21_code
def yX5_divisor : MethodName := ⟨RX5, "divisor", "()V"⟩
abbrev cX5_over : ByteArray := prog_7_method_22_code
def yX5_over : MethodName := ⟨RX5, "over", "()Z"⟩
abbrev cX5_deriveTo : ByteArray := prog_7_method_23_code
def yX5_deriveTo : MethodName := ⟨RX5, "deriveTo", "(II)V"⟩
abbrev cX5_onceOf : ByteArray := prog_7_method_24_code
def yX5_onceOf : MethodName := ⟨RX5, "onceOf", "(I)V"⟩
abbrev cX5_isRegister : ByteArray := prog_7_method_25_code
def yX5_isRegister : MethodName := ⟨RX5, "isRegister", "(I)Z"⟩
abbrev cX5_isPower : ByteArray := prog_7_method_26_code
def yX5_isPower : MethodName := ⟨RX5, "isPower", "(I)Z"⟩
abbrev cX5_result : ByteArray := prog_7_method_27_code
def yX5_result : MethodName := ⟨RX5, "result", "(II)I"⟩
abbrev cX5_coefficient : ByteArray := prog_7_method_28_code
def yX5_coefficient : MethodName := ⟨RX5, "coefficient", "(III)Z"⟩
abbrev cX5_word : ByteArray := prog_7_method_29_code
def yX5_word : MethodName := ⟨RX5, "word", "(I)Z"⟩
abbrev cX5_add : ByteArray := prog_7_method_30_code
def yX5_add : MethodName := ⟨RX5, "add", "(IIIZ)I"⟩
abbrev cX5_multiply : ByteArray := prog_7_method_31_code
def yX5_multiply : MethodName := ⟨RX5, "multiply", "(III)I"⟩
abbrev cX5_derive : ByteArray := prog_7_method_32_code
def yX5_derive : MethodName := ⟨RX5, "derive", "(II)I"⟩
abbrev cX5_shift : ByteArray := prog_7_method_33_code
def yX5_shift : MethodName := ⟨RX5, "shift", "(III)I"⟩
abbrev cX5_remainder : ByteArray := prog_7_method_34_code
def yX5_remainder : MethodName := ⟨RX5, "remainder", "(III)I"⟩
abbrev cX5_quotient : ByteArray := prog_7_method_35_code
def yX5_quotient : MethodName := ⟨RX5, "quotient", "(III)I"⟩
abbrev cX5_gcd : ByteArray := prog_7_method_36_code
def yX5_gcd : MethodName := ⟨RX5, "gcd", "(III)I"⟩
abbrev cX5_once : ByteArray := prog_7_method_37_code
def yX5_once : MethodName := ⟨RX5, "once", "(II)I"⟩
abbrev cX5_signAt : ByteArray := prog_7_method_38_code
def yX5_signAt : MethodName := ⟨RX5, "signAt", "(IJJ)I"⟩
abbrev cX5_sign : ByteArray := prog_7_method_39_code
def yX5_sign : MethodName := ⟨RX5, "sign", "(III)I"⟩
abbrev cX5_makeChain : ByteArray := prog_7_method_40_code
def yX5_makeChain : MethodName := ⟨RX5, "makeChain", "(I)V"⟩
abbrev cX5_changes : ByteArray := prog_7_method_41_code
def yX5_changes : MethodName := ⟨RX5, "changes", "(J)I"⟩
abbrev cX5_changesFar : ByteArray := prog_7_method_42_code
def yX5_changesFar : MethodName := ⟨RX5, "changesFar", "(Z)I"⟩
abbrev cX5_roots : ByteArray := prog_7_method_43_code
def yX5_roots : MethodName := ⟨RX5, "roots", "(III)I"⟩
abbrev cX5_allRoots : ByteArray := prog_7_method_44_code
def yX5_allRoots : MethodName := ⟨RX5, "allRoots", "(I)I"⟩
abbrev cX5_below : ByteArray := prog_7_method_45_code
def yX5_below : MethodName := ⟨RX5, "below", "(J)I"⟩
abbrev cX5_place : ByteArray := prog_7_method_46_code
def yX5_place : MethodName := ⟨RX5, "place", "(II)J"⟩
abbrev cX5_degree : ByteArray := prog_7_method_47_code
def yX5_degree : MethodName := ⟨RX5, "degree", "(I)I"⟩
abbrev cX5_signOf : ByteArray := prog_7_method_48_code
def yX5_signOf : MethodName := ⟨RX5, "signOf", "(II)I"⟩
abbrev cX5_words : ByteArray := prog_7_method_49_code
def yX5_words : MethodName := ⟨RX5, "words", "(II)I"⟩
abbrev cX5_wordOf : ByteArray := prog_7_method_50_code
def yX5_wordOf : MethodName := ⟨RX5, "wordOf", "(III)I"⟩
abbrev cX5_same : ByteArray := prog_7_method_51_code
def yX5_same : MethodName := ⟨RX5, "same", "(II)Z"⟩
def RJ6 : String := "java/lang/Integer"
def TJ6 : u_T := fun k => match k with
  | _ => ("", "", "", false)
def tyJ6 : Nat → FieldType := fun k => match k with
  | _ => .int
abbrev wsJ60 : List Cond := u_ws RJ6 TJ6 0
theorem nmJ6 : ∀ a, a < 0 → ∀ b, b < 0 → a ≠ b → (TJ6 a).2.1 ≠ (TJ6 b).2.1 := by decide +kernel
theorem tyJ6_ok : ∀ k, k < 0 → parseFieldDescriptor (TJ6 k).2.2.1 = some (tyJ6 k) := by decide +kernel
abbrev cJ6_numberOfLeadingZeros_0f7a4 : ByteArray := prog_8_method_47_code
def yJ6_numberOfLeadingZeros_0f7a4 : MethodName := ⟨RJ6, "numberOfLeadingZeros", "(I)I"⟩
def RJ9 : String := "java/lang/Math"
def TJ9 : u_T := fun k => match k with
  | _ => ("", "", "", false)
def tyJ9 : Nat → FieldType := fun k => match k with
  | _ => .int
abbrev wsJ90 : List Cond := u_ws RJ9 TJ9 0
theorem nmJ9 : ∀ a, a < 0 → ∀ b, b < 0 → a ≠ b → (TJ9 a).2.1 ≠ (TJ9 b).2.1 := by decide +kernel
theorem tyJ9_ok : ∀ k, k < 0 → parseFieldDescriptor (TJ9 k).2.2.1 = some (tyJ9 k) := by decide +kernel
abbrev cJ9_abs_067f4 : ByteArray := prog_9_method_61_code
def yJ9_abs_067f4 : MethodName := ⟨RJ9, "abs", "(J)J"⟩
abbrev cJ9_max_7cf53 : ByteArray := prog_9_method_65_code
def yJ9_max_7cf53 : MethodName := ⟨RJ9, "max", "(II)I"⟩
abbrev cJ9_min_7cf53 : ByteArray := prog_9_method_69_code
def yJ9_min_7cf53 : MethodName := ⟨RJ9, "min", "(II)I"⟩
abbrev cJ9_min_f86c9 : ByteArray := prog_9_method_70_code
def yJ9_min_f86c9 : MethodName := ⟨RJ9, "min", "(JJ)J"⟩
def RJ10 : String := "java/lang/System"
def TJ10 : u_T := fun k => match k with
  | _ => ("", "", "", false)
def tyJ10 : Nat → FieldType := fun k => match k with
  | _ => .int
abbrev wsJ100 : List Cond := u_ws RJ10 TJ10 0
theorem nmJ10 : ∀ a, a < 0 → ∀ b, b < 0 → a ≠ b → (TJ10 a).2.1 ≠ (TJ10 b).2.1 := by decide +kernel
theorem tyJ10_ok : ∀ k, k < 0 → parseFieldDescriptor (TJ10 k).2.2.1 = some (tyJ10 k) := by decide +kernel
def RJ7 : String := "java/util/Arrays"
def TJ7 : u_T := fun k => match k with
  | _ => ("", "", "", false)
def tyJ7 : Nat → FieldType := fun k => match k with
  | _ => .int
abbrev wsJ70 : List Cond := u_ws RJ7 TJ7 0
theorem nmJ7 : ∀ a, a < 0 → ∀ b, b < 0 → a ≠ b → (TJ7 a).2.1 ≠ (TJ7 b).2.1 := by decide +kernel
theorem tyJ7_ok : ∀ k, k < 0 → parseFieldDescriptor (TJ7 k).2.2.1 = some (tyJ7 k) := by decide +kernel
abbrev cJ7_rangeCheck_23922 : ByteArray := prog_11_method_30_code
def yJ7_rangeCheck_23922 : MethodName := ⟨RJ7, "rangeCheck", "(III)V"⟩
abbrev cJ7_fill_fda19 : ByteArray := prog_11_method_104_code
def yJ7_fill_fda19 : MethodName := ⟨RJ7, "fill", "([IIII)V"⟩
def RL : String := "BigPolysLaw"
abbrev cL_law : ByteArray := code
def yL_law : MethodName := ⟨RL, "law", "([I)Z"⟩
abbrev vwCl : List vw_C := [(RX0, TX0, 6), (RX1, TX1, 7), (RX2, TX2, 2), (RX3, TX3, 3), (RX4, TX4, 7), (RX5, TX5, 10)]
end
section
/-! ONE list of words for all methods: what the tables hold and a callee may rest on -/
def wsA : List Cond := lw_tbl.filter goodWord
theorem wsA_good : ∀ w ∈ wsA, (w.onTables && w.keeps) = true ∨ ∃ ty, w = .arrayClass ty := fun w h => good_of_word (List.mem_filter.mp h).2
theorem wsA_in : ∀ w ∈ wsA, w ∈ lw_tbl := fun w h => (List.mem_filter.mp h).1
theorem wsA_t1 {w : Cond} (h : w ∈ tables_1_1) (g : goodWord w = true) : w ∈ wsA := List.mem_filter.mpr ⟨List.mem_append_right _ (List.mem_append_left _ h), g⟩
theorem wsA_t2 {w : Cond} (h : w ∈ tables_1_2) (g : goodWord w = true) : w ∈ wsA := List.mem_filter.mpr ⟨List.mem_append_right _ (List.mem_append_right _ (List.mem_append_left _ h)), g⟩
theorem wsA_t3 {w : Cond} (h : w ∈ tables_1_3) (g : goodWord w = true) : w ∈ wsA := List.mem_filter.mpr ⟨List.mem_append_right _ (List.mem_append_right _ (List.mem_append_right _ (List.mem_append_left _ h))), g⟩
theorem wsA_t4 {w : Cond} (h : w ∈ tables_1_4) (g : goodWord w = true) : w ∈ wsA := List.mem_filter.mpr ⟨List.mem_append_right _ (List.mem_append_right _ (List.mem_append_right _ (List.mem_append_right _ (h)))), g⟩
theorem wsA_s {w : Cond} (h : w ∈ k2_sels lw_privs) (g : goodWord w = true) : w ∈ wsA := List.mem_filter.mpr ⟨List.mem_append_left _ h, g⟩
theorem mw_0 : Cond.classLink RL 7 RX4 ∈ wsA := wsA_t1 (List.mem_of_getElem? (i := 11) rfl) rfl
theorem mw_1 : Cond.instantiable RX4 7 ∈ wsA := wsA_t1 (List.mem_of_getElem? (i := 12) rfl) rfl
theorem mw_2 : Cond.initialized RX4 ∈ wsA := wsA_t1 (List.mem_of_getElem? (i := 1) rfl) rfl
theorem mw_3 : Cond.classLink RL 10 RX5 ∈ wsA := wsA_t3 (List.mem_of_getElem? (i := 26) rfl) rfl
theorem mw_4 : Cond.instantiable RX5 10 ∈ wsA := wsA_t3 (List.mem_of_getElem? (i := 27) rfl) rfl
theorem mw_5 : Cond.initialized RX5 ∈ wsA := wsA_t1 (List.mem_of_getElem? (i := 7) rfl) rfl
theorem mw_6 : Cond.methodLink RL 9 yX4_init ∈ wsA := wsA_t1 (List.mem_of_getElem? (i := 13) rfl) rfl
theorem mw_7 : Cond.instanceMethod yX4_init ∈ wsA := wsA_t1 (List.mem_of_getElem? (i := 14) rfl) rfl
theorem mw_8 : Cond.code yX4_init cX4_init 2 none ∈ wsA := wsA_t1 (List.mem_of_getElem? (i := 15) rfl) rfl
theorem mw_9 : Cond.methodLink RX4 1 objectInit ∈ wsA := wsA_t1 (List.mem_of_getElem? (i := 16) rfl) rfl
theorem mw_10 : Cond.instanceMethod objectInit ∈ wsA := wsA_t1 (List.mem_of_getElem? (i := 17) rfl) rfl
theorem mw_11 : Cond.code objectInit ⟨#[0xb1]⟩ 1 none ∈ wsA := wsA_t1 (List.mem_of_getElem? (i := 18) rfl) rfl
theorem mw_12 : Cond.classLink RX4 9 RX2 ∈ wsA := wsA_t1 (List.mem_of_getElem? (i := 19) rfl) rfl
theorem mw_13 : Cond.fieldLink RX4 11 "BigPolys" "registers" "[LBigPolys$Poly;" ∈ wsA := wsA_t1 (List.mem_of_getElem? (i := 133) rfl) rfl
theorem mw_14 : Cond.instantiable RX2 2 ∈ wsA := wsA_t1 (List.mem_of_getElem? (i := 21) rfl) rfl
theorem mw_15 : Cond.initialized RX2 ∈ wsA := wsA_t1 (List.mem_of_getElem? (i := 2) rfl) rfl
theorem mw_16 : Cond.classLink RX4 18 RX1 ∈ wsA := wsA_t1 (List.mem_of_getElem? (i := 64) rfl) rfl
theorem mw_17 : Cond.instantiable RX1 7 ∈ wsA := wsA_t1 (List.mem_of_getElem? (i := 65) rfl) rfl
theorem mw_18 : Cond.initialized RX1 ∈ wsA := wsA_t1 (List.mem_of_getElem? (i := 4) rfl) rfl
theorem mw_19 : Cond.fieldLink RX4 21 "BigPolys" "chain" "LBigPolys$Chain;" ∈ wsA := wsA_t1 (List.mem_of_getElem? (i := 135) rfl) rfl
theorem mw_20 : Cond.fieldLink RX4 29 "BigPolys" "bench" "LBigPolys$Bench;" ∈ wsA := wsA_t1 (List.mem_of_getElem? (i := 134) rfl) rfl
theorem mw_21 : Cond.fieldLink RX4 30 "BigPolys" "handRegister" "I" ∈ wsA := wsA_t1 (List.mem_of_getElem? (i := 136) rfl) rfl
theorem mw_22 : Cond.methodLink RX4 15 yX2_init ∈ wsA := wsA_t1 (List.mem_of_getElem? (i := 22) rfl) rfl
theorem mw_23 : Cond.instanceMethod yX2_init ∈ wsA := wsA_t1 (List.mem_of_getElem? (i := 23) rfl) rfl
theorem mw_24 : Cond.code yX2_init cX2_init 4 none ∈ wsA := wsA_t1 (List.mem_of_getElem? (i := 24) rfl) rfl
theorem mw_25 : Cond.methodLink RX2 3 objectInit ∈ wsA := wsA_t1 (List.mem_of_getElem? (i := 25) rfl) rfl
theorem mw_26 : Cond.classLink RX2 9 RX3 ∈ wsA := wsA_t1 (List.mem_of_getElem? (i := 26) rfl) rfl
theorem mw_27 : Cond.fieldLink RX2 11 "BigPolys$Poly" "terms" "[LBigPolys$Whole;" ∈ wsA := wsA_t1 (List.mem_of_getElem? (i := 51) rfl) rfl
theorem mw_28 : Cond.instantiable RX3 3 ∈ wsA := wsA_t1 (List.mem_of_getElem? (i := 28) rfl) rfl
theorem mw_29 : Cond.initialized RX3 ∈ wsA := wsA_t1 (List.mem_of_getElem? (i := 3) rfl) rfl
theorem mw_30 : Cond.fieldLink RX2 20 "BigPolys$Poly" "degree" "I" ∈ wsA := wsA_t1 (List.mem_of_getElem? (i := 55) rfl) rfl
theorem mw_31 : Cond.methodLink RX2 17 yX3_init ∈ wsA := wsA_t1 (List.mem_of_getElem? (i := 29) rfl) rfl
theorem mw_32 : Cond.instanceMethod yX3_init ∈ wsA := wsA_t1 (List.mem_of_getElem? (i := 30) rfl) rfl
theorem mw_33 : Cond.code yX3_init cX3_init 2 none ∈ wsA := wsA_t1 (List.mem_of_getElem? (i := 31) rfl) rfl
theorem mw_34 : Cond.methodLink RX3 3 objectInit ∈ wsA := wsA_t1 (List.mem_of_getElem? (i := 32) rfl) rfl
theorem mw_36 : Cond.fieldLink RX3 9 "BigPolys$Whole" "digits" "[I" ∈ wsA := wsA_t1 (List.mem_of_getElem? (i := 33) rfl) rfl
theorem mw_37 : Cond.methodLink RX4 20 yX1_init ∈ wsA := wsA_t1 (List.mem_of_getElem? (i := 66) rfl) rfl
theorem mw_38 : Cond.instanceMethod yX1_init ∈ wsA := wsA_t1 (List.mem_of_getElem? (i := 67) rfl) rfl
theorem mw_39 : Cond.code yX1_init cX1_init 2 none ∈ wsA := wsA_t1 (List.mem_of_getElem? (i := 68) rfl) rfl
theorem mw_40 : Cond.methodLink RX1 3 objectInit ∈ wsA := wsA_t1 (List.mem_of_getElem? (i := 69) rfl) rfl
theorem mw_41 : Cond.classLink RX1 9 RX0 ∈ wsA := wsA_t1 (List.mem_of_getElem? (i := 70) rfl) rfl
theorem mw_42 : Cond.instantiable RX0 6 ∈ wsA := wsA_t1 (List.mem_of_getElem? (i := 71) rfl) rfl
theorem mw_43 : Cond.initialized RX0 ∈ wsA := wsA_t1 (List.mem_of_getElem? (i := 5) rfl) rfl
theorem mw_44 : Cond.fieldLink RX1 12 "BigPolys$Chain" "bench" "LBigPolys$Bench;" ∈ wsA := wsA_t1 (List.mem_of_getElem? (i := 110) rfl) rfl
theorem mw_45 : Cond.classLink RX1 18 RX2 ∈ wsA := wsA_t1 (List.mem_of_getElem? (i := 103) rfl) rfl
theorem mw_46 : Cond.fieldLink RX1 20 "BigPolys$Chain" "links" "[LBigPolys$Poly;" ∈ wsA := wsA_t1 (List.mem_of_getElem? (i := 112) rfl) rfl
theorem mw_47 : Cond.classLink RX1 24 RX3 ∈ wsA := wsA_t1 (List.mem_of_getElem? (i := 104) rfl) rfl
theorem mw_48 : Cond.fieldLink RX1 29 "BigPolys$Chain" "lead" "LBigPolys$Whole;" ∈ wsA := wsA_t1 (List.mem_of_getElem? (i := 113) rfl) rfl
theorem mw_49 : Cond.fieldLink RX1 33 "BigPolys$Chain" "height" "LBigPolys$Whole;" ∈ wsA := wsA_t1 (List.mem_of_getElem? (i := 114) rfl) rfl
theorem mw_50 : Cond.fieldLink RX1 36 "BigPolys$Chain" "power" "LBigPolys$Whole;" ∈ wsA := wsA_t1 (List.mem_of_getElem? (i := 115) rfl) rfl
theorem mw_51 : Cond.fieldLink RX1 39 "BigPolys$Chain" "next" "LBigPolys$Whole;" ∈ wsA := wsA_t1 (List.mem_of_getElem? (i := 116) rfl) rfl
theorem mw_52 : Cond.methodLink RX1 42 Lib.Math.min.name ∈ wsA := wsA_t1 (List.mem_of_getElem? (i := 106) rfl) rfl
theorem mw_53 : Cond.static Lib.Math.min.name ∈ wsA := wsA_t1 (List.mem_of_getElem? (i := 107) rfl) rfl
theorem mw_54 : Cond.initialized "java/lang/Math" ∈ wsA := wsA_t1 (List.mem_of_getElem? (i := 6) rfl) rfl
theorem mw_55 : Cond.code Lib.Math.min.name Lib.Math.min.code 2 (some .int) ∈ wsA := wsA_t1 (List.mem_of_getElem? (i := 108) rfl) rfl
theorem mw_56 : Cond.instanceMethod yX0_init ∈ wsA := wsA_t1 (List.mem_of_getElem? (i := 73) rfl) rfl
theorem mw_57 : Cond.code yX0_init cX0_init 1 none ∈ wsA := wsA_t1 (List.mem_of_getElem? (i := 74) rfl) rfl
theorem mw_58 : Cond.methodLink RX0 3 objectInit ∈ wsA := wsA_t1 (List.mem_of_getElem? (i := 75) rfl) rfl
theorem mw_59 : Cond.classLink RX0 9 RX2 ∈ wsA := wsA_t1 (List.mem_of_getElem? (i := 76) rfl) rfl
theorem mw_60 : Cond.fieldLink RX0 14 "BigPolys$Bench" "work" "LBigPolys$Poly;" ∈ wsA := wsA_t1 (List.mem_of_getElem? (i := 80) rfl) rfl
theorem mw_61 : Cond.fieldLink RX0 20 "BigPolys$Bench" "part" "LBigPolys$Poly;" ∈ wsA := wsA_t1 (List.mem_of_getElem? (i := 83) rfl) rfl
theorem mw_62 : Cond.classLink RX0 23 RX3 ∈ wsA := wsA_t1 (List.mem_of_getElem? (i := 78) rfl) rfl
theorem mw_63 : Cond.fieldLink RX0 28 "BigPolys$Bench" "one" "LBigPolys$Whole;" ∈ wsA := wsA_t1 (List.mem_of_getElem? (i := 86) rfl) rfl
theorem mw_64 : Cond.fieldLink RX0 32 "BigPolys$Bench" "two" "LBigPolys$Whole;" ∈ wsA := wsA_t1 (List.mem_of_getElem? (i := 87) rfl) rfl
theorem mw_65 : Cond.fieldLink RX0 35 "BigPolys$Bench" "three" "LBigPolys$Whole;" ∈ wsA := wsA_t1 (List.mem_of_getElem? (i := 88) rfl) rfl
theorem mw_66 : Cond.fieldLink RX0 38 "BigPolys$Bench" "four" "LBigPolys$Whole;" ∈ wsA := wsA_t1 (List.mem_of_getElem? (i := 89) rfl) rfl
theorem mw_67 : Cond.methodLink RX0 11 yX2_init ∈ wsA := wsA_t1 (List.mem_of_getElem? (i := 77) rfl) rfl
theorem mw_68 : Cond.methodLink RX0 25 yX3_init ∈ wsA := wsA_t1 (List.mem_of_getElem? (i := 79) rfl) rfl
theorem mw_69 : Cond.methodLink RX1 26 yX3_init ∈ wsA := wsA_t1 (List.mem_of_getElem? (i := 105) rfl) rfl
theorem mw_70 : Cond.methodLink RX1 48 yX2_init ∈ wsA := wsA_t1 (List.mem_of_getElem? (i := 109) rfl) rfl
theorem mw_71 : Cond.methodLink RL 12 yX5_init ∈ wsA := wsA_t3 (List.mem_of_getElem? (i := 28) rfl) rfl
theorem mw_72 : Cond.instanceMethod yX5_init ∈ wsA := wsA_t3 (List.mem_of_getElem? (i := 29) rfl) rfl
theorem mw_73 : Cond.code yX5_init cX5_init 2 none ∈ wsA := wsA_t3 (List.mem_of_getElem? (i := 30) rfl) rfl
theorem mw_74 : Cond.methodLink RX5 1 objectInit ∈ wsA := wsA_t3 (List.mem_of_getElem? (i := 31) rfl) rfl
theorem mw_75 : Cond.constant RX5 7 (99880) ∈ wsA := wsA_t3 (List.mem_of_getElem? (i := 32) rfl) rfl
theorem mw_77 : Cond.fieldLink RX5 8 "BigPolysModel" "limbs" "[J" ∈ wsA := wsA_t3 (List.mem_of_getElem? (i := 33) rfl) rfl
theorem mw_78 : Cond.fieldLink RX5 14 "BigPolysModel" "sizes" "[I" ∈ wsA := wsA_t3 (List.mem_of_getElem? (i := 34) rfl) rfl
theorem mw_79 : Cond.fieldLink RX5 18 "BigPolysModel" "signs" "[I" ∈ wsA := wsA_t3 (List.mem_of_getElem? (i := 35) rfl) rfl
theorem mw_80 : Cond.fieldLink RX5 21 "BigPolysModel" "degrees" "[I" ∈ wsA := wsA_t3 (List.mem_of_getElem? (i := 36) rfl) rfl
theorem mw_81 : Cond.fieldLink RX5 24 "BigPolysModel" "handRegister" "I" ∈ wsA := wsA_t3 (List.mem_of_getElem? (i := 37) rfl) rfl
theorem mw_82 : Cond.fieldLink RX5 28 "BigPolysModel" "handRow" "[I" ∈ wsA := wsA_t3 (List.mem_of_getElem? (i := 41) rfl) rfl
theorem mw_83 : Cond.methodLink RL 13 yX4_coefficient ∈ wsA := wsA_t1 (List.mem_of_getElem? (i := 155) rfl) rfl
theorem mw_84 : Cond.instanceMethod yX4_coefficient ∈ wsA := wsA_t1 (List.mem_of_getElem? (i := 156) rfl) rfl
theorem mw_85 : Cond.selects RX4 yX4_coefficient yX4_coefficient ∈ wsA := wsA_t1 (List.mem_of_getElem? (i := 157) rfl) rfl
theorem mw_86 : Cond.code yX4_coefficient cX4_coefficient 4 (some .boolean) ∈ wsA := wsA_t1 (List.mem_of_getElem? (i := 158) rfl) rfl
theorem mw_87 : Cond.fieldLink RX4 50 "BigPolys" "handPower" "I" ∈ wsA := wsA_t1 (List.mem_of_getElem? (i := 137) rfl) rfl
theorem mw_88 : Cond.fieldLink RX4 53 "BigPolys" "handSign" "I" ∈ wsA := wsA_t1 (List.mem_of_getElem? (i := 138) rfl) rfl
theorem mw_89 : Cond.fieldLink RX4 56 "BigPolys" "handCount" "I" ∈ wsA := wsA_t1 (List.mem_of_getElem? (i := 139) rfl) rfl
theorem mw_90 : Cond.methodLink RX4 34 yX4_isCoefficient ∈ wsA := wsA_t1 (List.mem_of_getElem? (i := 159) rfl) rfl
theorem mw_91 : Cond.static yX4_isCoefficient ∈ wsA := wsA_t1 (List.mem_of_getElem? (i := 160) rfl) rfl
theorem mw_92 : Cond.code yX4_isCoefficient cX4_isCoefficient 2 (some .boolean) ∈ wsA := wsA_t1 (List.mem_of_getElem? (i := 161) rfl) rfl
theorem mw_93 : Cond.methodLink RX4 114 yX4_isRegister ∈ wsA := wsA_t1 (List.mem_of_getElem? (i := 162) rfl) rfl
theorem mw_94 : Cond.static yX4_isRegister ∈ wsA := wsA_t1 (List.mem_of_getElem? (i := 163) rfl) rfl
theorem mw_95 : Cond.code yX4_isRegister cX4_isRegister 1 (some .boolean) ∈ wsA := wsA_t1 (List.mem_of_getElem? (i := 164) rfl) rfl
theorem mw_96 : Cond.methodLink RX4 42 yX3_clear ∈ wsA := wsA_t1 (List.mem_of_getElem? (i := 165) rfl) rfl
theorem mw_97 : Cond.instanceMethod yX3_clear ∈ wsA := wsA_t1 (List.mem_of_getElem? (i := 166) rfl) rfl
theorem mw_98 : Cond.selects RX3 yX3_clear yX3_clear ∈ wsA := wsA_t1 (List.mem_of_getElem? (i := 167) rfl) rfl
theorem mw_99 : Cond.code yX3_clear cX3_clear 1 none ∈ wsA := wsA_t1 (List.mem_of_getElem? (i := 168) rfl) rfl
theorem mw_100 : Cond.fieldLink RX3 15 "BigPolys$Whole" "size" "I" ∈ wsA := wsA_t1 (List.mem_of_getElem? (i := 35) rfl) rfl
theorem mw_101 : Cond.fieldLink RX3 19 "BigPolys$Whole" "sign" "I" ∈ wsA := wsA_t1 (List.mem_of_getElem? (i := 38) rfl) rfl
theorem mw_102 : Cond.methodLink RX4 47 yX2_measure ∈ wsA := wsA_t1 (List.mem_of_getElem? (i := 169) rfl) rfl
theorem mw_103 : Cond.instanceMethod yX2_measure ∈ wsA := wsA_t1 (List.mem_of_getElem? (i := 170) rfl) rfl
theorem mw_104 : Cond.selects RX2 yX2_measure yX2_measure ∈ wsA := wsA_t1 (List.mem_of_getElem? (i := 171) rfl) rfl
theorem mw_105 : Cond.code yX2_measure cX2_measure 2 none ∈ wsA := wsA_t1 (List.mem_of_getElem? (i := 172) rfl) rfl
theorem mw_106 : Cond.methodLink RL 17 yX5_coefficient ∈ wsA := wsA_t3 (List.mem_of_getElem? (i := 65) rfl) rfl
theorem mw_107 : Cond.instanceMethod yX5_coefficient ∈ wsA := wsA_t3 (List.mem_of_getElem? (i := 66) rfl) rfl
theorem mw_108 : Cond.selects RX5 yX5_coefficient yX5_coefficient ∈ wsA := wsA_t3 (List.mem_of_getElem? (i := 67) rfl) rfl
theorem mw_109 : Cond.code yX5_coefficient cX5_coefficient 4 (some .boolean) ∈ wsA := wsA_t3 (List.mem_of_getElem? (i := 68) rfl) rfl
theorem mw_110 : Cond.fieldLink RX5 113 "BigPolysModel" "handPower" "I" ∈ wsA := wsA_t3 (List.mem_of_getElem? (i := 38) rfl) rfl
theorem mw_111 : Cond.fieldLink RX5 116 "BigPolysModel" "handSign" "I" ∈ wsA := wsA_t3 (List.mem_of_getElem? (i := 39) rfl) rfl
theorem mw_112 : Cond.fieldLink RX5 119 "BigPolysModel" "handWords" "I" ∈ wsA := wsA_t3 (List.mem_of_getElem? (i := 40) rfl) rfl
theorem mw_113 : Cond.methodLink RX5 106 yX5_isRegister ∈ wsA := wsA_t3 (List.mem_of_getElem? (i := 69) rfl) rfl
theorem mw_114 : Cond.static yX5_isRegister ∈ wsA := wsA_t3 (List.mem_of_getElem? (i := 70) rfl) rfl
theorem mw_115 : Cond.code yX5_isRegister cX5_isRegister 1 (some .boolean) ∈ wsA := wsA_t3 (List.mem_of_getElem? (i := 71) rfl) rfl
theorem mw_116 : Cond.methodLink RX5 110 yX5_isPower ∈ wsA := wsA_t3 (List.mem_of_getElem? (i := 72) rfl) rfl
theorem mw_117 : Cond.static yX5_isPower ∈ wsA := wsA_t3 (List.mem_of_getElem? (i := 73) rfl) rfl
theorem mw_118 : Cond.code yX5_isPower cX5_isPower 1 (some .boolean) ∈ wsA := wsA_t3 (List.mem_of_getElem? (i := 74) rfl) rfl
theorem mw_119 : Cond.methodLink RX5 66 yX5_at ∈ wsA := wsA_t3 (List.mem_of_getElem? (i := 75) rfl) rfl
theorem mw_120 : Cond.static yX5_at ∈ wsA := wsA_t3 (List.mem_of_getElem? (i := 76) rfl) rfl
theorem mw_121 : Cond.code yX5_at cX5_at 2 (some .int) ∈ wsA := wsA_t3 (List.mem_of_getElem? (i := 77) rfl) rfl
theorem mw_122 : Cond.methodLink RX5 49 yX5_zero ∈ wsA := wsA_t3 (List.mem_of_getElem? (i := 78) rfl) rfl
theorem mw_123 : Cond.instanceMethod yX5_zero ∈ wsA := wsA_t3 (List.mem_of_getElem? (i := 80) rfl) rfl
theorem mw_124 : Cond.selects RX5 yX5_zero yX5_zero ∈ wsA := wsA_s (List.mem_of_getElem? (i := 15) rfl) rfl
theorem mw_125 : Cond.code yX5_zero cX5_zero 2 none ∈ wsA := wsA_t3 (List.mem_of_getElem? (i := 81) rfl) rfl
theorem mw_126 : Cond.methodLink RX5 78 yX5_measure ∈ wsA := wsA_t3 (List.mem_of_getElem? (i := 82) rfl) rfl
theorem mw_127 : Cond.instanceMethod yX5_measure ∈ wsA := wsA_t3 (List.mem_of_getElem? (i := 84) rfl) rfl
theorem mw_128 : Cond.selects RX5 yX5_measure yX5_measure ∈ wsA := wsA_s (List.mem_of_getElem? (i := 16) rfl) rfl
theorem mw_129 : Cond.code yX5_measure cX5_measure 2 none ∈ wsA := wsA_t3 (List.mem_of_getElem? (i := 85) rfl) rfl
theorem mw_130 : Cond.methodLink RL 18 yX4_word ∈ wsA := wsA_t1 (List.mem_of_getElem? (i := 173) rfl) rfl
theorem mw_131 : Cond.instanceMethod yX4_word ∈ wsA := wsA_t1 (List.mem_of_getElem? (i := 174) rfl) rfl
theorem mw_132 : Cond.selects RX4 yX4_word yX4_word ∈ wsA := wsA_t1 (List.mem_of_getElem? (i := 175) rfl) rfl
theorem mw_133 : Cond.code yX4_word cX4_word 2 (some .boolean) ∈ wsA := wsA_t1 (List.mem_of_getElem? (i := 176) rfl) rfl
theorem mw_134 : Cond.methodLink RX4 59 yX3_put ∈ wsA := wsA_t1 (List.mem_of_getElem? (i := 177) rfl) rfl
theorem mw_135 : Cond.instanceMethod yX3_put ∈ wsA := wsA_t1 (List.mem_of_getElem? (i := 178) rfl) rfl
theorem mw_136 : Cond.selects RX3 yX3_put yX3_put ∈ wsA := wsA_t1 (List.mem_of_getElem? (i := 179) rfl) rfl
theorem mw_137 : Cond.code yX3_put cX3_put 4 none ∈ wsA := wsA_t1 (List.mem_of_getElem? (i := 180) rfl) rfl
theorem mw_138 : Cond.methodLink RL 22 yX5_word ∈ wsA := wsA_t3 (List.mem_of_getElem? (i := 86) rfl) rfl
theorem mw_139 : Cond.instanceMethod yX5_word ∈ wsA := wsA_t3 (List.mem_of_getElem? (i := 87) rfl) rfl
theorem mw_140 : Cond.selects RX5 yX5_word yX5_word ∈ wsA := wsA_t3 (List.mem_of_getElem? (i := 88) rfl) rfl
theorem mw_141 : Cond.code yX5_word cX5_word 4 (some .boolean) ∈ wsA := wsA_t3 (List.mem_of_getElem? (i := 89) rfl) rfl
theorem mw_142 : Cond.methodLink RX5 52 yX5_shiftUp ∈ wsA := wsA_t3 (List.mem_of_getElem? (i := 90) rfl) rfl
theorem mw_143 : Cond.instanceMethod yX5_shiftUp ∈ wsA := wsA_t3 (List.mem_of_getElem? (i := 92) rfl) rfl
theorem mw_144 : Cond.selects RX5 yX5_shiftUp yX5_shiftUp ∈ wsA := wsA_s (List.mem_of_getElem? (i := 17) rfl) rfl
theorem mw_145 : Cond.code yX5_shiftUp cX5_shiftUp 9 none ∈ wsA := wsA_t3 (List.mem_of_getElem? (i := 93) rfl) rfl
theorem mw_146 : Cond.constantLong RX5 31 (268435455) ∈ wsA := wsA_t3 (List.mem_of_getElem? (i := 94) rfl) rfl
theorem mw_147 : Cond.methodLink RX5 41 yX5_trim ∈ wsA := wsA_t3 (List.mem_of_getElem? (i := 95) rfl) rfl
theorem mw_148 : Cond.instanceMethod yX5_trim ∈ wsA := wsA_t3 (List.mem_of_getElem? (i := 97) rfl) rfl
theorem mw_149 : Cond.selects RX5 yX5_trim yX5_trim ∈ wsA := wsA_s (List.mem_of_getElem? (i := 18) rfl) rfl
theorem mw_150 : Cond.code yX5_trim cX5_trim 2 none ∈ wsA := wsA_t3 (List.mem_of_getElem? (i := 98) rfl) rfl
theorem mw_151 : Cond.methodLink RX5 92 yX5_put ∈ wsA := wsA_t3 (List.mem_of_getElem? (i := 99) rfl) rfl
theorem mw_152 : Cond.instanceMethod yX5_put ∈ wsA := wsA_t3 (List.mem_of_getElem? (i := 101) rfl) rfl
theorem mw_153 : Cond.selects RX5 yX5_put yX5_put ∈ wsA := wsA_s (List.mem_of_getElem? (i := 19) rfl) rfl
theorem mw_154 : Cond.code yX5_put cX5_put 6 none ∈ wsA := wsA_t3 (List.mem_of_getElem? (i := 102) rfl) rfl
theorem mw_155 : Cond.methodLink RX5 55 yX5_sum ∈ wsA := wsA_t3 (List.mem_of_getElem? (i := 103) rfl) rfl
theorem mw_156 : Cond.instanceMethod yX5_sum ∈ wsA := wsA_t3 (List.mem_of_getElem? (i := 105) rfl) rfl
theorem mw_157 : Cond.selects RX5 yX5_sum yX5_sum ∈ wsA := wsA_s (List.mem_of_getElem? (i := 20) rfl) rfl
theorem mw_158 : Cond.code yX5_sum cX5_sum 17 none ∈ wsA := wsA_t3 (List.mem_of_getElem? (i := 106) rfl) rfl
theorem mw_159 : Cond.methodLink RX5 33 yX5_copy ∈ wsA := wsA_t3 (List.mem_of_getElem? (i := 107) rfl) rfl
theorem mw_160 : Cond.instanceMethod yX5_copy ∈ wsA := wsA_t3 (List.mem_of_getElem? (i := 109) rfl) rfl
theorem mw_161 : Cond.selects RX5 yX5_copy yX5_copy ∈ wsA := wsA_s (List.mem_of_getElem? (i := 21) rfl) rfl
theorem mw_162 : Cond.code yX5_copy cX5_copy 4 none ∈ wsA := wsA_t3 (List.mem_of_getElem? (i := 110) rfl) rfl
theorem mw_163 : Cond.methodLink RX5 37 yX5_compareSizes ∈ wsA := wsA_t3 (List.mem_of_getElem? (i := 111) rfl) rfl
theorem mw_164 : Cond.instanceMethod yX5_compareSizes ∈ wsA := wsA_t3 (List.mem_of_getElem? (i := 113) rfl) rfl
theorem mw_165 : Cond.selects RX5 yX5_compareSizes yX5_compareSizes ∈ wsA := wsA_s (List.mem_of_getElem? (i := 22) rfl) rfl
theorem mw_166 : Cond.code yX5_compareSizes cX5_compareSizes 4 (some .int) ∈ wsA := wsA_t3 (List.mem_of_getElem? (i := 114) rfl) rfl
theorem mw_167 : Cond.methodLink RL 23 yX4_add ∈ wsA := wsA_t1 (List.mem_of_getElem? (i := 181) rfl) rfl
theorem mw_168 : Cond.instanceMethod yX4_add ∈ wsA := wsA_t1 (List.mem_of_getElem? (i := 182) rfl) rfl
theorem mw_169 : Cond.selects RX4 yX4_add yX4_add ∈ wsA := wsA_t1 (List.mem_of_getElem? (i := 183) rfl) rfl
theorem mw_170 : Cond.code yX4_add cX4_add 5 (some .int) ∈ wsA := wsA_t1 (List.mem_of_getElem? (i := 184) rfl) rfl
theorem mw_171 : Cond.methodLink RX4 63 yX4_areRegisters ∈ wsA := wsA_t1 (List.mem_of_getElem? (i := 185) rfl) rfl
theorem mw_172 : Cond.static yX4_areRegisters ∈ wsA := wsA_t1 (List.mem_of_getElem? (i := 186) rfl) rfl
theorem mw_173 : Cond.code yX4_areRegisters cX4_areRegisters 3 (some .boolean) ∈ wsA := wsA_t1 (List.mem_of_getElem? (i := 187) rfl) rfl
theorem mw_174 : Cond.methodLink RX4 67 yX0_sum ∈ wsA := wsA_t1 (List.mem_of_getElem? (i := 188) rfl) rfl
theorem mw_175 : Cond.instanceMethod yX0_sum ∈ wsA := wsA_t1 (List.mem_of_getElem? (i := 189) rfl) rfl
theorem mw_176 : Cond.selects RX0 yX0_sum yX0_sum ∈ wsA := wsA_t1 (List.mem_of_getElem? (i := 190) rfl) rfl
theorem mw_177 : Cond.code yX0_sum cX0_sum 5 none ∈ wsA := wsA_t1 (List.mem_of_getElem? (i := 191) rfl) rfl
theorem mw_178 : Cond.methodLink RX0 41 yX2_load ∈ wsA := wsA_t1 (List.mem_of_getElem? (i := 192) rfl) rfl
theorem mw_179 : Cond.instanceMethod yX2_load ∈ wsA := wsA_t1 (List.mem_of_getElem? (i := 193) rfl) rfl
theorem mw_180 : Cond.selects RX2 yX2_load yX2_load ∈ wsA := wsA_t1 (List.mem_of_getElem? (i := 194) rfl) rfl
theorem mw_181 : Cond.code yX2_load cX2_load 3 none ∈ wsA := wsA_t1 (List.mem_of_getElem? (i := 195) rfl) rfl
theorem mw_182 : Cond.methodLink RX2 31 yX3_load ∈ wsA := wsA_t1 (List.mem_of_getElem? (i := 196) rfl) rfl
theorem mw_183 : Cond.instanceMethod yX3_load ∈ wsA := wsA_t1 (List.mem_of_getElem? (i := 197) rfl) rfl
theorem mw_184 : Cond.selects RX3 yX3_load yX3_load ∈ wsA := wsA_t1 (List.mem_of_getElem? (i := 198) rfl) rfl
theorem mw_185 : Cond.code yX3_load cX3_load 2 none ∈ wsA := wsA_t1 (List.mem_of_getElem? (i := 199) rfl) rfl
theorem mw_186 : Cond.methodLink RX3 29 Lib.Math.min.name ∈ wsA := wsA_t1 (List.mem_of_getElem? (i := 200) rfl) rfl
theorem mw_187 : Cond.methodLink RX3 35 arraycopyName ∈ wsA := wsA_t1 (List.mem_of_getElem? (i := 201) rfl) rfl
theorem mw_188 : Cond.native arraycopyName ∈ wsA := wsA_t1 (List.mem_of_getElem? (i := 203) rfl) rfl
theorem mw_189 : Cond.static arraycopyName ∈ wsA := wsA_t1 (List.mem_of_getElem? (i := 202) rfl) rfl
theorem mw_190 : Cond.initialized "java/lang/System" ∈ wsA := wsA_t1 (List.mem_of_getElem? (i := 8) rfl) rfl
theorem mw_191 : Cond.methodLink RX3 41 yX3_trim ∈ wsA := wsA_t1 (List.mem_of_getElem? (i := 204) rfl) rfl
theorem mw_192 : Cond.instanceMethod yX3_trim ∈ wsA := wsA_t1 (List.mem_of_getElem? (i := 206) rfl) rfl
theorem mw_193 : Cond.selects RX3 yX3_trim yX3_trim ∈ wsA := wsA_s (List.mem_of_getElem? (i := 0) rfl) rfl
theorem mw_194 : Cond.code yX3_trim cX3_trim 1 none ∈ wsA := wsA_t1 (List.mem_of_getElem? (i := 207) rfl) rfl
theorem mw_195 : Cond.methodLink RX2 24 yX3_clear ∈ wsA := wsA_t1 (List.mem_of_getElem? (i := 208) rfl) rfl
theorem mw_196 : Cond.methodLink RX2 35 yX2_measure ∈ wsA := wsA_t1 (List.mem_of_getElem? (i := 209) rfl) rfl
theorem mw_197 : Cond.methodLink RX0 53 yX3_plus ∈ wsA := wsA_t1 (List.mem_of_getElem? (i := 210) rfl) rfl
theorem mw_198 : Cond.instanceMethod yX3_plus ∈ wsA := wsA_t1 (List.mem_of_getElem? (i := 211) rfl) rfl
theorem mw_199 : Cond.selects RX3 yX3_plus yX3_plus ∈ wsA := wsA_t1 (List.mem_of_getElem? (i := 212) rfl) rfl
theorem mw_200 : Cond.code yX3_plus cX3_plus 4 none ∈ wsA := wsA_t1 (List.mem_of_getElem? (i := 213) rfl) rfl
theorem mw_201 : Cond.methodLink RX3 48 yX3_join ∈ wsA := wsA_t1 (List.mem_of_getElem? (i := 214) rfl) rfl
theorem mw_202 : Cond.instanceMethod yX3_join ∈ wsA := wsA_t1 (List.mem_of_getElem? (i := 216) rfl) rfl
theorem mw_203 : Cond.selects RX3 yX3_join yX3_join ∈ wsA := wsA_s (List.mem_of_getElem? (i := 1) rfl) rfl
theorem mw_204 : Cond.code yX3_join cX3_join 8 none ∈ wsA := wsA_t1 (List.mem_of_getElem? (i := 217) rfl) rfl
theorem mw_205 : Cond.methodLink RX3 56 Lib.Math.max.name ∈ wsA := wsA_t1 (List.mem_of_getElem? (i := 218) rfl) rfl
theorem mw_206 : Cond.static Lib.Math.max.name ∈ wsA := wsA_t1 (List.mem_of_getElem? (i := 219) rfl) rfl
theorem mw_207 : Cond.code Lib.Math.max.name Lib.Math.max.code 2 (some .int) ∈ wsA := wsA_t1 (List.mem_of_getElem? (i := 220) rfl) rfl
theorem mw_208 : Cond.constant RX3 59 (2147483647) ∈ wsA := wsA_t1 (List.mem_of_getElem? (i := 221) rfl) rfl
theorem mw_209 : Cond.methodLink RX3 44 yX3_compareAbs ∈ wsA := wsA_t1 (List.mem_of_getElem? (i := 222) rfl) rfl
theorem mw_210 : Cond.instanceMethod yX3_compareAbs ∈ wsA := wsA_t1 (List.mem_of_getElem? (i := 224) rfl) rfl
theorem mw_211 : Cond.selects RX3 yX3_compareAbs yX3_compareAbs ∈ wsA := wsA_s (List.mem_of_getElem? (i := 2) rfl) rfl
theorem mw_212 : Cond.code yX3_compareAbs cX3_compareAbs 3 (some .int) ∈ wsA := wsA_t1 (List.mem_of_getElem? (i := 225) rfl) rfl
theorem mw_213 : Cond.methodLink RX3 52 yX3_differ ∈ wsA := wsA_t1 (List.mem_of_getElem? (i := 226) rfl) rfl
theorem mw_214 : Cond.instanceMethod yX3_differ ∈ wsA := wsA_t1 (List.mem_of_getElem? (i := 228) rfl) rfl
theorem mw_215 : Cond.selects RX3 yX3_differ yX3_differ ∈ wsA := wsA_s (List.mem_of_getElem? (i := 3) rfl) rfl
theorem mw_216 : Cond.code yX3_differ cX3_differ 8 none ∈ wsA := wsA_t1 (List.mem_of_getElem? (i := 229) rfl) rfl
theorem mw_217 : Cond.methodLink RX0 57 yX2_measure ∈ wsA := wsA_t1 (List.mem_of_getElem? (i := 230) rfl) rfl
theorem mw_218 : Cond.methodLink RX4 77 yX4_deliver ∈ wsA := wsA_t1 (List.mem_of_getElem? (i := 231) rfl) rfl
theorem mw_219 : Cond.instanceMethod yX4_deliver ∈ wsA := wsA_t1 (List.mem_of_getElem? (i := 233) rfl) rfl
theorem mw_220 : Cond.selects RX4 yX4_deliver yX4_deliver ∈ wsA := wsA_s (List.mem_of_getElem? (i := 4) rfl) rfl
theorem mw_221 : Cond.code yX4_deliver cX4_deliver 3 (some .int) ∈ wsA := wsA_t1 (List.mem_of_getElem? (i := 234) rfl) rfl
theorem mw_222 : Cond.methodLink RX4 159 yX2_fits ∈ wsA := wsA_t1 (List.mem_of_getElem? (i := 235) rfl) rfl
theorem mw_223 : Cond.instanceMethod yX2_fits ∈ wsA := wsA_t1 (List.mem_of_getElem? (i := 236) rfl) rfl
theorem mw_224 : Cond.selects RX2 yX2_fits yX2_fits ∈ wsA := wsA_t1 (List.mem_of_getElem? (i := 237) rfl) rfl
theorem mw_225 : Cond.code yX2_fits cX2_fits 2 (some .boolean) ∈ wsA := wsA_t1 (List.mem_of_getElem? (i := 238) rfl) rfl
theorem mw_226 : Cond.methodLink RX4 163 yX2_load ∈ wsA := wsA_t1 (List.mem_of_getElem? (i := 239) rfl) rfl
theorem mw_227 : Cond.methodLink RL 27 yX5_add ∈ wsA := wsA_t3 (List.mem_of_getElem? (i := 115) rfl) rfl
theorem mw_228 : Cond.instanceMethod yX5_add ∈ wsA := wsA_t3 (List.mem_of_getElem? (i := 116) rfl) rfl
theorem mw_229 : Cond.selects RX5 yX5_add yX5_add ∈ wsA := wsA_t3 (List.mem_of_getElem? (i := 117) rfl) rfl
theorem mw_230 : Cond.code yX5_add cX5_add 6 (some .int) ∈ wsA := wsA_t3 (List.mem_of_getElem? (i := 118) rfl) rfl
theorem mw_231 : Cond.methodLink RX5 122 yX5_result ∈ wsA := wsA_t3 (List.mem_of_getElem? (i := 119) rfl) rfl
theorem mw_232 : Cond.instanceMethod yX5_result ∈ wsA := wsA_t3 (List.mem_of_getElem? (i := 121) rfl) rfl
theorem mw_233 : Cond.selects RX5 yX5_result yX5_result ∈ wsA := wsA_s (List.mem_of_getElem? (i := 23) rfl) rfl
theorem mw_234 : Cond.code yX5_result cX5_result 4 (some .int) ∈ wsA := wsA_t3 (List.mem_of_getElem? (i := 122) rfl) rfl
theorem mw_235 : Cond.methodLink RX5 45 yX5_bitsOf ∈ wsA := wsA_t3 (List.mem_of_getElem? (i := 123) rfl) rfl
theorem mw_236 : Cond.instanceMethod yX5_bitsOf ∈ wsA := wsA_t3 (List.mem_of_getElem? (i := 125) rfl) rfl
theorem mw_237 : Cond.selects RX5 yX5_bitsOf yX5_bitsOf ∈ wsA := wsA_s (List.mem_of_getElem? (i := 24) rfl) rfl
theorem mw_238 : Cond.code yX5_bitsOf cX5_bitsOf 5 (some .int) ∈ wsA := wsA_t3 (List.mem_of_getElem? (i := 126) rfl) rfl
theorem mw_239 : Cond.methodLink RX5 72 yX5_copyAll ∈ wsA := wsA_t3 (List.mem_of_getElem? (i := 127) rfl) rfl
theorem mw_240 : Cond.instanceMethod yX5_copyAll ∈ wsA := wsA_t3 (List.mem_of_getElem? (i := 129) rfl) rfl
theorem mw_241 : Cond.selects RX5 yX5_copyAll yX5_copyAll ∈ wsA := wsA_s (List.mem_of_getElem? (i := 25) rfl) rfl
theorem mw_242 : Cond.code yX5_copyAll cX5_copyAll 4 none ∈ wsA := wsA_t3 (List.mem_of_getElem? (i := 130) rfl) rfl
theorem mw_243 : Cond.methodLink RL 28 yX4_multiply ∈ wsA := wsA_t2 (List.mem_of_getElem? (i := 0) rfl) rfl
theorem mw_244 : Cond.instanceMethod yX4_multiply ∈ wsA := wsA_t2 (List.mem_of_getElem? (i := 1) rfl) rfl
theorem mw_245 : Cond.selects RX4 yX4_multiply yX4_multiply ∈ wsA := wsA_t2 (List.mem_of_getElem? (i := 2) rfl) rfl
theorem mw_246 : Cond.code yX4_multiply cX4_multiply 4 (some .int) ∈ wsA := wsA_t2 (List.mem_of_getElem? (i := 3) rfl) rfl
theorem mw_247 : Cond.methodLink RX4 84 yX0_times ∈ wsA := wsA_t2 (List.mem_of_getElem? (i := 4) rfl) rfl
theorem mw_248 : Cond.instanceMethod yX0_times ∈ wsA := wsA_t2 (List.mem_of_getElem? (i := 5) rfl) rfl
theorem mw_249 : Cond.selects RX0 yX0_times yX0_times ∈ wsA := wsA_t2 (List.mem_of_getElem? (i := 6) rfl) rfl
theorem mw_250 : Cond.code yX0_times cX0_times 5 none ∈ wsA := wsA_t2 (List.mem_of_getElem? (i := 7) rfl) rfl
theorem mw_251 : Cond.methodLink RX0 60 yX2_clear ∈ wsA := wsA_t2 (List.mem_of_getElem? (i := 8) rfl) rfl
theorem mw_252 : Cond.instanceMethod yX2_clear ∈ wsA := wsA_t2 (List.mem_of_getElem? (i := 9) rfl) rfl
theorem mw_253 : Cond.selects RX2 yX2_clear yX2_clear ∈ wsA := wsA_t2 (List.mem_of_getElem? (i := 10) rfl) rfl
theorem mw_254 : Cond.code yX2_clear cX2_clear 2 none ∈ wsA := wsA_t2 (List.mem_of_getElem? (i := 11) rfl) rfl
theorem mw_255 : Cond.methodLink RX0 63 yX3_product ∈ wsA := wsA_t2 (List.mem_of_getElem? (i := 12) rfl) rfl
theorem mw_256 : Cond.instanceMethod yX3_product ∈ wsA := wsA_t2 (List.mem_of_getElem? (i := 13) rfl) rfl
theorem mw_257 : Cond.selects RX3 yX3_product yX3_product ∈ wsA := wsA_t2 (List.mem_of_getElem? (i := 14) rfl) rfl
theorem mw_258 : Cond.code yX3_product cX3_product 12 none ∈ wsA := wsA_t2 (List.mem_of_getElem? (i := 15) rfl) rfl
theorem mw_259 : Cond.constantLong RX3 60 (2147483647) ∈ wsA := wsA_t2 (List.mem_of_getElem? (i := 22) rfl) rfl
theorem mw_260 : Cond.methodLink RX3 62 yJ7_fill_fda19 ∈ wsA := wsA_t2 (List.mem_of_getElem? (i := 16) rfl) rfl
theorem mw_261 : Cond.static yJ7_fill_fda19 ∈ wsA := wsA_t2 (List.mem_of_getElem? (i := 17) rfl) rfl
theorem mw_262 : Cond.initialized RJ7 ∈ wsA := wsA_t1 (List.mem_of_getElem? (i := 9) rfl) rfl
theorem mw_263 : Cond.code yJ7_fill_fda19 cJ7_fill_fda19 5 none ∈ wsA := wsA_t2 (List.mem_of_getElem? (i := 18) rfl) rfl
theorem mw_264 : Cond.methodLink RJ7 13 yJ7_rangeCheck_23922 ∈ wsA := wsA_t2 (List.mem_of_getElem? (i := 19) rfl) rfl
theorem mw_265 : Cond.static yJ7_rangeCheck_23922 ∈ wsA := wsA_t2 (List.mem_of_getElem? (i := 20) rfl) rfl
theorem mw_266 : Cond.code yJ7_rangeCheck_23922 cJ7_rangeCheck_23922 3 none ∈ wsA := wsA_t2 (List.mem_of_getElem? (i := 21) rfl) rfl
theorem mw_267 : Cond.methodLink RL 32 yX5_multiply ∈ wsA := wsA_t3 (List.mem_of_getElem? (i := 131) rfl) rfl
theorem mw_268 : Cond.instanceMethod yX5_multiply ∈ wsA := wsA_t3 (List.mem_of_getElem? (i := 132) rfl) rfl
theorem mw_269 : Cond.selects RX5 yX5_multiply yX5_multiply ∈ wsA := wsA_t3 (List.mem_of_getElem? (i := 133) rfl) rfl
theorem mw_270 : Cond.code yX5_multiply cX5_multiply 6 (some .int) ∈ wsA := wsA_t3 (List.mem_of_getElem? (i := 134) rfl) rfl
theorem mw_271 : Cond.methodLink RX5 85 yX5_clear ∈ wsA := wsA_t3 (List.mem_of_getElem? (i := 135) rfl) rfl
theorem mw_272 : Cond.instanceMethod yX5_clear ∈ wsA := wsA_t3 (List.mem_of_getElem? (i := 137) rfl) rfl
theorem mw_273 : Cond.selects RX5 yX5_clear yX5_clear ∈ wsA := wsA_s (List.mem_of_getElem? (i := 26) rfl) rfl
theorem mw_274 : Cond.code yX5_clear cX5_clear 3 none ∈ wsA := wsA_t3 (List.mem_of_getElem? (i := 138) rfl) rfl
theorem mw_275 : Cond.methodLink RX5 75 yX5_times ∈ wsA := wsA_t3 (List.mem_of_getElem? (i := 139) rfl) rfl
theorem mw_276 : Cond.instanceMethod yX5_times ∈ wsA := wsA_t3 (List.mem_of_getElem? (i := 141) rfl) rfl
theorem mw_277 : Cond.selects RX5 yX5_times yX5_times ∈ wsA := wsA_s (List.mem_of_getElem? (i := 27) rfl) rfl
theorem mw_278 : Cond.code yX5_times cX5_times 11 none ∈ wsA := wsA_t3 (List.mem_of_getElem? (i := 142) rfl) rfl
theorem mw_279 : Cond.methodLink RL 33 yX4_derive ∈ wsA := wsA_t2 (List.mem_of_getElem? (i := 23) rfl) rfl
theorem mw_280 : Cond.instanceMethod yX4_derive ∈ wsA := wsA_t2 (List.mem_of_getElem? (i := 24) rfl) rfl
theorem mw_281 : Cond.selects RX4 yX4_derive yX4_derive ∈ wsA := wsA_t2 (List.mem_of_getElem? (i := 25) rfl) rfl
theorem mw_282 : Cond.code yX4_derive cX4_derive 3 (some .int) ∈ wsA := wsA_t2 (List.mem_of_getElem? (i := 26) rfl) rfl
theorem mw_283 : Cond.methodLink RX4 88 yX2_slopeOf ∈ wsA := wsA_t2 (List.mem_of_getElem? (i := 27) rfl) rfl
theorem mw_284 : Cond.instanceMethod yX2_slopeOf ∈ wsA := wsA_t2 (List.mem_of_getElem? (i := 28) rfl) rfl
theorem mw_285 : Cond.selects RX2 yX2_slopeOf yX2_slopeOf ∈ wsA := wsA_t2 (List.mem_of_getElem? (i := 29) rfl) rfl
theorem mw_286 : Cond.code yX2_slopeOf cX2_slopeOf 3 none ∈ wsA := wsA_t2 (List.mem_of_getElem? (i := 30) rfl) rfl
theorem mw_287 : Cond.methodLink RX2 38 yX3_scale ∈ wsA := wsA_t2 (List.mem_of_getElem? (i := 31) rfl) rfl
theorem mw_288 : Cond.instanceMethod yX3_scale ∈ wsA := wsA_t2 (List.mem_of_getElem? (i := 32) rfl) rfl
theorem mw_289 : Cond.selects RX3 yX3_scale yX3_scale ∈ wsA := wsA_t2 (List.mem_of_getElem? (i := 33) rfl) rfl
theorem mw_290 : Cond.code yX3_scale cX3_scale 10 none ∈ wsA := wsA_t2 (List.mem_of_getElem? (i := 34) rfl) rfl
theorem mw_291 : Cond.methodLink RX3 22 yX3_clear ∈ wsA := wsA_t2 (List.mem_of_getElem? (i := 35) rfl) rfl
theorem mw_292 : Cond.methodLink RL 37 yX5_derive ∈ wsA := wsA_t3 (List.mem_of_getElem? (i := 143) rfl) rfl
theorem mw_293 : Cond.instanceMethod yX5_derive ∈ wsA := wsA_t3 (List.mem_of_getElem? (i := 144) rfl) rfl
theorem mw_294 : Cond.selects RX5 yX5_derive yX5_derive ∈ wsA := wsA_t3 (List.mem_of_getElem? (i := 145) rfl) rfl
theorem mw_295 : Cond.code yX5_derive cX5_derive 3 (some .int) ∈ wsA := wsA_t3 (List.mem_of_getElem? (i := 146) rfl) rfl
theorem mw_296 : Cond.methodLink RX5 96 yX5_deriveTo ∈ wsA := wsA_t3 (List.mem_of_getElem? (i := 147) rfl) rfl
theorem mw_297 : Cond.instanceMethod yX5_deriveTo ∈ wsA := wsA_t3 (List.mem_of_getElem? (i := 149) rfl) rfl
theorem mw_298 : Cond.selects RX5 yX5_deriveTo yX5_deriveTo ∈ wsA := wsA_s (List.mem_of_getElem? (i := 28) rfl) rfl
theorem mw_299 : Cond.code yX5_deriveTo cX5_deriveTo 4 none ∈ wsA := wsA_t3 (List.mem_of_getElem? (i := 150) rfl) rfl
theorem mw_300 : Cond.methodLink RL 38 yX4_shift ∈ wsA := wsA_t2 (List.mem_of_getElem? (i := 36) rfl) rfl
theorem mw_301 : Cond.instanceMethod yX4_shift ∈ wsA := wsA_t2 (List.mem_of_getElem? (i := 37) rfl) rfl
theorem mw_302 : Cond.selects RX4 yX4_shift yX4_shift ∈ wsA := wsA_t2 (List.mem_of_getElem? (i := 38) rfl) rfl
theorem mw_303 : Cond.code yX4_shift cX4_shift 4 (some .int) ∈ wsA := wsA_t2 (List.mem_of_getElem? (i := 39) rfl) rfl
theorem mw_304 : Cond.methodLink RX4 92 yX0_move ∈ wsA := wsA_t2 (List.mem_of_getElem? (i := 40) rfl) rfl
theorem mw_305 : Cond.instanceMethod yX0_move ∈ wsA := wsA_t2 (List.mem_of_getElem? (i := 41) rfl) rfl
theorem mw_306 : Cond.selects RX0 yX0_move yX0_move ∈ wsA := wsA_t2 (List.mem_of_getElem? (i := 42) rfl) rfl
theorem mw_307 : Cond.code yX0_move cX0_move 5 none ∈ wsA := wsA_t2 (List.mem_of_getElem? (i := 43) rfl) rfl
theorem mw_308 : Cond.methodLink RX0 67 yX3_load ∈ wsA := wsA_t2 (List.mem_of_getElem? (i := 44) rfl) rfl
theorem mw_309 : Cond.methodLink RX0 70 yX3_scale ∈ wsA := wsA_t2 (List.mem_of_getElem? (i := 45) rfl) rfl
theorem mw_310 : Cond.methodLink RL 41 yX5_shift ∈ wsA := wsA_t3 (List.mem_of_getElem? (i := 151) rfl) rfl
theorem mw_311 : Cond.instanceMethod yX5_shift ∈ wsA := wsA_t3 (List.mem_of_getElem? (i := 152) rfl) rfl
theorem mw_312 : Cond.selects RX5 yX5_shift yX5_shift ∈ wsA := wsA_t3 (List.mem_of_getElem? (i := 153) rfl) rfl
theorem mw_313 : Cond.code yX5_shift cX5_shift 6 (some .int) ∈ wsA := wsA_t3 (List.mem_of_getElem? (i := 154) rfl) rfl
theorem mw_314 : Cond.methodLink RL 42 yX4_remainder ∈ wsA := wsA_t2 (List.mem_of_getElem? (i := 46) rfl) rfl
theorem mw_315 : Cond.instanceMethod yX4_remainder ∈ wsA := wsA_t2 (List.mem_of_getElem? (i := 47) rfl) rfl
theorem mw_316 : Cond.selects RX4 yX4_remainder yX4_remainder ∈ wsA := wsA_t2 (List.mem_of_getElem? (i := 48) rfl) rfl
theorem mw_317 : Cond.code yX4_remainder cX4_remainder 4 (some .int) ∈ wsA := wsA_t2 (List.mem_of_getElem? (i := 49) rfl) rfl
theorem mw_318 : Cond.methodLink RX4 96 yX0_rest ∈ wsA := wsA_t2 (List.mem_of_getElem? (i := 50) rfl) rfl
theorem mw_319 : Cond.instanceMethod yX0_rest ∈ wsA := wsA_t2 (List.mem_of_getElem? (i := 51) rfl) rfl
theorem mw_320 : Cond.selects RX0 yX0_rest yX0_rest ∈ wsA := wsA_t2 (List.mem_of_getElem? (i := 52) rfl) rfl
theorem mw_321 : Cond.code yX0_rest cX0_rest 4 none ∈ wsA := wsA_t2 (List.mem_of_getElem? (i := 53) rfl) rfl
theorem mw_322 : Cond.methodLink RX0 74 yX0_reduce ∈ wsA := wsA_t2 (List.mem_of_getElem? (i := 54) rfl) rfl
theorem mw_323 : Cond.instanceMethod yX0_reduce ∈ wsA := wsA_t2 (List.mem_of_getElem? (i := 55) rfl) rfl
theorem mw_324 : Cond.selects RX0 yX0_reduce yX0_reduce ∈ wsA := wsA_t2 (List.mem_of_getElem? (i := 56) rfl) rfl
theorem mw_325 : Cond.code yX0_reduce cX0_reduce 6 none ∈ wsA := wsA_t2 (List.mem_of_getElem? (i := 57) rfl) rfl
theorem mw_326 : Cond.methodLink RX0 84 yX3_clear ∈ wsA := wsA_t2 (List.mem_of_getElem? (i := 58) rfl) rfl
theorem mw_327 : Cond.methodLink RX0 88 yX3_negate ∈ wsA := wsA_t2 (List.mem_of_getElem? (i := 59) rfl) rfl
theorem mw_328 : Cond.instanceMethod yX3_negate ∈ wsA := wsA_t2 (List.mem_of_getElem? (i := 60) rfl) rfl
theorem mw_329 : Cond.selects RX3 yX3_negate yX3_negate ∈ wsA := wsA_t2 (List.mem_of_getElem? (i := 61) rfl) rfl
theorem mw_330 : Cond.code yX3_negate cX3_negate 1 none ∈ wsA := wsA_t2 (List.mem_of_getElem? (i := 62) rfl) rfl
theorem mw_331 : Cond.methodLink RX0 77 yX2_leadSign ∈ wsA := wsA_t2 (List.mem_of_getElem? (i := 63) rfl) rfl
theorem mw_332 : Cond.instanceMethod yX2_leadSign ∈ wsA := wsA_t2 (List.mem_of_getElem? (i := 64) rfl) rfl
theorem mw_333 : Cond.selects RX2 yX2_leadSign yX2_leadSign ∈ wsA := wsA_t2 (List.mem_of_getElem? (i := 65) rfl) rfl
theorem mw_334 : Cond.code yX2_leadSign cX2_leadSign 1 (some .int) ∈ wsA := wsA_t2 (List.mem_of_getElem? (i := 66) rfl) rfl
theorem mw_335 : Cond.methodLink RX0 81 yX2_negate ∈ wsA := wsA_t2 (List.mem_of_getElem? (i := 67) rfl) rfl
theorem mw_336 : Cond.instanceMethod yX2_negate ∈ wsA := wsA_t2 (List.mem_of_getElem? (i := 68) rfl) rfl
theorem mw_337 : Cond.selects RX2 yX2_negate yX2_negate ∈ wsA := wsA_t2 (List.mem_of_getElem? (i := 69) rfl) rfl
theorem mw_338 : Cond.code yX2_negate cX2_negate 2 none ∈ wsA := wsA_t2 (List.mem_of_getElem? (i := 70) rfl) rfl
theorem mw_339 : Cond.methodLink RX2 42 yX3_negate ∈ wsA := wsA_t2 (List.mem_of_getElem? (i := 71) rfl) rfl
theorem mw_340 : Cond.methodLink RL 45 yX5_remainder ∈ wsA := wsA_t3 (List.mem_of_getElem? (i := 155) rfl) rfl
theorem mw_341 : Cond.instanceMethod yX5_remainder ∈ wsA := wsA_t3 (List.mem_of_getElem? (i := 156) rfl) rfl
theorem mw_342 : Cond.selects RX5 yX5_remainder yX5_remainder ∈ wsA := wsA_t3 (List.mem_of_getElem? (i := 157) rfl) rfl
theorem mw_343 : Cond.code yX5_remainder cX5_remainder 4 (some .int) ∈ wsA := wsA_t3 (List.mem_of_getElem? (i := 158) rfl) rfl
theorem mw_344 : Cond.methodLink RX5 88 yX5_remain ∈ wsA := wsA_t3 (List.mem_of_getElem? (i := 159) rfl) rfl
theorem mw_345 : Cond.instanceMethod yX5_remain ∈ wsA := wsA_t3 (List.mem_of_getElem? (i := 161) rfl) rfl
theorem mw_346 : Cond.selects RX5 yX5_remain yX5_remain ∈ wsA := wsA_s (List.mem_of_getElem? (i := 29) rfl) rfl
theorem mw_347 : Cond.code yX5_remain cX5_remain 7 none ∈ wsA := wsA_t3 (List.mem_of_getElem? (i := 162) rfl) rfl
theorem mw_348 : Cond.methodLink RL 46 yX4_quotient ∈ wsA := wsA_t2 (List.mem_of_getElem? (i := 72) rfl) rfl
theorem mw_349 : Cond.instanceMethod yX4_quotient ∈ wsA := wsA_t2 (List.mem_of_getElem? (i := 73) rfl) rfl
theorem mw_350 : Cond.selects RX4 yX4_quotient yX4_quotient ∈ wsA := wsA_t2 (List.mem_of_getElem? (i := 74) rfl) rfl
theorem mw_351 : Cond.code yX4_quotient cX4_quotient 4 (some .int) ∈ wsA := wsA_t2 (List.mem_of_getElem? (i := 75) rfl) rfl
theorem mw_352 : Cond.methodLink RX4 99 yX0_splits ∈ wsA := wsA_t2 (List.mem_of_getElem? (i := 76) rfl) rfl
theorem mw_353 : Cond.instanceMethod yX0_splits ∈ wsA := wsA_t2 (List.mem_of_getElem? (i := 77) rfl) rfl
theorem mw_354 : Cond.selects RX0 yX0_splits yX0_splits ∈ wsA := wsA_t2 (List.mem_of_getElem? (i := 78) rfl) rfl
theorem mw_355 : Cond.code yX0_splits cX0_splits 6 (some .boolean) ∈ wsA := wsA_t2 (List.mem_of_getElem? (i := 79) rfl) rfl
theorem mw_356 : Cond.methodLink RX0 89 yX3_divide ∈ wsA := wsA_t2 (List.mem_of_getElem? (i := 80) rfl) rfl
theorem mw_357 : Cond.instanceMethod yX3_divide ∈ wsA := wsA_t2 (List.mem_of_getElem? (i := 81) rfl) rfl
theorem mw_358 : Cond.selects RX3 yX3_divide yX3_divide ∈ wsA := wsA_t2 (List.mem_of_getElem? (i := 82) rfl) rfl
theorem mw_359 : Cond.code yX3_divide cX3_divide 15 none ∈ wsA := wsA_t2 (List.mem_of_getElem? (i := 83) rfl) rfl
theorem mw_360 : Cond.methodLink RX3 68 yJ6_numberOfLeadingZeros_0f7a4 ∈ wsA := wsA_t2 (List.mem_of_getElem? (i := 84) rfl) rfl
theorem mw_361 : Cond.static yJ6_numberOfLeadingZeros_0f7a4 ∈ wsA := wsA_t2 (List.mem_of_getElem? (i := 85) rfl) rfl
theorem mw_362 : Cond.initialized RJ6 ∈ wsA := wsA_t1 (List.mem_of_getElem? (i := 10) rfl) rfl
theorem mw_363 : Cond.code yJ6_numberOfLeadingZeros_0f7a4 cJ6_numberOfLeadingZeros_0f7a4 2 (some .int) ∈ wsA := wsA_t2 (List.mem_of_getElem? (i := 86) rfl) rfl
theorem mw_364 : Cond.constant RJ6 264 (65536) ∈ wsA := wsA_t2 (List.mem_of_getElem? (i := 87) rfl) rfl
theorem mw_365 : Cond.methodLink RX3 74 yX3_window ∈ wsA := wsA_t2 (List.mem_of_getElem? (i := 88) rfl) rfl
theorem mw_366 : Cond.instanceMethod yX3_window ∈ wsA := wsA_t2 (List.mem_of_getElem? (i := 90) rfl) rfl
theorem mw_367 : Cond.selects RX3 yX3_window yX3_window ∈ wsA := wsA_s (List.mem_of_getElem? (i := 5) rfl) rfl
theorem mw_368 : Cond.code yX3_window cX3_window 5 (some .long) ∈ wsA := wsA_t2 (List.mem_of_getElem? (i := 91) rfl) rfl
theorem mw_369 : Cond.methodLink RX3 78 yX3_guess ∈ wsA := wsA_t2 (List.mem_of_getElem? (i := 92) rfl) rfl
theorem mw_370 : Cond.static yX3_guess ∈ wsA := wsA_t2 (List.mem_of_getElem? (i := 93) rfl) rfl
theorem mw_371 : Cond.code yX3_guess cX3_guess 13 (some .long) ∈ wsA := wsA_t2 (List.mem_of_getElem? (i := 94) rfl) rfl
theorem mw_372 : Cond.methodLink RX3 90 Lib.MathLoose.min_long.x ∈ wsA := wsA_t2 (List.mem_of_getElem? (i := 95) rfl) rfl
theorem mw_373 : Cond.static Lib.MathLoose.min_long.x ∈ wsA := wsA_t2 (List.mem_of_getElem? (i := 96) rfl) rfl
theorem mw_374 : Cond.code Lib.MathLoose.min_long.x Lib.MathLoose.min_long.code 4 (some .long) ∈ wsA := wsA_t2 (List.mem_of_getElem? (i := 97) rfl) rfl
theorem mw_375 : Cond.methodLink RX3 82 yX3_takesTooMuch ∈ wsA := wsA_t2 (List.mem_of_getElem? (i := 98) rfl) rfl
theorem mw_376 : Cond.instanceMethod yX3_takesTooMuch ∈ wsA := wsA_t2 (List.mem_of_getElem? (i := 100) rfl) rfl
theorem mw_377 : Cond.selects RX3 yX3_takesTooMuch yX3_takesTooMuch ∈ wsA := wsA_s (List.mem_of_getElem? (i := 6) rfl) rfl
theorem mw_378 : Cond.code yX3_takesTooMuch cX3_takesTooMuch 10 (some .boolean) ∈ wsA := wsA_t2 (List.mem_of_getElem? (i := 101) rfl) rfl
theorem mw_379 : Cond.methodLink RX3 86 yX3_giveBack ∈ wsA := wsA_t2 (List.mem_of_getElem? (i := 102) rfl) rfl
theorem mw_380 : Cond.instanceMethod yX3_giveBack ∈ wsA := wsA_t2 (List.mem_of_getElem? (i := 104) rfl) rfl
theorem mw_381 : Cond.selects RX3 yX3_giveBack yX3_giveBack ∈ wsA := wsA_s (List.mem_of_getElem? (i := 7) rfl) rfl
theorem mw_382 : Cond.code yX3_giveBack cX3_giveBack 6 none ∈ wsA := wsA_t2 (List.mem_of_getElem? (i := 105) rfl) rfl
theorem mw_383 : Cond.methodLink RL 49 yX5_quotient ∈ wsA := wsA_t3 (List.mem_of_getElem? (i := 163) rfl) rfl
theorem mw_384 : Cond.instanceMethod yX5_quotient ∈ wsA := wsA_t3 (List.mem_of_getElem? (i := 164) rfl) rfl
theorem mw_385 : Cond.selects RX5 yX5_quotient yX5_quotient ∈ wsA := wsA_t3 (List.mem_of_getElem? (i := 165) rfl) rfl
theorem mw_386 : Cond.code yX5_quotient cX5_quotient 4 (some .int) ∈ wsA := wsA_t3 (List.mem_of_getElem? (i := 166) rfl) rfl
theorem mw_387 : Cond.methodLink RX5 102 yX5_over ∈ wsA := wsA_t3 (List.mem_of_getElem? (i := 167) rfl) rfl
theorem mw_388 : Cond.instanceMethod yX5_over ∈ wsA := wsA_t3 (List.mem_of_getElem? (i := 169) rfl) rfl
theorem mw_389 : Cond.selects RX5 yX5_over yX5_over ∈ wsA := wsA_s (List.mem_of_getElem? (i := 30) rfl) rfl
theorem mw_390 : Cond.code yX5_over cX5_over 6 (some .boolean) ∈ wsA := wsA_t3 (List.mem_of_getElem? (i := 170) rfl) rfl
theorem mw_391 : Cond.methodLink RX5 62 yX5_divide ∈ wsA := wsA_t3 (List.mem_of_getElem? (i := 171) rfl) rfl
theorem mw_392 : Cond.instanceMethod yX5_divide ∈ wsA := wsA_t3 (List.mem_of_getElem? (i := 173) rfl) rfl
theorem mw_393 : Cond.selects RX5 yX5_divide yX5_divide ∈ wsA := wsA_s (List.mem_of_getElem? (i := 31) rfl) rfl
theorem mw_394 : Cond.code yX5_divide cX5_divide 7 none ∈ wsA := wsA_t3 (List.mem_of_getElem? (i := 174) rfl) rfl
theorem mw_395 : Cond.methodLink RX5 59 yX5_halve ∈ wsA := wsA_t3 (List.mem_of_getElem? (i := 175) rfl) rfl
theorem mw_396 : Cond.instanceMethod yX5_halve ∈ wsA := wsA_t3 (List.mem_of_getElem? (i := 177) rfl) rfl
theorem mw_397 : Cond.selects RX5 yX5_halve yX5_halve ∈ wsA := wsA_s (List.mem_of_getElem? (i := 32) rfl) rfl
theorem mw_398 : Cond.code yX5_halve cX5_halve 5 none ∈ wsA := wsA_t3 (List.mem_of_getElem? (i := 178) rfl) rfl
theorem mw_399 : Cond.methodLink RL 50 yX4_gcd ∈ wsA := wsA_t2 (List.mem_of_getElem? (i := 106) rfl) rfl
theorem mw_400 : Cond.instanceMethod yX4_gcd ∈ wsA := wsA_t2 (List.mem_of_getElem? (i := 107) rfl) rfl
theorem mw_401 : Cond.selects RX4 yX4_gcd yX4_gcd ∈ wsA := wsA_t2 (List.mem_of_getElem? (i := 108) rfl) rfl
theorem mw_402 : Cond.code yX4_gcd cX4_gcd 4 (some .int) ∈ wsA := wsA_t2 (List.mem_of_getElem? (i := 109) rfl) rfl
theorem mw_403 : Cond.methodLink RX4 106 yX1_commonDivisor ∈ wsA := wsA_t2 (List.mem_of_getElem? (i := 110) rfl) rfl
theorem mw_404 : Cond.instanceMethod yX1_commonDivisor ∈ wsA := wsA_t2 (List.mem_of_getElem? (i := 111) rfl) rfl
theorem mw_405 : Cond.selects RX1 yX1_commonDivisor yX1_commonDivisor ∈ wsA := wsA_t2 (List.mem_of_getElem? (i := 112) rfl) rfl
theorem mw_406 : Cond.code yX1_commonDivisor cX1_commonDivisor 4 (some (.object "BigPolys$Poly")) ∈ wsA := wsA_t2 (List.mem_of_getElem? (i := 113) rfl) rfl
theorem mw_407 : Cond.methodLink RX1 55 yX2_load ∈ wsA := wsA_t2 (List.mem_of_getElem? (i := 114) rfl) rfl
theorem mw_408 : Cond.methodLink RX1 59 yX0_makePrimitive ∈ wsA := wsA_t2 (List.mem_of_getElem? (i := 115) rfl) rfl
theorem mw_409 : Cond.instanceMethod yX0_makePrimitive ∈ wsA := wsA_t2 (List.mem_of_getElem? (i := 116) rfl) rfl
theorem mw_410 : Cond.selects RX0 yX0_makePrimitive yX0_makePrimitive ∈ wsA := wsA_t2 (List.mem_of_getElem? (i := 117) rfl) rfl
theorem mw_411 : Cond.code yX0_makePrimitive cX0_makePrimitive 3 none ∈ wsA := wsA_t2 (List.mem_of_getElem? (i := 118) rfl) rfl
theorem mw_412 : Cond.methodLink RX0 95 yX3_isUnit ∈ wsA := wsA_t2 (List.mem_of_getElem? (i := 119) rfl) rfl
theorem mw_413 : Cond.instanceMethod yX3_isUnit ∈ wsA := wsA_t2 (List.mem_of_getElem? (i := 120) rfl) rfl
theorem mw_414 : Cond.selects RX3 yX3_isUnit yX3_isUnit ∈ wsA := wsA_t2 (List.mem_of_getElem? (i := 121) rfl) rfl
theorem mw_415 : Cond.code yX3_isUnit cX3_isUnit 1 (some .boolean) ∈ wsA := wsA_t2 (List.mem_of_getElem? (i := 122) rfl) rfl
theorem mw_416 : Cond.methodLink RX0 99 yX0_meet ∈ wsA := wsA_t2 (List.mem_of_getElem? (i := 123) rfl) rfl
theorem mw_417 : Cond.instanceMethod yX0_meet ∈ wsA := wsA_t2 (List.mem_of_getElem? (i := 125) rfl) rfl
theorem mw_418 : Cond.selects RX0 yX0_meet yX0_meet ∈ wsA := wsA_s (List.mem_of_getElem? (i := 8) rfl) rfl
theorem mw_419 : Cond.code yX0_meet cX0_meet 5 none ∈ wsA := wsA_t2 (List.mem_of_getElem? (i := 126) rfl) rfl
theorem mw_420 : Cond.constant RX0 106 (1000000) ∈ wsA := wsA_t2 (List.mem_of_getElem? (i := 127) rfl) rfl
theorem mw_421 : Cond.methodLink RX0 102 yX0_divideAll ∈ wsA := wsA_t2 (List.mem_of_getElem? (i := 128) rfl) rfl
theorem mw_422 : Cond.instanceMethod yX0_divideAll ∈ wsA := wsA_t2 (List.mem_of_getElem? (i := 129) rfl) rfl
theorem mw_423 : Cond.selects RX0 yX0_divideAll yX0_divideAll ∈ wsA := wsA_t2 (List.mem_of_getElem? (i := 130) rfl) rfl
theorem mw_424 : Cond.code yX0_divideAll cX0_divideAll 4 none ∈ wsA := wsA_t2 (List.mem_of_getElem? (i := 131) rfl) rfl
theorem mw_425 : Cond.methodLink RX1 62 yX1_build ∈ wsA := wsA_t2 (List.mem_of_getElem? (i := 132) rfl) rfl
theorem mw_426 : Cond.instanceMethod yX1_build ∈ wsA := wsA_t2 (List.mem_of_getElem? (i := 134) rfl) rfl
theorem mw_427 : Cond.selects RX1 yX1_build yX1_build ∈ wsA := wsA_s (List.mem_of_getElem? (i := 9) rfl) rfl
theorem mw_428 : Cond.code yX1_build cX1_build 3 none ∈ wsA := wsA_t2 (List.mem_of_getElem? (i := 135) rfl) rfl
theorem mw_429 : Cond.fieldLink RX1 83 "BigPolys$Chain" "last" "I" ∈ wsA := wsA_t1 (List.mem_of_getElem? (i := 117) rfl) rfl
theorem mw_430 : Cond.methodLink RX1 89 yX3_setOne ∈ wsA := wsA_t2 (List.mem_of_getElem? (i := 136) rfl) rfl
theorem mw_431 : Cond.instanceMethod yX3_setOne ∈ wsA := wsA_t2 (List.mem_of_getElem? (i := 137) rfl) rfl
theorem mw_432 : Cond.selects RX3 yX3_setOne yX3_setOne ∈ wsA := wsA_t2 (List.mem_of_getElem? (i := 138) rfl) rfl
theorem mw_433 : Cond.code yX3_setOne cX3_setOne 1 none ∈ wsA := wsA_t2 (List.mem_of_getElem? (i := 139) rfl) rfl
theorem mw_434 : Cond.methodLink RX3 25 yX3_put ∈ wsA := wsA_t2 (List.mem_of_getElem? (i := 140) rfl) rfl
theorem mw_435 : Cond.methodLink RX1 93 yX0_reduce ∈ wsA := wsA_t2 (List.mem_of_getElem? (i := 141) rfl) rfl
theorem mw_436 : Cond.methodLink RX1 96 yX3_load ∈ wsA := wsA_t2 (List.mem_of_getElem? (i := 142) rfl) rfl
theorem mw_437 : Cond.methodLink RX1 99 yX1_raise ∈ wsA := wsA_t2 (List.mem_of_getElem? (i := 143) rfl) rfl
theorem mw_438 : Cond.instanceMethod yX1_raise ∈ wsA := wsA_t2 (List.mem_of_getElem? (i := 145) rfl) rfl
theorem mw_439 : Cond.selects RX1 yX1_raise yX1_raise ∈ wsA := wsA_s (List.mem_of_getElem? (i := 10) rfl) rfl
theorem mw_440 : Cond.code yX1_raise cX1_raise 4 none ∈ wsA := wsA_t2 (List.mem_of_getElem? (i := 146) rfl) rfl
theorem mw_441 : Cond.methodLink RX1 114 yX3_product ∈ wsA := wsA_t2 (List.mem_of_getElem? (i := 147) rfl) rfl
theorem mw_442 : Cond.methodLink RX1 103 yX0_divideAll ∈ wsA := wsA_t2 (List.mem_of_getElem? (i := 148) rfl) rfl
theorem mw_443 : Cond.methodLink RX1 107 yX2_negate ∈ wsA := wsA_t2 (List.mem_of_getElem? (i := 149) rfl) rfl
theorem mw_444 : Cond.methodLink RX1 110 yX1_follow ∈ wsA := wsA_t2 (List.mem_of_getElem? (i := 150) rfl) rfl
theorem mw_445 : Cond.instanceMethod yX1_follow ∈ wsA := wsA_t2 (List.mem_of_getElem? (i := 152) rfl) rfl
theorem mw_446 : Cond.selects RX1 yX1_follow yX1_follow ∈ wsA := wsA_s (List.mem_of_getElem? (i := 11) rfl) rfl
theorem mw_447 : Cond.code yX1_follow cX1_follow 4 none ∈ wsA := wsA_t2 (List.mem_of_getElem? (i := 153) rfl) rfl
theorem mw_448 : Cond.methodLink RX1 125 yX3_negate ∈ wsA := wsA_t2 (List.mem_of_getElem? (i := 154) rfl) rfl
theorem mw_449 : Cond.methodLink RX1 126 yX3_divide ∈ wsA := wsA_t2 (List.mem_of_getElem? (i := 155) rfl) rfl
theorem mw_450 : Cond.methodLink RX1 65 yX1_divisorAtEnd ∈ wsA := wsA_t2 (List.mem_of_getElem? (i := 156) rfl) rfl
theorem mw_451 : Cond.instanceMethod yX1_divisorAtEnd ∈ wsA := wsA_t2 (List.mem_of_getElem? (i := 158) rfl) rfl
theorem mw_452 : Cond.selects RX1 yX1_divisorAtEnd yX1_divisorAtEnd ∈ wsA := wsA_s (List.mem_of_getElem? (i := 12) rfl) rfl
theorem mw_453 : Cond.code yX1_divisorAtEnd cX1_divisorAtEnd 2 (some (.object "BigPolys$Poly")) ∈ wsA := wsA_t2 (List.mem_of_getElem? (i := 159) rfl) rfl
theorem mw_454 : Cond.methodLink RX1 72 yX2_setOne ∈ wsA := wsA_t2 (List.mem_of_getElem? (i := 160) rfl) rfl
theorem mw_455 : Cond.instanceMethod yX2_setOne ∈ wsA := wsA_t2 (List.mem_of_getElem? (i := 161) rfl) rfl
theorem mw_456 : Cond.selects RX2 yX2_setOne yX2_setOne ∈ wsA := wsA_t2 (List.mem_of_getElem? (i := 162) rfl) rfl
theorem mw_457 : Cond.code yX2_setOne cX2_setOne 1 none ∈ wsA := wsA_t2 (List.mem_of_getElem? (i := 163) rfl) rfl
theorem mw_458 : Cond.methodLink RX2 27 yX2_clear ∈ wsA := wsA_t2 (List.mem_of_getElem? (i := 164) rfl) rfl
theorem mw_459 : Cond.methodLink RX2 28 yX3_setOne ∈ wsA := wsA_t2 (List.mem_of_getElem? (i := 165) rfl) rfl
theorem mw_460 : Cond.methodLink RX1 129 yX0_makeSmall ∈ wsA := wsA_t2 (List.mem_of_getElem? (i := 166) rfl) rfl
theorem mw_461 : Cond.instanceMethod yX0_makeSmall ∈ wsA := wsA_t2 (List.mem_of_getElem? (i := 167) rfl) rfl
theorem mw_462 : Cond.selects RX0 yX0_makeSmall yX0_makeSmall ∈ wsA := wsA_t2 (List.mem_of_getElem? (i := 168) rfl) rfl
theorem mw_463 : Cond.code yX0_makeSmall cX0_makeSmall 5 none ∈ wsA := wsA_t2 (List.mem_of_getElem? (i := 169) rfl) rfl
theorem mw_464 : Cond.methodLink RL 53 yX5_gcd ∈ wsA := wsA_t3 (List.mem_of_getElem? (i := 179) rfl) rfl
theorem mw_465 : Cond.instanceMethod yX5_gcd ∈ wsA := wsA_t3 (List.mem_of_getElem? (i := 180) rfl) rfl
theorem mw_466 : Cond.selects RX5 yX5_gcd yX5_gcd ∈ wsA := wsA_t3 (List.mem_of_getElem? (i := 181) rfl) rfl
theorem mw_467 : Cond.code yX5_gcd cX5_gcd 4 (some .int) ∈ wsA := wsA_t3 (List.mem_of_getElem? (i := 182) rfl) rfl
theorem mw_468 : Cond.methodLink RX5 99 yX5_divisor ∈ wsA := wsA_t3 (List.mem_of_getElem? (i := 183) rfl) rfl
theorem mw_469 : Cond.instanceMethod yX5_divisor ∈ wsA := wsA_t3 (List.mem_of_getElem? (i := 185) rfl) rfl
theorem mw_470 : Cond.selects RX5 yX5_divisor yX5_divisor ∈ wsA := wsA_s (List.mem_of_getElem? (i := 33) rfl) rfl
theorem mw_471 : Cond.code yX5_divisor cX5_divisor 1 none ∈ wsA := wsA_t3 (List.mem_of_getElem? (i := 186) rfl) rfl
theorem mw_472 : Cond.methodLink RX5 81 yX5_makePrimitive ∈ wsA := wsA_t3 (List.mem_of_getElem? (i := 187) rfl) rfl
theorem mw_473 : Cond.instanceMethod yX5_makePrimitive ∈ wsA := wsA_t3 (List.mem_of_getElem? (i := 189) rfl) rfl
theorem mw_474 : Cond.selects RX5 yX5_makePrimitive yX5_makePrimitive ∈ wsA := wsA_s (List.mem_of_getElem? (i := 34) rfl) rfl
theorem mw_475 : Cond.code yX5_makePrimitive cX5_makePrimitive 8 none ∈ wsA := wsA_t3 (List.mem_of_getElem? (i := 190) rfl) rfl
theorem mw_476 : Cond.methodLink RX5 69 yX5_common ∈ wsA := wsA_t3 (List.mem_of_getElem? (i := 191) rfl) rfl
theorem mw_477 : Cond.instanceMethod yX5_common ∈ wsA := wsA_t3 (List.mem_of_getElem? (i := 193) rfl) rfl
theorem mw_478 : Cond.selects RX5 yX5_common yX5_common ∈ wsA := wsA_s (List.mem_of_getElem? (i := 35) rfl) rfl
theorem mw_479 : Cond.code yX5_common cX5_common 6 none ∈ wsA := wsA_t3 (List.mem_of_getElem? (i := 194) rfl) rfl
theorem mw_480 : Cond.methodLink RL 54 yX4_once ∈ wsA := wsA_t2 (List.mem_of_getElem? (i := 170) rfl) rfl
theorem mw_481 : Cond.instanceMethod yX4_once ∈ wsA := wsA_t2 (List.mem_of_getElem? (i := 171) rfl) rfl
theorem mw_482 : Cond.selects RX4 yX4_once yX4_once ∈ wsA := wsA_t2 (List.mem_of_getElem? (i := 172) rfl) rfl
theorem mw_483 : Cond.code yX4_once cX4_once 3 (some .int) ∈ wsA := wsA_t2 (List.mem_of_getElem? (i := 173) rfl) rfl
theorem mw_484 : Cond.methodLink RX4 110 yX1_squareFree ∈ wsA := wsA_t2 (List.mem_of_getElem? (i := 174) rfl) rfl
theorem mw_485 : Cond.instanceMethod yX1_squareFree ∈ wsA := wsA_t2 (List.mem_of_getElem? (i := 175) rfl) rfl
theorem mw_486 : Cond.selects RX1 yX1_squareFree yX1_squareFree ∈ wsA := wsA_t2 (List.mem_of_getElem? (i := 176) rfl) rfl
theorem mw_487 : Cond.code yX1_squareFree cX1_squareFree 2 (some (.object "BigPolys$Poly")) ∈ wsA := wsA_t2 (List.mem_of_getElem? (i := 177) rfl) rfl
theorem mw_488 : Cond.methodLink RX1 69 yX1_begin ∈ wsA := wsA_t2 (List.mem_of_getElem? (i := 178) rfl) rfl
theorem mw_489 : Cond.instanceMethod yX1_begin ∈ wsA := wsA_t2 (List.mem_of_getElem? (i := 180) rfl) rfl
theorem mw_490 : Cond.selects RX1 yX1_begin yX1_begin ∈ wsA := wsA_s (List.mem_of_getElem? (i := 13) rfl) rfl
theorem mw_491 : Cond.code yX1_begin cX1_begin 2 none ∈ wsA := wsA_t2 (List.mem_of_getElem? (i := 181) rfl) rfl
theorem mw_492 : Cond.methodLink RX1 86 yX2_slopeOf ∈ wsA := wsA_t2 (List.mem_of_getElem? (i := 182) rfl) rfl
theorem mw_493 : Cond.methodLink RX1 75 yX0_splits ∈ wsA := wsA_t2 (List.mem_of_getElem? (i := 183) rfl) rfl
theorem mw_494 : Cond.methodLink RL 57 yX5_once ∈ wsA := wsA_t3 (List.mem_of_getElem? (i := 195) rfl) rfl
theorem mw_495 : Cond.instanceMethod yX5_once ∈ wsA := wsA_t3 (List.mem_of_getElem? (i := 196) rfl) rfl
theorem mw_496 : Cond.selects RX5 yX5_once yX5_once ∈ wsA := wsA_t3 (List.mem_of_getElem? (i := 197) rfl) rfl
theorem mw_497 : Cond.code yX5_once cX5_once 3 (some .int) ∈ wsA := wsA_t3 (List.mem_of_getElem? (i := 198) rfl) rfl
theorem mw_498 : Cond.methodLink RX5 125 yX5_onceOf ∈ wsA := wsA_t3 (List.mem_of_getElem? (i := 199) rfl) rfl
theorem mw_499 : Cond.instanceMethod yX5_onceOf ∈ wsA := wsA_t3 (List.mem_of_getElem? (i := 201) rfl) rfl
theorem mw_500 : Cond.selects RX5 yX5_onceOf yX5_onceOf ∈ wsA := wsA_s (List.mem_of_getElem? (i := 36) rfl) rfl
theorem mw_501 : Cond.code yX5_onceOf cX5_onceOf 2 none ∈ wsA := wsA_t3 (List.mem_of_getElem? (i := 202) rfl) rfl
theorem mw_502 : Cond.methodLink RL 58 yX4_sign ∈ wsA := wsA_t2 (List.mem_of_getElem? (i := 184) rfl) rfl
theorem mw_503 : Cond.instanceMethod yX4_sign ∈ wsA := wsA_t2 (List.mem_of_getElem? (i := 185) rfl) rfl
theorem mw_504 : Cond.selects RX4 yX4_sign yX4_sign ∈ wsA := wsA_t2 (List.mem_of_getElem? (i := 186) rfl) rfl
theorem mw_505 : Cond.code yX4_sign cX4_sign 6 (some .int) ∈ wsA := wsA_t2 (List.mem_of_getElem? (i := 187) rfl) rfl
theorem mw_506 : Cond.methodLink RX4 118 Lib.MathLoose.abs_long.x ∈ wsA := wsA_t2 (List.mem_of_getElem? (i := 188) rfl) rfl
theorem mw_507 : Cond.static Lib.MathLoose.abs_long.x ∈ wsA := wsA_t2 (List.mem_of_getElem? (i := 189) rfl) rfl
theorem mw_508 : Cond.code Lib.MathLoose.abs_long.x Lib.MathLoose.abs_long.code 2 (some .long) ∈ wsA := wsA_t2 (List.mem_of_getElem? (i := 190) rfl) rfl
theorem mw_509 : Cond.methodLink RX4 124 yX0_signAt ∈ wsA := wsA_t2 (List.mem_of_getElem? (i := 191) rfl) rfl
theorem mw_510 : Cond.instanceMethod yX0_signAt ∈ wsA := wsA_t2 (List.mem_of_getElem? (i := 192) rfl) rfl
theorem mw_511 : Cond.selects RX0 yX0_signAt yX0_signAt ∈ wsA := wsA_t2 (List.mem_of_getElem? (i := 193) rfl) rfl
theorem mw_512 : Cond.code yX0_signAt cX0_signAt 7 (some .int) ∈ wsA := wsA_t2 (List.mem_of_getElem? (i := 194) rfl) rfl
theorem mw_513 : Cond.methodLink RX0 92 yX3_setOne ∈ wsA := wsA_t2 (List.mem_of_getElem? (i := 195) rfl) rfl
theorem mw_514 : Cond.methodLink RL 61 yX5_sign ∈ wsA := wsA_t3 (List.mem_of_getElem? (i := 203) rfl) rfl
theorem mw_515 : Cond.instanceMethod yX5_sign ∈ wsA := wsA_t3 (List.mem_of_getElem? (i := 204) rfl) rfl
theorem mw_516 : Cond.selects RX5 yX5_sign yX5_sign ∈ wsA := wsA_t3 (List.mem_of_getElem? (i := 205) rfl) rfl
theorem mw_517 : Cond.code yX5_sign cX5_sign 4 (some .int) ∈ wsA := wsA_t3 (List.mem_of_getElem? (i := 206) rfl) rfl
theorem mw_518 : Cond.methodLink RX5 128 yX5_signAt ∈ wsA := wsA_t3 (List.mem_of_getElem? (i := 207) rfl) rfl
theorem mw_519 : Cond.instanceMethod yX5_signAt ∈ wsA := wsA_t3 (List.mem_of_getElem? (i := 209) rfl) rfl
theorem mw_520 : Cond.selects RX5 yX5_signAt yX5_signAt ∈ wsA := wsA_s (List.mem_of_getElem? (i := 37) rfl) rfl
theorem mw_521 : Cond.code yX5_signAt cX5_signAt 7 (some .int) ∈ wsA := wsA_t3 (List.mem_of_getElem? (i := 210) rfl) rfl
theorem mw_522 : Cond.methodLink RL 62 yX4_roots ∈ wsA := wsA_t2 (List.mem_of_getElem? (i := 196) rfl) rfl
theorem mw_523 : Cond.instanceMethod yX4_roots ∈ wsA := wsA_t2 (List.mem_of_getElem? (i := 197) rfl) rfl
theorem mw_524 : Cond.selects RX4 yX4_roots yX4_roots ∈ wsA := wsA_t2 (List.mem_of_getElem? (i := 198) rfl) rfl
theorem mw_525 : Cond.code yX4_roots cX4_roots 4 (some .int) ∈ wsA := wsA_t2 (List.mem_of_getElem? (i := 199) rfl) rfl
theorem mw_526 : Cond.methodLink RX4 128 yX1_prepare ∈ wsA := wsA_t2 (List.mem_of_getElem? (i := 200) rfl) rfl
theorem mw_527 : Cond.instanceMethod yX1_prepare ∈ wsA := wsA_t2 (List.mem_of_getElem? (i := 201) rfl) rfl
theorem mw_528 : Cond.selects RX1 yX1_prepare yX1_prepare ∈ wsA := wsA_t2 (List.mem_of_getElem? (i := 202) rfl) rfl
theorem mw_529 : Cond.code yX1_prepare cX1_prepare 2 none ∈ wsA := wsA_t2 (List.mem_of_getElem? (i := 203) rfl) rfl
theorem mw_530 : Cond.methodLink RX4 131 yX1_changes ∈ wsA := wsA_t2 (List.mem_of_getElem? (i := 204) rfl) rfl
theorem mw_531 : Cond.instanceMethod yX1_changes ∈ wsA := wsA_t2 (List.mem_of_getElem? (i := 205) rfl) rfl
theorem mw_532 : Cond.selects RX1 yX1_changes yX1_changes ∈ wsA := wsA_t2 (List.mem_of_getElem? (i := 206) rfl) rfl
theorem mw_533 : Cond.code yX1_changes cX1_changes 8 (some .int) ∈ wsA := wsA_t2 (List.mem_of_getElem? (i := 207) rfl) rfl
theorem mw_534 : Cond.methodLink RX1 133 yX2_signBeyond ∈ wsA := wsA_t2 (List.mem_of_getElem? (i := 208) rfl) rfl
theorem mw_535 : Cond.instanceMethod yX2_signBeyond ∈ wsA := wsA_t2 (List.mem_of_getElem? (i := 209) rfl) rfl
theorem mw_536 : Cond.selects RX2 yX2_signBeyond yX2_signBeyond ∈ wsA := wsA_t2 (List.mem_of_getElem? (i := 210) rfl) rfl
theorem mw_537 : Cond.code yX2_signBeyond cX2_signBeyond 3 (some .int) ∈ wsA := wsA_t2 (List.mem_of_getElem? (i := 211) rfl) rfl
theorem mw_538 : Cond.methodLink RX2 48 yX2_leadSign ∈ wsA := wsA_t2 (List.mem_of_getElem? (i := 212) rfl) rfl
theorem mw_539 : Cond.methodLink RX1 137 yX0_signAt ∈ wsA := wsA_t2 (List.mem_of_getElem? (i := 213) rfl) rfl
theorem mw_540 : Cond.methodLink RL 65 yX5_roots ∈ wsA := wsA_t3 (List.mem_of_getElem? (i := 211) rfl) rfl
theorem mw_541 : Cond.instanceMethod yX5_roots ∈ wsA := wsA_t3 (List.mem_of_getElem? (i := 212) rfl) rfl
theorem mw_542 : Cond.selects RX5 yX5_roots yX5_roots ∈ wsA := wsA_t3 (List.mem_of_getElem? (i := 213) rfl) rfl
theorem mw_543 : Cond.code yX5_roots cX5_roots 4 (some .int) ∈ wsA := wsA_t3 (List.mem_of_getElem? (i := 214) rfl) rfl
theorem mw_544 : Cond.methodLink RX5 135 yX5_makeChain ∈ wsA := wsA_t3 (List.mem_of_getElem? (i := 215) rfl) rfl
theorem mw_545 : Cond.instanceMethod yX5_makeChain ∈ wsA := wsA_t3 (List.mem_of_getElem? (i := 217) rfl) rfl
theorem mw_546 : Cond.selects RX5 yX5_makeChain yX5_makeChain ∈ wsA := wsA_s (List.mem_of_getElem? (i := 38) rfl) rfl
theorem mw_547 : Cond.code yX5_makeChain cX5_makeChain 4 none ∈ wsA := wsA_t3 (List.mem_of_getElem? (i := 218) rfl) rfl
theorem mw_548 : Cond.fieldLink RX5 132 "BigPolysModel" "chainSize" "I" ∈ wsA := wsA_t3 (List.mem_of_getElem? (i := 42) rfl) rfl
theorem mw_549 : Cond.methodLink RX5 138 yX5_changes ∈ wsA := wsA_t3 (List.mem_of_getElem? (i := 219) rfl) rfl
theorem mw_550 : Cond.instanceMethod yX5_changes ∈ wsA := wsA_t3 (List.mem_of_getElem? (i := 221) rfl) rfl
theorem mw_551 : Cond.selects RX5 yX5_changes yX5_changes ∈ wsA := wsA_s (List.mem_of_getElem? (i := 39) rfl) rfl
theorem mw_552 : Cond.code yX5_changes cX5_changes 7 (some .int) ∈ wsA := wsA_t3 (List.mem_of_getElem? (i := 222) rfl) rfl
theorem mw_553 : Cond.methodLink RL 66 yX4_allRoots ∈ wsA := wsA_t2 (List.mem_of_getElem? (i := 214) rfl) rfl
theorem mw_554 : Cond.instanceMethod yX4_allRoots ∈ wsA := wsA_t2 (List.mem_of_getElem? (i := 215) rfl) rfl
theorem mw_555 : Cond.selects RX4 yX4_allRoots yX4_allRoots ∈ wsA := wsA_t2 (List.mem_of_getElem? (i := 216) rfl) rfl
theorem mw_556 : Cond.code yX4_allRoots cX4_allRoots 2 (some .int) ∈ wsA := wsA_t2 (List.mem_of_getElem? (i := 217) rfl) rfl
theorem mw_557 : Cond.constantLong RX4 135 (-1) ∈ wsA := wsA_t2 (List.mem_of_getElem? (i := 218) rfl) rfl
theorem mw_558 : Cond.methodLink RL 70 yX5_allRoots ∈ wsA := wsA_t3 (List.mem_of_getElem? (i := 223) rfl) rfl
theorem mw_559 : Cond.instanceMethod yX5_allRoots ∈ wsA := wsA_t3 (List.mem_of_getElem? (i := 224) rfl) rfl
theorem mw_560 : Cond.selects RX5 yX5_allRoots yX5_allRoots ∈ wsA := wsA_t3 (List.mem_of_getElem? (i := 225) rfl) rfl
theorem mw_561 : Cond.code yX5_allRoots cX5_allRoots 2 (some .int) ∈ wsA := wsA_t3 (List.mem_of_getElem? (i := 226) rfl) rfl
theorem mw_562 : Cond.methodLink RX5 142 yX5_changesFar ∈ wsA := wsA_t3 (List.mem_of_getElem? (i := 227) rfl) rfl
theorem mw_563 : Cond.instanceMethod yX5_changesFar ∈ wsA := wsA_t3 (List.mem_of_getElem? (i := 229) rfl) rfl
theorem mw_564 : Cond.selects RX5 yX5_changesFar yX5_changesFar ∈ wsA := wsA_s (List.mem_of_getElem? (i := 40) rfl) rfl
theorem mw_565 : Cond.code yX5_changesFar cX5_changesFar 7 (some .int) ∈ wsA := wsA_t3 (List.mem_of_getElem? (i := 230) rfl) rfl
theorem mw_566 : Cond.methodLink RL 71 yX4_place ∈ wsA := wsA_t2 (List.mem_of_getElem? (i := 219) rfl) rfl
theorem mw_567 : Cond.instanceMethod yX4_place ∈ wsA := wsA_t2 (List.mem_of_getElem? (i := 220) rfl) rfl
theorem mw_568 : Cond.selects RX4 yX4_place yX4_place ∈ wsA := wsA_t2 (List.mem_of_getElem? (i := 221) rfl) rfl
theorem mw_569 : Cond.code yX4_place cX4_place 3 (some .long) ∈ wsA := wsA_t2 (List.mem_of_getElem? (i := 222) rfl) rfl
theorem mw_570 : Cond.constantLong RX4 139 (-9223372036854775808) ∈ wsA := wsA_t2 (List.mem_of_getElem? (i := 223) rfl) rfl
theorem mw_571 : Cond.methodLink RX4 141 yX1_floorOfRoot ∈ wsA := wsA_t2 (List.mem_of_getElem? (i := 224) rfl) rfl
theorem mw_572 : Cond.instanceMethod yX1_floorOfRoot ∈ wsA := wsA_t2 (List.mem_of_getElem? (i := 225) rfl) rfl
theorem mw_573 : Cond.selects RX1 yX1_floorOfRoot yX1_floorOfRoot ∈ wsA := wsA_t2 (List.mem_of_getElem? (i := 226) rfl) rfl
theorem mw_574 : Cond.code yX1_floorOfRoot cX1_floorOfRoot 10 (some .long) ∈ wsA := wsA_t2 (List.mem_of_getElem? (i := 227) rfl) rfl
theorem mw_575 : Cond.constantLong RX1 141 (-1) ∈ wsA := wsA_t2 (List.mem_of_getElem? (i := 228) rfl) rfl
theorem mw_576 : Cond.constantLong RX1 149 (-2147483647) ∈ wsA := wsA_t2 (List.mem_of_getElem? (i := 230) rfl) rfl
theorem mw_577 : Cond.constantLong RX1 151 (2147483648) ∈ wsA := wsA_t2 (List.mem_of_getElem? (i := 231) rfl) rfl
theorem mw_578 : Cond.constantLong RX1 159 (-9223372036854775808) ∈ wsA := wsA_t2 (List.mem_of_getElem? (i := 236) rfl) rfl
theorem mw_579 : Cond.constantLong RX1 161 (2) ∈ wsA := wsA_t2 (List.mem_of_getElem? (i := 237) rfl) rfl
theorem mw_580 : Cond.methodLink RX1 143 yX1_changes ∈ wsA := wsA_t2 (List.mem_of_getElem? (i := 229) rfl) rfl
theorem mw_581 : Cond.methodLink RX1 153 yX1_rootsBelow ∈ wsA := wsA_t2 (List.mem_of_getElem? (i := 232) rfl) rfl
theorem mw_582 : Cond.instanceMethod yX1_rootsBelow ∈ wsA := wsA_t2 (List.mem_of_getElem? (i := 234) rfl) rfl
theorem mw_583 : Cond.selects RX1 yX1_rootsBelow yX1_rootsBelow ∈ wsA := wsA_s (List.mem_of_getElem? (i := 14) rfl) rfl
theorem mw_584 : Cond.code yX1_rootsBelow cX1_rootsBelow 5 (some .int) ∈ wsA := wsA_t2 (List.mem_of_getElem? (i := 235) rfl) rfl
theorem mw_585 : Cond.methodLink RL 75 yX5_place ∈ wsA := wsA_t3 (List.mem_of_getElem? (i := 231) rfl) rfl
theorem mw_586 : Cond.instanceMethod yX5_place ∈ wsA := wsA_t3 (List.mem_of_getElem? (i := 232) rfl) rfl
theorem mw_587 : Cond.selects RX5 yX5_place yX5_place ∈ wsA := wsA_t3 (List.mem_of_getElem? (i := 233) rfl) rfl
theorem mw_588 : Cond.code yX5_place cX5_place 11 (some .long) ∈ wsA := wsA_t3 (List.mem_of_getElem? (i := 234) rfl) rfl
theorem mw_589 : Cond.constantLong RX5 146 (-9223372036854775808) ∈ wsA := wsA_t3 (List.mem_of_getElem? (i := 235) rfl) rfl
theorem mw_590 : Cond.constantLong RX5 148 (-2147483647) ∈ wsA := wsA_t3 (List.mem_of_getElem? (i := 236) rfl) rfl
theorem mw_591 : Cond.constantLong RX5 150 (2147483648) ∈ wsA := wsA_t3 (List.mem_of_getElem? (i := 237) rfl) rfl
theorem mw_592 : Cond.methodLink RX5 152 yX5_below ∈ wsA := wsA_t3 (List.mem_of_getElem? (i := 238) rfl) rfl
theorem mw_593 : Cond.instanceMethod yX5_below ∈ wsA := wsA_t4 (List.mem_of_getElem? (i := 0) rfl) rfl
theorem mw_594 : Cond.selects RX5 yX5_below yX5_below ∈ wsA := wsA_s (List.mem_of_getElem? (i := 41) rfl) rfl
theorem mw_595 : Cond.code yX5_below cX5_below 3 (some .int) ∈ wsA := wsA_t4 (List.mem_of_getElem? (i := 1) rfl) rfl
theorem mw_596 : Cond.methodLink RL 76 yX4_degree ∈ wsA := wsA_t2 (List.mem_of_getElem? (i := 238) rfl) rfl
theorem mw_597 : Cond.instanceMethod yX4_degree ∈ wsA := wsA_t2 (List.mem_of_getElem? (i := 239) rfl) rfl
theorem mw_598 : Cond.selects RX4 yX4_degree yX4_degree ∈ wsA := wsA_t3 (List.mem_of_getElem? (i := 0) rfl) rfl
theorem mw_599 : Cond.code yX4_degree cX4_degree 2 (some .int) ∈ wsA := wsA_t3 (List.mem_of_getElem? (i := 1) rfl) rfl
theorem mw_600 : Cond.methodLink RL 79 yX5_degree ∈ wsA := wsA_t4 (List.mem_of_getElem? (i := 2) rfl) rfl
theorem mw_601 : Cond.instanceMethod yX5_degree ∈ wsA := wsA_t4 (List.mem_of_getElem? (i := 3) rfl) rfl
theorem mw_602 : Cond.selects RX5 yX5_degree yX5_degree ∈ wsA := wsA_t4 (List.mem_of_getElem? (i := 4) rfl) rfl
theorem mw_603 : Cond.code yX5_degree cX5_degree 2 (some .int) ∈ wsA := wsA_t4 (List.mem_of_getElem? (i := 5) rfl) rfl
theorem mw_604 : Cond.methodLink RL 80 yX4_signOf ∈ wsA := wsA_t3 (List.mem_of_getElem? (i := 2) rfl) rfl
theorem mw_605 : Cond.instanceMethod yX4_signOf ∈ wsA := wsA_t3 (List.mem_of_getElem? (i := 3) rfl) rfl
theorem mw_606 : Cond.selects RX4 yX4_signOf yX4_signOf ∈ wsA := wsA_t3 (List.mem_of_getElem? (i := 4) rfl) rfl
theorem mw_607 : Cond.code yX4_signOf cX4_signOf 3 (some .int) ∈ wsA := wsA_t3 (List.mem_of_getElem? (i := 5) rfl) rfl
theorem mw_608 : Cond.methodLink RL 83 yX5_signOf ∈ wsA := wsA_t4 (List.mem_of_getElem? (i := 6) rfl) rfl
theorem mw_609 : Cond.instanceMethod yX5_signOf ∈ wsA := wsA_t4 (List.mem_of_getElem? (i := 7) rfl) rfl
theorem mw_610 : Cond.selects RX5 yX5_signOf yX5_signOf ∈ wsA := wsA_t4 (List.mem_of_getElem? (i := 8) rfl) rfl
theorem mw_611 : Cond.code yX5_signOf cX5_signOf 3 (some .int) ∈ wsA := wsA_t4 (List.mem_of_getElem? (i := 9) rfl) rfl
theorem mw_612 : Cond.methodLink RL 84 yX4_words ∈ wsA := wsA_t3 (List.mem_of_getElem? (i := 6) rfl) rfl
theorem mw_613 : Cond.instanceMethod yX4_words ∈ wsA := wsA_t3 (List.mem_of_getElem? (i := 7) rfl) rfl
theorem mw_614 : Cond.selects RX4 yX4_words yX4_words ∈ wsA := wsA_t3 (List.mem_of_getElem? (i := 8) rfl) rfl
theorem mw_615 : Cond.code yX4_words cX4_words 3 (some .int) ∈ wsA := wsA_t3 (List.mem_of_getElem? (i := 9) rfl) rfl
theorem mw_616 : Cond.methodLink RL 87 yX5_words ∈ wsA := wsA_t4 (List.mem_of_getElem? (i := 10) rfl) rfl
theorem mw_617 : Cond.instanceMethod yX5_words ∈ wsA := wsA_t4 (List.mem_of_getElem? (i := 11) rfl) rfl
theorem mw_618 : Cond.selects RX5 yX5_words yX5_words ∈ wsA := wsA_t4 (List.mem_of_getElem? (i := 12) rfl) rfl
theorem mw_619 : Cond.code yX5_words cX5_words 3 (some .int) ∈ wsA := wsA_t4 (List.mem_of_getElem? (i := 13) rfl) rfl
theorem mw_620 : Cond.methodLink RL 88 yX4_wordOf ∈ wsA := wsA_t3 (List.mem_of_getElem? (i := 10) rfl) rfl
theorem mw_621 : Cond.instanceMethod yX4_wordOf ∈ wsA := wsA_t3 (List.mem_of_getElem? (i := 11) rfl) rfl
theorem mw_622 : Cond.selects RX4 yX4_wordOf yX4_wordOf ∈ wsA := wsA_t3 (List.mem_of_getElem? (i := 12) rfl) rfl
theorem mw_623 : Cond.code yX4_wordOf cX4_wordOf 4 (some .int) ∈ wsA := wsA_t3 (List.mem_of_getElem? (i := 13) rfl) rfl
theorem mw_624 : Cond.methodLink RL 91 yX5_wordOf ∈ wsA := wsA_t4 (List.mem_of_getElem? (i := 14) rfl) rfl
theorem mw_625 : Cond.instanceMethod yX5_wordOf ∈ wsA := wsA_t4 (List.mem_of_getElem? (i := 15) rfl) rfl
theorem mw_626 : Cond.selects RX5 yX5_wordOf yX5_wordOf ∈ wsA := wsA_t4 (List.mem_of_getElem? (i := 16) rfl) rfl
theorem mw_627 : Cond.code yX5_wordOf cX5_wordOf 10 (some .int) ∈ wsA := wsA_t4 (List.mem_of_getElem? (i := 17) rfl) rfl
theorem mw_628 : Cond.methodLink RX5 155 yX5_words ∈ wsA := wsA_t4 (List.mem_of_getElem? (i := 18) rfl) rfl
theorem mw_629 : Cond.methodLink RL 92 yX4_same ∈ wsA := wsA_t3 (List.mem_of_getElem? (i := 14) rfl) rfl
theorem mw_630 : Cond.instanceMethod yX4_same ∈ wsA := wsA_t3 (List.mem_of_getElem? (i := 15) rfl) rfl
theorem mw_631 : Cond.selects RX4 yX4_same yX4_same ∈ wsA := wsA_t3 (List.mem_of_getElem? (i := 16) rfl) rfl
theorem mw_632 : Cond.code yX4_same cX4_same 3 (some .boolean) ∈ wsA := wsA_t3 (List.mem_of_getElem? (i := 17) rfl) rfl
theorem mw_633 : Cond.methodLink RX4 155 yX2_isLike ∈ wsA := wsA_t3 (List.mem_of_getElem? (i := 18) rfl) rfl
theorem mw_634 : Cond.instanceMethod yX2_isLike ∈ wsA := wsA_t3 (List.mem_of_getElem? (i := 19) rfl) rfl
theorem mw_635 : Cond.selects RX2 yX2_isLike yX2_isLike ∈ wsA := wsA_t3 (List.mem_of_getElem? (i := 20) rfl) rfl
theorem mw_636 : Cond.code yX2_isLike cX2_isLike 3 (some .boolean) ∈ wsA := wsA_t3 (List.mem_of_getElem? (i := 21) rfl) rfl
theorem mw_637 : Cond.methodLink RX2 55 yX3_isLike ∈ wsA := wsA_t3 (List.mem_of_getElem? (i := 22) rfl) rfl
theorem mw_638 : Cond.instanceMethod yX3_isLike ∈ wsA := wsA_t3 (List.mem_of_getElem? (i := 23) rfl) rfl
theorem mw_639 : Cond.selects RX3 yX3_isLike yX3_isLike ∈ wsA := wsA_t3 (List.mem_of_getElem? (i := 24) rfl) rfl
theorem mw_640 : Cond.code yX3_isLike cX3_isLike 2 (some .boolean) ∈ wsA := wsA_t3 (List.mem_of_getElem? (i := 25) rfl) rfl
theorem mw_641 : Cond.methodLink RL 96 yX5_same ∈ wsA := wsA_t4 (List.mem_of_getElem? (i := 19) rfl) rfl
theorem mw_642 : Cond.instanceMethod yX5_same ∈ wsA := wsA_t4 (List.mem_of_getElem? (i := 20) rfl) rfl
theorem mw_643 : Cond.selects RX5 yX5_same yX5_same ∈ wsA := wsA_t4 (List.mem_of_getElem? (i := 21) rfl) rfl
theorem mw_644 : Cond.code yX5_same cX5_same 5 (some .boolean) ∈ wsA := wsA_t4 (List.mem_of_getElem? (i := 22) rfl) rfl
theorem inA_X0 : ∀ w ∈ wsX00, w ∈ wsA := fun w h => List.mem_filter.mpr ⟨(by decide +kernel : ∀ w ∈ wsX00, w ∈ lw_tbl) w h, (by decide +kernel : ∀ w ∈ wsX00, goodWord w = true) w h⟩
theorem inA_X1 : ∀ w ∈ wsX10, w ∈ wsA := fun w h => List.mem_filter.mpr ⟨(by decide +kernel : ∀ w ∈ wsX10, w ∈ lw_tbl) w h, (by decide +kernel : ∀ w ∈ wsX10, goodWord w = true) w h⟩
theorem inA_X2 : ∀ w ∈ wsX20, w ∈ wsA := fun w h => List.mem_filter.mpr ⟨(by decide +kernel : ∀ w ∈ wsX20, w ∈ lw_tbl) w h, (by decide +kernel : ∀ w ∈ wsX20, goodWord w = true) w h⟩
theorem inA_X3 : ∀ w ∈ wsX30, w ∈ wsA := fun w h => List.mem_filter.mpr ⟨(by decide +kernel : ∀ w ∈ wsX30, w ∈ lw_tbl) w h, (by decide +kernel : ∀ w ∈ wsX30, goodWord w = true) w h⟩
theorem inA_X4 : ∀ w ∈ wsX40, w ∈ wsA := fun w h => List.mem_filter.mpr ⟨(by decide +kernel : ∀ w ∈ wsX40, w ∈ lw_tbl) w h, (by decide +kernel : ∀ w ∈ wsX40, goodWord w = true) w h⟩
theorem inA_X5 : ∀ w ∈ wsX50, w ∈ wsA := fun w h => List.mem_filter.mpr ⟨(by decide +kernel : ∀ w ∈ wsX50, w ∈ lw_tbl) w h, (by decide +kernel : ∀ w ∈ wsX50, goodWord w = true) w h⟩
/-! the links to private members of a nest mate -/
def nestF : List (String × Nat × String × String × String × String) := [("BigPolys", 103, "BigPolys$Bench", "part", "LBigPolys$Poly;", "BigPolys"), ("BigPolys", 145, "BigPolys$Whole", "sign", "I", "BigPolys"), ("BigPolys", 148, "BigPolys$Whole", "size", "I", "BigPolys"), ("BigPolys", 151, "BigPolys$Whole", "digits", "[I", "BigPolys"), ("BigPolys", 25, "BigPolys$Chain", "bench", "LBigPolys$Bench;", "BigPolys"), ("BigPolys", 38, "BigPolys$Poly", "terms", "[LBigPolys$Whole;", "BigPolys"), ("BigPolys", 73, "BigPolys$Bench", "work", "LBigPolys$Poly;", "BigPolys"), ("BigPolys", 81, "BigPolys$Poly", "degree", "I", "BigPolys"), ("BigPolys$Bench", 45, "BigPolys$Poly", "degree", "I", "BigPolys"), ("BigPolys$Bench", 49, "BigPolys$Poly", "terms", "[LBigPolys$Whole;", "BigPolys"), ("BigPolys$Bench", 85, "BigPolys$Whole", "sign", "I", "BigPolys"), ("BigPolys$Chain", 118, "BigPolys$Poly", "terms", "[LBigPolys$Whole;", "BigPolys"), ("BigPolys$Chain", 122, "BigPolys$Whole", "sign", "I", "BigPolys"), ("BigPolys$Chain", 51, "BigPolys$Poly", "degree", "I", "BigPolys"), ("BigPolys$Chain", 79, "BigPolys$Bench", "part", "LBigPolys$Poly;", "BigPolys"), ("BigPolys$Chain", 90, "BigPolys$Bench", "work", "LBigPolys$Poly;", "BigPolys"), ("BigPolys$Poly", 45, "BigPolys$Whole", "sign", "I", "BigPolys"), ("BigPolys$Poly", 52, "BigPolys$Whole", "size", "I", "BigPolys")]
def nestM : List (String × Nat × MethodName × String) := [("BigPolys$Chain", 11, ⟨"BigPolys$Bench", "<init>", "()V"⟩, "BigPolys")]
def nestW : List Cond := nestF.map (fun t => .fieldLinkNest t.1 t.2.1 t.2.2.1 t.2.2.2.1 t.2.2.2.2.1 t.2.2.2.2.2) ++ nestM.map (fun t => .methodLinkNest t.1 t.2.1 t.2.2.1 t.2.2.2)
theorem nestW_in : ∀ w ∈ nestW, w ∈ lw_tbl := by decide +kernel
end
section
theorem dJ6_numberOfLeadingZeros_0f7a4_0 : decode cJ6_numberOfLeadingZeros_0f7a4 0 = .ok (.iload_n 0, 1) := by decide +kernel
theorem dJ6_numberOfLeadingZeros_0f7a4_1 : decode cJ6_numberOfLeadingZeros_0f7a4 1 = .ok (.ifCond .gt 14, 3) := by decide +kernel
theorem dJ6_numberOfLeadingZeros_0f7a4_4 : decode cJ6_numberOfLeadingZeros_0f7a4 4 = .ok (.iload_n 0, 1) := by decide +kernel
theorem dJ6_numberOfLeadingZeros_0f7a4_5 : decode cJ6_numberOfLeadingZeros_0f7a4 5 = .ok (.ifCond .ne 8, 3) := by decide +kernel
theorem dJ6_numberOfLeadingZeros_0f7a4_8 : decode cJ6_numberOfLeadingZeros_0f7a4 8 = .ok (.bipush 32, 2) := by decide +kernel
theorem dJ6_numberOfLeadingZeros_0f7a4_10 : decode cJ6_numberOfLeadingZeros_0f7a4 10 = .ok (.goto 4, 3) := by decide +kernel
theorem dJ6_numberOfLeadingZeros_0f7a4_13 : decode cJ6_numberOfLeadingZeros_0f7a4 13 = .ok (.iconst 0, 1) := by decide +kernel
theorem dJ6_numberOfLeadingZeros_0f7a4_14 : decode cJ6_numberOfLeadingZeros_0f7a4 14 = .ok (.ireturn, 1) := by decide +kernel
theorem dJ6_numberOfLeadingZeros_0f7a4_15 : decode cJ6_numberOfLeadingZeros_0f7a4 15 = .ok (.bipush 31, 2) := by decide +kernel
theorem dJ6_numberOfLeadingZeros_0f7a4_17 : decode cJ6_numberOfLeadingZeros_0f7a4 17 = .ok (.istore_n 1, 1) := by decide +kernel
theorem dJ6_numberOfLeadingZeros_0f7a4_18 : decode cJ6_numberOfLeadingZeros_0f7a4 18 = .ok (.iload_n 0, 1) := by decide +kernel
theorem dJ6_numberOfLeadingZeros_0f7a4_19 : decode cJ6_numberOfLeadingZeros_0f7a4 19 = .ok (.ldc_w 264, 3) := by decide +kernel
theorem dJ6_numberOfLeadingZeros_0f7a4_22 : decode cJ6_numberOfLeadingZeros_0f7a4 22 = .ok (.if_icmp .lt 11, 3) := by decide +kernel
theorem dJ6_numberOfLeadingZeros_0f7a4_25 : decode cJ6_numberOfLeadingZeros_0f7a4 25 = .ok (.iinc 1 (-16), 3) := by decide +kernel
theorem dJ6_numberOfLeadingZeros_0f7a4_28 : decode cJ6_numberOfLeadingZeros_0f7a4 28 = .ok (.iload_n 0, 1) := by decide +kernel
theorem dJ6_numberOfLeadingZeros_0f7a4_29 : decode cJ6_numberOfLeadingZeros_0f7a4 29 = .ok (.bipush 16, 2) := by decide +kernel
theorem dJ6_numberOfLeadingZeros_0f7a4_31 : decode cJ6_numberOfLeadingZeros_0f7a4 31 = .ok (.iushr, 1) := by decide +kernel
theorem dJ6_numberOfLeadingZeros_0f7a4_32 : decode cJ6_numberOfLeadingZeros_0f7a4 32 = .ok (.istore_n 0, 1) := by decide +kernel
theorem dJ6_numberOfLeadingZeros_0f7a4_33 : decode cJ6_numberOfLeadingZeros_0f7a4 33 = .ok (.iload_n 0, 1) := by decide +kernel
theorem dJ6_numberOfLeadingZeros_0f7a4_34 : decode cJ6_numberOfLeadingZeros_0f7a4 34 = .ok (.sipush 256, 3) := by decide +kernel
theorem dJ6_numberOfLeadingZeros_0f7a4_37 : decode cJ6_numberOfLeadingZeros_0f7a4 37 = .ok (.if_icmp .lt 11, 3) := by decide +kernel
theorem dJ6_numberOfLeadingZeros_0f7a4_40 : decode cJ6_numberOfLeadingZeros_0f7a4 40 = .ok (.iinc 1 (-8), 3) := by decide +kernel
theorem dJ6_numberOfLeadingZeros_0f7a4_43 : decode cJ6_numberOfLeadingZeros_0f7a4 43 = .ok (.iload_n 0, 1) := by decide +kernel
theorem dJ6_numberOfLeadingZeros_0f7a4_44 : decode cJ6_numberOfLeadingZeros_0f7a4 44 = .ok (.bipush 8, 2) := by decide +kernel
theorem dJ6_numberOfLeadingZeros_0f7a4_46 : decode cJ6_numberOfLeadingZeros_0f7a4 46 = .ok (.iushr, 1) := by decide +kernel
theorem dJ6_numberOfLeadingZeros_0f7a4_47 : decode cJ6_numberOfLeadingZeros_0f7a4 47 = .ok (.istore_n 0, 1) := by decide +kernel
theorem dJ6_numberOfLeadingZeros_0f7a4_48 : decode cJ6_numberOfLeadingZeros_0f7a4 48 = .ok (.iload_n 0, 1) := by decide +kernel
theorem dJ6_numberOfLeadingZeros_0f7a4_49 : decode cJ6_numberOfLeadingZeros_0f7a4 49 = .ok (.bipush 16, 2) := by decide +kernel
theorem dJ6_numberOfLeadingZeros_0f7a4_51 : decode cJ6_numberOfLeadingZeros_0f7a4 51 = .ok (.if_icmp .lt 10, 3) := by decide +kernel
theorem dJ6_numberOfLeadingZeros_0f7a4_54 : decode cJ6_numberOfLeadingZeros_0f7a4 54 = .ok (.iinc 1 (-4), 3) := by decide +kernel
theorem dJ6_numberOfLeadingZeros_0f7a4_57 : decode cJ6_numberOfLeadingZeros_0f7a4 57 = .ok (.iload_n 0, 1) := by decide +kernel
theorem dJ6_numberOfLeadingZeros_0f7a4_58 : decode cJ6_numberOfLeadingZeros_0f7a4 58 = .ok (.iconst 4, 1) := by decide +kernel
theorem dJ6_numberOfLeadingZeros_0f7a4_59 : decode cJ6_numberOfLeadingZeros_0f7a4 59 = .ok (.iushr, 1) := by decide +kernel
theorem dJ6_numberOfLeadingZeros_0f7a4_60 : decode cJ6_numberOfLeadingZeros_0f7a4 60 = .ok (.istore_n 0, 1) := by decide +kernel
theorem dJ6_numberOfLeadingZeros_0f7a4_61 : decode cJ6_numberOfLeadingZeros_0f7a4 61 = .ok (.iload_n 0, 1) := by decide +kernel
theorem dJ6_numberOfLeadingZeros_0f7a4_62 : decode cJ6_numberOfLeadingZeros_0f7a4 62 = .ok (.iconst 4, 1) := by decide +kernel
theorem dJ6_numberOfLeadingZeros_0f7a4_63 : decode cJ6_numberOfLeadingZeros_0f7a4 63 = .ok (.if_icmp .lt 10, 3) := by decide +kernel
theorem dJ6_numberOfLeadingZeros_0f7a4_66 : decode cJ6_numberOfLeadingZeros_0f7a4 66 = .ok (.iinc 1 (-2), 3) := by decide +kernel
theorem dJ6_numberOfLeadingZeros_0f7a4_69 : decode cJ6_numberOfLeadingZeros_0f7a4 69 = .ok (.iload_n 0, 1) := by decide +kernel
theorem dJ6_numberOfLeadingZeros_0f7a4_70 : decode cJ6_numberOfLeadingZeros_0f7a4 70 = .ok (.iconst 2, 1) := by decide +kernel
theorem dJ6_numberOfLeadingZeros_0f7a4_71 : decode cJ6_numberOfLeadingZeros_0f7a4 71 = .ok (.iushr, 1) := by decide +kernel
theorem dJ6_numberOfLeadingZeros_0f7a4_72 : decode cJ6_numberOfLeadingZeros_0f7a4 72 = .ok (.istore_n 0, 1) := by decide +kernel
theorem dJ6_numberOfLeadingZeros_0f7a4_73 : decode cJ6_numberOfLeadingZeros_0f7a4 73 = .ok (.iload_n 1, 1) := by decide +kernel
theorem dJ6_numberOfLeadingZeros_0f7a4_74 : decode cJ6_numberOfLeadingZeros_0f7a4 74 = .ok (.iload_n 0, 1) := by decide +kernel
theorem dJ6_numberOfLeadingZeros_0f7a4_75 : decode cJ6_numberOfLeadingZeros_0f7a4 75 = .ok (.iconst 1, 1) := by decide +kernel
theorem dJ6_numberOfLeadingZeros_0f7a4_76 : decode cJ6_numberOfLeadingZeros_0f7a4 76 = .ok (.iushr, 1) := by decide +kernel
theorem dJ6_numberOfLeadingZeros_0f7a4_77 : decode cJ6_numberOfLeadingZeros_0f7a4 77 = .ok (.isub, 1) := by decide +kernel
theorem dJ6_numberOfLeadingZeros_0f7a4_78 : decode cJ6_numberOfLeadingZeros_0f7a4 78 = .ok (.ireturn, 1) := by decide +kernel
end
section
theorem dJ7_rangeCheck_23922_0 : decode cJ7_rangeCheck_23922 0 = .ok (.iload_n 1, 1) := by decide +kernel
theorem dJ7_rangeCheck_23922_1 : decode cJ7_rangeCheck_23922 1 = .ok (.iload_n 2, 1) := by decide +kernel
theorem dJ7_rangeCheck_23922_2 : decode cJ7_rangeCheck_23922 2 = .ok (.if_icmp .le 44, 3) := by decide +kernel
theorem dJ7_rangeCheck_23922_5 : decode cJ7_rangeCheck_23922 5 = .ok (.new 43, 3) := by decide +kernel
theorem dJ7_rangeCheck_23922_8 : decode cJ7_rangeCheck_23922 8 = .ok (.dup, 1) := by decide +kernel
theorem dJ7_rangeCheck_23922_9 : decode cJ7_rangeCheck_23922 9 = .ok (.new 45, 3) := by decide +kernel
theorem dJ7_rangeCheck_23922_12 : decode cJ7_rangeCheck_23922 12 = .ok (.dup, 1) := by decide +kernel
theorem dJ7_rangeCheck_23922_13 : decode cJ7_rangeCheck_23922 13 = .ok (.invokespecial 47, 3) := by decide +kernel
theorem dJ7_rangeCheck_23922_16 : decode cJ7_rangeCheck_23922 16 = .ok (.ldc 48, 2) := by decide +kernel
theorem dJ7_rangeCheck_23922_18 : decode cJ7_rangeCheck_23922 18 = .ok (.invokevirtual 50, 3) := by decide +kernel
theorem dJ7_rangeCheck_23922_21 : decode cJ7_rangeCheck_23922 21 = .ok (.iload_n 1, 1) := by decide +kernel
theorem dJ7_rangeCheck_23922_22 : decode cJ7_rangeCheck_23922 22 = .ok (.invokevirtual 54, 3) := by decide +kernel
theorem dJ7_rangeCheck_23922_25 : decode cJ7_rangeCheck_23922 25 = .ok (.ldc 57, 2) := by decide +kernel
theorem dJ7_rangeCheck_23922_27 : decode cJ7_rangeCheck_23922 27 = .ok (.invokevirtual 50, 3) := by decide +kernel
theorem dJ7_rangeCheck_23922_30 : decode cJ7_rangeCheck_23922 30 = .ok (.iload_n 2, 1) := by decide +kernel
theorem dJ7_rangeCheck_23922_31 : decode cJ7_rangeCheck_23922 31 = .ok (.invokevirtual 54, 3) := by decide +kernel
theorem dJ7_rangeCheck_23922_34 : decode cJ7_rangeCheck_23922 34 = .ok (.ldc 59, 2) := by decide +kernel
theorem dJ7_rangeCheck_23922_36 : decode cJ7_rangeCheck_23922 36 = .ok (.invokevirtual 50, 3) := by decide +kernel
theorem dJ7_rangeCheck_23922_39 : decode cJ7_rangeCheck_23922 39 = .ok (.invokevirtual 61, 3) := by decide +kernel
theorem dJ7_rangeCheck_23922_42 : decode cJ7_rangeCheck_23922 42 = .ok (.invokespecial 65, 3) := by decide +kernel
theorem dJ7_rangeCheck_23922_45 : decode cJ7_rangeCheck_23922 45 = .ok (.athrow, 1) := by decide +kernel
theorem dJ7_rangeCheck_23922_46 : decode cJ7_rangeCheck_23922 46 = .ok (.iload_n 1, 1) := by decide +kernel
theorem dJ7_rangeCheck_23922_47 : decode cJ7_rangeCheck_23922 47 = .ok (.ifCond .ge 12, 3) := by decide +kernel
theorem dJ7_rangeCheck_23922_50 : decode cJ7_rangeCheck_23922 50 = .ok (.new 68, 3) := by decide +kernel
theorem dJ7_rangeCheck_23922_53 : decode cJ7_rangeCheck_23922 53 = .ok (.dup, 1) := by decide +kernel
theorem dJ7_rangeCheck_23922_54 : decode cJ7_rangeCheck_23922 54 = .ok (.iload_n 1, 1) := by decide +kernel
theorem dJ7_rangeCheck_23922_55 : decode cJ7_rangeCheck_23922 55 = .ok (.invokespecial 70, 3) := by decide +kernel
theorem dJ7_rangeCheck_23922_58 : decode cJ7_rangeCheck_23922 58 = .ok (.athrow, 1) := by decide +kernel
theorem dJ7_rangeCheck_23922_59 : decode cJ7_rangeCheck_23922 59 = .ok (.iload_n 2, 1) := by decide +kernel
theorem dJ7_rangeCheck_23922_60 : decode cJ7_rangeCheck_23922 60 = .ok (.iload_n 0, 1) := by decide +kernel
theorem dJ7_rangeCheck_23922_61 : decode cJ7_rangeCheck_23922 61 = .ok (.if_icmp .le 12, 3) := by decide +kernel
theorem dJ7_rangeCheck_23922_64 : decode cJ7_rangeCheck_23922 64 = .ok (.new 68, 3) := by decide +kernel
theorem dJ7_rangeCheck_23922_67 : decode cJ7_rangeCheck_23922 67 = .ok (.dup, 1) := by decide +kernel
theorem dJ7_rangeCheck_23922_68 : decode cJ7_rangeCheck_23922 68 = .ok (.iload_n 2, 1) := by decide +kernel
theorem dJ7_rangeCheck_23922_69 : decode cJ7_rangeCheck_23922 69 = .ok (.invokespecial 70, 3) := by decide +kernel
theorem dJ7_rangeCheck_23922_72 : decode cJ7_rangeCheck_23922 72 = .ok (.athrow, 1) := by decide +kernel
theorem dJ7_rangeCheck_23922_73 : decode cJ7_rangeCheck_23922 73 = .ok (.return_, 1) := by decide +kernel
theorem dJ7_fill_fda19_0 : decode cJ7_fill_fda19 0 = .ok (.aload_n 0, 1) := by decide +kernel
theorem dJ7_fill_fda19_1 : decode cJ7_fill_fda19 1 = .ok (.arraylength, 1) := by decide +kernel
theorem dJ7_fill_fda19_2 : decode cJ7_fill_fda19 2 = .ok (.iload_n 1, 1) := by decide +kernel
theorem dJ7_fill_fda19_3 : decode cJ7_fill_fda19 3 = .ok (.iload_n 2, 1) := by decide +kernel
theorem dJ7_fill_fda19_4 : decode cJ7_fill_fda19 4 = .ok (.invokestatic 13, 3) := by decide +kernel
theorem dJ7_fill_fda19_7 : decode cJ7_fill_fda19 7 = .ok (.iload_n 1, 1) := by decide +kernel
theorem dJ7_fill_fda19_8 : decode cJ7_fill_fda19 8 = .ok (.istore 4, 2) := by decide +kernel
theorem dJ7_fill_fda19_10 : decode cJ7_fill_fda19 10 = .ok (.iload 4, 2) := by decide +kernel
theorem dJ7_fill_fda19_12 : decode cJ7_fill_fda19 12 = .ok (.iload_n 2, 1) := by decide +kernel
theorem dJ7_fill_fda19_13 : decode cJ7_fill_fda19 13 = .ok (.if_icmp .ge 14, 3) := by decide +kernel
theorem dJ7_fill_fda19_16 : decode cJ7_fill_fda19 16 = .ok (.aload_n 0, 1) := by decide +kernel
theorem dJ7_fill_fda19_17 : decode cJ7_fill_fda19 17 = .ok (.iload 4, 2) := by decide +kernel
theorem dJ7_fill_fda19_19 : decode cJ7_fill_fda19 19 = .ok (.iload_n 3, 1) := by decide +kernel
theorem dJ7_fill_fda19_20 : decode cJ7_fill_fda19 20 = .ok (.iastore, 1) := by decide +kernel
theorem dJ7_fill_fda19_21 : decode cJ7_fill_fda19 21 = .ok (.iinc 4 1, 3) := by decide +kernel
theorem dJ7_fill_fda19_24 : decode cJ7_fill_fda19 24 = .ok (.goto (-14), 3) := by decide +kernel
theorem dJ7_fill_fda19_27 : decode cJ7_fill_fda19 27 = .ok (.return_, 1) := by decide +kernel
end
section
theorem dJ9_abs_067f4_0 : decode cJ9_abs_067f4 0 = .ok (.lload_n 0, 1) := by decide +kernel
theorem dJ9_abs_067f4_1 : decode cJ9_abs_067f4 1 = .ok (.lconst 0, 1) := by decide +kernel
theorem dJ9_abs_067f4_2 : decode cJ9_abs_067f4 2 = .ok (.lcmp, 1) := by decide +kernel
theorem dJ9_abs_067f4_3 : decode cJ9_abs_067f4 3 = .ok (.ifCond .ge 8, 3) := by decide +kernel
theorem dJ9_abs_067f4_6 : decode cJ9_abs_067f4 6 = .ok (.lload_n 0, 1) := by decide +kernel
theorem dJ9_abs_067f4_7 : decode cJ9_abs_067f4 7 = .ok (.lneg, 1) := by decide +kernel
theorem dJ9_abs_067f4_8 : decode cJ9_abs_067f4 8 = .ok (.goto 4, 3) := by decide +kernel
theorem dJ9_abs_067f4_11 : decode cJ9_abs_067f4 11 = .ok (.lload_n 0, 1) := by decide +kernel
theorem dJ9_abs_067f4_12 : decode cJ9_abs_067f4 12 = .ok (.lreturn, 1) := by decide +kernel
theorem dJ9_max_7cf53_0 : decode cJ9_max_7cf53 0 = .ok (.iload_n 0, 1) := by decide +kernel
theorem dJ9_max_7cf53_1 : decode cJ9_max_7cf53 1 = .ok (.iload_n 1, 1) := by decide +kernel
theorem dJ9_max_7cf53_2 : decode cJ9_max_7cf53 2 = .ok (.if_icmp .lt 7, 3) := by decide +kernel
theorem dJ9_max_7cf53_5 : decode cJ9_max_7cf53 5 = .ok (.iload_n 0, 1) := by decide +kernel
theorem dJ9_max_7cf53_6 : decode cJ9_max_7cf53 6 = .ok (.goto 4, 3) := by decide +kernel
theorem dJ9_max_7cf53_9 : decode cJ9_max_7cf53 9 = .ok (.iload_n 1, 1) := by decide +kernel
theorem dJ9_max_7cf53_10 : decode cJ9_max_7cf53 10 = .ok (.ireturn, 1) := by decide +kernel
theorem dJ9_min_7cf53_0 : decode cJ9_min_7cf53 0 = .ok (.iload_n 0, 1) := by decide +kernel
theorem dJ9_min_7cf53_1 : decode cJ9_min_7cf53 1 = .ok (.iload_n 1, 1) := by decide +kernel
theorem dJ9_min_7cf53_2 : decode cJ9_min_7cf53 2 = .ok (.if_icmp .gt 7, 3) := by decide +kernel
theorem dJ9_min_7cf53_5 : decode cJ9_min_7cf53 5 = .ok (.iload_n 0, 1) := by decide +kernel
theorem dJ9_min_7cf53_6 : decode cJ9_min_7cf53 6 = .ok (.goto 4, 3) := by decide +kernel
theorem dJ9_min_7cf53_9 : decode cJ9_min_7cf53 9 = .ok (.iload_n 1, 1) := by decide +kernel
theorem dJ9_min_7cf53_10 : decode cJ9_min_7cf53 10 = .ok (.ireturn, 1) := by decide +kernel
theorem dJ9_min_f86c9_0 : decode cJ9_min_f86c9 0 = .ok (.lload_n 0, 1) := by decide +kernel
theorem dJ9_min_f86c9_1 : decode cJ9_min_f86c9 1 = .ok (.lload_n 2, 1) := by decide +kernel
theorem dJ9_min_f86c9_2 : decode cJ9_min_f86c9 2 = .ok (.lcmp, 1) := by decide +kernel
theorem dJ9_min_f86c9_3 : decode cJ9_min_f86c9 3 = .ok (.ifCond .gt 7, 3) := by decide +kernel
theorem dJ9_min_f86c9_6 : decode cJ9_min_f86c9 6 = .ok (.lload_n 0, 1) := by decide +kernel
theorem dJ9_min_f86c9_7 : decode cJ9_min_f86c9 7 = .ok (.goto 4, 3) := by decide +kernel
theorem dJ9_min_f86c9_10 : decode cJ9_min_f86c9 10 = .ok (.lload_n 2, 1) := by decide +kernel
theorem dJ9_min_f86c9_11 : decode cJ9_min_f86c9 11 = .ok (.lreturn, 1) := by decide +kernel
end
section
theorem dX3_init_0 : decode cX3_init 0 = .ok (.aload_n 0, 1) := by decide +kernel
theorem dX3_init_1 : decode cX3_init 1 = .ok (.invokespecial 3, 3) := by decide +kernel
theorem dX3_init_4 : decode cX3_init 4 = .ok (.aload_n 0, 1) := by decide +kernel
theorem dX3_init_5 : decode cX3_init 5 = .ok (.iload_n 1, 1) := by decide +kernel
theorem dX3_init_6 : decode cX3_init 6 = .ok (.newarray .int, 2) := by decide +kernel
theorem dX3_init_8 : decode cX3_init 8 = .ok (.putfield 9, 3) := by decide +kernel
theorem dX3_init_11 : decode cX3_init 11 = .ok (.return_, 1) := by decide +kernel
theorem dX3_clear_0 : decode cX3_clear 0 = .ok (.aload_n 0, 1) := by decide +kernel
theorem dX3_clear_1 : decode cX3_clear 1 = .ok (.iconst 0, 1) := by decide +kernel
theorem dX3_clear_2 : decode cX3_clear 2 = .ok (.putfield 15, 3) := by decide +kernel
theorem dX3_clear_5 : decode cX3_clear 5 = .ok (.aload_n 0, 1) := by decide +kernel
theorem dX3_clear_6 : decode cX3_clear 6 = .ok (.iconst 0, 1) := by decide +kernel
theorem dX3_clear_7 : decode cX3_clear 7 = .ok (.putfield 19, 3) := by decide +kernel
theorem dX3_clear_10 : decode cX3_clear 10 = .ok (.return_, 1) := by decide +kernel
theorem dX3_setOne_0 : decode cX3_setOne 0 = .ok (.aload_n 0, 1) := by decide +kernel
theorem dX3_setOne_1 : decode cX3_setOne 1 = .ok (.invokevirtual 22, 3) := by decide +kernel
theorem dX3_setOne_4 : decode cX3_setOne 4 = .ok (.aload_n 0, 1) := by decide +kernel
theorem dX3_setOne_5 : decode cX3_setOne 5 = .ok (.iconst 0, 1) := by decide +kernel
theorem dX3_setOne_6 : decode cX3_setOne 6 = .ok (.iconst 1, 1) := by decide +kernel
theorem dX3_setOne_7 : decode cX3_setOne 7 = .ok (.iconst 1, 1) := by decide +kernel
theorem dX3_setOne_8 : decode cX3_setOne 8 = .ok (.invokevirtual 25, 3) := by decide +kernel
theorem dX3_setOne_11 : decode cX3_setOne 11 = .ok (.return_, 1) := by decide +kernel
theorem dX3_put_0 : decode cX3_put 0 = .ok (.iload_n 1, 1) := by decide +kernel
theorem dX3_put_1 : decode cX3_put 1 = .ok (.ifCond .lt 12, 3) := by decide +kernel
theorem dX3_put_4 : decode cX3_put 4 = .ok (.iload_n 1, 1) := by decide +kernel
theorem dX3_put_5 : decode cX3_put 5 = .ok (.aload_n 0, 1) := by decide +kernel
theorem dX3_put_6 : decode cX3_put 6 = .ok (.getfield 9, 3) := by decide +kernel
theorem dX3_put_9 : decode cX3_put 9 = .ok (.arraylength, 1) := by decide +kernel
theorem dX3_put_10 : decode cX3_put 10 = .ok (.if_icmp .lt 4, 3) := by decide +kernel
theorem dX3_put_13 : decode cX3_put 13 = .ok (.return_, 1) := by decide +kernel
theorem dX3_put_14 : decode cX3_put 14 = .ok (.aload_n 0, 1) := by decide +kernel
theorem dX3_put_15 : decode cX3_put 15 = .ok (.getfield 9, 3) := by decide +kernel
theorem dX3_put_18 : decode cX3_put 18 = .ok (.iload_n 1, 1) := by decide +kernel
theorem dX3_put_19 : decode cX3_put 19 = .ok (.iload_n 2, 1) := by decide +kernel
theorem dX3_put_20 : decode cX3_put 20 = .ok (.iastore, 1) := by decide +kernel
theorem dX3_put_21 : decode cX3_put 21 = .ok (.iload_n 2, 1) := by decide +kernel
theorem dX3_put_22 : decode cX3_put 22 = .ok (.ifCond .eq 15, 3) := by decide +kernel
theorem dX3_put_25 : decode cX3_put 25 = .ok (.aload_n 0, 1) := by decide +kernel
theorem dX3_put_26 : decode cX3_put 26 = .ok (.iload_n 1, 1) := by decide +kernel
theorem dX3_put_27 : decode cX3_put 27 = .ok (.iconst 1, 1) := by decide +kernel
theorem dX3_put_28 : decode cX3_put 28 = .ok (.iadd, 1) := by decide +kernel
theorem dX3_put_29 : decode cX3_put 29 = .ok (.putfield 15, 3) := by decide +kernel
theorem dX3_put_32 : decode cX3_put 32 = .ok (.aload_n 0, 1) := by decide +kernel
theorem dX3_put_33 : decode cX3_put 33 = .ok (.iload_n 3, 1) := by decide +kernel
theorem dX3_put_34 : decode cX3_put 34 = .ok (.putfield 19, 3) := by decide +kernel
theorem dX3_put_37 : decode cX3_put 37 = .ok (.return_, 1) := by decide +kernel
theorem dX3_load_0 : decode cX3_load 0 = .ok (.aload_n 0, 1) := by decide +kernel
theorem dX3_load_1 : decode cX3_load 1 = .ok (.aload_n 1, 1) := by decide +kernel
theorem dX3_load_2 : decode cX3_load 2 = .ok (.getfield 15, 3) := by decide +kernel
theorem dX3_load_5 : decode cX3_load 5 = .ok (.aload_n 0, 1) := by decide +kernel
theorem dX3_load_6 : decode cX3_load 6 = .ok (.getfield 9, 3) := by decide +kernel
theorem dX3_load_9 : decode cX3_load 9 = .ok (.arraylength, 1) := by decide +kernel
theorem dX3_load_10 : decode cX3_load 10 = .ok (.invokestatic 29, 3) := by decide +kernel
theorem dX3_load_13 : decode cX3_load 13 = .ok (.putfield 15, 3) := by decide +kernel
theorem dX3_load_16 : decode cX3_load 16 = .ok (.aload_n 0, 1) := by decide +kernel
theorem dX3_load_17 : decode cX3_load 17 = .ok (.aload_n 1, 1) := by decide +kernel
theorem dX3_load_18 : decode cX3_load 18 = .ok (.getfield 19, 3) := by decide +kernel
theorem dX3_load_21 : decode cX3_load 21 = .ok (.putfield 19, 3) := by decide +kernel
theorem dX3_load_24 : decode cX3_load 24 = .ok (.aload_n 1, 1) := by decide +kernel
theorem dX3_load_25 : decode cX3_load 25 = .ok (.getfield 9, 3) := by decide +kernel
theorem dX3_load_28 : decode cX3_load 28 = .ok (.iconst 0, 1) := by decide +kernel
theorem dX3_load_29 : decode cX3_load 29 = .ok (.aload_n 0, 1) := by decide +kernel
theorem dX3_load_30 : decode cX3_load 30 = .ok (.getfield 9, 3) := by decide +kernel
theorem dX3_load_33 : decode cX3_load 33 = .ok (.iconst 0, 1) := by decide +kernel
theorem dX3_load_34 : decode cX3_load 34 = .ok (.aload_n 0, 1) := by decide +kernel
theorem dX3_load_35 : decode cX3_load 35 = .ok (.getfield 15, 3) := by decide +kernel
theorem dX3_load_38 : decode cX3_load 38 = .ok (.invokestatic 35, 3) := by decide +kernel
theorem dX3_load_41 : decode cX3_load 41 = .ok (.aload_n 0, 1) := by decide +kernel
theorem dX3_load_42 : decode cX3_load 42 = .ok (.invokevirtual 41, 3) := by decide +kernel
theorem dX3_load_45 : decode cX3_load 45 = .ok (.return_, 1) := by decide +kernel
theorem dX3_negate_0 : decode cX3_negate 0 = .ok (.aload_n 0, 1) := by decide +kernel
theorem dX3_negate_1 : decode cX3_negate 1 = .ok (.aload_n 0, 1) := by decide +kernel
theorem dX3_negate_2 : decode cX3_negate 2 = .ok (.getfield 19, 3) := by decide +kernel
theorem dX3_negate_5 : decode cX3_negate 5 = .ok (.ineg, 1) := by decide +kernel
theorem dX3_negate_6 : decode cX3_negate 6 = .ok (.putfield 19, 3) := by decide +kernel
theorem dX3_negate_9 : decode cX3_negate 9 = .ok (.return_, 1) := by decide +kernel
theorem dX3_isUnit_0 : decode cX3_isUnit 0 = .ok (.aload_n 0, 1) := by decide +kernel
theorem dX3_isUnit_1 : decode cX3_isUnit 1 = .ok (.getfield 15, 3) := by decide +kernel
theorem dX3_isUnit_4 : decode cX3_isUnit 4 = .ok (.iconst 1, 1) := by decide +kernel
theorem dX3_isUnit_5 : decode cX3_isUnit 5 = .ok (.if_icmp .ne 17, 3) := by decide +kernel
theorem dX3_isUnit_8 : decode cX3_isUnit 8 = .ok (.aload_n 0, 1) := by decide +kernel
theorem dX3_isUnit_9 : decode cX3_isUnit 9 = .ok (.getfield 9, 3) := by decide +kernel
theorem dX3_isUnit_12 : decode cX3_isUnit 12 = .ok (.iconst 0, 1) := by decide +kernel
theorem dX3_isUnit_13 : decode cX3_isUnit 13 = .ok (.iaload, 1) := by decide +kernel
theorem dX3_isUnit_14 : decode cX3_isUnit 14 = .ok (.iconst 1, 1) := by decide +kernel
theorem dX3_isUnit_15 : decode cX3_isUnit 15 = .ok (.if_icmp .ne 7, 3) := by decide +kernel
theorem dX3_isUnit_18 : decode cX3_isUnit 18 = .ok (.iconst 1, 1) := by decide +kernel
theorem dX3_isUnit_19 : decode cX3_isUnit 19 = .ok (.goto 4, 3) := by decide +kernel
theorem dX3_isUnit_22 : decode cX3_isUnit 22 = .ok (.iconst 0, 1) := by decide +kernel
theorem dX3_isUnit_23 : decode cX3_isUnit 23 = .ok (.ireturn, 1) := by decide +kernel
theorem dX3_isLike_0 : decode cX3_isLike 0 = .ok (.aload_n 0, 1) := by decide +kernel
theorem dX3_isLike_1 : decode cX3_isLike 1 = .ok (.getfield 19, 3) := by decide +kernel
theorem dX3_isLike_4 : decode cX3_isLike 4 = .ok (.aload_n 1, 1) := by decide +kernel
theorem dX3_isLike_5 : decode cX3_isLike 5 = .ok (.getfield 19, 3) := by decide +kernel
theorem dX3_isLike_8 : decode cX3_isLike 8 = .ok (.if_icmp .ne 15, 3) := by decide +kernel
theorem dX3_isLike_11 : decode cX3_isLike 11 = .ok (.aload_n 0, 1) := by decide +kernel
theorem dX3_isLike_12 : decode cX3_isLike 12 = .ok (.aload_n 1, 1) := by decide +kernel
theorem dX3_isLike_13 : decode cX3_isLike 13 = .ok (.invokevirtual 44, 3) := by decide +kernel
theorem dX3_isLike_16 : decode cX3_isLike 16 = .ok (.ifCond .ne 7, 3) := by decide +kernel
theorem dX3_isLike_19 : decode cX3_isLike 19 = .ok (.iconst 1, 1) := by decide +kernel
theorem dX3_isLike_20 : decode cX3_isLike 20 = .ok (.goto 4, 3) := by decide +kernel
theorem dX3_isLike_23 : decode cX3_isLike 23 = .ok (.iconst 0, 1) := by decide +kernel
theorem dX3_isLike_24 : decode cX3_isLike 24 = .ok (.ireturn, 1) := by decide +kernel
theorem dX3_plus_0 : decode cX3_plus 0 = .ok (.iload_n 2, 1) := by decide +kernel
theorem dX3_plus_1 : decode cX3_plus 1 = .ok (.ifCond .ge 11, 3) := by decide +kernel
theorem dX3_plus_4 : decode cX3_plus 4 = .ok (.aload_n 1, 1) := by decide +kernel
theorem dX3_plus_5 : decode cX3_plus 5 = .ok (.getfield 19, 3) := by decide +kernel
theorem dX3_plus_8 : decode cX3_plus 8 = .ok (.ineg, 1) := by decide +kernel
theorem dX3_plus_9 : decode cX3_plus 9 = .ok (.goto 7, 3) := by decide +kernel
theorem dX3_plus_12 : decode cX3_plus 12 = .ok (.aload_n 1, 1) := by decide +kernel
theorem dX3_plus_13 : decode cX3_plus 13 = .ok (.getfield 19, 3) := by decide +kernel
theorem dX3_plus_16 : decode cX3_plus 16 = .ok (.istore_n 3, 1) := by decide +kernel
theorem dX3_plus_17 : decode cX3_plus 17 = .ok (.iload_n 3, 1) := by decide +kernel
theorem dX3_plus_18 : decode cX3_plus 18 = .ok (.ifCond .ne 4, 3) := by decide +kernel
theorem dX3_plus_21 : decode cX3_plus 21 = .ok (.return_, 1) := by decide +kernel
theorem dX3_plus_22 : decode cX3_plus 22 = .ok (.aload_n 0, 1) := by decide +kernel
theorem dX3_plus_23 : decode cX3_plus 23 = .ok (.getfield 19, 3) := by decide +kernel
theorem dX3_plus_26 : decode cX3_plus 26 = .ok (.ifCond .eq 11, 3) := by decide +kernel
theorem dX3_plus_29 : decode cX3_plus 29 = .ok (.aload_n 0, 1) := by decide +kernel
theorem dX3_plus_30 : decode cX3_plus 30 = .ok (.getfield 19, 3) := by decide +kernel
theorem dX3_plus_33 : decode cX3_plus 33 = .ok (.iload_n 3, 1) := by decide +kernel
theorem dX3_plus_34 : decode cX3_plus 34 = .ok (.if_icmp .ne 16, 3) := by decide +kernel
theorem dX3_plus_37 : decode cX3_plus 37 = .ok (.aload_n 0, 1) := by decide +kernel
theorem dX3_plus_38 : decode cX3_plus 38 = .ok (.iload_n 3, 1) := by decide +kernel
theorem dX3_plus_39 : decode cX3_plus 39 = .ok (.putfield 19, 3) := by decide +kernel
theorem dX3_plus_42 : decode cX3_plus 42 = .ok (.aload_n 0, 1) := by decide +kernel
theorem dX3_plus_43 : decode cX3_plus 43 = .ok (.aload_n 1, 1) := by decide +kernel
theorem dX3_plus_44 : decode cX3_plus 44 = .ok (.invokevirtual 48, 3) := by decide +kernel
theorem dX3_plus_47 : decode cX3_plus 47 = .ok (.goto 31, 3) := by decide +kernel
theorem dX3_plus_50 : decode cX3_plus 50 = .ok (.aload_n 0, 1) := by decide +kernel
theorem dX3_plus_51 : decode cX3_plus 51 = .ok (.aload_n 1, 1) := by decide +kernel
theorem dX3_plus_52 : decode cX3_plus 52 = .ok (.invokevirtual 44, 3) := by decide +kernel
theorem dX3_plus_55 : decode cX3_plus 55 = .ok (.ifCond .lt 12, 3) := by decide +kernel
theorem dX3_plus_58 : decode cX3_plus 58 = .ok (.aload_n 0, 1) := by decide +kernel
theorem dX3_plus_59 : decode cX3_plus 59 = .ok (.aload_n 0, 1) := by decide +kernel
theorem dX3_plus_60 : decode cX3_plus 60 = .ok (.aload_n 1, 1) := by decide +kernel
theorem dX3_plus_61 : decode cX3_plus 61 = .ok (.invokevirtual 52, 3) := by decide +kernel
theorem dX3_plus_64 : decode cX3_plus 64 = .ok (.goto 14, 3) := by decide +kernel
theorem dX3_plus_67 : decode cX3_plus 67 = .ok (.aload_n 0, 1) := by decide +kernel
theorem dX3_plus_68 : decode cX3_plus 68 = .ok (.iload_n 3, 1) := by decide +kernel
theorem dX3_plus_69 : decode cX3_plus 69 = .ok (.putfield 19, 3) := by decide +kernel
theorem dX3_plus_72 : decode cX3_plus 72 = .ok (.aload_n 0, 1) := by decide +kernel
theorem dX3_plus_73 : decode cX3_plus 73 = .ok (.aload_n 1, 1) := by decide +kernel
theorem dX3_plus_74 : decode cX3_plus 74 = .ok (.aload_n 0, 1) := by decide +kernel
theorem dX3_plus_75 : decode cX3_plus 75 = .ok (.invokevirtual 52, 3) := by decide +kernel
theorem dX3_plus_78 : decode cX3_plus 78 = .ok (.aload_n 0, 1) := by decide +kernel
theorem dX3_plus_79 : decode cX3_plus 79 = .ok (.invokevirtual 41, 3) := by decide +kernel
theorem dX3_plus_82 : decode cX3_plus 82 = .ok (.return_, 1) := by decide +kernel
theorem dX3_compareAbs_0 : decode cX3_compareAbs 0 = .ok (.aload_n 0, 1) := by decide +kernel
theorem dX3_compareAbs_1 : decode cX3_compareAbs 1 = .ok (.getfield 15, 3) := by decide +kernel
theorem dX3_compareAbs_4 : decode cX3_compareAbs 4 = .ok (.aload_n 1, 1) := by decide +kernel
theorem dX3_compareAbs_5 : decode cX3_compareAbs 5 = .ok (.getfield 15, 3) := by decide +kernel
theorem dX3_compareAbs_8 : decode cX3_compareAbs 8 = .ok (.if_icmp .eq 20, 3) := by decide +kernel
theorem dX3_compareAbs_11 : decode cX3_compareAbs 11 = .ok (.aload_n 0, 1) := by decide +kernel
theorem dX3_compareAbs_12 : decode cX3_compareAbs 12 = .ok (.getfield 15, 3) := by decide +kernel
theorem dX3_compareAbs_15 : decode cX3_compareAbs 15 = .ok (.aload_n 1, 1) := by decide +kernel
theorem dX3_compareAbs_16 : decode cX3_compareAbs 16 = .ok (.getfield 15, 3) := by decide +kernel
theorem dX3_compareAbs_19 : decode cX3_compareAbs 19 = .ok (.if_icmp .ge 7, 3) := by decide +kernel
theorem dX3_compareAbs_22 : decode cX3_compareAbs 22 = .ok (.iconst (-1), 1) := by decide +kernel
theorem dX3_compareAbs_23 : decode cX3_compareAbs 23 = .ok (.goto 4, 3) := by decide +kernel
theorem dX3_compareAbs_26 : decode cX3_compareAbs 26 = .ok (.iconst 1, 1) := by decide +kernel
theorem dX3_compareAbs_27 : decode cX3_compareAbs 27 = .ok (.ireturn, 1) := by decide +kernel
theorem dX3_compareAbs_28 : decode cX3_compareAbs 28 = .ok (.aload_n 0, 1) := by decide +kernel
theorem dX3_compareAbs_29 : decode cX3_compareAbs 29 = .ok (.getfield 15, 3) := by decide +kernel
theorem dX3_compareAbs_32 : decode cX3_compareAbs 32 = .ok (.iconst 1, 1) := by decide +kernel
theorem dX3_compareAbs_33 : decode cX3_compareAbs 33 = .ok (.isub, 1) := by decide +kernel
theorem dX3_compareAbs_34 : decode cX3_compareAbs 34 = .ok (.istore_n 2, 1) := by decide +kernel
theorem dX3_compareAbs_35 : decode cX3_compareAbs 35 = .ok (.iload_n 2, 1) := by decide +kernel
theorem dX3_compareAbs_36 : decode cX3_compareAbs 36 = .ok (.ifCond .lt 45, 3) := by decide +kernel
theorem dX3_compareAbs_39 : decode cX3_compareAbs 39 = .ok (.aload_n 0, 1) := by decide +kernel
theorem dX3_compareAbs_40 : decode cX3_compareAbs 40 = .ok (.getfield 9, 3) := by decide +kernel
theorem dX3_compareAbs_43 : decode cX3_compareAbs 43 = .ok (.iload_n 2, 1) := by decide +kernel
theorem dX3_compareAbs_44 : decode cX3_compareAbs 44 = .ok (.iaload, 1) := by decide +kernel
theorem dX3_compareAbs_45 : decode cX3_compareAbs 45 = .ok (.aload_n 1, 1) := by decide +kernel
theorem dX3_compareAbs_46 : decode cX3_compareAbs 46 = .ok (.getfield 9, 3) := by decide +kernel
theorem dX3_compareAbs_49 : decode cX3_compareAbs 49 = .ok (.iload_n 2, 1) := by decide +kernel
theorem dX3_compareAbs_50 : decode cX3_compareAbs 50 = .ok (.iaload, 1) := by decide +kernel
theorem dX3_compareAbs_51 : decode cX3_compareAbs 51 = .ok (.if_icmp .eq 24, 3) := by decide +kernel
theorem dX3_compareAbs_54 : decode cX3_compareAbs 54 = .ok (.aload_n 0, 1) := by decide +kernel
theorem dX3_compareAbs_55 : decode cX3_compareAbs 55 = .ok (.getfield 9, 3) := by decide +kernel
theorem dX3_compareAbs_58 : decode cX3_compareAbs 58 = .ok (.iload_n 2, 1) := by decide +kernel
theorem dX3_compareAbs_59 : decode cX3_compareAbs 59 = .ok (.iaload, 1) := by decide +kernel
theorem dX3_compareAbs_60 : decode cX3_compareAbs 60 = .ok (.aload_n 1, 1) := by decide +kernel
theorem dX3_compareAbs_61 : decode cX3_compareAbs 61 = .ok (.getfield 9, 3) := by decide +kernel
theorem dX3_compareAbs_64 : decode cX3_compareAbs 64 = .ok (.iload_n 2, 1) := by decide +kernel
theorem dX3_compareAbs_65 : decode cX3_compareAbs 65 = .ok (.iaload, 1) := by decide +kernel
theorem dX3_compareAbs_66 : decode cX3_compareAbs 66 = .ok (.if_icmp .ge 7, 3) := by decide +kernel
theorem dX3_compareAbs_69 : decode cX3_compareAbs 69 = .ok (.iconst (-1), 1) := by decide +kernel
theorem dX3_compareAbs_70 : decode cX3_compareAbs 70 = .ok (.goto 4, 3) := by decide +kernel
theorem dX3_compareAbs_73 : decode cX3_compareAbs 73 = .ok (.iconst 1, 1) := by decide +kernel
theorem dX3_compareAbs_74 : decode cX3_compareAbs 74 = .ok (.ireturn, 1) := by decide +kernel
theorem dX3_compareAbs_75 : decode cX3_compareAbs 75 = .ok (.iinc 2 (-1), 3) := by decide +kernel
theorem dX3_compareAbs_78 : decode cX3_compareAbs 78 = .ok (.goto (-43), 3) := by decide +kernel
theorem dX3_compareAbs_81 : decode cX3_compareAbs 81 = .ok (.iconst 0, 1) := by decide +kernel
theorem dX3_compareAbs_82 : decode cX3_compareAbs 82 = .ok (.ireturn, 1) := by decide +kernel
theorem dX3_join_0 : decode cX3_join 0 = .ok (.aload_n 0, 1) := by decide +kernel
theorem dX3_join_1 : decode cX3_join 1 = .ok (.getfield 15, 3) := by decide +kernel
theorem dX3_join_4 : decode cX3_join 4 = .ok (.aload_n 1, 1) := by decide +kernel
theorem dX3_join_5 : decode cX3_join 5 = .ok (.getfield 15, 3) := by decide +kernel
theorem dX3_join_8 : decode cX3_join 8 = .ok (.invokestatic 56, 3) := by decide +kernel
theorem dX3_join_11 : decode cX3_join 11 = .ok (.aload_n 0, 1) := by decide +kernel
theorem dX3_join_12 : decode cX3_join 12 = .ok (.getfield 9, 3) := by decide +kernel
theorem dX3_join_15 : decode cX3_join 15 = .ok (.arraylength, 1) := by decide +kernel
theorem dX3_join_16 : decode cX3_join 16 = .ok (.invokestatic 29, 3) := by decide +kernel
theorem dX3_join_19 : decode cX3_join 19 = .ok (.istore_n 2, 1) := by decide +kernel
theorem dX3_join_20 : decode cX3_join 20 = .ok (.iconst 0, 1) := by decide +kernel
theorem dX3_join_21 : decode cX3_join 21 = .ok (.istore_n 3, 1) := by decide +kernel
theorem dX3_join_22 : decode cX3_join 22 = .ok (.iconst 0, 1) := by decide +kernel
theorem dX3_join_23 : decode cX3_join 23 = .ok (.istore 4, 2) := by decide +kernel
theorem dX3_join_25 : decode cX3_join 25 = .ok (.iload 4, 2) := by decide +kernel
theorem dX3_join_27 : decode cX3_join 27 = .ok (.iload_n 2, 1) := by decide +kernel
theorem dX3_join_28 : decode cX3_join 28 = .ok (.if_icmp .ge 80, 3) := by decide +kernel
theorem dX3_join_31 : decode cX3_join 31 = .ok (.iload 4, 2) := by decide +kernel
theorem dX3_join_33 : decode cX3_join 33 = .ok (.aload_n 0, 1) := by decide +kernel
theorem dX3_join_34 : decode cX3_join 34 = .ok (.getfield 15, 3) := by decide +kernel
theorem dX3_join_37 : decode cX3_join 37 = .ok (.if_icmp .ge 13, 3) := by decide +kernel
theorem dX3_join_40 : decode cX3_join 40 = .ok (.aload_n 0, 1) := by decide +kernel
theorem dX3_join_41 : decode cX3_join 41 = .ok (.getfield 9, 3) := by decide +kernel
theorem dX3_join_44 : decode cX3_join 44 = .ok (.iload 4, 2) := by decide +kernel
theorem dX3_join_46 : decode cX3_join 46 = .ok (.iaload, 1) := by decide +kernel
theorem dX3_join_47 : decode cX3_join 47 = .ok (.goto 4, 3) := by decide +kernel
theorem dX3_join_50 : decode cX3_join 50 = .ok (.iconst 0, 1) := by decide +kernel
theorem dX3_join_51 : decode cX3_join 51 = .ok (.istore 5, 2) := by decide +kernel
theorem dX3_join_53 : decode cX3_join 53 = .ok (.iload 4, 2) := by decide +kernel
theorem dX3_join_55 : decode cX3_join 55 = .ok (.aload_n 1, 1) := by decide +kernel
theorem dX3_join_56 : decode cX3_join 56 = .ok (.getfield 15, 3) := by decide +kernel
theorem dX3_join_59 : decode cX3_join 59 = .ok (.if_icmp .ge 13, 3) := by decide +kernel
theorem dX3_join_62 : decode cX3_join 62 = .ok (.aload_n 1, 1) := by decide +kernel
theorem dX3_join_63 : decode cX3_join 63 = .ok (.getfield 9, 3) := by decide +kernel
theorem dX3_join_66 : decode cX3_join 66 = .ok (.iload 4, 2) := by decide +kernel
theorem dX3_join_68 : decode cX3_join 68 = .ok (.iaload, 1) := by decide +kernel
theorem dX3_join_69 : decode cX3_join 69 = .ok (.goto 4, 3) := by decide +kernel
theorem dX3_join_72 : decode cX3_join 72 = .ok (.iconst 0, 1) := by decide +kernel
theorem dX3_join_73 : decode cX3_join 73 = .ok (.istore 6, 2) := by decide +kernel
theorem dX3_join_75 : decode cX3_join 75 = .ok (.iload 5, 2) := by decide +kernel
theorem dX3_join_77 : decode cX3_join 77 = .ok (.iload 6, 2) := by decide +kernel
theorem dX3_join_79 : decode cX3_join 79 = .ok (.iadd, 1) := by decide +kernel
theorem dX3_join_80 : decode cX3_join 80 = .ok (.iload_n 3, 1) := by decide +kernel
theorem dX3_join_81 : decode cX3_join 81 = .ok (.iadd, 1) := by decide +kernel
theorem dX3_join_82 : decode cX3_join 82 = .ok (.istore 7, 2) := by decide +kernel
theorem dX3_join_84 : decode cX3_join 84 = .ok (.aload_n 0, 1) := by decide +kernel
theorem dX3_join_85 : decode cX3_join 85 = .ok (.getfield 9, 3) := by decide +kernel
theorem dX3_join_88 : decode cX3_join 88 = .ok (.iload 4, 2) := by decide +kernel
theorem dX3_join_90 : decode cX3_join 90 = .ok (.iload 7, 2) := by decide +kernel
theorem dX3_join_92 : decode cX3_join 92 = .ok (.ldc 59, 2) := by decide +kernel
theorem dX3_join_94 : decode cX3_join 94 = .ok (.iand, 1) := by decide +kernel
theorem dX3_join_95 : decode cX3_join 95 = .ok (.iastore, 1) := by decide +kernel
theorem dX3_join_96 : decode cX3_join 96 = .ok (.iload 7, 2) := by decide +kernel
theorem dX3_join_98 : decode cX3_join 98 = .ok (.bipush 31, 2) := by decide +kernel
theorem dX3_join_100 : decode cX3_join 100 = .ok (.iushr, 1) := by decide +kernel
theorem dX3_join_101 : decode cX3_join 101 = .ok (.istore_n 3, 1) := by decide +kernel
theorem dX3_join_102 : decode cX3_join 102 = .ok (.iinc 4 1, 3) := by decide +kernel
theorem dX3_join_105 : decode cX3_join 105 = .ok (.goto (-80), 3) := by decide +kernel
theorem dX3_join_108 : decode cX3_join 108 = .ok (.aload_n 0, 1) := by decide +kernel
theorem dX3_join_109 : decode cX3_join 109 = .ok (.iload_n 2, 1) := by decide +kernel
theorem dX3_join_110 : decode cX3_join 110 = .ok (.putfield 15, 3) := by decide +kernel
theorem dX3_join_113 : decode cX3_join 113 = .ok (.iload_n 3, 1) := by decide +kernel
theorem dX3_join_114 : decode cX3_join 114 = .ok (.ifCond .eq 35, 3) := by decide +kernel
theorem dX3_join_117 : decode cX3_join 117 = .ok (.aload_n 0, 1) := by decide +kernel
theorem dX3_join_118 : decode cX3_join 118 = .ok (.getfield 15, 3) := by decide +kernel
theorem dX3_join_121 : decode cX3_join 121 = .ok (.aload_n 0, 1) := by decide +kernel
theorem dX3_join_122 : decode cX3_join 122 = .ok (.getfield 9, 3) := by decide +kernel
theorem dX3_join_125 : decode cX3_join 125 = .ok (.arraylength, 1) := by decide +kernel
theorem dX3_join_126 : decode cX3_join 126 = .ok (.if_icmp .ge 23, 3) := by decide +kernel
theorem dX3_join_129 : decode cX3_join 129 = .ok (.aload_n 0, 1) := by decide +kernel
theorem dX3_join_130 : decode cX3_join 130 = .ok (.getfield 9, 3) := by decide +kernel
theorem dX3_join_133 : decode cX3_join 133 = .ok (.aload_n 0, 1) := by decide +kernel
theorem dX3_join_134 : decode cX3_join 134 = .ok (.getfield 15, 3) := by decide +kernel
theorem dX3_join_137 : decode cX3_join 137 = .ok (.iload_n 3, 1) := by decide +kernel
theorem dX3_join_138 : decode cX3_join 138 = .ok (.iastore, 1) := by decide +kernel
theorem dX3_join_139 : decode cX3_join 139 = .ok (.aload_n 0, 1) := by decide +kernel
theorem dX3_join_140 : decode cX3_join 140 = .ok (.dup, 1) := by decide +kernel
theorem dX3_join_141 : decode cX3_join 141 = .ok (.getfield 15, 3) := by decide +kernel
theorem dX3_join_144 : decode cX3_join 144 = .ok (.iconst 1, 1) := by decide +kernel
theorem dX3_join_145 : decode cX3_join 145 = .ok (.iadd, 1) := by decide +kernel
theorem dX3_join_146 : decode cX3_join 146 = .ok (.putfield 15, 3) := by decide +kernel
theorem dX3_join_149 : decode cX3_join 149 = .ok (.return_, 1) := by decide +kernel
theorem dX3_differ_0 : decode cX3_differ 0 = .ok (.aload_n 1, 1) := by decide +kernel
theorem dX3_differ_1 : decode cX3_differ 1 = .ok (.getfield 15, 3) := by decide +kernel
theorem dX3_differ_4 : decode cX3_differ 4 = .ok (.aload_n 0, 1) := by decide +kernel
theorem dX3_differ_5 : decode cX3_differ 5 = .ok (.getfield 9, 3) := by decide +kernel
theorem dX3_differ_8 : decode cX3_differ 8 = .ok (.arraylength, 1) := by decide +kernel
theorem dX3_differ_9 : decode cX3_differ 9 = .ok (.invokestatic 29, 3) := by decide +kernel
theorem dX3_differ_12 : decode cX3_differ 12 = .ok (.istore_n 3, 1) := by decide +kernel
theorem dX3_differ_13 : decode cX3_differ 13 = .ok (.iconst 0, 1) := by decide +kernel
theorem dX3_differ_14 : decode cX3_differ 14 = .ok (.istore 4, 2) := by decide +kernel
theorem dX3_differ_16 : decode cX3_differ 16 = .ok (.iconst 0, 1) := by decide +kernel
theorem dX3_differ_17 : decode cX3_differ 17 = .ok (.istore 5, 2) := by decide +kernel
theorem dX3_differ_19 : decode cX3_differ 19 = .ok (.iload 5, 2) := by decide +kernel
theorem dX3_differ_21 : decode cX3_differ 21 = .ok (.iload_n 3, 1) := by decide +kernel
theorem dX3_differ_22 : decode cX3_differ 22 = .ok (.if_icmp .ge 65, 3) := by decide +kernel
theorem dX3_differ_25 : decode cX3_differ 25 = .ok (.iload 5, 2) := by decide +kernel
theorem dX3_differ_27 : decode cX3_differ 27 = .ok (.aload_n 2, 1) := by decide +kernel
theorem dX3_differ_28 : decode cX3_differ 28 = .ok (.getfield 15, 3) := by decide +kernel
theorem dX3_differ_31 : decode cX3_differ 31 = .ok (.if_icmp .ge 13, 3) := by decide +kernel
theorem dX3_differ_34 : decode cX3_differ 34 = .ok (.aload_n 2, 1) := by decide +kernel
theorem dX3_differ_35 : decode cX3_differ 35 = .ok (.getfield 9, 3) := by decide +kernel
theorem dX3_differ_38 : decode cX3_differ 38 = .ok (.iload 5, 2) := by decide +kernel
theorem dX3_differ_40 : decode cX3_differ 40 = .ok (.iaload, 1) := by decide +kernel
theorem dX3_differ_41 : decode cX3_differ 41 = .ok (.goto 4, 3) := by decide +kernel
theorem dX3_differ_44 : decode cX3_differ 44 = .ok (.iconst 0, 1) := by decide +kernel
theorem dX3_differ_45 : decode cX3_differ 45 = .ok (.istore 6, 2) := by decide +kernel
theorem dX3_differ_47 : decode cX3_differ 47 = .ok (.aload_n 1, 1) := by decide +kernel
theorem dX3_differ_48 : decode cX3_differ 48 = .ok (.getfield 9, 3) := by decide +kernel
theorem dX3_differ_51 : decode cX3_differ 51 = .ok (.iload 5, 2) := by decide +kernel
theorem dX3_differ_53 : decode cX3_differ 53 = .ok (.iaload, 1) := by decide +kernel
theorem dX3_differ_54 : decode cX3_differ 54 = .ok (.iload 6, 2) := by decide +kernel
theorem dX3_differ_56 : decode cX3_differ 56 = .ok (.isub, 1) := by decide +kernel
theorem dX3_differ_57 : decode cX3_differ 57 = .ok (.iload 4, 2) := by decide +kernel
theorem dX3_differ_59 : decode cX3_differ 59 = .ok (.isub, 1) := by decide +kernel
theorem dX3_differ_60 : decode cX3_differ 60 = .ok (.istore 7, 2) := by decide +kernel
theorem dX3_differ_62 : decode cX3_differ 62 = .ok (.aload_n 0, 1) := by decide +kernel
theorem dX3_differ_63 : decode cX3_differ 63 = .ok (.getfield 9, 3) := by decide +kernel
theorem dX3_differ_66 : decode cX3_differ 66 = .ok (.iload 5, 2) := by decide +kernel
theorem dX3_differ_68 : decode cX3_differ 68 = .ok (.iload 7, 2) := by decide +kernel
theorem dX3_differ_70 : decode cX3_differ 70 = .ok (.ldc 59, 2) := by decide +kernel
theorem dX3_differ_72 : decode cX3_differ 72 = .ok (.iand, 1) := by decide +kernel
theorem dX3_differ_73 : decode cX3_differ 73 = .ok (.iastore, 1) := by decide +kernel
theorem dX3_differ_74 : decode cX3_differ 74 = .ok (.iload 7, 2) := by decide +kernel
theorem dX3_differ_76 : decode cX3_differ 76 = .ok (.bipush 31, 2) := by decide +kernel
theorem dX3_differ_78 : decode cX3_differ 78 = .ok (.iushr, 1) := by decide +kernel
theorem dX3_differ_79 : decode cX3_differ 79 = .ok (.istore 4, 2) := by decide +kernel
theorem dX3_differ_81 : decode cX3_differ 81 = .ok (.iinc 5 1, 3) := by decide +kernel
theorem dX3_differ_84 : decode cX3_differ 84 = .ok (.goto (-65), 3) := by decide +kernel
theorem dX3_differ_87 : decode cX3_differ 87 = .ok (.aload_n 0, 1) := by decide +kernel
theorem dX3_differ_88 : decode cX3_differ 88 = .ok (.iload_n 3, 1) := by decide +kernel
theorem dX3_differ_89 : decode cX3_differ 89 = .ok (.putfield 15, 3) := by decide +kernel
theorem dX3_differ_92 : decode cX3_differ 92 = .ok (.return_, 1) := by decide +kernel
theorem dX3_trim_0 : decode cX3_trim 0 = .ok (.aload_n 0, 1) := by decide +kernel
theorem dX3_trim_1 : decode cX3_trim 1 = .ok (.getfield 15, 3) := by decide +kernel
theorem dX3_trim_4 : decode cX3_trim 4 = .ok (.ifCond .le 30, 3) := by decide +kernel
theorem dX3_trim_7 : decode cX3_trim 7 = .ok (.aload_n 0, 1) := by decide +kernel
theorem dX3_trim_8 : decode cX3_trim 8 = .ok (.getfield 9, 3) := by decide +kernel
theorem dX3_trim_11 : decode cX3_trim 11 = .ok (.aload_n 0, 1) := by decide +kernel
theorem dX3_trim_12 : decode cX3_trim 12 = .ok (.getfield 15, 3) := by decide +kernel
theorem dX3_trim_15 : decode cX3_trim 15 = .ok (.iconst 1, 1) := by decide +kernel
theorem dX3_trim_16 : decode cX3_trim 16 = .ok (.isub, 1) := by decide +kernel
theorem dX3_trim_17 : decode cX3_trim 17 = .ok (.iaload, 1) := by decide +kernel
theorem dX3_trim_18 : decode cX3_trim 18 = .ok (.ifCond .ne 16, 3) := by decide +kernel
theorem dX3_trim_21 : decode cX3_trim 21 = .ok (.aload_n 0, 1) := by decide +kernel
theorem dX3_trim_22 : decode cX3_trim 22 = .ok (.dup, 1) := by decide +kernel
theorem dX3_trim_23 : decode cX3_trim 23 = .ok (.getfield 15, 3) := by decide +kernel
theorem dX3_trim_26 : decode cX3_trim 26 = .ok (.iconst 1, 1) := by decide +kernel
theorem dX3_trim_27 : decode cX3_trim 27 = .ok (.isub, 1) := by decide +kernel
theorem dX3_trim_28 : decode cX3_trim 28 = .ok (.putfield 15, 3) := by decide +kernel
theorem dX3_trim_31 : decode cX3_trim 31 = .ok (.goto (-31), 3) := by decide +kernel
theorem dX3_trim_34 : decode cX3_trim 34 = .ok (.aload_n 0, 1) := by decide +kernel
theorem dX3_trim_35 : decode cX3_trim 35 = .ok (.getfield 15, 3) := by decide +kernel
theorem dX3_trim_38 : decode cX3_trim 38 = .ok (.ifCond .ne 8, 3) := by decide +kernel
theorem dX3_trim_41 : decode cX3_trim 41 = .ok (.aload_n 0, 1) := by decide +kernel
theorem dX3_trim_42 : decode cX3_trim 42 = .ok (.iconst 0, 1) := by decide +kernel
theorem dX3_trim_43 : decode cX3_trim 43 = .ok (.putfield 19, 3) := by decide +kernel
theorem dX3_trim_46 : decode cX3_trim 46 = .ok (.return_, 1) := by decide +kernel
theorem dX3_scale_0 : decode cX3_scale 0 = .ok (.lload_n 1, 1) := by decide +kernel
theorem dX3_scale_1 : decode cX3_scale 1 = .ok (.lconst 0, 1) := by decide +kernel
theorem dX3_scale_2 : decode cX3_scale 2 = .ok (.lcmp, 1) := by decide +kernel
theorem dX3_scale_3 : decode cX3_scale 3 = .ok (.ifCond .ne 8, 3) := by decide +kernel
theorem dX3_scale_6 : decode cX3_scale 6 = .ok (.aload_n 0, 1) := by decide +kernel
theorem dX3_scale_7 : decode cX3_scale 7 = .ok (.invokevirtual 22, 3) := by decide +kernel
theorem dX3_scale_10 : decode cX3_scale 10 = .ok (.return_, 1) := by decide +kernel
theorem dX3_scale_11 : decode cX3_scale 11 = .ok (.lload_n 1, 1) := by decide +kernel
theorem dX3_scale_12 : decode cX3_scale 12 = .ok (.lconst 0, 1) := by decide +kernel
theorem dX3_scale_13 : decode cX3_scale 13 = .ok (.lcmp, 1) := by decide +kernel
theorem dX3_scale_14 : decode cX3_scale 14 = .ok (.ifCond .ge 8, 3) := by decide +kernel
theorem dX3_scale_17 : decode cX3_scale 17 = .ok (.lload_n 1, 1) := by decide +kernel
theorem dX3_scale_18 : decode cX3_scale 18 = .ok (.lneg, 1) := by decide +kernel
theorem dX3_scale_19 : decode cX3_scale 19 = .ok (.goto 4, 3) := by decide +kernel
theorem dX3_scale_22 : decode cX3_scale 22 = .ok (.lload_n 1, 1) := by decide +kernel
theorem dX3_scale_23 : decode cX3_scale 23 = .ok (.lstore_n 3, 1) := by decide +kernel
theorem dX3_scale_24 : decode cX3_scale 24 = .ok (.lconst 0, 1) := by decide +kernel
theorem dX3_scale_25 : decode cX3_scale 25 = .ok (.lstore 5, 2) := by decide +kernel
theorem dX3_scale_27 : decode cX3_scale 27 = .ok (.iconst 0, 1) := by decide +kernel
theorem dX3_scale_28 : decode cX3_scale 28 = .ok (.istore 7, 2) := by decide +kernel
theorem dX3_scale_30 : decode cX3_scale 30 = .ok (.iload 7, 2) := by decide +kernel
theorem dX3_scale_32 : decode cX3_scale 32 = .ok (.aload_n 0, 1) := by decide +kernel
theorem dX3_scale_33 : decode cX3_scale 33 = .ok (.getfield 15, 3) := by decide +kernel
theorem dX3_scale_36 : decode cX3_scale 36 = .ok (.if_icmp .ge 45, 3) := by decide +kernel
theorem dX3_scale_39 : decode cX3_scale 39 = .ok (.aload_n 0, 1) := by decide +kernel
theorem dX3_scale_40 : decode cX3_scale 40 = .ok (.getfield 9, 3) := by decide +kernel
theorem dX3_scale_43 : decode cX3_scale 43 = .ok (.iload 7, 2) := by decide +kernel
theorem dX3_scale_45 : decode cX3_scale 45 = .ok (.iaload, 1) := by decide +kernel
theorem dX3_scale_46 : decode cX3_scale 46 = .ok (.i2l, 1) := by decide +kernel
theorem dX3_scale_47 : decode cX3_scale 47 = .ok (.lload_n 3, 1) := by decide +kernel
theorem dX3_scale_48 : decode cX3_scale 48 = .ok (.lmul, 1) := by decide +kernel
theorem dX3_scale_49 : decode cX3_scale 49 = .ok (.lload 5, 2) := by decide +kernel
theorem dX3_scale_51 : decode cX3_scale 51 = .ok (.ladd, 1) := by decide +kernel
theorem dX3_scale_52 : decode cX3_scale 52 = .ok (.lstore 8, 2) := by decide +kernel
theorem dX3_scale_54 : decode cX3_scale 54 = .ok (.aload_n 0, 1) := by decide +kernel
theorem dX3_scale_55 : decode cX3_scale 55 = .ok (.getfield 9, 3) := by decide +kernel
theorem dX3_scale_58 : decode cX3_scale 58 = .ok (.iload 7, 2) := by decide +kernel
theorem dX3_scale_60 : decode cX3_scale 60 = .ok (.lload 8, 2) := by decide +kernel
theorem dX3_scale_62 : decode cX3_scale 62 = .ok (.ldc2_w 60, 3) := by decide +kernel
theorem dX3_scale_65 : decode cX3_scale 65 = .ok (.land, 1) := by decide +kernel
theorem dX3_scale_66 : decode cX3_scale 66 = .ok (.l2i, 1) := by decide +kernel
theorem dX3_scale_67 : decode cX3_scale 67 = .ok (.iastore, 1) := by decide +kernel
theorem dX3_scale_68 : decode cX3_scale 68 = .ok (.lload 8, 2) := by decide +kernel
theorem dX3_scale_70 : decode cX3_scale 70 = .ok (.bipush 31, 2) := by decide +kernel
theorem dX3_scale_72 : decode cX3_scale 72 = .ok (.lushr, 1) := by decide +kernel
theorem dX3_scale_73 : decode cX3_scale 73 = .ok (.lstore 5, 2) := by decide +kernel
theorem dX3_scale_75 : decode cX3_scale 75 = .ok (.iinc 7 1, 3) := by decide +kernel
theorem dX3_scale_78 : decode cX3_scale 78 = .ok (.goto (-48), 3) := by decide +kernel
theorem dX3_scale_81 : decode cX3_scale 81 = .ok (.lload 5, 2) := by decide +kernel
theorem dX3_scale_83 : decode cX3_scale 83 = .ok (.lconst 0, 1) := by decide +kernel
theorem dX3_scale_84 : decode cX3_scale 84 = .ok (.lcmp, 1) := by decide +kernel
theorem dX3_scale_85 : decode cX3_scale 85 = .ok (.ifCond .eq 51, 3) := by decide +kernel
theorem dX3_scale_88 : decode cX3_scale 88 = .ok (.aload_n 0, 1) := by decide +kernel
theorem dX3_scale_89 : decode cX3_scale 89 = .ok (.getfield 15, 3) := by decide +kernel
theorem dX3_scale_92 : decode cX3_scale 92 = .ok (.aload_n 0, 1) := by decide +kernel
theorem dX3_scale_93 : decode cX3_scale 93 = .ok (.getfield 9, 3) := by decide +kernel
theorem dX3_scale_96 : decode cX3_scale 96 = .ok (.arraylength, 1) := by decide +kernel
theorem dX3_scale_97 : decode cX3_scale 97 = .ok (.if_icmp .ge 39, 3) := by decide +kernel
theorem dX3_scale_100 : decode cX3_scale 100 = .ok (.aload_n 0, 1) := by decide +kernel
theorem dX3_scale_101 : decode cX3_scale 101 = .ok (.getfield 9, 3) := by decide +kernel
theorem dX3_scale_104 : decode cX3_scale 104 = .ok (.aload_n 0, 1) := by decide +kernel
theorem dX3_scale_105 : decode cX3_scale 105 = .ok (.getfield 15, 3) := by decide +kernel
theorem dX3_scale_108 : decode cX3_scale 108 = .ok (.lload 5, 2) := by decide +kernel
theorem dX3_scale_110 : decode cX3_scale 110 = .ok (.ldc2_w 60, 3) := by decide +kernel
theorem dX3_scale_113 : decode cX3_scale 113 = .ok (.land, 1) := by decide +kernel
theorem dX3_scale_114 : decode cX3_scale 114 = .ok (.l2i, 1) := by decide +kernel
theorem dX3_scale_115 : decode cX3_scale 115 = .ok (.iastore, 1) := by decide +kernel
theorem dX3_scale_116 : decode cX3_scale 116 = .ok (.aload_n 0, 1) := by decide +kernel
theorem dX3_scale_117 : decode cX3_scale 117 = .ok (.dup, 1) := by decide +kernel
theorem dX3_scale_118 : decode cX3_scale 118 = .ok (.getfield 15, 3) := by decide +kernel
theorem dX3_scale_121 : decode cX3_scale 121 = .ok (.iconst 1, 1) := by decide +kernel
theorem dX3_scale_122 : decode cX3_scale 122 = .ok (.iadd, 1) := by decide +kernel
theorem dX3_scale_123 : decode cX3_scale 123 = .ok (.putfield 15, 3) := by decide +kernel
theorem dX3_scale_126 : decode cX3_scale 126 = .ok (.lload 5, 2) := by decide +kernel
theorem dX3_scale_128 : decode cX3_scale 128 = .ok (.bipush 31, 2) := by decide +kernel
theorem dX3_scale_130 : decode cX3_scale 130 = .ok (.lushr, 1) := by decide +kernel
theorem dX3_scale_131 : decode cX3_scale 131 = .ok (.lstore 5, 2) := by decide +kernel
theorem dX3_scale_133 : decode cX3_scale 133 = .ok (.goto (-52), 3) := by decide +kernel
theorem dX3_scale_136 : decode cX3_scale 136 = .ok (.aload_n 0, 1) := by decide +kernel
theorem dX3_scale_137 : decode cX3_scale 137 = .ok (.lload_n 1, 1) := by decide +kernel
theorem dX3_scale_138 : decode cX3_scale 138 = .ok (.lconst 0, 1) := by decide +kernel
theorem dX3_scale_139 : decode cX3_scale 139 = .ok (.lcmp, 1) := by decide +kernel
theorem dX3_scale_140 : decode cX3_scale 140 = .ok (.ifCond .ge 11, 3) := by decide +kernel
theorem dX3_scale_143 : decode cX3_scale 143 = .ok (.aload_n 0, 1) := by decide +kernel
theorem dX3_scale_144 : decode cX3_scale 144 = .ok (.getfield 19, 3) := by decide +kernel
theorem dX3_scale_147 : decode cX3_scale 147 = .ok (.ineg, 1) := by decide +kernel
theorem dX3_scale_148 : decode cX3_scale 148 = .ok (.goto 7, 3) := by decide +kernel
theorem dX3_scale_151 : decode cX3_scale 151 = .ok (.aload_n 0, 1) := by decide +kernel
theorem dX3_scale_152 : decode cX3_scale 152 = .ok (.getfield 19, 3) := by decide +kernel
theorem dX3_scale_155 : decode cX3_scale 155 = .ok (.putfield 19, 3) := by decide +kernel
theorem dX3_scale_158 : decode cX3_scale 158 = .ok (.return_, 1) := by decide +kernel
theorem dX3_product_0 : decode cX3_product 0 = .ok (.aload_n 1, 1) := by decide +kernel
theorem dX3_product_1 : decode cX3_product 1 = .ok (.getfield 15, 3) := by decide +kernel
theorem dX3_product_4 : decode cX3_product 4 = .ok (.aload_n 2, 1) := by decide +kernel
theorem dX3_product_5 : decode cX3_product 5 = .ok (.getfield 15, 3) := by decide +kernel
theorem dX3_product_8 : decode cX3_product 8 = .ok (.iadd, 1) := by decide +kernel
theorem dX3_product_9 : decode cX3_product 9 = .ok (.aload_n 0, 1) := by decide +kernel
theorem dX3_product_10 : decode cX3_product 10 = .ok (.getfield 9, 3) := by decide +kernel
theorem dX3_product_13 : decode cX3_product 13 = .ok (.arraylength, 1) := by decide +kernel
theorem dX3_product_14 : decode cX3_product 14 = .ok (.invokestatic 29, 3) := by decide +kernel
theorem dX3_product_17 : decode cX3_product 17 = .ok (.istore_n 3, 1) := by decide +kernel
theorem dX3_product_18 : decode cX3_product 18 = .ok (.aload_n 0, 1) := by decide +kernel
theorem dX3_product_19 : decode cX3_product 19 = .ok (.getfield 9, 3) := by decide +kernel
theorem dX3_product_22 : decode cX3_product 22 = .ok (.iconst 0, 1) := by decide +kernel
theorem dX3_product_23 : decode cX3_product 23 = .ok (.iload_n 3, 1) := by decide +kernel
theorem dX3_product_24 : decode cX3_product 24 = .ok (.iconst 0, 1) := by decide +kernel
theorem dX3_product_25 : decode cX3_product 25 = .ok (.invokestatic 62, 3) := by decide +kernel
theorem dX3_product_28 : decode cX3_product 28 = .ok (.iconst 0, 1) := by decide +kernel
theorem dX3_product_29 : decode cX3_product 29 = .ok (.istore 4, 2) := by decide +kernel
theorem dX3_product_31 : decode cX3_product 31 = .ok (.iload 4, 2) := by decide +kernel
theorem dX3_product_33 : decode cX3_product 33 = .ok (.aload_n 1, 1) := by decide +kernel
theorem dX3_product_34 : decode cX3_product 34 = .ok (.getfield 15, 3) := by decide +kernel
theorem dX3_product_37 : decode cX3_product 37 = .ok (.if_icmp .ge 127, 3) := by decide +kernel
theorem dX3_product_40 : decode cX3_product 40 = .ok (.aload_n 1, 1) := by decide +kernel
theorem dX3_product_41 : decode cX3_product 41 = .ok (.getfield 9, 3) := by decide +kernel
theorem dX3_product_44 : decode cX3_product 44 = .ok (.iload 4, 2) := by decide +kernel
theorem dX3_product_46 : decode cX3_product 46 = .ok (.iaload, 1) := by decide +kernel
theorem dX3_product_47 : decode cX3_product 47 = .ok (.i2l, 1) := by decide +kernel
theorem dX3_product_48 : decode cX3_product 48 = .ok (.lstore 5, 2) := by decide +kernel
theorem dX3_product_50 : decode cX3_product 50 = .ok (.lconst 0, 1) := by decide +kernel
theorem dX3_product_51 : decode cX3_product 51 = .ok (.lstore 7, 2) := by decide +kernel
theorem dX3_product_53 : decode cX3_product 53 = .ok (.iconst 0, 1) := by decide +kernel
theorem dX3_product_54 : decode cX3_product 54 = .ok (.istore 9, 2) := by decide +kernel
theorem dX3_product_56 : decode cX3_product 56 = .ok (.iload 9, 2) := by decide +kernel
theorem dX3_product_58 : decode cX3_product 58 = .ok (.aload_n 2, 1) := by decide +kernel
theorem dX3_product_59 : decode cX3_product 59 = .ok (.getfield 15, 3) := by decide +kernel
theorem dX3_product_62 : decode cX3_product 62 = .ok (.if_icmp .ge 70, 3) := by decide +kernel
theorem dX3_product_65 : decode cX3_product 65 = .ok (.iload 4, 2) := by decide +kernel
theorem dX3_product_67 : decode cX3_product 67 = .ok (.iload 9, 2) := by decide +kernel
theorem dX3_product_69 : decode cX3_product 69 = .ok (.iadd, 1) := by decide +kernel
theorem dX3_product_70 : decode cX3_product 70 = .ok (.iload_n 3, 1) := by decide +kernel
theorem dX3_product_71 : decode cX3_product 71 = .ok (.if_icmp .ge 61, 3) := by decide +kernel
theorem dX3_product_74 : decode cX3_product 74 = .ok (.lload 5, 2) := by decide +kernel
theorem dX3_product_76 : decode cX3_product 76 = .ok (.aload_n 2, 1) := by decide +kernel
theorem dX3_product_77 : decode cX3_product 77 = .ok (.getfield 9, 3) := by decide +kernel
theorem dX3_product_80 : decode cX3_product 80 = .ok (.iload 9, 2) := by decide +kernel
theorem dX3_product_82 : decode cX3_product 82 = .ok (.iaload, 1) := by decide +kernel
theorem dX3_product_83 : decode cX3_product 83 = .ok (.i2l, 1) := by decide +kernel
theorem dX3_product_84 : decode cX3_product 84 = .ok (.lmul, 1) := by decide +kernel
theorem dX3_product_85 : decode cX3_product 85 = .ok (.aload_n 0, 1) := by decide +kernel
theorem dX3_product_86 : decode cX3_product 86 = .ok (.getfield 9, 3) := by decide +kernel
theorem dX3_product_89 : decode cX3_product 89 = .ok (.iload 4, 2) := by decide +kernel
theorem dX3_product_91 : decode cX3_product 91 = .ok (.iload 9, 2) := by decide +kernel
theorem dX3_product_93 : decode cX3_product 93 = .ok (.iadd, 1) := by decide +kernel
theorem dX3_product_94 : decode cX3_product 94 = .ok (.iaload, 1) := by decide +kernel
theorem dX3_product_95 : decode cX3_product 95 = .ok (.i2l, 1) := by decide +kernel
theorem dX3_product_96 : decode cX3_product 96 = .ok (.ladd, 1) := by decide +kernel
theorem dX3_product_97 : decode cX3_product 97 = .ok (.lload 7, 2) := by decide +kernel
theorem dX3_product_99 : decode cX3_product 99 = .ok (.ladd, 1) := by decide +kernel
theorem dX3_product_100 : decode cX3_product 100 = .ok (.lstore 10, 2) := by decide +kernel
theorem dX3_product_102 : decode cX3_product 102 = .ok (.aload_n 0, 1) := by decide +kernel
theorem dX3_product_103 : decode cX3_product 103 = .ok (.getfield 9, 3) := by decide +kernel
theorem dX3_product_106 : decode cX3_product 106 = .ok (.iload 4, 2) := by decide +kernel
theorem dX3_product_108 : decode cX3_product 108 = .ok (.iload 9, 2) := by decide +kernel
theorem dX3_product_110 : decode cX3_product 110 = .ok (.iadd, 1) := by decide +kernel
theorem dX3_product_111 : decode cX3_product 111 = .ok (.lload 10, 2) := by decide +kernel
theorem dX3_product_113 : decode cX3_product 113 = .ok (.ldc2_w 60, 3) := by decide +kernel
theorem dX3_product_116 : decode cX3_product 116 = .ok (.land, 1) := by decide +kernel
theorem dX3_product_117 : decode cX3_product 117 = .ok (.l2i, 1) := by decide +kernel
theorem dX3_product_118 : decode cX3_product 118 = .ok (.iastore, 1) := by decide +kernel
theorem dX3_product_119 : decode cX3_product 119 = .ok (.lload 10, 2) := by decide +kernel
theorem dX3_product_121 : decode cX3_product 121 = .ok (.bipush 31, 2) := by decide +kernel
theorem dX3_product_123 : decode cX3_product 123 = .ok (.lushr, 1) := by decide +kernel
theorem dX3_product_124 : decode cX3_product 124 = .ok (.lstore 7, 2) := by decide +kernel
theorem dX3_product_126 : decode cX3_product 126 = .ok (.iinc 9 1, 3) := by decide +kernel
theorem dX3_product_129 : decode cX3_product 129 = .ok (.goto (-73), 3) := by decide +kernel
theorem dX3_product_132 : decode cX3_product 132 = .ok (.iload 4, 2) := by decide +kernel
theorem dX3_product_134 : decode cX3_product 134 = .ok (.aload_n 2, 1) := by decide +kernel
theorem dX3_product_135 : decode cX3_product 135 = .ok (.getfield 15, 3) := by decide +kernel
theorem dX3_product_138 : decode cX3_product 138 = .ok (.iadd, 1) := by decide +kernel
theorem dX3_product_139 : decode cX3_product 139 = .ok (.iload_n 3, 1) := by decide +kernel
theorem dX3_product_140 : decode cX3_product 140 = .ok (.if_icmp .ge 18, 3) := by decide +kernel
theorem dX3_product_143 : decode cX3_product 143 = .ok (.aload_n 0, 1) := by decide +kernel
theorem dX3_product_144 : decode cX3_product 144 = .ok (.getfield 9, 3) := by decide +kernel
theorem dX3_product_147 : decode cX3_product 147 = .ok (.iload 4, 2) := by decide +kernel
theorem dX3_product_149 : decode cX3_product 149 = .ok (.aload_n 2, 1) := by decide +kernel
theorem dX3_product_150 : decode cX3_product 150 = .ok (.getfield 15, 3) := by decide +kernel
theorem dX3_product_153 : decode cX3_product 153 = .ok (.iadd, 1) := by decide +kernel
theorem dX3_product_154 : decode cX3_product 154 = .ok (.lload 7, 2) := by decide +kernel
theorem dX3_product_156 : decode cX3_product 156 = .ok (.l2i, 1) := by decide +kernel
theorem dX3_product_157 : decode cX3_product 157 = .ok (.iastore, 1) := by decide +kernel
theorem dX3_product_158 : decode cX3_product 158 = .ok (.iinc 4 1, 3) := by decide +kernel
theorem dX3_product_161 : decode cX3_product 161 = .ok (.goto (-130), 3) := by decide +kernel
theorem dX3_product_164 : decode cX3_product 164 = .ok (.aload_n 0, 1) := by decide +kernel
theorem dX3_product_165 : decode cX3_product 165 = .ok (.iload_n 3, 1) := by decide +kernel
theorem dX3_product_166 : decode cX3_product 166 = .ok (.putfield 15, 3) := by decide +kernel
theorem dX3_product_169 : decode cX3_product 169 = .ok (.aload_n 0, 1) := by decide +kernel
theorem dX3_product_170 : decode cX3_product 170 = .ok (.aload_n 1, 1) := by decide +kernel
theorem dX3_product_171 : decode cX3_product 171 = .ok (.getfield 19, 3) := by decide +kernel
theorem dX3_product_174 : decode cX3_product 174 = .ok (.aload_n 2, 1) := by decide +kernel
theorem dX3_product_175 : decode cX3_product 175 = .ok (.getfield 19, 3) := by decide +kernel
theorem dX3_product_178 : decode cX3_product 178 = .ok (.imul, 1) := by decide +kernel
theorem dX3_product_179 : decode cX3_product 179 = .ok (.putfield 19, 3) := by decide +kernel
theorem dX3_product_182 : decode cX3_product 182 = .ok (.aload_n 0, 1) := by decide +kernel
theorem dX3_product_183 : decode cX3_product 183 = .ok (.invokevirtual 41, 3) := by decide +kernel
theorem dX3_product_186 : decode cX3_product 186 = .ok (.return_, 1) := by decide +kernel
theorem dX3_divide_0 : decode cX3_divide 0 = .ok (.aload_n 2, 1) := by decide +kernel
theorem dX3_divide_1 : decode cX3_divide 1 = .ok (.invokevirtual 22, 3) := by decide +kernel
theorem dX3_divide_4 : decode cX3_divide 4 = .ok (.aload_n 0, 1) := by decide +kernel
theorem dX3_divide_5 : decode cX3_divide 5 = .ok (.getfield 15, 3) := by decide +kernel
theorem dX3_divide_8 : decode cX3_divide 8 = .ok (.aload_n 1, 1) := by decide +kernel
theorem dX3_divide_9 : decode cX3_divide 9 = .ok (.getfield 15, 3) := by decide +kernel
theorem dX3_divide_12 : decode cX3_divide 12 = .ok (.isub, 1) := by decide +kernel
theorem dX3_divide_13 : decode cX3_divide 13 = .ok (.istore_n 3, 1) := by decide +kernel
theorem dX3_divide_14 : decode cX3_divide 14 = .ok (.aload_n 1, 1) := by decide +kernel
theorem dX3_divide_15 : decode cX3_divide 15 = .ok (.getfield 15, 3) := by decide +kernel
theorem dX3_divide_18 : decode cX3_divide 18 = .ok (.ifCond .eq 16, 3) := by decide +kernel
theorem dX3_divide_21 : decode cX3_divide 21 = .ok (.iload_n 3, 1) := by decide +kernel
theorem dX3_divide_22 : decode cX3_divide 22 = .ok (.ifCond .lt 12, 3) := by decide +kernel
theorem dX3_divide_25 : decode cX3_divide 25 = .ok (.iload_n 3, 1) := by decide +kernel
theorem dX3_divide_26 : decode cX3_divide 26 = .ok (.aload_n 2, 1) := by decide +kernel
theorem dX3_divide_27 : decode cX3_divide 27 = .ok (.getfield 9, 3) := by decide +kernel
theorem dX3_divide_30 : decode cX3_divide 30 = .ok (.arraylength, 1) := by decide +kernel
theorem dX3_divide_31 : decode cX3_divide 31 = .ok (.if_icmp .lt 4, 3) := by decide +kernel
theorem dX3_divide_34 : decode cX3_divide 34 = .ok (.return_, 1) := by decide +kernel
theorem dX3_divide_35 : decode cX3_divide 35 = .ok (.aload_n 1, 1) := by decide +kernel
theorem dX3_divide_36 : decode cX3_divide 36 = .ok (.getfield 9, 3) := by decide +kernel
theorem dX3_divide_39 : decode cX3_divide 39 = .ok (.aload_n 1, 1) := by decide +kernel
theorem dX3_divide_40 : decode cX3_divide 40 = .ok (.getfield 15, 3) := by decide +kernel
theorem dX3_divide_43 : decode cX3_divide 43 = .ok (.iconst 1, 1) := by decide +kernel
theorem dX3_divide_44 : decode cX3_divide 44 = .ok (.isub, 1) := by decide +kernel
theorem dX3_divide_45 : decode cX3_divide 45 = .ok (.iaload, 1) := by decide +kernel
theorem dX3_divide_46 : decode cX3_divide 46 = .ok (.invokestatic 68, 3) := by decide +kernel
theorem dX3_divide_49 : decode cX3_divide 49 = .ok (.iconst 1, 1) := by decide +kernel
theorem dX3_divide_50 : decode cX3_divide 50 = .ok (.isub, 1) := by decide +kernel
theorem dX3_divide_51 : decode cX3_divide 51 = .ok (.istore 4, 2) := by decide +kernel
theorem dX3_divide_53 : decode cX3_divide 53 = .ok (.aload_n 1, 1) := by decide +kernel
theorem dX3_divide_54 : decode cX3_divide 54 = .ok (.aload_n 1, 1) := by decide +kernel
theorem dX3_divide_55 : decode cX3_divide 55 = .ok (.getfield 15, 3) := by decide +kernel
theorem dX3_divide_58 : decode cX3_divide 58 = .ok (.iconst 1, 1) := by decide +kernel
theorem dX3_divide_59 : decode cX3_divide 59 = .ok (.isub, 1) := by decide +kernel
theorem dX3_divide_60 : decode cX3_divide 60 = .ok (.iload 4, 2) := by decide +kernel
theorem dX3_divide_62 : decode cX3_divide 62 = .ok (.invokevirtual 74, 3) := by decide +kernel
theorem dX3_divide_65 : decode cX3_divide 65 = .ok (.lstore 5, 2) := by decide +kernel
theorem dX3_divide_67 : decode cX3_divide 67 = .ok (.aload_n 1, 1) := by decide +kernel
theorem dX3_divide_68 : decode cX3_divide 68 = .ok (.aload_n 1, 1) := by decide +kernel
theorem dX3_divide_69 : decode cX3_divide 69 = .ok (.getfield 15, 3) := by decide +kernel
theorem dX3_divide_72 : decode cX3_divide 72 = .ok (.iconst 2, 1) := by decide +kernel
theorem dX3_divide_73 : decode cX3_divide 73 = .ok (.isub, 1) := by decide +kernel
theorem dX3_divide_74 : decode cX3_divide 74 = .ok (.iload 4, 2) := by decide +kernel
theorem dX3_divide_76 : decode cX3_divide 76 = .ok (.invokevirtual 74, 3) := by decide +kernel
theorem dX3_divide_79 : decode cX3_divide 79 = .ok (.lstore 7, 2) := by decide +kernel
theorem dX3_divide_81 : decode cX3_divide 81 = .ok (.iload_n 3, 1) := by decide +kernel
theorem dX3_divide_82 : decode cX3_divide 82 = .ok (.istore 9, 2) := by decide +kernel
theorem dX3_divide_84 : decode cX3_divide 84 = .ok (.iload 9, 2) := by decide +kernel
theorem dX3_divide_86 : decode cX3_divide 86 = .ok (.ifCond .lt 105, 3) := by decide +kernel
theorem dX3_divide_89 : decode cX3_divide 89 = .ok (.iload 9, 2) := by decide +kernel
theorem dX3_divide_91 : decode cX3_divide 91 = .ok (.aload_n 1, 1) := by decide +kernel
theorem dX3_divide_92 : decode cX3_divide 92 = .ok (.getfield 15, 3) := by decide +kernel
theorem dX3_divide_95 : decode cX3_divide 95 = .ok (.iadd, 1) := by decide +kernel
theorem dX3_divide_96 : decode cX3_divide 96 = .ok (.istore 10, 2) := by decide +kernel
theorem dX3_divide_98 : decode cX3_divide 98 = .ok (.aload_n 0, 1) := by decide +kernel
theorem dX3_divide_99 : decode cX3_divide 99 = .ok (.iload 10, 2) := by decide +kernel
theorem dX3_divide_101 : decode cX3_divide 101 = .ok (.iload 4, 2) := by decide +kernel
theorem dX3_divide_103 : decode cX3_divide 103 = .ok (.invokevirtual 74, 3) := by decide +kernel
theorem dX3_divide_106 : decode cX3_divide 106 = .ok (.bipush 31, 2) := by decide +kernel
theorem dX3_divide_108 : decode cX3_divide 108 = .ok (.lshl, 1) := by decide +kernel
theorem dX3_divide_109 : decode cX3_divide 109 = .ok (.aload_n 0, 1) := by decide +kernel
theorem dX3_divide_110 : decode cX3_divide 110 = .ok (.iload 10, 2) := by decide +kernel
theorem dX3_divide_112 : decode cX3_divide 112 = .ok (.iconst 1, 1) := by decide +kernel
theorem dX3_divide_113 : decode cX3_divide 113 = .ok (.isub, 1) := by decide +kernel
theorem dX3_divide_114 : decode cX3_divide 114 = .ok (.iload 4, 2) := by decide +kernel
theorem dX3_divide_116 : decode cX3_divide 116 = .ok (.invokevirtual 74, 3) := by decide +kernel
theorem dX3_divide_119 : decode cX3_divide 119 = .ok (.lor, 1) := by decide +kernel
theorem dX3_divide_120 : decode cX3_divide 120 = .ok (.lstore 11, 2) := by decide +kernel
theorem dX3_divide_122 : decode cX3_divide 122 = .ok (.lload 11, 2) := by decide +kernel
theorem dX3_divide_124 : decode cX3_divide 124 = .ok (.aload_n 0, 1) := by decide +kernel
theorem dX3_divide_125 : decode cX3_divide 125 = .ok (.iload 10, 2) := by decide +kernel
theorem dX3_divide_127 : decode cX3_divide 127 = .ok (.iconst 2, 1) := by decide +kernel
theorem dX3_divide_128 : decode cX3_divide 128 = .ok (.isub, 1) := by decide +kernel
theorem dX3_divide_129 : decode cX3_divide 129 = .ok (.iload 4, 2) := by decide +kernel
theorem dX3_divide_131 : decode cX3_divide 131 = .ok (.invokevirtual 74, 3) := by decide +kernel
theorem dX3_divide_134 : decode cX3_divide 134 = .ok (.lload 5, 2) := by decide +kernel
theorem dX3_divide_136 : decode cX3_divide 136 = .ok (.lload 7, 2) := by decide +kernel
theorem dX3_divide_138 : decode cX3_divide 138 = .ok (.invokestatic 78, 3) := by decide +kernel
theorem dX3_divide_141 : decode cX3_divide 141 = .ok (.lstore 13, 2) := by decide +kernel
theorem dX3_divide_143 : decode cX3_divide 143 = .ok (.lload 13, 2) := by decide +kernel
theorem dX3_divide_145 : decode cX3_divide 145 = .ok (.lconst 0, 1) := by decide +kernel
theorem dX3_divide_146 : decode cX3_divide 146 = .ok (.lcmp, 1) := by decide +kernel
theorem dX3_divide_147 : decode cX3_divide 147 = .ok (.ifCond .eq 28, 3) := by decide +kernel
theorem dX3_divide_150 : decode cX3_divide 150 = .ok (.aload_n 0, 1) := by decide +kernel
theorem dX3_divide_151 : decode cX3_divide 151 = .ok (.aload_n 1, 1) := by decide +kernel
theorem dX3_divide_152 : decode cX3_divide 152 = .ok (.lload 13, 2) := by decide +kernel
theorem dX3_divide_154 : decode cX3_divide 154 = .ok (.iload 9, 2) := by decide +kernel
theorem dX3_divide_156 : decode cX3_divide 156 = .ok (.invokevirtual 82, 3) := by decide +kernel
theorem dX3_divide_159 : decode cX3_divide 159 = .ok (.ifCond .eq 16, 3) := by decide +kernel
theorem dX3_divide_162 : decode cX3_divide 162 = .ok (.aload_n 0, 1) := by decide +kernel
theorem dX3_divide_163 : decode cX3_divide 163 = .ok (.aload_n 1, 1) := by decide +kernel
theorem dX3_divide_164 : decode cX3_divide 164 = .ok (.iload 9, 2) := by decide +kernel
theorem dX3_divide_166 : decode cX3_divide 166 = .ok (.invokevirtual 86, 3) := by decide +kernel
theorem dX3_divide_169 : decode cX3_divide 169 = .ok (.lload 13, 2) := by decide +kernel
theorem dX3_divide_171 : decode cX3_divide 171 = .ok (.lconst 1, 1) := by decide +kernel
theorem dX3_divide_172 : decode cX3_divide 172 = .ok (.lsub, 1) := by decide +kernel
theorem dX3_divide_173 : decode cX3_divide 173 = .ok (.lstore 13, 2) := by decide +kernel
theorem dX3_divide_175 : decode cX3_divide 175 = .ok (.aload_n 2, 1) := by decide +kernel
theorem dX3_divide_176 : decode cX3_divide 176 = .ok (.getfield 9, 3) := by decide +kernel
theorem dX3_divide_179 : decode cX3_divide 179 = .ok (.iload 9, 2) := by decide +kernel
theorem dX3_divide_181 : decode cX3_divide 181 = .ok (.lload 13, 2) := by decide +kernel
theorem dX3_divide_183 : decode cX3_divide 183 = .ok (.l2i, 1) := by decide +kernel
theorem dX3_divide_184 : decode cX3_divide 184 = .ok (.iastore, 1) := by decide +kernel
theorem dX3_divide_185 : decode cX3_divide 185 = .ok (.iinc 9 (-1), 3) := by decide +kernel
theorem dX3_divide_188 : decode cX3_divide 188 = .ok (.goto (-104), 3) := by decide +kernel
theorem dX3_divide_191 : decode cX3_divide 191 = .ok (.aload_n 2, 1) := by decide +kernel
theorem dX3_divide_192 : decode cX3_divide 192 = .ok (.iload_n 3, 1) := by decide +kernel
theorem dX3_divide_193 : decode cX3_divide 193 = .ok (.iconst 1, 1) := by decide +kernel
theorem dX3_divide_194 : decode cX3_divide 194 = .ok (.iadd, 1) := by decide +kernel
theorem dX3_divide_195 : decode cX3_divide 195 = .ok (.putfield 15, 3) := by decide +kernel
theorem dX3_divide_198 : decode cX3_divide 198 = .ok (.aload_n 2, 1) := by decide +kernel
theorem dX3_divide_199 : decode cX3_divide 199 = .ok (.aload_n 0, 1) := by decide +kernel
theorem dX3_divide_200 : decode cX3_divide 200 = .ok (.getfield 19, 3) := by decide +kernel
theorem dX3_divide_203 : decode cX3_divide 203 = .ok (.aload_n 1, 1) := by decide +kernel
theorem dX3_divide_204 : decode cX3_divide 204 = .ok (.getfield 19, 3) := by decide +kernel
theorem dX3_divide_207 : decode cX3_divide 207 = .ok (.imul, 1) := by decide +kernel
theorem dX3_divide_208 : decode cX3_divide 208 = .ok (.putfield 19, 3) := by decide +kernel
theorem dX3_divide_211 : decode cX3_divide 211 = .ok (.aload_n 2, 1) := by decide +kernel
theorem dX3_divide_212 : decode cX3_divide 212 = .ok (.invokevirtual 41, 3) := by decide +kernel
theorem dX3_divide_215 : decode cX3_divide 215 = .ok (.aload_n 0, 1) := by decide +kernel
theorem dX3_divide_216 : decode cX3_divide 216 = .ok (.invokevirtual 41, 3) := by decide +kernel
theorem dX3_divide_219 : decode cX3_divide 219 = .ok (.return_, 1) := by decide +kernel
theorem dX3_window_0 : decode cX3_window 0 = .ok (.iload_n 1, 1) := by decide +kernel
theorem dX3_window_1 : decode cX3_window 1 = .ok (.ifCond .lt 20, 3) := by decide +kernel
theorem dX3_window_4 : decode cX3_window 4 = .ok (.iload_n 1, 1) := by decide +kernel
theorem dX3_window_5 : decode cX3_window 5 = .ok (.aload_n 0, 1) := by decide +kernel
theorem dX3_window_6 : decode cX3_window 6 = .ok (.getfield 15, 3) := by decide +kernel
theorem dX3_window_9 : decode cX3_window 9 = .ok (.if_icmp .ge 12, 3) := by decide +kernel
theorem dX3_window_12 : decode cX3_window 12 = .ok (.aload_n 0, 1) := by decide +kernel
theorem dX3_window_13 : decode cX3_window 13 = .ok (.getfield 9, 3) := by decide +kernel
theorem dX3_window_16 : decode cX3_window 16 = .ok (.iload_n 1, 1) := by decide +kernel
theorem dX3_window_17 : decode cX3_window 17 = .ok (.iaload, 1) := by decide +kernel
theorem dX3_window_18 : decode cX3_window 18 = .ok (.goto 4, 3) := by decide +kernel
theorem dX3_window_21 : decode cX3_window 21 = .ok (.iconst 0, 1) := by decide +kernel
theorem dX3_window_22 : decode cX3_window 22 = .ok (.istore_n 3, 1) := by decide +kernel
theorem dX3_window_23 : decode cX3_window 23 = .ok (.iload_n 1, 1) := by decide +kernel
theorem dX3_window_24 : decode cX3_window 24 = .ok (.iconst 1, 1) := by decide +kernel
theorem dX3_window_25 : decode cX3_window 25 = .ok (.if_icmp .lt 22, 3) := by decide +kernel
theorem dX3_window_28 : decode cX3_window 28 = .ok (.iload_n 1, 1) := by decide +kernel
theorem dX3_window_29 : decode cX3_window 29 = .ok (.aload_n 0, 1) := by decide +kernel
theorem dX3_window_30 : decode cX3_window 30 = .ok (.getfield 15, 3) := by decide +kernel
theorem dX3_window_33 : decode cX3_window 33 = .ok (.if_icmp .gt 14, 3) := by decide +kernel
theorem dX3_window_36 : decode cX3_window 36 = .ok (.aload_n 0, 1) := by decide +kernel
theorem dX3_window_37 : decode cX3_window 37 = .ok (.getfield 9, 3) := by decide +kernel
theorem dX3_window_40 : decode cX3_window 40 = .ok (.iload_n 1, 1) := by decide +kernel
theorem dX3_window_41 : decode cX3_window 41 = .ok (.iconst 1, 1) := by decide +kernel
theorem dX3_window_42 : decode cX3_window 42 = .ok (.isub, 1) := by decide +kernel
theorem dX3_window_43 : decode cX3_window 43 = .ok (.iaload, 1) := by decide +kernel
theorem dX3_window_44 : decode cX3_window 44 = .ok (.goto 4, 3) := by decide +kernel
theorem dX3_window_47 : decode cX3_window 47 = .ok (.iconst 0, 1) := by decide +kernel
theorem dX3_window_48 : decode cX3_window 48 = .ok (.istore 4, 2) := by decide +kernel
theorem dX3_window_50 : decode cX3_window 50 = .ok (.iload_n 3, 1) := by decide +kernel
theorem dX3_window_51 : decode cX3_window 51 = .ok (.iload_n 2, 1) := by decide +kernel
theorem dX3_window_52 : decode cX3_window 52 = .ok (.ishl, 1) := by decide +kernel
theorem dX3_window_53 : decode cX3_window 53 = .ok (.iload 4, 2) := by decide +kernel
theorem dX3_window_55 : decode cX3_window 55 = .ok (.bipush 31, 2) := by decide +kernel
theorem dX3_window_57 : decode cX3_window 57 = .ok (.iload_n 2, 1) := by decide +kernel
theorem dX3_window_58 : decode cX3_window 58 = .ok (.isub, 1) := by decide +kernel
theorem dX3_window_59 : decode cX3_window 59 = .ok (.iushr, 1) := by decide +kernel
theorem dX3_window_60 : decode cX3_window 60 = .ok (.ior, 1) := by decide +kernel
theorem dX3_window_61 : decode cX3_window 61 = .ok (.ldc 59, 2) := by decide +kernel
theorem dX3_window_63 : decode cX3_window 63 = .ok (.iand, 1) := by decide +kernel
theorem dX3_window_64 : decode cX3_window 64 = .ok (.i2l, 1) := by decide +kernel
theorem dX3_window_65 : decode cX3_window 65 = .ok (.lreturn, 1) := by decide +kernel
theorem dX3_guess_0 : decode cX3_guess 0 = .ok (.lload 4, 2) := by decide +kernel
theorem dX3_guess_2 : decode cX3_guess 2 = .ok (.lconst 0, 1) := by decide +kernel
theorem dX3_guess_3 : decode cX3_guess 3 = .ok (.lcmp, 1) := by decide +kernel
theorem dX3_guess_4 : decode cX3_guess 4 = .ok (.ifCond .gt 5, 3) := by decide +kernel
theorem dX3_guess_7 : decode cX3_guess 7 = .ok (.lconst 0, 1) := by decide +kernel
theorem dX3_guess_8 : decode cX3_guess 8 = .ok (.lreturn, 1) := by decide +kernel
theorem dX3_guess_9 : decode cX3_guess 9 = .ok (.lload_n 0, 1) := by decide +kernel
theorem dX3_guess_10 : decode cX3_guess 10 = .ok (.lload 4, 2) := by decide +kernel
theorem dX3_guess_12 : decode cX3_guess 12 = .ok (.ldiv, 1) := by decide +kernel
theorem dX3_guess_13 : decode cX3_guess 13 = .ok (.ldc2_w 60, 3) := by decide +kernel
theorem dX3_guess_16 : decode cX3_guess 16 = .ok (.invokestatic 90, 3) := by decide +kernel
theorem dX3_guess_19 : decode cX3_guess 19 = .ok (.lstore 8, 2) := by decide +kernel
theorem dX3_guess_21 : decode cX3_guess 21 = .ok (.lload_n 0, 1) := by decide +kernel
theorem dX3_guess_22 : decode cX3_guess 22 = .ok (.lload 8, 2) := by decide +kernel
theorem dX3_guess_24 : decode cX3_guess 24 = .ok (.lload 4, 2) := by decide +kernel
theorem dX3_guess_26 : decode cX3_guess 26 = .ok (.lmul, 1) := by decide +kernel
theorem dX3_guess_27 : decode cX3_guess 27 = .ok (.lsub, 1) := by decide +kernel
theorem dX3_guess_28 : decode cX3_guess 28 = .ok (.lstore 10, 2) := by decide +kernel
theorem dX3_guess_30 : decode cX3_guess 30 = .ok (.iconst 0, 1) := by decide +kernel
theorem dX3_guess_31 : decode cX3_guess 31 = .ok (.istore 12, 2) := by decide +kernel
theorem dX3_guess_33 : decode cX3_guess 33 = .ok (.iload 12, 2) := by decide +kernel
theorem dX3_guess_35 : decode cX3_guess 35 = .ok (.iconst 2, 1) := by decide +kernel
theorem dX3_guess_36 : decode cX3_guess 36 = .ok (.if_icmp .ge 50, 3) := by decide +kernel
theorem dX3_guess_39 : decode cX3_guess 39 = .ok (.lload 10, 2) := by decide +kernel
theorem dX3_guess_41 : decode cX3_guess 41 = .ok (.ldc2_w 60, 3) := by decide +kernel
theorem dX3_guess_44 : decode cX3_guess 44 = .ok (.lcmp, 1) := by decide +kernel
theorem dX3_guess_45 : decode cX3_guess 45 = .ok (.ifCond .gt 41, 3) := by decide +kernel
theorem dX3_guess_48 : decode cX3_guess 48 = .ok (.lload 8, 2) := by decide +kernel
theorem dX3_guess_50 : decode cX3_guess 50 = .ok (.lload 6, 2) := by decide +kernel
theorem dX3_guess_52 : decode cX3_guess 52 = .ok (.lmul, 1) := by decide +kernel
theorem dX3_guess_53 : decode cX3_guess 53 = .ok (.lload 10, 2) := by decide +kernel
theorem dX3_guess_55 : decode cX3_guess 55 = .ok (.bipush 31, 2) := by decide +kernel
theorem dX3_guess_57 : decode cX3_guess 57 = .ok (.lshl, 1) := by decide +kernel
theorem dX3_guess_58 : decode cX3_guess 58 = .ok (.lload_n 2, 1) := by decide +kernel
theorem dX3_guess_59 : decode cX3_guess 59 = .ok (.lor, 1) := by decide +kernel
theorem dX3_guess_60 : decode cX3_guess 60 = .ok (.lcmp, 1) := by decide +kernel
theorem dX3_guess_61 : decode cX3_guess 61 = .ok (.ifCond .gt 6, 3) := by decide +kernel
theorem dX3_guess_64 : decode cX3_guess 64 = .ok (.lload 8, 2) := by decide +kernel
theorem dX3_guess_66 : decode cX3_guess 66 = .ok (.lreturn, 1) := by decide +kernel
theorem dX3_guess_67 : decode cX3_guess 67 = .ok (.lload 8, 2) := by decide +kernel
theorem dX3_guess_69 : decode cX3_guess 69 = .ok (.lconst 1, 1) := by decide +kernel
theorem dX3_guess_70 : decode cX3_guess 70 = .ok (.lsub, 1) := by decide +kernel
theorem dX3_guess_71 : decode cX3_guess 71 = .ok (.lstore 8, 2) := by decide +kernel
theorem dX3_guess_73 : decode cX3_guess 73 = .ok (.lload 10, 2) := by decide +kernel
theorem dX3_guess_75 : decode cX3_guess 75 = .ok (.lload 4, 2) := by decide +kernel
theorem dX3_guess_77 : decode cX3_guess 77 = .ok (.ladd, 1) := by decide +kernel
theorem dX3_guess_78 : decode cX3_guess 78 = .ok (.lstore 10, 2) := by decide +kernel
theorem dX3_guess_80 : decode cX3_guess 80 = .ok (.iinc 12 1, 3) := by decide +kernel
theorem dX3_guess_83 : decode cX3_guess 83 = .ok (.goto (-50), 3) := by decide +kernel
theorem dX3_guess_86 : decode cX3_guess 86 = .ok (.lload 8, 2) := by decide +kernel
theorem dX3_guess_88 : decode cX3_guess 88 = .ok (.lreturn, 1) := by decide +kernel
theorem dX3_takesTooMuch_0 : decode cX3_takesTooMuch 0 = .ok (.lconst 0, 1) := by decide +kernel
theorem dX3_takesTooMuch_1 : decode cX3_takesTooMuch 1 = .ok (.lstore 5, 2) := by decide +kernel
theorem dX3_takesTooMuch_3 : decode cX3_takesTooMuch 3 = .ok (.iconst 0, 1) := by decide +kernel
theorem dX3_takesTooMuch_4 : decode cX3_takesTooMuch 4 = .ok (.istore 7, 2) := by decide +kernel
theorem dX3_takesTooMuch_6 : decode cX3_takesTooMuch 6 = .ok (.iload 7, 2) := by decide +kernel
theorem dX3_takesTooMuch_8 : decode cX3_takesTooMuch 8 = .ok (.aload_n 1, 1) := by decide +kernel
theorem dX3_takesTooMuch_9 : decode cX3_takesTooMuch 9 = .ok (.getfield 15, 3) := by decide +kernel
theorem dX3_takesTooMuch_12 : decode cX3_takesTooMuch 12 = .ok (.if_icmp .ge 72, 3) := by decide +kernel
theorem dX3_takesTooMuch_15 : decode cX3_takesTooMuch 15 = .ok (.iload 4, 2) := by decide +kernel
theorem dX3_takesTooMuch_17 : decode cX3_takesTooMuch 17 = .ok (.iload 7, 2) := by decide +kernel
theorem dX3_takesTooMuch_19 : decode cX3_takesTooMuch 19 = .ok (.iadd, 1) := by decide +kernel
theorem dX3_takesTooMuch_20 : decode cX3_takesTooMuch 20 = .ok (.aload_n 0, 1) := by decide +kernel
theorem dX3_takesTooMuch_21 : decode cX3_takesTooMuch 21 = .ok (.getfield 15, 3) := by decide +kernel
theorem dX3_takesTooMuch_24 : decode cX3_takesTooMuch 24 = .ok (.if_icmp .ge 60, 3) := by decide +kernel
theorem dX3_takesTooMuch_27 : decode cX3_takesTooMuch 27 = .ok (.aload_n 0, 1) := by decide +kernel
theorem dX3_takesTooMuch_28 : decode cX3_takesTooMuch 28 = .ok (.getfield 9, 3) := by decide +kernel
theorem dX3_takesTooMuch_31 : decode cX3_takesTooMuch 31 = .ok (.iload 4, 2) := by decide +kernel
theorem dX3_takesTooMuch_33 : decode cX3_takesTooMuch 33 = .ok (.iload 7, 2) := by decide +kernel
theorem dX3_takesTooMuch_35 : decode cX3_takesTooMuch 35 = .ok (.iadd, 1) := by decide +kernel
theorem dX3_takesTooMuch_36 : decode cX3_takesTooMuch 36 = .ok (.iaload, 1) := by decide +kernel
theorem dX3_takesTooMuch_37 : decode cX3_takesTooMuch 37 = .ok (.i2l, 1) := by decide +kernel
theorem dX3_takesTooMuch_38 : decode cX3_takesTooMuch 38 = .ok (.aload_n 1, 1) := by decide +kernel
theorem dX3_takesTooMuch_39 : decode cX3_takesTooMuch 39 = .ok (.getfield 9, 3) := by decide +kernel
theorem dX3_takesTooMuch_42 : decode cX3_takesTooMuch 42 = .ok (.iload 7, 2) := by decide +kernel
theorem dX3_takesTooMuch_44 : decode cX3_takesTooMuch 44 = .ok (.iaload, 1) := by decide +kernel
theorem dX3_takesTooMuch_45 : decode cX3_takesTooMuch 45 = .ok (.i2l, 1) := by decide +kernel
theorem dX3_takesTooMuch_46 : decode cX3_takesTooMuch 46 = .ok (.lload_n 2, 1) := by decide +kernel
theorem dX3_takesTooMuch_47 : decode cX3_takesTooMuch 47 = .ok (.lmul, 1) := by decide +kernel
theorem dX3_takesTooMuch_48 : decode cX3_takesTooMuch 48 = .ok (.lsub, 1) := by decide +kernel
theorem dX3_takesTooMuch_49 : decode cX3_takesTooMuch 49 = .ok (.lload 5, 2) := by decide +kernel
theorem dX3_takesTooMuch_51 : decode cX3_takesTooMuch 51 = .ok (.ladd, 1) := by decide +kernel
theorem dX3_takesTooMuch_52 : decode cX3_takesTooMuch 52 = .ok (.lstore 8, 2) := by decide +kernel
theorem dX3_takesTooMuch_54 : decode cX3_takesTooMuch 54 = .ok (.aload_n 0, 1) := by decide +kernel
theorem dX3_takesTooMuch_55 : decode cX3_takesTooMuch 55 = .ok (.getfield 9, 3) := by decide +kernel
theorem dX3_takesTooMuch_58 : decode cX3_takesTooMuch 58 = .ok (.iload 4, 2) := by decide +kernel
theorem dX3_takesTooMuch_60 : decode cX3_takesTooMuch 60 = .ok (.iload 7, 2) := by decide +kernel
theorem dX3_takesTooMuch_62 : decode cX3_takesTooMuch 62 = .ok (.iadd, 1) := by decide +kernel
theorem dX3_takesTooMuch_63 : decode cX3_takesTooMuch 63 = .ok (.lload 8, 2) := by decide +kernel
theorem dX3_takesTooMuch_65 : decode cX3_takesTooMuch 65 = .ok (.ldc2_w 60, 3) := by decide +kernel
theorem dX3_takesTooMuch_68 : decode cX3_takesTooMuch 68 = .ok (.land, 1) := by decide +kernel
theorem dX3_takesTooMuch_69 : decode cX3_takesTooMuch 69 = .ok (.l2i, 1) := by decide +kernel
theorem dX3_takesTooMuch_70 : decode cX3_takesTooMuch 70 = .ok (.iastore, 1) := by decide +kernel
theorem dX3_takesTooMuch_71 : decode cX3_takesTooMuch 71 = .ok (.lload 8, 2) := by decide +kernel
theorem dX3_takesTooMuch_73 : decode cX3_takesTooMuch 73 = .ok (.bipush 31, 2) := by decide +kernel
theorem dX3_takesTooMuch_75 : decode cX3_takesTooMuch 75 = .ok (.lshr, 1) := by decide +kernel
theorem dX3_takesTooMuch_76 : decode cX3_takesTooMuch 76 = .ok (.lstore 5, 2) := by decide +kernel
theorem dX3_takesTooMuch_78 : decode cX3_takesTooMuch 78 = .ok (.iinc 7 1, 3) := by decide +kernel
theorem dX3_takesTooMuch_81 : decode cX3_takesTooMuch 81 = .ok (.goto (-75), 3) := by decide +kernel
theorem dX3_takesTooMuch_84 : decode cX3_takesTooMuch 84 = .ok (.iload 4, 2) := by decide +kernel
theorem dX3_takesTooMuch_86 : decode cX3_takesTooMuch 86 = .ok (.aload_n 1, 1) := by decide +kernel
theorem dX3_takesTooMuch_87 : decode cX3_takesTooMuch 87 = .ok (.getfield 15, 3) := by decide +kernel
theorem dX3_takesTooMuch_90 : decode cX3_takesTooMuch 90 = .ok (.iadd, 1) := by decide +kernel
theorem dX3_takesTooMuch_91 : decode cX3_takesTooMuch 91 = .ok (.istore 7, 2) := by decide +kernel
theorem dX3_takesTooMuch_93 : decode cX3_takesTooMuch 93 = .ok (.iload 7, 2) := by decide +kernel
theorem dX3_takesTooMuch_95 : decode cX3_takesTooMuch 95 = .ok (.aload_n 0, 1) := by decide +kernel
theorem dX3_takesTooMuch_96 : decode cX3_takesTooMuch 96 = .ok (.getfield 15, 3) := by decide +kernel
theorem dX3_takesTooMuch_99 : decode cX3_takesTooMuch 99 = .ok (.if_icmp .ge 30, 3) := by decide +kernel
theorem dX3_takesTooMuch_102 : decode cX3_takesTooMuch 102 = .ok (.lload 5, 2) := by decide +kernel
theorem dX3_takesTooMuch_104 : decode cX3_takesTooMuch 104 = .ok (.aload_n 0, 1) := by decide +kernel
theorem dX3_takesTooMuch_105 : decode cX3_takesTooMuch 105 = .ok (.getfield 9, 3) := by decide +kernel
theorem dX3_takesTooMuch_108 : decode cX3_takesTooMuch 108 = .ok (.iload 7, 2) := by decide +kernel
theorem dX3_takesTooMuch_110 : decode cX3_takesTooMuch 110 = .ok (.iaload, 1) := by decide +kernel
theorem dX3_takesTooMuch_111 : decode cX3_takesTooMuch 111 = .ok (.i2l, 1) := by decide +kernel
theorem dX3_takesTooMuch_112 : decode cX3_takesTooMuch 112 = .ok (.ladd, 1) := by decide +kernel
theorem dX3_takesTooMuch_113 : decode cX3_takesTooMuch 113 = .ok (.lstore 5, 2) := by decide +kernel
theorem dX3_takesTooMuch_115 : decode cX3_takesTooMuch 115 = .ok (.aload_n 0, 1) := by decide +kernel
theorem dX3_takesTooMuch_116 : decode cX3_takesTooMuch 116 = .ok (.getfield 9, 3) := by decide +kernel
theorem dX3_takesTooMuch_119 : decode cX3_takesTooMuch 119 = .ok (.iload 7, 2) := by decide +kernel
theorem dX3_takesTooMuch_121 : decode cX3_takesTooMuch 121 = .ok (.lload 5, 2) := by decide +kernel
theorem dX3_takesTooMuch_123 : decode cX3_takesTooMuch 123 = .ok (.ldc2_w 60, 3) := by decide +kernel
theorem dX3_takesTooMuch_126 : decode cX3_takesTooMuch 126 = .ok (.land, 1) := by decide +kernel
theorem dX3_takesTooMuch_127 : decode cX3_takesTooMuch 127 = .ok (.l2i, 1) := by decide +kernel
theorem dX3_takesTooMuch_128 : decode cX3_takesTooMuch 128 = .ok (.iastore, 1) := by decide +kernel
theorem dX3_takesTooMuch_129 : decode cX3_takesTooMuch 129 = .ok (.lload 5, 2) := by decide +kernel
theorem dX3_takesTooMuch_131 : decode cX3_takesTooMuch 131 = .ok (.lconst 0, 1) := by decide +kernel
theorem dX3_takesTooMuch_132 : decode cX3_takesTooMuch 132 = .ok (.lcmp, 1) := by decide +kernel
theorem dX3_takesTooMuch_133 : decode cX3_takesTooMuch 133 = .ok (.ifCond .ge 7, 3) := by decide +kernel
theorem dX3_takesTooMuch_136 : decode cX3_takesTooMuch 136 = .ok (.iconst 1, 1) := by decide +kernel
theorem dX3_takesTooMuch_137 : decode cX3_takesTooMuch 137 = .ok (.goto 4, 3) := by decide +kernel
theorem dX3_takesTooMuch_140 : decode cX3_takesTooMuch 140 = .ok (.iconst 0, 1) := by decide +kernel
theorem dX3_takesTooMuch_141 : decode cX3_takesTooMuch 141 = .ok (.ireturn, 1) := by decide +kernel
theorem dX3_giveBack_0 : decode cX3_giveBack 0 = .ok (.iconst 0, 1) := by decide +kernel
theorem dX3_giveBack_1 : decode cX3_giveBack 1 = .ok (.istore_n 3, 1) := by decide +kernel
theorem dX3_giveBack_2 : decode cX3_giveBack 2 = .ok (.iconst 0, 1) := by decide +kernel
theorem dX3_giveBack_3 : decode cX3_giveBack 3 = .ok (.istore 4, 2) := by decide +kernel
theorem dX3_giveBack_5 : decode cX3_giveBack 5 = .ok (.iload 4, 2) := by decide +kernel
theorem dX3_giveBack_7 : decode cX3_giveBack 7 = .ok (.aload_n 1, 1) := by decide +kernel
theorem dX3_giveBack_8 : decode cX3_giveBack 8 = .ok (.getfield 15, 3) := by decide +kernel
theorem dX3_giveBack_11 : decode cX3_giveBack 11 = .ok (.if_icmp .ge 61, 3) := by decide +kernel
theorem dX3_giveBack_14 : decode cX3_giveBack 14 = .ok (.iload_n 2, 1) := by decide +kernel
theorem dX3_giveBack_15 : decode cX3_giveBack 15 = .ok (.iload 4, 2) := by decide +kernel
theorem dX3_giveBack_17 : decode cX3_giveBack 17 = .ok (.iadd, 1) := by decide +kernel
theorem dX3_giveBack_18 : decode cX3_giveBack 18 = .ok (.aload_n 0, 1) := by decide +kernel
theorem dX3_giveBack_19 : decode cX3_giveBack 19 = .ok (.getfield 15, 3) := by decide +kernel
theorem dX3_giveBack_22 : decode cX3_giveBack 22 = .ok (.if_icmp .ge 50, 3) := by decide +kernel
theorem dX3_giveBack_25 : decode cX3_giveBack 25 = .ok (.aload_n 0, 1) := by decide +kernel
theorem dX3_giveBack_26 : decode cX3_giveBack 26 = .ok (.getfield 9, 3) := by decide +kernel
theorem dX3_giveBack_29 : decode cX3_giveBack 29 = .ok (.iload_n 2, 1) := by decide +kernel
theorem dX3_giveBack_30 : decode cX3_giveBack 30 = .ok (.iload 4, 2) := by decide +kernel
theorem dX3_giveBack_32 : decode cX3_giveBack 32 = .ok (.iadd, 1) := by decide +kernel
theorem dX3_giveBack_33 : decode cX3_giveBack 33 = .ok (.iaload, 1) := by decide +kernel
theorem dX3_giveBack_34 : decode cX3_giveBack 34 = .ok (.aload_n 1, 1) := by decide +kernel
theorem dX3_giveBack_35 : decode cX3_giveBack 35 = .ok (.getfield 9, 3) := by decide +kernel
theorem dX3_giveBack_38 : decode cX3_giveBack 38 = .ok (.iload 4, 2) := by decide +kernel
theorem dX3_giveBack_40 : decode cX3_giveBack 40 = .ok (.iaload, 1) := by decide +kernel
theorem dX3_giveBack_41 : decode cX3_giveBack 41 = .ok (.iadd, 1) := by decide +kernel
theorem dX3_giveBack_42 : decode cX3_giveBack 42 = .ok (.iload_n 3, 1) := by decide +kernel
theorem dX3_giveBack_43 : decode cX3_giveBack 43 = .ok (.iadd, 1) := by decide +kernel
theorem dX3_giveBack_44 : decode cX3_giveBack 44 = .ok (.istore 5, 2) := by decide +kernel
theorem dX3_giveBack_46 : decode cX3_giveBack 46 = .ok (.aload_n 0, 1) := by decide +kernel
theorem dX3_giveBack_47 : decode cX3_giveBack 47 = .ok (.getfield 9, 3) := by decide +kernel
theorem dX3_giveBack_50 : decode cX3_giveBack 50 = .ok (.iload_n 2, 1) := by decide +kernel
theorem dX3_giveBack_51 : decode cX3_giveBack 51 = .ok (.iload 4, 2) := by decide +kernel
theorem dX3_giveBack_53 : decode cX3_giveBack 53 = .ok (.iadd, 1) := by decide +kernel
theorem dX3_giveBack_54 : decode cX3_giveBack 54 = .ok (.iload 5, 2) := by decide +kernel
theorem dX3_giveBack_56 : decode cX3_giveBack 56 = .ok (.ldc 59, 2) := by decide +kernel
theorem dX3_giveBack_58 : decode cX3_giveBack 58 = .ok (.iand, 1) := by decide +kernel
theorem dX3_giveBack_59 : decode cX3_giveBack 59 = .ok (.iastore, 1) := by decide +kernel
theorem dX3_giveBack_60 : decode cX3_giveBack 60 = .ok (.iload 5, 2) := by decide +kernel
theorem dX3_giveBack_62 : decode cX3_giveBack 62 = .ok (.bipush 31, 2) := by decide +kernel
theorem dX3_giveBack_64 : decode cX3_giveBack 64 = .ok (.iushr, 1) := by decide +kernel
theorem dX3_giveBack_65 : decode cX3_giveBack 65 = .ok (.istore_n 3, 1) := by decide +kernel
theorem dX3_giveBack_66 : decode cX3_giveBack 66 = .ok (.iinc 4 1, 3) := by decide +kernel
theorem dX3_giveBack_69 : decode cX3_giveBack 69 = .ok (.goto (-64), 3) := by decide +kernel
theorem dX3_giveBack_72 : decode cX3_giveBack 72 = .ok (.iload_n 2, 1) := by decide +kernel
theorem dX3_giveBack_73 : decode cX3_giveBack 73 = .ok (.aload_n 1, 1) := by decide +kernel
theorem dX3_giveBack_74 : decode cX3_giveBack 74 = .ok (.getfield 15, 3) := by decide +kernel
theorem dX3_giveBack_77 : decode cX3_giveBack 77 = .ok (.iadd, 1) := by decide +kernel
theorem dX3_giveBack_78 : decode cX3_giveBack 78 = .ok (.istore 4, 2) := by decide +kernel
theorem dX3_giveBack_80 : decode cX3_giveBack 80 = .ok (.iload 4, 2) := by decide +kernel
theorem dX3_giveBack_82 : decode cX3_giveBack 82 = .ok (.aload_n 0, 1) := by decide +kernel
theorem dX3_giveBack_83 : decode cX3_giveBack 83 = .ok (.getfield 15, 3) := by decide +kernel
theorem dX3_giveBack_86 : decode cX3_giveBack 86 = .ok (.if_icmp .ge 22, 3) := by decide +kernel
theorem dX3_giveBack_89 : decode cX3_giveBack 89 = .ok (.aload_n 0, 1) := by decide +kernel
theorem dX3_giveBack_90 : decode cX3_giveBack 90 = .ok (.getfield 9, 3) := by decide +kernel
theorem dX3_giveBack_93 : decode cX3_giveBack 93 = .ok (.iload 4, 2) := by decide +kernel
theorem dX3_giveBack_95 : decode cX3_giveBack 95 = .ok (.aload_n 0, 1) := by decide +kernel
theorem dX3_giveBack_96 : decode cX3_giveBack 96 = .ok (.getfield 9, 3) := by decide +kernel
theorem dX3_giveBack_99 : decode cX3_giveBack 99 = .ok (.iload 4, 2) := by decide +kernel
theorem dX3_giveBack_101 : decode cX3_giveBack 101 = .ok (.iaload, 1) := by decide +kernel
theorem dX3_giveBack_102 : decode cX3_giveBack 102 = .ok (.iload_n 3, 1) := by decide +kernel
theorem dX3_giveBack_103 : decode cX3_giveBack 103 = .ok (.iadd, 1) := by decide +kernel
theorem dX3_giveBack_104 : decode cX3_giveBack 104 = .ok (.ldc 59, 2) := by decide +kernel
theorem dX3_giveBack_106 : decode cX3_giveBack 106 = .ok (.iand, 1) := by decide +kernel
theorem dX3_giveBack_107 : decode cX3_giveBack 107 = .ok (.iastore, 1) := by decide +kernel
theorem dX3_giveBack_108 : decode cX3_giveBack 108 = .ok (.return_, 1) := by decide +kernel
end
section
/-! THE WORLD AS A SET OF CELLS: 'wd D A T H' says that the heap holds every cell of T, and that these lie apart in A. Rows for one instruction each; a contract's start and end over such worlds. -/
def wd (D : va_G) (A : Nat → Prop) (T : Nat × va_E → Prop) (H : Heap) : Prop := ∃ ws : va_W, va_P D vwCl ws H ∧ va_D A ws ∧ ∀ q, T q → ∃ k : Nat, ws[k]? = some q
theorem wd_set {D : va_G} {A : Nat → Prop} {T T' : Nat × va_E → Prop} {H : Heap} {a k : Nat} {ws : va_W} {e0 e1 : va_E} (hP : va_P D vwCl (ws.set k (a, e1)) H) (hD : va_D A (ws.set k (a, e1))) (hk : ws[k]? = some (a, e0)) (hm : ∀ q, T q → ∃ k : Nat, ws[k]? = some q) (hT : ∀ q, T' q → q = (a, e1) ∨ (T q ∧ q.1 ≠ a)) : wd D A T' H := by
  refine ⟨_, hP, hD, fun q hq => ?_⟩
  have hlt : k < ws.length := (List.getElem?_eq_some_iff.mp hk).1
  rcases hT q hq with rfl | ⟨h1, h2⟩
  · exact ⟨k, by rw [List.getElem?_set_self hlt]⟩
  · obtain ⟨j, hj⟩ := hm q h1
    refine ⟨j, ?_⟩
    have hne : k ≠ j := by
      intro he
      subst he
      rw [hk] at hj
      cases hj
      exact h2 rfl
    rw [List.getElem?_set_ne hne]
    exact hj
/-- what a walk knows of its start: the machine, the code, the class, the words, the classes' numbers, the nest's links -/
def kn (D : va_G) (tys : List (ClassId × FieldType)) (U : State) : Prop := va_K D vwCl tys U ∧ ∀ w ∈ nestW, va_Nw w U
def cx (p : Program) (m : MethodId) (meth : Method) (c : Code) (s : State) (args : Array Value) (cc : ByteArray) (nL : Nat) (own : String) (D : va_G) (tys : List (ClassId × FieldType)) : Prop :=
  p.tables.exec = Jvm.exec ∧ c.code = cc ∧ c.maxLocals = nL ∧ s.vm.findClass own = some m.cls ∧ (∀ w ∈ wsA, w.before args s = true) ∧ kn D tys s ∧ meth.locks = false
theorem nestW_tab : ∀ w ∈ nestW, w.onTables = true := by decide +kernel
theorem nest_warm {s U : State} (hW : s.WarmedH U.vm) (h : ∀ w ∈ nestW, va_Nw w s) : ∀ w ∈ nestW, va_Nw w U := by
  intro w hw
  have h1 := h w hw
  rcases List.mem_append.mp hw with q | q
  · obtain ⟨t, -, rfl⟩ := List.mem_map.mp q
    exact va_Nw.warmF hW h1
  · obtain ⟨t, -, rfl⟩ := List.mem_map.mp q
    exact va_Nw.warmM hW h1
theorem kn.warm {D : va_G} {tys : List (ClassId × FieldType)} {s U : State} (hW : s.WarmedH U.vm) (h : kn D tys s) : kn D tys U := ⟨va_K.moved hW.alike h.1, nest_warm hW h.2⟩
theorem kn.calling {D : va_G} {tys : List (ClassId × FieldType)} {U : State} (g : JFrame) (mk : MethodId) (a : Array Value) (h : kn D tys U) : kn D tys (U.calling g mk a) := ⟨va_K.moved (u := U) (U := U.calling g mk a) (Vm.Alike.refl U.vm) h.1, fun w hw => va_Nw.same (u := U) (U := U.calling g mk a) (nestW_tab w hw) rfl (h.2 w hw)⟩
def mPc (D : va_G) (tys : List (ClassId × FieldType)) (A : Nat → Prop) (T : Nat × va_E → Prop) (av : List Value) : Array Value → State → Prop := va_Pc av (fun U => kn D tys U ∧ wd D A T U.heap)
theorem mPc_blind {D : va_G} {tys : List (ClassId × FieldType)} {A : Nat → Prop} {T : Nat × va_E → Prop} {av : List Value} : FrameBlind (mPc D tys A T av) := by
  intro a U g mk h
  exact ⟨h.1, h.2.1.calling g mk a, h.2.2⟩
theorem mPc_at {D : va_G} {tys : List (ClassId × FieldType)} {A : Nat → Prop} {T : Nat × va_E → Prop} {av : List Value} {s : State} {H : Heap} (hk : kn D tys s) (hw : wd D A T H) : ∀ U : State, U.heap = H → s.WarmedH U.vm → mPc D tys A T av av.toArray U := by
  intro U hU hW
  exact ⟨rfl, hk.warm hW, by rw [hU]; exact hw⟩
theorem good_V {own C : String} {index : Nat} {y : MethodName} {bytes : ByteArray} {maxL : Nat} {ret : Option FieldType} (h1 : Cond.methodLink own index y ∈ wsA) (h2 : Cond.instanceMethod y ∈ wsA) (h3 : Cond.selects C y y ∈ wsA) (h4 : Cond.initialized C ∈ wsA) (h5 : Cond.code y bytes maxL ret ∈ wsA) : GoodIn wsA (wsV own index C y (Cond.code y bytes maxL ret :: wsA)) := by
  intro w hw
  have hm : w ∈ wsA := by
    rcases List.mem_append.mp hw with q | q
    · simp only [List.mem_cons, List.not_mem_nil, or_false] at q
      rcases q with rfl | rfl | rfl | rfl
      · exact h1
      · exact h2
      · exact h3
      · exact h4
    · rcases List.mem_cons.mp q with rfl | q
      · exact h5
      · exact q
  exact ⟨hm, wsA_good w hm⟩
theorem good_S {own : String} {index : Nat} {y : MethodName} {bytes : ByteArray} {maxL : Nat} {ret : Option FieldType} (h1 : Cond.methodLink own index y ∈ wsA) (h2 : Cond.static y ∈ wsA) (h4 : Cond.initialized y.cls ∈ wsA) (h5 : Cond.code y bytes maxL ret ∈ wsA) : GoodIn wsA (va_wsS own index y (Cond.code y bytes maxL ret :: wsA)) := by
  intro w hw
  have hm : w ∈ wsA := by
    rcases List.mem_append.mp hw with q | q
    · simp only [List.mem_cons, List.not_mem_nil, or_false] at q
      rcases q with rfl | rfl | rfl
      · exact h1
      · exact h2
      · exact h4
    · rcases List.mem_cons.mp q with rfl | q
      · exact h5
      · exact q
  exact ⟨hm, wsA_good w hm⟩
section M
variable {p : Program} {l : Launch} {e : Env} {R : Room} {s : State} {m : MethodId} {args : Array Value} {below : List Frame} {meth : Method} {c : Code} {H : Heap} {locs : List Loc} {Q : State → Prop}
variable {cc : ByteArray} {pc : Nat} {ls : Array Slot} {rest : List Value} {D : va_G} {A : Nat → Prop} {a : Nat} {tys : List (ClassId × FieldType)} {H0 : Heap} {T T' : Nat × va_E → Prop} {own : String} {nL : Nat}
theorem m_get (X : cx p m meth c s args cc nL own D tys) (hw : wd D A T H) {ci : Nat} {fs : List Value} (hT : T (a, .inr (ci, fs))) {C : String} {TT : u_T} {N index : Nat} (hc : vwCl[ci]? = some (C, TT, N)) (hin : ∀ w ∈ u_ws C TT N, w ∈ wsA) (k : Nat) (hk : k < N) (hlink : Cond.fieldLink own index (TT k).1 (TT k).2.1 (TT k).2.2.1 ∈ wsA) {v : Value} (hv : fs[k]? = some v) (hdg : decode cc pc = .ok (.getfield index, 3))
    (kk : W p l e R s m args below meth c H locs 0 0 Q (F0 m (pc + 3) ls (v :: rest))) : W p l e R s m args below meth c H locs 0 0 Q (F0 m pc ls (.ref a :: rest)) := by
  obtain ⟨hx, hb, hml, hown, hts, hK, hlk⟩ := X
  obtain ⟨ws, hP, hD, hm⟩ := hw
  obtain ⟨k0, hk0⟩ := hm _ hT
  exact va_get hx hb hts hin hown hK.1 hP k0 hk0 hc k hk (hts _ hlink) (fun _ h => h) hv hdg kk
theorem m_getN (X : cx p m meth c s args cc nL own D tys) (hw : wd D A T H) {ci : Nat} {fs : List Value} (hT : T (a, .inr (ci, fs))) {C host : String} {TT : u_T} {N index : Nat} (hc : vwCl[ci]? = some (C, TT, N)) (hin : ∀ w ∈ u_ws C TT N, w ∈ wsA) (k : Nat) (hk : k < N) (hlink : Cond.fieldLinkNest own index (TT k).1 (TT k).2.1 (TT k).2.2.1 host ∈ nestW) {v : Value} (hv : fs[k]? = some v) (hdg : decode cc pc = .ok (.getfield index, 3))
    (kk : W p l e R s m args below meth c H locs 0 0 Q (F0 m (pc + 3) ls (v :: rest))) : W p l e R s m args below meth c H locs 0 0 Q (F0 m pc ls (.ref a :: rest)) := by
  obtain ⟨hx, hb, hml, hown, hts, hK, hlk⟩ := X
  obtain ⟨ws, hP, hD, hm⟩ := hw
  obtain ⟨k0, hk0⟩ := hm _ hT
  exact va_getN hx hb hts hin hown hK.1 hP k0 hk0 hc k hk (va_Nw.use rfl (hK.2 _ hlink)) (fun _ h => h) hv hdg kk
theorem m_put (X : cx p m meth c s args cc nL own D tys) (hw : wd D A T H) (hS : va_S A H0 H locs) {ci : Nat} {fs : List Value} (hT : T (a, .inr (ci, fs))) {C : String} {TT : u_T} {N index : Nat} (hc : vwCl[ci]? = some (C, TT, N)) (hin : ∀ w ∈ u_ws C TT N, w ∈ wsA) (ty0 : Nat → FieldType) (hty : ∀ k, k < N → parseFieldDescriptor (TT k).2.2.1 = some (ty0 k)) (hnm : ∀ a, a < N → ∀ b, b < N → a ≠ b → (TT a).2.1 ≠ (TT b).2.1) (k : Nat) (hk : k < N) (hlink : Cond.fieldLink own index (TT k).1 (TT k).2.1 (TT k).2.2.1 ∈ wsA) (hfin : (TT k).2.2.2 = false) (hd : parseFieldDescriptor (TT k).2.2.1 = some .int) {x : Int32} (hl : k < fs.length) (hT' : ∀ q, T' q → q = (a, .inr (ci, fs.set k (.int x))) ∨ (T q ∧ q.1 ≠ a)) (hdg : decode cc pc = .ok (.putfield index, 3))
    (kk : ∀ (H1 : Heap) (locs1 : List Loc), wd D A T' H1 → va_S A H0 H1 locs1 → W p l e R s m args below meth c H1 locs1 0 0 Q (F0 m (pc + 3) ls rest)) : W p l e R s m args below meth c H locs 0 0 Q (F0 m pc ls (.int x :: .ref a :: rest)) := by
  obtain ⟨hx, hb, hml, hown, hts, hK, hlk⟩ := X
  obtain ⟨ws, hP, hD, hm⟩ := hw
  obtain ⟨k0, hk0⟩ := hm _ hT
  exact va_put hx hb hts hin ty0 hty hnm hown hK.1 hP hD hS k0 hk0 hc k hk (hts _ hlink) (fun _ h => h) hfin hd rfl rfl hl hdg (fun H1 locs1 hP1 hD1 hS1 => kk H1 locs1 (wd_set hP1 hD1 hk0 hm hT') hS1)
theorem m_iald (X : cx p m meth c s args cc nL own D tys) (hw : wd D A T H) {cA : ClassId} {n : Nat} {f : Nat → Int32} (hT : T (a, .inl (cA, n, .inl f))) (t0 : Nat) (ht : tys[t0]? = some (cA, .int)) {i : Int32} (hin : vp_in i n) (hdg : decode cc pc = .ok (.iaload, 1))
    (kk : W p l e R s m args below meth c H locs 0 0 Q (F0 m (pc + 1) ls (.int (f i.toNatClampNeg) :: rest))) : W p l e R s m args below meth c H locs 0 0 Q (F0 m pc ls (.int i :: .ref a :: rest)) := by
  obtain ⟨hx, hb, hml, hown, hts, hK, hlk⟩ := X
  obtain ⟨ws, hP, hD, hm⟩ := hw
  obtain ⟨k0, hk0⟩ := hm _ hT
  exact va_iald hx hb hK.1 hP k0 t0 hk0 ht hin hdg kk
theorem m_lald (X : cx p m meth c s args cc nL own D tys) (hw : wd D A T H) {cA : ClassId} {n : Nat} {f : Nat → Int64} (hT : T (a, .inl (cA, n, .inr (.inl f)))) (t0 : Nat) (ht : tys[t0]? = some (cA, .long)) {i : Int32} (hin : vp_in i n) (hdg : decode cc pc = .ok (.laload, 1))
    (kk : W p l e R s m args below meth c H locs 0 0 Q (F0 m (pc + 1) ls (.long (f i.toNatClampNeg) :: rest))) : W p l e R s m args below meth c H locs 0 0 Q (F0 m pc ls (.int i :: .ref a :: rest)) := by
  obtain ⟨hx, hb, hml, hown, hts, hK, hlk⟩ := X
  obtain ⟨ws, hP, hD, hm⟩ := hw
  obtain ⟨k0, hk0⟩ := hm _ hT
  exact va_lald hx hb hK.1 hP k0 t0 hk0 ht hin hdg kk
theorem m_aald (X : cx p m meth c s args cc nL own D tys) (hw : wd D A T H) {cA : ClassId} {C : String} {n : Nat} {f : Nat → Option Nat} (hT : T (a, .inl (cA, n, .inr (.inr (.inr (.inr f)))))) (t0 : Nat) (ht : tys[t0]? = some (cA, .object C)) {i : Int32} (hin : vp_in i n) (hdg : decode cc pc = .ok (.aaload, 1))
    (kk : W p l e R s m args below meth c H locs 0 0 Q (F0 m (pc + 1) ls (va_rf (f i.toNatClampNeg) :: rest))) : W p l e R s m args below meth c H locs 0 0 Q (F0 m pc ls (.int i :: .ref a :: rest)) := by
  obtain ⟨hx, hb, hml, hown, hts, hK, hlk⟩ := X
  obtain ⟨ws, hP, hD, hm⟩ := hw
  obtain ⟨k0, hk0⟩ := hm _ hT
  exact va_aldq hx hb hK.1 hP k0 t0 hk0 ht hin hdg kk
theorem m_alen (X : cx p m meth c s args cc nL own D tys) (hw : wd D A T H) {cA : ClassId} {x : vp_A} (hT : T (a, .inl (cA, x))) (t0 : Nat) {ty : FieldType} (ht : tys[t0]? = some (cA, ty)) {v : Int32} (hv : Int32.ofNat x.1 = v) (hdg : decode cc pc = .ok (.arraylength, 1))
    (kk : W p l e R s m args below meth c H locs 0 0 Q (F0 m (pc + 1) ls (.int v :: rest))) : W p l e R s m args below meth c H locs 0 0 Q (F0 m pc ls (.ref a :: rest)) := by
  obtain ⟨hx, hb, hml, hown, hts, hK, hlk⟩ := X
  obtain ⟨ws, hP, hD, hm⟩ := hw
  obtain ⟨k0, hk0⟩ := hm _ hT
  exact va_alen hx hb hK.1 hP k0 t0 hk0 ht hv hdg kk
theorem m_iast (X : cx p m meth c s args cc nL own D tys) (hw : wd D A T H) (hS : va_S A H0 H locs) {cA : ClassId} {n : Nat} {f : Nat → Int32} (hT : T (a, .inl (cA, n, .inl f))) (t0 : Nat) (ht : tys[t0]? = some (cA, .int)) {i x : Int32} (hin : vp_in i n) (hT' : ∀ q, T' q → q = (a, .inl (cA, n, .inl (upd f i.toNatClampNeg x))) ∨ (T q ∧ q.1 ≠ a)) (hdg : decode cc pc = .ok (.iastore, 1))
    (kk : ∀ (H1 : Heap) (locs1 : List Loc), wd D A T' H1 → va_S A H0 H1 locs1 → W p l e R s m args below meth c H1 locs1 0 0 Q (F0 m (pc + 1) ls rest)) : W p l e R s m args below meth c H locs 0 0 Q (F0 m pc ls (.int x :: .int i :: .ref a :: rest)) := by
  obtain ⟨hx, hb, hml, hown, hts, hK, hlk⟩ := X
  obtain ⟨ws, hP, hD, hm⟩ := hw
  obtain ⟨k0, hk0⟩ := hm _ hT
  exact va_iast hx hb hK.1 hP hD hS k0 t0 hk0 ht hin hdg (fun H1 locs1 hP1 hD1 hS1 => kk H1 locs1 (wd_set hP1 hD1 hk0 hm hT') hS1)
theorem m_last (X : cx p m meth c s args cc nL own D tys) (hw : wd D A T H) (hS : va_S A H0 H locs) {cA : ClassId} {n : Nat} {f : Nat → Int64} (hT : T (a, .inl (cA, n, .inr (.inl f)))) (t0 : Nat) (ht : tys[t0]? = some (cA, .long)) {i : Int32} {x : Int64} (hin : vp_in i n) (hT' : ∀ q, T' q → q = (a, .inl (cA, n, .inr (.inl (vp_updL f i.toNatClampNeg x)))) ∨ (T q ∧ q.1 ≠ a)) (hdg : decode cc pc = .ok (.lastore, 1))
    (kk : ∀ (H1 : Heap) (locs1 : List Loc), wd D A T' H1 → va_S A H0 H1 locs1 → W p l e R s m args below meth c H1 locs1 0 0 Q (F0 m (pc + 1) ls rest)) : W p l e R s m args below meth c H locs 0 0 Q (F0 m pc ls (.long x :: .int i :: .ref a :: rest)) := by
  obtain ⟨hx, hb, hml, hown, hts, hK, hlk⟩ := X
  obtain ⟨ws, hP, hD, hm⟩ := hw
  obtain ⟨k0, hk0⟩ := hm _ hT
  exact va_last hx hb hK.1 hP hD hS k0 t0 hk0 ht hin hdg (fun H1 locs1 hP1 hD1 hS1 => kk H1 locs1 (wd_set hP1 hD1 hk0 hm hT') hS1)
theorem m_copyi (X : cx p m meth c s args cc nL own D tys) (hsz : ls.size = nL) (hw : wd D A T H) (hS : va_S A H0 H locs) {index : Nat} (h1 : Cond.methodLink own index arraycopyName ∈ wsA) (h2 : Cond.native arraycopyName ∈ wsA) (h3 : Cond.static arraycopyName ∈ wsA) (h4 : Cond.initialized "java/lang/System" ∈ wsA) {a0 : Nat} {cA : ClassId} {n0 n1 : Nat} {f g : Nat → Int32} (hT0 : T (a0, .inl (cA, n0, .inl f))) (hT1 : T (a, .inl (cA, n1, .inl g))) (t0 : Nat) (ht : tys[t0]? = some (cA, .int)) {sp dp n : Int32} (k1 : ¬ sp < 0) (k2 : ¬ dp < 0) (k3 : ¬ n < 0) (k4 : sp.toNatClampNeg + n.toNatClampNeg ≤ n0) (k5 : dp.toNatClampNeg + n.toNatClampNeg ≤ n1) (hfr : 1 ≤ R.frames) (hlo : (rest.map fun v => v.category).sum + (nativeFrameWords "java/lang/System" "arraycopy" 5 + 11) ≤ R.locals) (hT' : ∀ q, T' q → q = (a, .inl (cA, n1, .inl (va_cpy f g sp.toNatClampNeg dp.toNatClampNeg n.toNatClampNeg))) ∨ (T q ∧ q.1 ≠ a)) (hdg : decode cc pc = .ok (.invokestatic index, 3))
    (kk : ∀ (H1 : Heap) (locs1 : List Loc), wd D A T' H1 → va_S A H0 H1 locs1 → W p l e R s m args below meth c H1 locs1 0 0 Q (F0 m (pc + 3) ls rest)) : W p l e R s m args below meth c H locs 0 0 Q (F0 m pc ls (.int n :: .int dp :: .ref a :: .int sp :: .ref a0 :: rest)) := by
  obtain ⟨hx, hb, hml, hown, hts, hK, hlk⟩ := X
  obtain ⟨ws, hP, hD, hm⟩ := hw
  obtain ⟨k0, hk0⟩ := hm _ hT0
  obtain ⟨j0, hj0⟩ := hm _ hT1
  exact va_copyi hx hb (hml.trans hsz.symm) hown (hts _ h1) (hts _ h2) (hts _ h3) (hts _ h4) hK.1 hP hD hS k0 j0 t0 t0 hk0 hj0 ht ht rfl k1 k2 k3 k4 k5 (fun _ _ => rfl) hfr hlo hdg (fun H1 locs1 hP1 hD1 hS1 => kk H1 locs1 (wd_set hP1 hD1 hj0 hm hT') hS1)
end M
end
section
/-! calls and returns over worlds; a method out of its entry -/
def vfit (y : MethodName) (bytes : ByteArray) (maxL : Nat) (ret : Option FieldType) (n : Nat) : Prop := Cond.instanceMethod y ∈ wsA ∧ Cond.selects y.cls y y ∈ wsA ∧ Cond.initialized y.cls ∈ wsA ∧ Cond.code y bytes maxL ret ∈ wsA ∧ y.cls ≠ "java/lang/invoke/MethodHandle" ∧ y.cls ≠ "java/lang/invoke/VarHandle" ∧ (parseMethodDescriptor y.desc).map (fun d => d.parameters.length) = some n
def sfit (y : MethodName) (bytes : ByteArray) (maxL : Nat) (ret : Option FieldType) (n : Nat) : Prop := Cond.static y ∈ wsA ∧ Cond.initialized y.cls ∈ wsA ∧ Cond.code y bytes maxL ret ∈ wsA ∧ y.cls ≠ "java/lang/invoke/MethodHandle" ∧ y.cls ≠ "java/lang/invoke/VarHandle" ∧ (parseMethodDescriptor y.desc).map (fun d => d.parameters.length) = some n
def rfit (rm R : Room) (maxL : Nat) : Prop := rm.cells = 0 ∧ rm.slots = 0 ∧ rm.frames + 1 ≤ R.frames ∧ 8 + (maxL + 11) + rm.locals ≤ R.locals
theorem wd_eq {D : va_G} {A : Nat → Prop} {T : Nat × va_E → Prop} {H H' : Heap} (h : H = H') (hw : wd D A T H') : wd D A T H := h ▸ hw
section MC
variable {p : Program} {l : Launch} {e : Env} {R : Room} {s : State} {m : MethodId} {args : Array Value} {below : List Frame} {meth : Method} {c : Code} {H : Heap} {locs : List Loc} {Q : State → Prop}
variable {cc : ByteArray} {pc : Nat} {ls : Array Slot} {rest : List Value} {D : va_G} {A : Nat → Prop} {b : Nat} {tys : List (ClassId × FieldType)} {H0 : Heap} {T T' : Nat × va_E → Prop} {own : String} {nL : Nat}
variable {S : Type} {TT : S → Nat × va_E → Prop} {y : MethodName} {bytes : ByteArray} {maxL n index : Nat} {ret : Option FieldType} {rm : Room} {As st0 : List Value}
theorem m_cVi {post : Int32 → S → Prop} (X : cx p m meth c s args cc nL own D tys) (hsz : ls.size = nL) (hw : wd D A T H) (hS : va_S A H0 H locs) (hM : Met l y (Cond.code y bytes maxL ret :: wsA) rm (mPc D tys A T (.ref b :: As)) (va_Qi post (fun u t => wd D A (TT u) t.heap) A) 0 0 A) (hlink : Cond.methodLink own index y ∈ wsA) (hf : vfit y bytes maxL ret n) {ci : Nat} {fs : List Value} (hT : T (b, .inr (ci, fs))) {q : vw_C} (hc : vwCl[ci]? = some q) (hq : q.1 = y.cls) (hr : rfit rm R maxL) (hn : As.length = n) (hst : st0 = As.reverse ++ .ref b :: rest) (hro : (rest.map fun v => v.category).sum ≤ 8) (hdg : decode cc pc = .ok (.invokevirtual index, 3))
    (kk : ∀ (r : Int32) (u : S) (H1 : Heap) (locs1 : List Loc), post r u → wd D A (TT u) H1 → va_S A H0 H1 locs1 → W p l e R s m args below meth c H1 locs1 0 0 Q (F0 m (pc + 3) ls (.int r :: rest))) : W p l e R s m args below meth c H locs 0 0 Q (F0 m pc ls st0) := by
  obtain ⟨hx, hb, hml, hown, hts, hK, hlk⟩ := X
  obtain ⟨f1, f2, f3, f4, f5, f6, f7⟩ := hf
  obtain ⟨ws, hP, hD, hm⟩ := id hw
  obtain ⟨k0, hk0⟩ := hm _ hT
  have hrec := va_recv hK.1 hP hc hk0
  rw [hq] at hrec
  have run := va_runV (g := F0 m pc ls st0) (l := l) (p := p) (e := e) (below := below) (meth := meth) (locs := locs) (cells := 0) (slots := 0) (rest := rest) ⟨hx, hb, hml, hown, hts⟩ hM (cwV (R := R) n hts (good_V hlink f1 f2 f3 f4) rfl hr.1 hr.2.1 ⟨rfl, f5, f6, f7⟩ hr.2.2) ⟨mPc_blind, hrec, mPc_at hK hw⟩ rfl hn hsz hst (lv_room hro) hdg ⟨Nat.zero_le _, Nat.zero_le _⟩
  exact va_calli run hS (fun _ _ h => h) (fun _ h => h) (fun r u t H1 locs1 ht hvm hp hB hz hk hS1 => kk r u H1 locs1 hp (wd_eq ht.symm hB) hS1)
theorem m_cSi {post : Int32 → S → Prop} (X : cx p m meth c s args cc nL own D tys) (hsz : ls.size = nL) (hw : wd D A T H) (hS : va_S A H0 H locs) (hM : Met l y (Cond.code y bytes maxL ret :: wsA) rm (mPc D tys A T As) (va_Qi post (fun u t => wd D A (TT u) t.heap) A) 0 0 A) (hlink : Cond.methodLink own index y ∈ wsA) (hf : sfit y bytes maxL ret n) (hr : rfit rm R maxL) (hn : As.length = n) (hst : st0 = As.reverse ++ rest) (hro : (rest.map fun v => v.category).sum ≤ 8) (hdg : decode cc pc = .ok (.invokestatic index, 3))
    (kk : ∀ (r : Int32) (u : S) (H1 : Heap) (locs1 : List Loc), post r u → wd D A (TT u) H1 → va_S A H0 H1 locs1 → W p l e R s m args below meth c H1 locs1 0 0 Q (F0 m (pc + 3) ls (.int r :: rest))) : W p l e R s m args below meth c H locs 0 0 Q (F0 m pc ls st0) := by
  obtain ⟨hx, hb, hml, hown, hts, hK, hlk⟩ := X
  obtain ⟨f2, f3, f4, f5, f6, f7⟩ := hf
  have run := va_runS (g := F0 m pc ls st0) (l := l) (p := p) (e := e) (below := below) (meth := meth) (locs := locs) (cells := 0) (slots := 0) (rest := rest) ⟨hx, hb, hml, hown, hts⟩ hM (va_cwS (R := R) n hts (good_S hlink f2 f3 f4) rfl hr.1 hr.2.1 ⟨f5, f6, f7⟩ hr.2.2) ⟨mPc_blind, mPc_at hK hw⟩ rfl hn hsz hst (lv_room hro) hdg ⟨Nat.zero_le _, Nat.zero_le _⟩
  exact va_calli run hS (fun _ _ h => h) (fun _ h => h) (fun r u t H1 locs1 ht hvm hp hB hz hk hS1 => kk r u H1 locs1 hp (wd_eq ht.symm hB) hS1)
theorem m_cVl {post : Int64 → S → Prop} (X : cx p m meth c s args cc nL own D tys) (hsz : ls.size = nL) (hw : wd D A T H) (hS : va_S A H0 H locs) (hM : Met l y (Cond.code y bytes maxL ret :: wsA) rm (mPc D tys A T (.ref b :: As)) (va_Ql post (fun u t => wd D A (TT u) t.heap) A) 0 0 A) (hlink : Cond.methodLink own index y ∈ wsA) (hf : vfit y bytes maxL ret n) {ci : Nat} {fs : List Value} (hT : T (b, .inr (ci, fs))) {q : vw_C} (hc : vwCl[ci]? = some q) (hq : q.1 = y.cls) (hr : rfit rm R maxL) (hn : As.length = n) (hst : st0 = As.reverse ++ .ref b :: rest) (hro : (rest.map fun v => v.category).sum ≤ 8) (hdg : decode cc pc = .ok (.invokevirtual index, 3))
    (kk : ∀ (r : Int64) (u : S) (H1 : Heap) (locs1 : List Loc), post r u → wd D A (TT u) H1 → va_S A H0 H1 locs1 → W p l e R s m args below meth c H1 locs1 0 0 Q (F0 m (pc + 3) ls (.long r :: rest))) : W p l e R s m args below meth c H locs 0 0 Q (F0 m pc ls st0) := by
  obtain ⟨hx, hb, hml, hown, hts, hK, hlk⟩ := X
  obtain ⟨f1, f2, f3, f4, f5, f6, f7⟩ := hf
  obtain ⟨ws, hP, hD, hm⟩ := id hw
  obtain ⟨k0, hk0⟩ := hm _ hT
  have hrec := va_recv hK.1 hP hc hk0
  rw [hq] at hrec
  have run := va_runV (g := F0 m pc ls st0) (l := l) (p := p) (e := e) (below := below) (meth := meth) (locs := locs) (cells := 0) (slots := 0) (rest := rest) ⟨hx, hb, hml, hown, hts⟩ hM (cwV (R := R) n hts (good_V hlink f1 f2 f3 f4) rfl hr.1 hr.2.1 ⟨rfl, f5, f6, f7⟩ hr.2.2) ⟨mPc_blind, hrec, mPc_at hK hw⟩ rfl hn hsz hst (lv_room hro) hdg ⟨Nat.zero_le _, Nat.zero_le _⟩
  exact va_calll run hS (fun _ _ h => h) (fun _ h => h) (fun r u t H1 locs1 ht hvm hp hB hz hk hS1 => kk r u H1 locs1 hp (wd_eq ht.symm hB) hS1)
theorem m_cSl {post : Int64 → S → Prop} (X : cx p m meth c s args cc nL own D tys) (hsz : ls.size = nL) (hw : wd D A T H) (hS : va_S A H0 H locs) (hM : Met l y (Cond.code y bytes maxL ret :: wsA) rm (mPc D tys A T As) (va_Ql post (fun u t => wd D A (TT u) t.heap) A) 0 0 A) (hlink : Cond.methodLink own index y ∈ wsA) (hf : sfit y bytes maxL ret n) (hr : rfit rm R maxL) (hn : As.length = n) (hst : st0 = As.reverse ++ rest) (hro : (rest.map fun v => v.category).sum ≤ 8) (hdg : decode cc pc = .ok (.invokestatic index, 3))
    (kk : ∀ (r : Int64) (u : S) (H1 : Heap) (locs1 : List Loc), post r u → wd D A (TT u) H1 → va_S A H0 H1 locs1 → W p l e R s m args below meth c H1 locs1 0 0 Q (F0 m (pc + 3) ls (.long r :: rest))) : W p l e R s m args below meth c H locs 0 0 Q (F0 m pc ls st0) := by
  obtain ⟨hx, hb, hml, hown, hts, hK, hlk⟩ := X
  obtain ⟨f2, f3, f4, f5, f6, f7⟩ := hf
  have run := va_runS (g := F0 m pc ls st0) (l := l) (p := p) (e := e) (below := below) (meth := meth) (locs := locs) (cells := 0) (slots := 0) (rest := rest) ⟨hx, hb, hml, hown, hts⟩ hM (va_cwS (R := R) n hts (good_S hlink f2 f3 f4) rfl hr.1 hr.2.1 ⟨f5, f6, f7⟩ hr.2.2) ⟨mPc_blind, mPc_at hK hw⟩ rfl hn hsz hst (lv_room hro) hdg ⟨Nat.zero_le _, Nat.zero_le _⟩
  exact va_calll run hS (fun _ _ h => h) (fun _ h => h) (fun r u t H1 locs1 ht hvm hp hB hz hk hS1 => kk r u H1 locs1 hp (wd_eq ht.symm hB) hS1)
theorem m_cVv {post : S → Prop} (X : cx p m meth c s args cc nL own D tys) (hsz : ls.size = nL) (hw : wd D A T H) (hS : va_S A H0 H locs) (hM : Met l y (Cond.code y bytes maxL ret :: wsA) rm (mPc D tys A T (.ref b :: As)) (va_Qv post (fun u t => wd D A (TT u) t.heap) A) 0 0 A) (hlink : Cond.methodLink own index y ∈ wsA) (hf : vfit y bytes maxL ret n) {ci : Nat} {fs : List Value} (hT : T (b, .inr (ci, fs))) {q : vw_C} (hc : vwCl[ci]? = some q) (hq : q.1 = y.cls) (hr : rfit rm R maxL) (hn : As.length = n) (hst : st0 = As.reverse ++ .ref b :: rest) (hro : (rest.map fun v => v.category).sum ≤ 8) (hdg : decode cc pc = .ok (.invokevirtual index, 3))
    (kk : ∀ (u : S) (H1 : Heap) (locs1 : List Loc), post u → wd D A (TT u) H1 → va_S A H0 H1 locs1 → W p l e R s m args below meth c H1 locs1 0 0 Q (F0 m (pc + 3) ls (rest))) : W p l e R s m args below meth c H locs 0 0 Q (F0 m pc ls st0) := by
  obtain ⟨hx, hb, hml, hown, hts, hK, hlk⟩ := X
  obtain ⟨f1, f2, f3, f4, f5, f6, f7⟩ := hf
  obtain ⟨ws, hP, hD, hm⟩ := id hw
  obtain ⟨k0, hk0⟩ := hm _ hT
  have hrec := va_recv hK.1 hP hc hk0
  rw [hq] at hrec
  have run := va_runV (g := F0 m pc ls st0) (l := l) (p := p) (e := e) (below := below) (meth := meth) (locs := locs) (cells := 0) (slots := 0) (rest := rest) ⟨hx, hb, hml, hown, hts⟩ hM (cwV (R := R) n hts (good_V hlink f1 f2 f3 f4) rfl hr.1 hr.2.1 ⟨rfl, f5, f6, f7⟩ hr.2.2) ⟨mPc_blind, hrec, mPc_at hK hw⟩ rfl hn hsz hst (lv_room hro) hdg ⟨Nat.zero_le _, Nat.zero_le _⟩
  exact va_callv run hS (fun _ _ h => h) (fun _ h => h) (fun u t H1 locs1 ht hvm hp hB hz hk hS1 => kk u H1 locs1 hp (wd_eq ht.symm hB) hS1)
theorem m_cSv {post : S → Prop} (X : cx p m meth c s args cc nL own D tys) (hsz : ls.size = nL) (hw : wd D A T H) (hS : va_S A H0 H locs) (hM : Met l y (Cond.code y bytes maxL ret :: wsA) rm (mPc D tys A T As) (va_Qv post (fun u t => wd D A (TT u) t.heap) A) 0 0 A) (hlink : Cond.methodLink own index y ∈ wsA) (hf : sfit y bytes maxL ret n) (hr : rfit rm R maxL) (hn : As.length = n) (hst : st0 = As.reverse ++ rest) (hro : (rest.map fun v => v.category).sum ≤ 8) (hdg : decode cc pc = .ok (.invokestatic index, 3))
    (kk : ∀ (u : S) (H1 : Heap) (locs1 : List Loc), post u → wd D A (TT u) H1 → va_S A H0 H1 locs1 → W p l e R s m args below meth c H1 locs1 0 0 Q (F0 m (pc + 3) ls (rest))) : W p l e R s m args below meth c H locs 0 0 Q (F0 m pc ls st0) := by
  obtain ⟨hx, hb, hml, hown, hts, hK, hlk⟩ := X
  obtain ⟨f2, f3, f4, f5, f6, f7⟩ := hf
  have run := va_runS (g := F0 m pc ls st0) (l := l) (p := p) (e := e) (below := below) (meth := meth) (locs := locs) (cells := 0) (slots := 0) (rest := rest) ⟨hx, hb, hml, hown, hts⟩ hM (va_cwS (R := R) n hts (good_S hlink f2 f3 f4) rfl hr.1 hr.2.1 ⟨f5, f6, f7⟩ hr.2.2) ⟨mPc_blind, mPc_at hK hw⟩ rfl hn hsz hst (lv_room hro) hdg ⟨Nat.zero_le _, Nat.zero_le _⟩
  exact va_callv run hS (fun _ _ h => h) (fun _ h => h) (fun u t H1 locs1 ht hvm hp hB hz hk hS1 => kk u H1 locs1 hp (wd_eq ht.symm hB) hS1)
theorem m_cVr {post : S → Prop} {av : S → Nat} {ok : S → Prop} (X : cx p m meth c s args cc nL own D tys) (hsz : ls.size = nL) (hw : wd D A T H) (hS : va_S A H0 H locs) (hM : Met l y (Cond.code y bytes maxL ret :: wsA) rm (mPc D tys A T (.ref b :: As)) (va_Qr post (fun u a t => a = av u ∧ ok u ∧ wd D A (TT u) t.heap) A) 0 0 A) (hlink : Cond.methodLink own index y ∈ wsA) (hf : vfit y bytes maxL ret n) {ci : Nat} {fs : List Value} (hT : T (b, .inr (ci, fs))) {q : vw_C} (hc : vwCl[ci]? = some q) (hq : q.1 = y.cls) (hr : rfit rm R maxL) (hn : As.length = n) (hst : st0 = As.reverse ++ .ref b :: rest) (hro : (rest.map fun v => v.category).sum ≤ 8) (hdg : decode cc pc = .ok (.invokevirtual index, 3))
    (kk : ∀ (u : S) (H1 : Heap) (locs1 : List Loc), post u → ok u → wd D A (TT u) H1 → va_S A H0 H1 locs1 → W p l e R s m args below meth c H1 locs1 0 0 Q (F0 m (pc + 3) ls (.ref (av u) :: rest))) : W p l e R s m args below meth c H locs 0 0 Q (F0 m pc ls st0) := by
  obtain ⟨hx, hb, hml, hown, hts, hK, hlk⟩ := X
  obtain ⟨f1, f2, f3, f4, f5, f6, f7⟩ := hf
  obtain ⟨ws, hP, hD, hm⟩ := id hw
  obtain ⟨k0, hk0⟩ := hm _ hT
  have hrec := va_recv hK.1 hP hc hk0
  rw [hq] at hrec
  have run := va_runV (g := F0 m pc ls st0) (l := l) (p := p) (e := e) (below := below) (meth := meth) (locs := locs) (cells := 0) (slots := 0) (rest := rest) ⟨hx, hb, hml, hown, hts⟩ hM (cwV (R := R) n hts (good_V hlink f1 f2 f3 f4) rfl hr.1 hr.2.1 ⟨rfl, f5, f6, f7⟩ hr.2.2) ⟨mPc_blind, hrec, mPc_at hK hw⟩ rfl hn hsz hst (lv_room hro) hdg ⟨Nat.zero_le _, Nat.zero_le _⟩
  exact va_callr run hS (fun _ _ h => h) (fun _ h => h) (fun u ra t H1 locs1 ht hvm hp hB hz hk hS1 => by rw [hB.1]; exact kk u H1 locs1 hp hB.2.1 (wd_eq ht.symm hB.2.2) hS1)
theorem m_iret {post : Int32 → S → Prop} {v : Int32} {u : S} (X : cx p m meth c s args cc nL own D tys) (hr : meth.sig.returnType = some .int) (hw : wd D A (TT u) H) (hS : va_S A s.heap H locs) (hp : post v u) (hdg : decode cc pc = .ok (.ireturn, 1)) : W p l e R s m args below meth c H locs 0 0 (MQ below (va_Qi post (fun u t => wd D A (TT u) t.heap) A) args s 0 0 A) (F0 m pc ls [.int v]) :=
  W.iret X.1 X.2.1 hr (fun t ht _ => ⟨⟨v, u, rfl, hp, wd_eq ht hw⟩, hS.F ht⟩) hS.2.2 hdg X.2.2.2.2.2.2
theorem m_zret {post : Int32 → S → Prop} {v : Int32} {u : S} (X : cx p m meth c s args cc nL own D tys) (hr : meth.sig.returnType = some .boolean) (hv : narrow .boolean (.int v) = .int v) (hw : wd D A (TT u) H) (hS : va_S A s.heap H locs) (hp : post v u) (hdg : decode cc pc = .ok (.ireturn, 1)) : W p l e R s m args below meth c H locs 0 0 (MQ below (va_Qi post (fun u t => wd D A (TT u) t.heap) A) args s 0 0 A) (F0 m pc ls [.int v]) :=
  W.zret X.1 X.2.1 hr hv (fun t ht _ => ⟨⟨v, u, rfl, hp, wd_eq ht hw⟩, hS.F ht⟩) hS.2.2 hdg X.2.2.2.2.2.2
theorem m_lret {post : Int64 → S → Prop} {v : Int64} {u : S} (X : cx p m meth c s args cc nL own D tys) (hr : meth.sig.returnType = some .long) (hw : wd D A (TT u) H) (hS : va_S A s.heap H locs) (hp : post v u) (hdg : decode cc pc = .ok (.lreturn, 1)) : W p l e R s m args below meth c H locs 0 0 (MQ below (va_Ql post (fun u t => wd D A (TT u) t.heap) A) args s 0 0 A) (F0 m pc ls [.long v]) :=
  W.lret X.1 X.2.1 hr (fun t ht _ => ⟨⟨v, u, rfl, hp, wd_eq ht hw⟩, hS.F ht⟩) hS.2.2 hdg X.2.2.2.2.2.2
theorem m_vret {post : S → Prop} {u : S} (X : cx p m meth c s args cc nL own D tys) (hr : meth.sig.returnType = none) (hw : wd D A (TT u) H) (hS : va_S A s.heap H locs) (hp : post u) (hdg : decode cc pc = .ok (.return_, 1)) : W p l e R s m args below meth c H locs 0 0 (MQ below (va_Qv post (fun u t => wd D A (TT u) t.heap) A) args s 0 0 A) (F0 m pc ls []) :=
  W.vret X.1 X.2.1 hr (fun t ht _ => ⟨⟨u, rfl, hp, wd_eq ht hw⟩, hS.F ht⟩) hS.2.2 hdg X.2.2.2.2.2.2
theorem m_aret {post : S → Prop} {av : S → Nat} {ok : S → Prop} {u : S} {C : String} (X : cx p m meth c s args cc nL own D tys) (hr : meth.sig.returnType = some (.object C)) (hw : wd D A (TT u) H) (hS : va_S A s.heap H locs) (hp : post u) (hok : ok u) {v : Nat} (hv : v = av u) (hdg : decode cc pc = .ok (.areturn, 1)) : W p l e R s m args below meth c H locs 0 0 (MQ below (va_Qr post (fun u a t => a = av u ∧ ok u ∧ wd D A (TT u) t.heap) A) args s 0 0 A) (F0 m pc ls [.ref v]) :=
  W.aret X.1 X.2.1 hr (Or.inl ⟨C, rfl⟩) (Or.inr ⟨v, rfl⟩) (fun t ht _ => ⟨⟨u, v, rfl, hp, hv, hok, wd_eq ht hw⟩, hS.F ht⟩) hS.2.2 hdg X.2.2.2.2.2.2
end MC
/-- at a label with an empty stack: from every heap that holds the world -/
def cW (p : Program) (l : Launch) (e : Env) (R : Room) (s : State) (m : MethodId) (args : Array Value) (below : List Frame) (meth : Method) (c : Code) (Qs : State → Prop) (D : va_G) (A : Nat → Prop) (T : Nat × va_E → Prop) (pc nL : Nat) (lv : List (Nat × Value)) : Prop :=
  ∀ (H : Heap) (locs : List Loc) (ls : Array Slot), wd D A T H → va_S A s.heap H locs → lv_has ls nL lv → W p l e R s m args below meth c H locs 0 0 Qs (F0 m pc ls [])
theorem m_met {l : Launch} {y : MethodName} {bytes : ByteArray} {maxL : Nat} {ret : Option FieldType} {rm : Room} {D : va_G} {tys : List (ClassId × FieldType)} {A : Nat → Prop} {T : Nat × va_E → Prop} {av : List Value} {Qc : Array Value → State → Outcome → State → Prop} (hy : plainName y.cls = true) (hfit : (lg_sl av).length ≤ maxL)
    (body : ∀ (p : Program) (e : Env) (s : State) (m : MethodId) (below : List Frame) (meth : Method) (c : Code), cx p m meth c s av.toArray bytes maxL y.cls D tys → meth.sig.returnType = ret → cW p l e rm s m av.toArray below meth c (MQ below Qc av.toArray s 0 0 A) D A T 0 maxL (lv_args 0 av)) : Met l y (Cond.code y bytes maxL ret :: wsA) rm (mPc D tys A T av) Qc 0 0 A := by
  refine Met.ofW (cc := bytes) (maxL := maxL) (ret := ret) hy rfl ?_
  intro p e s m args below meth c s₁ B hml hv
  obtain ⟨rfl, hk, hw⟩ := hv
  have hts := atoms_spec (ws := Cond.code y bytes maxL ret :: wsA) B.pre
  have hown : s.vm.findClass y.cls = some m.cls := findClass_of_methodNamed B.named
  have K := body p e s m below meth c ⟨B.exec, B.bytes, hml, hown, fun w h => hts w (List.mem_cons_of_mem _ h), hk, B.notSynchronized⟩ B.returns
  rw [lg_entry_eq]
  exact K s.heap [] _ hw va_S.rf (lv_entry av hfit)
end
section
/-! THE CLASS'S STATE AND ITS CELLS. A Whole is a number w: 16 p + i for term i of the Poly p; 320 .. 323 the bench's one .. four; 324 .. 327 the chain's lead, height, power, next. A Poly is a number p: 0 .. 7 the registers, 8 work, 9 part, 10 + i link i. A cell has a code: 4 w the Whole, 4 w + 1 its digits, 4 p + 2 the Poly, 4 p + 3 its terms; 2002 the bench, 2006 the chain, 2010 the object itself, 2003 the links, 2007 the registers; g.1 gives the address of a code. -/
abbrev mG : Type := (Nat → Nat) × ClassId × ClassId × ClassId × ClassId
def inj (g : mG) : Prop := ∀ i j : Nat, g.1 i = g.1 j → i = j
def tyG (g : mG) : List (ClassId × FieldType) := [(g.2.1, .int), (g.2.2.1, .long), (g.2.2.2.1, .object RX3), (g.2.2.2.2, .object RX2)]
abbrev CS : Type := (Nat → Nat → Int32) × (Nat → Int32) × (Nat → Int32) × (Nat → Int32) × (Nat → Int32)
def cF (σ : CS) (w : Nat) : Nat → Int32 := σ.1 w
def cS (σ : CS) (w : Nat) : Int32 := σ.2.1 w
def cG (σ : CS) (w : Nat) : Int32 := σ.2.2.1 w
def cD (σ : CS) (p : Nat) : Int32 := σ.2.2.2.1 p
def cK (σ : CS) (k : Nat) : Int32 := σ.2.2.2.2 k
def sF (σ : CS) (w : Nat) (f : Nat → Int32) : CS := (va_up σ.1 w f, σ.2)
def sS (σ : CS) (w : Nat) (v : Int32) : CS := (σ.1, va_up σ.2.1 w v, σ.2.2)
def sG (σ : CS) (w : Nat) (v : Int32) : CS := (σ.1, σ.2.1, va_up σ.2.2.1 w v, σ.2.2.2)
def sD (σ : CS) (p : Nat) (v : Int32) : CS := (σ.1, σ.2.1, σ.2.2.1, va_up σ.2.2.2.1 p v, σ.2.2.2.2)
def sK (σ : CS) (k : Nat) (v : Int32) : CS := (σ.1, σ.2.1, σ.2.2.1, σ.2.2.2.1, va_up σ.2.2.2.2 k v)
def tlen (p : Nat) : Nat := min 9 (20 - p)
def capW (w : Nat) : Nat := if w < 128 then 6 else if w < 144 then 300 else if w < 160 then 60 else if w < 320 then 100 else if w = 324 ∨ w = 325 then 100 else 300
def okW (w : Nat) : Prop := w < 328 ∧ (w < 320 → w % 16 < tlen (w / 16))
def okC (k : Nat) : Prop := (k % 4 = 0 ∧ okW (k / 4)) ∨ (k % 4 = 1 ∧ okW (k / 4)) ∨ (k % 4 = 2 ∧ k / 4 < 20) ∨ (k % 4 = 3 ∧ k / 4 < 20) ∨ k = 2002 ∨ k = 2006 ∨ k = 2010 ∨ k = 2003 ∨ k = 2007
def cellC (g : mG) (σ : CS) (k : Nat) : va_E :=
  if k % 4 = 0 then .inr (3, [.ref (g.1 (k + 1)), .int (cS σ (k / 4)), .int (cG σ (k / 4))])
  else if k % 4 = 1 then .inl (g.2.1, capW (k / 4), .inl (cF σ (k / 4)))
  else if k = 2002 then .inr (0, [.ref (g.1 34), .ref (g.1 38), .ref (g.1 1280), .ref (g.1 1284), .ref (g.1 1288), .ref (g.1 1292)])
  else if k = 2006 then .inr (1, [.ref (g.1 2002), .ref (g.1 2003), .ref (g.1 1296), .ref (g.1 1300), .ref (g.1 1304), .ref (g.1 1308), .int (cK σ 0)])
  else if k = 2010 then .inr (4, [.ref (g.1 2007), .ref (g.1 2002), .ref (g.1 2006), .int (cK σ 1), .int (cK σ 2), .int (cK σ 3), .int (cK σ 4)])
  else if k = 2003 then .inl (g.2.2.2.2, 10, .inr (.inr (.inr (.inr (fun i => some (g.1 (4 * (10 + i) + 2)))))))
  else if k = 2007 then .inl (g.2.2.2.2, 8, .inr (.inr (.inr (.inr (fun i => some (g.1 (4 * i + 2)))))))
  else if k % 4 = 2 then .inr (2, [.ref (g.1 (k + 1)), .int (cD σ (k / 4))])
  else .inl (g.2.2.2.1, tlen (k / 4), .inr (.inr (.inr (.inr (fun i => some (g.1 (4 * (16 * (k / 4) + i))))))))
theorem cell_W (g : mG) (σ : CS) (w : Nat) : cellC g σ (4 * w) = .inr (3, [.ref (g.1 (4 * w + 1)), .int (cS σ w), .int (cG σ w)]) := by
  have h : 4 * w / 4 = w := by omega
  unfold cellC
  rw [if_pos (by omega), h]
theorem cell_D (g : mG) (σ : CS) (w : Nat) : cellC g σ (4 * w + 1) = .inl (g.2.1, capW w, .inl (cF σ w)) := by
  have h : (4 * w + 1) / 4 = w := by omega
  unfold cellC
  rw [if_neg (by omega), if_pos (by omega), h]
theorem cell_P (g : mG) (σ : CS) (p : Nat) (hp : p < 20) : cellC g σ (4 * p + 2) = .inr (2, [.ref (g.1 (4 * p + 3)), .int (cD σ p)]) := by
  have h : (4 * p + 2) / 4 = p := by omega
  unfold cellC
  rw [if_neg (by omega), if_neg (by omega), if_neg (by omega), if_neg (by omega), if_neg (by omega), if_neg (by omega), if_neg (by omega), if_pos (by omega), h]
theorem cell_T (g : mG) (σ : CS) (p : Nat) (hp : p < 20) : cellC g σ (4 * p + 3) = .inl (g.2.2.2.1, tlen p, .inr (.inr (.inr (.inr (fun i => some (g.1 (4 * (16 * p + i)))))))) := by
  have h : (4 * p + 3) / 4 = p := by omega
  unfold cellC
  rw [if_neg (by omega), if_neg (by omega), if_neg (by omega), if_neg (by omega), if_neg (by omega), if_neg (by omega), if_neg (by omega), if_neg (by omega), h]
def cT (g : mG) (σ : CS) : Nat × va_E → Prop := fun q => ∃ k, okC k ∧ q = (g.1 k, cellC g σ k)
theorem tW {g : mG} {σ : CS} {w : Nat} (h : okW w) : cT g σ (g.1 (4 * w), .inr (3, [.ref (g.1 (4 * w + 1)), .int (cS σ w), .int (cG σ w)])) :=
  ⟨4 * w, Or.inl ⟨by omega, by rw [show 4 * w / 4 = w by omega]; exact h⟩, by rw [cell_W]⟩
theorem tD {g : mG} {σ : CS} {w : Nat} (h : okW w) : cT g σ (g.1 (4 * w + 1), .inl (g.2.1, capW w, .inl (cF σ w))) :=
  ⟨4 * w + 1, Or.inr (Or.inl ⟨by omega, by rw [show (4 * w + 1) / 4 = w by omega]; exact h⟩), by rw [cell_D]⟩
theorem tP {g : mG} {σ : CS} {p : Nat} (h : p < 20) : cT g σ (g.1 (4 * p + 2), .inr (2, [.ref (g.1 (4 * p + 3)), .int (cD σ p)])) :=
  ⟨4 * p + 2, Or.inr (Or.inr (Or.inl ⟨by omega, by omega⟩)), by rw [cell_P _ _ _ h]⟩
theorem tT {g : mG} {σ : CS} {p : Nat} (h : p < 20) : cT g σ (g.1 (4 * p + 3), .inl (g.2.2.2.1, tlen p, .inr (.inr (.inr (.inr (fun i => some (g.1 (4 * (16 * p + i))))))))) :=
  ⟨4 * p + 3, Or.inr (Or.inr (Or.inr (Or.inl ⟨by omega, by omega⟩))), by rw [cell_T _ _ _ h]⟩
theorem tB {g : mG} {σ : CS} : cT g σ (g.1 2002, .inr (0, [.ref (g.1 34), .ref (g.1 38), .ref (g.1 1280), .ref (g.1 1284), .ref (g.1 1288), .ref (g.1 1292)])) := ⟨2002, Or.inr (Or.inr (Or.inr (Or.inr (Or.inl rfl)))), rfl⟩
theorem tC {g : mG} {σ : CS} : cT g σ (g.1 2006, .inr (1, [.ref (g.1 2002), .ref (g.1 2003), .ref (g.1 1296), .ref (g.1 1300), .ref (g.1 1304), .ref (g.1 1308), .int (cK σ 0)])) := ⟨2006, Or.inr (Or.inr (Or.inr (Or.inr (Or.inr (Or.inl rfl))))), rfl⟩
theorem tG {g : mG} {σ : CS} : cT g σ (g.1 2010, .inr (4, [.ref (g.1 2007), .ref (g.1 2002), .ref (g.1 2006), .int (cK σ 1), .int (cK σ 2), .int (cK σ 3), .int (cK σ 4)])) := ⟨2010, Or.inr (Or.inr (Or.inr (Or.inr (Or.inr (Or.inr (Or.inl rfl)))))), rfl⟩
theorem tL {g : mG} {σ : CS} : cT g σ (g.1 2003, .inl (g.2.2.2.2, 10, .inr (.inr (.inr (.inr (fun i => some (g.1 (4 * (10 + i) + 2)))))))) := ⟨2003, Or.inr (Or.inr (Or.inr (Or.inr (Or.inr (Or.inr (Or.inr (Or.inl rfl))))))), rfl⟩
theorem tR {g : mG} {σ : CS} : cT g σ (g.1 2007, .inl (g.2.2.2.2, 8, .inr (.inr (.inr (.inr (fun i => some (g.1 (4 * i + 2)))))))) := ⟨2007, Or.inr (Or.inr (Or.inr (Or.inr (Or.inr (Or.inr (Or.inr (Or.inr rfl))))))), rfl⟩
theorem cT_upd {g : mG} (hg : inj g) {σ σ' : CS} {k0 : Nat} {e : va_E} (he : cellC g σ' k0 = e) (ho : ∀ k, k ≠ k0 → cellC g σ' k = cellC g σ k) : ∀ q, cT g σ' q → q = (g.1 k0, e) ∨ (cT g σ q ∧ q.1 ≠ g.1 k0) := by
  rintro q ⟨k, hk, rfl⟩
  by_cases h : k = k0
  · subst h
    exact Or.inl (by rw [he])
  · exact Or.inr ⟨⟨k, hk, by rw [ho k h]⟩, fun e1 => h (hg _ _ e1)⟩
theorem up_ne {α : Type} {f : Nat → α} {k j : Nat} {v : α} (h : j ≠ k) : va_up f k v j = f j := by simp [va_up, h]
theorem up_eq {α : Type} {f : Nat → α} {k : Nat} {v : α} : va_up f k v k = v := by simp [va_up]
theorem uS {g : mG} (hg : inj g) {σ : CS} {w : Nat} {v : Int32} : ∀ q, cT g (sS σ w v) q → q = (g.1 (4 * w), .inr (3, [.ref (g.1 (4 * w + 1)), .int (cS σ w), .int (cG σ w)].set 1 (.int v))) ∨ (cT g σ q ∧ q.1 ≠ g.1 (4 * w)) := by
  refine cT_upd hg ?_ ?_
  · rw [cell_W]
    show Sum.inr (3, [_, Value.int (va_up σ.2.1 w v w), _]) = _
    rw [up_eq]
    rfl
  · intro k hk
    have e : k % 4 = 0 → cS (sS σ w v) (k / 4) = cS σ (k / 4) := fun h0 => up_ne (f := σ.2.1) (by omega)
    unfold cellC
    by_cases h0 : k % 4 = 0
    · rw [if_pos h0, if_pos h0, e h0]
      rfl
    · rw [if_neg h0, if_neg h0]
      rfl
theorem uG {g : mG} (hg : inj g) {σ : CS} {w : Nat} {v : Int32} : ∀ q, cT g (sG σ w v) q → q = (g.1 (4 * w), .inr (3, [.ref (g.1 (4 * w + 1)), .int (cS σ w), .int (cG σ w)].set 2 (.int v))) ∨ (cT g σ q ∧ q.1 ≠ g.1 (4 * w)) := by
  refine cT_upd hg ?_ ?_
  · rw [cell_W]
    show Sum.inr (3, [_, _, Value.int (va_up σ.2.2.1 w v w)]) = _
    rw [up_eq]
    rfl
  · intro k hk
    have e : k % 4 = 0 → cG (sG σ w v) (k / 4) = cG σ (k / 4) := fun h0 => up_ne (f := σ.2.2.1) (by omega)
    unfold cellC
    by_cases h0 : k % 4 = 0
    · rw [if_pos h0, if_pos h0, e h0]
      rfl
    · rw [if_neg h0, if_neg h0]
      rfl
theorem uF {g : mG} (hg : inj g) {σ : CS} {w : Nat} {f : Nat → Int32} : ∀ q, cT g (sF σ w f) q → q = (g.1 (4 * w + 1), .inl (g.2.1, capW w, .inl f)) ∨ (cT g σ q ∧ q.1 ≠ g.1 (4 * w + 1)) := by
  refine cT_upd hg ?_ ?_
  · rw [cell_D]
    show Sum.inl (_, _, Sum.inl (va_up σ.1 w f w)) = _
    rw [up_eq]
  · intro k hk
    have e : k % 4 = 1 → cF (sF σ w f) (k / 4) = cF σ (k / 4) := fun h0 => up_ne (f := σ.1) (by omega)
    unfold cellC
    by_cases h0 : k % 4 = 1
    · rw [if_neg (c := k % 4 = 0) (by omega), if_neg (c := k % 4 = 0) (by omega), if_pos h0, if_pos h0, e h0]
    · rw [if_neg h0, if_neg h0]
      rfl
theorem uD {g : mG} (hg : inj g) {σ : CS} {p : Nat} (hp : p < 20) {v : Int32} : ∀ q, cT g (sD σ p v) q → q = (g.1 (4 * p + 2), .inr (2, [.ref (g.1 (4 * p + 3)), .int (cD σ p)].set 1 (.int v))) ∨ (cT g σ q ∧ q.1 ≠ g.1 (4 * p + 2)) := by
  refine cT_upd hg ?_ ?_
  · rw [cell_P _ _ _ hp]
    show Sum.inr (2, [_, Value.int (va_up σ.2.2.2.1 p v p)]) = _
    rw [up_eq]
    rfl
  · intro k hk
    have e : k % 4 = 2 → cD (sD σ p v) (k / 4) = cD σ (k / 4) := fun h0 => up_ne (f := σ.2.2.2.1) (by omega)
    unfold cellC
    by_cases h0 : k % 4 = 2
    · rw [e h0]
      rfl
    · rw [if_neg (c := k % 4 = 2) h0, if_neg (c := k % 4 = 2) h0]
      rfl
theorem uK0 {g : mG} (hg : inj g) {σ : CS} {v : Int32} : ∀ q, cT g (sK σ 0 v) q → q = (g.1 2006, .inr (1, [.ref (g.1 2002), .ref (g.1 2003), .ref (g.1 1296), .ref (g.1 1300), .ref (g.1 1304), .ref (g.1 1308), .int (cK σ 0)].set 6 (.int v))) ∨ (cT g σ q ∧ q.1 ≠ g.1 2006) := by
  refine cT_upd hg ?_ ?_
  · rfl
  · intro k hk
    unfold cellC
    rw [if_neg (c := k = 2006) hk, if_neg (c := k = 2006) hk]
    rfl
theorem uK {g : mG} (hg : inj g) {σ : CS} {j : Nat} (hj : 1 ≤ j ∧ j ≤ 4) {v : Int32} : ∀ q, cT g (sK σ j v) q → q = (g.1 2010, .inr (4, [.ref (g.1 2007), .ref (g.1 2002), .ref (g.1 2006), .int (cK σ 1), .int (cK σ 2), .int (cK σ 3), .int (cK σ 4)].set (j + 2) (.int v))) ∨ (cT g σ q ∧ q.1 ≠ g.1 2010) := by
  refine cT_upd hg ?_ ?_
  · rcases (show j = 1 ∨ j = 2 ∨ j = 3 ∨ j = 4 by omega) with rfl | rfl | rfl | rfl <;> rfl
  · intro k hk
    have e : cK (sK σ j v) 0 = cK σ 0 := up_ne (f := σ.2.2.2.2) (by omega)
    unfold cellC
    rw [if_neg (c := k = 2010) hk, if_neg (c := k = 2010) hk, e]
    rfl
theorem okW_t {p : Nat} {i : Int32} (hp : p < 20) (hi : vp_in i (tlen p)) : okW (16 * p + i.toNatClampNeg) := by
  have h1 : i.toNatClampNeg < tlen p := Nat.not_le.mp fun q => hi (Or.inr q)
  have h2 : tlen p ≤ 9 := Nat.min_le_left _ _
  have h3 : (16 * p + i.toNatClampNeg) / 16 = p := by omega
  refine ⟨by omega, fun _ => ?_⟩
  rw [h3]
  omega
theorem okP_l {i : Int32} (hi : vp_in i 10) : 10 + i.toNatClampNeg < 20 := by
  have h1 : i.toNatClampNeg < 10 := Nat.not_le.mp fun q => hi (Or.inr q)
  omega
theorem okP_r {i : Int32} (hi : vp_in i 8) : i.toNatClampNeg < 20 := by
  have h1 : i.toNatClampNeg < 8 := Nat.not_le.mp fun q => hi (Or.inr q)
  omega
theorem okW_b {w : Nat} (h : 320 ≤ w ∧ w < 328) : okW w := ⟨h.2, fun q => absurd q (by omega)⟩
end
section
/-! words of the pure predicates: Java's shifts, stores, loops by fuel -/
def jushr (x y : Int32) : Int32 := (x.toUInt32 >>> (y.toUInt32 &&& Int32.toUInt32 31)).toInt32
def jlushr (x : Int64) (y : Int32) : Int64 := (x.toUInt64 >>> (y.toInt64.toUInt64 &&& Int64.toUInt64 63)).toInt64
def jlshl (x : Int64) (y : Int32) : Int64 := x <<< (y.toInt64 &&& 63)
def jlshr (x : Int64) (y : Int32) : Int64 := x >>> (y.toInt64 &&& 63)
def sFi (σ : CS) (w : Nat) (i x : Int32) : CS := sF σ w (upd (cF σ w) i.toNatClampNeg x)
theorem pd_I : parseFieldDescriptor "I" = some .int := by decide +kernel
theorem acmp_t {g : mG} (hg : inj g) {a b : Nat} (h : some (g.1 (4 * a)) = some (g.1 (4 * b))) : a = b := by
  have h1 := hg _ _ (Option.some.inj h)
  omega
theorem acmp_f {g : mG} {a b : Nat} (h : ¬ some (g.1 (4 * a)) = some (g.1 (4 * b))) : ¬ a = b := fun e => h (by rw [e])
def lq1 {A1 : Type} (B : (A1 → Prop) → A1 → Prop) : Nat → A1 → Prop
  | 0 => fun _ => False
  | n + 1 => B (lq1 B n)
theorem lq1_i {A1 : Type} {B : (A1 → Prop) → A1 → Prop} (I : A1 → Prop) (μ : A1 → Nat) (hs : ∀ (N : A1 → Prop) (a1 : A1), I a1 → (∀ (b1 : A1), I b1 → μ b1 < μ a1 → N b1) → B N a1) (a1 : A1) (h : I a1) : ∃ n, lq1 B n a1 := by
  have key : ∀ (n : Nat) (a1 : A1), I a1 → μ a1 < n → lq1 B n a1 := by
    intro n
    induction n with
    | zero => intro a1 _ h2; exact absurd h2 (Nat.not_lt_zero _)
    | succ n ih => intro a1 h1 h2; exact hs _ a1 h1 (fun b1 h3 h4 => ih b1 h3 (by omega))
  exact ⟨_, key (μ a1 + 1) a1 h (Nat.lt_succ_self _)⟩
def lq2 {A1 A2 : Type} (B : (A1 → A2 → Prop) → A1 → A2 → Prop) : Nat → A1 → A2 → Prop
  | 0 => fun _ _ => False
  | n + 1 => B (lq2 B n)
theorem lq2_i {A1 A2 : Type} {B : (A1 → A2 → Prop) → A1 → A2 → Prop} (I : A1 → A2 → Prop) (μ : A1 → A2 → Nat) (hs : ∀ (N : A1 → A2 → Prop) (a1 : A1) (a2 : A2), I a1 a2 → (∀ (b1 : A1) (b2 : A2), I b1 b2 → μ b1 b2 < μ a1 a2 → N b1 b2) → B N a1 a2) (a1 : A1) (a2 : A2) (h : I a1 a2) : ∃ n, lq2 B n a1 a2 := by
  have key : ∀ (n : Nat) (a1 : A1) (a2 : A2), I a1 a2 → μ a1 a2 < n → lq2 B n a1 a2 := by
    intro n
    induction n with
    | zero => intro a1 a2 _ h2; exact absurd h2 (Nat.not_lt_zero _)
    | succ n ih => intro a1 a2 h1 h2; exact hs _ a1 a2 h1 (fun b1 b2 h3 h4 => ih b1 b2 h3 (by omega))
  exact ⟨_, key (μ a1 a2 + 1) a1 a2 h (Nat.lt_succ_self _)⟩
def lq3 {A1 A2 A3 : Type} (B : (A1 → A2 → A3 → Prop) → A1 → A2 → A3 → Prop) : Nat → A1 → A2 → A3 → Prop
  | 0 => fun _ _ _ => False
  | n + 1 => B (lq3 B n)
theorem lq3_i {A1 A2 A3 : Type} {B : (A1 → A2 → A3 → Prop) → A1 → A2 → A3 → Prop} (I : A1 → A2 → A3 → Prop) (μ : A1 → A2 → A3 → Nat) (hs : ∀ (N : A1 → A2 → A3 → Prop) (a1 : A1) (a2 : A2) (a3 : A3), I a1 a2 a3 → (∀ (b1 : A1) (b2 : A2) (b3 : A3), I b1 b2 b3 → μ b1 b2 b3 < μ a1 a2 a3 → N b1 b2 b3) → B N a1 a2 a3) (a1 : A1) (a2 : A2) (a3 : A3) (h : I a1 a2 a3) : ∃ n, lq3 B n a1 a2 a3 := by
  have key : ∀ (n : Nat) (a1 : A1) (a2 : A2) (a3 : A3), I a1 a2 a3 → μ a1 a2 a3 < n → lq3 B n a1 a2 a3 := by
    intro n
    induction n with
    | zero => intro a1 a2 a3 _ h2; exact absurd h2 (Nat.not_lt_zero _)
    | succ n ih => intro a1 a2 a3 h1 h2; exact hs _ a1 a2 a3 h1 (fun b1 b2 b3 h3 h4 => ih b1 b2 b3 h3 (by omega))
  exact ⟨_, key (μ a1 a2 a3 + 1) a1 a2 a3 h (Nat.lt_succ_self _)⟩
def lq4 {A1 A2 A3 A4 : Type} (B : (A1 → A2 → A3 → A4 → Prop) → A1 → A2 → A3 → A4 → Prop) : Nat → A1 → A2 → A3 → A4 → Prop
  | 0 => fun _ _ _ _ => False
  | n + 1 => B (lq4 B n)
theorem lq4_i {A1 A2 A3 A4 : Type} {B : (A1 → A2 → A3 → A4 → Prop) → A1 → A2 → A3 → A4 → Prop} (I : A1 → A2 → A3 → A4 → Prop) (μ : A1 → A2 → A3 → A4 → Nat) (hs : ∀ (N : A1 → A2 → A3 → A4 → Prop) (a1 : A1) (a2 : A2) (a3 : A3) (a4 : A4), I a1 a2 a3 a4 → (∀ (b1 : A1) (b2 : A2) (b3 : A3) (b4 : A4), I b1 b2 b3 b4 → μ b1 b2 b3 b4 < μ a1 a2 a3 a4 → N b1 b2 b3 b4) → B N a1 a2 a3 a4) (a1 : A1) (a2 : A2) (a3 : A3) (a4 : A4) (h : I a1 a2 a3 a4) : ∃ n, lq4 B n a1 a2 a3 a4 := by
  have key : ∀ (n : Nat) (a1 : A1) (a2 : A2) (a3 : A3) (a4 : A4), I a1 a2 a3 a4 → μ a1 a2 a3 a4 < n → lq4 B n a1 a2 a3 a4 := by
    intro n
    induction n with
    | zero => intro a1 a2 a3 a4 _ h2; exact absurd h2 (Nat.not_lt_zero _)
    | succ n ih => intro a1 a2 a3 a4 h1 h2; exact hs _ a1 a2 a3 a4 h1 (fun b1 b2 b3 b4 h3 h4 => ih b1 b2 b3 b4 h3 (by omega))
  exact ⟨_, key (μ a1 a2 a3 a4 + 1) a1 a2 a3 a4 h (Nat.lt_succ_self _)⟩
def lq5 {A1 A2 A3 A4 A5 : Type} (B : (A1 → A2 → A3 → A4 → A5 → Prop) → A1 → A2 → A3 → A4 → A5 → Prop) : Nat → A1 → A2 → A3 → A4 → A5 → Prop
  | 0 => fun _ _ _ _ _ => False
  | n + 1 => B (lq5 B n)
theorem lq5_i {A1 A2 A3 A4 A5 : Type} {B : (A1 → A2 → A3 → A4 → A5 → Prop) → A1 → A2 → A3 → A4 → A5 → Prop} (I : A1 → A2 → A3 → A4 → A5 → Prop) (μ : A1 → A2 → A3 → A4 → A5 → Nat) (hs : ∀ (N : A1 → A2 → A3 → A4 → A5 → Prop) (a1 : A1) (a2 : A2) (a3 : A3) (a4 : A4) (a5 : A5), I a1 a2 a3 a4 a5 → (∀ (b1 : A1) (b2 : A2) (b3 : A3) (b4 : A4) (b5 : A5), I b1 b2 b3 b4 b5 → μ b1 b2 b3 b4 b5 < μ a1 a2 a3 a4 a5 → N b1 b2 b3 b4 b5) → B N a1 a2 a3 a4 a5) (a1 : A1) (a2 : A2) (a3 : A3) (a4 : A4) (a5 : A5) (h : I a1 a2 a3 a4 a5) : ∃ n, lq5 B n a1 a2 a3 a4 a5 := by
  have key : ∀ (n : Nat) (a1 : A1) (a2 : A2) (a3 : A3) (a4 : A4) (a5 : A5), I a1 a2 a3 a4 a5 → μ a1 a2 a3 a4 a5 < n → lq5 B n a1 a2 a3 a4 a5 := by
    intro n
    induction n with
    | zero => intro a1 a2 a3 a4 a5 _ h2; exact absurd h2 (Nat.not_lt_zero _)
    | succ n ih => intro a1 a2 a3 a4 a5 h1 h2; exact hs _ a1 a2 a3 a4 a5 h1 (fun b1 b2 b3 b4 b5 h3 h4 => ih b1 b2 b3 b4 b5 h3 (by omega))
  exact ⟨_, key (μ a1 a2 a3 a4 a5 + 1) a1 a2 a3 a4 a5 h (Nat.lt_succ_self _)⟩
def lq6 {A1 A2 A3 A4 A5 A6 : Type} (B : (A1 → A2 → A3 → A4 → A5 → A6 → Prop) → A1 → A2 → A3 → A4 → A5 → A6 → Prop) : Nat → A1 → A2 → A3 → A4 → A5 → A6 → Prop
  | 0 => fun _ _ _ _ _ _ => False
  | n + 1 => B (lq6 B n)
theorem lq6_i {A1 A2 A3 A4 A5 A6 : Type} {B : (A1 → A2 → A3 → A4 → A5 → A6 → Prop) → A1 → A2 → A3 → A4 → A5 → A6 → Prop} (I : A1 → A2 → A3 → A4 → A5 → A6 → Prop) (μ : A1 → A2 → A3 → A4 → A5 → A6 → Nat) (hs : ∀ (N : A1 → A2 → A3 → A4 → A5 → A6 → Prop) (a1 : A1) (a2 : A2) (a3 : A3) (a4 : A4) (a5 : A5) (a6 : A6), I a1 a2 a3 a4 a5 a6 → (∀ (b1 : A1) (b2 : A2) (b3 : A3) (b4 : A4) (b5 : A5) (b6 : A6), I b1 b2 b3 b4 b5 b6 → μ b1 b2 b3 b4 b5 b6 < μ a1 a2 a3 a4 a5 a6 → N b1 b2 b3 b4 b5 b6) → B N a1 a2 a3 a4 a5 a6) (a1 : A1) (a2 : A2) (a3 : A3) (a4 : A4) (a5 : A5) (a6 : A6) (h : I a1 a2 a3 a4 a5 a6) : ∃ n, lq6 B n a1 a2 a3 a4 a5 a6 := by
  have key : ∀ (n : Nat) (a1 : A1) (a2 : A2) (a3 : A3) (a4 : A4) (a5 : A5) (a6 : A6), I a1 a2 a3 a4 a5 a6 → μ a1 a2 a3 a4 a5 a6 < n → lq6 B n a1 a2 a3 a4 a5 a6 := by
    intro n
    induction n with
    | zero => intro a1 a2 a3 a4 a5 a6 _ h2; exact absurd h2 (Nat.not_lt_zero _)
    | succ n ih => intro a1 a2 a3 a4 a5 a6 h1 h2; exact hs _ a1 a2 a3 a4 a5 a6 h1 (fun b1 b2 b3 b4 b5 b6 h3 h4 => ih b1 b2 b3 b4 b5 b6 h3 (by omega))
  exact ⟨_, key (μ a1 a2 a3 a4 a5 a6 + 1) a1 a2 a3 a4 a5 a6 h (Nat.lt_succ_self _)⟩
def lq7 {A1 A2 A3 A4 A5 A6 A7 : Type} (B : (A1 → A2 → A3 → A4 → A5 → A6 → A7 → Prop) → A1 → A2 → A3 → A4 → A5 → A6 → A7 → Prop) : Nat → A1 → A2 → A3 → A4 → A5 → A6 → A7 → Prop
  | 0 => fun _ _ _ _ _ _ _ => False
  | n + 1 => B (lq7 B n)
theorem lq7_i {A1 A2 A3 A4 A5 A6 A7 : Type} {B : (A1 → A2 → A3 → A4 → A5 → A6 → A7 → Prop) → A1 → A2 → A3 → A4 → A5 → A6 → A7 → Prop} (I : A1 → A2 → A3 → A4 → A5 → A6 → A7 → Prop) (μ : A1 → A2 → A3 → A4 → A5 → A6 → A7 → Nat) (hs : ∀ (N : A1 → A2 → A3 → A4 → A5 → A6 → A7 → Prop) (a1 : A1) (a2 : A2) (a3 : A3) (a4 : A4) (a5 : A5) (a6 : A6) (a7 : A7), I a1 a2 a3 a4 a5 a6 a7 → (∀ (b1 : A1) (b2 : A2) (b3 : A3) (b4 : A4) (b5 : A5) (b6 : A6) (b7 : A7), I b1 b2 b3 b4 b5 b6 b7 → μ b1 b2 b3 b4 b5 b6 b7 < μ a1 a2 a3 a4 a5 a6 a7 → N b1 b2 b3 b4 b5 b6 b7) → B N a1 a2 a3 a4 a5 a6 a7) (a1 : A1) (a2 : A2) (a3 : A3) (a4 : A4) (a5 : A5) (a6 : A6) (a7 : A7) (h : I a1 a2 a3 a4 a5 a6 a7) : ∃ n, lq7 B n a1 a2 a3 a4 a5 a6 a7 := by
  have key : ∀ (n : Nat) (a1 : A1) (a2 : A2) (a3 : A3) (a4 : A4) (a5 : A5) (a6 : A6) (a7 : A7), I a1 a2 a3 a4 a5 a6 a7 → μ a1 a2 a3 a4 a5 a6 a7 < n → lq7 B n a1 a2 a3 a4 a5 a6 a7 := by
    intro n
    induction n with
    | zero => intro a1 a2 a3 a4 a5 a6 a7 _ h2; exact absurd h2 (Nat.not_lt_zero _)
    | succ n ih => intro a1 a2 a3 a4 a5 a6 a7 h1 h2; exact hs _ a1 a2 a3 a4 a5 a6 a7 h1 (fun b1 b2 b3 b4 b5 b6 b7 h3 h4 => ih b1 b2 b3 b4 b5 b6 b7 h3 (by omega))
  exact ⟨_, key (μ a1 a2 a3 a4 a5 a6 a7 + 1) a1 a2 a3 a4 a5 a6 a7 h (Nat.lt_succ_self _)⟩
def lq8 {A1 A2 A3 A4 A5 A6 A7 A8 : Type} (B : (A1 → A2 → A3 → A4 → A5 → A6 → A7 → A8 → Prop) → A1 → A2 → A3 → A4 → A5 → A6 → A7 → A8 → Prop) : Nat → A1 → A2 → A3 → A4 → A5 → A6 → A7 → A8 → Prop
  | 0 => fun _ _ _ _ _ _ _ _ => False
  | n + 1 => B (lq8 B n)
theorem lq8_i {A1 A2 A3 A4 A5 A6 A7 A8 : Type} {B : (A1 → A2 → A3 → A4 → A5 → A6 → A7 → A8 → Prop) → A1 → A2 → A3 → A4 → A5 → A6 → A7 → A8 → Prop} (I : A1 → A2 → A3 → A4 → A5 → A6 → A7 → A8 → Prop) (μ : A1 → A2 → A3 → A4 → A5 → A6 → A7 → A8 → Nat) (hs : ∀ (N : A1 → A2 → A3 → A4 → A5 → A6 → A7 → A8 → Prop) (a1 : A1) (a2 : A2) (a3 : A3) (a4 : A4) (a5 : A5) (a6 : A6) (a7 : A7) (a8 : A8), I a1 a2 a3 a4 a5 a6 a7 a8 → (∀ (b1 : A1) (b2 : A2) (b3 : A3) (b4 : A4) (b5 : A5) (b6 : A6) (b7 : A7) (b8 : A8), I b1 b2 b3 b4 b5 b6 b7 b8 → μ b1 b2 b3 b4 b5 b6 b7 b8 < μ a1 a2 a3 a4 a5 a6 a7 a8 → N b1 b2 b3 b4 b5 b6 b7 b8) → B N a1 a2 a3 a4 a5 a6 a7 a8) (a1 : A1) (a2 : A2) (a3 : A3) (a4 : A4) (a5 : A5) (a6 : A6) (a7 : A7) (a8 : A8) (h : I a1 a2 a3 a4 a5 a6 a7 a8) : ∃ n, lq8 B n a1 a2 a3 a4 a5 a6 a7 a8 := by
  have key : ∀ (n : Nat) (a1 : A1) (a2 : A2) (a3 : A3) (a4 : A4) (a5 : A5) (a6 : A6) (a7 : A7) (a8 : A8), I a1 a2 a3 a4 a5 a6 a7 a8 → μ a1 a2 a3 a4 a5 a6 a7 a8 < n → lq8 B n a1 a2 a3 a4 a5 a6 a7 a8 := by
    intro n
    induction n with
    | zero => intro a1 a2 a3 a4 a5 a6 a7 a8 _ h2; exact absurd h2 (Nat.not_lt_zero _)
    | succ n ih => intro a1 a2 a3 a4 a5 a6 a7 a8 h1 h2; exact hs _ a1 a2 a3 a4 a5 a6 a7 a8 h1 (fun b1 b2 b3 b4 b5 b6 b7 b8 h3 h4 => ih b1 b2 b3 b4 b5 b6 b7 b8 h3 (by omega))
  exact ⟨_, key (μ a1 a2 a3 a4 a5 a6 a7 a8 + 1) a1 a2 a3 a4 a5 a6 a7 a8 h (Nat.lt_succ_self _)⟩
def lq9 {A1 A2 A3 A4 A5 A6 A7 A8 A9 : Type} (B : (A1 → A2 → A3 → A4 → A5 → A6 → A7 → A8 → A9 → Prop) → A1 → A2 → A3 → A4 → A5 → A6 → A7 → A8 → A9 → Prop) : Nat → A1 → A2 → A3 → A4 → A5 → A6 → A7 → A8 → A9 → Prop
  | 0 => fun _ _ _ _ _ _ _ _ _ => False
  | n + 1 => B (lq9 B n)
theorem lq9_i {A1 A2 A3 A4 A5 A6 A7 A8 A9 : Type} {B : (A1 → A2 → A3 → A4 → A5 → A6 → A7 → A8 → A9 → Prop) → A1 → A2 → A3 → A4 → A5 → A6 → A7 → A8 → A9 → Prop} (I : A1 → A2 → A3 → A4 → A5 → A6 → A7 → A8 → A9 → Prop) (μ : A1 → A2 → A3 → A4 → A5 → A6 → A7 → A8 → A9 → Nat) (hs : ∀ (N : A1 → A2 → A3 → A4 → A5 → A6 → A7 → A8 → A9 → Prop) (a1 : A1) (a2 : A2) (a3 : A3) (a4 : A4) (a5 : A5) (a6 : A6) (a7 : A7) (a8 : A8) (a9 : A9), I a1 a2 a3 a4 a5 a6 a7 a8 a9 → (∀ (b1 : A1) (b2 : A2) (b3 : A3) (b4 : A4) (b5 : A5) (b6 : A6) (b7 : A7) (b8 : A8) (b9 : A9), I b1 b2 b3 b4 b5 b6 b7 b8 b9 → μ b1 b2 b3 b4 b5 b6 b7 b8 b9 < μ a1 a2 a3 a4 a5 a6 a7 a8 a9 → N b1 b2 b3 b4 b5 b6 b7 b8 b9) → B N a1 a2 a3 a4 a5 a6 a7 a8 a9) (a1 : A1) (a2 : A2) (a3 : A3) (a4 : A4) (a5 : A5) (a6 : A6) (a7 : A7) (a8 : A8) (a9 : A9) (h : I a1 a2 a3 a4 a5 a6 a7 a8 a9) : ∃ n, lq9 B n a1 a2 a3 a4 a5 a6 a7 a8 a9 := by
  have key : ∀ (n : Nat) (a1 : A1) (a2 : A2) (a3 : A3) (a4 : A4) (a5 : A5) (a6 : A6) (a7 : A7) (a8 : A8) (a9 : A9), I a1 a2 a3 a4 a5 a6 a7 a8 a9 → μ a1 a2 a3 a4 a5 a6 a7 a8 a9 < n → lq9 B n a1 a2 a3 a4 a5 a6 a7 a8 a9 := by
    intro n
    induction n with
    | zero => intro a1 a2 a3 a4 a5 a6 a7 a8 a9 _ h2; exact absurd h2 (Nat.not_lt_zero _)
    | succ n ih => intro a1 a2 a3 a4 a5 a6 a7 a8 a9 h1 h2; exact hs _ a1 a2 a3 a4 a5 a6 a7 a8 a9 h1 (fun b1 b2 b3 b4 b5 b6 b7 b8 b9 h3 h4 => ih b1 b2 b3 b4 b5 b6 b7 b8 b9 h3 (by omega))
  exact ⟨_, key (μ a1 a2 a3 a4 a5 a6 a7 a8 a9 + 1) a1 a2 a3 a4 a5 a6 a7 a8 a9 h (Nat.lt_succ_self _)⟩
def lq10 {A1 A2 A3 A4 A5 A6 A7 A8 A9 A10 : Type} (B : (A1 → A2 → A3 → A4 → A5 → A6 → A7 → A8 → A9 → A10 → Prop) → A1 → A2 → A3 → A4 → A5 → A6 → A7 → A8 → A9 → A10 → Prop) : Nat → A1 → A2 → A3 → A4 → A5 → A6 → A7 → A8 → A9 → A10 → Prop
  | 0 => fun _ _ _ _ _ _ _ _ _ _ => False
  | n + 1 => B (lq10 B n)
theorem lq10_i {A1 A2 A3 A4 A5 A6 A7 A8 A9 A10 : Type} {B : (A1 → A2 → A3 → A4 → A5 → A6 → A7 → A8 → A9 → A10 → Prop) → A1 → A2 → A3 → A4 → A5 → A6 → A7 → A8 → A9 → A10 → Prop} (I : A1 → A2 → A3 → A4 → A5 → A6 → A7 → A8 → A9 → A10 → Prop) (μ : A1 → A2 → A3 → A4 → A5 → A6 → A7 → A8 → A9 → A10 → Nat) (hs : ∀ (N : A1 → A2 → A3 → A4 → A5 → A6 → A7 → A8 → A9 → A10 → Prop) (a1 : A1) (a2 : A2) (a3 : A3) (a4 : A4) (a5 : A5) (a6 : A6) (a7 : A7) (a8 : A8) (a9 : A9) (a10 : A10), I a1 a2 a3 a4 a5 a6 a7 a8 a9 a10 → (∀ (b1 : A1) (b2 : A2) (b3 : A3) (b4 : A4) (b5 : A5) (b6 : A6) (b7 : A7) (b8 : A8) (b9 : A9) (b10 : A10), I b1 b2 b3 b4 b5 b6 b7 b8 b9 b10 → μ b1 b2 b3 b4 b5 b6 b7 b8 b9 b10 < μ a1 a2 a3 a4 a5 a6 a7 a8 a9 a10 → N b1 b2 b3 b4 b5 b6 b7 b8 b9 b10) → B N a1 a2 a3 a4 a5 a6 a7 a8 a9 a10) (a1 : A1) (a2 : A2) (a3 : A3) (a4 : A4) (a5 : A5) (a6 : A6) (a7 : A7) (a8 : A8) (a9 : A9) (a10 : A10) (h : I a1 a2 a3 a4 a5 a6 a7 a8 a9 a10) : ∃ n, lq10 B n a1 a2 a3 a4 a5 a6 a7 a8 a9 a10 := by
  have key : ∀ (n : Nat) (a1 : A1) (a2 : A2) (a3 : A3) (a4 : A4) (a5 : A5) (a6 : A6) (a7 : A7) (a8 : A8) (a9 : A9) (a10 : A10), I a1 a2 a3 a4 a5 a6 a7 a8 a9 a10 → μ a1 a2 a3 a4 a5 a6 a7 a8 a9 a10 < n → lq10 B n a1 a2 a3 a4 a5 a6 a7 a8 a9 a10 := by
    intro n
    induction n with
    | zero => intro a1 a2 a3 a4 a5 a6 a7 a8 a9 a10 _ h2; exact absurd h2 (Nat.not_lt_zero _)
    | succ n ih => intro a1 a2 a3 a4 a5 a6 a7 a8 a9 a10 h1 h2; exact hs _ a1 a2 a3 a4 a5 a6 a7 a8 a9 a10 h1 (fun b1 b2 b3 b4 b5 b6 b7 b8 b9 b10 h3 h4 => ih b1 b2 b3 b4 b5 b6 b7 b8 b9 b10 h3 (by omega))
  exact ⟨_, key (μ a1 a2 a3 a4 a5 a6 a7 a8 a9 a10 + 1) a1 a2 a3 a4 a5 a6 a7 a8 a9 a10 h (Nat.lt_succ_self _)⟩
def lq11 {A1 A2 A3 A4 A5 A6 A7 A8 A9 A10 A11 : Type} (B : (A1 → A2 → A3 → A4 → A5 → A6 → A7 → A8 → A9 → A10 → A11 → Prop) → A1 → A2 → A3 → A4 → A5 → A6 → A7 → A8 → A9 → A10 → A11 → Prop) : Nat → A1 → A2 → A3 → A4 → A5 → A6 → A7 → A8 → A9 → A10 → A11 → Prop
  | 0 => fun _ _ _ _ _ _ _ _ _ _ _ => False
  | n + 1 => B (lq11 B n)
theorem lq11_i {A1 A2 A3 A4 A5 A6 A7 A8 A9 A10 A11 : Type} {B : (A1 → A2 → A3 → A4 → A5 → A6 → A7 → A8 → A9 → A10 → A11 → Prop) → A1 → A2 → A3 → A4 → A5 → A6 → A7 → A8 → A9 → A10 → A11 → Prop} (I : A1 → A2 → A3 → A4 → A5 → A6 → A7 → A8 → A9 → A10 → A11 → Prop) (μ : A1 → A2 → A3 → A4 → A5 → A6 → A7 → A8 → A9 → A10 → A11 → Nat) (hs : ∀ (N : A1 → A2 → A3 → A4 → A5 → A6 → A7 → A8 → A9 → A10 → A11 → Prop) (a1 : A1) (a2 : A2) (a3 : A3) (a4 : A4) (a5 : A5) (a6 : A6) (a7 : A7) (a8 : A8) (a9 : A9) (a10 : A10) (a11 : A11), I a1 a2 a3 a4 a5 a6 a7 a8 a9 a10 a11 → (∀ (b1 : A1) (b2 : A2) (b3 : A3) (b4 : A4) (b5 : A5) (b6 : A6) (b7 : A7) (b8 : A8) (b9 : A9) (b10 : A10) (b11 : A11), I b1 b2 b3 b4 b5 b6 b7 b8 b9 b10 b11 → μ b1 b2 b3 b4 b5 b6 b7 b8 b9 b10 b11 < μ a1 a2 a3 a4 a5 a6 a7 a8 a9 a10 a11 → N b1 b2 b3 b4 b5 b6 b7 b8 b9 b10 b11) → B N a1 a2 a3 a4 a5 a6 a7 a8 a9 a10 a11) (a1 : A1) (a2 : A2) (a3 : A3) (a4 : A4) (a5 : A5) (a6 : A6) (a7 : A7) (a8 : A8) (a9 : A9) (a10 : A10) (a11 : A11) (h : I a1 a2 a3 a4 a5 a6 a7 a8 a9 a10 a11) : ∃ n, lq11 B n a1 a2 a3 a4 a5 a6 a7 a8 a9 a10 a11 := by
  have key : ∀ (n : Nat) (a1 : A1) (a2 : A2) (a3 : A3) (a4 : A4) (a5 : A5) (a6 : A6) (a7 : A7) (a8 : A8) (a9 : A9) (a10 : A10) (a11 : A11), I a1 a2 a3 a4 a5 a6 a7 a8 a9 a10 a11 → μ a1 a2 a3 a4 a5 a6 a7 a8 a9 a10 a11 < n → lq11 B n a1 a2 a3 a4 a5 a6 a7 a8 a9 a10 a11 := by
    intro n
    induction n with
    | zero => intro a1 a2 a3 a4 a5 a6 a7 a8 a9 a10 a11 _ h2; exact absurd h2 (Nat.not_lt_zero _)
    | succ n ih => intro a1 a2 a3 a4 a5 a6 a7 a8 a9 a10 a11 h1 h2; exact hs _ a1 a2 a3 a4 a5 a6 a7 a8 a9 a10 a11 h1 (fun b1 b2 b3 b4 b5 b6 b7 b8 b9 b10 b11 h3 h4 => ih b1 b2 b3 b4 b5 b6 b7 b8 b9 b10 b11 h3 (by omega))
  exact ⟨_, key (μ a1 a2 a3 a4 a5 a6 a7 a8 a9 a10 a11 + 1) a1 a2 a3 a4 a5 a6 a7 a8 a9 a10 a11 h (Nat.lt_succ_self _)⟩
def lq12 {A1 A2 A3 A4 A5 A6 A7 A8 A9 A10 A11 A12 : Type} (B : (A1 → A2 → A3 → A4 → A5 → A6 → A7 → A8 → A9 → A10 → A11 → A12 → Prop) → A1 → A2 → A3 → A4 → A5 → A6 → A7 → A8 → A9 → A10 → A11 → A12 → Prop) : Nat → A1 → A2 → A3 → A4 → A5 → A6 → A7 → A8 → A9 → A10 → A11 → A12 → Prop
  | 0 => fun _ _ _ _ _ _ _ _ _ _ _ _ => False
  | n + 1 => B (lq12 B n)
theorem lq12_i {A1 A2 A3 A4 A5 A6 A7 A8 A9 A10 A11 A12 : Type} {B : (A1 → A2 → A3 → A4 → A5 → A6 → A7 → A8 → A9 → A10 → A11 → A12 → Prop) → A1 → A2 → A3 → A4 → A5 → A6 → A7 → A8 → A9 → A10 → A11 → A12 → Prop} (I : A1 → A2 → A3 → A4 → A5 → A6 → A7 → A8 → A9 → A10 → A11 → A12 → Prop) (μ : A1 → A2 → A3 → A4 → A5 → A6 → A7 → A8 → A9 → A10 → A11 → A12 → Nat) (hs : ∀ (N : A1 → A2 → A3 → A4 → A5 → A6 → A7 → A8 → A9 → A10 → A11 → A12 → Prop) (a1 : A1) (a2 : A2) (a3 : A3) (a4 : A4) (a5 : A5) (a6 : A6) (a7 : A7) (a8 : A8) (a9 : A9) (a10 : A10) (a11 : A11) (a12 : A12), I a1 a2 a3 a4 a5 a6 a7 a8 a9 a10 a11 a12 → (∀ (b1 : A1) (b2 : A2) (b3 : A3) (b4 : A4) (b5 : A5) (b6 : A6) (b7 : A7) (b8 : A8) (b9 : A9) (b10 : A10) (b11 : A11) (b12 : A12), I b1 b2 b3 b4 b5 b6 b7 b8 b9 b10 b11 b12 → μ b1 b2 b3 b4 b5 b6 b7 b8 b9 b10 b11 b12 < μ a1 a2 a3 a4 a5 a6 a7 a8 a9 a10 a11 a12 → N b1 b2 b3 b4 b5 b6 b7 b8 b9 b10 b11 b12) → B N a1 a2 a3 a4 a5 a6 a7 a8 a9 a10 a11 a12) (a1 : A1) (a2 : A2) (a3 : A3) (a4 : A4) (a5 : A5) (a6 : A6) (a7 : A7) (a8 : A8) (a9 : A9) (a10 : A10) (a11 : A11) (a12 : A12) (h : I a1 a2 a3 a4 a5 a6 a7 a8 a9 a10 a11 a12) : ∃ n, lq12 B n a1 a2 a3 a4 a5 a6 a7 a8 a9 a10 a11 a12 := by
  have key : ∀ (n : Nat) (a1 : A1) (a2 : A2) (a3 : A3) (a4 : A4) (a5 : A5) (a6 : A6) (a7 : A7) (a8 : A8) (a9 : A9) (a10 : A10) (a11 : A11) (a12 : A12), I a1 a2 a3 a4 a5 a6 a7 a8 a9 a10 a11 a12 → μ a1 a2 a3 a4 a5 a6 a7 a8 a9 a10 a11 a12 < n → lq12 B n a1 a2 a3 a4 a5 a6 a7 a8 a9 a10 a11 a12 := by
    intro n
    induction n with
    | zero => intro a1 a2 a3 a4 a5 a6 a7 a8 a9 a10 a11 a12 _ h2; exact absurd h2 (Nat.not_lt_zero _)
    | succ n ih => intro a1 a2 a3 a4 a5 a6 a7 a8 a9 a10 a11 a12 h1 h2; exact hs _ a1 a2 a3 a4 a5 a6 a7 a8 a9 a10 a11 a12 h1 (fun b1 b2 b3 b4 b5 b6 b7 b8 b9 b10 b11 b12 h3 h4 => ih b1 b2 b3 b4 b5 b6 b7 b8 b9 b10 b11 b12 h3 (by omega))
  exact ⟨_, key (μ a1 a2 a3 a4 a5 a6 a7 a8 a9 a10 a11 a12 + 1) a1 a2 a3 a4 a5 a6 a7 a8 a9 a10 a11 a12 h (Nat.lt_succ_self _)⟩
end
section
/-! java/util/Arrays.rangeCheck(III)V -/
def rmJ7_rangeCheck_23922 : Room := { frames := 0, cells := 0, slots := 0, locals := 0 }
def wpJ7_rangeCheck_23922_0 (x1 : Int32) (x2 : Int32) (x3 : Int32) (Q : CS → Prop) (σ : CS) : Prop :=
  (x2 ≤ x3 →
    (0 ≤ x2 →
      (x3 ≤ x1 →
        Q σ) ∧
      (¬ x3 ≤ x1 →
        False)) ∧
    (¬ 0 ≤ x2 →
      False)) ∧
  (¬ x2 ≤ x3 →
    False)
set_option maxRecDepth 100000 in
set_option maxHeartbeats 4000000 in
theorem wJ7_rangeCheck_23922_0 {p : Program} {l : Launch} {e : Env} {s : State} {m : MethodId} {args : Array Value} {below : List Frame} {meth : Method} {c : Code} {D : va_G} {A : Nat → Prop} {g : mG} (hg : inj g) {x1 : Int32} {x2 : Int32} {x3 : Int32} (X : cx p m meth c s args cJ7_rangeCheck_23922 3 RJ7 D (tyG g)) (hr : meth.sig.returnType = none) {Q : CS → Prop} : ∀ (σ : CS), wpJ7_rangeCheck_23922_0 x1 x2 x3 Q σ → cW p l e rmJ7_rangeCheck_23922 s m args below meth c (MQ below (va_Qv Q (fun u t => wd D A (cT g u) t.heap) A) args s 0 0 A) D A (cT g σ) 0 3 [(0, .int x1), (1, .int x2), (2, .int x3)] := by
  obtain ⟨hx, hb, hml, hown, hts, hK, hlk⟩ := id X
  intro σ h H locs ls hw hS hl
  unfold wpJ7_rangeCheck_23922_0 at h
  refine lv_iload_n hx hb dJ7_rangeCheck_23922_0 rfl (lv_at hl 1 rfl) ?_
  refine lv_iload_n hx hb dJ7_rangeCheck_23922_1 rfl (lv_at hl 2 rfl) ?_
  refine lv_icmp_le (tgt := 46) hx hb dJ7_rangeCheck_23922_2 (by decide) (fun hc => ?_) (fun hc => ?_)
  · replace h := h.1 hc
    refine lv_iload_n hx hb dJ7_rangeCheck_23922_46 rfl (lv_at hl 1 rfl) ?_
    refine lv_if_ge (tgt := 59) hx hb dJ7_rangeCheck_23922_47 (by decide) (fun hc => ?_) (fun hc => ?_)
    · replace h := h.1 hc
      refine lv_iload_n hx hb dJ7_rangeCheck_23922_59 rfl (lv_at hl 2 rfl) ?_
      refine lv_iload_n hx hb dJ7_rangeCheck_23922_60 rfl (lv_at hl 0 rfl) ?_
      refine lv_icmp_le (tgt := 73) hx hb dJ7_rangeCheck_23922_61 (by decide) (fun hc => ?_) (fun hc => ?_)
      · replace h := h.1 hc
        exact m_vret X hr hw hS h dJ7_rangeCheck_23922_73
      · replace h := h.2 hc
        exact h.elim
    · replace h := h.2 hc
      exact h.elim
  · replace h := h.2 hc
    exact h.elim
def wpJ7_rangeCheck_23922 (x1 : Int32) (x2 : Int32) (x3 : Int32) (σ : CS) (Q : CS → Prop) : Prop := wpJ7_rangeCheck_23922_0 x1 x2 x3 Q σ
theorem kJ7_rangeCheck_23922 {l : Launch} {D : va_G} {A : Nat → Prop} {g : mG} (hg : inj g) {x1 : Int32} {x2 : Int32} {x3 : Int32} {σ : CS} {Q : CS → Prop} (h : wpJ7_rangeCheck_23922 x1 x2 x3 σ Q) : Met l yJ7_rangeCheck_23922 (Cond.code yJ7_rangeCheck_23922 cJ7_rangeCheck_23922 3 none :: wsA) rmJ7_rangeCheck_23922 (mPc D (tyG g) A (cT g σ) [.int x1, .int x2, .int x3]) (va_Qv Q (fun u t => wd D A (cT g u) t.heap) A) 0 0 A :=
  m_met (by decide +kernel) (Nat.le_of_ble_eq_true rfl) (fun p e s m below meth c X hr H locs ls hw hS hl => wJ7_rangeCheck_23922_0 hg X hr σ h H locs ls hw hS (lv_sub hl [0, 1, 2] rfl))
theorem fJ7_rangeCheck_23922 : sfit yJ7_rangeCheck_23922 cJ7_rangeCheck_23922 3 none 3 := ⟨mw_265, mw_262, mw_266, by decide +kernel, by decide +kernel, by decide +kernel⟩
/-! java/util/Arrays.fill([IIII)V -/
def rmJ7_fill_fda19 : Room := { frames := 1, cells := 0, slots := 0, locals := 22 }
def wbJ7_fill_fda19_10 (w1 : Nat) (x2 : Int32) (x3 : Int32) (x4 : Int32) (Q : CS → Prop) (N10 : Int32 → CS → Prop) (i4 : Int32) (σ : CS) : Prop :=
  (x3 ≤ i4 →
    Q σ) ∧
  (¬ x3 ≤ i4 →
    vp_in i4 (capW w1) ∧ (
    ∀ a1 : Int32, a1 = i4 + (1 : Int32) →
    N10 a1 (sFi σ w1 i4 x4)))
set_option maxRecDepth 100000 in
set_option maxHeartbeats 4000000 in
theorem wJ7_fill_fda19_10 {p : Program} {l : Launch} {e : Env} {s : State} {m : MethodId} {args : Array Value} {below : List Frame} {meth : Method} {c : Code} {D : va_G} {A : Nat → Prop} {g : mG} (hg : inj g) {w1 : Nat} {x2 : Int32} {x3 : Int32} {x4 : Int32} (hw1 : okW w1) (X : cx p m meth c s args cJ7_fill_fda19 5 RJ7 D (tyG g)) (hr : meth.sig.returnType = none) {Q : CS → Prop} : ∀ (n : Nat) (i4 : Int32) (σ : CS), lq2 (wbJ7_fill_fda19_10 w1 x2 x3 x4 Q) n i4 σ → cW p l e rmJ7_fill_fda19 s m args below meth c (MQ below (va_Qv Q (fun u t => wd D A (cT g u) t.heap) A) args s 0 0 A) D A (cT g σ) 10 5 [(0, .ref (g.1 (4 * w1 + 1))), (1, .int x2), (2, .int x3), (3, .int x4), (4, .int i4)] := by
  obtain ⟨hx, hb, hml, hown, hts, hK, hlk⟩ := id X
  intro n
  induction n with
  | zero =>
    intro i4 σ h
    exact h.elim
  | succ n hN10 =>
    intro i4 σ h H locs ls hw hS hl
    replace h : wbJ7_fill_fda19_10 w1 x2 x3 x4 Q (lq2 (wbJ7_fill_fda19_10 w1 x2 x3 x4 Q) n) i4 σ := h
    unfold wbJ7_fill_fda19_10 at h
    refine lv_iload hx hb dJ7_fill_fda19_10 (lv_at hl 4 rfl) ?_
    refine lv_iload_n hx hb dJ7_fill_fda19_12 rfl (lv_at hl 2 rfl) ?_
    refine lv_icmp_ge (tgt := 27) hx hb dJ7_fill_fda19_13 (by decide) (fun hc => ?_) (fun hc => ?_)
    · replace h := h.1 hc
      exact m_vret X hr hw hS h dJ7_fill_fda19_27
    · replace h := h.2 hc
      refine lv_aload_n hx hb dJ7_fill_fda19_16 rfl (lv_at hl 0 rfl) ?_
      refine lv_iload hx hb dJ7_fill_fda19_17 (lv_at hl 4 rfl) ?_
      refine lv_iload_n hx hb dJ7_fill_fda19_19 rfl (lv_at hl 3 rfl) ?_
      obtain ⟨hi, h⟩ := h
      refine m_iast (T' := cT g (sFi σ w1 i4 x4)) X hw hS (tD hw1) 0 rfl hi (uF hg) dJ7_fill_fda19_20 (fun H locs hw hS => ?_)
      obtain ⟨a1, ea1⟩ : ∃ z : Int32, z = i4 + (1 : Int32) := ⟨_, rfl⟩
      replace h := h a1 ea1
      refine lv_iinc (v := a1) (lv' := [(4, .int a1), (0, .ref (g.1 (4 * w1 + 1))), (1, .int x2), (2, .int x3), (3, .int x4)]) hx hb dJ7_fill_fda19_21 hl (k := 4) rfl (by rw [ea1]; rfl) (by decide) rfl (fun ls hl => ?_)
      refine lv_goto (tgt := 10) hx hb dJ7_fill_fda19_24 (by decide) ?_
      exact hN10 a1 _ h H locs ls hw hS (lv_sub hl [1, 2, 3, 4, 0] rfl)
def wpJ7_fill_fda19_0 (w1 : Nat) (x2 : Int32) (x3 : Int32) (x4 : Int32) (Q : CS → Prop) (σ : CS) : Prop :=
  wpJ7_rangeCheck_23922 (Int32.ofNat (capW w1)) x2 x3 σ (fun (σ3 : CS) =>
    ∃ n, lq2 (wbJ7_fill_fda19_10 w1 x2 x3 x4 Q) n x2 σ3)
set_option maxRecDepth 100000 in
set_option maxHeartbeats 4000000 in
theorem wJ7_fill_fda19_0 {p : Program} {l : Launch} {e : Env} {s : State} {m : MethodId} {args : Array Value} {below : List Frame} {meth : Method} {c : Code} {D : va_G} {A : Nat → Prop} {g : mG} (hg : inj g) {w1 : Nat} {x2 : Int32} {x3 : Int32} {x4 : Int32} (hw1 : okW w1) (X : cx p m meth c s args cJ7_fill_fda19 5 RJ7 D (tyG g)) (hr : meth.sig.returnType = none) {Q : CS → Prop} : ∀ (σ : CS), wpJ7_fill_fda19_0 w1 x2 x3 x4 Q σ → cW p l e rmJ7_fill_fda19 s m args below meth c (MQ below (va_Qv Q (fun u t => wd D A (cT g u) t.heap) A) args s 0 0 A) D A (cT g σ) 0 5 [(0, .ref (g.1 (4 * w1 + 1))), (1, .int x2), (2, .int x3), (3, .int x4)] := by
  obtain ⟨hx, hb, hml, hown, hts, hK, hlk⟩ := id X
  intro σ h H locs ls hw hS hl
  unfold wpJ7_fill_fda19_0 at h
  refine lv_aload_n hx hb dJ7_fill_fda19_0 rfl (lv_at hl 0 rfl) ?_
  refine m_alen (v := Int32.ofNat (capW w1)) X hw (tD hw1) 0 rfl rfl dJ7_fill_fda19_1 ?_
  refine lv_iload_n hx hb dJ7_fill_fda19_2 rfl (lv_at hl 1 rfl) ?_
  refine lv_iload_n hx hb dJ7_fill_fda19_3 rfl (lv_at hl 2 rfl) ?_
  refine m_cSv (TT := cT g) (As := [.int (Int32.ofNat (capW w1)), .int x2, .int x3]) (rest := []) X hl.1 hw hS (kJ7_rangeCheck_23922 hg h) mw_264 fJ7_rangeCheck_23922 ⟨rfl, rfl, Nat.le_of_ble_eq_true rfl, Nat.le_of_ble_eq_true rfl⟩ rfl rfl (Nat.le_of_ble_eq_true rfl) dJ7_fill_fda19_4 (fun σ3 H locs h hw hS => ?_)
  refine lv_iload_n hx hb dJ7_fill_fda19_7 rfl (lv_at hl 1 rfl) ?_
  refine lv_istore (lv' := [(4, .int x2), (0, .ref (g.1 (4 * w1 + 1))), (1, .int x2), (2, .int x3), (3, .int x4)]) hx hb dJ7_fill_fda19_8 hl (by decide) rfl (fun ls hl => ?_)
  obtain ⟨n9, h⟩ := h
  exact wJ7_fill_fda19_10 hg hw1 X hr n9 x2 _ h H locs ls hw hS (lv_sub hl [1, 2, 3, 4, 0] rfl)
def wpJ7_fill_fda19 (w1 : Nat) (x2 : Int32) (x3 : Int32) (x4 : Int32) (σ : CS) (Q : CS → Prop) : Prop := wpJ7_fill_fda19_0 w1 x2 x3 x4 Q σ
theorem kJ7_fill_fda19 {l : Launch} {D : va_G} {A : Nat → Prop} {g : mG} (hg : inj g) {w1 : Nat} {x2 : Int32} {x3 : Int32} {x4 : Int32} (hw1 : okW w1) {σ : CS} {Q : CS → Prop} (h : wpJ7_fill_fda19 w1 x2 x3 x4 σ Q) : Met l yJ7_fill_fda19 (Cond.code yJ7_fill_fda19 cJ7_fill_fda19 5 none :: wsA) rmJ7_fill_fda19 (mPc D (tyG g) A (cT g σ) [.ref (g.1 (4 * w1 + 1)), .int x2, .int x3, .int x4]) (va_Qv Q (fun u t => wd D A (cT g u) t.heap) A) 0 0 A :=
  m_met (by decide +kernel) (Nat.le_of_ble_eq_true rfl) (fun p e s m below meth c X hr H locs ls hw hS hl => wJ7_fill_fda19_0 hg hw1 X hr σ h H locs ls hw hS (lv_sub hl [0, 1, 2, 3] rfl))
theorem fJ7_fill_fda19 : sfit yJ7_fill_fda19 cJ7_fill_fda19 5 none 4 := ⟨mw_261, mw_262, mw_263, by decide +kernel, by decide +kernel, by decide +kernel⟩
/-! java/lang/Integer.numberOfLeadingZeros(I)I -/
def rmJ6_numberOfLeadingZeros_0f7a4 : Room := { frames := 0, cells := 0, slots := 0, locals := 0 }
def wpJ6_numberOfLeadingZeros_0f7a4_73 (Q : Int32 → CS → Prop) (i0 : Int32) (i1 : Int32) (σ : CS) : Prop :=
  Q (i1 - (jushr i0 (1 : Int32))) σ
set_option maxRecDepth 100000 in
set_option maxHeartbeats 4000000 in
theorem wJ6_numberOfLeadingZeros_0f7a4_73 {p : Program} {l : Launch} {e : Env} {s : State} {m : MethodId} {args : Array Value} {below : List Frame} {meth : Method} {c : Code} {D : va_G} {A : Nat → Prop} {g : mG} (hg : inj g) (X : cx p m meth c s args cJ6_numberOfLeadingZeros_0f7a4 2 RJ6 D (tyG g)) (hr : meth.sig.returnType = (some .int)) {Q : Int32 → CS → Prop} : ∀ (i0 : Int32) (i1 : Int32) (σ : CS), wpJ6_numberOfLeadingZeros_0f7a4_73 Q i0 i1 σ → cW p l e rmJ6_numberOfLeadingZeros_0f7a4 s m args below meth c (MQ below (va_Qi Q (fun u t => wd D A (cT g u) t.heap) A) args s 0 0 A) D A (cT g σ) 73 2 [(0, .int i0), (1, .int i1)] := by
  obtain ⟨hx, hb, hml, hown, hts, hK, hlk⟩ := id X
  intro i0 i1 σ h H locs ls hw hS hl
  unfold wpJ6_numberOfLeadingZeros_0f7a4_73 at h
  refine lv_iload_n hx hb dJ6_numberOfLeadingZeros_0f7a4_73 rfl (lv_at hl 1 rfl) ?_
  refine lv_iload_n hx hb dJ6_numberOfLeadingZeros_0f7a4_74 rfl (lv_at hl 0 rfl) ?_
  refine lv_iconst (v := (1 : Int32)) hx hb dJ6_numberOfLeadingZeros_0f7a4_75 (by decide) ?_
  refine lv_iushr (v := jushr i0 (1 : Int32)) hx hb dJ6_numberOfLeadingZeros_0f7a4_76 rfl ?_
  refine lv_isub hx hb dJ6_numberOfLeadingZeros_0f7a4_77 ?_
  exact m_iret X hr hw hS h dJ6_numberOfLeadingZeros_0f7a4_78
def wpJ6_numberOfLeadingZeros_0f7a4_61 (Q : Int32 → CS → Prop) (i0 : Int32) (i1 : Int32) (σ : CS) : Prop :=
  (i0 < (4 : Int32) →
    wpJ6_numberOfLeadingZeros_0f7a4_73 Q i0 i1 σ) ∧
  (¬ i0 < (4 : Int32) →
    ∀ a1 : Int32, a1 = i1 + (-2 : Int32) →
    ∀ a2 : Int32, a2 = jushr i0 (2 : Int32) →
    wpJ6_numberOfLeadingZeros_0f7a4_73 Q a2 a1 σ)
set_option maxRecDepth 100000 in
set_option maxHeartbeats 4000000 in
theorem wJ6_numberOfLeadingZeros_0f7a4_61 {p : Program} {l : Launch} {e : Env} {s : State} {m : MethodId} {args : Array Value} {below : List Frame} {meth : Method} {c : Code} {D : va_G} {A : Nat → Prop} {g : mG} (hg : inj g) (X : cx p m meth c s args cJ6_numberOfLeadingZeros_0f7a4 2 RJ6 D (tyG g)) (hr : meth.sig.returnType = (some .int)) {Q : Int32 → CS → Prop} : ∀ (i0 : Int32) (i1 : Int32) (σ : CS), wpJ6_numberOfLeadingZeros_0f7a4_61 Q i0 i1 σ → cW p l e rmJ6_numberOfLeadingZeros_0f7a4 s m args below meth c (MQ below (va_Qi Q (fun u t => wd D A (cT g u) t.heap) A) args s 0 0 A) D A (cT g σ) 61 2 [(0, .int i0), (1, .int i1)] := by
  obtain ⟨hx, hb, hml, hown, hts, hK, hlk⟩ := id X
  intro i0 i1 σ h H locs ls hw hS hl
  unfold wpJ6_numberOfLeadingZeros_0f7a4_61 at h
  refine lv_iload_n hx hb dJ6_numberOfLeadingZeros_0f7a4_61 rfl (lv_at hl 0 rfl) ?_
  refine lv_iconst (v := (4 : Int32)) hx hb dJ6_numberOfLeadingZeros_0f7a4_62 (by decide) ?_
  refine lv_icmp_lt (tgt := 73) hx hb dJ6_numberOfLeadingZeros_0f7a4_63 (by decide) (fun hc => ?_) (fun hc => ?_)
  · replace h := h.1 hc
    exact wJ6_numberOfLeadingZeros_0f7a4_73 hg X hr i0 i1 _ h H locs ls hw hS (lv_sub hl [0, 1] rfl)
  · replace h := h.2 hc
    obtain ⟨a1, ea1⟩ : ∃ z : Int32, z = i1 + (-2 : Int32) := ⟨_, rfl⟩
    replace h := h a1 ea1
    refine lv_iinc (v := a1) (lv' := [(1, .int a1), (0, .int i0)]) hx hb dJ6_numberOfLeadingZeros_0f7a4_66 hl (k := 1) rfl (by rw [ea1]; rfl) (by decide) rfl (fun ls hl => ?_)
    refine lv_iload_n hx hb dJ6_numberOfLeadingZeros_0f7a4_69 rfl (lv_at hl 1 rfl) ?_
    refine lv_iconst (v := (2 : Int32)) hx hb dJ6_numberOfLeadingZeros_0f7a4_70 (by decide) ?_
    refine lv_iushr (v := jushr i0 (2 : Int32)) hx hb dJ6_numberOfLeadingZeros_0f7a4_71 rfl ?_
    refine lv_topi (fun a2 ea2 => ?_)
    replace h := h a2 ea2
    refine lv_istore_n (lv' := [(0, .int a2), (1, .int a1)]) hx hb dJ6_numberOfLeadingZeros_0f7a4_72 rfl hl (by decide) rfl (fun ls hl => ?_)
    exact wJ6_numberOfLeadingZeros_0f7a4_73 hg X hr a2 a1 _ h H locs ls hw hS (lv_sub hl [0, 1] rfl)
def wpJ6_numberOfLeadingZeros_0f7a4_48 (Q : Int32 → CS → Prop) (i0 : Int32) (i1 : Int32) (σ : CS) : Prop :=
  (i0 < (16 : Int32) →
    wpJ6_numberOfLeadingZeros_0f7a4_61 Q i0 i1 σ) ∧
  (¬ i0 < (16 : Int32) →
    ∀ a3 : Int32, a3 = i1 + (-4 : Int32) →
    ∀ a4 : Int32, a4 = jushr i0 (4 : Int32) →
    wpJ6_numberOfLeadingZeros_0f7a4_61 Q a4 a3 σ)
set_option maxRecDepth 100000 in
set_option maxHeartbeats 4000000 in
theorem wJ6_numberOfLeadingZeros_0f7a4_48 {p : Program} {l : Launch} {e : Env} {s : State} {m : MethodId} {args : Array Value} {below : List Frame} {meth : Method} {c : Code} {D : va_G} {A : Nat → Prop} {g : mG} (hg : inj g) (X : cx p m meth c s args cJ6_numberOfLeadingZeros_0f7a4 2 RJ6 D (tyG g)) (hr : meth.sig.returnType = (some .int)) {Q : Int32 → CS → Prop} : ∀ (i0 : Int32) (i1 : Int32) (σ : CS), wpJ6_numberOfLeadingZeros_0f7a4_48 Q i0 i1 σ → cW p l e rmJ6_numberOfLeadingZeros_0f7a4 s m args below meth c (MQ below (va_Qi Q (fun u t => wd D A (cT g u) t.heap) A) args s 0 0 A) D A (cT g σ) 48 2 [(0, .int i0), (1, .int i1)] := by
  obtain ⟨hx, hb, hml, hown, hts, hK, hlk⟩ := id X
  intro i0 i1 σ h H locs ls hw hS hl
  unfold wpJ6_numberOfLeadingZeros_0f7a4_48 at h
  refine lv_iload_n hx hb dJ6_numberOfLeadingZeros_0f7a4_48 rfl (lv_at hl 0 rfl) ?_
  refine lv_bipush (v := (16 : Int32)) hx hb dJ6_numberOfLeadingZeros_0f7a4_49 (by decide) ?_
  refine lv_icmp_lt (tgt := 61) hx hb dJ6_numberOfLeadingZeros_0f7a4_51 (by decide) (fun hc => ?_) (fun hc => ?_)
  · replace h := h.1 hc
    exact wJ6_numberOfLeadingZeros_0f7a4_61 hg X hr i0 i1 _ h H locs ls hw hS (lv_sub hl [0, 1] rfl)
  · replace h := h.2 hc
    obtain ⟨a3, ea3⟩ : ∃ z : Int32, z = i1 + (-4 : Int32) := ⟨_, rfl⟩
    replace h := h a3 ea3
    refine lv_iinc (v := a3) (lv' := [(1, .int a3), (0, .int i0)]) hx hb dJ6_numberOfLeadingZeros_0f7a4_54 hl (k := 1) rfl (by rw [ea3]; rfl) (by decide) rfl (fun ls hl => ?_)
    refine lv_iload_n hx hb dJ6_numberOfLeadingZeros_0f7a4_57 rfl (lv_at hl 1 rfl) ?_
    refine lv_iconst (v := (4 : Int32)) hx hb dJ6_numberOfLeadingZeros_0f7a4_58 (by decide) ?_
    refine lv_iushr (v := jushr i0 (4 : Int32)) hx hb dJ6_numberOfLeadingZeros_0f7a4_59 rfl ?_
    refine lv_topi (fun a4 ea4 => ?_)
    replace h := h a4 ea4
    refine lv_istore_n (lv' := [(0, .int a4), (1, .int a3)]) hx hb dJ6_numberOfLeadingZeros_0f7a4_60 rfl hl (by decide) rfl (fun ls hl => ?_)
    exact wJ6_numberOfLeadingZeros_0f7a4_61 hg X hr a4 a3 _ h H locs ls hw hS (lv_sub hl [0, 1] rfl)
def wpJ6_numberOfLeadingZeros_0f7a4_33 (Q : Int32 → CS → Prop) (i0 : Int32) (i1 : Int32) (σ : CS) : Prop :=
  (i0 < (256 : Int32) →
    wpJ6_numberOfLeadingZeros_0f7a4_48 Q i0 i1 σ) ∧
  (¬ i0 < (256 : Int32) →
    ∀ a5 : Int32, a5 = i1 + (-8 : Int32) →
    ∀ a6 : Int32, a6 = jushr i0 (8 : Int32) →
    wpJ6_numberOfLeadingZeros_0f7a4_48 Q a6 a5 σ)
set_option maxRecDepth 100000 in
set_option maxHeartbeats 4000000 in
theorem wJ6_numberOfLeadingZeros_0f7a4_33 {p : Program} {l : Launch} {e : Env} {s : State} {m : MethodId} {args : Array Value} {below : List Frame} {meth : Method} {c : Code} {D : va_G} {A : Nat → Prop} {g : mG} (hg : inj g) (X : cx p m meth c s args cJ6_numberOfLeadingZeros_0f7a4 2 RJ6 D (tyG g)) (hr : meth.sig.returnType = (some .int)) {Q : Int32 → CS → Prop} : ∀ (i0 : Int32) (i1 : Int32) (σ : CS), wpJ6_numberOfLeadingZeros_0f7a4_33 Q i0 i1 σ → cW p l e rmJ6_numberOfLeadingZeros_0f7a4 s m args below meth c (MQ below (va_Qi Q (fun u t => wd D A (cT g u) t.heap) A) args s 0 0 A) D A (cT g σ) 33 2 [(0, .int i0), (1, .int i1)] := by
  obtain ⟨hx, hb, hml, hown, hts, hK, hlk⟩ := id X
  intro i0 i1 σ h H locs ls hw hS hl
  unfold wpJ6_numberOfLeadingZeros_0f7a4_33 at h
  refine lv_iload_n hx hb dJ6_numberOfLeadingZeros_0f7a4_33 rfl (lv_at hl 0 rfl) ?_
  refine lv_sipush (v := (256 : Int32)) hx hb dJ6_numberOfLeadingZeros_0f7a4_34 (by decide) ?_
  refine lv_icmp_lt (tgt := 48) hx hb dJ6_numberOfLeadingZeros_0f7a4_37 (by decide) (fun hc => ?_) (fun hc => ?_)
  · replace h := h.1 hc
    exact wJ6_numberOfLeadingZeros_0f7a4_48 hg X hr i0 i1 _ h H locs ls hw hS (lv_sub hl [0, 1] rfl)
  · replace h := h.2 hc
    obtain ⟨a5, ea5⟩ : ∃ z : Int32, z = i1 + (-8 : Int32) := ⟨_, rfl⟩
    replace h := h a5 ea5
    refine lv_iinc (v := a5) (lv' := [(1, .int a5), (0, .int i0)]) hx hb dJ6_numberOfLeadingZeros_0f7a4_40 hl (k := 1) rfl (by rw [ea5]; rfl) (by decide) rfl (fun ls hl => ?_)
    refine lv_iload_n hx hb dJ6_numberOfLeadingZeros_0f7a4_43 rfl (lv_at hl 1 rfl) ?_
    refine lv_bipush (v := (8 : Int32)) hx hb dJ6_numberOfLeadingZeros_0f7a4_44 (by decide) ?_
    refine lv_iushr (v := jushr i0 (8 : Int32)) hx hb dJ6_numberOfLeadingZeros_0f7a4_46 rfl ?_
    refine lv_topi (fun a6 ea6 => ?_)
    replace h := h a6 ea6
    refine lv_istore_n (lv' := [(0, .int a6), (1, .int a5)]) hx hb dJ6_numberOfLeadingZeros_0f7a4_47 rfl hl (by decide) rfl (fun ls hl => ?_)
    exact wJ6_numberOfLeadingZeros_0f7a4_48 hg X hr a6 a5 _ h H locs ls hw hS (lv_sub hl [0, 1] rfl)
def wpJ6_numberOfLeadingZeros_0f7a4_0 (Q : Int32 → CS → Prop) (i0 : Int32) (σ : CS) : Prop :=
  (0 < i0 →
    (i0 < (65536 : Int32) →
      wpJ6_numberOfLeadingZeros_0f7a4_33 Q i0 (31 : Int32) σ) ∧
    (¬ i0 < (65536 : Int32) →
      ∀ a7 : Int32, a7 = (31 : Int32) + (-16 : Int32) →
      ∀ a8 : Int32, a8 = jushr i0 (16 : Int32) →
      wpJ6_numberOfLeadingZeros_0f7a4_33 Q a8 a7 σ)) ∧
  (¬ 0 < i0 →
    (¬ i0 = 0 →
      Q (0 : Int32) σ) ∧
    (i0 = 0 →
      Q (32 : Int32) σ))
set_option maxRecDepth 100000 in
set_option maxHeartbeats 4000000 in
theorem wJ6_numberOfLeadingZeros_0f7a4_0 {p : Program} {l : Launch} {e : Env} {s : State} {m : MethodId} {args : Array Value} {below : List Frame} {meth : Method} {c : Code} {D : va_G} {A : Nat → Prop} {g : mG} (hg : inj g) (X : cx p m meth c s args cJ6_numberOfLeadingZeros_0f7a4 2 RJ6 D (tyG g)) (hr : meth.sig.returnType = (some .int)) {Q : Int32 → CS → Prop} : ∀ (i0 : Int32) (σ : CS), wpJ6_numberOfLeadingZeros_0f7a4_0 Q i0 σ → cW p l e rmJ6_numberOfLeadingZeros_0f7a4 s m args below meth c (MQ below (va_Qi Q (fun u t => wd D A (cT g u) t.heap) A) args s 0 0 A) D A (cT g σ) 0 2 [(0, .int i0)] := by
  obtain ⟨hx, hb, hml, hown, hts, hK, hlk⟩ := id X
  intro i0 σ h H locs ls hw hS hl
  unfold wpJ6_numberOfLeadingZeros_0f7a4_0 at h
  refine lv_iload_n hx hb dJ6_numberOfLeadingZeros_0f7a4_0 rfl (lv_at hl 0 rfl) ?_
  refine lv_if_gt (tgt := 15) hx hb dJ6_numberOfLeadingZeros_0f7a4_1 (by decide) (fun hc => ?_) (fun hc => ?_)
  · replace h := h.1 hc
    refine lv_bipush (v := (31 : Int32)) hx hb dJ6_numberOfLeadingZeros_0f7a4_15 (by decide) ?_
    refine lv_istore_n (lv' := [(1, .int (31 : Int32)), (0, .int i0)]) hx hb dJ6_numberOfLeadingZeros_0f7a4_17 rfl hl (by decide) rfl (fun ls hl => ?_)
    refine lv_iload_n hx hb dJ6_numberOfLeadingZeros_0f7a4_18 rfl (lv_at hl 1 rfl) ?_
    refine lv_ldcw (v := (65536 : Int32)) hx hb hown (hts _ mw_364) dJ6_numberOfLeadingZeros_0f7a4_19 ?_
    refine lv_icmp_lt (tgt := 33) hx hb dJ6_numberOfLeadingZeros_0f7a4_22 (by decide) (fun hc => ?_) (fun hc => ?_)
    · replace h := h.1 hc
      exact wJ6_numberOfLeadingZeros_0f7a4_33 hg X hr i0 (31 : Int32) _ h H locs ls hw hS (lv_sub hl [1, 0] rfl)
    · replace h := h.2 hc
      obtain ⟨a7, ea7⟩ : ∃ z : Int32, z = (31 : Int32) + (-16 : Int32) := ⟨_, rfl⟩
      replace h := h a7 ea7
      refine lv_iinc (v := a7) (lv' := [(1, .int a7), (0, .int i0)]) hx hb dJ6_numberOfLeadingZeros_0f7a4_25 hl (k := 0) rfl (by rw [ea7]; rfl) (by decide) rfl (fun ls hl => ?_)
      refine lv_iload_n hx hb dJ6_numberOfLeadingZeros_0f7a4_28 rfl (lv_at hl 1 rfl) ?_
      refine lv_bipush (v := (16 : Int32)) hx hb dJ6_numberOfLeadingZeros_0f7a4_29 (by decide) ?_
      refine lv_iushr (v := jushr i0 (16 : Int32)) hx hb dJ6_numberOfLeadingZeros_0f7a4_31 rfl ?_
      refine lv_topi (fun a8 ea8 => ?_)
      replace h := h a8 ea8
      refine lv_istore_n (lv' := [(0, .int a8), (1, .int a7)]) hx hb dJ6_numberOfLeadingZeros_0f7a4_32 rfl hl (by decide) rfl (fun ls hl => ?_)
      exact wJ6_numberOfLeadingZeros_0f7a4_33 hg X hr a8 a7 _ h H locs ls hw hS (lv_sub hl [0, 1] rfl)
  · replace h := h.2 hc
    refine lv_iload_n hx hb dJ6_numberOfLeadingZeros_0f7a4_4 rfl (lv_at hl 0 rfl) ?_
    refine lv_if_ne (tgt := 13) hx hb dJ6_numberOfLeadingZeros_0f7a4_5 (by decide) (fun hc => ?_) (fun hc => ?_)
    · replace h := h.1 hc
      refine lv_iconst (v := (0 : Int32)) hx hb dJ6_numberOfLeadingZeros_0f7a4_13 (by decide) ?_
      exact m_iret X hr hw hS h dJ6_numberOfLeadingZeros_0f7a4_14
    · replace h := h.2 hc
      refine lv_bipush (v := (32 : Int32)) hx hb dJ6_numberOfLeadingZeros_0f7a4_8 (by decide) ?_
      refine lv_goto (tgt := 14) hx hb dJ6_numberOfLeadingZeros_0f7a4_10 (by decide) ?_
      exact m_iret X hr hw hS h dJ6_numberOfLeadingZeros_0f7a4_14
def wpJ6_numberOfLeadingZeros_0f7a4 (x1 : Int32) (σ : CS) (Q : Int32 → CS → Prop) : Prop := wpJ6_numberOfLeadingZeros_0f7a4_0 Q x1 σ
theorem kJ6_numberOfLeadingZeros_0f7a4 {l : Launch} {D : va_G} {A : Nat → Prop} {g : mG} (hg : inj g) {x1 : Int32} {σ : CS} {Q : Int32 → CS → Prop} (h : wpJ6_numberOfLeadingZeros_0f7a4 x1 σ Q) : Met l yJ6_numberOfLeadingZeros_0f7a4 (Cond.code yJ6_numberOfLeadingZeros_0f7a4 cJ6_numberOfLeadingZeros_0f7a4 2 (some .int) :: wsA) rmJ6_numberOfLeadingZeros_0f7a4 (mPc D (tyG g) A (cT g σ) [.int x1]) (va_Qi Q (fun u t => wd D A (cT g u) t.heap) A) 0 0 A :=
  m_met (by decide +kernel) (Nat.le_of_ble_eq_true rfl) (fun p e s m below meth c X hr H locs ls hw hS hl => wJ6_numberOfLeadingZeros_0f7a4_0 hg X hr x1 σ h H locs ls hw hS (lv_sub hl [0] rfl))
theorem fJ6_numberOfLeadingZeros_0f7a4 : sfit yJ6_numberOfLeadingZeros_0f7a4 cJ6_numberOfLeadingZeros_0f7a4 2 (some .int) 1 := ⟨mw_361, mw_362, mw_363, by decide +kernel, by decide +kernel, by decide +kernel⟩
end
section
/-! BigPolys$Whole.trim()V -/
def rmX3_trim : Room := { frames := 0, cells := 0, slots := 0, locals := 0 }
def wpX3_trim_34 (w0 : Nat) (Q : CS → Prop) (σ : CS) : Prop :=
  (¬ (cS σ w0) = 0 →
    Q σ) ∧
  ((cS σ w0) = 0 →
    Q (sG σ w0 (0 : Int32)))
set_option maxRecDepth 100000 in
set_option maxHeartbeats 4000000 in
theorem wX3_trim_34 {p : Program} {l : Launch} {e : Env} {s : State} {m : MethodId} {args : Array Value} {below : List Frame} {meth : Method} {c : Code} {D : va_G} {A : Nat → Prop} {g : mG} (hg : inj g) {w0 : Nat} (hw0 : okW w0) (X : cx p m meth c s args cX3_trim 1 RX3 D (tyG g)) (hr : meth.sig.returnType = none) {Q : CS → Prop} : ∀ (σ : CS), wpX3_trim_34 w0 Q σ → cW p l e rmX3_trim s m args below meth c (MQ below (va_Qv Q (fun u t => wd D A (cT g u) t.heap) A) args s 0 0 A) D A (cT g σ) 34 1 [(0, .ref (g.1 (4 * w0)))] := by
  obtain ⟨hx, hb, hml, hown, hts, hK, hlk⟩ := id X
  intro σ h H locs ls hw hS hl
  unfold wpX3_trim_34 at h
  refine lv_aload_n hx hb dX3_trim_34 rfl (lv_at hl 0 rfl) ?_
  refine m_get (v := .int (cS σ w0)) X hw (tW hw0) rfl inA_X3 1 (by decide) mw_100 rfl dX3_trim_35 ?_
  refine lv_if_ne (tgt := 46) hx hb dX3_trim_38 (by decide) (fun hc => ?_) (fun hc => ?_)
  · replace h := h.1 hc
    exact m_vret X hr hw hS h dX3_trim_46
  · replace h := h.2 hc
    refine lv_aload_n hx hb dX3_trim_41 rfl (lv_at hl 0 rfl) ?_
    refine lv_iconst (v := (0 : Int32)) hx hb dX3_trim_42 (by decide) ?_
    refine m_put (T' := cT g (sG σ w0 (0 : Int32))) X hw hS (tW hw0) rfl inA_X3 tyX3 tyX3_ok nmX3 2 (by decide) mw_101 rfl pd_I (Nat.le_of_ble_eq_true rfl) (uG hg) dX3_trim_43 (fun H locs hw hS => ?_)
    exact m_vret X hr hw hS h dX3_trim_46
def wbX3_trim_0 (w0 : Nat) (Q : CS → Prop) (N0 : CS → Prop) (σ : CS) : Prop :=
  ((cS σ w0) ≤ 0 →
    wpX3_trim_34 w0 Q σ) ∧
  (¬ (cS σ w0) ≤ 0 →
    vp_in ((cS σ w0) - (1 : Int32)) (capW w0) ∧ (
    (¬ (cF σ w0 ((cS σ w0) - (1 : Int32)).toNatClampNeg) = 0 →
      wpX3_trim_34 w0 Q σ) ∧
    ((cF σ w0 ((cS σ w0) - (1 : Int32)).toNatClampNeg) = 0 →
      N0 (sS σ w0 ((cS σ w0) - (1 : Int32))))))
set_option maxRecDepth 100000 in
set_option maxHeartbeats 4000000 in
theorem wX3_trim_0 {p : Program} {l : Launch} {e : Env} {s : State} {m : MethodId} {args : Array Value} {below : List Frame} {meth : Method} {c : Code} {D : va_G} {A : Nat → Prop} {g : mG} (hg : inj g) {w0 : Nat} (hw0 : okW w0) (X : cx p m meth c s args cX3_trim 1 RX3 D (tyG g)) (hr : meth.sig.returnType = none) {Q : CS → Prop} : ∀ (n : Nat) (σ : CS), lq1 (wbX3_trim_0 w0 Q) n σ → cW p l e rmX3_trim s m args below meth c (MQ below (va_Qv Q (fun u t => wd D A (cT g u) t.heap) A) args s 0 0 A) D A (cT g σ) 0 1 [(0, .ref (g.1 (4 * w0)))] := by
  obtain ⟨hx, hb, hml, hown, hts, hK, hlk⟩ := id X
  intro n
  induction n with
  | zero =>
    intro σ h
    exact h.elim
  | succ n hN0 =>
    intro σ h H locs ls hw hS hl
    replace h : wbX3_trim_0 w0 Q (lq1 (wbX3_trim_0 w0 Q) n) σ := h
    unfold wbX3_trim_0 at h
    refine lv_aload_n hx hb dX3_trim_0 rfl (lv_at hl 0 rfl) ?_
    refine m_get (v := .int (cS σ w0)) X hw (tW hw0) rfl inA_X3 1 (by decide) mw_100 rfl dX3_trim_1 ?_
    refine lv_if_le (tgt := 34) hx hb dX3_trim_4 (by decide) (fun hc => ?_) (fun hc => ?_)
    · replace h := h.1 hc
      exact wX3_trim_34 hg hw0 X hr _ h H locs ls hw hS (lv_sub hl [0] rfl)
    · replace h := h.2 hc
      refine lv_aload_n hx hb dX3_trim_7 rfl (lv_at hl 0 rfl) ?_
      refine m_get (v := .ref (g.1 (4 * w0 + 1))) X hw (tW hw0) rfl inA_X3 0 (by decide) mw_36 rfl dX3_trim_8 ?_
      refine lv_aload_n hx hb dX3_trim_11 rfl (lv_at hl 0 rfl) ?_
      refine m_get (v := .int (cS σ w0)) X hw (tW hw0) rfl inA_X3 1 (by decide) mw_100 rfl dX3_trim_12 ?_
      refine lv_iconst (v := (1 : Int32)) hx hb dX3_trim_15 (by decide) ?_
      refine lv_isub hx hb dX3_trim_16 ?_
      obtain ⟨hi, h⟩ := h
      refine m_iald X hw (tD hw0) 0 rfl hi dX3_trim_17 ?_
      refine lv_if_ne (tgt := 34) hx hb dX3_trim_18 (by decide) (fun hc => ?_) (fun hc => ?_)
      · replace h := h.1 hc
        exact wX3_trim_34 hg hw0 X hr _ h H locs ls hw hS (lv_sub hl [0] rfl)
      · replace h := h.2 hc
        refine lv_aload_n hx hb dX3_trim_21 rfl (lv_at hl 0 rfl) ?_
        refine lv_dup hx hb dX3_trim_22 rfl ?_
        refine m_get (v := .int (cS σ w0)) X hw (tW hw0) rfl inA_X3 1 (by decide) mw_100 rfl dX3_trim_23 ?_
        refine lv_iconst (v := (1 : Int32)) hx hb dX3_trim_26 (by decide) ?_
        refine lv_isub hx hb dX3_trim_27 ?_
        refine m_put (T' := cT g (sS σ w0 ((cS σ w0) - (1 : Int32)))) X hw hS (tW hw0) rfl inA_X3 tyX3 tyX3_ok nmX3 1 (by decide) mw_100 rfl pd_I (Nat.le_of_ble_eq_true rfl) (uS hg) dX3_trim_28 (fun H locs hw hS => ?_)
        refine lv_goto (tgt := 0) hx hb dX3_trim_31 (by decide) ?_
        exact hN0 _ h H locs ls hw hS (lv_sub hl [0] rfl)
def wpX3_trim (w0 : Nat) (σ : CS) (Q : CS → Prop) : Prop := ∃ n, lq1 (wbX3_trim_0 w0 Q) n σ
theorem kX3_trim {l : Launch} {D : va_G} {A : Nat → Prop} {g : mG} (hg : inj g) {w0 : Nat} (hw0 : okW w0) {σ : CS} {Q : CS → Prop} (h : wpX3_trim w0 σ Q) : Met l yX3_trim (Cond.code yX3_trim cX3_trim 1 none :: wsA) rmX3_trim (mPc D (tyG g) A (cT g σ) [.ref (g.1 (4 * w0))]) (va_Qv Q (fun u t => wd D A (cT g u) t.heap) A) 0 0 A :=
  m_met (by decide +kernel) (Nat.le_of_ble_eq_true rfl) (fun p e s m below meth c X hr => h.elim (fun n h H locs ls hw hS hl => wX3_trim_0 hg hw0 X hr n σ h H locs ls hw hS (lv_sub hl [0] rfl)))
theorem fX3_trim : vfit yX3_trim cX3_trim 1 none 0 := ⟨mw_192, mw_193, mw_29, mw_194, by decide +kernel, by decide +kernel, by decide +kernel⟩
/-! BigPolys$Whole.clear()V -/
def rmX3_clear : Room := { frames := 0, cells := 0, slots := 0, locals := 0 }
def wpX3_clear_0 (w0 : Nat) (Q : CS → Prop) (σ : CS) : Prop :=
  Q (sG (sS σ w0 (0 : Int32)) w0 (0 : Int32))
set_option maxRecDepth 100000 in
set_option maxHeartbeats 4000000 in
theorem wX3_clear_0 {p : Program} {l : Launch} {e : Env} {s : State} {m : MethodId} {args : Array Value} {below : List Frame} {meth : Method} {c : Code} {D : va_G} {A : Nat → Prop} {g : mG} (hg : inj g) {w0 : Nat} (hw0 : okW w0) (X : cx p m meth c s args cX3_clear 1 RX3 D (tyG g)) (hr : meth.sig.returnType = none) {Q : CS → Prop} : ∀ (σ : CS), wpX3_clear_0 w0 Q σ → cW p l e rmX3_clear s m args below meth c (MQ below (va_Qv Q (fun u t => wd D A (cT g u) t.heap) A) args s 0 0 A) D A (cT g σ) 0 1 [(0, .ref (g.1 (4 * w0)))] := by
  obtain ⟨hx, hb, hml, hown, hts, hK, hlk⟩ := id X
  intro σ h H locs ls hw hS hl
  unfold wpX3_clear_0 at h
  refine lv_aload_n hx hb dX3_clear_0 rfl (lv_at hl 0 rfl) ?_
  refine lv_iconst (v := (0 : Int32)) hx hb dX3_clear_1 (by decide) ?_
  refine m_put (T' := cT g (sS σ w0 (0 : Int32))) X hw hS (tW hw0) rfl inA_X3 tyX3 tyX3_ok nmX3 1 (by decide) mw_100 rfl pd_I (Nat.le_of_ble_eq_true rfl) (uS hg) dX3_clear_2 (fun H locs hw hS => ?_)
  refine lv_aload_n hx hb dX3_clear_5 rfl (lv_at hl 0 rfl) ?_
  refine lv_iconst (v := (0 : Int32)) hx hb dX3_clear_6 (by decide) ?_
  refine m_put (T' := cT g (sG (sS σ w0 (0 : Int32)) w0 (0 : Int32))) X hw hS (tW hw0) rfl inA_X3 tyX3 tyX3_ok nmX3 2 (by decide) mw_101 rfl pd_I (Nat.le_of_ble_eq_true rfl) (uG hg) dX3_clear_7 (fun H locs hw hS => ?_)
  exact m_vret X hr hw hS h dX3_clear_10
def wpX3_clear (w0 : Nat) (σ : CS) (Q : CS → Prop) : Prop := wpX3_clear_0 w0 Q σ
theorem kX3_clear {l : Launch} {D : va_G} {A : Nat → Prop} {g : mG} (hg : inj g) {w0 : Nat} (hw0 : okW w0) {σ : CS} {Q : CS → Prop} (h : wpX3_clear w0 σ Q) : Met l yX3_clear (Cond.code yX3_clear cX3_clear 1 none :: wsA) rmX3_clear (mPc D (tyG g) A (cT g σ) [.ref (g.1 (4 * w0))]) (va_Qv Q (fun u t => wd D A (cT g u) t.heap) A) 0 0 A :=
  m_met (by decide +kernel) (Nat.le_of_ble_eq_true rfl) (fun p e s m below meth c X hr H locs ls hw hS hl => wX3_clear_0 hg hw0 X hr σ h H locs ls hw hS (lv_sub hl [0] rfl))
theorem fX3_clear : vfit yX3_clear cX3_clear 1 none 0 := ⟨mw_97, mw_98, mw_29, mw_99, by decide +kernel, by decide +kernel, by decide +kernel⟩
/-! BigPolys$Whole.put(III)V -/
def rmX3_put : Room := { frames := 0, cells := 0, slots := 0, locals := 0 }
def wpX3_put_0 (w0 : Nat) (x1 : Int32) (x2 : Int32) (x3 : Int32) (Q : CS → Prop) (σ : CS) : Prop :=
  (x1 < 0 →
    Q σ) ∧
  (¬ x1 < 0 →
    (x1 < (Int32.ofNat (capW w0)) →
      vp_in x1 (capW w0) ∧ (
      (x2 = 0 →
        Q (sFi σ w0 x1 x2)) ∧
      (¬ x2 = 0 →
        Q (sG (sS (sFi σ w0 x1 x2) w0 (x1 + (1 : Int32))) w0 x3)))) ∧
    (¬ x1 < (Int32.ofNat (capW w0)) →
      Q σ))
set_option maxRecDepth 100000 in
set_option maxHeartbeats 4000000 in
theorem wX3_put_0 {p : Program} {l : Launch} {e : Env} {s : State} {m : MethodId} {args : Array Value} {below : List Frame} {meth : Method} {c : Code} {D : va_G} {A : Nat → Prop} {g : mG} (hg : inj g) {w0 : Nat} {x1 : Int32} {x2 : Int32} {x3 : Int32} (hw0 : okW w0) (X : cx p m meth c s args cX3_put 4 RX3 D (tyG g)) (hr : meth.sig.returnType = none) {Q : CS → Prop} : ∀ (σ : CS), wpX3_put_0 w0 x1 x2 x3 Q σ → cW p l e rmX3_put s m args below meth c (MQ below (va_Qv Q (fun u t => wd D A (cT g u) t.heap) A) args s 0 0 A) D A (cT g σ) 0 4 [(0, .ref (g.1 (4 * w0))), (1, .int x1), (2, .int x2), (3, .int x3)] := by
  obtain ⟨hx, hb, hml, hown, hts, hK, hlk⟩ := id X
  intro σ h H locs ls hw hS hl
  unfold wpX3_put_0 at h
  refine lv_iload_n hx hb dX3_put_0 rfl (lv_at hl 1 rfl) ?_
  refine lv_if_lt (tgt := 13) hx hb dX3_put_1 (by decide) (fun hc => ?_) (fun hc => ?_)
  · replace h := h.1 hc
    exact m_vret X hr hw hS h dX3_put_13
  · replace h := h.2 hc
    refine lv_iload_n hx hb dX3_put_4 rfl (lv_at hl 1 rfl) ?_
    refine lv_aload_n hx hb dX3_put_5 rfl (lv_at hl 0 rfl) ?_
    refine m_get (v := .ref (g.1 (4 * w0 + 1))) X hw (tW hw0) rfl inA_X3 0 (by decide) mw_36 rfl dX3_put_6 ?_
    refine m_alen (v := Int32.ofNat (capW w0)) X hw (tD hw0) 0 rfl rfl dX3_put_9 ?_
    refine lv_icmp_lt (tgt := 14) hx hb dX3_put_10 (by decide) (fun hc => ?_) (fun hc => ?_)
    · replace h := h.1 hc
      refine lv_aload_n hx hb dX3_put_14 rfl (lv_at hl 0 rfl) ?_
      refine m_get (v := .ref (g.1 (4 * w0 + 1))) X hw (tW hw0) rfl inA_X3 0 (by decide) mw_36 rfl dX3_put_15 ?_
      refine lv_iload_n hx hb dX3_put_18 rfl (lv_at hl 1 rfl) ?_
      refine lv_iload_n hx hb dX3_put_19 rfl (lv_at hl 2 rfl) ?_
      obtain ⟨hi, h⟩ := h
      refine m_iast (T' := cT g (sFi σ w0 x1 x2)) X hw hS (tD hw0) 0 rfl hi (uF hg) dX3_put_20 (fun H locs hw hS => ?_)
      refine lv_iload_n hx hb dX3_put_21 rfl (lv_at hl 2 rfl) ?_
      refine lv_if_eq (tgt := 37) hx hb dX3_put_22 (by decide) (fun hc => ?_) (fun hc => ?_)
      · replace h := h.1 hc
        exact m_vret X hr hw hS h dX3_put_37
      · replace h := h.2 hc
        refine lv_aload_n hx hb dX3_put_25 rfl (lv_at hl 0 rfl) ?_
        refine lv_iload_n hx hb dX3_put_26 rfl (lv_at hl 1 rfl) ?_
        refine lv_iconst (v := (1 : Int32)) hx hb dX3_put_27 (by decide) ?_
        refine lv_iadd hx hb dX3_put_28 ?_
        refine m_put (T' := cT g (sS (sFi σ w0 x1 x2) w0 (x1 + (1 : Int32)))) X hw hS (tW hw0) rfl inA_X3 tyX3 tyX3_ok nmX3 1 (by decide) mw_100 rfl pd_I (Nat.le_of_ble_eq_true rfl) (uS hg) dX3_put_29 (fun H locs hw hS => ?_)
        refine lv_aload_n hx hb dX3_put_32 rfl (lv_at hl 0 rfl) ?_
        refine lv_iload_n hx hb dX3_put_33 rfl (lv_at hl 3 rfl) ?_
        refine m_put (T' := cT g (sG (sS (sFi σ w0 x1 x2) w0 (x1 + (1 : Int32))) w0 x3)) X hw hS (tW hw0) rfl inA_X3 tyX3 tyX3_ok nmX3 2 (by decide) mw_101 rfl pd_I (Nat.le_of_ble_eq_true rfl) (uG hg) dX3_put_34 (fun H locs hw hS => ?_)
        exact m_vret X hr hw hS h dX3_put_37
    · replace h := h.2 hc
      exact m_vret X hr hw hS h dX3_put_13
def wpX3_put (w0 : Nat) (x1 : Int32) (x2 : Int32) (x3 : Int32) (σ : CS) (Q : CS → Prop) : Prop := wpX3_put_0 w0 x1 x2 x3 Q σ
theorem kX3_put {l : Launch} {D : va_G} {A : Nat → Prop} {g : mG} (hg : inj g) {w0 : Nat} {x1 : Int32} {x2 : Int32} {x3 : Int32} (hw0 : okW w0) {σ : CS} {Q : CS → Prop} (h : wpX3_put w0 x1 x2 x3 σ Q) : Met l yX3_put (Cond.code yX3_put cX3_put 4 none :: wsA) rmX3_put (mPc D (tyG g) A (cT g σ) [.ref (g.1 (4 * w0)), .int x1, .int x2, .int x3]) (va_Qv Q (fun u t => wd D A (cT g u) t.heap) A) 0 0 A :=
  m_met (by decide +kernel) (Nat.le_of_ble_eq_true rfl) (fun p e s m below meth c X hr H locs ls hw hS hl => wX3_put_0 hg hw0 X hr σ h H locs ls hw hS (lv_sub hl [0, 1, 2, 3] rfl))
theorem fX3_put : vfit yX3_put cX3_put 4 none 3 := ⟨mw_135, mw_136, mw_29, mw_137, by decide +kernel, by decide +kernel, by decide +kernel⟩
/-! BigPolys$Whole.setOne()V -/
def rmX3_setOne : Room := { frames := 1, cells := 0, slots := 0, locals := 23 }
def wpX3_setOne_0 (w0 : Nat) (Q : CS → Prop) (σ : CS) : Prop :=
  wpX3_clear w0 σ (fun (σ2 : CS) =>
    wpX3_put w0 (0 : Int32) (1 : Int32) (1 : Int32) σ2 (fun (σ4 : CS) =>
      Q σ4))
set_option maxRecDepth 100000 in
set_option maxHeartbeats 4000000 in
theorem wX3_setOne_0 {p : Program} {l : Launch} {e : Env} {s : State} {m : MethodId} {args : Array Value} {below : List Frame} {meth : Method} {c : Code} {D : va_G} {A : Nat → Prop} {g : mG} (hg : inj g) {w0 : Nat} (hw0 : okW w0) (X : cx p m meth c s args cX3_setOne 1 RX3 D (tyG g)) (hr : meth.sig.returnType = none) {Q : CS → Prop} : ∀ (σ : CS), wpX3_setOne_0 w0 Q σ → cW p l e rmX3_setOne s m args below meth c (MQ below (va_Qv Q (fun u t => wd D A (cT g u) t.heap) A) args s 0 0 A) D A (cT g σ) 0 1 [(0, .ref (g.1 (4 * w0)))] := by
  obtain ⟨hx, hb, hml, hown, hts, hK, hlk⟩ := id X
  intro σ h H locs ls hw hS hl
  unfold wpX3_setOne_0 at h
  refine lv_aload_n hx hb dX3_setOne_0 rfl (lv_at hl 0 rfl) ?_
  refine m_cVv (TT := cT g) (As := []) (rest := []) X hl.1 hw hS (kX3_clear hg hw0 h) mw_291 fX3_clear (tW hw0) rfl rfl ⟨rfl, rfl, Nat.le_of_ble_eq_true rfl, Nat.le_of_ble_eq_true rfl⟩ rfl rfl (Nat.le_of_ble_eq_true rfl) dX3_setOne_1 (fun σ2 H locs h hw hS => ?_)
  refine lv_aload_n hx hb dX3_setOne_4 rfl (lv_at hl 0 rfl) ?_
  refine lv_iconst (v := (0 : Int32)) hx hb dX3_setOne_5 (by decide) ?_
  refine lv_iconst (v := (1 : Int32)) hx hb dX3_setOne_6 (by decide) ?_
  refine lv_iconst (v := (1 : Int32)) hx hb dX3_setOne_7 (by decide) ?_
  refine m_cVv (TT := cT g) (As := [.int (0 : Int32), .int (1 : Int32), .int (1 : Int32)]) (rest := []) X hl.1 hw hS (kX3_put hg hw0 h) mw_434 fX3_put (tW hw0) rfl rfl ⟨rfl, rfl, Nat.le_of_ble_eq_true rfl, Nat.le_of_ble_eq_true rfl⟩ rfl rfl (Nat.le_of_ble_eq_true rfl) dX3_setOne_8 (fun σ4 H locs h hw hS => ?_)
  exact m_vret X hr hw hS h dX3_setOne_11
def wpX3_setOne (w0 : Nat) (σ : CS) (Q : CS → Prop) : Prop := wpX3_setOne_0 w0 Q σ
theorem kX3_setOne {l : Launch} {D : va_G} {A : Nat → Prop} {g : mG} (hg : inj g) {w0 : Nat} (hw0 : okW w0) {σ : CS} {Q : CS → Prop} (h : wpX3_setOne w0 σ Q) : Met l yX3_setOne (Cond.code yX3_setOne cX3_setOne 1 none :: wsA) rmX3_setOne (mPc D (tyG g) A (cT g σ) [.ref (g.1 (4 * w0))]) (va_Qv Q (fun u t => wd D A (cT g u) t.heap) A) 0 0 A :=
  m_met (by decide +kernel) (Nat.le_of_ble_eq_true rfl) (fun p e s m below meth c X hr H locs ls hw hS hl => wX3_setOne_0 hg hw0 X hr σ h H locs ls hw hS (lv_sub hl [0] rfl))
theorem fX3_setOne : vfit yX3_setOne cX3_setOne 1 none 0 := ⟨mw_431, mw_432, mw_29, mw_433, by decide +kernel, by decide +kernel, by decide +kernel⟩
/-! BigPolys$Whole.load(LBigPolys$Whole;)V -/
def rmX3_load : Room := { frames := 1, cells := 0, slots := 0, locals := 40 }
def wpX3_load_0 (w0 : Nat) (w1 : Nat) (Q : CS → Prop) (σ : CS) : Prop :=
  ∀ a1 : Int32, a1 = (if (Int32.ofNat (capW w0)) < (cS σ w1) then (Int32.ofNat (capW w0)) else (cS σ w1)) →
  ¬ (0 : Int32) < 0 ∧ ¬ (0 : Int32) < 0 ∧ ¬ (cS (sG (sS σ w0 a1) w0 (cG (sS σ w0 a1) w1)) w0) < 0 ∧ (0 : Int32).toNatClampNeg + (cS (sG (sS σ w0 a1) w0 (cG (sS σ w0 a1) w1)) w0).toNatClampNeg ≤ capW w1 ∧ (0 : Int32).toNatClampNeg + (cS (sG (sS σ w0 a1) w0 (cG (sS σ w0 a1) w1)) w0).toNatClampNeg ≤ capW w0 ∧ (
  wpX3_trim w0 (sF (sG (sS σ w0 a1) w0 (cG (sS σ w0 a1) w1)) w0 (va_cpy (cF (sG (sS σ w0 a1) w0 (cG (sS σ w0 a1) w1)) w1) (cF (sG (sS σ w0 a1) w0 (cG (sS σ w0 a1) w1)) w0) (0 : Int32).toNatClampNeg (0 : Int32).toNatClampNeg (cS (sG (sS σ w0 a1) w0 (cG (sS σ w0 a1) w1)) w0).toNatClampNeg)) (fun (σ3 : CS) =>
    Q σ3))
set_option maxRecDepth 100000 in
set_option maxHeartbeats 4000000 in
theorem wX3_load_0 {p : Program} {l : Launch} {e : Env} {s : State} {m : MethodId} {args : Array Value} {below : List Frame} {meth : Method} {c : Code} {D : va_G} {A : Nat → Prop} {g : mG} (hg : inj g) {w0 : Nat} {w1 : Nat} (hw0 : okW w0) (hw1 : okW w1) (X : cx p m meth c s args cX3_load 2 RX3 D (tyG g)) (hr : meth.sig.returnType = none) {Q : CS → Prop} : ∀ (σ : CS), wpX3_load_0 w0 w1 Q σ → cW p l e rmX3_load s m args below meth c (MQ below (va_Qv Q (fun u t => wd D A (cT g u) t.heap) A) args s 0 0 A) D A (cT g σ) 0 2 [(0, .ref (g.1 (4 * w0))), (1, .ref (g.1 (4 * w1)))] := by
  obtain ⟨hx, hb, hml, hown, hts, hK, hlk⟩ := id X
  intro σ h H locs ls hw hS hl
  unfold wpX3_load_0 at h
  refine lv_aload_n hx hb dX3_load_0 rfl (lv_at hl 0 rfl) ?_
  refine lv_aload_n hx hb dX3_load_1 rfl (lv_at hl 1 rfl) ?_
  refine m_get (v := .int (cS σ w1)) X hw (tW hw1) rfl inA_X3 1 (by decide) mw_100 rfl dX3_load_2 ?_
  refine lv_aload_n hx hb dX3_load_5 rfl (lv_at hl 0 rfl) ?_
  refine m_get (v := .ref (g.1 (4 * w0 + 1))) X hw (tW hw0) rfl inA_X3 0 (by decide) mw_36 rfl dX3_load_6 ?_
  refine m_alen (v := Int32.ofNat (capW w0)) X hw (tD hw0) 0 rfl rfl dX3_load_9 ?_
  refine va_mmin hx hb (hml.trans hl.1.symm) hown (hts _ mw_186) (hts _ mw_53) (hts _ mw_54) (hts _ mw_55) (Nat.le_of_ble_eq_true rfl) (Nat.le_of_ble_eq_true rfl) (Nat.zero_le _) (Nat.zero_le _) dX3_load_10 ?_
  refine lv_topi (fun a1 ea1 => ?_)
  replace h := h a1 ea1
  refine m_put (T' := cT g (sS σ w0 a1)) X hw hS (tW hw0) rfl inA_X3 tyX3 tyX3_ok nmX3 1 (by decide) mw_100 rfl pd_I (Nat.le_of_ble_eq_true rfl) (uS hg) dX3_load_13 (fun H locs hw hS => ?_)
  refine lv_aload_n hx hb dX3_load_16 rfl (lv_at hl 0 rfl) ?_
  refine lv_aload_n hx hb dX3_load_17 rfl (lv_at hl 1 rfl) ?_
  refine m_get (v := .int (cG (sS σ w0 a1) w1)) X hw (tW hw1) rfl inA_X3 2 (by decide) mw_101 rfl dX3_load_18 ?_
  refine m_put (T' := cT g (sG (sS σ w0 a1) w0 (cG (sS σ w0 a1) w1))) X hw hS (tW hw0) rfl inA_X3 tyX3 tyX3_ok nmX3 2 (by decide) mw_101 rfl pd_I (Nat.le_of_ble_eq_true rfl) (uG hg) dX3_load_21 (fun H locs hw hS => ?_)
  refine lv_aload_n hx hb dX3_load_24 rfl (lv_at hl 1 rfl) ?_
  refine m_get (v := .ref (g.1 (4 * w1 + 1))) X hw (tW hw1) rfl inA_X3 0 (by decide) mw_36 rfl dX3_load_25 ?_
  refine lv_iconst (v := (0 : Int32)) hx hb dX3_load_28 (by decide) ?_
  refine lv_aload_n hx hb dX3_load_29 rfl (lv_at hl 0 rfl) ?_
  refine m_get (v := .ref (g.1 (4 * w0 + 1))) X hw (tW hw0) rfl inA_X3 0 (by decide) mw_36 rfl dX3_load_30 ?_
  refine lv_iconst (v := (0 : Int32)) hx hb dX3_load_33 (by decide) ?_
  refine lv_aload_n hx hb dX3_load_34 rfl (lv_at hl 0 rfl) ?_
  refine m_get (v := .int (cS (sG (sS σ w0 a1) w0 (cG (sS σ w0 a1) w1)) w0)) X hw (tW hw0) rfl inA_X3 1 (by decide) mw_100 rfl dX3_load_35 ?_
  obtain ⟨k1, k2, k3, k4, k5, h⟩ := h
  refine m_copyi (T' := cT g (sF (sG (sS σ w0 a1) w0 (cG (sS σ w0 a1) w1)) w0 (va_cpy (cF (sG (sS σ w0 a1) w0 (cG (sS σ w0 a1) w1)) w1) (cF (sG (sS σ w0 a1) w0 (cG (sS σ w0 a1) w1)) w0) (0 : Int32).toNatClampNeg (0 : Int32).toNatClampNeg (cS (sG (sS σ w0 a1) w0 (cG (sS σ w0 a1) w1)) w0).toNatClampNeg))) X hl.1 hw hS mw_187 mw_188 mw_189 mw_190 (tD hw1) (tD hw0) 0 rfl k1 k2 k3 k4 k5 (Nat.le_of_ble_eq_true rfl) (Nat.le_of_ble_eq_true rfl) (uF hg) dX3_load_38 (fun H locs hw hS => ?_)
  refine lv_aload_n hx hb dX3_load_41 rfl (lv_at hl 0 rfl) ?_
  refine m_cVv (TT := cT g) (As := []) (rest := []) X hl.1 hw hS (kX3_trim hg hw0 h) mw_191 fX3_trim (tW hw0) rfl rfl ⟨rfl, rfl, Nat.le_of_ble_eq_true rfl, Nat.le_of_ble_eq_true rfl⟩ rfl rfl (Nat.le_of_ble_eq_true rfl) dX3_load_42 (fun σ3 H locs h hw hS => ?_)
  exact m_vret X hr hw hS h dX3_load_45
def wpX3_load (w0 : Nat) (w1 : Nat) (σ : CS) (Q : CS → Prop) : Prop := wpX3_load_0 w0 w1 Q σ
theorem kX3_load {l : Launch} {D : va_G} {A : Nat → Prop} {g : mG} (hg : inj g) {w0 : Nat} {w1 : Nat} (hw0 : okW w0) (hw1 : okW w1) {σ : CS} {Q : CS → Prop} (h : wpX3_load w0 w1 σ Q) : Met l yX3_load (Cond.code yX3_load cX3_load 2 none :: wsA) rmX3_load (mPc D (tyG g) A (cT g σ) [.ref (g.1 (4 * w0)), .ref (g.1 (4 * w1))]) (va_Qv Q (fun u t => wd D A (cT g u) t.heap) A) 0 0 A :=
  m_met (by decide +kernel) (Nat.le_of_ble_eq_true rfl) (fun p e s m below meth c X hr H locs ls hw hS hl => wX3_load_0 hg hw0 hw1 X hr σ h H locs ls hw hS (lv_sub hl [0, 1] rfl))
theorem fX3_load : vfit yX3_load cX3_load 2 none 1 := ⟨mw_183, mw_184, mw_29, mw_185, by decide +kernel, by decide +kernel, by decide +kernel⟩
/-! BigPolys$Whole.negate()V -/
def rmX3_negate : Room := { frames := 0, cells := 0, slots := 0, locals := 0 }
def wpX3_negate_0 (w0 : Nat) (Q : CS → Prop) (σ : CS) : Prop :=
  Q (sG σ w0 (-(cG σ w0)))
set_option maxRecDepth 100000 in
set_option maxHeartbeats 4000000 in
theorem wX3_negate_0 {p : Program} {l : Launch} {e : Env} {s : State} {m : MethodId} {args : Array Value} {below : List Frame} {meth : Method} {c : Code} {D : va_G} {A : Nat → Prop} {g : mG} (hg : inj g) {w0 : Nat} (hw0 : okW w0) (X : cx p m meth c s args cX3_negate 1 RX3 D (tyG g)) (hr : meth.sig.returnType = none) {Q : CS → Prop} : ∀ (σ : CS), wpX3_negate_0 w0 Q σ → cW p l e rmX3_negate s m args below meth c (MQ below (va_Qv Q (fun u t => wd D A (cT g u) t.heap) A) args s 0 0 A) D A (cT g σ) 0 1 [(0, .ref (g.1 (4 * w0)))] := by
  obtain ⟨hx, hb, hml, hown, hts, hK, hlk⟩ := id X
  intro σ h H locs ls hw hS hl
  unfold wpX3_negate_0 at h
  refine lv_aload_n hx hb dX3_negate_0 rfl (lv_at hl 0 rfl) ?_
  refine lv_aload_n hx hb dX3_negate_1 rfl (lv_at hl 0 rfl) ?_
  refine m_get (v := .int (cG σ w0)) X hw (tW hw0) rfl inA_X3 2 (by decide) mw_101 rfl dX3_negate_2 ?_
  refine lv_ineg hx hb dX3_negate_5 ?_
  refine m_put (T' := cT g (sG σ w0 (-(cG σ w0)))) X hw hS (tW hw0) rfl inA_X3 tyX3 tyX3_ok nmX3 2 (by decide) mw_101 rfl pd_I (Nat.le_of_ble_eq_true rfl) (uG hg) dX3_negate_6 (fun H locs hw hS => ?_)
  exact m_vret X hr hw hS h dX3_negate_9
def wpX3_negate (w0 : Nat) (σ : CS) (Q : CS → Prop) : Prop := wpX3_negate_0 w0 Q σ
theorem kX3_negate {l : Launch} {D : va_G} {A : Nat → Prop} {g : mG} (hg : inj g) {w0 : Nat} (hw0 : okW w0) {σ : CS} {Q : CS → Prop} (h : wpX3_negate w0 σ Q) : Met l yX3_negate (Cond.code yX3_negate cX3_negate 1 none :: wsA) rmX3_negate (mPc D (tyG g) A (cT g σ) [.ref (g.1 (4 * w0))]) (va_Qv Q (fun u t => wd D A (cT g u) t.heap) A) 0 0 A :=
  m_met (by decide +kernel) (Nat.le_of_ble_eq_true rfl) (fun p e s m below meth c X hr H locs ls hw hS hl => wX3_negate_0 hg hw0 X hr σ h H locs ls hw hS (lv_sub hl [0] rfl))
theorem fX3_negate : vfit yX3_negate cX3_negate 1 none 0 := ⟨mw_328, mw_329, mw_29, mw_330, by decide +kernel, by decide +kernel, by decide +kernel⟩
/-! BigPolys$Whole.isUnit()Z -/
def rmX3_isUnit : Room := { frames := 0, cells := 0, slots := 0, locals := 0 }
def wpX3_isUnit_22 (w0 : Nat) (Q : Int32 → CS → Prop) (σ : CS) : Prop :=
  Q (0 : Int32) σ
set_option maxRecDepth 100000 in
set_option maxHeartbeats 4000000 in
theorem wX3_isUnit_22 {p : Program} {l : Launch} {e : Env} {s : State} {m : MethodId} {args : Array Value} {below : List Frame} {meth : Method} {c : Code} {D : va_G} {A : Nat → Prop} {g : mG} (hg : inj g) {w0 : Nat} (hw0 : okW w0) (X : cx p m meth c s args cX3_isUnit 1 RX3 D (tyG g)) (hr : meth.sig.returnType = (some .boolean)) {Q : Int32 → CS → Prop} : ∀ (σ : CS), wpX3_isUnit_22 w0 Q σ → cW p l e rmX3_isUnit s m args below meth c (MQ below (va_Qi Q (fun u t => wd D A (cT g u) t.heap) A) args s 0 0 A) D A (cT g σ) 22 1 [(0, .ref (g.1 (4 * w0)))] := by
  obtain ⟨hx, hb, hml, hown, hts, hK, hlk⟩ := id X
  intro σ h H locs ls hw hS hl
  unfold wpX3_isUnit_22 at h
  refine lv_iconst (v := (0 : Int32)) hx hb dX3_isUnit_22 (by decide) ?_
  exact m_zret X hr rfl hw hS h dX3_isUnit_23
def wpX3_isUnit_0 (w0 : Nat) (Q : Int32 → CS → Prop) (σ : CS) : Prop :=
  (¬ (cS σ w0) = (1 : Int32) →
    wpX3_isUnit_22 w0 Q σ) ∧
  ((cS σ w0) = (1 : Int32) →
    vp_in (0 : Int32) (capW w0) ∧ (
    (¬ (cF σ w0 (0 : Int32).toNatClampNeg) = (1 : Int32) →
      wpX3_isUnit_22 w0 Q σ) ∧
    ((cF σ w0 (0 : Int32).toNatClampNeg) = (1 : Int32) →
      Q (1 : Int32) σ)))
set_option maxRecDepth 100000 in
set_option maxHeartbeats 4000000 in
theorem wX3_isUnit_0 {p : Program} {l : Launch} {e : Env} {s : State} {m : MethodId} {args : Array Value} {below : List Frame} {meth : Method} {c : Code} {D : va_G} {A : Nat → Prop} {g : mG} (hg : inj g) {w0 : Nat} (hw0 : okW w0) (X : cx p m meth c s args cX3_isUnit 1 RX3 D (tyG g)) (hr : meth.sig.returnType = (some .boolean)) {Q : Int32 → CS → Prop} : ∀ (σ : CS), wpX3_isUnit_0 w0 Q σ → cW p l e rmX3_isUnit s m args below meth c (MQ below (va_Qi Q (fun u t => wd D A (cT g u) t.heap) A) args s 0 0 A) D A (cT g σ) 0 1 [(0, .ref (g.1 (4 * w0)))] := by
  obtain ⟨hx, hb, hml, hown, hts, hK, hlk⟩ := id X
  intro σ h H locs ls hw hS hl
  unfold wpX3_isUnit_0 at h
  refine lv_aload_n hx hb dX3_isUnit_0 rfl (lv_at hl 0 rfl) ?_
  refine m_get (v := .int (cS σ w0)) X hw (tW hw0) rfl inA_X3 1 (by decide) mw_100 rfl dX3_isUnit_1 ?_
  refine lv_iconst (v := (1 : Int32)) hx hb dX3_isUnit_4 (by decide) ?_
  refine lv_icmp_ne (tgt := 22) hx hb dX3_isUnit_5 (by decide) (fun hc => ?_) (fun hc => ?_)
  · replace h := h.1 hc
    exact wX3_isUnit_22 hg hw0 X hr _ h H locs ls hw hS (lv_sub hl [0] rfl)
  · replace h := h.2 hc
    refine lv_aload_n hx hb dX3_isUnit_8 rfl (lv_at hl 0 rfl) ?_
    refine m_get (v := .ref (g.1 (4 * w0 + 1))) X hw (tW hw0) rfl inA_X3 0 (by decide) mw_36 rfl dX3_isUnit_9 ?_
    refine lv_iconst (v := (0 : Int32)) hx hb dX3_isUnit_12 (by decide) ?_
    obtain ⟨hi, h⟩ := h
    refine m_iald X hw (tD hw0) 0 rfl hi dX3_isUnit_13 ?_
    refine lv_iconst (v := (1 : Int32)) hx hb dX3_isUnit_14 (by decide) ?_
    refine lv_icmp_ne (tgt := 22) hx hb dX3_isUnit_15 (by decide) (fun hc => ?_) (fun hc => ?_)
    · replace h := h.1 hc
      exact wX3_isUnit_22 hg hw0 X hr _ h H locs ls hw hS (lv_sub hl [0] rfl)
    · replace h := h.2 hc
      refine lv_iconst (v := (1 : Int32)) hx hb dX3_isUnit_18 (by decide) ?_
      refine lv_goto (tgt := 23) hx hb dX3_isUnit_19 (by decide) ?_
      exact m_zret X hr rfl hw hS h dX3_isUnit_23
def wpX3_isUnit (w0 : Nat) (σ : CS) (Q : Int32 → CS → Prop) : Prop := wpX3_isUnit_0 w0 Q σ
theorem kX3_isUnit {l : Launch} {D : va_G} {A : Nat → Prop} {g : mG} (hg : inj g) {w0 : Nat} (hw0 : okW w0) {σ : CS} {Q : Int32 → CS → Prop} (h : wpX3_isUnit w0 σ Q) : Met l yX3_isUnit (Cond.code yX3_isUnit cX3_isUnit 1 (some .boolean) :: wsA) rmX3_isUnit (mPc D (tyG g) A (cT g σ) [.ref (g.1 (4 * w0))]) (va_Qi Q (fun u t => wd D A (cT g u) t.heap) A) 0 0 A :=
  m_met (by decide +kernel) (Nat.le_of_ble_eq_true rfl) (fun p e s m below meth c X hr H locs ls hw hS hl => wX3_isUnit_0 hg hw0 X hr σ h H locs ls hw hS (lv_sub hl [0] rfl))
theorem fX3_isUnit : vfit yX3_isUnit cX3_isUnit 1 (some .boolean) 0 := ⟨mw_413, mw_414, mw_29, mw_415, by decide +kernel, by decide +kernel, by decide +kernel⟩
/-! BigPolys$Whole.compareAbs(LBigPolys$Whole;)I -/
def rmX3_compareAbs : Room := { frames := 0, cells := 0, slots := 0, locals := 0 }
def wbX3_compareAbs_35 (w0 : Nat) (w1 : Nat) (Q : Int32 → CS → Prop) (N35 : Int32 → CS → Prop) (i2 : Int32) (σ : CS) : Prop :=
  (i2 < 0 →
    Q (0 : Int32) σ) ∧
  (¬ i2 < 0 →
    vp_in i2 (capW w0) ∧ (
    vp_in i2 (capW w1) ∧ (
    ((cF σ w0 i2.toNatClampNeg) = (cF σ w1 i2.toNatClampNeg) →
      ∀ a1 : Int32, a1 = i2 + (-1 : Int32) →
      N35 a1 σ) ∧
    (¬ (cF σ w0 i2.toNatClampNeg) = (cF σ w1 i2.toNatClampNeg) →
      vp_in i2 (capW w0) ∧ (
      vp_in i2 (capW w1) ∧ (
      ((cF σ w1 i2.toNatClampNeg) ≤ (cF σ w0 i2.toNatClampNeg) →
        Q (1 : Int32) σ) ∧
      (¬ (cF σ w1 i2.toNatClampNeg) ≤ (cF σ w0 i2.toNatClampNeg) →
        Q (-1 : Int32) σ)))))))
set_option maxRecDepth 100000 in
set_option maxHeartbeats 4000000 in
theorem wX3_compareAbs_35 {p : Program} {l : Launch} {e : Env} {s : State} {m : MethodId} {args : Array Value} {below : List Frame} {meth : Method} {c : Code} {D : va_G} {A : Nat → Prop} {g : mG} (hg : inj g) {w0 : Nat} {w1 : Nat} (hw0 : okW w0) (hw1 : okW w1) (X : cx p m meth c s args cX3_compareAbs 3 RX3 D (tyG g)) (hr : meth.sig.returnType = (some .int)) {Q : Int32 → CS → Prop} : ∀ (n : Nat) (i2 : Int32) (σ : CS), lq2 (wbX3_compareAbs_35 w0 w1 Q) n i2 σ → cW p l e rmX3_compareAbs s m args below meth c (MQ below (va_Qi Q (fun u t => wd D A (cT g u) t.heap) A) args s 0 0 A) D A (cT g σ) 35 3 [(0, .ref (g.1 (4 * w0))), (1, .ref (g.1 (4 * w1))), (2, .int i2)] := by
  obtain ⟨hx, hb, hml, hown, hts, hK, hlk⟩ := id X
  intro n
  induction n with
  | zero =>
    intro i2 σ h
    exact h.elim
  | succ n hN35 =>
    intro i2 σ h H locs ls hw hS hl
    replace h : wbX3_compareAbs_35 w0 w1 Q (lq2 (wbX3_compareAbs_35 w0 w1 Q) n) i2 σ := h
    unfold wbX3_compareAbs_35 at h
    refine lv_iload_n hx hb dX3_compareAbs_35 rfl (lv_at hl 2 rfl) ?_
    refine lv_if_lt (tgt := 81) hx hb dX3_compareAbs_36 (by decide) (fun hc => ?_) (fun hc => ?_)
    · replace h := h.1 hc
      refine lv_iconst (v := (0 : Int32)) hx hb dX3_compareAbs_81 (by decide) ?_
      exact m_iret X hr hw hS h dX3_compareAbs_82
    · replace h := h.2 hc
      refine lv_aload_n hx hb dX3_compareAbs_39 rfl (lv_at hl 0 rfl) ?_
      refine m_get (v := .ref (g.1 (4 * w0 + 1))) X hw (tW hw0) rfl inA_X3 0 (by decide) mw_36 rfl dX3_compareAbs_40 ?_
      refine lv_iload_n hx hb dX3_compareAbs_43 rfl (lv_at hl 2 rfl) ?_
      obtain ⟨hi, h⟩ := h
      refine m_iald X hw (tD hw0) 0 rfl hi dX3_compareAbs_44 ?_
      refine lv_aload_n hx hb dX3_compareAbs_45 rfl (lv_at hl 1 rfl) ?_
      refine m_get (v := .ref (g.1 (4 * w1 + 1))) X hw (tW hw1) rfl inA_X3 0 (by decide) mw_36 rfl dX3_compareAbs_46 ?_
      refine lv_iload_n hx hb dX3_compareAbs_49 rfl (lv_at hl 2 rfl) ?_
      obtain ⟨hi, h⟩ := h
      refine m_iald X hw (tD hw1) 0 rfl hi dX3_compareAbs_50 ?_
      refine lv_icmp_eq (tgt := 75) hx hb dX3_compareAbs_51 (by decide) (fun hc => ?_) (fun hc => ?_)
      · replace h := h.1 hc
        obtain ⟨a1, ea1⟩ : ∃ z : Int32, z = i2 + (-1 : Int32) := ⟨_, rfl⟩
        replace h := h a1 ea1
        refine lv_iinc (v := a1) (lv' := [(2, .int a1), (0, .ref (g.1 (4 * w0))), (1, .ref (g.1 (4 * w1)))]) hx hb dX3_compareAbs_75 hl (k := 2) rfl (by rw [ea1]; rfl) (by decide) rfl (fun ls hl => ?_)
        refine lv_goto (tgt := 35) hx hb dX3_compareAbs_78 (by decide) ?_
        exact hN35 a1 _ h H locs ls hw hS (lv_sub hl [1, 2, 0] rfl)
      · replace h := h.2 hc
        refine lv_aload_n hx hb dX3_compareAbs_54 rfl (lv_at hl 0 rfl) ?_
        refine m_get (v := .ref (g.1 (4 * w0 + 1))) X hw (tW hw0) rfl inA_X3 0 (by decide) mw_36 rfl dX3_compareAbs_55 ?_
        refine lv_iload_n hx hb dX3_compareAbs_58 rfl (lv_at hl 2 rfl) ?_
        obtain ⟨hi, h⟩ := h
        refine m_iald X hw (tD hw0) 0 rfl hi dX3_compareAbs_59 ?_
        refine lv_aload_n hx hb dX3_compareAbs_60 rfl (lv_at hl 1 rfl) ?_
        refine m_get (v := .ref (g.1 (4 * w1 + 1))) X hw (tW hw1) rfl inA_X3 0 (by decide) mw_36 rfl dX3_compareAbs_61 ?_
        refine lv_iload_n hx hb dX3_compareAbs_64 rfl (lv_at hl 2 rfl) ?_
        obtain ⟨hi, h⟩ := h
        refine m_iald X hw (tD hw1) 0 rfl hi dX3_compareAbs_65 ?_
        refine lv_icmp_ge (tgt := 73) hx hb dX3_compareAbs_66 (by decide) (fun hc => ?_) (fun hc => ?_)
        · replace h := h.1 hc
          refine lv_iconst (v := (1 : Int32)) hx hb dX3_compareAbs_73 (by decide) ?_
          exact m_iret X hr hw hS h dX3_compareAbs_74
        · replace h := h.2 hc
          refine lv_iconst (v := (-1 : Int32)) hx hb dX3_compareAbs_69 (by decide) ?_
          refine lv_goto (tgt := 74) hx hb dX3_compareAbs_70 (by decide) ?_
          exact m_iret X hr hw hS h dX3_compareAbs_74
def wpX3_compareAbs_0 (w0 : Nat) (w1 : Nat) (Q : Int32 → CS → Prop) (σ : CS) : Prop :=
  ((cS σ w0) = (cS σ w1) →
    ∀ a2 : Int32, a2 = (cS σ w0) - (1 : Int32) →
    ∃ n, lq2 (wbX3_compareAbs_35 w0 w1 Q) n a2 σ) ∧
  (¬ (cS σ w0) = (cS σ w1) →
    ((cS σ w1) ≤ (cS σ w0) →
      Q (1 : Int32) σ) ∧
    (¬ (cS σ w1) ≤ (cS σ w0) →
      Q (-1 : Int32) σ))
set_option maxRecDepth 100000 in
set_option maxHeartbeats 4000000 in
theorem wX3_compareAbs_0 {p : Program} {l : Launch} {e : Env} {s : State} {m : MethodId} {args : Array Value} {below : List Frame} {meth : Method} {c : Code} {D : va_G} {A : Nat → Prop} {g : mG} (hg : inj g) {w0 : Nat} {w1 : Nat} (hw0 : okW w0) (hw1 : okW w1) (X : cx p m meth c s args cX3_compareAbs 3 RX3 D (tyG g)) (hr : meth.sig.returnType = (some .int)) {Q : Int32 → CS → Prop} : ∀ (σ : CS), wpX3_compareAbs_0 w0 w1 Q σ → cW p l e rmX3_compareAbs s m args below meth c (MQ below (va_Qi Q (fun u t => wd D A (cT g u) t.heap) A) args s 0 0 A) D A (cT g σ) 0 3 [(0, .ref (g.1 (4 * w0))), (1, .ref (g.1 (4 * w1)))] := by
  obtain ⟨hx, hb, hml, hown, hts, hK, hlk⟩ := id X
  intro σ h H locs ls hw hS hl
  unfold wpX3_compareAbs_0 at h
  refine lv_aload_n hx hb dX3_compareAbs_0 rfl (lv_at hl 0 rfl) ?_
  refine m_get (v := .int (cS σ w0)) X hw (tW hw0) rfl inA_X3 1 (by decide) mw_100 rfl dX3_compareAbs_1 ?_
  refine lv_aload_n hx hb dX3_compareAbs_4 rfl (lv_at hl 1 rfl) ?_
  refine m_get (v := .int (cS σ w1)) X hw (tW hw1) rfl inA_X3 1 (by decide) mw_100 rfl dX3_compareAbs_5 ?_
  refine lv_icmp_eq (tgt := 28) hx hb dX3_compareAbs_8 (by decide) (fun hc => ?_) (fun hc => ?_)
  · replace h := h.1 hc
    refine lv_aload_n hx hb dX3_compareAbs_28 rfl (lv_at hl 0 rfl) ?_
    refine m_get (v := .int (cS σ w0)) X hw (tW hw0) rfl inA_X3 1 (by decide) mw_100 rfl dX3_compareAbs_29 ?_
    refine lv_iconst (v := (1 : Int32)) hx hb dX3_compareAbs_32 (by decide) ?_
    refine lv_isub hx hb dX3_compareAbs_33 ?_
    refine lv_topi (fun a2 ea2 => ?_)
    replace h := h a2 ea2
    refine lv_istore_n (lv' := [(2, .int a2), (0, .ref (g.1 (4 * w0))), (1, .ref (g.1 (4 * w1)))]) hx hb dX3_compareAbs_34 rfl hl (by decide) rfl (fun ls hl => ?_)
    obtain ⟨n9, h⟩ := h
    exact wX3_compareAbs_35 hg hw0 hw1 X hr n9 a2 _ h H locs ls hw hS (lv_sub hl [1, 2, 0] rfl)
  · replace h := h.2 hc
    refine lv_aload_n hx hb dX3_compareAbs_11 rfl (lv_at hl 0 rfl) ?_
    refine m_get (v := .int (cS σ w0)) X hw (tW hw0) rfl inA_X3 1 (by decide) mw_100 rfl dX3_compareAbs_12 ?_
    refine lv_aload_n hx hb dX3_compareAbs_15 rfl (lv_at hl 1 rfl) ?_
    refine m_get (v := .int (cS σ w1)) X hw (tW hw1) rfl inA_X3 1 (by decide) mw_100 rfl dX3_compareAbs_16 ?_
    refine lv_icmp_ge (tgt := 26) hx hb dX3_compareAbs_19 (by decide) (fun hc => ?_) (fun hc => ?_)
    · replace h := h.1 hc
      refine lv_iconst (v := (1 : Int32)) hx hb dX3_compareAbs_26 (by decide) ?_
      exact m_iret X hr hw hS h dX3_compareAbs_27
    · replace h := h.2 hc
      refine lv_iconst (v := (-1 : Int32)) hx hb dX3_compareAbs_22 (by decide) ?_
      refine lv_goto (tgt := 27) hx hb dX3_compareAbs_23 (by decide) ?_
      exact m_iret X hr hw hS h dX3_compareAbs_27
def wpX3_compareAbs (w0 : Nat) (w1 : Nat) (σ : CS) (Q : Int32 → CS → Prop) : Prop := wpX3_compareAbs_0 w0 w1 Q σ
theorem kX3_compareAbs {l : Launch} {D : va_G} {A : Nat → Prop} {g : mG} (hg : inj g) {w0 : Nat} {w1 : Nat} (hw0 : okW w0) (hw1 : okW w1) {σ : CS} {Q : Int32 → CS → Prop} (h : wpX3_compareAbs w0 w1 σ Q) : Met l yX3_compareAbs (Cond.code yX3_compareAbs cX3_compareAbs 3 (some .int) :: wsA) rmX3_compareAbs (mPc D (tyG g) A (cT g σ) [.ref (g.1 (4 * w0)), .ref (g.1 (4 * w1))]) (va_Qi Q (fun u t => wd D A (cT g u) t.heap) A) 0 0 A :=
  m_met (by decide +kernel) (Nat.le_of_ble_eq_true rfl) (fun p e s m below meth c X hr H locs ls hw hS hl => wX3_compareAbs_0 hg hw0 hw1 X hr σ h H locs ls hw hS (lv_sub hl [0, 1] rfl))
theorem fX3_compareAbs : vfit yX3_compareAbs cX3_compareAbs 3 (some .int) 1 := ⟨mw_210, mw_211, mw_29, mw_212, by decide +kernel, by decide +kernel, by decide +kernel⟩
/-! BigPolys$Whole.isLike(LBigPolys$Whole;)Z -/
def rmX3_isLike : Room := { frames := 1, cells := 0, slots := 0, locals := 22 }
def wpX3_isLike_23 (w0 : Nat) (w1 : Nat) (Q : Int32 → CS → Prop) (σ : CS) : Prop :=
  Q (0 : Int32) σ
set_option maxRecDepth 100000 in
set_option maxHeartbeats 4000000 in
theorem wX3_isLike_23 {p : Program} {l : Launch} {e : Env} {s : State} {m : MethodId} {args : Array Value} {below : List Frame} {meth : Method} {c : Code} {D : va_G} {A : Nat → Prop} {g : mG} (hg : inj g) {w0 : Nat} {w1 : Nat} (hw0 : okW w0) (hw1 : okW w1) (X : cx p m meth c s args cX3_isLike 2 RX3 D (tyG g)) (hr : meth.sig.returnType = (some .boolean)) {Q : Int32 → CS → Prop} : ∀ (σ : CS), wpX3_isLike_23 w0 w1 Q σ → cW p l e rmX3_isLike s m args below meth c (MQ below (va_Qi Q (fun u t => wd D A (cT g u) t.heap) A) args s 0 0 A) D A (cT g σ) 23 2 [(0, .ref (g.1 (4 * w0))), (1, .ref (g.1 (4 * w1)))] := by
  obtain ⟨hx, hb, hml, hown, hts, hK, hlk⟩ := id X
  intro σ h H locs ls hw hS hl
  unfold wpX3_isLike_23 at h
  refine lv_iconst (v := (0 : Int32)) hx hb dX3_isLike_23 (by decide) ?_
  exact m_zret X hr rfl hw hS h dX3_isLike_24
def wpX3_isLike_0 (w0 : Nat) (w1 : Nat) (Q : Int32 → CS → Prop) (σ : CS) : Prop :=
  (¬ (cG σ w0) = (cG σ w1) →
    wpX3_isLike_23 w0 w1 Q σ) ∧
  ((cG σ w0) = (cG σ w1) →
    wpX3_compareAbs w0 w1 σ (fun (r1 : Int32) (σ2 : CS) =>
      (¬ r1 = 0 →
        wpX3_isLike_23 w0 w1 Q σ2) ∧
      (r1 = 0 →
        Q (1 : Int32) σ2)))
set_option maxRecDepth 100000 in
set_option maxHeartbeats 4000000 in
theorem wX3_isLike_0 {p : Program} {l : Launch} {e : Env} {s : State} {m : MethodId} {args : Array Value} {below : List Frame} {meth : Method} {c : Code} {D : va_G} {A : Nat → Prop} {g : mG} (hg : inj g) {w0 : Nat} {w1 : Nat} (hw0 : okW w0) (hw1 : okW w1) (X : cx p m meth c s args cX3_isLike 2 RX3 D (tyG g)) (hr : meth.sig.returnType = (some .boolean)) {Q : Int32 → CS → Prop} : ∀ (σ : CS), wpX3_isLike_0 w0 w1 Q σ → cW p l e rmX3_isLike s m args below meth c (MQ below (va_Qi Q (fun u t => wd D A (cT g u) t.heap) A) args s 0 0 A) D A (cT g σ) 0 2 [(0, .ref (g.1 (4 * w0))), (1, .ref (g.1 (4 * w1)))] := by
  obtain ⟨hx, hb, hml, hown, hts, hK, hlk⟩ := id X
  intro σ h H locs ls hw hS hl
  unfold wpX3_isLike_0 at h
  refine lv_aload_n hx hb dX3_isLike_0 rfl (lv_at hl 0 rfl) ?_
  refine m_get (v := .int (cG σ w0)) X hw (tW hw0) rfl inA_X3 2 (by decide) mw_101 rfl dX3_isLike_1 ?_
  refine lv_aload_n hx hb dX3_isLike_4 rfl (lv_at hl 1 rfl) ?_
  refine m_get (v := .int (cG σ w1)) X hw (tW hw1) rfl inA_X3 2 (by decide) mw_101 rfl dX3_isLike_5 ?_
  refine lv_icmp_ne (tgt := 23) hx hb dX3_isLike_8 (by decide) (fun hc => ?_) (fun hc => ?_)
  · replace h := h.1 hc
    exact wX3_isLike_23 hg hw0 hw1 X hr _ h H locs ls hw hS (lv_sub hl [0, 1] rfl)
  · replace h := h.2 hc
    refine lv_aload_n hx hb dX3_isLike_11 rfl (lv_at hl 0 rfl) ?_
    refine lv_aload_n hx hb dX3_isLike_12 rfl (lv_at hl 1 rfl) ?_
    refine m_cVi (TT := cT g) (As := [.ref (g.1 (4 * w1))]) (rest := []) X hl.1 hw hS (kX3_compareAbs hg hw0 hw1 h) mw_209 fX3_compareAbs (tW hw0) rfl rfl ⟨rfl, rfl, Nat.le_of_ble_eq_true rfl, Nat.le_of_ble_eq_true rfl⟩ rfl rfl (Nat.le_of_ble_eq_true rfl) dX3_isLike_13 (fun r1 σ2 H locs h hw hS => ?_)
    refine lv_if_ne (tgt := 23) hx hb dX3_isLike_16 (by decide) (fun hc => ?_) (fun hc => ?_)
    · replace h := h.1 hc
      exact wX3_isLike_23 hg hw0 hw1 X hr _ h H locs ls hw hS (lv_sub hl [0, 1] rfl)
    · replace h := h.2 hc
      refine lv_iconst (v := (1 : Int32)) hx hb dX3_isLike_19 (by decide) ?_
      refine lv_goto (tgt := 24) hx hb dX3_isLike_20 (by decide) ?_
      exact m_zret X hr rfl hw hS h dX3_isLike_24
def wpX3_isLike (w0 : Nat) (w1 : Nat) (σ : CS) (Q : Int32 → CS → Prop) : Prop := wpX3_isLike_0 w0 w1 Q σ
theorem kX3_isLike {l : Launch} {D : va_G} {A : Nat → Prop} {g : mG} (hg : inj g) {w0 : Nat} {w1 : Nat} (hw0 : okW w0) (hw1 : okW w1) {σ : CS} {Q : Int32 → CS → Prop} (h : wpX3_isLike w0 w1 σ Q) : Met l yX3_isLike (Cond.code yX3_isLike cX3_isLike 2 (some .boolean) :: wsA) rmX3_isLike (mPc D (tyG g) A (cT g σ) [.ref (g.1 (4 * w0)), .ref (g.1 (4 * w1))]) (va_Qi Q (fun u t => wd D A (cT g u) t.heap) A) 0 0 A :=
  m_met (by decide +kernel) (Nat.le_of_ble_eq_true rfl) (fun p e s m below meth c X hr H locs ls hw hS hl => wX3_isLike_0 hg hw0 hw1 X hr σ h H locs ls hw hS (lv_sub hl [0, 1] rfl))
theorem fX3_isLike : vfit yX3_isLike cX3_isLike 2 (some .boolean) 1 := ⟨mw_638, mw_639, mw_29, mw_640, by decide +kernel, by decide +kernel, by decide +kernel⟩
/-! BigPolys$Whole.join(LBigPolys$Whole;)V -/
def rmX3_join : Room := { frames := 1, cells := 0, slots := 0, locals := 24 }
def wpX3_join_75 (w0 : Nat) (w1 : Nat) (Q : CS → Prop) (N25 : Int32 → Int32 → Int32 → CS → Prop) (i2 : Int32) (i3 : Int32) (i4 : Int32) (i5 : Int32) (i6 : Int32) (σ : CS) : Prop :=
  ∀ a1 : Int32, a1 = (i5 + i6) + i3 →
  vp_in i4 (capW w0) ∧ (
  ∀ a2 : Int32, a2 = jushr a1 (31 : Int32) →
  ∀ a3 : Int32, a3 = i4 + (1 : Int32) →
  N25 i2 a2 a3 (sFi σ w0 i4 (a1 &&& (2147483647 : Int32))))
set_option maxRecDepth 100000 in
set_option maxHeartbeats 4000000 in
theorem wX3_join_75 {p : Program} {l : Launch} {e : Env} {s : State} {m : MethodId} {args : Array Value} {below : List Frame} {meth : Method} {c : Code} {D : va_G} {A : Nat → Prop} {g : mG} (hg : inj g) {w0 : Nat} {w1 : Nat} (hw0 : okW w0) (hw1 : okW w1) (X : cx p m meth c s args cX3_join 8 RX3 D (tyG g)) (hr : meth.sig.returnType = none) {Q : CS → Prop} {N25 : Int32 → Int32 → Int32 → CS → Prop} (hN25 : ∀ (i2 : Int32) (i3 : Int32) (i4 : Int32) (σ : CS), N25 i2 i3 i4 σ → cW p l e rmX3_join s m args below meth c (MQ below (va_Qv Q (fun u t => wd D A (cT g u) t.heap) A) args s 0 0 A) D A (cT g σ) 25 8 [(0, .ref (g.1 (4 * w0))), (1, .ref (g.1 (4 * w1))), (2, .int i2), (3, .int i3), (4, .int i4)]) : ∀ (i2 : Int32) (i3 : Int32) (i4 : Int32) (i5 : Int32) (i6 : Int32) (σ : CS), wpX3_join_75 w0 w1 Q N25 i2 i3 i4 i5 i6 σ → cW p l e rmX3_join s m args below meth c (MQ below (va_Qv Q (fun u t => wd D A (cT g u) t.heap) A) args s 0 0 A) D A (cT g σ) 75 8 [(0, .ref (g.1 (4 * w0))), (1, .ref (g.1 (4 * w1))), (2, .int i2), (3, .int i3), (4, .int i4), (5, .int i5), (6, .int i6)] := by
  obtain ⟨hx, hb, hml, hown, hts, hK, hlk⟩ := id X
  intro i2 i3 i4 i5 i6 σ h H locs ls hw hS hl
  unfold wpX3_join_75 at h
  refine lv_iload hx hb dX3_join_75 (lv_at hl 5 rfl) ?_
  refine lv_iload hx hb dX3_join_77 (lv_at hl 6 rfl) ?_
  refine lv_iadd hx hb dX3_join_79 ?_
  refine lv_iload_n hx hb dX3_join_80 rfl (lv_at hl 3 rfl) ?_
  refine lv_iadd hx hb dX3_join_81 ?_
  refine lv_topi (fun a1 ea1 => ?_)
  replace h := h a1 ea1
  refine lv_istore (lv' := [(7, .int a1), (0, .ref (g.1 (4 * w0))), (1, .ref (g.1 (4 * w1))), (2, .int i2), (3, .int i3), (4, .int i4), (5, .int i5), (6, .int i6)]) hx hb dX3_join_82 hl (by decide) rfl (fun ls hl => ?_)
  refine lv_aload_n hx hb dX3_join_84 rfl (lv_at hl 1 rfl) ?_
  refine m_get (v := .ref (g.1 (4 * w0 + 1))) X hw (tW hw0) rfl inA_X3 0 (by decide) mw_36 rfl dX3_join_85 ?_
  refine lv_iload hx hb dX3_join_88 (lv_at hl 5 rfl) ?_
  refine lv_iload hx hb dX3_join_90 (lv_at hl 0 rfl) ?_
  refine lv_ldc (v := (2147483647 : Int32)) hx hb hown (hts _ mw_208) dX3_join_92 ?_
  refine lv_iand hx hb dX3_join_94 ?_
  obtain ⟨hi, h⟩ := h
  refine m_iast (T' := cT g (sFi σ w0 i4 (a1 &&& (2147483647 : Int32)))) X hw hS (tD hw0) 0 rfl hi (uF hg) dX3_join_95 (fun H locs hw hS => ?_)
  refine lv_iload hx hb dX3_join_96 (lv_at hl 0 rfl) ?_
  refine lv_bipush (v := (31 : Int32)) hx hb dX3_join_98 (by decide) ?_
  refine lv_iushr (v := jushr a1 (31 : Int32)) hx hb dX3_join_100 rfl ?_
  refine lv_topi (fun a2 ea2 => ?_)
  replace h := h a2 ea2
  refine lv_istore_n (lv' := [(3, .int a2), (7, .int a1), (0, .ref (g.1 (4 * w0))), (1, .ref (g.1 (4 * w1))), (2, .int i2), (4, .int i4), (5, .int i5), (6, .int i6)]) hx hb dX3_join_101 rfl hl (by decide) rfl (fun ls hl => ?_)
  obtain ⟨a3, ea3⟩ : ∃ z : Int32, z = i4 + (1 : Int32) := ⟨_, rfl⟩
  replace h := h a3 ea3
  refine lv_iinc (v := a3) (lv' := [(4, .int a3), (3, .int a2), (7, .int a1), (0, .ref (g.1 (4 * w0))), (1, .ref (g.1 (4 * w1))), (2, .int i2), (5, .int i5), (6, .int i6)]) hx hb dX3_join_102 hl (k := 5) rfl (by rw [ea3]; rfl) (by decide) rfl (fun ls hl => ?_)
  refine lv_goto (tgt := 25) hx hb dX3_join_105 (by decide) ?_
  exact hN25 i2 a2 a3 _ h H locs ls hw hS (lv_sub hl [3, 4, 5, 1, 0] rfl)
def wpX3_join_53 (w0 : Nat) (w1 : Nat) (Q : CS → Prop) (N25 : Int32 → Int32 → Int32 → CS → Prop) (i2 : Int32) (i3 : Int32) (i4 : Int32) (i5 : Int32) (σ : CS) : Prop :=
  ((cS σ w1) ≤ i4 →
    wpX3_join_75 w0 w1 Q N25 i2 i3 i4 i5 (0 : Int32) σ) ∧
  (¬ (cS σ w1) ≤ i4 →
    vp_in i4 (capW w1) ∧ (
    ∀ a4 : Int32, a4 = cF σ w1 i4.toNatClampNeg →
    wpX3_join_75 w0 w1 Q N25 i2 i3 i4 i5 a4 σ))
set_option maxRecDepth 100000 in
set_option maxHeartbeats 4000000 in
theorem wX3_join_53 {p : Program} {l : Launch} {e : Env} {s : State} {m : MethodId} {args : Array Value} {below : List Frame} {meth : Method} {c : Code} {D : va_G} {A : Nat → Prop} {g : mG} (hg : inj g) {w0 : Nat} {w1 : Nat} (hw0 : okW w0) (hw1 : okW w1) (X : cx p m meth c s args cX3_join 8 RX3 D (tyG g)) (hr : meth.sig.returnType = none) {Q : CS → Prop} {N25 : Int32 → Int32 → Int32 → CS → Prop} (hN25 : ∀ (i2 : Int32) (i3 : Int32) (i4 : Int32) (σ : CS), N25 i2 i3 i4 σ → cW p l e rmX3_join s m args below meth c (MQ below (va_Qv Q (fun u t => wd D A (cT g u) t.heap) A) args s 0 0 A) D A (cT g σ) 25 8 [(0, .ref (g.1 (4 * w0))), (1, .ref (g.1 (4 * w1))), (2, .int i2), (3, .int i3), (4, .int i4)]) : ∀ (i2 : Int32) (i3 : Int32) (i4 : Int32) (i5 : Int32) (σ : CS), wpX3_join_53 w0 w1 Q N25 i2 i3 i4 i5 σ → cW p l e rmX3_join s m args below meth c (MQ below (va_Qv Q (fun u t => wd D A (cT g u) t.heap) A) args s 0 0 A) D A (cT g σ) 53 8 [(0, .ref (g.1 (4 * w0))), (1, .ref (g.1 (4 * w1))), (2, .int i2), (3, .int i3), (4, .int i4), (5, .int i5)] := by
  obtain ⟨hx, hb, hml, hown, hts, hK, hlk⟩ := id X
  intro i2 i3 i4 i5 σ h H locs ls hw hS hl
  unfold wpX3_join_53 at h
  refine lv_iload hx hb dX3_join_53 (lv_at hl 4 rfl) ?_
  refine lv_aload_n hx hb dX3_join_55 rfl (lv_at hl 1 rfl) ?_
  refine m_get (v := .int (cS σ w1)) X hw (tW hw1) rfl inA_X3 1 (by decide) mw_100 rfl dX3_join_56 ?_
  refine lv_icmp_ge (tgt := 72) hx hb dX3_join_59 (by decide) (fun hc => ?_) (fun hc => ?_)
  · replace h := h.1 hc
    refine lv_iconst (v := (0 : Int32)) hx hb dX3_join_72 (by decide) ?_
    refine lv_istore (lv' := [(6, .int (0 : Int32)), (0, .ref (g.1 (4 * w0))), (1, .ref (g.1 (4 * w1))), (2, .int i2), (3, .int i3), (4, .int i4), (5, .int i5)]) hx hb dX3_join_73 hl (by decide) rfl (fun ls hl => ?_)
    exact wX3_join_75 hg hw0 hw1 X hr hN25 i2 i3 i4 i5 (0 : Int32) _ h H locs ls hw hS (lv_sub hl [1, 2, 3, 4, 5, 6, 0] rfl)
  · replace h := h.2 hc
    refine lv_aload_n hx hb dX3_join_62 rfl (lv_at hl 1 rfl) ?_
    refine m_get (v := .ref (g.1 (4 * w1 + 1))) X hw (tW hw1) rfl inA_X3 0 (by decide) mw_36 rfl dX3_join_63 ?_
    refine lv_iload hx hb dX3_join_66 (lv_at hl 4 rfl) ?_
    obtain ⟨hi, h⟩ := h
    refine m_iald X hw (tD hw1) 0 rfl hi dX3_join_68 ?_
    refine lv_goto (tgt := 73) hx hb dX3_join_69 (by decide) ?_
    refine lv_topi (fun a4 ea4 => ?_)
    replace h := h a4 ea4
    refine lv_istore (lv' := [(6, .int a4), (0, .ref (g.1 (4 * w0))), (1, .ref (g.1 (4 * w1))), (2, .int i2), (3, .int i3), (4, .int i4), (5, .int i5)]) hx hb dX3_join_73 hl (by decide) rfl (fun ls hl => ?_)
    exact wX3_join_75 hg hw0 hw1 X hr hN25 i2 i3 i4 i5 a4 _ h H locs ls hw hS (lv_sub hl [1, 2, 3, 4, 5, 6, 0] rfl)
def wbX3_join_25 (w0 : Nat) (w1 : Nat) (Q : CS → Prop) (N25 : Int32 → Int32 → Int32 → CS → Prop) (i2 : Int32) (i3 : Int32) (i4 : Int32) (σ : CS) : Prop :=
  (i2 ≤ i4 →
    (i3 = 0 →
      Q (sS σ w0 i2)) ∧
    (¬ i3 = 0 →
      ((Int32.ofNat (capW w0)) ≤ (cS (sS σ w0 i2) w0) →
        Q (sS σ w0 i2)) ∧
      (¬ (Int32.ofNat (capW w0)) ≤ (cS (sS σ w0 i2) w0) →
        vp_in (cS (sS σ w0 i2) w0) (capW w0) ∧ (
        Q (sS (sFi (sS σ w0 i2) w0 (cS (sS σ w0 i2) w0) i3) w0 ((cS (sFi (sS σ w0 i2) w0 (cS (sS σ w0 i2) w0) i3) w0) + (1 : Int32))))))) ∧
  (¬ i2 ≤ i4 →
    ((cS σ w0) ≤ i4 →
      wpX3_join_53 w0 w1 Q N25 i2 i3 i4 (0 : Int32) σ) ∧
    (¬ (cS σ w0) ≤ i4 →
      vp_in i4 (capW w0) ∧ (
      ∀ a5 : Int32, a5 = cF σ w0 i4.toNatClampNeg →
      wpX3_join_53 w0 w1 Q N25 i2 i3 i4 a5 σ)))
set_option maxRecDepth 100000 in
set_option maxHeartbeats 4000000 in
theorem wX3_join_25 {p : Program} {l : Launch} {e : Env} {s : State} {m : MethodId} {args : Array Value} {below : List Frame} {meth : Method} {c : Code} {D : va_G} {A : Nat → Prop} {g : mG} (hg : inj g) {w0 : Nat} {w1 : Nat} (hw0 : okW w0) (hw1 : okW w1) (X : cx p m meth c s args cX3_join 8 RX3 D (tyG g)) (hr : meth.sig.returnType = none) {Q : CS → Prop} : ∀ (n : Nat) (i2 : Int32) (i3 : Int32) (i4 : Int32) (σ : CS), lq4 (wbX3_join_25 w0 w1 Q) n i2 i3 i4 σ → cW p l e rmX3_join s m args below meth c (MQ below (va_Qv Q (fun u t => wd D A (cT g u) t.heap) A) args s 0 0 A) D A (cT g σ) 25 8 [(0, .ref (g.1 (4 * w0))), (1, .ref (g.1 (4 * w1))), (2, .int i2), (3, .int i3), (4, .int i4)] := by
  obtain ⟨hx, hb, hml, hown, hts, hK, hlk⟩ := id X
  intro n
  induction n with
  | zero =>
    intro i2 i3 i4 σ h
    exact h.elim
  | succ n hN25 =>
    intro i2 i3 i4 σ h H locs ls hw hS hl
    replace h : wbX3_join_25 w0 w1 Q (lq4 (wbX3_join_25 w0 w1 Q) n) i2 i3 i4 σ := h
    unfold wbX3_join_25 at h
    refine lv_iload hx hb dX3_join_25 (lv_at hl 4 rfl) ?_
    refine lv_iload_n hx hb dX3_join_27 rfl (lv_at hl 2 rfl) ?_
    refine lv_icmp_ge (tgt := 108) hx hb dX3_join_28 (by decide) (fun hc => ?_) (fun hc => ?_)
    · replace h := h.1 hc
      refine lv_aload_n hx hb dX3_join_108 rfl (lv_at hl 0 rfl) ?_
      refine lv_iload_n hx hb dX3_join_109 rfl (lv_at hl 2 rfl) ?_
      refine m_put (T' := cT g (sS σ w0 i2)) X hw hS (tW hw0) rfl inA_X3 tyX3 tyX3_ok nmX3 1 (by decide) mw_100 rfl pd_I (Nat.le_of_ble_eq_true rfl) (uS hg) dX3_join_110 (fun H locs hw hS => ?_)
      refine lv_iload_n hx hb dX3_join_113 rfl (lv_at hl 3 rfl) ?_
      refine lv_if_eq (tgt := 149) hx hb dX3_join_114 (by decide) (fun hc => ?_) (fun hc => ?_)
      · replace h := h.1 hc
        exact m_vret X hr hw hS h dX3_join_149
      · replace h := h.2 hc
        refine lv_aload_n hx hb dX3_join_117 rfl (lv_at hl 0 rfl) ?_
        refine m_get (v := .int (cS (sS σ w0 i2) w0)) X hw (tW hw0) rfl inA_X3 1 (by decide) mw_100 rfl dX3_join_118 ?_
        refine lv_aload_n hx hb dX3_join_121 rfl (lv_at hl 0 rfl) ?_
        refine m_get (v := .ref (g.1 (4 * w0 + 1))) X hw (tW hw0) rfl inA_X3 0 (by decide) mw_36 rfl dX3_join_122 ?_
        refine m_alen (v := Int32.ofNat (capW w0)) X hw (tD hw0) 0 rfl rfl dX3_join_125 ?_
        refine lv_icmp_ge (tgt := 149) hx hb dX3_join_126 (by decide) (fun hc => ?_) (fun hc => ?_)
        · replace h := h.1 hc
          exact m_vret X hr hw hS h dX3_join_149
        · replace h := h.2 hc
          refine lv_aload_n hx hb dX3_join_129 rfl (lv_at hl 0 rfl) ?_
          refine m_get (v := .ref (g.1 (4 * w0 + 1))) X hw (tW hw0) rfl inA_X3 0 (by decide) mw_36 rfl dX3_join_130 ?_
          refine lv_aload_n hx hb dX3_join_133 rfl (lv_at hl 0 rfl) ?_
          refine m_get (v := .int (cS (sS σ w0 i2) w0)) X hw (tW hw0) rfl inA_X3 1 (by decide) mw_100 rfl dX3_join_134 ?_
          refine lv_iload_n hx hb dX3_join_137 rfl (lv_at hl 3 rfl) ?_
          obtain ⟨hi, h⟩ := h
          refine m_iast (T' := cT g (sFi (sS σ w0 i2) w0 (cS (sS σ w0 i2) w0) i3)) X hw hS (tD hw0) 0 rfl hi (uF hg) dX3_join_138 (fun H locs hw hS => ?_)
          refine lv_aload_n hx hb dX3_join_139 rfl (lv_at hl 0 rfl) ?_
          refine lv_dup hx hb dX3_join_140 rfl ?_
          refine m_get (v := .int (cS (sFi (sS σ w0 i2) w0 (cS (sS σ w0 i2) w0) i3) w0)) X hw (tW hw0) rfl inA_X3 1 (by decide) mw_100 rfl dX3_join_141 ?_
          refine lv_iconst (v := (1 : Int32)) hx hb dX3_join_144 (by decide) ?_
          refine lv_iadd hx hb dX3_join_145 ?_
          refine m_put (T' := cT g (sS (sFi (sS σ w0 i2) w0 (cS (sS σ w0 i2) w0) i3) w0 ((cS (sFi (sS σ w0 i2) w0 (cS (sS σ w0 i2) w0) i3) w0) + (1 : Int32)))) X hw hS (tW hw0) rfl inA_X3 tyX3 tyX3_ok nmX3 1 (by decide) mw_100 rfl pd_I (Nat.le_of_ble_eq_true rfl) (uS hg) dX3_join_146 (fun H locs hw hS => ?_)
          exact m_vret X hr hw hS h dX3_join_149
    · replace h := h.2 hc
      refine lv_iload hx hb dX3_join_31 (lv_at hl 4 rfl) ?_
      refine lv_aload_n hx hb dX3_join_33 rfl (lv_at hl 0 rfl) ?_
      refine m_get (v := .int (cS σ w0)) X hw (tW hw0) rfl inA_X3 1 (by decide) mw_100 rfl dX3_join_34 ?_
      refine lv_icmp_ge (tgt := 50) hx hb dX3_join_37 (by decide) (fun hc => ?_) (fun hc => ?_)
      · replace h := h.1 hc
        refine lv_iconst (v := (0 : Int32)) hx hb dX3_join_50 (by decide) ?_
        refine lv_istore (lv' := [(5, .int (0 : Int32)), (0, .ref (g.1 (4 * w0))), (1, .ref (g.1 (4 * w1))), (2, .int i2), (3, .int i3), (4, .int i4)]) hx hb dX3_join_51 hl (by decide) rfl (fun ls hl => ?_)
        exact wX3_join_53 hg hw0 hw1 X hr hN25 i2 i3 i4 (0 : Int32) _ h H locs ls hw hS (lv_sub hl [1, 2, 3, 4, 5, 0] rfl)
      · replace h := h.2 hc
        refine lv_aload_n hx hb dX3_join_40 rfl (lv_at hl 0 rfl) ?_
        refine m_get (v := .ref (g.1 (4 * w0 + 1))) X hw (tW hw0) rfl inA_X3 0 (by decide) mw_36 rfl dX3_join_41 ?_
        refine lv_iload hx hb dX3_join_44 (lv_at hl 4 rfl) ?_
        obtain ⟨hi, h⟩ := h
        refine m_iald X hw (tD hw0) 0 rfl hi dX3_join_46 ?_
        refine lv_goto (tgt := 51) hx hb dX3_join_47 (by decide) ?_
        refine lv_topi (fun a5 ea5 => ?_)
        replace h := h a5 ea5
        refine lv_istore (lv' := [(5, .int a5), (0, .ref (g.1 (4 * w0))), (1, .ref (g.1 (4 * w1))), (2, .int i2), (3, .int i3), (4, .int i4)]) hx hb dX3_join_51 hl (by decide) rfl (fun ls hl => ?_)
        exact wX3_join_53 hg hw0 hw1 X hr hN25 i2 i3 i4 a5 _ h H locs ls hw hS (lv_sub hl [1, 2, 3, 4, 5, 0] rfl)
def wpX3_join_0 (w0 : Nat) (w1 : Nat) (Q : CS → Prop) (σ : CS) : Prop :=
  ∀ a6 : Int32, a6 = (if (cS σ w0) < (cS σ w1) then (cS σ w1) else (cS σ w0)) →
  ∀ a7 : Int32, a7 = (if (Int32.ofNat (capW w0)) < a6 then (Int32.ofNat (capW w0)) else a6) →
  ∃ n, lq4 (wbX3_join_25 w0 w1 Q) n a7 (0 : Int32) (0 : Int32) σ
set_option maxRecDepth 100000 in
set_option maxHeartbeats 4000000 in
theorem wX3_join_0 {p : Program} {l : Launch} {e : Env} {s : State} {m : MethodId} {args : Array Value} {below : List Frame} {meth : Method} {c : Code} {D : va_G} {A : Nat → Prop} {g : mG} (hg : inj g) {w0 : Nat} {w1 : Nat} (hw0 : okW w0) (hw1 : okW w1) (X : cx p m meth c s args cX3_join 8 RX3 D (tyG g)) (hr : meth.sig.returnType = none) {Q : CS → Prop} : ∀ (σ : CS), wpX3_join_0 w0 w1 Q σ → cW p l e rmX3_join s m args below meth c (MQ below (va_Qv Q (fun u t => wd D A (cT g u) t.heap) A) args s 0 0 A) D A (cT g σ) 0 8 [(0, .ref (g.1 (4 * w0))), (1, .ref (g.1 (4 * w1)))] := by
  obtain ⟨hx, hb, hml, hown, hts, hK, hlk⟩ := id X
  intro σ h H locs ls hw hS hl
  unfold wpX3_join_0 at h
  refine lv_aload_n hx hb dX3_join_0 rfl (lv_at hl 0 rfl) ?_
  refine m_get (v := .int (cS σ w0)) X hw (tW hw0) rfl inA_X3 1 (by decide) mw_100 rfl dX3_join_1 ?_
  refine lv_aload_n hx hb dX3_join_4 rfl (lv_at hl 1 rfl) ?_
  refine m_get (v := .int (cS σ w1)) X hw (tW hw1) rfl inA_X3 1 (by decide) mw_100 rfl dX3_join_5 ?_
  refine va_mmax hx hb (hml.trans hl.1.symm) hown (hts _ mw_205) (hts _ mw_206) (hts _ mw_54) (hts _ mw_207) (Nat.le_of_ble_eq_true rfl) (Nat.le_of_ble_eq_true rfl) (Nat.zero_le _) (Nat.zero_le _) dX3_join_8 ?_
  refine lv_topi (fun a6 ea6 => ?_)
  replace h := h a6 ea6
  refine lv_aload_n hx hb dX3_join_11 rfl (lv_at hl 0 rfl) ?_
  refine m_get (v := .ref (g.1 (4 * w0 + 1))) X hw (tW hw0) rfl inA_X3 0 (by decide) mw_36 rfl dX3_join_12 ?_
  refine m_alen (v := Int32.ofNat (capW w0)) X hw (tD hw0) 0 rfl rfl dX3_join_15 ?_
  refine va_mmin hx hb (hml.trans hl.1.symm) hown (hts _ mw_186) (hts _ mw_53) (hts _ mw_54) (hts _ mw_55) (Nat.le_of_ble_eq_true rfl) (Nat.le_of_ble_eq_true rfl) (Nat.zero_le _) (Nat.zero_le _) dX3_join_16 ?_
  refine lv_topi (fun a7 ea7 => ?_)
  replace h := h a7 ea7
  refine lv_istore_n (lv' := [(2, .int a7), (0, .ref (g.1 (4 * w0))), (1, .ref (g.1 (4 * w1)))]) hx hb dX3_join_19 rfl hl (by decide) rfl (fun ls hl => ?_)
  refine lv_iconst (v := (0 : Int32)) hx hb dX3_join_20 (by decide) ?_
  refine lv_istore_n (lv' := [(3, .int (0 : Int32)), (2, .int a7), (0, .ref (g.1 (4 * w0))), (1, .ref (g.1 (4 * w1)))]) hx hb dX3_join_21 rfl hl (by decide) rfl (fun ls hl => ?_)
  refine lv_iconst (v := (0 : Int32)) hx hb dX3_join_22 (by decide) ?_
  refine lv_istore (lv' := [(4, .int (0 : Int32)), (3, .int (0 : Int32)), (2, .int a7), (0, .ref (g.1 (4 * w0))), (1, .ref (g.1 (4 * w1)))]) hx hb dX3_join_23 hl (by decide) rfl (fun ls hl => ?_)
  obtain ⟨n9, h⟩ := h
  exact wX3_join_25 hg hw0 hw1 X hr n9 a7 (0 : Int32) (0 : Int32) _ h H locs ls hw hS (lv_sub hl [3, 4, 2, 1, 0] rfl)
def wpX3_join (w0 : Nat) (w1 : Nat) (σ : CS) (Q : CS → Prop) : Prop := wpX3_join_0 w0 w1 Q σ
theorem kX3_join {l : Launch} {D : va_G} {A : Nat → Prop} {g : mG} (hg : inj g) {w0 : Nat} {w1 : Nat} (hw0 : okW w0) (hw1 : okW w1) {σ : CS} {Q : CS → Prop} (h : wpX3_join w0 w1 σ Q) : Met l yX3_join (Cond.code yX3_join cX3_join 8 none :: wsA) rmX3_join (mPc D (tyG g) A (cT g σ) [.ref (g.1 (4 * w0)), .ref (g.1 (4 * w1))]) (va_Qv Q (fun u t => wd D A (cT g u) t.heap) A) 0 0 A :=
  m_met (by decide +kernel) (Nat.le_of_ble_eq_true rfl) (fun p e s m below meth c X hr H locs ls hw hS hl => wX3_join_0 hg hw0 hw1 X hr σ h H locs ls hw hS (lv_sub hl [0, 1] rfl))
theorem fX3_join : vfit yX3_join cX3_join 8 none 1 := ⟨mw_202, mw_203, mw_29, mw_204, by decide +kernel, by decide +kernel, by decide +kernel⟩
/-! BigPolys$Whole.differ(LBigPolys$Whole;LBigPolys$Whole;)V -/
def rmX3_differ : Room := { frames := 1, cells := 0, slots := 0, locals := 24 }
def wpX3_differ_47 (w0 : Nat) (w1 : Nat) (w2 : Nat) (Q : CS → Prop) (N19 : Int32 → Int32 → Int32 → CS → Prop) (i3 : Int32) (i4 : Int32) (i5 : Int32) (i6 : Int32) (σ : CS) : Prop :=
  vp_in i5 (capW w1) ∧ (
  ∀ a1 : Int32, a1 = ((cF σ w1 i5.toNatClampNeg) - i6) - i4 →
  vp_in i5 (capW w0) ∧ (
  ∀ a2 : Int32, a2 = jushr a1 (31 : Int32) →
  ∀ a3 : Int32, a3 = i5 + (1 : Int32) →
  N19 i3 a2 a3 (sFi σ w0 i5 (a1 &&& (2147483647 : Int32)))))
set_option maxRecDepth 100000 in
set_option maxHeartbeats 4000000 in
theorem wX3_differ_47 {p : Program} {l : Launch} {e : Env} {s : State} {m : MethodId} {args : Array Value} {below : List Frame} {meth : Method} {c : Code} {D : va_G} {A : Nat → Prop} {g : mG} (hg : inj g) {w0 : Nat} {w1 : Nat} {w2 : Nat} (hw0 : okW w0) (hw1 : okW w1) (hw2 : okW w2) (X : cx p m meth c s args cX3_differ 8 RX3 D (tyG g)) (hr : meth.sig.returnType = none) {Q : CS → Prop} {N19 : Int32 → Int32 → Int32 → CS → Prop} (hN19 : ∀ (i3 : Int32) (i4 : Int32) (i5 : Int32) (σ : CS), N19 i3 i4 i5 σ → cW p l e rmX3_differ s m args below meth c (MQ below (va_Qv Q (fun u t => wd D A (cT g u) t.heap) A) args s 0 0 A) D A (cT g σ) 19 8 [(0, .ref (g.1 (4 * w0))), (1, .ref (g.1 (4 * w1))), (2, .ref (g.1 (4 * w2))), (3, .int i3), (4, .int i4), (5, .int i5)]) : ∀ (i3 : Int32) (i4 : Int32) (i5 : Int32) (i6 : Int32) (σ : CS), wpX3_differ_47 w0 w1 w2 Q N19 i3 i4 i5 i6 σ → cW p l e rmX3_differ s m args below meth c (MQ below (va_Qv Q (fun u t => wd D A (cT g u) t.heap) A) args s 0 0 A) D A (cT g σ) 47 8 [(0, .ref (g.1 (4 * w0))), (1, .ref (g.1 (4 * w1))), (2, .ref (g.1 (4 * w2))), (3, .int i3), (4, .int i4), (5, .int i5), (6, .int i6)] := by
  obtain ⟨hx, hb, hml, hown, hts, hK, hlk⟩ := id X
  intro i3 i4 i5 i6 σ h H locs ls hw hS hl
  unfold wpX3_differ_47 at h
  refine lv_aload_n hx hb dX3_differ_47 rfl (lv_at hl 1 rfl) ?_
  refine m_get (v := .ref (g.1 (4 * w1 + 1))) X hw (tW hw1) rfl inA_X3 0 (by decide) mw_36 rfl dX3_differ_48 ?_
  refine lv_iload hx hb dX3_differ_51 (lv_at hl 5 rfl) ?_
  obtain ⟨hi, h⟩ := h
  refine m_iald X hw (tD hw1) 0 rfl hi dX3_differ_53 ?_
  refine lv_iload hx hb dX3_differ_54 (lv_at hl 6 rfl) ?_
  refine lv_isub hx hb dX3_differ_56 ?_
  refine lv_iload hx hb dX3_differ_57 (lv_at hl 4 rfl) ?_
  refine lv_isub hx hb dX3_differ_59 ?_
  refine lv_topi (fun a1 ea1 => ?_)
  replace h := h a1 ea1
  refine lv_istore (lv' := [(7, .int a1), (0, .ref (g.1 (4 * w0))), (1, .ref (g.1 (4 * w1))), (2, .ref (g.1 (4 * w2))), (3, .int i3), (4, .int i4), (5, .int i5), (6, .int i6)]) hx hb dX3_differ_60 hl (by decide) rfl (fun ls hl => ?_)
  refine lv_aload_n hx hb dX3_differ_62 rfl (lv_at hl 1 rfl) ?_
  refine m_get (v := .ref (g.1 (4 * w0 + 1))) X hw (tW hw0) rfl inA_X3 0 (by decide) mw_36 rfl dX3_differ_63 ?_
  refine lv_iload hx hb dX3_differ_66 (lv_at hl 6 rfl) ?_
  refine lv_iload hx hb dX3_differ_68 (lv_at hl 0 rfl) ?_
  refine lv_ldc (v := (2147483647 : Int32)) hx hb hown (hts _ mw_208) dX3_differ_70 ?_
  refine lv_iand hx hb dX3_differ_72 ?_
  obtain ⟨hi, h⟩ := h
  refine m_iast (T' := cT g (sFi σ w0 i5 (a1 &&& (2147483647 : Int32)))) X hw hS (tD hw0) 0 rfl hi (uF hg) dX3_differ_73 (fun H locs hw hS => ?_)
  refine lv_iload hx hb dX3_differ_74 (lv_at hl 0 rfl) ?_
  refine lv_bipush (v := (31 : Int32)) hx hb dX3_differ_76 (by decide) ?_
  refine lv_iushr (v := jushr a1 (31 : Int32)) hx hb dX3_differ_78 rfl ?_
  refine lv_topi (fun a2 ea2 => ?_)
  replace h := h a2 ea2
  refine lv_istore (lv' := [(4, .int a2), (7, .int a1), (0, .ref (g.1 (4 * w0))), (1, .ref (g.1 (4 * w1))), (2, .ref (g.1 (4 * w2))), (3, .int i3), (5, .int i5), (6, .int i6)]) hx hb dX3_differ_79 hl (by decide) rfl (fun ls hl => ?_)
  obtain ⟨a3, ea3⟩ : ∃ z : Int32, z = i5 + (1 : Int32) := ⟨_, rfl⟩
  replace h := h a3 ea3
  refine lv_iinc (v := a3) (lv' := [(5, .int a3), (4, .int a2), (7, .int a1), (0, .ref (g.1 (4 * w0))), (1, .ref (g.1 (4 * w1))), (2, .ref (g.1 (4 * w2))), (3, .int i3), (6, .int i6)]) hx hb dX3_differ_81 hl (k := 6) rfl (by rw [ea3]; rfl) (by decide) rfl (fun ls hl => ?_)
  refine lv_goto (tgt := 19) hx hb dX3_differ_84 (by decide) ?_
  exact hN19 i3 a2 a3 _ h H locs ls hw hS (lv_sub hl [3, 4, 5, 6, 1, 0] rfl)
def wbX3_differ_19 (w0 : Nat) (w1 : Nat) (w2 : Nat) (Q : CS → Prop) (N19 : Int32 → Int32 → Int32 → CS → Prop) (i3 : Int32) (i4 : Int32) (i5 : Int32) (σ : CS) : Prop :=
  (i3 ≤ i5 →
    Q (sS σ w0 i3)) ∧
  (¬ i3 ≤ i5 →
    ((cS σ w2) ≤ i5 →
      wpX3_differ_47 w0 w1 w2 Q N19 i3 i4 i5 (0 : Int32) σ) ∧
    (¬ (cS σ w2) ≤ i5 →
      vp_in i5 (capW w2) ∧ (
      ∀ a4 : Int32, a4 = cF σ w2 i5.toNatClampNeg →
      wpX3_differ_47 w0 w1 w2 Q N19 i3 i4 i5 a4 σ)))
set_option maxRecDepth 100000 in
set_option maxHeartbeats 4000000 in
theorem wX3_differ_19 {p : Program} {l : Launch} {e : Env} {s : State} {m : MethodId} {args : Array Value} {below : List Frame} {meth : Method} {c : Code} {D : va_G} {A : Nat → Prop} {g : mG} (hg : inj g) {w0 : Nat} {w1 : Nat} {w2 : Nat} (hw0 : okW w0) (hw1 : okW w1) (hw2 : okW w2) (X : cx p m meth c s args cX3_differ 8 RX3 D (tyG g)) (hr : meth.sig.returnType = none) {Q : CS → Prop} : ∀ (n : Nat) (i3 : Int32) (i4 : Int32) (i5 : Int32) (σ : CS), lq4 (wbX3_differ_19 w0 w1 w2 Q) n i3 i4 i5 σ → cW p l e rmX3_differ s m args below meth c (MQ below (va_Qv Q (fun u t => wd D A (cT g u) t.heap) A) args s 0 0 A) D A (cT g σ) 19 8 [(0, .ref (g.1 (4 * w0))), (1, .ref (g.1 (4 * w1))), (2, .ref (g.1 (4 * w2))), (3, .int i3), (4, .int i4), (5, .int i5)] := by
  obtain ⟨hx, hb, hml, hown, hts, hK, hlk⟩ := id X
  intro n
  induction n with
  | zero =>
    intro i3 i4 i5 σ h
    exact h.elim
  | succ n hN19 =>
    intro i3 i4 i5 σ h H locs ls hw hS hl
    replace h : wbX3_differ_19 w0 w1 w2 Q (lq4 (wbX3_differ_19 w0 w1 w2 Q) n) i3 i4 i5 σ := h
    unfold wbX3_differ_19 at h
    refine lv_iload hx hb dX3_differ_19 (lv_at hl 5 rfl) ?_
    refine lv_iload_n hx hb dX3_differ_21 rfl (lv_at hl 3 rfl) ?_
    refine lv_icmp_ge (tgt := 87) hx hb dX3_differ_22 (by decide) (fun hc => ?_) (fun hc => ?_)
    · replace h := h.1 hc
      refine lv_aload_n hx hb dX3_differ_87 rfl (lv_at hl 0 rfl) ?_
      refine lv_iload_n hx hb dX3_differ_88 rfl (lv_at hl 3 rfl) ?_
      refine m_put (T' := cT g (sS σ w0 i3)) X hw hS (tW hw0) rfl inA_X3 tyX3 tyX3_ok nmX3 1 (by decide) mw_100 rfl pd_I (Nat.le_of_ble_eq_true rfl) (uS hg) dX3_differ_89 (fun H locs hw hS => ?_)
      exact m_vret X hr hw hS h dX3_differ_92
    · replace h := h.2 hc
      refine lv_iload hx hb dX3_differ_25 (lv_at hl 5 rfl) ?_
      refine lv_aload_n hx hb dX3_differ_27 rfl (lv_at hl 2 rfl) ?_
      refine m_get (v := .int (cS σ w2)) X hw (tW hw2) rfl inA_X3 1 (by decide) mw_100 rfl dX3_differ_28 ?_
      refine lv_icmp_ge (tgt := 44) hx hb dX3_differ_31 (by decide) (fun hc => ?_) (fun hc => ?_)
      · replace h := h.1 hc
        refine lv_iconst (v := (0 : Int32)) hx hb dX3_differ_44 (by decide) ?_
        refine lv_istore (lv' := [(6, .int (0 : Int32)), (0, .ref (g.1 (4 * w0))), (1, .ref (g.1 (4 * w1))), (2, .ref (g.1 (4 * w2))), (3, .int i3), (4, .int i4), (5, .int i5)]) hx hb dX3_differ_45 hl (by decide) rfl (fun ls hl => ?_)
        exact wX3_differ_47 hg hw0 hw1 hw2 X hr hN19 i3 i4 i5 (0 : Int32) _ h H locs ls hw hS (lv_sub hl [1, 2, 3, 4, 5, 6, 0] rfl)
      · replace h := h.2 hc
        refine lv_aload_n hx hb dX3_differ_34 rfl (lv_at hl 2 rfl) ?_
        refine m_get (v := .ref (g.1 (4 * w2 + 1))) X hw (tW hw2) rfl inA_X3 0 (by decide) mw_36 rfl dX3_differ_35 ?_
        refine lv_iload hx hb dX3_differ_38 (lv_at hl 5 rfl) ?_
        obtain ⟨hi, h⟩ := h
        refine m_iald X hw (tD hw2) 0 rfl hi dX3_differ_40 ?_
        refine lv_goto (tgt := 45) hx hb dX3_differ_41 (by decide) ?_
        refine lv_topi (fun a4 ea4 => ?_)
        replace h := h a4 ea4
        refine lv_istore (lv' := [(6, .int a4), (0, .ref (g.1 (4 * w0))), (1, .ref (g.1 (4 * w1))), (2, .ref (g.1 (4 * w2))), (3, .int i3), (4, .int i4), (5, .int i5)]) hx hb dX3_differ_45 hl (by decide) rfl (fun ls hl => ?_)
        exact wX3_differ_47 hg hw0 hw1 hw2 X hr hN19 i3 i4 i5 a4 _ h H locs ls hw hS (lv_sub hl [1, 2, 3, 4, 5, 6, 0] rfl)
def wpX3_differ_0 (w0 : Nat) (w1 : Nat) (w2 : Nat) (Q : CS → Prop) (σ : CS) : Prop :=
  ∀ a5 : Int32, a5 = (if (Int32.ofNat (capW w0)) < (cS σ w1) then (Int32.ofNat (capW w0)) else (cS σ w1)) →
  ∃ n, lq4 (wbX3_differ_19 w0 w1 w2 Q) n a5 (0 : Int32) (0 : Int32) σ
set_option maxRecDepth 100000 in
set_option maxHeartbeats 4000000 in
theorem wX3_differ_0 {p : Program} {l : Launch} {e : Env} {s : State} {m : MethodId} {args : Array Value} {below : List Frame} {meth : Method} {c : Code} {D : va_G} {A : Nat → Prop} {g : mG} (hg : inj g) {w0 : Nat} {w1 : Nat} {w2 : Nat} (hw0 : okW w0) (hw1 : okW w1) (hw2 : okW w2) (X : cx p m meth c s args cX3_differ 8 RX3 D (tyG g)) (hr : meth.sig.returnType = none) {Q : CS → Prop} : ∀ (σ : CS), wpX3_differ_0 w0 w1 w2 Q σ → cW p l e rmX3_differ s m args below meth c (MQ below (va_Qv Q (fun u t => wd D A (cT g u) t.heap) A) args s 0 0 A) D A (cT g σ) 0 8 [(0, .ref (g.1 (4 * w0))), (1, .ref (g.1 (4 * w1))), (2, .ref (g.1 (4 * w2)))] := by
  obtain ⟨hx, hb, hml, hown, hts, hK, hlk⟩ := id X
  intro σ h H locs ls hw hS hl
  unfold wpX3_differ_0 at h
  refine lv_aload_n hx hb dX3_differ_0 rfl (lv_at hl 1 rfl) ?_
  refine m_get (v := .int (cS σ w1)) X hw (tW hw1) rfl inA_X3 1 (by decide) mw_100 rfl dX3_differ_1 ?_
  refine lv_aload_n hx hb dX3_differ_4 rfl (lv_at hl 0 rfl) ?_
  refine m_get (v := .ref (g.1 (4 * w0 + 1))) X hw (tW hw0) rfl inA_X3 0 (by decide) mw_36 rfl dX3_differ_5 ?_
  refine m_alen (v := Int32.ofNat (capW w0)) X hw (tD hw0) 0 rfl rfl dX3_differ_8 ?_
  refine va_mmin hx hb (hml.trans hl.1.symm) hown (hts _ mw_186) (hts _ mw_53) (hts _ mw_54) (hts _ mw_55) (Nat.le_of_ble_eq_true rfl) (Nat.le_of_ble_eq_true rfl) (Nat.zero_le _) (Nat.zero_le _) dX3_differ_9 ?_
  refine lv_topi (fun a5 ea5 => ?_)
  replace h := h a5 ea5
  refine lv_istore_n (lv' := [(3, .int a5), (0, .ref (g.1 (4 * w0))), (1, .ref (g.1 (4 * w1))), (2, .ref (g.1 (4 * w2)))]) hx hb dX3_differ_12 rfl hl (by decide) rfl (fun ls hl => ?_)
  refine lv_iconst (v := (0 : Int32)) hx hb dX3_differ_13 (by decide) ?_
  refine lv_istore (lv' := [(4, .int (0 : Int32)), (3, .int a5), (0, .ref (g.1 (4 * w0))), (1, .ref (g.1 (4 * w1))), (2, .ref (g.1 (4 * w2)))]) hx hb dX3_differ_14 hl (by decide) rfl (fun ls hl => ?_)
  refine lv_iconst (v := (0 : Int32)) hx hb dX3_differ_16 (by decide) ?_
  refine lv_istore (lv' := [(5, .int (0 : Int32)), (4, .int (0 : Int32)), (3, .int a5), (0, .ref (g.1 (4 * w0))), (1, .ref (g.1 (4 * w1))), (2, .ref (g.1 (4 * w2)))]) hx hb dX3_differ_17 hl (by decide) rfl (fun ls hl => ?_)
  obtain ⟨n9, h⟩ := h
  exact wX3_differ_19 hg hw0 hw1 hw2 X hr n9 a5 (0 : Int32) (0 : Int32) _ h H locs ls hw hS (lv_sub hl [3, 4, 5, 2, 1, 0] rfl)
def wpX3_differ (w0 : Nat) (w1 : Nat) (w2 : Nat) (σ : CS) (Q : CS → Prop) : Prop := wpX3_differ_0 w0 w1 w2 Q σ
theorem kX3_differ {l : Launch} {D : va_G} {A : Nat → Prop} {g : mG} (hg : inj g) {w0 : Nat} {w1 : Nat} {w2 : Nat} (hw0 : okW w0) (hw1 : okW w1) (hw2 : okW w2) {σ : CS} {Q : CS → Prop} (h : wpX3_differ w0 w1 w2 σ Q) : Met l yX3_differ (Cond.code yX3_differ cX3_differ 8 none :: wsA) rmX3_differ (mPc D (tyG g) A (cT g σ) [.ref (g.1 (4 * w0)), .ref (g.1 (4 * w1)), .ref (g.1 (4 * w2))]) (va_Qv Q (fun u t => wd D A (cT g u) t.heap) A) 0 0 A :=
  m_met (by decide +kernel) (Nat.le_of_ble_eq_true rfl) (fun p e s m below meth c X hr H locs ls hw hS hl => wX3_differ_0 hg hw0 hw1 hw2 X hr σ h H locs ls hw hS (lv_sub hl [0, 1, 2] rfl))
theorem fX3_differ : vfit yX3_differ cX3_differ 8 none 2 := ⟨mw_214, mw_215, mw_29, mw_216, by decide +kernel, by decide +kernel, by decide +kernel⟩
/-! BigPolys$Whole.plus(LBigPolys$Whole;I)V -/
def rmX3_plus : Room := { frames := 2, cells := 0, slots := 0, locals := 51 }
def wpX3_plus_78 (w0 : Nat) (w1 : Nat) (x2 : Int32) (Q : CS → Prop) (σ : CS) : Prop :=
  wpX3_trim w0 σ (fun (σ2 : CS) =>
    Q σ2)
set_option maxRecDepth 100000 in
set_option maxHeartbeats 4000000 in
theorem wX3_plus_78 {p : Program} {l : Launch} {e : Env} {s : State} {m : MethodId} {args : Array Value} {below : List Frame} {meth : Method} {c : Code} {D : va_G} {A : Nat → Prop} {g : mG} (hg : inj g) {w0 : Nat} {w1 : Nat} {x2 : Int32} (hw0 : okW w0) (hw1 : okW w1) (X : cx p m meth c s args cX3_plus 4 RX3 D (tyG g)) (hr : meth.sig.returnType = none) {Q : CS → Prop} : ∀ (σ : CS), wpX3_plus_78 w0 w1 x2 Q σ → cW p l e rmX3_plus s m args below meth c (MQ below (va_Qv Q (fun u t => wd D A (cT g u) t.heap) A) args s 0 0 A) D A (cT g σ) 78 4 [(0, .ref (g.1 (4 * w0))), (1, .ref (g.1 (4 * w1))), (2, .int x2)] := by
  obtain ⟨hx, hb, hml, hown, hts, hK, hlk⟩ := id X
  intro σ h H locs ls hw hS hl
  unfold wpX3_plus_78 at h
  refine lv_aload_n hx hb dX3_plus_78 rfl (lv_at hl 0 rfl) ?_
  refine m_cVv (TT := cT g) (As := []) (rest := []) X hl.1 hw hS (kX3_trim hg hw0 h) mw_191 fX3_trim (tW hw0) rfl rfl ⟨rfl, rfl, Nat.le_of_ble_eq_true rfl, Nat.le_of_ble_eq_true rfl⟩ rfl rfl (Nat.le_of_ble_eq_true rfl) dX3_plus_79 (fun σ2 H locs h hw hS => ?_)
  exact m_vret X hr hw hS h dX3_plus_82
def wpX3_plus_37 (w0 : Nat) (w1 : Nat) (x2 : Int32) (Q : CS → Prop) (i3 : Int32) (σ : CS) : Prop :=
  wpX3_join w0 w1 (sG σ w0 i3) (fun (σ4 : CS) =>
    wpX3_plus_78 w0 w1 x2 Q σ4)
set_option maxRecDepth 100000 in
set_option maxHeartbeats 4000000 in
theorem wX3_plus_37 {p : Program} {l : Launch} {e : Env} {s : State} {m : MethodId} {args : Array Value} {below : List Frame} {meth : Method} {c : Code} {D : va_G} {A : Nat → Prop} {g : mG} (hg : inj g) {w0 : Nat} {w1 : Nat} {x2 : Int32} (hw0 : okW w0) (hw1 : okW w1) (X : cx p m meth c s args cX3_plus 4 RX3 D (tyG g)) (hr : meth.sig.returnType = none) {Q : CS → Prop} : ∀ (i3 : Int32) (σ : CS), wpX3_plus_37 w0 w1 x2 Q i3 σ → cW p l e rmX3_plus s m args below meth c (MQ below (va_Qv Q (fun u t => wd D A (cT g u) t.heap) A) args s 0 0 A) D A (cT g σ) 37 4 [(0, .ref (g.1 (4 * w0))), (1, .ref (g.1 (4 * w1))), (2, .int x2), (3, .int i3)] := by
  obtain ⟨hx, hb, hml, hown, hts, hK, hlk⟩ := id X
  intro i3 σ h H locs ls hw hS hl
  unfold wpX3_plus_37 at h
  refine lv_aload_n hx hb dX3_plus_37 rfl (lv_at hl 0 rfl) ?_
  refine lv_iload_n hx hb dX3_plus_38 rfl (lv_at hl 3 rfl) ?_
  refine m_put (T' := cT g (sG σ w0 i3)) X hw hS (tW hw0) rfl inA_X3 tyX3 tyX3_ok nmX3 2 (by decide) mw_101 rfl pd_I (Nat.le_of_ble_eq_true rfl) (uG hg) dX3_plus_39 (fun H locs hw hS => ?_)
  refine lv_aload_n hx hb dX3_plus_42 rfl (lv_at hl 0 rfl) ?_
  refine lv_aload_n hx hb dX3_plus_43 rfl (lv_at hl 1 rfl) ?_
  refine m_cVv (TT := cT g) (As := [.ref (g.1 (4 * w1))]) (rest := []) X hl.1 hw hS (kX3_join hg hw0 hw1 h) mw_201 fX3_join (tW hw0) rfl rfl ⟨rfl, rfl, Nat.le_of_ble_eq_true rfl, Nat.le_of_ble_eq_true rfl⟩ rfl rfl (Nat.le_of_ble_eq_true rfl) dX3_plus_44 (fun σ4 H locs h hw hS => ?_)
  refine lv_goto (tgt := 78) hx hb dX3_plus_47 (by decide) ?_
  exact wX3_plus_78 hg hw0 hw1 X hr _ h H locs ls hw hS (lv_sub hl [0, 1, 2] rfl)
def wpX3_plus_17 (w0 : Nat) (w1 : Nat) (x2 : Int32) (Q : CS → Prop) (i3 : Int32) (σ : CS) : Prop :=
  (¬ i3 = 0 →
    ((cG σ w0) = 0 →
      wpX3_plus_37 w0 w1 x2 Q i3 σ) ∧
    (¬ (cG σ w0) = 0 →
      (¬ (cG σ w0) = i3 →
        wpX3_compareAbs w0 w1 σ (fun (r5 : Int32) (σ6 : CS) =>
          (r5 < 0 →
            wpX3_differ w0 w1 w0 (sG σ6 w0 i3) (fun (σ8 : CS) =>
              wpX3_plus_78 w0 w1 x2 Q σ8)) ∧
          (¬ r5 < 0 →
            wpX3_differ w0 w0 w1 σ6 (fun (σ10 : CS) =>
              wpX3_plus_78 w0 w1 x2 Q σ10)))) ∧
      ((cG σ w0) = i3 →
        wpX3_plus_37 w0 w1 x2 Q i3 σ))) ∧
  (i3 = 0 →
    Q σ)
set_option maxRecDepth 100000 in
set_option maxHeartbeats 4000000 in
theorem wX3_plus_17 {p : Program} {l : Launch} {e : Env} {s : State} {m : MethodId} {args : Array Value} {below : List Frame} {meth : Method} {c : Code} {D : va_G} {A : Nat → Prop} {g : mG} (hg : inj g) {w0 : Nat} {w1 : Nat} {x2 : Int32} (hw0 : okW w0) (hw1 : okW w1) (X : cx p m meth c s args cX3_plus 4 RX3 D (tyG g)) (hr : meth.sig.returnType = none) {Q : CS → Prop} : ∀ (i3 : Int32) (σ : CS), wpX3_plus_17 w0 w1 x2 Q i3 σ → cW p l e rmX3_plus s m args below meth c (MQ below (va_Qv Q (fun u t => wd D A (cT g u) t.heap) A) args s 0 0 A) D A (cT g σ) 17 4 [(0, .ref (g.1 (4 * w0))), (1, .ref (g.1 (4 * w1))), (2, .int x2), (3, .int i3)] := by
  obtain ⟨hx, hb, hml, hown, hts, hK, hlk⟩ := id X
  intro i3 σ h H locs ls hw hS hl
  unfold wpX3_plus_17 at h
  refine lv_iload_n hx hb dX3_plus_17 rfl (lv_at hl 3 rfl) ?_
  refine lv_if_ne (tgt := 22) hx hb dX3_plus_18 (by decide) (fun hc => ?_) (fun hc => ?_)
  · replace h := h.1 hc
    refine lv_aload_n hx hb dX3_plus_22 rfl (lv_at hl 0 rfl) ?_
    refine m_get (v := .int (cG σ w0)) X hw (tW hw0) rfl inA_X3 2 (by decide) mw_101 rfl dX3_plus_23 ?_
    refine lv_if_eq (tgt := 37) hx hb dX3_plus_26 (by decide) (fun hc => ?_) (fun hc => ?_)
    · replace h := h.1 hc
      exact wX3_plus_37 hg hw0 hw1 X hr i3 _ h H locs ls hw hS (lv_sub hl [0, 1, 2, 3] rfl)
    · replace h := h.2 hc
      refine lv_aload_n hx hb dX3_plus_29 rfl (lv_at hl 0 rfl) ?_
      refine m_get (v := .int (cG σ w0)) X hw (tW hw0) rfl inA_X3 2 (by decide) mw_101 rfl dX3_plus_30 ?_
      refine lv_iload_n hx hb dX3_plus_33 rfl (lv_at hl 3 rfl) ?_
      refine lv_icmp_ne (tgt := 50) hx hb dX3_plus_34 (by decide) (fun hc => ?_) (fun hc => ?_)
      · replace h := h.1 hc
        refine lv_aload_n hx hb dX3_plus_50 rfl (lv_at hl 0 rfl) ?_
        refine lv_aload_n hx hb dX3_plus_51 rfl (lv_at hl 1 rfl) ?_
        refine m_cVi (TT := cT g) (As := [.ref (g.1 (4 * w1))]) (rest := []) X hl.1 hw hS (kX3_compareAbs hg hw0 hw1 h) mw_209 fX3_compareAbs (tW hw0) rfl rfl ⟨rfl, rfl, Nat.le_of_ble_eq_true rfl, Nat.le_of_ble_eq_true rfl⟩ rfl rfl (Nat.le_of_ble_eq_true rfl) dX3_plus_52 (fun r5 σ6 H locs h hw hS => ?_)
        refine lv_if_lt (tgt := 67) hx hb dX3_plus_55 (by decide) (fun hc => ?_) (fun hc => ?_)
        · replace h := h.1 hc
          refine lv_aload_n hx hb dX3_plus_67 rfl (lv_at hl 0 rfl) ?_
          refine lv_iload_n hx hb dX3_plus_68 rfl (lv_at hl 3 rfl) ?_
          refine m_put (T' := cT g (sG σ6 w0 i3)) X hw hS (tW hw0) rfl inA_X3 tyX3 tyX3_ok nmX3 2 (by decide) mw_101 rfl pd_I (Nat.le_of_ble_eq_true rfl) (uG hg) dX3_plus_69 (fun H locs hw hS => ?_)
          refine lv_aload_n hx hb dX3_plus_72 rfl (lv_at hl 0 rfl) ?_
          refine lv_aload_n hx hb dX3_plus_73 rfl (lv_at hl 1 rfl) ?_
          refine lv_aload_n hx hb dX3_plus_74 rfl (lv_at hl 0 rfl) ?_
          refine m_cVv (TT := cT g) (As := [.ref (g.1 (4 * w1)), .ref (g.1 (4 * w0))]) (rest := []) X hl.1 hw hS (kX3_differ hg hw0 hw1 hw0 h) mw_213 fX3_differ (tW hw0) rfl rfl ⟨rfl, rfl, Nat.le_of_ble_eq_true rfl, Nat.le_of_ble_eq_true rfl⟩ rfl rfl (Nat.le_of_ble_eq_true rfl) dX3_plus_75 (fun σ8 H locs h hw hS => ?_)
          exact wX3_plus_78 hg hw0 hw1 X hr _ h H locs ls hw hS (lv_sub hl [0, 1, 2] rfl)
        · replace h := h.2 hc
          refine lv_aload_n hx hb dX3_plus_58 rfl (lv_at hl 0 rfl) ?_
          refine lv_aload_n hx hb dX3_plus_59 rfl (lv_at hl 0 rfl) ?_
          refine lv_aload_n hx hb dX3_plus_60 rfl (lv_at hl 1 rfl) ?_
          refine m_cVv (TT := cT g) (As := [.ref (g.1 (4 * w0)), .ref (g.1 (4 * w1))]) (rest := []) X hl.1 hw hS (kX3_differ hg hw0 hw0 hw1 h) mw_213 fX3_differ (tW hw0) rfl rfl ⟨rfl, rfl, Nat.le_of_ble_eq_true rfl, Nat.le_of_ble_eq_true rfl⟩ rfl rfl (Nat.le_of_ble_eq_true rfl) dX3_plus_61 (fun σ10 H locs h hw hS => ?_)
          refine lv_goto (tgt := 78) hx hb dX3_plus_64 (by decide) ?_
          exact wX3_plus_78 hg hw0 hw1 X hr _ h H locs ls hw hS (lv_sub hl [0, 1, 2] rfl)
      · replace h := h.2 hc
        exact wX3_plus_37 hg hw0 hw1 X hr i3 _ h H locs ls hw hS (lv_sub hl [0, 1, 2, 3] rfl)
  · replace h := h.2 hc
    exact m_vret X hr hw hS h dX3_plus_21
def wpX3_plus_0 (w0 : Nat) (w1 : Nat) (x2 : Int32) (Q : CS → Prop) (σ : CS) : Prop :=
  (0 ≤ x2 →
    ∀ a11 : Int32, a11 = cG σ w1 →
    wpX3_plus_17 w0 w1 x2 Q a11 σ) ∧
  (¬ 0 ≤ x2 →
    ∀ a12 : Int32, a12 = -(cG σ w1) →
    wpX3_plus_17 w0 w1 x2 Q a12 σ)
set_option maxRecDepth 100000 in
set_option maxHeartbeats 4000000 in
theorem wX3_plus_0 {p : Program} {l : Launch} {e : Env} {s : State} {m : MethodId} {args : Array Value} {below : List Frame} {meth : Method} {c : Code} {D : va_G} {A : Nat → Prop} {g : mG} (hg : inj g) {w0 : Nat} {w1 : Nat} {x2 : Int32} (hw0 : okW w0) (hw1 : okW w1) (X : cx p m meth c s args cX3_plus 4 RX3 D (tyG g)) (hr : meth.sig.returnType = none) {Q : CS → Prop} : ∀ (σ : CS), wpX3_plus_0 w0 w1 x2 Q σ → cW p l e rmX3_plus s m args below meth c (MQ below (va_Qv Q (fun u t => wd D A (cT g u) t.heap) A) args s 0 0 A) D A (cT g σ) 0 4 [(0, .ref (g.1 (4 * w0))), (1, .ref (g.1 (4 * w1))), (2, .int x2)] := by
  obtain ⟨hx, hb, hml, hown, hts, hK, hlk⟩ := id X
  intro σ h H locs ls hw hS hl
  unfold wpX3_plus_0 at h
  refine lv_iload_n hx hb dX3_plus_0 rfl (lv_at hl 2 rfl) ?_
  refine lv_if_ge (tgt := 12) hx hb dX3_plus_1 (by decide) (fun hc => ?_) (fun hc => ?_)
  · replace h := h.1 hc
    refine lv_aload_n hx hb dX3_plus_12 rfl (lv_at hl 1 rfl) ?_
    refine m_get (v := .int (cG σ w1)) X hw (tW hw1) rfl inA_X3 2 (by decide) mw_101 rfl dX3_plus_13 ?_
    refine lv_topi (fun a11 ea11 => ?_)
    replace h := h a11 ea11
    refine lv_istore_n (lv' := [(3, .int a11), (0, .ref (g.1 (4 * w0))), (1, .ref (g.1 (4 * w1))), (2, .int x2)]) hx hb dX3_plus_16 rfl hl (by decide) rfl (fun ls hl => ?_)
    exact wX3_plus_17 hg hw0 hw1 X hr a11 _ h H locs ls hw hS (lv_sub hl [1, 2, 3, 0] rfl)
  · replace h := h.2 hc
    refine lv_aload_n hx hb dX3_plus_4 rfl (lv_at hl 1 rfl) ?_
    refine m_get (v := .int (cG σ w1)) X hw (tW hw1) rfl inA_X3 2 (by decide) mw_101 rfl dX3_plus_5 ?_
    refine lv_ineg hx hb dX3_plus_8 ?_
    refine lv_goto (tgt := 16) hx hb dX3_plus_9 (by decide) ?_
    refine lv_topi (fun a12 ea12 => ?_)
    replace h := h a12 ea12
    refine lv_istore_n (lv' := [(3, .int a12), (0, .ref (g.1 (4 * w0))), (1, .ref (g.1 (4 * w1))), (2, .int x2)]) hx hb dX3_plus_16 rfl hl (by decide) rfl (fun ls hl => ?_)
    exact wX3_plus_17 hg hw0 hw1 X hr a12 _ h H locs ls hw hS (lv_sub hl [1, 2, 3, 0] rfl)
def wpX3_plus (w0 : Nat) (w1 : Nat) (x2 : Int32) (σ : CS) (Q : CS → Prop) : Prop := wpX3_plus_0 w0 w1 x2 Q σ
theorem kX3_plus {l : Launch} {D : va_G} {A : Nat → Prop} {g : mG} (hg : inj g) {w0 : Nat} {w1 : Nat} {x2 : Int32} (hw0 : okW w0) (hw1 : okW w1) {σ : CS} {Q : CS → Prop} (h : wpX3_plus w0 w1 x2 σ Q) : Met l yX3_plus (Cond.code yX3_plus cX3_plus 4 none :: wsA) rmX3_plus (mPc D (tyG g) A (cT g σ) [.ref (g.1 (4 * w0)), .ref (g.1 (4 * w1)), .int x2]) (va_Qv Q (fun u t => wd D A (cT g u) t.heap) A) 0 0 A :=
  m_met (by decide +kernel) (Nat.le_of_ble_eq_true rfl) (fun p e s m below meth c X hr H locs ls hw hS hl => wX3_plus_0 hg hw0 hw1 X hr σ h H locs ls hw hS (lv_sub hl [0, 1, 2] rfl))
theorem fX3_plus : vfit yX3_plus cX3_plus 4 none 2 := ⟨mw_198, mw_199, mw_29, mw_200, by decide +kernel, by decide +kernel, by decide +kernel⟩
end
section
/-! BigPolys$Whole.scale(J)V -/
def rmX3_scale : Room := { frames := 1, cells := 0, slots := 0, locals := 20 }
def wpX3_scale_136 (w0 : Nat) (y1 : Int64) (Q : CS → Prop) (σ : CS) : Prop :=
  (0 ≤ (lg_cmp y1 (0 : Int64)) →
    Q (sG σ w0 (cG σ w0))) ∧
  (¬ 0 ≤ (lg_cmp y1 (0 : Int64)) →
    Q (sG σ w0 (-(cG σ w0))))
set_option maxRecDepth 100000 in
set_option maxHeartbeats 4000000 in
theorem wX3_scale_136 {p : Program} {l : Launch} {e : Env} {s : State} {m : MethodId} {args : Array Value} {below : List Frame} {meth : Method} {c : Code} {D : va_G} {A : Nat → Prop} {g : mG} (hg : inj g) {w0 : Nat} {y1 : Int64} (hw0 : okW w0) (X : cx p m meth c s args cX3_scale 10 RX3 D (tyG g)) (hr : meth.sig.returnType = none) {Q : CS → Prop} : ∀ (σ : CS), wpX3_scale_136 w0 y1 Q σ → cW p l e rmX3_scale s m args below meth c (MQ below (va_Qv Q (fun u t => wd D A (cT g u) t.heap) A) args s 0 0 A) D A (cT g σ) 136 10 [(0, .ref (g.1 (4 * w0))), (1, .long y1)] := by
  obtain ⟨hx, hb, hml, hown, hts, hK, hlk⟩ := id X
  intro σ h H locs ls hw hS hl
  unfold wpX3_scale_136 at h
  refine lv_aload_n hx hb dX3_scale_136 rfl (lv_at hl 0 rfl) ?_
  refine lv_lload_n hx hb dX3_scale_137 rfl (lv_at hl 1 rfl) ?_
  refine lv_lconst (v := (0 : Int64)) hx hb dX3_scale_138 (by decide) ?_
  refine W.lcmp hx hb dX3_scale_139 ?_
  refine lv_if_ge (tgt := 151) hx hb dX3_scale_140 (by decide) (fun hc => ?_) (fun hc => ?_)
  · replace h := h.1 hc
    refine lv_aload_n hx hb dX3_scale_151 rfl (lv_at hl 0 rfl) ?_
    refine m_get (v := .int (cG σ w0)) X hw (tW hw0) rfl inA_X3 2 (by decide) mw_101 rfl dX3_scale_152 ?_
    refine m_put (T' := cT g (sG σ w0 (cG σ w0))) X hw hS (tW hw0) rfl inA_X3 tyX3 tyX3_ok nmX3 2 (by decide) mw_101 rfl pd_I (Nat.le_of_ble_eq_true rfl) (uG hg) dX3_scale_155 (fun H locs hw hS => ?_)
    exact m_vret X hr hw hS h dX3_scale_158
  · replace h := h.2 hc
    refine lv_aload_n hx hb dX3_scale_143 rfl (lv_at hl 0 rfl) ?_
    refine m_get (v := .int (cG σ w0)) X hw (tW hw0) rfl inA_X3 2 (by decide) mw_101 rfl dX3_scale_144 ?_
    refine lv_ineg hx hb dX3_scale_147 ?_
    refine lv_goto (tgt := 155) hx hb dX3_scale_148 (by decide) ?_
    refine m_put (T' := cT g (sG σ w0 (-(cG σ w0)))) X hw hS (tW hw0) rfl inA_X3 tyX3 tyX3_ok nmX3 2 (by decide) mw_101 rfl pd_I (Nat.le_of_ble_eq_true rfl) (uG hg) dX3_scale_155 (fun H locs hw hS => ?_)
    exact m_vret X hr hw hS h dX3_scale_158
def wbX3_scale_81 (w0 : Nat) (y1 : Int64) (Q : CS → Prop) (N81 : Int64 → CS → Prop) (l5 : Int64) (σ : CS) : Prop :=
  ((lg_cmp l5 (0 : Int64)) = 0 →
    wpX3_scale_136 w0 y1 Q σ) ∧
  (¬ (lg_cmp l5 (0 : Int64)) = 0 →
    ((Int32.ofNat (capW w0)) ≤ (cS σ w0) →
      wpX3_scale_136 w0 y1 Q σ) ∧
    (¬ (Int32.ofNat (capW w0)) ≤ (cS σ w0) →
      vp_in (cS σ w0) (capW w0) ∧ (
      ∀ b1 : Int64, b1 = jlushr l5 (31 : Int32) →
      N81 b1 (sS (sFi σ w0 (cS σ w0) ((l5 &&& (2147483647 : Int64)).toInt32)) w0 ((cS (sFi σ w0 (cS σ w0) ((l5 &&& (2147483647 : Int64)).toInt32)) w0) + (1 : Int32))))))
set_option maxRecDepth 100000 in
set_option maxHeartbeats 4000000 in
theorem wX3_scale_81 {p : Program} {l : Launch} {e : Env} {s : State} {m : MethodId} {args : Array Value} {below : List Frame} {meth : Method} {c : Code} {D : va_G} {A : Nat → Prop} {g : mG} (hg : inj g) {w0 : Nat} {y1 : Int64} (hw0 : okW w0) (X : cx p m meth c s args cX3_scale 10 RX3 D (tyG g)) (hr : meth.sig.returnType = none) {Q : CS → Prop} : ∀ (n : Nat) (l5 : Int64) (σ : CS), lq2 (wbX3_scale_81 w0 y1 Q) n l5 σ → cW p l e rmX3_scale s m args below meth c (MQ below (va_Qv Q (fun u t => wd D A (cT g u) t.heap) A) args s 0 0 A) D A (cT g σ) 81 10 [(0, .ref (g.1 (4 * w0))), (1, .long y1), (5, .long l5)] := by
  obtain ⟨hx, hb, hml, hown, hts, hK, hlk⟩ := id X
  intro n
  induction n with
  | zero =>
    intro l5 σ h
    exact h.elim
  | succ n hN81 =>
    intro l5 σ h H locs ls hw hS hl
    replace h : wbX3_scale_81 w0 y1 Q (lq2 (wbX3_scale_81 w0 y1 Q) n) l5 σ := h
    unfold wbX3_scale_81 at h
    refine lv_lload hx hb dX3_scale_81 (lv_at hl 2 rfl) ?_
    refine lv_lconst (v := (0 : Int64)) hx hb dX3_scale_83 (by decide) ?_
    refine W.lcmp hx hb dX3_scale_84 ?_
    refine lv_if_eq (tgt := 136) hx hb dX3_scale_85 (by decide) (fun hc => ?_) (fun hc => ?_)
    · replace h := h.1 hc
      exact wX3_scale_136 hg hw0 X hr _ h H locs ls hw hS (lv_sub hl [0, 1] rfl)
    · replace h := h.2 hc
      refine lv_aload_n hx hb dX3_scale_88 rfl (lv_at hl 0 rfl) ?_
      refine m_get (v := .int (cS σ w0)) X hw (tW hw0) rfl inA_X3 1 (by decide) mw_100 rfl dX3_scale_89 ?_
      refine lv_aload_n hx hb dX3_scale_92 rfl (lv_at hl 0 rfl) ?_
      refine m_get (v := .ref (g.1 (4 * w0 + 1))) X hw (tW hw0) rfl inA_X3 0 (by decide) mw_36 rfl dX3_scale_93 ?_
      refine m_alen (v := Int32.ofNat (capW w0)) X hw (tD hw0) 0 rfl rfl dX3_scale_96 ?_
      refine lv_icmp_ge (tgt := 136) hx hb dX3_scale_97 (by decide) (fun hc => ?_) (fun hc => ?_)
      · replace h := h.1 hc
        exact wX3_scale_136 hg hw0 X hr _ h H locs ls hw hS (lv_sub hl [0, 1] rfl)
      · replace h := h.2 hc
        refine lv_aload_n hx hb dX3_scale_100 rfl (lv_at hl 0 rfl) ?_
        refine m_get (v := .ref (g.1 (4 * w0 + 1))) X hw (tW hw0) rfl inA_X3 0 (by decide) mw_36 rfl dX3_scale_101 ?_
        refine lv_aload_n hx hb dX3_scale_104 rfl (lv_at hl 0 rfl) ?_
        refine m_get (v := .int (cS σ w0)) X hw (tW hw0) rfl inA_X3 1 (by decide) mw_100 rfl dX3_scale_105 ?_
        refine lv_lload hx hb dX3_scale_108 (lv_at hl 2 rfl) ?_
        refine lv_ldc2 (v := (2147483647 : Int64)) hx hb hown (hts _ mw_259) dX3_scale_110 ?_
        refine lv_land hx hb dX3_scale_113 ?_
        refine lv_l2i (v := (l5 &&& (2147483647 : Int64)).toInt32) hx hb dX3_scale_114 rfl ?_
        obtain ⟨hi, h⟩ := h
        refine m_iast (T' := cT g (sFi σ w0 (cS σ w0) ((l5 &&& (2147483647 : Int64)).toInt32))) X hw hS (tD hw0) 0 rfl hi (uF hg) dX3_scale_115 (fun H locs hw hS => ?_)
        refine lv_aload_n hx hb dX3_scale_116 rfl (lv_at hl 0 rfl) ?_
        refine lv_dup hx hb dX3_scale_117 rfl ?_
        refine m_get (v := .int (cS (sFi σ w0 (cS σ w0) ((l5 &&& (2147483647 : Int64)).toInt32)) w0)) X hw (tW hw0) rfl inA_X3 1 (by decide) mw_100 rfl dX3_scale_118 ?_
        refine lv_iconst (v := (1 : Int32)) hx hb dX3_scale_121 (by decide) ?_
        refine lv_iadd hx hb dX3_scale_122 ?_
        refine m_put (T' := cT g (sS (sFi σ w0 (cS σ w0) ((l5 &&& (2147483647 : Int64)).toInt32)) w0 ((cS (sFi σ w0 (cS σ w0) ((l5 &&& (2147483647 : Int64)).toInt32)) w0) + (1 : Int32)))) X hw hS (tW hw0) rfl inA_X3 tyX3 tyX3_ok nmX3 1 (by decide) mw_100 rfl pd_I (Nat.le_of_ble_eq_true rfl) (uS hg) dX3_scale_123 (fun H locs hw hS => ?_)
        refine lv_lload hx hb dX3_scale_126 (lv_at hl 2 rfl) ?_
        refine lv_bipush (v := (31 : Int32)) hx hb dX3_scale_128 (by decide) ?_
        refine lv_lushr (v := jlushr l5 (31 : Int32)) hx hb dX3_scale_130 rfl ?_
        refine lv_topl (fun b1 eb1 => ?_)
        replace h := h b1 eb1
        refine lv_lstore (lv' := [(5, .long b1), (0, .ref (g.1 (4 * w0))), (1, .long y1)]) hx hb dX3_scale_131 hl (by decide) rfl (fun ls hl => ?_)
        refine lv_goto (tgt := 81) hx hb dX3_scale_133 (by decide) ?_
        exact hN81 b1 _ h H locs ls hw hS (lv_sub hl [1, 2, 0] rfl)
def wbX3_scale_30 (w0 : Nat) (y1 : Int64) (Q : CS → Prop) (N30 : Int64 → Int64 → Int32 → CS → Prop) (l3 : Int64) (l5 : Int64) (i7 : Int32) (σ : CS) : Prop :=
  ((cS σ w0) ≤ i7 →
    ∃ n, lq2 (wbX3_scale_81 w0 y1 Q) n l5 σ) ∧
  (¬ (cS σ w0) ≤ i7 →
    vp_in i7 (capW w0) ∧ (
    ∀ b2 : Int64, b2 = (((cF σ w0 i7.toNatClampNeg).toInt64) * l3) + l5 →
    vp_in i7 (capW w0) ∧ (
    ∀ b3 : Int64, b3 = jlushr b2 (31 : Int32) →
    ∀ a4 : Int32, a4 = i7 + (1 : Int32) →
    N30 l3 b3 a4 (sFi σ w0 i7 ((b2 &&& (2147483647 : Int64)).toInt32)))))
set_option maxRecDepth 100000 in
set_option maxHeartbeats 4000000 in
theorem wX3_scale_30 {p : Program} {l : Launch} {e : Env} {s : State} {m : MethodId} {args : Array Value} {below : List Frame} {meth : Method} {c : Code} {D : va_G} {A : Nat → Prop} {g : mG} (hg : inj g) {w0 : Nat} {y1 : Int64} (hw0 : okW w0) (X : cx p m meth c s args cX3_scale 10 RX3 D (tyG g)) (hr : meth.sig.returnType = none) {Q : CS → Prop} : ∀ (n : Nat) (l3 : Int64) (l5 : Int64) (i7 : Int32) (σ : CS), lq4 (wbX3_scale_30 w0 y1 Q) n l3 l5 i7 σ → cW p l e rmX3_scale s m args below meth c (MQ below (va_Qv Q (fun u t => wd D A (cT g u) t.heap) A) args s 0 0 A) D A (cT g σ) 30 10 [(0, .ref (g.1 (4 * w0))), (1, .long y1), (3, .long l3), (5, .long l5), (7, .int i7)] := by
  obtain ⟨hx, hb, hml, hown, hts, hK, hlk⟩ := id X
  intro n
  induction n with
  | zero =>
    intro l3 l5 i7 σ h
    exact h.elim
  | succ n hN30 =>
    intro l3 l5 i7 σ h H locs ls hw hS hl
    replace h : wbX3_scale_30 w0 y1 Q (lq4 (wbX3_scale_30 w0 y1 Q) n) l3 l5 i7 σ := h
    unfold wbX3_scale_30 at h
    refine lv_iload hx hb dX3_scale_30 (lv_at hl 4 rfl) ?_
    refine lv_aload_n hx hb dX3_scale_32 rfl (lv_at hl 0 rfl) ?_
    refine m_get (v := .int (cS σ w0)) X hw (tW hw0) rfl inA_X3 1 (by decide) mw_100 rfl dX3_scale_33 ?_
    refine lv_icmp_ge (tgt := 81) hx hb dX3_scale_36 (by decide) (fun hc => ?_) (fun hc => ?_)
    · replace h := h.1 hc
      obtain ⟨n9, h⟩ := h
      exact wX3_scale_81 hg hw0 X hr n9 l5 _ h H locs ls hw hS (lv_sub hl [0, 1, 3] rfl)
    · replace h := h.2 hc
      refine lv_aload_n hx hb dX3_scale_39 rfl (lv_at hl 0 rfl) ?_
      refine m_get (v := .ref (g.1 (4 * w0 + 1))) X hw (tW hw0) rfl inA_X3 0 (by decide) mw_36 rfl dX3_scale_40 ?_
      refine lv_iload hx hb dX3_scale_43 (lv_at hl 4 rfl) ?_
      obtain ⟨hi, h⟩ := h
      refine m_iald X hw (tD hw0) 0 rfl hi dX3_scale_45 ?_
      refine lv_i2l (v := (cF σ w0 i7.toNatClampNeg).toInt64) hx hb dX3_scale_46 rfl ?_
      refine lv_lload_n hx hb dX3_scale_47 rfl (lv_at hl 2 rfl) ?_
      refine lv_lmul hx hb dX3_scale_48 ?_
      refine lv_lload hx hb dX3_scale_49 (lv_at hl 3 rfl) ?_
      refine lv_ladd hx hb dX3_scale_51 ?_
      refine lv_topl (fun b2 eb2 => ?_)
      replace h := h b2 eb2
      refine lv_lstore (lv' := [(8, .long b2), (0, .ref (g.1 (4 * w0))), (1, .long y1), (3, .long l3), (5, .long l5), (7, .int i7)]) hx hb dX3_scale_52 hl (by decide) rfl (fun ls hl => ?_)
      refine lv_aload_n hx hb dX3_scale_54 rfl (lv_at hl 1 rfl) ?_
      refine m_get (v := .ref (g.1 (4 * w0 + 1))) X hw (tW hw0) rfl inA_X3 0 (by decide) mw_36 rfl dX3_scale_55 ?_
      refine lv_iload hx hb dX3_scale_58 (lv_at hl 5 rfl) ?_
      refine lv_lload hx hb dX3_scale_60 (lv_at hl 0 rfl) ?_
      refine lv_ldc2 (v := (2147483647 : Int64)) hx hb hown (hts _ mw_259) dX3_scale_62 ?_
      refine lv_land hx hb dX3_scale_65 ?_
      refine lv_l2i (v := (b2 &&& (2147483647 : Int64)).toInt32) hx hb dX3_scale_66 rfl ?_
      obtain ⟨hi, h⟩ := h
      refine m_iast (T' := cT g (sFi σ w0 i7 ((b2 &&& (2147483647 : Int64)).toInt32))) X hw hS (tD hw0) 0 rfl hi (uF hg) dX3_scale_67 (fun H locs hw hS => ?_)
      refine lv_lload hx hb dX3_scale_68 (lv_at hl 0 rfl) ?_
      refine lv_bipush (v := (31 : Int32)) hx hb dX3_scale_70 (by decide) ?_
      refine lv_lushr (v := jlushr b2 (31 : Int32)) hx hb dX3_scale_72 rfl ?_
      refine lv_topl (fun b3 eb3 => ?_)
      replace h := h b3 eb3
      refine lv_lstore (lv' := [(5, .long b3), (8, .long b2), (0, .ref (g.1 (4 * w0))), (1, .long y1), (3, .long l3), (7, .int i7)]) hx hb dX3_scale_73 hl (by decide) rfl (fun ls hl => ?_)
      obtain ⟨a4, ea4⟩ : ∃ z : Int32, z = i7 + (1 : Int32) := ⟨_, rfl⟩
      replace h := h a4 ea4
      refine lv_iinc (v := a4) (lv' := [(7, .int a4), (5, .long b3), (8, .long b2), (0, .ref (g.1 (4 * w0))), (1, .long y1), (3, .long l3)]) hx hb dX3_scale_75 hl (k := 5) rfl (by rw [ea4]; rfl) (by decide) rfl (fun ls hl => ?_)
      refine lv_goto (tgt := 30) hx hb dX3_scale_78 (by decide) ?_
      exact hN30 l3 b3 a4 _ h H locs ls hw hS (lv_sub hl [3, 4, 5, 1, 0] rfl)
def wpX3_scale_24 (w0 : Nat) (y1 : Int64) (Q : CS → Prop) (l3 : Int64) (σ : CS) : Prop :=
  ∃ n, lq4 (wbX3_scale_30 w0 y1 Q) n l3 (0 : Int64) (0 : Int32) σ
set_option maxRecDepth 100000 in
set_option maxHeartbeats 4000000 in
theorem wX3_scale_24 {p : Program} {l : Launch} {e : Env} {s : State} {m : MethodId} {args : Array Value} {below : List Frame} {meth : Method} {c : Code} {D : va_G} {A : Nat → Prop} {g : mG} (hg : inj g) {w0 : Nat} {y1 : Int64} (hw0 : okW w0) (X : cx p m meth c s args cX3_scale 10 RX3 D (tyG g)) (hr : meth.sig.returnType = none) {Q : CS → Prop} : ∀ (l3 : Int64) (σ : CS), wpX3_scale_24 w0 y1 Q l3 σ → cW p l e rmX3_scale s m args below meth c (MQ below (va_Qv Q (fun u t => wd D A (cT g u) t.heap) A) args s 0 0 A) D A (cT g σ) 24 10 [(0, .ref (g.1 (4 * w0))), (1, .long y1), (3, .long l3)] := by
  obtain ⟨hx, hb, hml, hown, hts, hK, hlk⟩ := id X
  intro l3 σ h H locs ls hw hS hl
  unfold wpX3_scale_24 at h
  refine lv_lconst (v := (0 : Int64)) hx hb dX3_scale_24 (by decide) ?_
  refine lv_lstore (lv' := [(5, .long (0 : Int64)), (0, .ref (g.1 (4 * w0))), (1, .long y1), (3, .long l3)]) hx hb dX3_scale_25 hl (by decide) rfl (fun ls hl => ?_)
  refine lv_iconst (v := (0 : Int32)) hx hb dX3_scale_27 (by decide) ?_
  refine lv_istore (lv' := [(7, .int (0 : Int32)), (5, .long (0 : Int64)), (0, .ref (g.1 (4 * w0))), (1, .long y1), (3, .long l3)]) hx hb dX3_scale_28 hl (by decide) rfl (fun ls hl => ?_)
  obtain ⟨n9, h⟩ := h
  exact wX3_scale_30 hg hw0 X hr n9 l3 (0 : Int64) (0 : Int32) _ h H locs ls hw hS (lv_sub hl [2, 3, 4, 1, 0] rfl)
def wpX3_scale_0 (w0 : Nat) (y1 : Int64) (Q : CS → Prop) (σ : CS) : Prop :=
  (¬ (lg_cmp y1 (0 : Int64)) = 0 →
    (0 ≤ (lg_cmp y1 (0 : Int64)) →
      wpX3_scale_24 w0 y1 Q y1 σ) ∧
    (¬ 0 ≤ (lg_cmp y1 (0 : Int64)) →
      ∀ b5 : Int64, b5 = -y1 →
      wpX3_scale_24 w0 y1 Q b5 σ)) ∧
  ((lg_cmp y1 (0 : Int64)) = 0 →
    wpX3_clear w0 σ (fun (σ7 : CS) =>
      Q σ7))
set_option maxRecDepth 100000 in
set_option maxHeartbeats 4000000 in
theorem wX3_scale_0 {p : Program} {l : Launch} {e : Env} {s : State} {m : MethodId} {args : Array Value} {below : List Frame} {meth : Method} {c : Code} {D : va_G} {A : Nat → Prop} {g : mG} (hg : inj g) {w0 : Nat} {y1 : Int64} (hw0 : okW w0) (X : cx p m meth c s args cX3_scale 10 RX3 D (tyG g)) (hr : meth.sig.returnType = none) {Q : CS → Prop} : ∀ (σ : CS), wpX3_scale_0 w0 y1 Q σ → cW p l e rmX3_scale s m args below meth c (MQ below (va_Qv Q (fun u t => wd D A (cT g u) t.heap) A) args s 0 0 A) D A (cT g σ) 0 10 [(0, .ref (g.1 (4 * w0))), (1, .long y1)] := by
  obtain ⟨hx, hb, hml, hown, hts, hK, hlk⟩ := id X
  intro σ h H locs ls hw hS hl
  unfold wpX3_scale_0 at h
  refine lv_lload_n hx hb dX3_scale_0 rfl (lv_at hl 1 rfl) ?_
  refine lv_lconst (v := (0 : Int64)) hx hb dX3_scale_1 (by decide) ?_
  refine W.lcmp hx hb dX3_scale_2 ?_
  refine lv_if_ne (tgt := 11) hx hb dX3_scale_3 (by decide) (fun hc => ?_) (fun hc => ?_)
  · replace h := h.1 hc
    refine lv_lload_n hx hb dX3_scale_11 rfl (lv_at hl 1 rfl) ?_
    refine lv_lconst (v := (0 : Int64)) hx hb dX3_scale_12 (by decide) ?_
    refine W.lcmp hx hb dX3_scale_13 ?_
    refine lv_if_ge (tgt := 22) hx hb dX3_scale_14 (by decide) (fun hc => ?_) (fun hc => ?_)
    · replace h := h.1 hc
      refine lv_lload_n hx hb dX3_scale_22 rfl (lv_at hl 1 rfl) ?_
      refine lv_lstore_n (lv' := [(3, .long y1), (0, .ref (g.1 (4 * w0))), (1, .long y1)]) hx hb dX3_scale_23 rfl hl (by decide) rfl (fun ls hl => ?_)
      exact wX3_scale_24 hg hw0 X hr y1 _ h H locs ls hw hS (lv_sub hl [1, 2, 0] rfl)
    · replace h := h.2 hc
      refine lv_lload_n hx hb dX3_scale_17 rfl (lv_at hl 1 rfl) ?_
      refine lv_lneg hx hb dX3_scale_18 ?_
      refine lv_goto (tgt := 23) hx hb dX3_scale_19 (by decide) ?_
      refine lv_topl (fun b5 eb5 => ?_)
      replace h := h b5 eb5
      refine lv_lstore_n (lv' := [(3, .long b5), (0, .ref (g.1 (4 * w0))), (1, .long y1)]) hx hb dX3_scale_23 rfl hl (by decide) rfl (fun ls hl => ?_)
      exact wX3_scale_24 hg hw0 X hr b5 _ h H locs ls hw hS (lv_sub hl [1, 2, 0] rfl)
  · replace h := h.2 hc
    refine lv_aload_n hx hb dX3_scale_6 rfl (lv_at hl 0 rfl) ?_
    refine m_cVv (TT := cT g) (As := []) (rest := []) X hl.1 hw hS (kX3_clear hg hw0 h) mw_291 fX3_clear (tW hw0) rfl rfl ⟨rfl, rfl, Nat.le_of_ble_eq_true rfl, Nat.le_of_ble_eq_true rfl⟩ rfl rfl (Nat.le_of_ble_eq_true rfl) dX3_scale_7 (fun σ7 H locs h hw hS => ?_)
    exact m_vret X hr hw hS h dX3_scale_10
def wpX3_scale (w0 : Nat) (y1 : Int64) (σ : CS) (Q : CS → Prop) : Prop := wpX3_scale_0 w0 y1 Q σ
theorem kX3_scale {l : Launch} {D : va_G} {A : Nat → Prop} {g : mG} (hg : inj g) {w0 : Nat} {y1 : Int64} (hw0 : okW w0) {σ : CS} {Q : CS → Prop} (h : wpX3_scale w0 y1 σ Q) : Met l yX3_scale (Cond.code yX3_scale cX3_scale 10 none :: wsA) rmX3_scale (mPc D (tyG g) A (cT g σ) [.ref (g.1 (4 * w0)), .long y1]) (va_Qv Q (fun u t => wd D A (cT g u) t.heap) A) 0 0 A :=
  m_met (by decide +kernel) (Nat.le_of_ble_eq_true rfl) (fun p e s m below meth c X hr H locs ls hw hS hl => wX3_scale_0 hg hw0 X hr σ h H locs ls hw hS (lv_sub hl [0, 1] rfl))
theorem fX3_scale : vfit yX3_scale cX3_scale 10 none 1 := ⟨mw_288, mw_289, mw_29, mw_290, by decide +kernel, by decide +kernel, by decide +kernel⟩
/-! BigPolys$Whole.product(LBigPolys$Whole;LBigPolys$Whole;)V -/
def rmX3_product : Room := { frames := 2, cells := 0, slots := 0, locals := 46 }
def wpX3_product_158 (w0 : Nat) (w1 : Nat) (w2 : Nat) (Q : CS → Prop) (N31 : Int32 → Int32 → CS → Prop) (i3 : Int32) (i4 : Int32) (σ : CS) : Prop :=
  ∀ a1 : Int32, a1 = i4 + (1 : Int32) →
  N31 i3 a1 σ
set_option maxRecDepth 100000 in
set_option maxHeartbeats 4000000 in
theorem wX3_product_158 {p : Program} {l : Launch} {e : Env} {s : State} {m : MethodId} {args : Array Value} {below : List Frame} {meth : Method} {c : Code} {D : va_G} {A : Nat → Prop} {g : mG} (hg : inj g) {w0 : Nat} {w1 : Nat} {w2 : Nat} (hw0 : okW w0) (hw1 : okW w1) (hw2 : okW w2) (X : cx p m meth c s args cX3_product 12 RX3 D (tyG g)) (hr : meth.sig.returnType = none) {Q : CS → Prop} {N31 : Int32 → Int32 → CS → Prop} (hN31 : ∀ (i3 : Int32) (i4 : Int32) (σ : CS), N31 i3 i4 σ → cW p l e rmX3_product s m args below meth c (MQ below (va_Qv Q (fun u t => wd D A (cT g u) t.heap) A) args s 0 0 A) D A (cT g σ) 31 12 [(0, .ref (g.1 (4 * w0))), (1, .ref (g.1 (4 * w1))), (2, .ref (g.1 (4 * w2))), (3, .int i3), (4, .int i4)]) : ∀ (i3 : Int32) (i4 : Int32) (σ : CS), wpX3_product_158 w0 w1 w2 Q N31 i3 i4 σ → cW p l e rmX3_product s m args below meth c (MQ below (va_Qv Q (fun u t => wd D A (cT g u) t.heap) A) args s 0 0 A) D A (cT g σ) 158 12 [(0, .ref (g.1 (4 * w0))), (1, .ref (g.1 (4 * w1))), (2, .ref (g.1 (4 * w2))), (3, .int i3), (4, .int i4)] := by
  obtain ⟨hx, hb, hml, hown, hts, hK, hlk⟩ := id X
  intro i3 i4 σ h H locs ls hw hS hl
  unfold wpX3_product_158 at h
  obtain ⟨a1, ea1⟩ : ∃ z : Int32, z = i4 + (1 : Int32) := ⟨_, rfl⟩
  replace h := h a1 ea1
  refine lv_iinc (v := a1) (lv' := [(4, .int a1), (0, .ref (g.1 (4 * w0))), (1, .ref (g.1 (4 * w1))), (2, .ref (g.1 (4 * w2))), (3, .int i3)]) hx hb dX3_product_158 hl (k := 4) rfl (by rw [ea1]; rfl) (by decide) rfl (fun ls hl => ?_)
  refine lv_goto (tgt := 31) hx hb dX3_product_161 (by decide) ?_
  exact hN31 i3 a1 _ h H locs ls hw hS (lv_sub hl [1, 2, 3, 4, 0] rfl)
def wpX3_product_132 (w0 : Nat) (w1 : Nat) (w2 : Nat) (Q : CS → Prop) (N31 : Int32 → Int32 → CS → Prop) (i3 : Int32) (i4 : Int32) (l7 : Int64) (σ : CS) : Prop :=
  (i3 ≤ (i4 + (cS σ w2)) →
    wpX3_product_158 w0 w1 w2 Q N31 i3 i4 σ) ∧
  (¬ i3 ≤ (i4 + (cS σ w2)) →
    vp_in (i4 + (cS σ w2)) (capW w0) ∧ (
    wpX3_product_158 w0 w1 w2 Q N31 i3 i4 (sFi σ w0 (i4 + (cS σ w2)) l7.toInt32)))
set_option maxRecDepth 100000 in
set_option maxHeartbeats 4000000 in
theorem wX3_product_132 {p : Program} {l : Launch} {e : Env} {s : State} {m : MethodId} {args : Array Value} {below : List Frame} {meth : Method} {c : Code} {D : va_G} {A : Nat → Prop} {g : mG} (hg : inj g) {w0 : Nat} {w1 : Nat} {w2 : Nat} (hw0 : okW w0) (hw1 : okW w1) (hw2 : okW w2) (X : cx p m meth c s args cX3_product 12 RX3 D (tyG g)) (hr : meth.sig.returnType = none) {Q : CS → Prop} {N31 : Int32 → Int32 → CS → Prop} (hN31 : ∀ (i3 : Int32) (i4 : Int32) (σ : CS), N31 i3 i4 σ → cW p l e rmX3_product s m args below meth c (MQ below (va_Qv Q (fun u t => wd D A (cT g u) t.heap) A) args s 0 0 A) D A (cT g σ) 31 12 [(0, .ref (g.1 (4 * w0))), (1, .ref (g.1 (4 * w1))), (2, .ref (g.1 (4 * w2))), (3, .int i3), (4, .int i4)]) : ∀ (i3 : Int32) (i4 : Int32) (l7 : Int64) (σ : CS), wpX3_product_132 w0 w1 w2 Q N31 i3 i4 l7 σ → cW p l e rmX3_product s m args below meth c (MQ below (va_Qv Q (fun u t => wd D A (cT g u) t.heap) A) args s 0 0 A) D A (cT g σ) 132 12 [(0, .ref (g.1 (4 * w0))), (1, .ref (g.1 (4 * w1))), (2, .ref (g.1 (4 * w2))), (3, .int i3), (4, .int i4), (7, .long l7)] := by
  obtain ⟨hx, hb, hml, hown, hts, hK, hlk⟩ := id X
  intro i3 i4 l7 σ h H locs ls hw hS hl
  unfold wpX3_product_132 at h
  refine lv_iload hx hb dX3_product_132 (lv_at hl 4 rfl) ?_
  refine lv_aload_n hx hb dX3_product_134 rfl (lv_at hl 2 rfl) ?_
  refine m_get (v := .int (cS σ w2)) X hw (tW hw2) rfl inA_X3 1 (by decide) mw_100 rfl dX3_product_135 ?_
  refine lv_iadd hx hb dX3_product_138 ?_
  refine lv_iload_n hx hb dX3_product_139 rfl (lv_at hl 3 rfl) ?_
  refine lv_icmp_ge (tgt := 158) hx hb dX3_product_140 (by decide) (fun hc => ?_) (fun hc => ?_)
  · replace h := h.1 hc
    exact wX3_product_158 hg hw0 hw1 hw2 X hr hN31 i3 i4 _ h H locs ls hw hS (lv_sub hl [0, 1, 2, 3, 4] rfl)
  · replace h := h.2 hc
    refine lv_aload_n hx hb dX3_product_143 rfl (lv_at hl 0 rfl) ?_
    refine m_get (v := .ref (g.1 (4 * w0 + 1))) X hw (tW hw0) rfl inA_X3 0 (by decide) mw_36 rfl dX3_product_144 ?_
    refine lv_iload hx hb dX3_product_147 (lv_at hl 4 rfl) ?_
    refine lv_aload_n hx hb dX3_product_149 rfl (lv_at hl 2 rfl) ?_
    refine m_get (v := .int (cS σ w2)) X hw (tW hw2) rfl inA_X3 1 (by decide) mw_100 rfl dX3_product_150 ?_
    refine lv_iadd hx hb dX3_product_153 ?_
    refine lv_lload hx hb dX3_product_154 (lv_at hl 5 rfl) ?_
    refine lv_l2i (v := l7.toInt32) hx hb dX3_product_156 rfl ?_
    obtain ⟨hi, h⟩ := h
    refine m_iast (T' := cT g (sFi σ w0 (i4 + (cS σ w2)) l7.toInt32)) X hw hS (tD hw0) 0 rfl hi (uF hg) dX3_product_157 (fun H locs hw hS => ?_)
    exact wX3_product_158 hg hw0 hw1 hw2 X hr hN31 i3 i4 _ h H locs ls hw hS (lv_sub hl [0, 1, 2, 3, 4] rfl)
def wbX3_product_56 (w0 : Nat) (w1 : Nat) (w2 : Nat) (Q : CS → Prop) (N31 : Int32 → Int32 → CS → Prop) (N56 : Int32 → Int32 → Int64 → Int64 → Int32 → CS → Prop) (i3 : Int32) (i4 : Int32) (l5 : Int64) (l7 : Int64) (i9 : Int32) (σ : CS) : Prop :=
  ((cS σ w2) ≤ i9 →
    wpX3_product_132 w0 w1 w2 Q N31 i3 i4 l7 σ) ∧
  (¬ (cS σ w2) ≤ i9 →
    (i3 ≤ (i4 + i9) →
      wpX3_product_132 w0 w1 w2 Q N31 i3 i4 l7 σ) ∧
    (¬ i3 ≤ (i4 + i9) →
      vp_in i9 (capW w2) ∧ (
      vp_in (i4 + i9) (capW w0) ∧ (
      ∀ b2 : Int64, b2 = ((l5 * ((cF σ w2 i9.toNatClampNeg).toInt64)) + ((cF σ w0 (i4 + i9).toNatClampNeg).toInt64)) + l7 →
      vp_in (i4 + i9) (capW w0) ∧ (
      ∀ b3 : Int64, b3 = jlushr b2 (31 : Int32) →
      ∀ a4 : Int32, a4 = i9 + (1 : Int32) →
      N56 i3 i4 l5 b3 a4 (sFi σ w0 (i4 + i9) ((b2 &&& (2147483647 : Int64)).toInt32)))))))
set_option maxRecDepth 100000 in
set_option maxHeartbeats 4000000 in
theorem wX3_product_56 {p : Program} {l : Launch} {e : Env} {s : State} {m : MethodId} {args : Array Value} {below : List Frame} {meth : Method} {c : Code} {D : va_G} {A : Nat → Prop} {g : mG} (hg : inj g) {w0 : Nat} {w1 : Nat} {w2 : Nat} (hw0 : okW w0) (hw1 : okW w1) (hw2 : okW w2) (X : cx p m meth c s args cX3_product 12 RX3 D (tyG g)) (hr : meth.sig.returnType = none) {Q : CS → Prop} {N31 : Int32 → Int32 → CS → Prop} (hN31 : ∀ (i3 : Int32) (i4 : Int32) (σ : CS), N31 i3 i4 σ → cW p l e rmX3_product s m args below meth c (MQ below (va_Qv Q (fun u t => wd D A (cT g u) t.heap) A) args s 0 0 A) D A (cT g σ) 31 12 [(0, .ref (g.1 (4 * w0))), (1, .ref (g.1 (4 * w1))), (2, .ref (g.1 (4 * w2))), (3, .int i3), (4, .int i4)]) : ∀ (n : Nat) (i3 : Int32) (i4 : Int32) (l5 : Int64) (l7 : Int64) (i9 : Int32) (σ : CS), lq6 (wbX3_product_56 w0 w1 w2 Q N31) n i3 i4 l5 l7 i9 σ → cW p l e rmX3_product s m args below meth c (MQ below (va_Qv Q (fun u t => wd D A (cT g u) t.heap) A) args s 0 0 A) D A (cT g σ) 56 12 [(0, .ref (g.1 (4 * w0))), (1, .ref (g.1 (4 * w1))), (2, .ref (g.1 (4 * w2))), (3, .int i3), (4, .int i4), (5, .long l5), (7, .long l7), (9, .int i9)] := by
  obtain ⟨hx, hb, hml, hown, hts, hK, hlk⟩ := id X
  intro n
  induction n with
  | zero =>
    intro i3 i4 l5 l7 i9 σ h
    exact h.elim
  | succ n hN56 =>
    intro i3 i4 l5 l7 i9 σ h H locs ls hw hS hl
    replace h : wbX3_product_56 w0 w1 w2 Q N31 (lq6 (wbX3_product_56 w0 w1 w2 Q N31) n) i3 i4 l5 l7 i9 σ := h
    unfold wbX3_product_56 at h
    refine lv_iload hx hb dX3_product_56 (lv_at hl 7 rfl) ?_
    refine lv_aload_n hx hb dX3_product_58 rfl (lv_at hl 2 rfl) ?_
    refine m_get (v := .int (cS σ w2)) X hw (tW hw2) rfl inA_X3 1 (by decide) mw_100 rfl dX3_product_59 ?_
    refine lv_icmp_ge (tgt := 132) hx hb dX3_product_62 (by decide) (fun hc => ?_) (fun hc => ?_)
    · replace h := h.1 hc
      exact wX3_product_132 hg hw0 hw1 hw2 X hr hN31 i3 i4 l7 _ h H locs ls hw hS (lv_sub hl [0, 1, 2, 3, 4, 6] rfl)
    · replace h := h.2 hc
      refine lv_iload hx hb dX3_product_65 (lv_at hl 4 rfl) ?_
      refine lv_iload hx hb dX3_product_67 (lv_at hl 7 rfl) ?_
      refine lv_iadd hx hb dX3_product_69 ?_
      refine lv_iload_n hx hb dX3_product_70 rfl (lv_at hl 3 rfl) ?_
      refine lv_icmp_ge (tgt := 132) hx hb dX3_product_71 (by decide) (fun hc => ?_) (fun hc => ?_)
      · replace h := h.1 hc
        exact wX3_product_132 hg hw0 hw1 hw2 X hr hN31 i3 i4 l7 _ h H locs ls hw hS (lv_sub hl [0, 1, 2, 3, 4, 6] rfl)
      · replace h := h.2 hc
        refine lv_lload hx hb dX3_product_74 (lv_at hl 5 rfl) ?_
        refine lv_aload_n hx hb dX3_product_76 rfl (lv_at hl 2 rfl) ?_
        refine m_get (v := .ref (g.1 (4 * w2 + 1))) X hw (tW hw2) rfl inA_X3 0 (by decide) mw_36 rfl dX3_product_77 ?_
        refine lv_iload hx hb dX3_product_80 (lv_at hl 7 rfl) ?_
        obtain ⟨hi, h⟩ := h
        refine m_iald X hw (tD hw2) 0 rfl hi dX3_product_82 ?_
        refine lv_i2l (v := (cF σ w2 i9.toNatClampNeg).toInt64) hx hb dX3_product_83 rfl ?_
        refine lv_lmul hx hb dX3_product_84 ?_
        refine lv_aload_n hx hb dX3_product_85 rfl (lv_at hl 0 rfl) ?_
        refine m_get (v := .ref (g.1 (4 * w0 + 1))) X hw (tW hw0) rfl inA_X3 0 (by decide) mw_36 rfl dX3_product_86 ?_
        refine lv_iload hx hb dX3_product_89 (lv_at hl 4 rfl) ?_
        refine lv_iload hx hb dX3_product_91 (lv_at hl 7 rfl) ?_
        refine lv_iadd hx hb dX3_product_93 ?_
        obtain ⟨hi, h⟩ := h
        refine m_iald X hw (tD hw0) 0 rfl hi dX3_product_94 ?_
        refine lv_i2l (v := (cF σ w0 (i4 + i9).toNatClampNeg).toInt64) hx hb dX3_product_95 rfl ?_
        refine lv_ladd hx hb dX3_product_96 ?_
        refine lv_lload hx hb dX3_product_97 (lv_at hl 6 rfl) ?_
        refine lv_ladd hx hb dX3_product_99 ?_
        refine lv_topl (fun b2 eb2 => ?_)
        replace h := h b2 eb2
        refine lv_lstore (lv' := [(10, .long b2), (0, .ref (g.1 (4 * w0))), (1, .ref (g.1 (4 * w1))), (2, .ref (g.1 (4 * w2))), (3, .int i3), (4, .int i4), (5, .long l5), (7, .long l7), (9, .int i9)]) hx hb dX3_product_100 hl (by decide) rfl (fun ls hl => ?_)
        refine lv_aload_n hx hb dX3_product_102 rfl (lv_at hl 1 rfl) ?_
        refine m_get (v := .ref (g.1 (4 * w0 + 1))) X hw (tW hw0) rfl inA_X3 0 (by decide) mw_36 rfl dX3_product_103 ?_
        refine lv_iload hx hb dX3_product_106 (lv_at hl 5 rfl) ?_
        refine lv_iload hx hb dX3_product_108 (lv_at hl 8 rfl) ?_
        refine lv_iadd hx hb dX3_product_110 ?_
        refine lv_lload hx hb dX3_product_111 (lv_at hl 0 rfl) ?_
        refine lv_ldc2 (v := (2147483647 : Int64)) hx hb hown (hts _ mw_259) dX3_product_113 ?_
        refine lv_land hx hb dX3_product_116 ?_
        refine lv_l2i (v := (b2 &&& (2147483647 : Int64)).toInt32) hx hb dX3_product_117 rfl ?_
        obtain ⟨hi, h⟩ := h
        refine m_iast (T' := cT g (sFi σ w0 (i4 + i9) ((b2 &&& (2147483647 : Int64)).toInt32))) X hw hS (tD hw0) 0 rfl hi (uF hg) dX3_product_118 (fun H locs hw hS => ?_)
        refine lv_lload hx hb dX3_product_119 (lv_at hl 0 rfl) ?_
        refine lv_bipush (v := (31 : Int32)) hx hb dX3_product_121 (by decide) ?_
        refine lv_lushr (v := jlushr b2 (31 : Int32)) hx hb dX3_product_123 rfl ?_
        refine lv_topl (fun b3 eb3 => ?_)
        replace h := h b3 eb3
        refine lv_lstore (lv' := [(7, .long b3), (10, .long b2), (0, .ref (g.1 (4 * w0))), (1, .ref (g.1 (4 * w1))), (2, .ref (g.1 (4 * w2))), (3, .int i3), (4, .int i4), (5, .long l5), (9, .int i9)]) hx hb dX3_product_124 hl (by decide) rfl (fun ls hl => ?_)
        obtain ⟨a4, ea4⟩ : ∃ z : Int32, z = i9 + (1 : Int32) := ⟨_, rfl⟩
        replace h := h a4 ea4
        refine lv_iinc (v := a4) (lv' := [(9, .int a4), (7, .long b3), (10, .long b2), (0, .ref (g.1 (4 * w0))), (1, .ref (g.1 (4 * w1))), (2, .ref (g.1 (4 * w2))), (3, .int i3), (4, .int i4), (5, .long l5)]) hx hb dX3_product_126 hl (k := 8) rfl (by rw [ea4]; rfl) (by decide) rfl (fun ls hl => ?_)
        refine lv_goto (tgt := 56) hx hb dX3_product_129 (by decide) ?_
        exact hN56 i3 i4 l5 b3 a4 _ h H locs ls hw hS (lv_sub hl [3, 4, 5, 6, 7, 8, 1, 0] rfl)
def wbX3_product_31 (w0 : Nat) (w1 : Nat) (w2 : Nat) (Q : CS → Prop) (N31 : Int32 → Int32 → CS → Prop) (i3 : Int32) (i4 : Int32) (σ : CS) : Prop :=
  ((cS σ w1) ≤ i4 →
    wpX3_trim w0 (sG (sS σ w0 i3) w0 ((cG (sS σ w0 i3) w1) * (cG (sS σ w0 i3) w2))) (fun (σ6 : CS) =>
      Q σ6)) ∧
  (¬ (cS σ w1) ≤ i4 →
    vp_in i4 (capW w1) ∧ (
    ∀ b7 : Int64, b7 = (cF σ w1 i4.toNatClampNeg).toInt64 →
    ∃ n, lq6 (wbX3_product_56 w0 w1 w2 Q N31) n i3 i4 b7 (0 : Int64) (0 : Int32) σ))
set_option maxRecDepth 100000 in
set_option maxHeartbeats 4000000 in
theorem wX3_product_31 {p : Program} {l : Launch} {e : Env} {s : State} {m : MethodId} {args : Array Value} {below : List Frame} {meth : Method} {c : Code} {D : va_G} {A : Nat → Prop} {g : mG} (hg : inj g) {w0 : Nat} {w1 : Nat} {w2 : Nat} (hw0 : okW w0) (hw1 : okW w1) (hw2 : okW w2) (X : cx p m meth c s args cX3_product 12 RX3 D (tyG g)) (hr : meth.sig.returnType = none) {Q : CS → Prop} : ∀ (n : Nat) (i3 : Int32) (i4 : Int32) (σ : CS), lq3 (wbX3_product_31 w0 w1 w2 Q) n i3 i4 σ → cW p l e rmX3_product s m args below meth c (MQ below (va_Qv Q (fun u t => wd D A (cT g u) t.heap) A) args s 0 0 A) D A (cT g σ) 31 12 [(0, .ref (g.1 (4 * w0))), (1, .ref (g.1 (4 * w1))), (2, .ref (g.1 (4 * w2))), (3, .int i3), (4, .int i4)] := by
  obtain ⟨hx, hb, hml, hown, hts, hK, hlk⟩ := id X
  intro n
  induction n with
  | zero =>
    intro i3 i4 σ h
    exact h.elim
  | succ n hN31 =>
    intro i3 i4 σ h H locs ls hw hS hl
    replace h : wbX3_product_31 w0 w1 w2 Q (lq3 (wbX3_product_31 w0 w1 w2 Q) n) i3 i4 σ := h
    unfold wbX3_product_31 at h
    refine lv_iload hx hb dX3_product_31 (lv_at hl 4 rfl) ?_
    refine lv_aload_n hx hb dX3_product_33 rfl (lv_at hl 1 rfl) ?_
    refine m_get (v := .int (cS σ w1)) X hw (tW hw1) rfl inA_X3 1 (by decide) mw_100 rfl dX3_product_34 ?_
    refine lv_icmp_ge (tgt := 164) hx hb dX3_product_37 (by decide) (fun hc => ?_) (fun hc => ?_)
    · replace h := h.1 hc
      refine lv_aload_n hx hb dX3_product_164 rfl (lv_at hl 0 rfl) ?_
      refine lv_iload_n hx hb dX3_product_165 rfl (lv_at hl 3 rfl) ?_
      refine m_put (T' := cT g (sS σ w0 i3)) X hw hS (tW hw0) rfl inA_X3 tyX3 tyX3_ok nmX3 1 (by decide) mw_100 rfl pd_I (Nat.le_of_ble_eq_true rfl) (uS hg) dX3_product_166 (fun H locs hw hS => ?_)
      refine lv_aload_n hx hb dX3_product_169 rfl (lv_at hl 0 rfl) ?_
      refine lv_aload_n hx hb dX3_product_170 rfl (lv_at hl 1 rfl) ?_
      refine m_get (v := .int (cG (sS σ w0 i3) w1)) X hw (tW hw1) rfl inA_X3 2 (by decide) mw_101 rfl dX3_product_171 ?_
      refine lv_aload_n hx hb dX3_product_174 rfl (lv_at hl 2 rfl) ?_
      refine m_get (v := .int (cG (sS σ w0 i3) w2)) X hw (tW hw2) rfl inA_X3 2 (by decide) mw_101 rfl dX3_product_175 ?_
      refine lv_imul hx hb dX3_product_178 ?_
      refine m_put (T' := cT g (sG (sS σ w0 i3) w0 ((cG (sS σ w0 i3) w1) * (cG (sS σ w0 i3) w2)))) X hw hS (tW hw0) rfl inA_X3 tyX3 tyX3_ok nmX3 2 (by decide) mw_101 rfl pd_I (Nat.le_of_ble_eq_true rfl) (uG hg) dX3_product_179 (fun H locs hw hS => ?_)
      refine lv_aload_n hx hb dX3_product_182 rfl (lv_at hl 0 rfl) ?_
      refine m_cVv (TT := cT g) (As := []) (rest := []) X hl.1 hw hS (kX3_trim hg hw0 h) mw_191 fX3_trim (tW hw0) rfl rfl ⟨rfl, rfl, Nat.le_of_ble_eq_true rfl, Nat.le_of_ble_eq_true rfl⟩ rfl rfl (Nat.le_of_ble_eq_true rfl) dX3_product_183 (fun σ6 H locs h hw hS => ?_)
      exact m_vret X hr hw hS h dX3_product_186
    · replace h := h.2 hc
      refine lv_aload_n hx hb dX3_product_40 rfl (lv_at hl 1 rfl) ?_
      refine m_get (v := .ref (g.1 (4 * w1 + 1))) X hw (tW hw1) rfl inA_X3 0 (by decide) mw_36 rfl dX3_product_41 ?_
      refine lv_iload hx hb dX3_product_44 (lv_at hl 4 rfl) ?_
      obtain ⟨hi, h⟩ := h
      refine m_iald X hw (tD hw1) 0 rfl hi dX3_product_46 ?_
      refine lv_i2l (v := (cF σ w1 i4.toNatClampNeg).toInt64) hx hb dX3_product_47 rfl ?_
      refine lv_topl (fun b7 eb7 => ?_)
      replace h := h b7 eb7
      refine lv_lstore (lv' := [(5, .long b7), (0, .ref (g.1 (4 * w0))), (1, .ref (g.1 (4 * w1))), (2, .ref (g.1 (4 * w2))), (3, .int i3), (4, .int i4)]) hx hb dX3_product_48 hl (by decide) rfl (fun ls hl => ?_)
      refine lv_lconst (v := (0 : Int64)) hx hb dX3_product_50 (by decide) ?_
      refine lv_lstore (lv' := [(7, .long (0 : Int64)), (5, .long b7), (0, .ref (g.1 (4 * w0))), (1, .ref (g.1 (4 * w1))), (2, .ref (g.1 (4 * w2))), (3, .int i3), (4, .int i4)]) hx hb dX3_product_51 hl (by decide) rfl (fun ls hl => ?_)
      refine lv_iconst (v := (0 : Int32)) hx hb dX3_product_53 (by decide) ?_
      refine lv_istore (lv' := [(9, .int (0 : Int32)), (7, .long (0 : Int64)), (5, .long b7), (0, .ref (g.1 (4 * w0))), (1, .ref (g.1 (4 * w1))), (2, .ref (g.1 (4 * w2))), (3, .int i3), (4, .int i4)]) hx hb dX3_product_54 hl (by decide) rfl (fun ls hl => ?_)
      obtain ⟨n9, h⟩ := h
      exact wX3_product_56 hg hw0 hw1 hw2 X hr hN31 n9 i3 i4 b7 (0 : Int64) (0 : Int32) _ h H locs ls hw hS (lv_sub hl [3, 4, 5, 6, 7, 2, 1, 0] rfl)
def wpX3_product_0 (w0 : Nat) (w1 : Nat) (w2 : Nat) (Q : CS → Prop) (σ : CS) : Prop :=
  ∀ a8 : Int32, a8 = (if (Int32.ofNat (capW w0)) < ((cS σ w1) + (cS σ w2)) then (Int32.ofNat (capW w0)) else ((cS σ w1) + (cS σ w2))) →
  wpJ7_fill_fda19 w0 (0 : Int32) a8 (0 : Int32) σ (fun (σ10 : CS) =>
    ∃ n, lq3 (wbX3_product_31 w0 w1 w2 Q) n a8 (0 : Int32) σ10)
set_option maxRecDepth 100000 in
set_option maxHeartbeats 4000000 in
theorem wX3_product_0 {p : Program} {l : Launch} {e : Env} {s : State} {m : MethodId} {args : Array Value} {below : List Frame} {meth : Method} {c : Code} {D : va_G} {A : Nat → Prop} {g : mG} (hg : inj g) {w0 : Nat} {w1 : Nat} {w2 : Nat} (hw0 : okW w0) (hw1 : okW w1) (hw2 : okW w2) (X : cx p m meth c s args cX3_product 12 RX3 D (tyG g)) (hr : meth.sig.returnType = none) {Q : CS → Prop} : ∀ (σ : CS), wpX3_product_0 w0 w1 w2 Q σ → cW p l e rmX3_product s m args below meth c (MQ below (va_Qv Q (fun u t => wd D A (cT g u) t.heap) A) args s 0 0 A) D A (cT g σ) 0 12 [(0, .ref (g.1 (4 * w0))), (1, .ref (g.1 (4 * w1))), (2, .ref (g.1 (4 * w2)))] := by
  obtain ⟨hx, hb, hml, hown, hts, hK, hlk⟩ := id X
  intro σ h H locs ls hw hS hl
  unfold wpX3_product_0 at h
  refine lv_aload_n hx hb dX3_product_0 rfl (lv_at hl 1 rfl) ?_
  refine m_get (v := .int (cS σ w1)) X hw (tW hw1) rfl inA_X3 1 (by decide) mw_100 rfl dX3_product_1 ?_
  refine lv_aload_n hx hb dX3_product_4 rfl (lv_at hl 2 rfl) ?_
  refine m_get (v := .int (cS σ w2)) X hw (tW hw2) rfl inA_X3 1 (by decide) mw_100 rfl dX3_product_5 ?_
  refine lv_iadd hx hb dX3_product_8 ?_
  refine lv_aload_n hx hb dX3_product_9 rfl (lv_at hl 0 rfl) ?_
  refine m_get (v := .ref (g.1 (4 * w0 + 1))) X hw (tW hw0) rfl inA_X3 0 (by decide) mw_36 rfl dX3_product_10 ?_
  refine m_alen (v := Int32.ofNat (capW w0)) X hw (tD hw0) 0 rfl rfl dX3_product_13 ?_
  refine va_mmin hx hb (hml.trans hl.1.symm) hown (hts _ mw_186) (hts _ mw_53) (hts _ mw_54) (hts _ mw_55) (Nat.le_of_ble_eq_true rfl) (Nat.le_of_ble_eq_true rfl) (Nat.zero_le _) (Nat.zero_le _) dX3_product_14 ?_
  refine lv_topi (fun a8 ea8 => ?_)
  replace h := h a8 ea8
  refine lv_istore_n (lv' := [(3, .int a8), (0, .ref (g.1 (4 * w0))), (1, .ref (g.1 (4 * w1))), (2, .ref (g.1 (4 * w2)))]) hx hb dX3_product_17 rfl hl (by decide) rfl (fun ls hl => ?_)
  refine lv_aload_n hx hb dX3_product_18 rfl (lv_at hl 1 rfl) ?_
  refine m_get (v := .ref (g.1 (4 * w0 + 1))) X hw (tW hw0) rfl inA_X3 0 (by decide) mw_36 rfl dX3_product_19 ?_
  refine lv_iconst (v := (0 : Int32)) hx hb dX3_product_22 (by decide) ?_
  refine lv_iload_n hx hb dX3_product_23 rfl (lv_at hl 0 rfl) ?_
  refine lv_iconst (v := (0 : Int32)) hx hb dX3_product_24 (by decide) ?_
  refine m_cSv (TT := cT g) (As := [.ref (g.1 (4 * w0 + 1)), .int (0 : Int32), .int a8, .int (0 : Int32)]) (rest := []) X hl.1 hw hS (kJ7_fill_fda19 hg hw0 h) mw_260 fJ7_fill_fda19 ⟨rfl, rfl, Nat.le_of_ble_eq_true rfl, Nat.le_of_ble_eq_true rfl⟩ rfl rfl (Nat.le_of_ble_eq_true rfl) dX3_product_25 (fun σ10 H locs h hw hS => ?_)
  refine lv_iconst (v := (0 : Int32)) hx hb dX3_product_28 (by decide) ?_
  refine lv_istore (lv' := [(4, .int (0 : Int32)), (3, .int a8), (0, .ref (g.1 (4 * w0))), (1, .ref (g.1 (4 * w1))), (2, .ref (g.1 (4 * w2)))]) hx hb dX3_product_29 hl (by decide) rfl (fun ls hl => ?_)
  obtain ⟨n9, h⟩ := h
  exact wX3_product_31 hg hw0 hw1 hw2 X hr n9 a8 (0 : Int32) _ h H locs ls hw hS (lv_sub hl [2, 3, 4, 1, 0] rfl)
def wpX3_product (w0 : Nat) (w1 : Nat) (w2 : Nat) (σ : CS) (Q : CS → Prop) : Prop := wpX3_product_0 w0 w1 w2 Q σ
theorem kX3_product {l : Launch} {D : va_G} {A : Nat → Prop} {g : mG} (hg : inj g) {w0 : Nat} {w1 : Nat} {w2 : Nat} (hw0 : okW w0) (hw1 : okW w1) (hw2 : okW w2) {σ : CS} {Q : CS → Prop} (h : wpX3_product w0 w1 w2 σ Q) : Met l yX3_product (Cond.code yX3_product cX3_product 12 none :: wsA) rmX3_product (mPc D (tyG g) A (cT g σ) [.ref (g.1 (4 * w0)), .ref (g.1 (4 * w1)), .ref (g.1 (4 * w2))]) (va_Qv Q (fun u t => wd D A (cT g u) t.heap) A) 0 0 A :=
  m_met (by decide +kernel) (Nat.le_of_ble_eq_true rfl) (fun p e s m below meth c X hr H locs ls hw hS hl => wX3_product_0 hg hw0 hw1 hw2 X hr σ h H locs ls hw hS (lv_sub hl [0, 1, 2] rfl))
theorem fX3_product : vfit yX3_product cX3_product 12 none 2 := ⟨mw_256, mw_257, mw_29, mw_258, by decide +kernel, by decide +kernel, by decide +kernel⟩
/-! BigPolys$Whole.window(II)J -/
def rmX3_window : Room := { frames := 0, cells := 0, slots := 0, locals := 0 }
def wpX3_window_50 (w0 : Nat) (x1 : Int32) (x2 : Int32) (Q : Int64 → CS → Prop) (i3 : Int32) (i4 : Int32) (σ : CS) : Prop :=
  Q ((((i3 <<< (x2 &&& 31)) ||| (jushr i4 ((31 : Int32) - x2))) &&& (2147483647 : Int32)).toInt64) σ
set_option maxRecDepth 100000 in
set_option maxHeartbeats 4000000 in
theorem wX3_window_50 {p : Program} {l : Launch} {e : Env} {s : State} {m : MethodId} {args : Array Value} {below : List Frame} {meth : Method} {c : Code} {D : va_G} {A : Nat → Prop} {g : mG} (hg : inj g) {w0 : Nat} {x1 : Int32} {x2 : Int32} (hw0 : okW w0) (X : cx p m meth c s args cX3_window 5 RX3 D (tyG g)) (hr : meth.sig.returnType = (some .long)) {Q : Int64 → CS → Prop} : ∀ (i3 : Int32) (i4 : Int32) (σ : CS), wpX3_window_50 w0 x1 x2 Q i3 i4 σ → cW p l e rmX3_window s m args below meth c (MQ below (va_Ql Q (fun u t => wd D A (cT g u) t.heap) A) args s 0 0 A) D A (cT g σ) 50 5 [(0, .ref (g.1 (4 * w0))), (1, .int x1), (2, .int x2), (3, .int i3), (4, .int i4)] := by
  obtain ⟨hx, hb, hml, hown, hts, hK, hlk⟩ := id X
  intro i3 i4 σ h H locs ls hw hS hl
  unfold wpX3_window_50 at h
  refine lv_iload_n hx hb dX3_window_50 rfl (lv_at hl 3 rfl) ?_
  refine lv_iload_n hx hb dX3_window_51 rfl (lv_at hl 2 rfl) ?_
  refine lv_ishl hx hb dX3_window_52 ?_
  refine lv_iload hx hb dX3_window_53 (lv_at hl 4 rfl) ?_
  refine lv_bipush (v := (31 : Int32)) hx hb dX3_window_55 (by decide) ?_
  refine lv_iload_n hx hb dX3_window_57 rfl (lv_at hl 2 rfl) ?_
  refine lv_isub hx hb dX3_window_58 ?_
  refine lv_iushr (v := jushr i4 ((31 : Int32) - x2)) hx hb dX3_window_59 rfl ?_
  refine lv_ior hx hb dX3_window_60 ?_
  refine lv_ldc (v := (2147483647 : Int32)) hx hb hown (hts _ mw_208) dX3_window_61 ?_
  refine lv_iand hx hb dX3_window_63 ?_
  refine lv_i2l (v := (((i3 <<< (x2 &&& 31)) ||| (jushr i4 ((31 : Int32) - x2))) &&& (2147483647 : Int32)).toInt64) hx hb dX3_window_64 rfl ?_
  exact m_lret X hr hw hS h dX3_window_65
def wpX3_window_47 (w0 : Nat) (x1 : Int32) (x2 : Int32) (Q : Int64 → CS → Prop) (i3 : Int32) (σ : CS) : Prop :=
  wpX3_window_50 w0 x1 x2 Q i3 (0 : Int32) σ
set_option maxRecDepth 100000 in
set_option maxHeartbeats 4000000 in
theorem wX3_window_47 {p : Program} {l : Launch} {e : Env} {s : State} {m : MethodId} {args : Array Value} {below : List Frame} {meth : Method} {c : Code} {D : va_G} {A : Nat → Prop} {g : mG} (hg : inj g) {w0 : Nat} {x1 : Int32} {x2 : Int32} (hw0 : okW w0) (X : cx p m meth c s args cX3_window 5 RX3 D (tyG g)) (hr : meth.sig.returnType = (some .long)) {Q : Int64 → CS → Prop} : ∀ (i3 : Int32) (σ : CS), wpX3_window_47 w0 x1 x2 Q i3 σ → cW p l e rmX3_window s m args below meth c (MQ below (va_Ql Q (fun u t => wd D A (cT g u) t.heap) A) args s 0 0 A) D A (cT g σ) 47 5 [(0, .ref (g.1 (4 * w0))), (1, .int x1), (2, .int x2), (3, .int i3)] := by
  obtain ⟨hx, hb, hml, hown, hts, hK, hlk⟩ := id X
  intro i3 σ h H locs ls hw hS hl
  unfold wpX3_window_47 at h
  refine lv_iconst (v := (0 : Int32)) hx hb dX3_window_47 (by decide) ?_
  refine lv_istore (lv' := [(4, .int (0 : Int32)), (0, .ref (g.1 (4 * w0))), (1, .int x1), (2, .int x2), (3, .int i3)]) hx hb dX3_window_48 hl (by decide) rfl (fun ls hl => ?_)
  exact wX3_window_50 hg hw0 X hr i3 (0 : Int32) _ h H locs ls hw hS (lv_sub hl [1, 2, 3, 4, 0] rfl)
def wpX3_window_23 (w0 : Nat) (x1 : Int32) (x2 : Int32) (Q : Int64 → CS → Prop) (i3 : Int32) (σ : CS) : Prop :=
  (x1 < (1 : Int32) →
    wpX3_window_47 w0 x1 x2 Q i3 σ) ∧
  (¬ x1 < (1 : Int32) →
    ((cS σ w0) < x1 →
      wpX3_window_47 w0 x1 x2 Q i3 σ) ∧
    (¬ (cS σ w0) < x1 →
      vp_in (x1 - (1 : Int32)) (capW w0) ∧ (
      ∀ a1 : Int32, a1 = cF σ w0 (x1 - (1 : Int32)).toNatClampNeg →
      wpX3_window_50 w0 x1 x2 Q i3 a1 σ)))
set_option maxRecDepth 100000 in
set_option maxHeartbeats 4000000 in
theorem wX3_window_23 {p : Program} {l : Launch} {e : Env} {s : State} {m : MethodId} {args : Array Value} {below : List Frame} {meth : Method} {c : Code} {D : va_G} {A : Nat → Prop} {g : mG} (hg : inj g) {w0 : Nat} {x1 : Int32} {x2 : Int32} (hw0 : okW w0) (X : cx p m meth c s args cX3_window 5 RX3 D (tyG g)) (hr : meth.sig.returnType = (some .long)) {Q : Int64 → CS → Prop} : ∀ (i3 : Int32) (σ : CS), wpX3_window_23 w0 x1 x2 Q i3 σ → cW p l e rmX3_window s m args below meth c (MQ below (va_Ql Q (fun u t => wd D A (cT g u) t.heap) A) args s 0 0 A) D A (cT g σ) 23 5 [(0, .ref (g.1 (4 * w0))), (1, .int x1), (2, .int x2), (3, .int i3)] := by
  obtain ⟨hx, hb, hml, hown, hts, hK, hlk⟩ := id X
  intro i3 σ h H locs ls hw hS hl
  unfold wpX3_window_23 at h
  refine lv_iload_n hx hb dX3_window_23 rfl (lv_at hl 1 rfl) ?_
  refine lv_iconst (v := (1 : Int32)) hx hb dX3_window_24 (by decide) ?_
  refine lv_icmp_lt (tgt := 47) hx hb dX3_window_25 (by decide) (fun hc => ?_) (fun hc => ?_)
  · replace h := h.1 hc
    exact wX3_window_47 hg hw0 X hr i3 _ h H locs ls hw hS (lv_sub hl [0, 1, 2, 3] rfl)
  · replace h := h.2 hc
    refine lv_iload_n hx hb dX3_window_28 rfl (lv_at hl 1 rfl) ?_
    refine lv_aload_n hx hb dX3_window_29 rfl (lv_at hl 0 rfl) ?_
    refine m_get (v := .int (cS σ w0)) X hw (tW hw0) rfl inA_X3 1 (by decide) mw_100 rfl dX3_window_30 ?_
    refine lv_icmp_gt (tgt := 47) hx hb dX3_window_33 (by decide) (fun hc => ?_) (fun hc => ?_)
    · replace h := h.1 hc
      exact wX3_window_47 hg hw0 X hr i3 _ h H locs ls hw hS (lv_sub hl [0, 1, 2, 3] rfl)
    · replace h := h.2 hc
      refine lv_aload_n hx hb dX3_window_36 rfl (lv_at hl 0 rfl) ?_
      refine m_get (v := .ref (g.1 (4 * w0 + 1))) X hw (tW hw0) rfl inA_X3 0 (by decide) mw_36 rfl dX3_window_37 ?_
      refine lv_iload_n hx hb dX3_window_40 rfl (lv_at hl 1 rfl) ?_
      refine lv_iconst (v := (1 : Int32)) hx hb dX3_window_41 (by decide) ?_
      refine lv_isub hx hb dX3_window_42 ?_
      obtain ⟨hi, h⟩ := h
      refine m_iald X hw (tD hw0) 0 rfl hi dX3_window_43 ?_
      refine lv_goto (tgt := 48) hx hb dX3_window_44 (by decide) ?_
      refine lv_topi (fun a1 ea1 => ?_)
      replace h := h a1 ea1
      refine lv_istore (lv' := [(4, .int a1), (0, .ref (g.1 (4 * w0))), (1, .int x1), (2, .int x2), (3, .int i3)]) hx hb dX3_window_48 hl (by decide) rfl (fun ls hl => ?_)
      exact wX3_window_50 hg hw0 X hr i3 a1 _ h H locs ls hw hS (lv_sub hl [1, 2, 3, 4, 0] rfl)
def wpX3_window_21 (w0 : Nat) (x1 : Int32) (x2 : Int32) (Q : Int64 → CS → Prop) (σ : CS) : Prop :=
  wpX3_window_23 w0 x1 x2 Q (0 : Int32) σ
set_option maxRecDepth 100000 in
set_option maxHeartbeats 4000000 in
theorem wX3_window_21 {p : Program} {l : Launch} {e : Env} {s : State} {m : MethodId} {args : Array Value} {below : List Frame} {meth : Method} {c : Code} {D : va_G} {A : Nat → Prop} {g : mG} (hg : inj g) {w0 : Nat} {x1 : Int32} {x2 : Int32} (hw0 : okW w0) (X : cx p m meth c s args cX3_window 5 RX3 D (tyG g)) (hr : meth.sig.returnType = (some .long)) {Q : Int64 → CS → Prop} : ∀ (σ : CS), wpX3_window_21 w0 x1 x2 Q σ → cW p l e rmX3_window s m args below meth c (MQ below (va_Ql Q (fun u t => wd D A (cT g u) t.heap) A) args s 0 0 A) D A (cT g σ) 21 5 [(0, .ref (g.1 (4 * w0))), (1, .int x1), (2, .int x2)] := by
  obtain ⟨hx, hb, hml, hown, hts, hK, hlk⟩ := id X
  intro σ h H locs ls hw hS hl
  unfold wpX3_window_21 at h
  refine lv_iconst (v := (0 : Int32)) hx hb dX3_window_21 (by decide) ?_
  refine lv_istore_n (lv' := [(3, .int (0 : Int32)), (0, .ref (g.1 (4 * w0))), (1, .int x1), (2, .int x2)]) hx hb dX3_window_22 rfl hl (by decide) rfl (fun ls hl => ?_)
  exact wX3_window_23 hg hw0 X hr (0 : Int32) _ h H locs ls hw hS (lv_sub hl [1, 2, 3, 0] rfl)
def wpX3_window_0 (w0 : Nat) (x1 : Int32) (x2 : Int32) (Q : Int64 → CS → Prop) (σ : CS) : Prop :=
  (x1 < 0 →
    wpX3_window_21 w0 x1 x2 Q σ) ∧
  (¬ x1 < 0 →
    ((cS σ w0) ≤ x1 →
      wpX3_window_21 w0 x1 x2 Q σ) ∧
    (¬ (cS σ w0) ≤ x1 →
      vp_in x1 (capW w0) ∧ (
      ∀ a2 : Int32, a2 = cF σ w0 x1.toNatClampNeg →
      wpX3_window_23 w0 x1 x2 Q a2 σ)))
set_option maxRecDepth 100000 in
set_option maxHeartbeats 4000000 in
theorem wX3_window_0 {p : Program} {l : Launch} {e : Env} {s : State} {m : MethodId} {args : Array Value} {below : List Frame} {meth : Method} {c : Code} {D : va_G} {A : Nat → Prop} {g : mG} (hg : inj g) {w0 : Nat} {x1 : Int32} {x2 : Int32} (hw0 : okW w0) (X : cx p m meth c s args cX3_window 5 RX3 D (tyG g)) (hr : meth.sig.returnType = (some .long)) {Q : Int64 → CS → Prop} : ∀ (σ : CS), wpX3_window_0 w0 x1 x2 Q σ → cW p l e rmX3_window s m args below meth c (MQ below (va_Ql Q (fun u t => wd D A (cT g u) t.heap) A) args s 0 0 A) D A (cT g σ) 0 5 [(0, .ref (g.1 (4 * w0))), (1, .int x1), (2, .int x2)] := by
  obtain ⟨hx, hb, hml, hown, hts, hK, hlk⟩ := id X
  intro σ h H locs ls hw hS hl
  unfold wpX3_window_0 at h
  refine lv_iload_n hx hb dX3_window_0 rfl (lv_at hl 1 rfl) ?_
  refine lv_if_lt (tgt := 21) hx hb dX3_window_1 (by decide) (fun hc => ?_) (fun hc => ?_)
  · replace h := h.1 hc
    exact wX3_window_21 hg hw0 X hr _ h H locs ls hw hS (lv_sub hl [0, 1, 2] rfl)
  · replace h := h.2 hc
    refine lv_iload_n hx hb dX3_window_4 rfl (lv_at hl 1 rfl) ?_
    refine lv_aload_n hx hb dX3_window_5 rfl (lv_at hl 0 rfl) ?_
    refine m_get (v := .int (cS σ w0)) X hw (tW hw0) rfl inA_X3 1 (by decide) mw_100 rfl dX3_window_6 ?_
    refine lv_icmp_ge (tgt := 21) hx hb dX3_window_9 (by decide) (fun hc => ?_) (fun hc => ?_)
    · replace h := h.1 hc
      exact wX3_window_21 hg hw0 X hr _ h H locs ls hw hS (lv_sub hl [0, 1, 2] rfl)
    · replace h := h.2 hc
      refine lv_aload_n hx hb dX3_window_12 rfl (lv_at hl 0 rfl) ?_
      refine m_get (v := .ref (g.1 (4 * w0 + 1))) X hw (tW hw0) rfl inA_X3 0 (by decide) mw_36 rfl dX3_window_13 ?_
      refine lv_iload_n hx hb dX3_window_16 rfl (lv_at hl 1 rfl) ?_
      obtain ⟨hi, h⟩ := h
      refine m_iald X hw (tD hw0) 0 rfl hi dX3_window_17 ?_
      refine lv_goto (tgt := 22) hx hb dX3_window_18 (by decide) ?_
      refine lv_topi (fun a2 ea2 => ?_)
      replace h := h a2 ea2
      refine lv_istore_n (lv' := [(3, .int a2), (0, .ref (g.1 (4 * w0))), (1, .int x1), (2, .int x2)]) hx hb dX3_window_22 rfl hl (by decide) rfl (fun ls hl => ?_)
      exact wX3_window_23 hg hw0 X hr a2 _ h H locs ls hw hS (lv_sub hl [1, 2, 3, 0] rfl)
def wpX3_window (w0 : Nat) (x1 : Int32) (x2 : Int32) (σ : CS) (Q : Int64 → CS → Prop) : Prop := wpX3_window_0 w0 x1 x2 Q σ
theorem kX3_window {l : Launch} {D : va_G} {A : Nat → Prop} {g : mG} (hg : inj g) {w0 : Nat} {x1 : Int32} {x2 : Int32} (hw0 : okW w0) {σ : CS} {Q : Int64 → CS → Prop} (h : wpX3_window w0 x1 x2 σ Q) : Met l yX3_window (Cond.code yX3_window cX3_window 5 (some .long) :: wsA) rmX3_window (mPc D (tyG g) A (cT g σ) [.ref (g.1 (4 * w0)), .int x1, .int x2]) (va_Ql Q (fun u t => wd D A (cT g u) t.heap) A) 0 0 A :=
  m_met (by decide +kernel) (Nat.le_of_ble_eq_true rfl) (fun p e s m below meth c X hr H locs ls hw hS hl => wX3_window_0 hg hw0 X hr σ h H locs ls hw hS (lv_sub hl [0, 1, 2] rfl))
theorem fX3_window : vfit yX3_window cX3_window 5 (some .long) 2 := ⟨mw_366, mw_367, mw_29, mw_368, by decide +kernel, by decide +kernel, by decide +kernel⟩
/-! BigPolys$Whole.guess(JJJJ)J -/
def rmX3_guess : Room := { frames := 1, cells := 0, slots := 0, locals := 24 }
def wpX3_guess_86 (y1 : Int64) (y2 : Int64) (y3 : Int64) (y4 : Int64) (Q : Int64 → CS → Prop) (l8 : Int64) (σ : CS) : Prop :=
  Q l8 σ
set_option maxRecDepth 100000 in
set_option maxHeartbeats 4000000 in
theorem wX3_guess_86 {p : Program} {l : Launch} {e : Env} {s : State} {m : MethodId} {args : Array Value} {below : List Frame} {meth : Method} {c : Code} {D : va_G} {A : Nat → Prop} {g : mG} (hg : inj g) {y1 : Int64} {y2 : Int64} {y3 : Int64} {y4 : Int64} (X : cx p m meth c s args cX3_guess 13 RX3 D (tyG g)) (hr : meth.sig.returnType = (some .long)) {Q : Int64 → CS → Prop} : ∀ (l8 : Int64) (σ : CS), wpX3_guess_86 y1 y2 y3 y4 Q l8 σ → cW p l e rmX3_guess s m args below meth c (MQ below (va_Ql Q (fun u t => wd D A (cT g u) t.heap) A) args s 0 0 A) D A (cT g σ) 86 13 [(0, .long y1), (2, .long y2), (4, .long y3), (6, .long y4), (8, .long l8)] := by
  obtain ⟨hx, hb, hml, hown, hts, hK, hlk⟩ := id X
  intro l8 σ h H locs ls hw hS hl
  unfold wpX3_guess_86 at h
  refine lv_lload hx hb dX3_guess_86 (lv_at hl 4 rfl) ?_
  exact m_lret X hr hw hS h dX3_guess_88
def wbX3_guess_33 (y1 : Int64) (y2 : Int64) (y3 : Int64) (y4 : Int64) (Q : Int64 → CS → Prop) (N33 : Int64 → Int64 → Int32 → CS → Prop) (l8 : Int64) (l10 : Int64) (i12 : Int32) (σ : CS) : Prop :=
  ((2 : Int32) ≤ i12 →
    wpX3_guess_86 y1 y2 y3 y4 Q l8 σ) ∧
  (¬ (2 : Int32) ≤ i12 →
    (0 < (lg_cmp l10 (2147483647 : Int64)) →
      wpX3_guess_86 y1 y2 y3 y4 Q l8 σ) ∧
    (¬ 0 < (lg_cmp l10 (2147483647 : Int64)) →
      (0 < (lg_cmp (l8 * y4) ((jlshl l10 (31 : Int32)) ||| y2)) →
        ∀ b1 : Int64, b1 = l8 - (1 : Int64) →
        ∀ b2 : Int64, b2 = l10 + y3 →
        ∀ a3 : Int32, a3 = i12 + (1 : Int32) →
        N33 b1 b2 a3 σ) ∧
      (¬ 0 < (lg_cmp (l8 * y4) ((jlshl l10 (31 : Int32)) ||| y2)) →
        Q l8 σ)))
set_option maxRecDepth 100000 in
set_option maxHeartbeats 4000000 in
theorem wX3_guess_33 {p : Program} {l : Launch} {e : Env} {s : State} {m : MethodId} {args : Array Value} {below : List Frame} {meth : Method} {c : Code} {D : va_G} {A : Nat → Prop} {g : mG} (hg : inj g) {y1 : Int64} {y2 : Int64} {y3 : Int64} {y4 : Int64} (X : cx p m meth c s args cX3_guess 13 RX3 D (tyG g)) (hr : meth.sig.returnType = (some .long)) {Q : Int64 → CS → Prop} : ∀ (n : Nat) (l8 : Int64) (l10 : Int64) (i12 : Int32) (σ : CS), lq4 (wbX3_guess_33 y1 y2 y3 y4 Q) n l8 l10 i12 σ → cW p l e rmX3_guess s m args below meth c (MQ below (va_Ql Q (fun u t => wd D A (cT g u) t.heap) A) args s 0 0 A) D A (cT g σ) 33 13 [(0, .long y1), (2, .long y2), (4, .long y3), (6, .long y4), (8, .long l8), (10, .long l10), (12, .int i12)] := by
  obtain ⟨hx, hb, hml, hown, hts, hK, hlk⟩ := id X
  intro n
  induction n with
  | zero =>
    intro l8 l10 i12 σ h
    exact h.elim
  | succ n hN33 =>
    intro l8 l10 i12 σ h H locs ls hw hS hl
    replace h : wbX3_guess_33 y1 y2 y3 y4 Q (lq4 (wbX3_guess_33 y1 y2 y3 y4 Q) n) l8 l10 i12 σ := h
    unfold wbX3_guess_33 at h
    refine lv_iload hx hb dX3_guess_33 (lv_at hl 6 rfl) ?_
    refine lv_iconst (v := (2 : Int32)) hx hb dX3_guess_35 (by decide) ?_
    refine lv_icmp_ge (tgt := 86) hx hb dX3_guess_36 (by decide) (fun hc => ?_) (fun hc => ?_)
    · replace h := h.1 hc
      exact wX3_guess_86 hg X hr l8 _ h H locs ls hw hS (lv_sub hl [0, 1, 2, 3, 4] rfl)
    · replace h := h.2 hc
      refine lv_lload hx hb dX3_guess_39 (lv_at hl 5 rfl) ?_
      refine lv_ldc2 (v := (2147483647 : Int64)) hx hb hown (hts _ mw_259) dX3_guess_41 ?_
      refine W.lcmp hx hb dX3_guess_44 ?_
      refine lv_if_gt (tgt := 86) hx hb dX3_guess_45 (by decide) (fun hc => ?_) (fun hc => ?_)
      · replace h := h.1 hc
        exact wX3_guess_86 hg X hr l8 _ h H locs ls hw hS (lv_sub hl [0, 1, 2, 3, 4] rfl)
      · replace h := h.2 hc
        refine lv_lload hx hb dX3_guess_48 (lv_at hl 4 rfl) ?_
        refine lv_lload hx hb dX3_guess_50 (lv_at hl 3 rfl) ?_
        refine lv_lmul hx hb dX3_guess_52 ?_
        refine lv_lload hx hb dX3_guess_53 (lv_at hl 5 rfl) ?_
        refine lv_bipush (v := (31 : Int32)) hx hb dX3_guess_55 (by decide) ?_
        refine lv_lshl (v := jlshl l10 (31 : Int32)) hx hb dX3_guess_57 rfl ?_
        refine lv_lload_n hx hb dX3_guess_58 rfl (lv_at hl 1 rfl) ?_
        refine lv_lor hx hb dX3_guess_59 ?_
        refine W.lcmp hx hb dX3_guess_60 ?_
        refine lv_if_gt (tgt := 67) hx hb dX3_guess_61 (by decide) (fun hc => ?_) (fun hc => ?_)
        · replace h := h.1 hc
          refine lv_lload hx hb dX3_guess_67 (lv_at hl 4 rfl) ?_
          refine lv_lconst (v := (1 : Int64)) hx hb dX3_guess_69 (by decide) ?_
          refine lv_lsub hx hb dX3_guess_70 ?_
          refine lv_topl (fun b1 eb1 => ?_)
          replace h := h b1 eb1
          refine lv_lstore (lv' := [(8, .long b1), (0, .long y1), (2, .long y2), (4, .long y3), (6, .long y4), (10, .long l10), (12, .int i12)]) hx hb dX3_guess_71 hl (by decide) rfl (fun ls hl => ?_)
          refine lv_lload hx hb dX3_guess_73 (lv_at hl 5 rfl) ?_
          refine lv_lload hx hb dX3_guess_75 (lv_at hl 3 rfl) ?_
          refine lv_ladd hx hb dX3_guess_77 ?_
          refine lv_topl (fun b2 eb2 => ?_)
          replace h := h b2 eb2
          refine lv_lstore (lv' := [(10, .long b2), (8, .long b1), (0, .long y1), (2, .long y2), (4, .long y3), (6, .long y4), (12, .int i12)]) hx hb dX3_guess_78 hl (by decide) rfl (fun ls hl => ?_)
          obtain ⟨a3, ea3⟩ : ∃ z : Int32, z = i12 + (1 : Int32) := ⟨_, rfl⟩
          replace h := h a3 ea3
          refine lv_iinc (v := a3) (lv' := [(12, .int a3), (10, .long b2), (8, .long b1), (0, .long y1), (2, .long y2), (4, .long y3), (6, .long y4)]) hx hb dX3_guess_80 hl (k := 6) rfl (by rw [ea3]; rfl) (by decide) rfl (fun ls hl => ?_)
          refine lv_goto (tgt := 33) hx hb dX3_guess_83 (by decide) ?_
          exact hN33 b1 b2 a3 _ h H locs ls hw hS (lv_sub hl [3, 4, 5, 6, 2, 1, 0] rfl)
        · replace h := h.2 hc
          refine lv_lload hx hb dX3_guess_64 (lv_at hl 4 rfl) ?_
          exact m_lret X hr hw hS h dX3_guess_66
def wpX3_guess_0 (y1 : Int64) (y2 : Int64) (y3 : Int64) (y4 : Int64) (Q : Int64 → CS → Prop) (σ : CS) : Prop :=
  (0 < (lg_cmp y3 (0 : Int64)) →
    ¬ y3 = 0 ∧ (
    ∀ b4 : Int64, b4 = (if (2147483647 : Int64) < (y1 / y3) then (2147483647 : Int64) else (y1 / y3)) →
    ∀ b5 : Int64, b5 = y1 - (b4 * y3) →
    ∃ n, lq4 (wbX3_guess_33 y1 y2 y3 y4 Q) n b4 b5 (0 : Int32) σ)) ∧
  (¬ 0 < (lg_cmp y3 (0 : Int64)) →
    Q (0 : Int64) σ)
set_option maxRecDepth 100000 in
set_option maxHeartbeats 4000000 in
theorem wX3_guess_0 {p : Program} {l : Launch} {e : Env} {s : State} {m : MethodId} {args : Array Value} {below : List Frame} {meth : Method} {c : Code} {D : va_G} {A : Nat → Prop} {g : mG} (hg : inj g) {y1 : Int64} {y2 : Int64} {y3 : Int64} {y4 : Int64} (X : cx p m meth c s args cX3_guess 13 RX3 D (tyG g)) (hr : meth.sig.returnType = (some .long)) {Q : Int64 → CS → Prop} : ∀ (σ : CS), wpX3_guess_0 y1 y2 y3 y4 Q σ → cW p l e rmX3_guess s m args below meth c (MQ below (va_Ql Q (fun u t => wd D A (cT g u) t.heap) A) args s 0 0 A) D A (cT g σ) 0 13 [(0, .long y1), (2, .long y2), (4, .long y3), (6, .long y4)] := by
  obtain ⟨hx, hb, hml, hown, hts, hK, hlk⟩ := id X
  intro σ h H locs ls hw hS hl
  unfold wpX3_guess_0 at h
  refine lv_lload hx hb dX3_guess_0 (lv_at hl 2 rfl) ?_
  refine lv_lconst (v := (0 : Int64)) hx hb dX3_guess_2 (by decide) ?_
  refine W.lcmp hx hb dX3_guess_3 ?_
  refine lv_if_gt (tgt := 9) hx hb dX3_guess_4 (by decide) (fun hc => ?_) (fun hc => ?_)
  · replace h := h.1 hc
    refine lv_lload_n hx hb dX3_guess_9 rfl (lv_at hl 0 rfl) ?_
    refine lv_lload hx hb dX3_guess_10 (lv_at hl 2 rfl) ?_
    obtain ⟨hz, h⟩ := h
    refine lv_ldiv hx hb dX3_guess_12 hz ?_
    refine lv_ldc2 (v := (2147483647 : Int64)) hx hb hown (hts _ mw_259) dX3_guess_13 ?_
    refine va_mmin_long hx hb (hml.trans hl.1.symm) hown (hts _ mw_372) (hts _ mw_373) (hts _ mw_54) (hts _ mw_374) (Nat.le_of_ble_eq_true rfl) (Nat.le_of_ble_eq_true rfl) (Nat.zero_le _) (Nat.zero_le _) dX3_guess_16 ?_
    refine lv_topl (fun b4 eb4 => ?_)
    replace h := h b4 eb4
    refine lv_lstore (lv' := [(8, .long b4), (0, .long y1), (2, .long y2), (4, .long y3), (6, .long y4)]) hx hb dX3_guess_19 hl (by decide) rfl (fun ls hl => ?_)
    refine lv_lload_n hx hb dX3_guess_21 rfl (lv_at hl 1 rfl) ?_
    refine lv_lload hx hb dX3_guess_22 (lv_at hl 0 rfl) ?_
    refine lv_lload hx hb dX3_guess_24 (lv_at hl 3 rfl) ?_
    refine lv_lmul hx hb dX3_guess_26 ?_
    refine lv_lsub hx hb dX3_guess_27 ?_
    refine lv_topl (fun b5 eb5 => ?_)
    replace h := h b5 eb5
    refine lv_lstore (lv' := [(10, .long b5), (8, .long b4), (0, .long y1), (2, .long y2), (4, .long y3), (6, .long y4)]) hx hb dX3_guess_28 hl (by decide) rfl (fun ls hl => ?_)
    refine lv_iconst (v := (0 : Int32)) hx hb dX3_guess_30 (by decide) ?_
    refine lv_istore (lv' := [(12, .int (0 : Int32)), (10, .long b5), (8, .long b4), (0, .long y1), (2, .long y2), (4, .long y3), (6, .long y4)]) hx hb dX3_guess_31 hl (by decide) rfl (fun ls hl => ?_)
    obtain ⟨n9, h⟩ := h
    exact wX3_guess_33 hg X hr n9 b4 b5 (0 : Int32) _ h H locs ls hw hS (lv_sub hl [3, 4, 5, 6, 2, 1, 0] rfl)
  · replace h := h.2 hc
    refine lv_lconst (v := (0 : Int64)) hx hb dX3_guess_7 (by decide) ?_
    exact m_lret X hr hw hS h dX3_guess_8
def wpX3_guess (y1 : Int64) (y2 : Int64) (y3 : Int64) (y4 : Int64) (σ : CS) (Q : Int64 → CS → Prop) : Prop := wpX3_guess_0 y1 y2 y3 y4 Q σ
theorem kX3_guess {l : Launch} {D : va_G} {A : Nat → Prop} {g : mG} (hg : inj g) {y1 : Int64} {y2 : Int64} {y3 : Int64} {y4 : Int64} {σ : CS} {Q : Int64 → CS → Prop} (h : wpX3_guess y1 y2 y3 y4 σ Q) : Met l yX3_guess (Cond.code yX3_guess cX3_guess 13 (some .long) :: wsA) rmX3_guess (mPc D (tyG g) A (cT g σ) [.long y1, .long y2, .long y3, .long y4]) (va_Ql Q (fun u t => wd D A (cT g u) t.heap) A) 0 0 A :=
  m_met (by decide +kernel) (Nat.le_of_ble_eq_true rfl) (fun p e s m below meth c X hr H locs ls hw hS hl => wX3_guess_0 hg X hr σ h H locs ls hw hS (lv_sub hl [0, 1, 2, 3] rfl))
theorem fX3_guess : sfit yX3_guess cX3_guess 13 (some .long) 4 := ⟨mw_370, mw_29, mw_371, by decide +kernel, by decide +kernel, by decide +kernel⟩
/-! BigPolys$Whole.takesTooMuch(LBigPolys$Whole;JI)Z -/
def rmX3_takesTooMuch : Room := { frames := 0, cells := 0, slots := 0, locals := 0 }
def wpX3_takesTooMuch_129 (w0 : Nat) (w1 : Nat) (y2 : Int64) (x3 : Int32) (Q : Int32 → CS → Prop) (l5 : Int64) (σ : CS) : Prop :=
  (0 ≤ (lg_cmp l5 (0 : Int64)) →
    Q (0 : Int32) σ) ∧
  (¬ 0 ≤ (lg_cmp l5 (0 : Int64)) →
    Q (1 : Int32) σ)
set_option maxRecDepth 100000 in
set_option maxHeartbeats 4000000 in
theorem wX3_takesTooMuch_129 {p : Program} {l : Launch} {e : Env} {s : State} {m : MethodId} {args : Array Value} {below : List Frame} {meth : Method} {c : Code} {D : va_G} {A : Nat → Prop} {g : mG} (hg : inj g) {w0 : Nat} {w1 : Nat} {y2 : Int64} {x3 : Int32} (hw0 : okW w0) (hw1 : okW w1) (X : cx p m meth c s args cX3_takesTooMuch 10 RX3 D (tyG g)) (hr : meth.sig.returnType = (some .boolean)) {Q : Int32 → CS → Prop} : ∀ (l5 : Int64) (σ : CS), wpX3_takesTooMuch_129 w0 w1 y2 x3 Q l5 σ → cW p l e rmX3_takesTooMuch s m args below meth c (MQ below (va_Qi Q (fun u t => wd D A (cT g u) t.heap) A) args s 0 0 A) D A (cT g σ) 129 10 [(0, .ref (g.1 (4 * w0))), (1, .ref (g.1 (4 * w1))), (2, .long y2), (4, .int x3), (5, .long l5)] := by
  obtain ⟨hx, hb, hml, hown, hts, hK, hlk⟩ := id X
  intro l5 σ h H locs ls hw hS hl
  unfold wpX3_takesTooMuch_129 at h
  refine lv_lload hx hb dX3_takesTooMuch_129 (lv_at hl 4 rfl) ?_
  refine lv_lconst (v := (0 : Int64)) hx hb dX3_takesTooMuch_131 (by decide) ?_
  refine W.lcmp hx hb dX3_takesTooMuch_132 ?_
  refine lv_if_ge (tgt := 140) hx hb dX3_takesTooMuch_133 (by decide) (fun hc => ?_) (fun hc => ?_)
  · replace h := h.1 hc
    refine lv_iconst (v := (0 : Int32)) hx hb dX3_takesTooMuch_140 (by decide) ?_
    exact m_zret X hr rfl hw hS h dX3_takesTooMuch_141
  · replace h := h.2 hc
    refine lv_iconst (v := (1 : Int32)) hx hb dX3_takesTooMuch_136 (by decide) ?_
    refine lv_goto (tgt := 141) hx hb dX3_takesTooMuch_137 (by decide) ?_
    exact m_zret X hr rfl hw hS h dX3_takesTooMuch_141
def wpX3_takesTooMuch_84 (w0 : Nat) (w1 : Nat) (y2 : Int64) (x3 : Int32) (Q : Int32 → CS → Prop) (l5 : Int64) (σ : CS) : Prop :=
  ∀ a1 : Int32, a1 = x3 + (cS σ w1) →
  ((cS σ w0) ≤ a1 →
    wpX3_takesTooMuch_129 w0 w1 y2 x3 Q l5 σ) ∧
  (¬ (cS σ w0) ≤ a1 →
    vp_in a1 (capW w0) ∧ (
    ∀ b2 : Int64, b2 = l5 + ((cF σ w0 a1.toNatClampNeg).toInt64) →
    vp_in a1 (capW w0) ∧ (
    wpX3_takesTooMuch_129 w0 w1 y2 x3 Q b2 (sFi σ w0 a1 ((b2 &&& (2147483647 : Int64)).toInt32)))))
set_option maxRecDepth 100000 in
set_option maxHeartbeats 4000000 in
theorem wX3_takesTooMuch_84 {p : Program} {l : Launch} {e : Env} {s : State} {m : MethodId} {args : Array Value} {below : List Frame} {meth : Method} {c : Code} {D : va_G} {A : Nat → Prop} {g : mG} (hg : inj g) {w0 : Nat} {w1 : Nat} {y2 : Int64} {x3 : Int32} (hw0 : okW w0) (hw1 : okW w1) (X : cx p m meth c s args cX3_takesTooMuch 10 RX3 D (tyG g)) (hr : meth.sig.returnType = (some .boolean)) {Q : Int32 → CS → Prop} : ∀ (l5 : Int64) (σ : CS), wpX3_takesTooMuch_84 w0 w1 y2 x3 Q l5 σ → cW p l e rmX3_takesTooMuch s m args below meth c (MQ below (va_Qi Q (fun u t => wd D A (cT g u) t.heap) A) args s 0 0 A) D A (cT g σ) 84 10 [(0, .ref (g.1 (4 * w0))), (1, .ref (g.1 (4 * w1))), (2, .long y2), (4, .int x3), (5, .long l5)] := by
  obtain ⟨hx, hb, hml, hown, hts, hK, hlk⟩ := id X
  intro l5 σ h H locs ls hw hS hl
  unfold wpX3_takesTooMuch_84 at h
  refine lv_iload hx hb dX3_takesTooMuch_84 (lv_at hl 3 rfl) ?_
  refine lv_aload_n hx hb dX3_takesTooMuch_86 rfl (lv_at hl 1 rfl) ?_
  refine m_get (v := .int (cS σ w1)) X hw (tW hw1) rfl inA_X3 1 (by decide) mw_100 rfl dX3_takesTooMuch_87 ?_
  refine lv_iadd hx hb dX3_takesTooMuch_90 ?_
  refine lv_topi (fun a1 ea1 => ?_)
  replace h := h a1 ea1
  refine lv_istore (lv' := [(7, .int a1), (0, .ref (g.1 (4 * w0))), (1, .ref (g.1 (4 * w1))), (2, .long y2), (4, .int x3), (5, .long l5)]) hx hb dX3_takesTooMuch_91 hl (by decide) rfl (fun ls hl => ?_)
  refine lv_iload hx hb dX3_takesTooMuch_93 (lv_at hl 0 rfl) ?_
  refine lv_aload_n hx hb dX3_takesTooMuch_95 rfl (lv_at hl 1 rfl) ?_
  refine m_get (v := .int (cS σ w0)) X hw (tW hw0) rfl inA_X3 1 (by decide) mw_100 rfl dX3_takesTooMuch_96 ?_
  refine lv_icmp_ge (tgt := 129) hx hb dX3_takesTooMuch_99 (by decide) (fun hc => ?_) (fun hc => ?_)
  · replace h := h.1 hc
    exact wX3_takesTooMuch_129 hg hw0 hw1 X hr l5 _ h H locs ls hw hS (lv_sub hl [1, 2, 3, 4, 5] rfl)
  · replace h := h.2 hc
    refine lv_lload hx hb dX3_takesTooMuch_102 (lv_at hl 5 rfl) ?_
    refine lv_aload_n hx hb dX3_takesTooMuch_104 rfl (lv_at hl 1 rfl) ?_
    refine m_get (v := .ref (g.1 (4 * w0 + 1))) X hw (tW hw0) rfl inA_X3 0 (by decide) mw_36 rfl dX3_takesTooMuch_105 ?_
    refine lv_iload hx hb dX3_takesTooMuch_108 (lv_at hl 0 rfl) ?_
    obtain ⟨hi, h⟩ := h
    refine m_iald X hw (tD hw0) 0 rfl hi dX3_takesTooMuch_110 ?_
    refine lv_i2l (v := (cF σ w0 a1.toNatClampNeg).toInt64) hx hb dX3_takesTooMuch_111 rfl ?_
    refine lv_ladd hx hb dX3_takesTooMuch_112 ?_
    refine lv_topl (fun b2 eb2 => ?_)
    replace h := h b2 eb2
    refine lv_lstore (lv' := [(5, .long b2), (7, .int a1), (0, .ref (g.1 (4 * w0))), (1, .ref (g.1 (4 * w1))), (2, .long y2), (4, .int x3)]) hx hb dX3_takesTooMuch_113 hl (by decide) rfl (fun ls hl => ?_)
    refine lv_aload_n hx hb dX3_takesTooMuch_115 rfl (lv_at hl 2 rfl) ?_
    refine m_get (v := .ref (g.1 (4 * w0 + 1))) X hw (tW hw0) rfl inA_X3 0 (by decide) mw_36 rfl dX3_takesTooMuch_116 ?_
    refine lv_iload hx hb dX3_takesTooMuch_119 (lv_at hl 1 rfl) ?_
    refine lv_lload hx hb dX3_takesTooMuch_121 (lv_at hl 0 rfl) ?_
    refine lv_ldc2 (v := (2147483647 : Int64)) hx hb hown (hts _ mw_259) dX3_takesTooMuch_123 ?_
    refine lv_land hx hb dX3_takesTooMuch_126 ?_
    refine lv_l2i (v := (b2 &&& (2147483647 : Int64)).toInt32) hx hb dX3_takesTooMuch_127 rfl ?_
    obtain ⟨hi, h⟩ := h
    refine m_iast (T' := cT g (sFi σ w0 a1 ((b2 &&& (2147483647 : Int64)).toInt32))) X hw hS (tD hw0) 0 rfl hi (uF hg) dX3_takesTooMuch_128 (fun H locs hw hS => ?_)
    exact wX3_takesTooMuch_129 hg hw0 hw1 X hr b2 _ h H locs ls hw hS (lv_sub hl [2, 3, 4, 5, 0] rfl)
def wbX3_takesTooMuch_6 (w0 : Nat) (w1 : Nat) (y2 : Int64) (x3 : Int32) (Q : Int32 → CS → Prop) (N6 : Int64 → Int32 → CS → Prop) (l5 : Int64) (i7 : Int32) (σ : CS) : Prop :=
  ((cS σ w1) ≤ i7 →
    wpX3_takesTooMuch_84 w0 w1 y2 x3 Q l5 σ) ∧
  (¬ (cS σ w1) ≤ i7 →
    ((cS σ w0) ≤ (x3 + i7) →
      wpX3_takesTooMuch_84 w0 w1 y2 x3 Q l5 σ) ∧
    (¬ (cS σ w0) ≤ (x3 + i7) →
      vp_in (x3 + i7) (capW w0) ∧ (
      vp_in i7 (capW w1) ∧ (
      ∀ b3 : Int64, b3 = (((cF σ w0 (x3 + i7).toNatClampNeg).toInt64) - (((cF σ w1 i7.toNatClampNeg).toInt64) * y2)) + l5 →
      vp_in (x3 + i7) (capW w0) ∧ (
      ∀ b4 : Int64, b4 = jlshr b3 (31 : Int32) →
      ∀ a5 : Int32, a5 = i7 + (1 : Int32) →
      N6 b4 a5 (sFi σ w0 (x3 + i7) ((b3 &&& (2147483647 : Int64)).toInt32)))))))
set_option maxRecDepth 100000 in
set_option maxHeartbeats 4000000 in
theorem wX3_takesTooMuch_6 {p : Program} {l : Launch} {e : Env} {s : State} {m : MethodId} {args : Array Value} {below : List Frame} {meth : Method} {c : Code} {D : va_G} {A : Nat → Prop} {g : mG} (hg : inj g) {w0 : Nat} {w1 : Nat} {y2 : Int64} {x3 : Int32} (hw0 : okW w0) (hw1 : okW w1) (X : cx p m meth c s args cX3_takesTooMuch 10 RX3 D (tyG g)) (hr : meth.sig.returnType = (some .boolean)) {Q : Int32 → CS → Prop} : ∀ (n : Nat) (l5 : Int64) (i7 : Int32) (σ : CS), lq3 (wbX3_takesTooMuch_6 w0 w1 y2 x3 Q) n l5 i7 σ → cW p l e rmX3_takesTooMuch s m args below meth c (MQ below (va_Qi Q (fun u t => wd D A (cT g u) t.heap) A) args s 0 0 A) D A (cT g σ) 6 10 [(0, .ref (g.1 (4 * w0))), (1, .ref (g.1 (4 * w1))), (2, .long y2), (4, .int x3), (5, .long l5), (7, .int i7)] := by
  obtain ⟨hx, hb, hml, hown, hts, hK, hlk⟩ := id X
  intro n
  induction n with
  | zero =>
    intro l5 i7 σ h
    exact h.elim
  | succ n hN6 =>
    intro l5 i7 σ h H locs ls hw hS hl
    replace h : wbX3_takesTooMuch_6 w0 w1 y2 x3 Q (lq3 (wbX3_takesTooMuch_6 w0 w1 y2 x3 Q) n) l5 i7 σ := h
    unfold wbX3_takesTooMuch_6 at h
    refine lv_iload hx hb dX3_takesTooMuch_6 (lv_at hl 5 rfl) ?_
    refine lv_aload_n hx hb dX3_takesTooMuch_8 rfl (lv_at hl 1 rfl) ?_
    refine m_get (v := .int (cS σ w1)) X hw (tW hw1) rfl inA_X3 1 (by decide) mw_100 rfl dX3_takesTooMuch_9 ?_
    refine lv_icmp_ge (tgt := 84) hx hb dX3_takesTooMuch_12 (by decide) (fun hc => ?_) (fun hc => ?_)
    · replace h := h.1 hc
      exact wX3_takesTooMuch_84 hg hw0 hw1 X hr l5 _ h H locs ls hw hS (lv_sub hl [0, 1, 2, 3, 4] rfl)
    · replace h := h.2 hc
      refine lv_iload hx hb dX3_takesTooMuch_15 (lv_at hl 3 rfl) ?_
      refine lv_iload hx hb dX3_takesTooMuch_17 (lv_at hl 5 rfl) ?_
      refine lv_iadd hx hb dX3_takesTooMuch_19 ?_
      refine lv_aload_n hx hb dX3_takesTooMuch_20 rfl (lv_at hl 0 rfl) ?_
      refine m_get (v := .int (cS σ w0)) X hw (tW hw0) rfl inA_X3 1 (by decide) mw_100 rfl dX3_takesTooMuch_21 ?_
      refine lv_icmp_ge (tgt := 84) hx hb dX3_takesTooMuch_24 (by decide) (fun hc => ?_) (fun hc => ?_)
      · replace h := h.1 hc
        exact wX3_takesTooMuch_84 hg hw0 hw1 X hr l5 _ h H locs ls hw hS (lv_sub hl [0, 1, 2, 3, 4] rfl)
      · replace h := h.2 hc
        refine lv_aload_n hx hb dX3_takesTooMuch_27 rfl (lv_at hl 0 rfl) ?_
        refine m_get (v := .ref (g.1 (4 * w0 + 1))) X hw (tW hw0) rfl inA_X3 0 (by decide) mw_36 rfl dX3_takesTooMuch_28 ?_
        refine lv_iload hx hb dX3_takesTooMuch_31 (lv_at hl 3 rfl) ?_
        refine lv_iload hx hb dX3_takesTooMuch_33 (lv_at hl 5 rfl) ?_
        refine lv_iadd hx hb dX3_takesTooMuch_35 ?_
        obtain ⟨hi, h⟩ := h
        refine m_iald X hw (tD hw0) 0 rfl hi dX3_takesTooMuch_36 ?_
        refine lv_i2l (v := (cF σ w0 (x3 + i7).toNatClampNeg).toInt64) hx hb dX3_takesTooMuch_37 rfl ?_
        refine lv_aload_n hx hb dX3_takesTooMuch_38 rfl (lv_at hl 1 rfl) ?_
        refine m_get (v := .ref (g.1 (4 * w1 + 1))) X hw (tW hw1) rfl inA_X3 0 (by decide) mw_36 rfl dX3_takesTooMuch_39 ?_
        refine lv_iload hx hb dX3_takesTooMuch_42 (lv_at hl 5 rfl) ?_
        obtain ⟨hi, h⟩ := h
        refine m_iald X hw (tD hw1) 0 rfl hi dX3_takesTooMuch_44 ?_
        refine lv_i2l (v := (cF σ w1 i7.toNatClampNeg).toInt64) hx hb dX3_takesTooMuch_45 rfl ?_
        refine lv_lload_n hx hb dX3_takesTooMuch_46 rfl (lv_at hl 2 rfl) ?_
        refine lv_lmul hx hb dX3_takesTooMuch_47 ?_
        refine lv_lsub hx hb dX3_takesTooMuch_48 ?_
        refine lv_lload hx hb dX3_takesTooMuch_49 (lv_at hl 4 rfl) ?_
        refine lv_ladd hx hb dX3_takesTooMuch_51 ?_
        refine lv_topl (fun b3 eb3 => ?_)
        replace h := h b3 eb3
        refine lv_lstore (lv' := [(8, .long b3), (0, .ref (g.1 (4 * w0))), (1, .ref (g.1 (4 * w1))), (2, .long y2), (4, .int x3), (5, .long l5), (7, .int i7)]) hx hb dX3_takesTooMuch_52 hl (by decide) rfl (fun ls hl => ?_)
        refine lv_aload_n hx hb dX3_takesTooMuch_54 rfl (lv_at hl 1 rfl) ?_
        refine m_get (v := .ref (g.1 (4 * w0 + 1))) X hw (tW hw0) rfl inA_X3 0 (by decide) mw_36 rfl dX3_takesTooMuch_55 ?_
        refine lv_iload hx hb dX3_takesTooMuch_58 (lv_at hl 4 rfl) ?_
        refine lv_iload hx hb dX3_takesTooMuch_60 (lv_at hl 6 rfl) ?_
        refine lv_iadd hx hb dX3_takesTooMuch_62 ?_
        refine lv_lload hx hb dX3_takesTooMuch_63 (lv_at hl 0 rfl) ?_
        refine lv_ldc2 (v := (2147483647 : Int64)) hx hb hown (hts _ mw_259) dX3_takesTooMuch_65 ?_
        refine lv_land hx hb dX3_takesTooMuch_68 ?_
        refine lv_l2i (v := (b3 &&& (2147483647 : Int64)).toInt32) hx hb dX3_takesTooMuch_69 rfl ?_
        obtain ⟨hi, h⟩ := h
        refine m_iast (T' := cT g (sFi σ w0 (x3 + i7) ((b3 &&& (2147483647 : Int64)).toInt32))) X hw hS (tD hw0) 0 rfl hi (uF hg) dX3_takesTooMuch_70 (fun H locs hw hS => ?_)
        refine lv_lload hx hb dX3_takesTooMuch_71 (lv_at hl 0 rfl) ?_
        refine lv_bipush (v := (31 : Int32)) hx hb dX3_takesTooMuch_73 (by decide) ?_
        refine lv_lshr (v := jlshr b3 (31 : Int32)) hx hb dX3_takesTooMuch_75 rfl ?_
        refine lv_topl (fun b4 eb4 => ?_)
        replace h := h b4 eb4
        refine lv_lstore (lv' := [(5, .long b4), (8, .long b3), (0, .ref (g.1 (4 * w0))), (1, .ref (g.1 (4 * w1))), (2, .long y2), (4, .int x3), (7, .int i7)]) hx hb dX3_takesTooMuch_76 hl (by decide) rfl (fun ls hl => ?_)
        obtain ⟨a5, ea5⟩ : ∃ z : Int32, z = i7 + (1 : Int32) := ⟨_, rfl⟩
        replace h := h a5 ea5
        refine lv_iinc (v := a5) (lv' := [(7, .int a5), (5, .long b4), (8, .long b3), (0, .ref (g.1 (4 * w0))), (1, .ref (g.1 (4 * w1))), (2, .long y2), (4, .int x3)]) hx hb dX3_takesTooMuch_78 hl (k := 6) rfl (by rw [ea5]; rfl) (by decide) rfl (fun ls hl => ?_)
        refine lv_goto (tgt := 6) hx hb dX3_takesTooMuch_81 (by decide) ?_
        exact hN6 b4 a5 _ h H locs ls hw hS (lv_sub hl [3, 4, 5, 6, 1, 0] rfl)
def wpX3_takesTooMuch_0 (w0 : Nat) (w1 : Nat) (y2 : Int64) (x3 : Int32) (Q : Int32 → CS → Prop) (σ : CS) : Prop :=
  ∃ n, lq3 (wbX3_takesTooMuch_6 w0 w1 y2 x3 Q) n (0 : Int64) (0 : Int32) σ
set_option maxRecDepth 100000 in
set_option maxHeartbeats 4000000 in
theorem wX3_takesTooMuch_0 {p : Program} {l : Launch} {e : Env} {s : State} {m : MethodId} {args : Array Value} {below : List Frame} {meth : Method} {c : Code} {D : va_G} {A : Nat → Prop} {g : mG} (hg : inj g) {w0 : Nat} {w1 : Nat} {y2 : Int64} {x3 : Int32} (hw0 : okW w0) (hw1 : okW w1) (X : cx p m meth c s args cX3_takesTooMuch 10 RX3 D (tyG g)) (hr : meth.sig.returnType = (some .boolean)) {Q : Int32 → CS → Prop} : ∀ (σ : CS), wpX3_takesTooMuch_0 w0 w1 y2 x3 Q σ → cW p l e rmX3_takesTooMuch s m args below meth c (MQ below (va_Qi Q (fun u t => wd D A (cT g u) t.heap) A) args s 0 0 A) D A (cT g σ) 0 10 [(0, .ref (g.1 (4 * w0))), (1, .ref (g.1 (4 * w1))), (2, .long y2), (4, .int x3)] := by
  obtain ⟨hx, hb, hml, hown, hts, hK, hlk⟩ := id X
  intro σ h H locs ls hw hS hl
  unfold wpX3_takesTooMuch_0 at h
  refine lv_lconst (v := (0 : Int64)) hx hb dX3_takesTooMuch_0 (by decide) ?_
  refine lv_lstore (lv' := [(5, .long (0 : Int64)), (0, .ref (g.1 (4 * w0))), (1, .ref (g.1 (4 * w1))), (2, .long y2), (4, .int x3)]) hx hb dX3_takesTooMuch_1 hl (by decide) rfl (fun ls hl => ?_)
  refine lv_iconst (v := (0 : Int32)) hx hb dX3_takesTooMuch_3 (by decide) ?_
  refine lv_istore (lv' := [(7, .int (0 : Int32)), (5, .long (0 : Int64)), (0, .ref (g.1 (4 * w0))), (1, .ref (g.1 (4 * w1))), (2, .long y2), (4, .int x3)]) hx hb dX3_takesTooMuch_4 hl (by decide) rfl (fun ls hl => ?_)
  obtain ⟨n9, h⟩ := h
  exact wX3_takesTooMuch_6 hg hw0 hw1 X hr n9 (0 : Int64) (0 : Int32) _ h H locs ls hw hS (lv_sub hl [2, 3, 4, 5, 1, 0] rfl)
def wpX3_takesTooMuch (w0 : Nat) (w1 : Nat) (y2 : Int64) (x3 : Int32) (σ : CS) (Q : Int32 → CS → Prop) : Prop := wpX3_takesTooMuch_0 w0 w1 y2 x3 Q σ
theorem kX3_takesTooMuch {l : Launch} {D : va_G} {A : Nat → Prop} {g : mG} (hg : inj g) {w0 : Nat} {w1 : Nat} {y2 : Int64} {x3 : Int32} (hw0 : okW w0) (hw1 : okW w1) {σ : CS} {Q : Int32 → CS → Prop} (h : wpX3_takesTooMuch w0 w1 y2 x3 σ Q) : Met l yX3_takesTooMuch (Cond.code yX3_takesTooMuch cX3_takesTooMuch 10 (some .boolean) :: wsA) rmX3_takesTooMuch (mPc D (tyG g) A (cT g σ) [.ref (g.1 (4 * w0)), .ref (g.1 (4 * w1)), .long y2, .int x3]) (va_Qi Q (fun u t => wd D A (cT g u) t.heap) A) 0 0 A :=
  m_met (by decide +kernel) (Nat.le_of_ble_eq_true rfl) (fun p e s m below meth c X hr H locs ls hw hS hl => wX3_takesTooMuch_0 hg hw0 hw1 X hr σ h H locs ls hw hS (lv_sub hl [0, 1, 2, 3] rfl))
theorem fX3_takesTooMuch : vfit yX3_takesTooMuch cX3_takesTooMuch 10 (some .boolean) 3 := ⟨mw_376, mw_377, mw_29, mw_378, by decide +kernel, by decide +kernel, by decide +kernel⟩
/-! BigPolys$Whole.giveBack(LBigPolys$Whole;I)V -/
def rmX3_giveBack : Room := { frames := 0, cells := 0, slots := 0, locals := 0 }
def wpX3_giveBack_72 (w0 : Nat) (w1 : Nat) (x2 : Int32) (Q : CS → Prop) (i3 : Int32) (σ : CS) : Prop :=
  ∀ a1 : Int32, a1 = x2 + (cS σ w1) →
  ((cS σ w0) ≤ a1 →
    Q σ) ∧
  (¬ (cS σ w0) ≤ a1 →
    vp_in a1 (capW w0) ∧ (
    vp_in a1 (capW w0) ∧ (
    Q (sFi σ w0 a1 (((cF σ w0 a1.toNatClampNeg) + i3) &&& (2147483647 : Int32))))))
set_option maxRecDepth 100000 in
set_option maxHeartbeats 4000000 in
theorem wX3_giveBack_72 {p : Program} {l : Launch} {e : Env} {s : State} {m : MethodId} {args : Array Value} {below : List Frame} {meth : Method} {c : Code} {D : va_G} {A : Nat → Prop} {g : mG} (hg : inj g) {w0 : Nat} {w1 : Nat} {x2 : Int32} (hw0 : okW w0) (hw1 : okW w1) (X : cx p m meth c s args cX3_giveBack 6 RX3 D (tyG g)) (hr : meth.sig.returnType = none) {Q : CS → Prop} : ∀ (i3 : Int32) (σ : CS), wpX3_giveBack_72 w0 w1 x2 Q i3 σ → cW p l e rmX3_giveBack s m args below meth c (MQ below (va_Qv Q (fun u t => wd D A (cT g u) t.heap) A) args s 0 0 A) D A (cT g σ) 72 6 [(0, .ref (g.1 (4 * w0))), (1, .ref (g.1 (4 * w1))), (2, .int x2), (3, .int i3)] := by
  obtain ⟨hx, hb, hml, hown, hts, hK, hlk⟩ := id X
  intro i3 σ h H locs ls hw hS hl
  unfold wpX3_giveBack_72 at h
  refine lv_iload_n hx hb dX3_giveBack_72 rfl (lv_at hl 2 rfl) ?_
  refine lv_aload_n hx hb dX3_giveBack_73 rfl (lv_at hl 1 rfl) ?_
  refine m_get (v := .int (cS σ w1)) X hw (tW hw1) rfl inA_X3 1 (by decide) mw_100 rfl dX3_giveBack_74 ?_
  refine lv_iadd hx hb dX3_giveBack_77 ?_
  refine lv_topi (fun a1 ea1 => ?_)
  replace h := h a1 ea1
  refine lv_istore (lv' := [(4, .int a1), (0, .ref (g.1 (4 * w0))), (1, .ref (g.1 (4 * w1))), (2, .int x2), (3, .int i3)]) hx hb dX3_giveBack_78 hl (by decide) rfl (fun ls hl => ?_)
  refine lv_iload hx hb dX3_giveBack_80 (lv_at hl 0 rfl) ?_
  refine lv_aload_n hx hb dX3_giveBack_82 rfl (lv_at hl 1 rfl) ?_
  refine m_get (v := .int (cS σ w0)) X hw (tW hw0) rfl inA_X3 1 (by decide) mw_100 rfl dX3_giveBack_83 ?_
  refine lv_icmp_ge (tgt := 108) hx hb dX3_giveBack_86 (by decide) (fun hc => ?_) (fun hc => ?_)
  · replace h := h.1 hc
    exact m_vret X hr hw hS h dX3_giveBack_108
  · replace h := h.2 hc
    refine lv_aload_n hx hb dX3_giveBack_89 rfl (lv_at hl 1 rfl) ?_
    refine m_get (v := .ref (g.1 (4 * w0 + 1))) X hw (tW hw0) rfl inA_X3 0 (by decide) mw_36 rfl dX3_giveBack_90 ?_
    refine lv_iload hx hb dX3_giveBack_93 (lv_at hl 0 rfl) ?_
    refine lv_aload_n hx hb dX3_giveBack_95 rfl (lv_at hl 1 rfl) ?_
    refine m_get (v := .ref (g.1 (4 * w0 + 1))) X hw (tW hw0) rfl inA_X3 0 (by decide) mw_36 rfl dX3_giveBack_96 ?_
    refine lv_iload hx hb dX3_giveBack_99 (lv_at hl 0 rfl) ?_
    obtain ⟨hi, h⟩ := h
    refine m_iald X hw (tD hw0) 0 rfl hi dX3_giveBack_101 ?_
    refine lv_iload_n hx hb dX3_giveBack_102 rfl (lv_at hl 4 rfl) ?_
    refine lv_iadd hx hb dX3_giveBack_103 ?_
    refine lv_ldc (v := (2147483647 : Int32)) hx hb hown (hts _ mw_208) dX3_giveBack_104 ?_
    refine lv_iand hx hb dX3_giveBack_106 ?_
    obtain ⟨hi, h⟩ := h
    refine m_iast (T' := cT g (sFi σ w0 a1 (((cF σ w0 a1.toNatClampNeg) + i3) &&& (2147483647 : Int32)))) X hw hS (tD hw0) 0 rfl hi (uF hg) dX3_giveBack_107 (fun H locs hw hS => ?_)
    exact m_vret X hr hw hS h dX3_giveBack_108
def wbX3_giveBack_5 (w0 : Nat) (w1 : Nat) (x2 : Int32) (Q : CS → Prop) (N5 : Int32 → Int32 → CS → Prop) (i3 : Int32) (i4 : Int32) (σ : CS) : Prop :=
  ((cS σ w1) ≤ i4 →
    wpX3_giveBack_72 w0 w1 x2 Q i3 σ) ∧
  (¬ (cS σ w1) ≤ i4 →
    ((cS σ w0) ≤ (x2 + i4) →
      wpX3_giveBack_72 w0 w1 x2 Q i3 σ) ∧
    (¬ (cS σ w0) ≤ (x2 + i4) →
      vp_in (x2 + i4) (capW w0) ∧ (
      vp_in i4 (capW w1) ∧ (
      ∀ a2 : Int32, a2 = ((cF σ w0 (x2 + i4).toNatClampNeg) + (cF σ w1 i4.toNatClampNeg)) + i3 →
      vp_in (x2 + i4) (capW w0) ∧ (
      ∀ a3 : Int32, a3 = jushr a2 (31 : Int32) →
      ∀ a4 : Int32, a4 = i4 + (1 : Int32) →
      N5 a3 a4 (sFi σ w0 (x2 + i4) (a2 &&& (2147483647 : Int32))))))))
set_option maxRecDepth 100000 in
set_option maxHeartbeats 4000000 in
theorem wX3_giveBack_5 {p : Program} {l : Launch} {e : Env} {s : State} {m : MethodId} {args : Array Value} {below : List Frame} {meth : Method} {c : Code} {D : va_G} {A : Nat → Prop} {g : mG} (hg : inj g) {w0 : Nat} {w1 : Nat} {x2 : Int32} (hw0 : okW w0) (hw1 : okW w1) (X : cx p m meth c s args cX3_giveBack 6 RX3 D (tyG g)) (hr : meth.sig.returnType = none) {Q : CS → Prop} : ∀ (n : Nat) (i3 : Int32) (i4 : Int32) (σ : CS), lq3 (wbX3_giveBack_5 w0 w1 x2 Q) n i3 i4 σ → cW p l e rmX3_giveBack s m args below meth c (MQ below (va_Qv Q (fun u t => wd D A (cT g u) t.heap) A) args s 0 0 A) D A (cT g σ) 5 6 [(0, .ref (g.1 (4 * w0))), (1, .ref (g.1 (4 * w1))), (2, .int x2), (3, .int i3), (4, .int i4)] := by
  obtain ⟨hx, hb, hml, hown, hts, hK, hlk⟩ := id X
  intro n
  induction n with
  | zero =>
    intro i3 i4 σ h
    exact h.elim
  | succ n hN5 =>
    intro i3 i4 σ h H locs ls hw hS hl
    replace h : wbX3_giveBack_5 w0 w1 x2 Q (lq3 (wbX3_giveBack_5 w0 w1 x2 Q) n) i3 i4 σ := h
    unfold wbX3_giveBack_5 at h
    refine lv_iload hx hb dX3_giveBack_5 (lv_at hl 4 rfl) ?_
    refine lv_aload_n hx hb dX3_giveBack_7 rfl (lv_at hl 1 rfl) ?_
    refine m_get (v := .int (cS σ w1)) X hw (tW hw1) rfl inA_X3 1 (by decide) mw_100 rfl dX3_giveBack_8 ?_
    refine lv_icmp_ge (tgt := 72) hx hb dX3_giveBack_11 (by decide) (fun hc => ?_) (fun hc => ?_)
    · replace h := h.1 hc
      exact wX3_giveBack_72 hg hw0 hw1 X hr i3 _ h H locs ls hw hS (lv_sub hl [0, 1, 2, 3] rfl)
    · replace h := h.2 hc
      refine lv_iload_n hx hb dX3_giveBack_14 rfl (lv_at hl 2 rfl) ?_
      refine lv_iload hx hb dX3_giveBack_15 (lv_at hl 4 rfl) ?_
      refine lv_iadd hx hb dX3_giveBack_17 ?_
      refine lv_aload_n hx hb dX3_giveBack_18 rfl (lv_at hl 0 rfl) ?_
      refine m_get (v := .int (cS σ w0)) X hw (tW hw0) rfl inA_X3 1 (by decide) mw_100 rfl dX3_giveBack_19 ?_
      refine lv_icmp_ge (tgt := 72) hx hb dX3_giveBack_22 (by decide) (fun hc => ?_) (fun hc => ?_)
      · replace h := h.1 hc
        exact wX3_giveBack_72 hg hw0 hw1 X hr i3 _ h H locs ls hw hS (lv_sub hl [0, 1, 2, 3] rfl)
      · replace h := h.2 hc
        refine lv_aload_n hx hb dX3_giveBack_25 rfl (lv_at hl 0 rfl) ?_
        refine m_get (v := .ref (g.1 (4 * w0 + 1))) X hw (tW hw0) rfl inA_X3 0 (by decide) mw_36 rfl dX3_giveBack_26 ?_
        refine lv_iload_n hx hb dX3_giveBack_29 rfl (lv_at hl 2 rfl) ?_
        refine lv_iload hx hb dX3_giveBack_30 (lv_at hl 4 rfl) ?_
        refine lv_iadd hx hb dX3_giveBack_32 ?_
        obtain ⟨hi, h⟩ := h
        refine m_iald X hw (tD hw0) 0 rfl hi dX3_giveBack_33 ?_
        refine lv_aload_n hx hb dX3_giveBack_34 rfl (lv_at hl 1 rfl) ?_
        refine m_get (v := .ref (g.1 (4 * w1 + 1))) X hw (tW hw1) rfl inA_X3 0 (by decide) mw_36 rfl dX3_giveBack_35 ?_
        refine lv_iload hx hb dX3_giveBack_38 (lv_at hl 4 rfl) ?_
        obtain ⟨hi, h⟩ := h
        refine m_iald X hw (tD hw1) 0 rfl hi dX3_giveBack_40 ?_
        refine lv_iadd hx hb dX3_giveBack_41 ?_
        refine lv_iload_n hx hb dX3_giveBack_42 rfl (lv_at hl 3 rfl) ?_
        refine lv_iadd hx hb dX3_giveBack_43 ?_
        refine lv_topi (fun a2 ea2 => ?_)
        replace h := h a2 ea2
        refine lv_istore (lv' := [(5, .int a2), (0, .ref (g.1 (4 * w0))), (1, .ref (g.1 (4 * w1))), (2, .int x2), (3, .int i3), (4, .int i4)]) hx hb dX3_giveBack_44 hl (by decide) rfl (fun ls hl => ?_)
        refine lv_aload_n hx hb dX3_giveBack_46 rfl (lv_at hl 1 rfl) ?_
        refine m_get (v := .ref (g.1 (4 * w0 + 1))) X hw (tW hw0) rfl inA_X3 0 (by decide) mw_36 rfl dX3_giveBack_47 ?_
        refine lv_iload_n hx hb dX3_giveBack_50 rfl (lv_at hl 3 rfl) ?_
        refine lv_iload hx hb dX3_giveBack_51 (lv_at hl 5 rfl) ?_
        refine lv_iadd hx hb dX3_giveBack_53 ?_
        refine lv_iload hx hb dX3_giveBack_54 (lv_at hl 0 rfl) ?_
        refine lv_ldc (v := (2147483647 : Int32)) hx hb hown (hts _ mw_208) dX3_giveBack_56 ?_
        refine lv_iand hx hb dX3_giveBack_58 ?_
        obtain ⟨hi, h⟩ := h
        refine m_iast (T' := cT g (sFi σ w0 (x2 + i4) (a2 &&& (2147483647 : Int32)))) X hw hS (tD hw0) 0 rfl hi (uF hg) dX3_giveBack_59 (fun H locs hw hS => ?_)
        refine lv_iload hx hb dX3_giveBack_60 (lv_at hl 0 rfl) ?_
        refine lv_bipush (v := (31 : Int32)) hx hb dX3_giveBack_62 (by decide) ?_
        refine lv_iushr (v := jushr a2 (31 : Int32)) hx hb dX3_giveBack_64 rfl ?_
        refine lv_topi (fun a3 ea3 => ?_)
        replace h := h a3 ea3
        refine lv_istore_n (lv' := [(3, .int a3), (5, .int a2), (0, .ref (g.1 (4 * w0))), (1, .ref (g.1 (4 * w1))), (2, .int x2), (4, .int i4)]) hx hb dX3_giveBack_65 rfl hl (by decide) rfl (fun ls hl => ?_)
        obtain ⟨a4, ea4⟩ : ∃ z : Int32, z = i4 + (1 : Int32) := ⟨_, rfl⟩
        replace h := h a4 ea4
        refine lv_iinc (v := a4) (lv' := [(4, .int a4), (3, .int a3), (5, .int a2), (0, .ref (g.1 (4 * w0))), (1, .ref (g.1 (4 * w1))), (2, .int x2)]) hx hb dX3_giveBack_66 hl (k := 5) rfl (by rw [ea4]; rfl) (by decide) rfl (fun ls hl => ?_)
        refine lv_goto (tgt := 5) hx hb dX3_giveBack_69 (by decide) ?_
        exact hN5 a3 a4 _ h H locs ls hw hS (lv_sub hl [3, 4, 5, 1, 0] rfl)
def wpX3_giveBack_0 (w0 : Nat) (w1 : Nat) (x2 : Int32) (Q : CS → Prop) (σ : CS) : Prop :=
  ∃ n, lq3 (wbX3_giveBack_5 w0 w1 x2 Q) n (0 : Int32) (0 : Int32) σ
set_option maxRecDepth 100000 in
set_option maxHeartbeats 4000000 in
theorem wX3_giveBack_0 {p : Program} {l : Launch} {e : Env} {s : State} {m : MethodId} {args : Array Value} {below : List Frame} {meth : Method} {c : Code} {D : va_G} {A : Nat → Prop} {g : mG} (hg : inj g) {w0 : Nat} {w1 : Nat} {x2 : Int32} (hw0 : okW w0) (hw1 : okW w1) (X : cx p m meth c s args cX3_giveBack 6 RX3 D (tyG g)) (hr : meth.sig.returnType = none) {Q : CS → Prop} : ∀ (σ : CS), wpX3_giveBack_0 w0 w1 x2 Q σ → cW p l e rmX3_giveBack s m args below meth c (MQ below (va_Qv Q (fun u t => wd D A (cT g u) t.heap) A) args s 0 0 A) D A (cT g σ) 0 6 [(0, .ref (g.1 (4 * w0))), (1, .ref (g.1 (4 * w1))), (2, .int x2)] := by
  obtain ⟨hx, hb, hml, hown, hts, hK, hlk⟩ := id X
  intro σ h H locs ls hw hS hl
  unfold wpX3_giveBack_0 at h
  refine lv_iconst (v := (0 : Int32)) hx hb dX3_giveBack_0 (by decide) ?_
  refine lv_istore_n (lv' := [(3, .int (0 : Int32)), (0, .ref (g.1 (4 * w0))), (1, .ref (g.1 (4 * w1))), (2, .int x2)]) hx hb dX3_giveBack_1 rfl hl (by decide) rfl (fun ls hl => ?_)
  refine lv_iconst (v := (0 : Int32)) hx hb dX3_giveBack_2 (by decide) ?_
  refine lv_istore (lv' := [(4, .int (0 : Int32)), (3, .int (0 : Int32)), (0, .ref (g.1 (4 * w0))), (1, .ref (g.1 (4 * w1))), (2, .int x2)]) hx hb dX3_giveBack_3 hl (by decide) rfl (fun ls hl => ?_)
  obtain ⟨n9, h⟩ := h
  exact wX3_giveBack_5 hg hw0 hw1 X hr n9 (0 : Int32) (0 : Int32) _ h H locs ls hw hS (lv_sub hl [2, 3, 4, 1, 0] rfl)
def wpX3_giveBack (w0 : Nat) (w1 : Nat) (x2 : Int32) (σ : CS) (Q : CS → Prop) : Prop := wpX3_giveBack_0 w0 w1 x2 Q σ
theorem kX3_giveBack {l : Launch} {D : va_G} {A : Nat → Prop} {g : mG} (hg : inj g) {w0 : Nat} {w1 : Nat} {x2 : Int32} (hw0 : okW w0) (hw1 : okW w1) {σ : CS} {Q : CS → Prop} (h : wpX3_giveBack w0 w1 x2 σ Q) : Met l yX3_giveBack (Cond.code yX3_giveBack cX3_giveBack 6 none :: wsA) rmX3_giveBack (mPc D (tyG g) A (cT g σ) [.ref (g.1 (4 * w0)), .ref (g.1 (4 * w1)), .int x2]) (va_Qv Q (fun u t => wd D A (cT g u) t.heap) A) 0 0 A :=
  m_met (by decide +kernel) (Nat.le_of_ble_eq_true rfl) (fun p e s m below meth c X hr H locs ls hw hS hl => wX3_giveBack_0 hg hw0 hw1 X hr σ h H locs ls hw hS (lv_sub hl [0, 1, 2] rfl))
theorem fX3_giveBack : vfit yX3_giveBack cX3_giveBack 6 none 2 := ⟨mw_380, mw_381, mw_29, mw_382, by decide +kernel, by decide +kernel, by decide +kernel⟩
/-! BigPolys$Whole.divide(LBigPolys$Whole;LBigPolys$Whole;)V -/
def rmX3_divide : Room := { frames := 2, cells := 0, slots := 0, locals := 56 }
def wpX3_divide_175 (w0 : Nat) (w1 : Nat) (w2 : Nat) (Q : CS → Prop) (N84 : Int32 → Int32 → Int64 → Int64 → Int32 → CS → Prop) (i3 : Int32) (i4 : Int32) (l5 : Int64) (l7 : Int64) (i9 : Int32) (l13 : Int64) (σ : CS) : Prop :=
  vp_in i9 (capW w2) ∧ (
  ∀ a1 : Int32, a1 = i9 + (-1 : Int32) →
  N84 i3 i4 l5 l7 a1 (sFi σ w2 i9 l13.toInt32))
set_option maxRecDepth 100000 in
set_option maxHeartbeats 4000000 in
theorem wX3_divide_175 {p : Program} {l : Launch} {e : Env} {s : State} {m : MethodId} {args : Array Value} {below : List Frame} {meth : Method} {c : Code} {D : va_G} {A : Nat → Prop} {g : mG} (hg : inj g) {w0 : Nat} {w1 : Nat} {w2 : Nat} (hw0 : okW w0) (hw1 : okW w1) (hw2 : okW w2) (X : cx p m meth c s args cX3_divide 15 RX3 D (tyG g)) (hr : meth.sig.returnType = none) {Q : CS → Prop} {N84 : Int32 → Int32 → Int64 → Int64 → Int32 → CS → Prop} (hN84 : ∀ (i3 : Int32) (i4 : Int32) (l5 : Int64) (l7 : Int64) (i9 : Int32) (σ : CS), N84 i3 i4 l5 l7 i9 σ → cW p l e rmX3_divide s m args below meth c (MQ below (va_Qv Q (fun u t => wd D A (cT g u) t.heap) A) args s 0 0 A) D A (cT g σ) 84 15 [(0, .ref (g.1 (4 * w0))), (1, .ref (g.1 (4 * w1))), (2, .ref (g.1 (4 * w2))), (3, .int i3), (4, .int i4), (5, .long l5), (7, .long l7), (9, .int i9)]) : ∀ (i3 : Int32) (i4 : Int32) (l5 : Int64) (l7 : Int64) (i9 : Int32) (l13 : Int64) (σ : CS), wpX3_divide_175 w0 w1 w2 Q N84 i3 i4 l5 l7 i9 l13 σ → cW p l e rmX3_divide s m args below meth c (MQ below (va_Qv Q (fun u t => wd D A (cT g u) t.heap) A) args s 0 0 A) D A (cT g σ) 175 15 [(0, .ref (g.1 (4 * w0))), (1, .ref (g.1 (4 * w1))), (2, .ref (g.1 (4 * w2))), (3, .int i3), (4, .int i4), (5, .long l5), (7, .long l7), (9, .int i9), (13, .long l13)] := by
  obtain ⟨hx, hb, hml, hown, hts, hK, hlk⟩ := id X
  intro i3 i4 l5 l7 i9 l13 σ h H locs ls hw hS hl
  unfold wpX3_divide_175 at h
  refine lv_aload_n hx hb dX3_divide_175 rfl (lv_at hl 2 rfl) ?_
  refine m_get (v := .ref (g.1 (4 * w2 + 1))) X hw (tW hw2) rfl inA_X3 0 (by decide) mw_36 rfl dX3_divide_176 ?_
  refine lv_iload hx hb dX3_divide_179 (lv_at hl 7 rfl) ?_
  refine lv_lload hx hb dX3_divide_181 (lv_at hl 8 rfl) ?_
  refine lv_l2i (v := l13.toInt32) hx hb dX3_divide_183 rfl ?_
  obtain ⟨hi, h⟩ := h
  refine m_iast (T' := cT g (sFi σ w2 i9 l13.toInt32)) X hw hS (tD hw2) 0 rfl hi (uF hg) dX3_divide_184 (fun H locs hw hS => ?_)
  obtain ⟨a1, ea1⟩ : ∃ z : Int32, z = i9 + (-1 : Int32) := ⟨_, rfl⟩
  replace h := h a1 ea1
  refine lv_iinc (v := a1) (lv' := [(9, .int a1), (0, .ref (g.1 (4 * w0))), (1, .ref (g.1 (4 * w1))), (2, .ref (g.1 (4 * w2))), (3, .int i3), (4, .int i4), (5, .long l5), (7, .long l7), (13, .long l13)]) hx hb dX3_divide_185 hl (k := 7) rfl (by rw [ea1]; rfl) (by decide) rfl (fun ls hl => ?_)
  refine lv_goto (tgt := 84) hx hb dX3_divide_188 (by decide) ?_
  exact hN84 i3 i4 l5 l7 a1 _ h H locs ls hw hS (lv_sub hl [1, 2, 3, 4, 5, 6, 7, 0] rfl)
def wbX3_divide_84 (w0 : Nat) (w1 : Nat) (w2 : Nat) (Q : CS → Prop) (N84 : Int32 → Int32 → Int64 → Int64 → Int32 → CS → Prop) (i3 : Int32) (i4 : Int32) (l5 : Int64) (l7 : Int64) (i9 : Int32) (σ : CS) : Prop :=
  (i9 < 0 →
    wpX3_trim w2 (sG (sS σ w2 (i3 + (1 : Int32))) w2 ((cG (sS σ w2 (i3 + (1 : Int32))) w0) * (cG (sS σ w2 (i3 + (1 : Int32))) w1))) (fun (σ3 : CS) =>
      wpX3_trim w0 σ3 (fun (σ5 : CS) =>
        Q σ5))) ∧
  (¬ i9 < 0 →
    ∀ a6 : Int32, a6 = i9 + (cS σ w1) →
    wpX3_window w0 a6 i4 σ (fun (r7 : Int64) (σ8 : CS) =>
      wpX3_window w0 (a6 - (1 : Int32)) i4 σ8 (fun (r9 : Int64) (σ10 : CS) =>
        ∀ b11 : Int64, b11 = (jlshl r7 (31 : Int32)) ||| r9 →
        wpX3_window w0 (a6 - (2 : Int32)) i4 σ10 (fun (r12 : Int64) (σ13 : CS) =>
          wpX3_guess b11 r12 l5 l7 σ13 (fun (r14 : Int64) (σ15 : CS) =>
            ((lg_cmp r14 (0 : Int64)) = 0 →
              wpX3_divide_175 w0 w1 w2 Q N84 i3 i4 l5 l7 i9 r14 σ15) ∧
            (¬ (lg_cmp r14 (0 : Int64)) = 0 →
              wpX3_takesTooMuch w0 w1 r14 i9 σ15 (fun (r16 : Int32) (σ17 : CS) =>
                (r16 = 0 →
                  wpX3_divide_175 w0 w1 w2 Q N84 i3 i4 l5 l7 i9 r14 σ17) ∧
                (¬ r16 = 0 →
                  wpX3_giveBack w0 w1 i9 σ17 (fun (σ19 : CS) =>
                    ∀ b20 : Int64, b20 = r14 - (1 : Int64) →
                    wpX3_divide_175 w0 w1 w2 Q N84 i3 i4 l5 l7 i9 b20 σ19)))))))))
set_option maxRecDepth 100000 in
set_option maxHeartbeats 4000000 in
theorem wX3_divide_84 {p : Program} {l : Launch} {e : Env} {s : State} {m : MethodId} {args : Array Value} {below : List Frame} {meth : Method} {c : Code} {D : va_G} {A : Nat → Prop} {g : mG} (hg : inj g) {w0 : Nat} {w1 : Nat} {w2 : Nat} (hw0 : okW w0) (hw1 : okW w1) (hw2 : okW w2) (X : cx p m meth c s args cX3_divide 15 RX3 D (tyG g)) (hr : meth.sig.returnType = none) {Q : CS → Prop} : ∀ (n : Nat) (i3 : Int32) (i4 : Int32) (l5 : Int64) (l7 : Int64) (i9 : Int32) (σ : CS), lq6 (wbX3_divide_84 w0 w1 w2 Q) n i3 i4 l5 l7 i9 σ → cW p l e rmX3_divide s m args below meth c (MQ below (va_Qv Q (fun u t => wd D A (cT g u) t.heap) A) args s 0 0 A) D A (cT g σ) 84 15 [(0, .ref (g.1 (4 * w0))), (1, .ref (g.1 (4 * w1))), (2, .ref (g.1 (4 * w2))), (3, .int i3), (4, .int i4), (5, .long l5), (7, .long l7), (9, .int i9)] := by
  obtain ⟨hx, hb, hml, hown, hts, hK, hlk⟩ := id X
  intro n
  induction n with
  | zero =>
    intro i3 i4 l5 l7 i9 σ h
    exact h.elim
  | succ n hN84 =>
    intro i3 i4 l5 l7 i9 σ h H locs ls hw hS hl
    replace h : wbX3_divide_84 w0 w1 w2 Q (lq6 (wbX3_divide_84 w0 w1 w2 Q) n) i3 i4 l5 l7 i9 σ := h
    unfold wbX3_divide_84 at h
    refine lv_iload hx hb dX3_divide_84 (lv_at hl 7 rfl) ?_
    refine lv_if_lt (tgt := 191) hx hb dX3_divide_86 (by decide) (fun hc => ?_) (fun hc => ?_)
    · replace h := h.1 hc
      refine lv_aload_n hx hb dX3_divide_191 rfl (lv_at hl 2 rfl) ?_
      refine lv_iload_n hx hb dX3_divide_192 rfl (lv_at hl 3 rfl) ?_
      refine lv_iconst (v := (1 : Int32)) hx hb dX3_divide_193 (by decide) ?_
      refine lv_iadd hx hb dX3_divide_194 ?_
      refine m_put (T' := cT g (sS σ w2 (i3 + (1 : Int32)))) X hw hS (tW hw2) rfl inA_X3 tyX3 tyX3_ok nmX3 1 (by decide) mw_100 rfl pd_I (Nat.le_of_ble_eq_true rfl) (uS hg) dX3_divide_195 (fun H locs hw hS => ?_)
      refine lv_aload_n hx hb dX3_divide_198 rfl (lv_at hl 2 rfl) ?_
      refine lv_aload_n hx hb dX3_divide_199 rfl (lv_at hl 0 rfl) ?_
      refine m_get (v := .int (cG (sS σ w2 (i3 + (1 : Int32))) w0)) X hw (tW hw0) rfl inA_X3 2 (by decide) mw_101 rfl dX3_divide_200 ?_
      refine lv_aload_n hx hb dX3_divide_203 rfl (lv_at hl 1 rfl) ?_
      refine m_get (v := .int (cG (sS σ w2 (i3 + (1 : Int32))) w1)) X hw (tW hw1) rfl inA_X3 2 (by decide) mw_101 rfl dX3_divide_204 ?_
      refine lv_imul hx hb dX3_divide_207 ?_
      refine m_put (T' := cT g (sG (sS σ w2 (i3 + (1 : Int32))) w2 ((cG (sS σ w2 (i3 + (1 : Int32))) w0) * (cG (sS σ w2 (i3 + (1 : Int32))) w1)))) X hw hS (tW hw2) rfl inA_X3 tyX3 tyX3_ok nmX3 2 (by decide) mw_101 rfl pd_I (Nat.le_of_ble_eq_true rfl) (uG hg) dX3_divide_208 (fun H locs hw hS => ?_)
      refine lv_aload_n hx hb dX3_divide_211 rfl (lv_at hl 2 rfl) ?_
      refine m_cVv (TT := cT g) (As := []) (rest := []) X hl.1 hw hS (kX3_trim hg hw2 h) mw_191 fX3_trim (tW hw2) rfl rfl ⟨rfl, rfl, Nat.le_of_ble_eq_true rfl, Nat.le_of_ble_eq_true rfl⟩ rfl rfl (Nat.le_of_ble_eq_true rfl) dX3_divide_212 (fun σ3 H locs h hw hS => ?_)
      refine lv_aload_n hx hb dX3_divide_215 rfl (lv_at hl 0 rfl) ?_
      refine m_cVv (TT := cT g) (As := []) (rest := []) X hl.1 hw hS (kX3_trim hg hw0 h) mw_191 fX3_trim (tW hw0) rfl rfl ⟨rfl, rfl, Nat.le_of_ble_eq_true rfl, Nat.le_of_ble_eq_true rfl⟩ rfl rfl (Nat.le_of_ble_eq_true rfl) dX3_divide_216 (fun σ5 H locs h hw hS => ?_)
      exact m_vret X hr hw hS h dX3_divide_219
    · replace h := h.2 hc
      refine lv_iload hx hb dX3_divide_89 (lv_at hl 7 rfl) ?_
      refine lv_aload_n hx hb dX3_divide_91 rfl (lv_at hl 1 rfl) ?_
      refine m_get (v := .int (cS σ w1)) X hw (tW hw1) rfl inA_X3 1 (by decide) mw_100 rfl dX3_divide_92 ?_
      refine lv_iadd hx hb dX3_divide_95 ?_
      refine lv_topi (fun a6 ea6 => ?_)
      replace h := h a6 ea6
      refine lv_istore (lv' := [(10, .int a6), (0, .ref (g.1 (4 * w0))), (1, .ref (g.1 (4 * w1))), (2, .ref (g.1 (4 * w2))), (3, .int i3), (4, .int i4), (5, .long l5), (7, .long l7), (9, .int i9)]) hx hb dX3_divide_96 hl (by decide) rfl (fun ls hl => ?_)
      refine lv_aload_n hx hb dX3_divide_98 rfl (lv_at hl 1 rfl) ?_
      refine lv_iload hx hb dX3_divide_99 (lv_at hl 0 rfl) ?_
      refine lv_iload hx hb dX3_divide_101 (lv_at hl 5 rfl) ?_
      refine m_cVl (TT := cT g) (As := [.int a6, .int i4]) (rest := []) X hl.1 hw hS (kX3_window hg hw0 h) mw_365 fX3_window (tW hw0) rfl rfl ⟨rfl, rfl, Nat.le_of_ble_eq_true rfl, Nat.le_of_ble_eq_true rfl⟩ rfl rfl (Nat.le_of_ble_eq_true rfl) dX3_divide_103 (fun r7 σ8 H locs h hw hS => ?_)
      refine lv_bipush (v := (31 : Int32)) hx hb dX3_divide_106 (by decide) ?_
      refine lv_lshl (v := jlshl r7 (31 : Int32)) hx hb dX3_divide_108 rfl ?_
      refine lv_aload_n hx hb dX3_divide_109 rfl (lv_at hl 1 rfl) ?_
      refine lv_iload hx hb dX3_divide_110 (lv_at hl 0 rfl) ?_
      refine lv_iconst (v := (1 : Int32)) hx hb dX3_divide_112 (by decide) ?_
      refine lv_isub hx hb dX3_divide_113 ?_
      refine lv_iload hx hb dX3_divide_114 (lv_at hl 5 rfl) ?_
      refine m_cVl (TT := cT g) (As := [.int (a6 - (1 : Int32)), .int i4]) (rest := [.long (jlshl r7 (31 : Int32))]) X hl.1 hw hS (kX3_window hg hw0 h) mw_365 fX3_window (tW hw0) rfl rfl ⟨rfl, rfl, Nat.le_of_ble_eq_true rfl, Nat.le_of_ble_eq_true rfl⟩ rfl rfl (Nat.le_of_ble_eq_true rfl) dX3_divide_116 (fun r9 σ10 H locs h hw hS => ?_)
      refine lv_lor hx hb dX3_divide_119 ?_
      refine lv_topl (fun b11 eb11 => ?_)
      replace h := h b11 eb11
      refine lv_lstore (lv' := [(11, .long b11), (10, .int a6), (0, .ref (g.1 (4 * w0))), (1, .ref (g.1 (4 * w1))), (2, .ref (g.1 (4 * w2))), (3, .int i3), (4, .int i4), (5, .long l5), (7, .long l7), (9, .int i9)]) hx hb dX3_divide_120 hl (by decide) rfl (fun ls hl => ?_)
      refine lv_lload hx hb dX3_divide_122 (lv_at hl 0 rfl) ?_
      refine lv_aload_n hx hb dX3_divide_124 rfl (lv_at hl 2 rfl) ?_
      refine lv_iload hx hb dX3_divide_125 (lv_at hl 1 rfl) ?_
      refine lv_iconst (v := (2 : Int32)) hx hb dX3_divide_127 (by decide) ?_
      refine lv_isub hx hb dX3_divide_128 ?_
      refine lv_iload hx hb dX3_divide_129 (lv_at hl 6 rfl) ?_
      refine m_cVl (TT := cT g) (As := [.int (a6 - (2 : Int32)), .int i4]) (rest := [.long b11]) X hl.1 hw hS (kX3_window hg hw0 h) mw_365 fX3_window (tW hw0) rfl rfl ⟨rfl, rfl, Nat.le_of_ble_eq_true rfl, Nat.le_of_ble_eq_true rfl⟩ rfl rfl (Nat.le_of_ble_eq_true rfl) dX3_divide_131 (fun r12 σ13 H locs h hw hS => ?_)
      refine lv_lload hx hb dX3_divide_134 (lv_at hl 7 rfl) ?_
      refine lv_lload hx hb dX3_divide_136 (lv_at hl 8 rfl) ?_
      refine m_cSl (TT := cT g) (As := [.long b11, .long r12, .long l5, .long l7]) (rest := []) X hl.1 hw hS (kX3_guess hg h) mw_369 fX3_guess ⟨rfl, rfl, Nat.le_of_ble_eq_true rfl, Nat.le_of_ble_eq_true rfl⟩ rfl rfl (Nat.le_of_ble_eq_true rfl) dX3_divide_138 (fun r14 σ15 H locs h hw hS => ?_)
      refine lv_lstore (lv' := [(13, .long r14), (11, .long b11), (10, .int a6), (0, .ref (g.1 (4 * w0))), (1, .ref (g.1 (4 * w1))), (2, .ref (g.1 (4 * w2))), (3, .int i3), (4, .int i4), (5, .long l5), (7, .long l7), (9, .int i9)]) hx hb dX3_divide_141 hl (by decide) rfl (fun ls hl => ?_)
      refine lv_lload hx hb dX3_divide_143 (lv_at hl 0 rfl) ?_
      refine lv_lconst (v := (0 : Int64)) hx hb dX3_divide_145 (by decide) ?_
      refine W.lcmp hx hb dX3_divide_146 ?_
      refine lv_if_eq (tgt := 175) hx hb dX3_divide_147 (by decide) (fun hc => ?_) (fun hc => ?_)
      · replace h := h.1 hc
        exact wX3_divide_175 hg hw0 hw1 hw2 X hr hN84 i3 i4 l5 l7 i9 r14 _ h H locs ls hw hS (lv_sub hl [3, 4, 5, 6, 7, 8, 9, 10, 0] rfl)
      · replace h := h.2 hc
        refine lv_aload_n hx hb dX3_divide_150 rfl (lv_at hl 3 rfl) ?_
        refine lv_aload_n hx hb dX3_divide_151 rfl (lv_at hl 4 rfl) ?_
        refine lv_lload hx hb dX3_divide_152 (lv_at hl 0 rfl) ?_
        refine lv_iload hx hb dX3_divide_154 (lv_at hl 10 rfl) ?_
        refine m_cVi (TT := cT g) (As := [.ref (g.1 (4 * w1)), .long r14, .int i9]) (rest := []) X hl.1 hw hS (kX3_takesTooMuch hg hw0 hw1 h) mw_375 fX3_takesTooMuch (tW hw0) rfl rfl ⟨rfl, rfl, Nat.le_of_ble_eq_true rfl, Nat.le_of_ble_eq_true rfl⟩ rfl rfl (Nat.le_of_ble_eq_true rfl) dX3_divide_156 (fun r16 σ17 H locs h hw hS => ?_)
        refine lv_if_eq (tgt := 175) hx hb dX3_divide_159 (by decide) (fun hc => ?_) (fun hc => ?_)
        · replace h := h.1 hc
          exact wX3_divide_175 hg hw0 hw1 hw2 X hr hN84 i3 i4 l5 l7 i9 r14 _ h H locs ls hw hS (lv_sub hl [3, 4, 5, 6, 7, 8, 9, 10, 0] rfl)
        · replace h := h.2 hc
          refine lv_aload_n hx hb dX3_divide_162 rfl (lv_at hl 3 rfl) ?_
          refine lv_aload_n hx hb dX3_divide_163 rfl (lv_at hl 4 rfl) ?_
          refine lv_iload hx hb dX3_divide_164 (lv_at hl 10 rfl) ?_
          refine m_cVv (TT := cT g) (As := [.ref (g.1 (4 * w1)), .int i9]) (rest := []) X hl.1 hw hS (kX3_giveBack hg hw0 hw1 h) mw_379 fX3_giveBack (tW hw0) rfl rfl ⟨rfl, rfl, Nat.le_of_ble_eq_true rfl, Nat.le_of_ble_eq_true rfl⟩ rfl rfl (Nat.le_of_ble_eq_true rfl) dX3_divide_166 (fun σ19 H locs h hw hS => ?_)
          refine lv_lload hx hb dX3_divide_169 (lv_at hl 0 rfl) ?_
          refine lv_lconst (v := (1 : Int64)) hx hb dX3_divide_171 (by decide) ?_
          refine lv_lsub hx hb dX3_divide_172 ?_
          refine lv_topl (fun b20 eb20 => ?_)
          replace h := h b20 eb20
          refine lv_lstore (lv' := [(13, .long b20), (11, .long b11), (10, .int a6), (0, .ref (g.1 (4 * w0))), (1, .ref (g.1 (4 * w1))), (2, .ref (g.1 (4 * w2))), (3, .int i3), (4, .int i4), (5, .long l5), (7, .long l7), (9, .int i9)]) hx hb dX3_divide_173 hl (by decide) rfl (fun ls hl => ?_)
          exact wX3_divide_175 hg hw0 hw1 hw2 X hr hN84 i3 i4 l5 l7 i9 b20 _ h H locs ls hw hS (lv_sub hl [3, 4, 5, 6, 7, 8, 9, 10, 0] rfl)
def wpX3_divide_0 (w0 : Nat) (w1 : Nat) (w2 : Nat) (Q : CS → Prop) (σ : CS) : Prop :=
  wpX3_clear w2 σ (fun (σ22 : CS) =>
    ∀ a23 : Int32, a23 = (cS σ22 w0) - (cS σ22 w1) →
    ((cS σ22 w1) = 0 →
      Q σ22) ∧
    (¬ (cS σ22 w1) = 0 →
      (a23 < 0 →
        Q σ22) ∧
      (¬ a23 < 0 →
        (a23 < (Int32.ofNat (capW w2)) →
          vp_in ((cS σ22 w1) - (1 : Int32)) (capW w1) ∧ (
          wpJ6_numberOfLeadingZeros_0f7a4 (cF σ22 w1 ((cS σ22 w1) - (1 : Int32)).toNatClampNeg) σ22 (fun (r24 : Int32) (σ25 : CS) =>
            ∀ a26 : Int32, a26 = r24 - (1 : Int32) →
            wpX3_window w1 ((cS σ25 w1) - (1 : Int32)) a26 σ25 (fun (r27 : Int64) (σ28 : CS) =>
              wpX3_window w1 ((cS σ28 w1) - (2 : Int32)) a26 σ28 (fun (r29 : Int64) (σ30 : CS) =>
                ∃ n, lq6 (wbX3_divide_84 w0 w1 w2 Q) n a23 a26 r27 r29 a23 σ30))))) ∧
        (¬ a23 < (Int32.ofNat (capW w2)) →
          Q σ22))))
set_option maxRecDepth 100000 in
set_option maxHeartbeats 4000000 in
theorem wX3_divide_0 {p : Program} {l : Launch} {e : Env} {s : State} {m : MethodId} {args : Array Value} {below : List Frame} {meth : Method} {c : Code} {D : va_G} {A : Nat → Prop} {g : mG} (hg : inj g) {w0 : Nat} {w1 : Nat} {w2 : Nat} (hw0 : okW w0) (hw1 : okW w1) (hw2 : okW w2) (X : cx p m meth c s args cX3_divide 15 RX3 D (tyG g)) (hr : meth.sig.returnType = none) {Q : CS → Prop} : ∀ (σ : CS), wpX3_divide_0 w0 w1 w2 Q σ → cW p l e rmX3_divide s m args below meth c (MQ below (va_Qv Q (fun u t => wd D A (cT g u) t.heap) A) args s 0 0 A) D A (cT g σ) 0 15 [(0, .ref (g.1 (4 * w0))), (1, .ref (g.1 (4 * w1))), (2, .ref (g.1 (4 * w2)))] := by
  obtain ⟨hx, hb, hml, hown, hts, hK, hlk⟩ := id X
  intro σ h H locs ls hw hS hl
  unfold wpX3_divide_0 at h
  refine lv_aload_n hx hb dX3_divide_0 rfl (lv_at hl 2 rfl) ?_
  refine m_cVv (TT := cT g) (As := []) (rest := []) X hl.1 hw hS (kX3_clear hg hw2 h) mw_291 fX3_clear (tW hw2) rfl rfl ⟨rfl, rfl, Nat.le_of_ble_eq_true rfl, Nat.le_of_ble_eq_true rfl⟩ rfl rfl (Nat.le_of_ble_eq_true rfl) dX3_divide_1 (fun σ22 H locs h hw hS => ?_)
  refine lv_aload_n hx hb dX3_divide_4 rfl (lv_at hl 0 rfl) ?_
  refine m_get (v := .int (cS σ22 w0)) X hw (tW hw0) rfl inA_X3 1 (by decide) mw_100 rfl dX3_divide_5 ?_
  refine lv_aload_n hx hb dX3_divide_8 rfl (lv_at hl 1 rfl) ?_
  refine m_get (v := .int (cS σ22 w1)) X hw (tW hw1) rfl inA_X3 1 (by decide) mw_100 rfl dX3_divide_9 ?_
  refine lv_isub hx hb dX3_divide_12 ?_
  refine lv_topi (fun a23 ea23 => ?_)
  replace h := h a23 ea23
  refine lv_istore_n (lv' := [(3, .int a23), (0, .ref (g.1 (4 * w0))), (1, .ref (g.1 (4 * w1))), (2, .ref (g.1 (4 * w2)))]) hx hb dX3_divide_13 rfl hl (by decide) rfl (fun ls hl => ?_)
  refine lv_aload_n hx hb dX3_divide_14 rfl (lv_at hl 2 rfl) ?_
  refine m_get (v := .int (cS σ22 w1)) X hw (tW hw1) rfl inA_X3 1 (by decide) mw_100 rfl dX3_divide_15 ?_
  refine lv_if_eq (tgt := 34) hx hb dX3_divide_18 (by decide) (fun hc => ?_) (fun hc => ?_)
  · replace h := h.1 hc
    exact m_vret X hr hw hS h dX3_divide_34
  · replace h := h.2 hc
    refine lv_iload_n hx hb dX3_divide_21 rfl (lv_at hl 0 rfl) ?_
    refine lv_if_lt (tgt := 34) hx hb dX3_divide_22 (by decide) (fun hc => ?_) (fun hc => ?_)
    · replace h := h.1 hc
      exact m_vret X hr hw hS h dX3_divide_34
    · replace h := h.2 hc
      refine lv_iload_n hx hb dX3_divide_25 rfl (lv_at hl 0 rfl) ?_
      refine lv_aload_n hx hb dX3_divide_26 rfl (lv_at hl 3 rfl) ?_
      refine m_get (v := .ref (g.1 (4 * w2 + 1))) X hw (tW hw2) rfl inA_X3 0 (by decide) mw_36 rfl dX3_divide_27 ?_
      refine m_alen (v := Int32.ofNat (capW w2)) X hw (tD hw2) 0 rfl rfl dX3_divide_30 ?_
      refine lv_icmp_lt (tgt := 35) hx hb dX3_divide_31 (by decide) (fun hc => ?_) (fun hc => ?_)
      · replace h := h.1 hc
        refine lv_aload_n hx hb dX3_divide_35 rfl (lv_at hl 2 rfl) ?_
        refine m_get (v := .ref (g.1 (4 * w1 + 1))) X hw (tW hw1) rfl inA_X3 0 (by decide) mw_36 rfl dX3_divide_36 ?_
        refine lv_aload_n hx hb dX3_divide_39 rfl (lv_at hl 2 rfl) ?_
        refine m_get (v := .int (cS σ22 w1)) X hw (tW hw1) rfl inA_X3 1 (by decide) mw_100 rfl dX3_divide_40 ?_
        refine lv_iconst (v := (1 : Int32)) hx hb dX3_divide_43 (by decide) ?_
        refine lv_isub hx hb dX3_divide_44 ?_
        obtain ⟨hi, h⟩ := h
        refine m_iald X hw (tD hw1) 0 rfl hi dX3_divide_45 ?_
        refine m_cSi (TT := cT g) (As := [.int (cF σ22 w1 ((cS σ22 w1) - (1 : Int32)).toNatClampNeg)]) (rest := []) X hl.1 hw hS (kJ6_numberOfLeadingZeros_0f7a4 hg h) mw_360 fJ6_numberOfLeadingZeros_0f7a4 ⟨rfl, rfl, Nat.le_of_ble_eq_true rfl, Nat.le_of_ble_eq_true rfl⟩ rfl rfl (Nat.le_of_ble_eq_true rfl) dX3_divide_46 (fun r24 σ25 H locs h hw hS => ?_)
        refine lv_iconst (v := (1 : Int32)) hx hb dX3_divide_49 (by decide) ?_
        refine lv_isub hx hb dX3_divide_50 ?_
        refine lv_topi (fun a26 ea26 => ?_)
        replace h := h a26 ea26
        refine lv_istore (lv' := [(4, .int a26), (3, .int a23), (0, .ref (g.1 (4 * w0))), (1, .ref (g.1 (4 * w1))), (2, .ref (g.1 (4 * w2)))]) hx hb dX3_divide_51 hl (by decide) rfl (fun ls hl => ?_)
        refine lv_aload_n hx hb dX3_divide_53 rfl (lv_at hl 3 rfl) ?_
        refine lv_aload_n hx hb dX3_divide_54 rfl (lv_at hl 3 rfl) ?_
        refine m_get (v := .int (cS σ25 w1)) X hw (tW hw1) rfl inA_X3 1 (by decide) mw_100 rfl dX3_divide_55 ?_
        refine lv_iconst (v := (1 : Int32)) hx hb dX3_divide_58 (by decide) ?_
        refine lv_isub hx hb dX3_divide_59 ?_
        refine lv_iload hx hb dX3_divide_60 (lv_at hl 0 rfl) ?_
        refine m_cVl (TT := cT g) (As := [.int ((cS σ25 w1) - (1 : Int32)), .int a26]) (rest := []) X hl.1 hw hS (kX3_window hg hw1 h) mw_365 fX3_window (tW hw1) rfl rfl ⟨rfl, rfl, Nat.le_of_ble_eq_true rfl, Nat.le_of_ble_eq_true rfl⟩ rfl rfl (Nat.le_of_ble_eq_true rfl) dX3_divide_62 (fun r27 σ28 H locs h hw hS => ?_)
        refine lv_lstore (lv' := [(5, .long r27), (4, .int a26), (3, .int a23), (0, .ref (g.1 (4 * w0))), (1, .ref (g.1 (4 * w1))), (2, .ref (g.1 (4 * w2)))]) hx hb dX3_divide_65 hl (by decide) rfl (fun ls hl => ?_)
        refine lv_aload_n hx hb dX3_divide_67 rfl (lv_at hl 4 rfl) ?_
        refine lv_aload_n hx hb dX3_divide_68 rfl (lv_at hl 4 rfl) ?_
        refine m_get (v := .int (cS σ28 w1)) X hw (tW hw1) rfl inA_X3 1 (by decide) mw_100 rfl dX3_divide_69 ?_
        refine lv_iconst (v := (2 : Int32)) hx hb dX3_divide_72 (by decide) ?_
        refine lv_isub hx hb dX3_divide_73 ?_
        refine lv_iload hx hb dX3_divide_74 (lv_at hl 1 rfl) ?_
        refine m_cVl (TT := cT g) (As := [.int ((cS σ28 w1) - (2 : Int32)), .int a26]) (rest := []) X hl.1 hw hS (kX3_window hg hw1 h) mw_365 fX3_window (tW hw1) rfl rfl ⟨rfl, rfl, Nat.le_of_ble_eq_true rfl, Nat.le_of_ble_eq_true rfl⟩ rfl rfl (Nat.le_of_ble_eq_true rfl) dX3_divide_76 (fun r29 σ30 H locs h hw hS => ?_)
        refine lv_lstore (lv' := [(7, .long r29), (5, .long r27), (4, .int a26), (3, .int a23), (0, .ref (g.1 (4 * w0))), (1, .ref (g.1 (4 * w1))), (2, .ref (g.1 (4 * w2)))]) hx hb dX3_divide_79 hl (by decide) rfl (fun ls hl => ?_)
        refine lv_iload_n hx hb dX3_divide_81 rfl (lv_at hl 3 rfl) ?_
        refine lv_istore (lv' := [(9, .int a23), (7, .long r29), (5, .long r27), (4, .int a26), (3, .int a23), (0, .ref (g.1 (4 * w0))), (1, .ref (g.1 (4 * w1))), (2, .ref (g.1 (4 * w2)))]) hx hb dX3_divide_82 hl (by decide) rfl (fun ls hl => ?_)
        obtain ⟨n9, h⟩ := h
        exact wX3_divide_84 hg hw0 hw1 hw2 X hr n9 a23 a26 r27 r29 a23 _ h H locs ls hw hS (lv_sub hl [5, 6, 7, 4, 3, 2, 1, 0] rfl)
      · replace h := h.2 hc
        exact m_vret X hr hw hS h dX3_divide_34
def wpX3_divide (w0 : Nat) (w1 : Nat) (w2 : Nat) (σ : CS) (Q : CS → Prop) : Prop := wpX3_divide_0 w0 w1 w2 Q σ
theorem kX3_divide {l : Launch} {D : va_G} {A : Nat → Prop} {g : mG} (hg : inj g) {w0 : Nat} {w1 : Nat} {w2 : Nat} (hw0 : okW w0) (hw1 : okW w1) (hw2 : okW w2) {σ : CS} {Q : CS → Prop} (h : wpX3_divide w0 w1 w2 σ Q) : Met l yX3_divide (Cond.code yX3_divide cX3_divide 15 none :: wsA) rmX3_divide (mPc D (tyG g) A (cT g σ) [.ref (g.1 (4 * w0)), .ref (g.1 (4 * w1)), .ref (g.1 (4 * w2))]) (va_Qv Q (fun u t => wd D A (cT g u) t.heap) A) 0 0 A :=
  m_met (by decide +kernel) (Nat.le_of_ble_eq_true rfl) (fun p e s m below meth c X hr H locs ls hw hS hl => wX3_divide_0 hg hw0 hw1 hw2 X hr σ h H locs ls hw hS (lv_sub hl [0, 1, 2] rfl))
theorem fX3_divide : vfit yX3_divide cX3_divide 15 none 2 := ⟨mw_357, mw_358, mw_29, mw_359, by decide +kernel, by decide +kernel, by decide +kernel⟩
end
section
theorem zz_last : 1 = 1 := rfl
end
