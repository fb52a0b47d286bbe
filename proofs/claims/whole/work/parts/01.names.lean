-- ===== PART A: goes FIRST, ahead of the names: the tables' words, and 'selects' of the private methods out of them =====
/-- a private method of a class that the tables say can be made, by its rows of tables_1 -/
def lw_okq (q : MethodName × Nat) : Prop := (q.1.cls ≠ "java/lang/invoke/MethodHandle" ∧ q.1.cls ≠ "java/lang/invoke/VarHandle") ∧ Cond.instantiable q.1.cls q.2 ∈ tables_1 ∧ Cond.privateMethod q.1 ∈ tables_1 ∧ Cond.instanceMethod q.1 ∈ tables_1
theorem lw_p0 : lw_okq (⟨"IcicleEaves", "bad", "()I"⟩, 13) := ⟨⟨by decide +kernel, by decide +kernel⟩, List.mem_of_getElem? (i := 20) (by decide +kernel), List.mem_of_getElem? (i := 277) (by decide +kernel), List.mem_of_getElem? (i := 278) (by decide +kernel)⟩
theorem lw_p1 : lw_okq (⟨"IcicleEaves", "full", "()I"⟩, 13) := ⟨⟨by decide +kernel, by decide +kernel⟩, List.mem_of_getElem? (i := 20) (by decide +kernel), List.mem_of_getElem? (i := 309) (by decide +kernel), List.mem_of_getElem? (i := 310) (by decide +kernel)⟩
theorem lw_p2 : lw_okq (⟨"IcicleEaves", "isRoof", "(I)Z"⟩, 13) := ⟨⟨by decide +kernel, by decide +kernel⟩, List.mem_of_getElem? (i := 20) (by decide +kernel), List.mem_of_getElem? (i := 321) (by decide +kernel), List.mem_of_getElem? (i := 322) (by decide +kernel)⟩
theorem lw_p3 : lw_okq (⟨"IcicleEaves$Text", "nextToken", "()V"⟩, 7) := ⟨⟨by decide +kernel, by decide +kernel⟩, List.mem_of_getElem? (i := 156) (by decide +kernel), List.mem_of_getElem? (i := 349) (by decide +kernel), List.mem_of_getElem? (i := 350) (by decide +kernel)⟩
theorem lw_p4 : lw_okq (⟨"IcicleEaves$Text", "isLetter", "(I)Z"⟩, 7) := ⟨⟨by decide +kernel, by decide +kernel⟩, List.mem_of_getElem? (i := 156) (by decide +kernel), List.mem_of_getElem? (i := 353) (by decide +kernel), List.mem_of_getElem? (i := 354) (by decide +kernel)⟩
theorem lw_p5 : lw_okq (⟨"IcicleEaves$Text", "isFigure", "(I)Z"⟩, 7) := ⟨⟨by decide +kernel, by decide +kernel⟩, List.mem_of_getElem? (i := 156) (by decide +kernel), List.mem_of_getElem? (i := 357) (by decide +kernel), List.mem_of_getElem? (i := 358) (by decide +kernel)⟩
theorem lw_p6 : lw_okq (⟨"IcicleEaves$Text", "nextNumber", "()V"⟩, 7) := ⟨⟨by decide +kernel, by decide +kernel⟩, List.mem_of_getElem? (i := 156) (by decide +kernel), List.mem_of_getElem? (i := 361) (by decide +kernel), List.mem_of_getElem? (i := 362) (by decide +kernel)⟩
theorem lw_p7 : lw_okq (⟨"IcicleEaves$Text", "readItem", "(LIcicleEaves$Eaves;Z)Z"⟩, 7) := ⟨⟨by decide +kernel, by decide +kernel⟩, List.mem_of_getElem? (i := 156) (by decide +kernel), List.mem_of_getElem? (i := 368) (by decide +kernel), List.mem_of_getElem? (i := 369) (by decide +kernel)⟩
theorem lw_p8 : lw_okq (⟨"IcicleEaves$Text", "isWord", "(Ljava/lang/String;)Z"⟩, 7) := ⟨⟨by decide +kernel, by decide +kernel⟩, List.mem_of_getElem? (i := 156) (by decide +kernel), List.mem_of_getElem? (i := 373) (by decide +kernel), List.mem_of_getElem? (i := 374) (by decide +kernel)⟩
theorem lw_p9 : lw_okq (⟨"IcicleEaves$Text", "readHouse", "(LIcicleEaves$Eaves;)Z"⟩, 7) := ⟨⟨by decide +kernel, by decide +kernel⟩, List.mem_of_getElem? (i := 156) (by decide +kernel), List.mem_of_getElem? (i := 425) (by decide +kernel), List.mem_of_getElem? (i := 426) (by decide +kernel)⟩
theorem lw_p10 : lw_okq (⟨"IcicleEaves$Text", "readNumber", "(III)Z"⟩, 7) := ⟨⟨by decide +kernel, by decide +kernel⟩, List.mem_of_getElem? (i := 156) (by decide +kernel), List.mem_of_getElem? (i := 429) (by decide +kernel), List.mem_of_getElem? (i := 430) (by decide +kernel)⟩
theorem lw_p11 : lw_okq (⟨"IcicleEaves$Text", "readStop", "()Z"⟩, 7) := ⟨⟨by decide +kernel, by decide +kernel⟩, List.mem_of_getElem? (i := 156) (by decide +kernel), List.mem_of_getElem? (i := 434) (by decide +kernel), List.mem_of_getElem? (i := 435) (by decide +kernel)⟩
theorem lw_p12 : lw_okq (⟨"IcicleEaves$Text", "readWarm", "(LIcicleEaves$Eaves;)Z"⟩, 7) := ⟨⟨by decide +kernel, by decide +kernel⟩, List.mem_of_getElem? (i := 156) (by decide +kernel), List.mem_of_getElem? (i := 440) (by decide +kernel), List.mem_of_getElem? (i := 441) (by decide +kernel)⟩
theorem lw_p13 : lw_okq (⟨"IcicleEaves$Text", "readRoof", "(LIcicleEaves$Eaves;)Z"⟩, 7) := ⟨⟨by decide +kernel, by decide +kernel⟩, List.mem_of_getElem? (i := 156) (by decide +kernel), List.mem_of_getElem? (i := 445) (by decide +kernel), List.mem_of_getElem? (i := 446) (by decide +kernel)⟩
theorem lw_p14 : lw_okq (⟨"IcicleEaves$Text", "readIcicle", "(LIcicleEaves$Eaves;)Z"⟩, 7) := ⟨⟨by decide +kernel, by decide +kernel⟩, List.mem_of_getElem? (i := 156) (by decide +kernel), List.mem_of_getElem? (i := 451) (by decide +kernel), List.mem_of_getElem? (i := 452) (by decide +kernel)⟩
theorem lw_p15 : lw_okq (⟨"IcicleEaves$Text", "readHours", "(LIcicleEaves$Eaves;)Z"⟩, 7) := ⟨⟨by decide +kernel, by decide +kernel⟩, List.mem_of_getElem? (i := 156) (by decide +kernel), List.mem_of_getElem? (i := 457) (by decide +kernel), List.mem_of_getElem? (i := 458) (by decide +kernel)⟩
def lw_privs_1 : List (MethodName × Nat) := [(⟨"IcicleEaves", "bad", "()I"⟩, 13), (⟨"IcicleEaves", "full", "()I"⟩, 13), (⟨"IcicleEaves", "isRoof", "(I)Z"⟩, 13), (⟨"IcicleEaves$Text", "nextToken", "()V"⟩, 7), (⟨"IcicleEaves$Text", "isLetter", "(I)Z"⟩, 7), (⟨"IcicleEaves$Text", "isFigure", "(I)Z"⟩, 7), (⟨"IcicleEaves$Text", "nextNumber", "()V"⟩, 7), (⟨"IcicleEaves$Text", "readItem", "(LIcicleEaves$Eaves;Z)Z"⟩, 7), (⟨"IcicleEaves$Text", "isWord", "(Ljava/lang/String;)Z"⟩, 7), (⟨"IcicleEaves$Text", "readHouse", "(LIcicleEaves$Eaves;)Z"⟩, 7), (⟨"IcicleEaves$Text", "readNumber", "(III)Z"⟩, 7), (⟨"IcicleEaves$Text", "readStop", "()Z"⟩, 7), (⟨"IcicleEaves$Text", "readWarm", "(LIcicleEaves$Eaves;)Z"⟩, 7), (⟨"IcicleEaves$Text", "readRoof", "(LIcicleEaves$Eaves;)Z"⟩, 7), (⟨"IcicleEaves$Text", "readIcicle", "(LIcicleEaves$Eaves;)Z"⟩, 7), (⟨"IcicleEaves$Text", "readHours", "(LIcicleEaves$Eaves;)Z"⟩, 7)]
theorem lw_r1 : ∀ q ∈ lw_privs_1, lw_okq q := List.forall_mem_cons.mpr ⟨lw_p0, List.forall_mem_cons.mpr ⟨lw_p1, List.forall_mem_cons.mpr ⟨lw_p2, List.forall_mem_cons.mpr ⟨lw_p3, List.forall_mem_cons.mpr ⟨lw_p4, List.forall_mem_cons.mpr ⟨lw_p5, List.forall_mem_cons.mpr ⟨lw_p6, List.forall_mem_cons.mpr ⟨lw_p7, List.forall_mem_cons.mpr ⟨lw_p8, List.forall_mem_cons.mpr ⟨lw_p9, List.forall_mem_cons.mpr ⟨lw_p10, List.forall_mem_cons.mpr ⟨lw_p11, List.forall_mem_cons.mpr ⟨lw_p12, List.forall_mem_cons.mpr ⟨lw_p13, List.forall_mem_cons.mpr ⟨lw_p14, List.forall_mem_cons.mpr ⟨lw_p15, fun _ h => absurd h List.not_mem_nil⟩⟩⟩⟩⟩⟩⟩⟩⟩⟩⟩⟩⟩⟩⟩⟩
theorem lw_p16 : lw_okq (⟨"IcicleEaves$Eaves", "grow", "(II)V"⟩, 14) := ⟨⟨by decide +kernel, by decide +kernel⟩, List.mem_of_getElem? (i := 34) (by decide +kernel), List.mem_of_getElem? (i := 481) (by decide +kernel), List.mem_of_getElem? (i := 482) (by decide +kernel)⟩
theorem lw_p17 : lw_okq (⟨"IcicleEaves", "no", "()I"⟩, 13) := ⟨⟨by decide +kernel, by decide +kernel⟩, List.mem_of_getElem? (i := 20) (by decide +kernel), List.mem_of_getElem? (i := 536) (by decide +kernel), List.mem_of_getElem? (i := 537) (by decide +kernel)⟩
theorem lw_p18 : lw_okq (⟨"IcicleEaves", "isIcicle", "(I)Z"⟩, 13) := ⟨⟨by decide +kernel, by decide +kernel⟩, List.mem_of_getElem? (i := 20) (by decide +kernel), List.mem_of_getElem? (i := 552) (by decide +kernel), List.mem_of_getElem? (i := 553) (by decide +kernel)⟩
theorem lw_p19 : lw_okq (⟨"IcicleEaves", "findFalls", "(I)V"⟩, 13) := ⟨⟨by decide +kernel, by decide +kernel⟩, List.mem_of_getElem? (i := 20) (by decide +kernel), List.mem_of_getElem? (i := 615) (by decide +kernel), List.mem_of_getElem? (i := 616) (by decide +kernel)⟩
theorem lw_p20 : lw_okq (⟨"IcicleEaves", "runFalls", "(I)V"⟩, 13) := ⟨⟨by decide +kernel, by decide +kernel⟩, List.mem_of_getElem? (i := 20) (by decide +kernel), List.mem_of_getElem? (i := 619) (by decide +kernel), List.mem_of_getElem? (i := 620) (by decide +kernel)⟩
theorem lw_p21 : lw_okq (⟨"IcicleEaves", "earlierOnes", "(I)I"⟩, 13) := ⟨⟨by decide +kernel, by decide +kernel⟩, List.mem_of_getElem? (i := 20) (by decide +kernel), List.mem_of_getElem? (i := 632) (by decide +kernel), List.mem_of_getElem? (i := 633) (by decide +kernel)⟩
theorem lw_p22 : lw_okq (⟨"IcicleEaves", "comesBefore", "(II)Z"⟩, 13) := ⟨⟨by decide +kernel, by decide +kernel⟩, List.mem_of_getElem? (i := 20) (by decide +kernel), List.mem_of_getElem? (i := 636) (by decide +kernel), List.mem_of_getElem? (i := 637) (by decide +kernel)⟩
theorem lw_p23 : lw_okq (⟨"IcicleEaves", "hitsOnPath", "(I)Z"⟩, 13) := ⟨⟨by decide +kernel, by decide +kernel⟩, List.mem_of_getElem? (i := 20) (by decide +kernel), List.mem_of_getElem? (i := 644) (by decide +kernel), List.mem_of_getElem? (i := 645) (by decide +kernel)⟩
theorem lw_p24 : lw_okq (⟨"IcicleEaves", "anyFallsOn", "(I)Z"⟩, 13) := ⟨⟨by decide +kernel, by decide +kernel⟩, List.mem_of_getElem? (i := 20) (by decide +kernel), List.mem_of_getElem? (i := 652) (by decide +kernel), List.mem_of_getElem? (i := 653) (by decide +kernel)⟩
theorem lw_p25 : lw_okq (⟨"IcicleEaves", "findLengths", "(I)V"⟩, 13) := ⟨⟨by decide +kernel, by decide +kernel⟩, List.mem_of_getElem? (i := 20) (by decide +kernel), List.mem_of_getElem? (i := 664) (by decide +kernel), List.mem_of_getElem? (i := 665) (by decide +kernel)⟩
theorem lw_p26 : lw_okq (⟨"IcicleEaves", "knockedSum", "(II)I"⟩, 13) := ⟨⟨by decide +kernel, by decide +kernel⟩, List.mem_of_getElem? (i := 20) (by decide +kernel), List.mem_of_getElem? (i := 668) (by decide +kernel), List.mem_of_getElem? (i := 669) (by decide +kernel)⟩
theorem lw_p27 : lw_okq (⟨"IcicleEaves", "lengthBehind", "(II)I"⟩, 13) := ⟨⟨by decide +kernel, by decide +kernel⟩, List.mem_of_getElem? (i := 20) (by decide +kernel), List.mem_of_getElem? (i := 672) (by decide +kernel), List.mem_of_getElem? (i := 673) (by decide +kernel)⟩
theorem lw_p28 : lw_okq (⟨"IcicleEaves", "rests", "(II)Z"⟩, 13) := ⟨⟨by decide +kernel, by decide +kernel⟩, List.mem_of_getElem? (i := 20) (by decide +kernel), List.mem_of_getElem? (i := 797) (by decide +kernel), List.mem_of_getElem? (i := 798) (by decide +kernel)⟩
theorem lw_p29 : lw_okq (⟨"IcicleEaves", "otherGets", "(II)I"⟩, 13) := ⟨⟨by decide +kernel, by decide +kernel⟩, List.mem_of_getElem? (i := 20) (by decide +kernel), List.mem_of_getElem? (i := 801) (by decide +kernel), List.mem_of_getElem? (i := 802) (by decide +kernel)⟩
theorem lw_p30 : lw_okq (⟨"IcicleEaves", "fallsInHours", "(III)Z"⟩, 13) := ⟨⟨by decide +kernel, by decide +kernel⟩, List.mem_of_getElem? (i := 20) (by decide +kernel), List.mem_of_getElem? (i := 810) (by decide +kernel), List.mem_of_getElem? (i := 811) (by decide +kernel)⟩
theorem lw_p31 : lw_okq (⟨"IcicleEaves", "keepFraction", "(JJ)V"⟩, 13) := ⟨⟨by decide +kernel, by decide +kernel⟩, List.mem_of_getElem? (i := 20) (by decide +kernel), List.mem_of_getElem? (i := 817) (by decide +kernel), List.mem_of_getElem? (i := 818) (by decide +kernel)⟩
def lw_privs_2 : List (MethodName × Nat) := [(⟨"IcicleEaves$Eaves", "grow", "(II)V"⟩, 14), (⟨"IcicleEaves", "no", "()I"⟩, 13), (⟨"IcicleEaves", "isIcicle", "(I)Z"⟩, 13), (⟨"IcicleEaves", "findFalls", "(I)V"⟩, 13), (⟨"IcicleEaves", "runFalls", "(I)V"⟩, 13), (⟨"IcicleEaves", "earlierOnes", "(I)I"⟩, 13), (⟨"IcicleEaves", "comesBefore", "(II)Z"⟩, 13), (⟨"IcicleEaves", "hitsOnPath", "(I)Z"⟩, 13), (⟨"IcicleEaves", "anyFallsOn", "(I)Z"⟩, 13), (⟨"IcicleEaves", "findLengths", "(I)V"⟩, 13), (⟨"IcicleEaves", "knockedSum", "(II)I"⟩, 13), (⟨"IcicleEaves", "lengthBehind", "(II)I"⟩, 13), (⟨"IcicleEaves", "rests", "(II)Z"⟩, 13), (⟨"IcicleEaves", "otherGets", "(II)I"⟩, 13), (⟨"IcicleEaves", "fallsInHours", "(III)Z"⟩, 13), (⟨"IcicleEaves", "keepFraction", "(JJ)V"⟩, 13)]
theorem lw_r2 : ∀ q ∈ lw_privs_2, lw_okq q := List.forall_mem_cons.mpr ⟨lw_p16, List.forall_mem_cons.mpr ⟨lw_p17, List.forall_mem_cons.mpr ⟨lw_p18, List.forall_mem_cons.mpr ⟨lw_p19, List.forall_mem_cons.mpr ⟨lw_p20, List.forall_mem_cons.mpr ⟨lw_p21, List.forall_mem_cons.mpr ⟨lw_p22, List.forall_mem_cons.mpr ⟨lw_p23, List.forall_mem_cons.mpr ⟨lw_p24, List.forall_mem_cons.mpr ⟨lw_p25, List.forall_mem_cons.mpr ⟨lw_p26, List.forall_mem_cons.mpr ⟨lw_p27, List.forall_mem_cons.mpr ⟨lw_p28, List.forall_mem_cons.mpr ⟨lw_p29, List.forall_mem_cons.mpr ⟨lw_p30, List.forall_mem_cons.mpr ⟨lw_p31, fun _ h => absurd h List.not_mem_nil⟩⟩⟩⟩⟩⟩⟩⟩⟩⟩⟩⟩⟩⟩⟩⟩
theorem lw_p32 : lw_okq (⟨"IcicleEavesModel", "bad", "(I)I"⟩, 21) := ⟨⟨by decide +kernel, by decide +kernel⟩, List.mem_of_getElem? (i := 888) (by decide +kernel), List.mem_of_getElem? (i := 970) (by decide +kernel), List.mem_of_getElem? (i := 971) (by decide +kernel)⟩
theorem lw_p33 : lw_okq (⟨"IcicleEavesModel", "begins", "(I)V"⟩, 21) := ⟨⟨by decide +kernel, by decide +kernel⟩, List.mem_of_getElem? (i := 888) (by decide +kernel), List.mem_of_getElem? (i := 974) (by decide +kernel), List.mem_of_getElem? (i := 975) (by decide +kernel)⟩
theorem lw_p34 : lw_okq (⟨"IcicleEavesModel", "full", "()I"⟩, 21) := ⟨⟨by decide +kernel, by decide +kernel⟩, List.mem_of_getElem? (i := 888) (by decide +kernel), List.mem_of_getElem? (i := 989) (by decide +kernel), List.mem_of_getElem? (i := 990) (by decide +kernel)⟩
theorem lw_p35 : lw_okq (⟨"IcicleEavesModel", "addRoof", "(III)V"⟩, 21) := ⟨⟨by decide +kernel, by decide +kernel⟩, List.mem_of_getElem? (i := 888) (by decide +kernel), List.mem_of_getElem? (i := 993) (by decide +kernel), List.mem_of_getElem? (i := 994) (by decide +kernel)⟩
theorem lw_p36 : lw_okq (⟨"IcicleEavesModel", "isRoof", "(I)Z"⟩, 21) := ⟨⟨by decide +kernel, by decide +kernel⟩, List.mem_of_getElem? (i := 888) (by decide +kernel), List.mem_of_getElem? (i := 1001) (by decide +kernel), List.mem_of_getElem? (i := 1002) (by decide +kernel)⟩
theorem lw_p37 : lw_okq (⟨"IcicleEavesModel", "addIce", "(IIIII)V"⟩, 21) := ⟨⟨by decide +kernel, by decide +kernel⟩, List.mem_of_getElem? (i := 888) (by decide +kernel), List.mem_of_getElem? (i := 1007) (by decide +kernel), List.mem_of_getElem? (i := 1008) (by decide +kernel)⟩
theorem lw_p38 : lw_okq (⟨"IcicleEavesModel", "reads", "()Z"⟩, 21) := ⟨⟨by decide +kernel, by decide +kernel⟩, List.mem_of_getElem? (i := 888) (by decide +kernel), List.mem_of_getElem? (i := 1027) (by decide +kernel), List.mem_of_getElem? (i := 1028) (by decide +kernel)⟩
theorem lw_p39 : lw_okq (⟨"IcicleEavesModel", "step", "()V"⟩, 21) := ⟨⟨by decide +kernel, by decide +kernel⟩, List.mem_of_getElem? (i := 888) (by decide +kernel), List.mem_of_getElem? (i := 1031) (by decide +kernel), List.mem_of_getElem? (i := 1032) (by decide +kernel)⟩
theorem lw_p40 : lw_okq (⟨"IcicleEavesModel", "letter", "(I)I"⟩, 21) := ⟨⟨by decide +kernel, by decide +kernel⟩, List.mem_of_getElem? (i := 888) (by decide +kernel), List.mem_of_getElem? (i := 1035) (by decide +kernel), List.mem_of_getElem? (i := 1036) (by decide +kernel)⟩
theorem lw_p41 : lw_okq (⟨"IcicleEavesModel", "isWord", "(IIIII)Z"⟩, 21) := ⟨⟨by decide +kernel, by decide +kernel⟩, List.mem_of_getElem? (i := 888) (by decide +kernel), List.mem_of_getElem? (i := 1043) (by decide +kernel), List.mem_of_getElem? (i := 1044) (by decide +kernel)⟩
theorem lw_p42 : lw_okq (⟨"IcicleEavesModel", "number", "(III)Z"⟩, 21) := ⟨⟨by decide +kernel, by decide +kernel⟩, List.mem_of_getElem? (i := 888) (by decide +kernel), List.mem_of_getElem? (i := 1047) (by decide +kernel), List.mem_of_getElem? (i := 1048) (by decide +kernel)⟩
theorem lw_p43 : lw_okq (⟨"IcicleEavesModel", "ends", "()Z"⟩, 21) := ⟨⟨by decide +kernel, by decide +kernel⟩, List.mem_of_getElem? (i := 888) (by decide +kernel), List.mem_of_getElem? (i := 1051) (by decide +kernel), List.mem_of_getElem? (i := 1052) (by decide +kernel)⟩
theorem lw_p44 : lw_okq (⟨"IcicleEavesModel", "readsItem", "()Z"⟩, 21) := ⟨⟨by decide +kernel, by decide +kernel⟩, List.mem_of_getElem? (i := 888) (by decide +kernel), List.mem_of_getElem? (i := 1055) (by decide +kernel), List.mem_of_getElem? (i := 1056) (by decide +kernel)⟩
theorem lw_p45 : lw_okq (⟨"IcicleEavesModel", "goes", "(I)I"⟩, 21) := ⟨⟨by decide +kernel, by decide +kernel⟩, List.mem_of_getElem? (i := 888) (by decide +kernel), List.mem_of_getElem? (i := 1059) (by decide +kernel), List.mem_of_getElem? (i := 1060) (by decide +kernel)⟩
theorem lw_p46 : lw_okq (⟨"IcicleEavesModel", "passes", "([I)I"⟩, 21) := ⟨⟨by decide +kernel, by decide +kernel⟩, List.mem_of_getElem? (i := 888) (by decide +kernel), List.mem_of_getElem? (i := 1063) (by decide +kernel), List.mem_of_getElem? (i := 1064) (by decide +kernel)⟩
theorem lw_p47 : lw_okq (⟨"IcicleEavesModel", "passesBy", "([II)I"⟩, 21) := ⟨⟨by decide +kernel, by decide +kernel⟩, List.mem_of_getElem? (i := 888) (by decide +kernel), List.mem_of_getElem? (i := 1070) (by decide +kernel), List.mem_of_getElem? (i := 1071) (by decide +kernel)⟩
def lw_privs_3 : List (MethodName × Nat) := [(⟨"IcicleEavesModel", "bad", "(I)I"⟩, 21), (⟨"IcicleEavesModel", "begins", "(I)V"⟩, 21), (⟨"IcicleEavesModel", "full", "()I"⟩, 21), (⟨"IcicleEavesModel", "addRoof", "(III)V"⟩, 21), (⟨"IcicleEavesModel", "isRoof", "(I)Z"⟩, 21), (⟨"IcicleEavesModel", "addIce", "(IIIII)V"⟩, 21), (⟨"IcicleEavesModel", "reads", "()Z"⟩, 21), (⟨"IcicleEavesModel", "step", "()V"⟩, 21), (⟨"IcicleEavesModel", "letter", "(I)I"⟩, 21), (⟨"IcicleEavesModel", "isWord", "(IIIII)Z"⟩, 21), (⟨"IcicleEavesModel", "number", "(III)Z"⟩, 21), (⟨"IcicleEavesModel", "ends", "()Z"⟩, 21), (⟨"IcicleEavesModel", "readsItem", "()Z"⟩, 21), (⟨"IcicleEavesModel", "goes", "(I)I"⟩, 21), (⟨"IcicleEavesModel", "passes", "([I)I"⟩, 21), (⟨"IcicleEavesModel", "passesBy", "([II)I"⟩, 21)]
theorem lw_r3 : ∀ q ∈ lw_privs_3, lw_okq q := List.forall_mem_cons.mpr ⟨lw_p32, List.forall_mem_cons.mpr ⟨lw_p33, List.forall_mem_cons.mpr ⟨lw_p34, List.forall_mem_cons.mpr ⟨lw_p35, List.forall_mem_cons.mpr ⟨lw_p36, List.forall_mem_cons.mpr ⟨lw_p37, List.forall_mem_cons.mpr ⟨lw_p38, List.forall_mem_cons.mpr ⟨lw_p39, List.forall_mem_cons.mpr ⟨lw_p40, List.forall_mem_cons.mpr ⟨lw_p41, List.forall_mem_cons.mpr ⟨lw_p42, List.forall_mem_cons.mpr ⟨lw_p43, List.forall_mem_cons.mpr ⟨lw_p44, List.forall_mem_cons.mpr ⟨lw_p45, List.forall_mem_cons.mpr ⟨lw_p46, List.forall_mem_cons.mpr ⟨lw_p47, fun _ h => absurd h List.not_mem_nil⟩⟩⟩⟩⟩⟩⟩⟩⟩⟩⟩⟩⟩⟩⟩⟩
theorem lw_p48 : lw_okq (⟨"IcicleEavesModel", "notes", "()V"⟩, 21) := ⟨⟨by decide +kernel, by decide +kernel⟩, List.mem_of_getElem? (i := 888) (by decide +kernel), List.mem_of_getElem? (i := 1091) (by decide +kernel), List.mem_of_getElem? (i := 1092) (by decide +kernel)⟩
theorem lw_p49 : lw_okq (⟨"IcicleEavesModel", "standing", "([I)I"⟩, 21) := ⟨⟨by decide +kernel, by decide +kernel⟩, List.mem_of_getElem? (i := 888) (by decide +kernel), List.mem_of_getElem? (i := 1095) (by decide +kernel), List.mem_of_getElem? (i := 1096) (by decide +kernel)⟩
theorem lw_p50 : lw_okq (⟨"IcicleEavesModel", "no", "()I"⟩, 21) := ⟨⟨by decide +kernel, by decide +kernel⟩, List.mem_of_getElem? (i := 888) (by decide +kernel), List.mem_of_getElem? (i := 1103) (by decide +kernel), List.mem_of_getElem? (i := 1104) (by decide +kernel)⟩
theorem lw_p51 : lw_okq (⟨"IcicleEavesModel", "isIce", "(I)Z"⟩, 21) := ⟨⟨by decide +kernel, by decide +kernel⟩, List.mem_of_getElem? (i := 888) (by decide +kernel), List.mem_of_getElem? (i := 1115) (by decide +kernel), List.mem_of_getElem? (i := 1116) (by decide +kernel)⟩
theorem lw_p52 : lw_okq (⟨"IcicleEavesModel", "laysAside", "()V"⟩, 21) := ⟨⟨by decide +kernel, by decide +kernel⟩, List.mem_of_getElem? (i := 888) (by decide +kernel), List.mem_of_getElem? (i := 1144) (by decide +kernel), List.mem_of_getElem? (i := 1145) (by decide +kernel)⟩
theorem lw_p53 : lw_okq (⟨"IcicleEavesModel", "findsFalls", "()V"⟩, 21) := ⟨⟨by decide +kernel, by decide +kernel⟩, List.mem_of_getElem? (i := 888) (by decide +kernel), List.mem_of_getElem? (i := 1152) (by decide +kernel), List.mem_of_getElem? (i := 1153) (by decide +kernel)⟩
theorem lw_p54 : lw_okq (⟨"IcicleEavesModel", "brings", "(II)I"⟩, 21) := ⟨⟨by decide +kernel, by decide +kernel⟩, List.mem_of_getElem? (i := 888) (by decide +kernel), List.mem_of_getElem? (i := 1184) (by decide +kernel), List.mem_of_getElem? (i := 1185) (by decide +kernel)⟩
theorem lw_p55 : lw_okq (⟨"IcicleEavesModel", "heatsOf", "(I)I"⟩, 21) := ⟨⟨by decide +kernel, by decide +kernel⟩, List.mem_of_getElem? (i := 888) (by decide +kernel), List.mem_of_getElem? (i := 1196) (by decide +kernel), List.mem_of_getElem? (i := 1197) (by decide +kernel)⟩
theorem lw_p56 : lw_okq (⟨"IcicleEavesModel", "mostAlike", "(II)I"⟩, 21) := ⟨⟨by decide +kernel, by decide +kernel⟩, List.mem_of_getElem? (i := 888) (by decide +kernel), List.mem_of_getElem? (i := 1204) (by decide +kernel), List.mem_of_getElem? (i := 1205) (by decide +kernel)⟩
theorem lw_p57 : lw_okq (⟨"IcicleEavesModel", "icesOf", "(I)I"⟩, 21) := ⟨⟨by decide +kernel, by decide +kernel⟩, List.mem_of_getElem? (i := 888) (by decide +kernel), List.mem_of_getElem? (i := 1228) (by decide +kernel), List.mem_of_getElem? (i := 1229) (by decide +kernel)⟩
theorem lw_p58 : lw_okq (⟨"IcicleEavesModel", "roofsOf", "(I)I"⟩, 21) := ⟨⟨by decide +kernel, by decide +kernel⟩, List.mem_of_getElem? (i := 888) (by decide +kernel), List.mem_of_getElem? (i := 1240) (by decide +kernel), List.mem_of_getElem? (i := 1241) (by decide +kernel)⟩
theorem lw_p59 : lw_okq (⟨"IcicleEavesModel", "rests", "(II)Z"⟩, 21) := ⟨⟨by decide +kernel, by decide +kernel⟩, List.mem_of_getElem? (i := 888) (by decide +kernel), List.mem_of_getElem? (i := 1252) (by decide +kernel), List.mem_of_getElem? (i := 1253) (by decide +kernel)⟩
theorem lw_p60 : lw_okq (⟨"IcicleEavesModel", "gets", "(II)I"⟩, 21) := ⟨⟨by decide +kernel, by decide +kernel⟩, List.mem_of_getElem? (i := 888) (by decide +kernel), List.mem_of_getElem? (i := 1256) (by decide +kernel), List.mem_of_getElem? (i := 1257) (by decide +kernel)⟩
theorem lw_p61 : lw_okq (⟨"IcicleEavesModel", "tellsPart", "(JJ)V"⟩, 21) := ⟨⟨by decide +kernel, by decide +kernel⟩, List.mem_of_getElem? (i := 888) (by decide +kernel), List.mem_of_getElem? (i := 1266) (by decide +kernel), List.mem_of_getElem? (i := 1267) (by decide +kernel)⟩
theorem lw_p62 : lw_okq (⟨"IcicleEavesModel", "tells", "(I)I"⟩, 21) := ⟨⟨by decide +kernel, by decide +kernel⟩, List.mem_of_getElem? (i := 888) (by decide +kernel), List.mem_of_getElem? (i := 1301) (by decide +kernel), List.mem_of_getElem? (i := 1302) (by decide +kernel)⟩
theorem lw_p63 : lw_okq (⟨"IcicleEavesModel", "lostBy", "(I)I"⟩, 21) := ⟨⟨by decide +kernel, by decide +kernel⟩, List.mem_of_getElem? (i := 888) (by decide +kernel), List.mem_of_getElem? (i := 1305) (by decide +kernel), List.mem_of_getElem? (i := 1306) (by decide +kernel)⟩
def lw_privs_4 : List (MethodName × Nat) := [(⟨"IcicleEavesModel", "notes", "()V"⟩, 21), (⟨"IcicleEavesModel", "standing", "([I)I"⟩, 21), (⟨"IcicleEavesModel", "no", "()I"⟩, 21), (⟨"IcicleEavesModel", "isIce", "(I)Z"⟩, 21), (⟨"IcicleEavesModel", "laysAside", "()V"⟩, 21), (⟨"IcicleEavesModel", "findsFalls", "()V"⟩, 21), (⟨"IcicleEavesModel", "brings", "(II)I"⟩, 21), (⟨"IcicleEavesModel", "heatsOf", "(I)I"⟩, 21), (⟨"IcicleEavesModel", "mostAlike", "(II)I"⟩, 21), (⟨"IcicleEavesModel", "icesOf", "(I)I"⟩, 21), (⟨"IcicleEavesModel", "roofsOf", "(I)I"⟩, 21), (⟨"IcicleEavesModel", "rests", "(II)Z"⟩, 21), (⟨"IcicleEavesModel", "gets", "(II)I"⟩, 21), (⟨"IcicleEavesModel", "tellsPart", "(JJ)V"⟩, 21), (⟨"IcicleEavesModel", "tells", "(I)I"⟩, 21), (⟨"IcicleEavesModel", "lostBy", "(I)I"⟩, 21)]
theorem lw_r4 : ∀ q ∈ lw_privs_4, lw_okq q := List.forall_mem_cons.mpr ⟨lw_p48, List.forall_mem_cons.mpr ⟨lw_p49, List.forall_mem_cons.mpr ⟨lw_p50, List.forall_mem_cons.mpr ⟨lw_p51, List.forall_mem_cons.mpr ⟨lw_p52, List.forall_mem_cons.mpr ⟨lw_p53, List.forall_mem_cons.mpr ⟨lw_p54, List.forall_mem_cons.mpr ⟨lw_p55, List.forall_mem_cons.mpr ⟨lw_p56, List.forall_mem_cons.mpr ⟨lw_p57, List.forall_mem_cons.mpr ⟨lw_p58, List.forall_mem_cons.mpr ⟨lw_p59, List.forall_mem_cons.mpr ⟨lw_p60, List.forall_mem_cons.mpr ⟨lw_p61, List.forall_mem_cons.mpr ⟨lw_p62, List.forall_mem_cons.mpr ⟨lw_p63, fun _ h => absurd h List.not_mem_nil⟩⟩⟩⟩⟩⟩⟩⟩⟩⟩⟩⟩⟩⟩⟩⟩
def lw_privs : List (MethodName × Nat) := lw_privs_1 ++ (lw_privs_2 ++ (lw_privs_3 ++ (lw_privs_4)))
def lw_tbl : List Cond := k2_sels lw_privs ++ tables_1
theorem lw_privs_ok : ∀ q ∈ lw_privs, lw_okq q := by
  show ∀ q ∈ lw_privs_1 ++ (lw_privs_2 ++ (lw_privs_3 ++ (lw_privs_4))), lw_okq q
  exact List.forall_mem_append.mpr ⟨lw_r1, List.forall_mem_append.mpr ⟨lw_r2, List.forall_mem_append.mpr ⟨lw_r3, lw_r4⟩⟩⟩
/-! ===== BEGIN printed: names, fields, word lists, decode rows ===== -/
def RX0 : String := "IcicleEaves$Eaves"
def TX0 : u_T := fun k => match k with
  | 0 => ("IcicleEaves$Eaves", "hour", "I", false)
  | 1 => ("IcicleEaves$Eaves", "warmths", "[I", true)
  | 2 => ("IcicleEaves$Eaves", "roofs", "I", false)
  | 3 => ("IcicleEaves$Eaves", "roofKind", "[I", true)
  | 4 => ("IcicleEaves$Eaves", "heat", "[I", true)
  | 5 => ("IcicleEaves$Eaves", "snow", "[I", true)
  | 6 => ("IcicleEaves$Eaves", "water", "[I", true)
  | 7 => ("IcicleEaves$Eaves", "icicles", "I", false)
  | 8 => ("IcicleEaves$Eaves", "roofOf", "[I", true)
  | 9 => ("IcicleEaves$Eaves", "iceKind", "[I", true)
  | 10 => ("IcicleEaves$Eaves", "place", "[I", true)
  | 11 => ("IcicleEaves$Eaves", "length", "[I", true)
  | 12 => ("IcicleEaves$Eaves", "root", "[I", true)
  | _ => ("IcicleEaves$Eaves", "lost", "[I", true)
def tyX0 : Nat → FieldType := fun k => match k with
  | 0 => .int
  | 1 => .array .int
  | 2 => .int
  | 3 => .array .int
  | 4 => .array .int
  | 5 => .array .int
  | 6 => .array .int
  | 7 => .int
  | 8 => .array .int
  | 9 => .array .int
  | 10 => .array .int
  | 11 => .array .int
  | 12 => .array .int
  | _ => .array .int
abbrev wsX00 : List Cond := u_ws RX0 TX0 14
theorem nmX0 : ∀ a, a < 14 → ∀ b, b < 14 → a ≠ b → (TX0 a).2.1 ≠ (TX0 b).2.1 := by decide +kernel
theorem tyX0_ok : ∀ k, k < 14 → parseFieldDescriptor (TX0 k).2.2.1 = some (tyX0 k) := by decide +kernel
abbrev cX0_init : ByteArray := prog_2_method_1_code
def yX0_init : MethodName := ⟨RX0, "<init>", "()V"⟩
abbrev cX0_waterOf : ByteArray := prog_2_method_2_code
def yX0_waterOf : MethodName := ⟨RX0, "waterOf", "(IIII)I"⟩
abbrev cX0_moreOf : ByteArray := prog_2_method_3_code
def yX0_moreOf : MethodName := ⟨RX0, "moreOf", "(IIII)I"⟩
abbrev cX0_begin : ByteArray := prog_2_method_4_code
def yX0_begin : MethodName := ⟨RX0, "begin", "(I)V"⟩
abbrev cX0_take : ByteArray := prog_2_method_5_code
def yX0_take : MethodName := ⟨RX0, "take", "(LIcicleEaves$Eaves;)V"⟩
abbrev cX0_addRoof : ByteArray := prog_2_method_6_code
def yX0_addRoof : MethodName := ⟨RX0, "addRoof", "(III)I"⟩
abbrev cX0_addIcicle : ByteArray := prog_2_method_7_code
def yX0_addIcicle : MethodName := ⟨RX0, "addIcicle", "(IIIII)I"⟩
abbrev cX0_addSnow : ByteArray := prog_2_method_8_code
def yX0_addSnow : MethodName := ⟨RX0, "addSnow", "(II)V"⟩
abbrev cX0_passHours : ByteArray := prog_2_method_9_code
def yX0_passHours : MethodName := ⟨RX0, "passHours", "(I)V"⟩
abbrev cX0_passHour : ByteArray := prog_2_method_10_code
def yX0_passHour : MethodName := ⟨RX0, "passHour", "(I)V"⟩
abbrev cX0_grow : ByteArray := prog_2_method_11_code
def yX0_grow : MethodName := ⟨RX0, "grow", "(II)V"⟩
abbrev cX0_warmthAt : ByteArray := prog_2_method_12_code
def yX0_warmthAt : MethodName := ⟨RX0, "warmthAt", "(I)I"⟩
abbrev cX0_waterNext : ByteArray := prog_2_method_13_code
def yX0_waterNext : MethodName := ⟨RX0, "waterNext", "(I)I"⟩
abbrev cX0_moreNext : ByteArray := prog_2_method_14_code
def yX0_moreNext : MethodName := ⟨RX0, "moreNext", "(I)I"⟩
abbrev cX0_ofRoof : ByteArray := prog_2_method_15_code
def yX0_ofRoof : MethodName := ⟨RX0, "ofRoof", "(II)I"⟩
abbrev cX0_ofIcicle : ByteArray := prog_2_method_16_code
def yX0_ofIcicle : MethodName := ⟨RX0, "ofIcicle", "(II)I"⟩
abbrev cX0_hanging : ByteArray := prog_2_method_17_code
def yX0_hanging : MethodName := ⟨RX0, "hanging", "()I"⟩
abbrev cX0_lostBits : ByteArray := prog_2_method_18_code
def yX0_lostBits : MethodName := ⟨RX0, "lostBits", "(I)I"⟩
abbrev cX0_allSnow : ByteArray := prog_2_method_19_code
def yX0_allSnow : MethodName := ⟨RX0, "allSnow", "()I"⟩
abbrev cX0_digestOn : ByteArray := prog_2_method_20_code
def yX0_digestOn : MethodName := ⟨RX0, "digestOn", "(J)J"⟩
def RX1 : String := "IcicleEaves$Guess"
def TX1 : u_T := fun k => match k with
  | _ => ("", "", "", false)
def tyX1 : Nat → FieldType := fun k => match k with
  | _ => .int
abbrev wsX10 : List Cond := u_ws RX1 TX1 0
theorem nmX1 : ∀ a, a < 0 → ∀ b, b < 0 → a ≠ b → (TX1 a).2.1 ≠ (TX1 b).2.1 := by decide +kernel
theorem tyX1_ok : ∀ k, k < 0 → parseFieldDescriptor (TX1 k).2.2.1 = some (tyX1 k) := by decide +kernel
abbrev cX1_init : ByteArray := prog_3_method_1_code
def yX1_init : MethodName := ⟨RX1, "<init>", "(III)V"⟩
abbrev cX1_fitting : ByteArray := prog_3_method_5_code
def yX1_fitting : MethodName := ⟨RX1, "fitting", "(LIcicleEaves$House;I)I"⟩
abbrev cX1_fits : ByteArray := prog_3_method_6_code
def yX1_fits : MethodName := ⟨RX1, "fits", "(LIcicleEaves$House;II)Z"⟩
abbrev cX1_bestLook : ByteArray := prog_3_method_7_code
def yX1_bestLook : MethodName := ⟨RX1, "bestLook", "(LIcicleEaves$House;I)I"⟩
abbrev cX1_largestGroup : ByteArray := prog_3_method_8_code
def yX1_largestGroup : MethodName := ⟨RX1, "largestGroup", "(LIcicleEaves$House;IIIII)I"⟩
def RX2 : String := "IcicleEaves$HeatGuess"
def TX2 : u_T := fun k => match k with
  | 0 => ("IcicleEaves$Guess", "answers", "[I", true)
  | 1 => ("IcicleEaves$Guess", "amountMost", "I", true)
  | _ => ("IcicleEaves$Guess", "warmthStep", "I", true)
def tyX2 : Nat → FieldType := fun k => match k with
  | 0 => .array .int
  | 1 => .int
  | _ => .int
abbrev wsX20 : List Cond := u_ws RX2 TX2 3
theorem nmX2 : ∀ a, a < 3 → ∀ b, b < 3 → a ≠ b → (TX2 a).2.1 ≠ (TX2 b).2.1 := by decide +kernel
theorem tyX2_ok : ∀ k, k < 3 → parseFieldDescriptor (TX2 k).2.2.1 = some (tyX2 k) := by decide +kernel
abbrev cX2_init : ByteArray := prog_4_method_1_code
def yX2_init : MethodName := ⟨RX2, "<init>", "()V"⟩
abbrev cX2_rowsOf : ByteArray := prog_4_method_2_code
def yX2_rowsOf : MethodName := ⟨RX2, "rowsOf", "(LIcicleEaves$House;)LIcicleEaves$Rows;"⟩
abbrev cX2_byRow : ByteArray := prog_4_method_3_code
def yX2_byRow : MethodName := ⟨RX2, "byRow", "(LIcicleEaves$House;II)I"⟩
abbrev cX2_byLook : ByteArray := prog_4_method_4_code
def yX2_byLook : MethodName := ⟨RX2, "byLook", "(LIcicleEaves$House;IIII)I"⟩
def RX3 : String := "IcicleEaves$House"
def TX3 : u_T := fun k => match k with
  | 0 => ("IcicleEaves$House", "eaves", "LIcicleEaves$Eaves;", true)
  | 1 => ("IcicleEaves$House", "seen", "LIcicleEaves$Rows;", true)
  | 2 => ("IcicleEaves$House", "notes", "LIcicleEaves$Rows;", true)
  | 3 => ("IcicleEaves$House", "marks", "LIcicleEaves$Rows;", true)
  | _ => ("IcicleEaves$House", "past", "LIcicleEaves$Rows;", true)
def tyX3 : Nat → FieldType := fun k => match k with
  | 0 => .object "IcicleEaves$Eaves"
  | 1 => .object "IcicleEaves$Rows"
  | 2 => .object "IcicleEaves$Rows"
  | 3 => .object "IcicleEaves$Rows"
  | _ => .object "IcicleEaves$Rows"
abbrev wsX30 : List Cond := u_ws RX3 TX3 5
theorem nmX3 : ∀ a, a < 5 → ∀ b, b < 5 → a ≠ b → (TX3 a).2.1 ≠ (TX3 b).2.1 := by decide +kernel
theorem tyX3_ok : ∀ k, k < 5 → parseFieldDescriptor (TX3 k).2.2.1 = some (tyX3 k) := by decide +kernel
abbrev cX3_init : ByteArray := prog_5_method_1_code
def yX3_init : MethodName := ⟨RX3, "<init>", "()V"⟩
abbrev cX3_begin : ByteArray := prog_5_method_2_code
def yX3_begin : MethodName := ⟨RX3, "begin", "(I)V"⟩
abbrev cX3_take : ByteArray := prog_5_method_3_code
def yX3_take : MethodName := ⟨RX3, "take", "(LIcicleEaves$House;)V"⟩
abbrev cX3_remember : ByteArray := prog_5_method_4_code
def yX3_remember : MethodName := ⟨RX3, "remember", "()V"⟩
abbrev cX3_goBack : ByteArray := prog_5_method_5_code
def yX3_goBack : MethodName := ⟨RX3, "goBack", "()V"⟩
def RX4 : String := "IcicleEaves$IcicleGuess"
def TX4 : u_T := fun k => match k with
  | 0 => ("IcicleEaves$Guess", "answers", "[I", true)
  | 1 => ("IcicleEaves$Guess", "amountMost", "I", true)
  | _ => ("IcicleEaves$Guess", "warmthStep", "I", true)
def tyX4 : Nat → FieldType := fun k => match k with
  | 0 => .array .int
  | 1 => .int
  | _ => .int
abbrev wsX40 : List Cond := u_ws RX4 TX4 3
theorem nmX4 : ∀ a, a < 3 → ∀ b, b < 3 → a ≠ b → (TX4 a).2.1 ≠ (TX4 b).2.1 := by decide +kernel
theorem tyX4_ok : ∀ k, k < 3 → parseFieldDescriptor (TX4 k).2.2.1 = some (tyX4 k) := by decide +kernel
abbrev cX4_init : ByteArray := prog_6_method_1_code
def yX4_init : MethodName := ⟨RX4, "<init>", "()V"⟩
abbrev cX4_rowsOf : ByteArray := prog_6_method_2_code
def yX4_rowsOf : MethodName := ⟨RX4, "rowsOf", "(LIcicleEaves$House;)LIcicleEaves$Rows;"⟩
abbrev cX4_byRow : ByteArray := prog_6_method_3_code
def yX4_byRow : MethodName := ⟨RX4, "byRow", "(LIcicleEaves$House;II)I"⟩
abbrev cX4_byLook : ByteArray := prog_6_method_4_code
def yX4_byLook : MethodName := ⟨RX4, "byLook", "(LIcicleEaves$House;IIII)I"⟩
def RX5 : String := "IcicleEaves$RoofGuess"
def TX5 : u_T := fun k => match k with
  | 0 => ("IcicleEaves$Guess", "answers", "[I", true)
  | 1 => ("IcicleEaves$Guess", "amountMost", "I", true)
  | _ => ("IcicleEaves$Guess", "warmthStep", "I", true)
def tyX5 : Nat → FieldType := fun k => match k with
  | 0 => .array .int
  | 1 => .int
  | _ => .int
abbrev wsX50 : List Cond := u_ws RX5 TX5 3
theorem nmX5 : ∀ a, a < 3 → ∀ b, b < 3 → a ≠ b → (TX5 a).2.1 ≠ (TX5 b).2.1 := by decide +kernel
theorem tyX5_ok : ∀ k, k < 3 → parseFieldDescriptor (TX5 k).2.2.1 = some (tyX5 k) := by decide +kernel
abbrev cX5_init : ByteArray := prog_7_method_1_code
def yX5_init : MethodName := ⟨RX5, "<init>", "()V"⟩
abbrev cX5_rowsOf : ByteArray := prog_7_method_2_code
def yX5_rowsOf : MethodName := ⟨RX5, "rowsOf", "(LIcicleEaves$House;)LIcicleEaves$Rows;"⟩
abbrev cX5_byRow : ByteArray := prog_7_method_3_code
def yX5_byRow : MethodName := ⟨RX5, "byRow", "(LIcicleEaves$House;II)I"⟩
abbrev cX5_byLook : ByteArray := prog_7_method_4_code
def yX5_byLook : MethodName := ⟨RX5, "byLook", "(LIcicleEaves$House;IIII)I"⟩
def RX6 : String := "IcicleEaves$Rows"
def TX6 : u_T := fun k => match k with
  | 0 => ("IcicleEaves$Rows", "width", "I", true)
  | 1 => ("IcicleEaves$Rows", "cells", "[I", true)
  | _ => ("IcicleEaves$Rows", "filled", "I", false)
def tyX6 : Nat → FieldType := fun k => match k with
  | 0 => .int
  | 1 => .array .int
  | _ => .int
abbrev wsX60 : List Cond := u_ws RX6 TX6 3
theorem nmX6 : ∀ a, a < 3 → ∀ b, b < 3 → a ≠ b → (TX6 a).2.1 ≠ (TX6 b).2.1 := by decide +kernel
theorem tyX6_ok : ∀ k, k < 3 → parseFieldDescriptor (TX6 k).2.2.1 = some (tyX6 k) := by decide +kernel
abbrev cX6_init : ByteArray := prog_8_method_1_code
def yX6_init : MethodName := ⟨RX6, "<init>", "(II)V"⟩
abbrev cX6_size : ByteArray := prog_8_method_2_code
def yX6_size : MethodName := ⟨RX6, "size", "()I"⟩
abbrev cX6_isFull : ByteArray := prog_8_method_3_code
def yX6_isFull : MethodName := ⟨RX6, "isFull", "()Z"⟩
abbrev cX6_at : ByteArray := prog_8_method_4_code
def yX6_at : MethodName := ⟨RX6, "at", "(II)I"⟩
abbrev cX6_lastOf : ByteArray := prog_8_method_5_code
def yX6_lastOf : MethodName := ⟨RX6, "lastOf", "(I)I"⟩
abbrev cX6_write : ByteArray := prog_8_method_6_code
def yX6_write : MethodName := ⟨RX6, "write", "(I)V"⟩
abbrev cX6_empty : ByteArray := prog_8_method_7_code
def yX6_empty : MethodName := ⟨RX6, "empty", "()I"⟩
abbrev cX6_dropFirst : ByteArray := prog_8_method_8_code
def yX6_dropFirst : MethodName := ⟨RX6, "dropFirst", "()V"⟩
abbrev cX6_dropLast : ByteArray := prog_8_method_9_code
def yX6_dropLast : MethodName := ⟨RX6, "dropLast", "()V"⟩
abbrev cX6_take : ByteArray := prog_8_method_10_code
def yX6_take : MethodName := ⟨RX6, "take", "(LIcicleEaves$Rows;)V"⟩
abbrev cX6_digestOn : ByteArray := prog_8_method_11_code
def yX6_digestOn : MethodName := ⟨RX6, "digestOn", "(J)J"⟩
def RX7 : String := "IcicleEaves$Text"
def TX7 : u_T := fun k => match k with
  | 0 => ("IcicleEaves$Text", "bytes", "[B", true)
  | 1 => ("IcicleEaves$Text", "size", "I", false)
  | 2 => ("IcicleEaves$Text", "token", "I", false)
  | 3 => ("IcicleEaves$Text", "start", "I", false)
  | 4 => ("IcicleEaves$Text", "end", "I", false)
  | 5 => ("IcicleEaves$Text", "value", "I", false)
  | _ => ("IcicleEaves$Text", "numbers", "[I", true)
def tyX7 : Nat → FieldType := fun k => match k with
  | 0 => .array .byte
  | 1 => .int
  | 2 => .int
  | 3 => .int
  | 4 => .int
  | 5 => .int
  | _ => .array .int
abbrev wsX70 : List Cond := u_ws RX7 TX7 7
theorem nmX7 : ∀ a, a < 7 → ∀ b, b < 7 → a ≠ b → (TX7 a).2.1 ≠ (TX7 b).2.1 := by decide +kernel
theorem tyX7_ok : ∀ k, k < 7 → parseFieldDescriptor (TX7 k).2.2.1 = some (tyX7 k) := by decide +kernel
abbrev cX7_init : ByteArray := prog_9_method_1_code
def yX7_init : MethodName := ⟨RX7, "<init>", "()V"⟩
abbrev cX7_append : ByteArray := prog_9_method_2_code
def yX7_append : MethodName := ⟨RX7, "append", "(I)Z"⟩
abbrev cX7_readInto : ByteArray := prog_9_method_3_code
def yX7_readInto : MethodName := ⟨RX7, "readInto", "(LIcicleEaves$Eaves;)I"⟩
abbrev cX7_readItem : ByteArray := prog_9_method_4_code
def yX7_readItem : MethodName := ⟨RX7, "readItem", "(LIcicleEaves$Eaves;Z)Z"⟩
abbrev cX7_readHouse : ByteArray := prog_9_method_5_code
def yX7_readHouse : MethodName := ⟨RX7, "readHouse", "(LIcicleEaves$Eaves;)Z"⟩
abbrev cX7_readWarm : ByteArray := prog_9_method_6_code
def yX7_readWarm : MethodName := ⟨RX7, "readWarm", "(LIcicleEaves$Eaves;)Z"⟩
abbrev cX7_readRoof : ByteArray := prog_9_method_7_code
def yX7_readRoof : MethodName := ⟨RX7, "readRoof", "(LIcicleEaves$Eaves;)Z"⟩
abbrev cX7_readIcicle : ByteArray := prog_9_method_8_code
def yX7_readIcicle : MethodName := ⟨RX7, "readIcicle", "(LIcicleEaves$Eaves;)Z"⟩
abbrev cX7_readHours : ByteArray := prog_9_method_9_code
def yX7_readHours : MethodName := ⟨RX7, "readHours", "(LIcicleEaves$Eaves;)Z"⟩
abbrev cX7_readNumber : ByteArray := prog_9_method_10_code
def yX7_readNumber : MethodName := ⟨RX7, "readNumber", "(III)Z"⟩
abbrev cX7_readStop : ByteArray := prog_9_method_11_code
def yX7_readStop : MethodName := ⟨RX7, "readStop", "()Z"⟩
abbrev cX7_nextToken : ByteArray := prog_9_method_12_code
def yX7_nextToken : MethodName := ⟨RX7, "nextToken", "()V"⟩
abbrev cX7_nextNumber : ByteArray := prog_9_method_13_code
def yX7_nextNumber : MethodName := ⟨RX7, "nextNumber", "()V"⟩
abbrev cX7_isLetter : ByteArray := prog_9_method_14_code
def yX7_isLetter : MethodName := ⟨RX7, "isLetter", "(I)Z"⟩
abbrev cX7_isFigure : ByteArray := prog_9_method_15_code
def yX7_isFigure : MethodName := ⟨RX7, "isFigure", "(I)Z"⟩
abbrev cX7_isWord : ByteArray := prog_9_method_16_code
def yX7_isWord : MethodName := ⟨RX7, "isWord", "(Ljava/lang/String;)Z"⟩
def RX8 : String := "IcicleEaves"
def TX8 : u_T := fun k => match k with
  | 0 => ("IcicleEaves", "live", "LIcicleEaves$House;", true)
  | 1 => ("IcicleEaves", "images", "[LIcicleEaves$House;", true)
  | 2 => ("IcicleEaves", "kept", "[Z", true)
  | 3 => ("IcicleEaves", "text", "LIcicleEaves$Text;", true)
  | 4 => ("IcicleEaves", "refused", "[I", true)
  | 5 => ("IcicleEaves", "above", "J", false)
  | 6 => ("IcicleEaves", "below", "J", false)
  | 7 => ("IcicleEaves", "trial", "LIcicleEaves$Eaves;", true)
  | 8 => ("IcicleEaves", "falls", "[I", true)
  | 9 => ("IcicleEaves", "lengths", "[I", true)
  | 10 => ("IcicleEaves", "heatGuess", "LIcicleEaves$Guess;", true)
  | 11 => ("IcicleEaves", "icicleGuess", "LIcicleEaves$Guess;", true)
  | _ => ("IcicleEaves", "roofGuess", "LIcicleEaves$Guess;", true)
def tyX8 : Nat → FieldType := fun k => match k with
  | 0 => .object "IcicleEaves$House"
  | 1 => .array (.object "IcicleEaves$House")
  | 2 => .array .boolean
  | 3 => .object "IcicleEaves$Text"
  | 4 => .array .int
  | 5 => .long
  | 6 => .long
  | 7 => .object "IcicleEaves$Eaves"
  | 8 => .array .int
  | 9 => .array .int
  | 10 => .object "IcicleEaves$Guess"
  | 11 => .object "IcicleEaves$Guess"
  | _ => .object "IcicleEaves$Guess"
abbrev wsX80 : List Cond := u_ws RX8 TX8 13
theorem nmX8 : ∀ a, a < 13 → ∀ b, b < 13 → a ≠ b → (TX8 a).2.1 ≠ (TX8 b).2.1 := by decide +kernel
theorem tyX8_ok : ∀ k, k < 13 → parseFieldDescriptor (TX8 k).2.2.1 = some (tyX8 k) := by decide +kernel
abbrev cX8_init : ByteArray := prog_1_method_1_code
def yX8_init : MethodName := ⟨RX8, "<init>", "()V"⟩
abbrev cX8_house : ByteArray := prog_1_method_2_code
def yX8_house : MethodName := ⟨RX8, "house", "(I)I"⟩
abbrev cX8_warm : ByteArray := prog_1_method_3_code
def yX8_warm : MethodName := ⟨RX8, "warm", "(II)I"⟩
abbrev cX8_roof : ByteArray := prog_1_method_4_code
def yX8_roof : MethodName := ⟨RX8, "roof", "(III)I"⟩
abbrev cX8_ice : ByteArray := prog_1_method_5_code
def yX8_ice : MethodName := ⟨RX8, "ice", "(IIIII)I"⟩
abbrev cX8_type : ByteArray := prog_1_method_6_code
def yX8_type : MethodName := ⟨RX8, "type", "(I)I"⟩
abbrev cX8_clear : ByteArray := prog_1_method_7_code
def yX8_clear : MethodName := ⟨RX8, "clear", "()I"⟩
abbrev cX8_read : ByteArray := prog_1_method_8_code
def yX8_read : MethodName := ⟨RX8, "read", "()I"⟩
abbrev cX8_hours : ByteArray := prog_1_method_9_code
def yX8_hours : MethodName := ⟨RX8, "hours", "(I)I"⟩
abbrev cX8_snows : ByteArray := prog_1_method_10_code
def yX8_snows : MethodName := ⟨RX8, "snows", "(II)I"⟩
abbrev cX8_heats : ByteArray := prog_1_method_11_code
def yX8_heats : MethodName := ⟨RX8, "heats", "(II)I"⟩
abbrev cX8_knocks : ByteArray := prog_1_method_12_code
def yX8_knocks : MethodName := ⟨RX8, "knocks", "(I)I"⟩
abbrev cX8_undo : ByteArray := prog_1_method_13_code
def yX8_undo : MethodName := ⟨RX8, "undo", "()I"⟩
abbrev cX8_of : ByteArray := prog_1_method_14_code
def yX8_of : MethodName := ⟨RX8, "of", "(II)I"⟩
abbrev cX8_more : ByteArray := prog_1_method_15_code
def yX8_more : MethodName := ⟨RX8, "more", "(I)I"⟩
abbrev cX8_about : ByteArray := prog_1_method_16_code
def yX8_about : MethodName := ⟨RX8, "about", "(II)I"⟩
abbrev cX8_warmth : ByteArray := prog_1_method_17_code
def yX8_warmth : MethodName := ⟨RX8, "warmth", "(I)I"⟩
abbrev cX8_ahead : ByteArray := prog_1_method_18_code
def yX8_ahead : MethodName := ⟨RX8, "ahead", "(III)I"⟩
abbrev cX8_fall : ByteArray := prog_1_method_19_code
def yX8_fall : MethodName := ⟨RX8, "fall", "(I)I"⟩
abbrev cX8_first : ByteArray := prog_1_method_20_code
def yX8_first : MethodName := ⟨RX8, "first", "()I"⟩
abbrev cX8_order : ByteArray := prog_1_method_21_code
def yX8_order : MethodName := ⟨RX8, "order", "(I)I"⟩
abbrev cX8_path : ByteArray := prog_1_method_22_code
def yX8_path : MethodName := ⟨RX8, "path", "()I"⟩
abbrev cX8_least : ByteArray := prog_1_method_23_code
def yX8_least : MethodName := ⟨RX8, "least", "(I)I"⟩
abbrev cX8_peak : ByteArray := prog_1_method_24_code
def yX8_peak : MethodName := ⟨RX8, "peak", "(II)I"⟩
abbrev cX8_most : ByteArray := prog_1_method_25_code
def yX8_most : MethodName := ⟨RX8, "most", "(II)I"⟩
abbrev cX8_seen : ByteArray := prog_1_method_26_code
def yX8_seen : MethodName := ⟨RX8, "seen", "(IIII)I"⟩
abbrev cX8_warms : ByteArray := prog_1_method_27_code
def yX8_warms : MethodName := ⟨RX8, "warms", "(I)I"⟩
abbrev cX8_tell : ByteArray := prog_1_method_28_code
def yX8_tell : MethodName := ⟨RX8, "tell", "(I)I"⟩
abbrev cX8_note : ByteArray := prog_1_method_29_code
def yX8_note : MethodName := ⟨RX8, "note", "(IIIII)I"⟩
abbrev cX8_mark : ByteArray := prog_1_method_30_code
def yX8_mark : MethodName := ⟨RX8, "mark", "(IIIII)I"⟩
abbrev cX8_forget : ByteArray := prog_1_method_31_code
def yX8_forget : MethodName := ⟨RX8, "forget", "(I)I"⟩
abbrev cX8_is : ByteArray := prog_1_method_32_code
def yX8_is : MethodName := ⟨RX8, "is", "(I)I"⟩
abbrev cX8_look : ByteArray := prog_1_method_33_code
def yX8_look : MethodName := ⟨RX8, "look", "(I)I"⟩
abbrev cX8_kinds : ByteArray := prog_1_method_34_code
def yX8_kinds : MethodName := ⟨RX8, "kinds", "(I)I"⟩
abbrev cX8_ask : ByteArray := prog_1_method_35_code
def yX8_ask : MethodName := ⟨RX8, "ask", "(I)I"⟩
abbrev cX8_sticks : ByteArray := prog_1_method_36_code
def yX8_sticks : MethodName := ⟨RX8, "sticks", "(I)I"⟩
abbrev cX8_odds : ByteArray := prog_1_method_37_code
def yX8_odds : MethodName := ⟨RX8, "odds", "(III)I"⟩
abbrev cX8_winters : ByteArray := prog_1_method_38_code
def yX8_winters : MethodName := ⟨RX8, "winters", "(II)I"⟩
abbrev cX8_part : ByteArray := prog_1_method_39_code
def yX8_part : MethodName := ⟨RX8, "part", "(I)J"⟩
abbrev cX8_image : ByteArray := prog_1_method_40_code
def yX8_image : MethodName := ⟨RX8, "image", "(I)I"⟩
abbrev cX8_from : ByteArray := prog_1_method_41_code
def yX8_from : MethodName := ⟨RX8, "from", "(I)I"⟩
abbrev cX8_status : ByteArray := prog_1_method_42_code
def yX8_status : MethodName := ⟨RX8, "status", "(I)I"⟩
abbrev cX8_count : ByteArray := prog_1_method_43_code
def yX8_count : MethodName := ⟨RX8, "count", "(I)I"⟩
abbrev cX8_digest : ByteArray := prog_1_method_44_code
def yX8_digest : MethodName := ⟨RX8, "digest", "()J"⟩
abbrev cX8_bad : ByteArray := prog_1_method_45_code
def yX8_bad : MethodName := ⟨RX8, "bad", "()I"⟩
abbrev cX8_no : ByteArray := prog_1_method_46_code
def yX8_no : MethodName := ⟨RX8, "no", "()I"⟩
abbrev cX8_full : ByteArray := prog_1_method_47_code
def yX8_full : MethodName := ⟨RX8, "full", "()I"⟩
abbrev cX8_within : ByteArray := prog_1_method_48_code
def yX8_within : MethodName := ⟨RX8, "within", "(III)Z"⟩
abbrev cX8_isKind : ByteArray := prog_1_method_49_code
def yX8_isKind : MethodName := ⟨RX8, "isKind", "(I)Z"⟩
abbrev cX8_isRoof : ByteArray := prog_1_method_50_code
def yX8_isRoof : MethodName := ⟨RX8, "isRoof", "(I)Z"⟩
abbrev cX8_isIcicle : ByteArray := prog_1_method_51_code
def yX8_isIcicle : MethodName := ⟨RX8, "isIcicle", "(I)Z"⟩
abbrev cX8_findFalls : ByteArray := prog_1_method_52_code
def yX8_findFalls : MethodName := ⟨RX8, "findFalls", "(I)V"⟩
abbrev cX8_runFalls : ByteArray := prog_1_method_53_code
def yX8_runFalls : MethodName := ⟨RX8, "runFalls", "(I)V"⟩
abbrev cX8_earlierOnes : ByteArray := prog_1_method_54_code
def yX8_earlierOnes : MethodName := ⟨RX8, "earlierOnes", "(I)I"⟩
abbrev cX8_comesBefore : ByteArray := prog_1_method_55_code
def yX8_comesBefore : MethodName := ⟨RX8, "comesBefore", "(II)Z"⟩
abbrev cX8_hitsOnPath : ByteArray := prog_1_method_56_code
def yX8_hitsOnPath : MethodName := ⟨RX8, "hitsOnPath", "(I)Z"⟩
abbrev cX8_anyFallsOn : ByteArray := prog_1_method_57_code
def yX8_anyFallsOn : MethodName := ⟨RX8, "anyFallsOn", "(I)Z"⟩
abbrev cX8_findLengths : ByteArray := prog_1_method_58_code
def yX8_findLengths : MethodName := ⟨RX8, "findLengths", "(I)V"⟩
abbrev cX8_lengthBehind : ByteArray := prog_1_method_59_code
def yX8_lengthBehind : MethodName := ⟨RX8, "lengthBehind", "(II)I"⟩
abbrev cX8_knockedSum : ByteArray := prog_1_method_60_code
def yX8_knockedSum : MethodName := ⟨RX8, "knockedSum", "(II)I"⟩
abbrev cX8_choiceOf : ByteArray := prog_1_method_61_code
def yX8_choiceOf : MethodName := ⟨RX8, "choiceOf", "(III)I"⟩
abbrev cX8_rests : ByteArray := prog_1_method_62_code
def yX8_rests : MethodName := ⟨RX8, "rests", "(II)Z"⟩
abbrev cX8_otherGets : ByteArray := prog_1_method_63_code
def yX8_otherGets : MethodName := ⟨RX8, "otherGets", "(II)I"⟩
abbrev cX8_fallsInHours : ByteArray := prog_1_method_64_code
def yX8_fallsInHours : MethodName := ⟨RX8, "fallsInHours", "(III)Z"⟩
abbrev cX8_weight : ByteArray := prog_1_method_65_code
def yX8_weight : MethodName := ⟨RX8, "weight", "(III)J"⟩
abbrev cX8_keepFraction : ByteArray := prog_1_method_66_code
def yX8_keepFraction : MethodName := ⟨RX8, "keepFraction", "(JJ)V"⟩
def RX9 : String := "IcicleEavesModel"
def TX9 : u_T := fun k => match k with
  | 0 => ("IcicleEavesModel", "now", "[I", true)
  | 1 => ("IcicleEavesModel", "aside", "[I", true)
  | 2 => ("IcicleEavesModel", "images", "[I", true)
  | 3 => ("IcicleEavesModel", "kept", "[Z", true)
  | 4 => ("IcicleEavesModel", "text", "[I", true)
  | 5 => ("IcicleEavesModel", "length", "I", false)
  | 6 => ("IcicleEavesModel", "above", "J", false)
  | 7 => ("IcicleEavesModel", "below", "J", false)
  | 8 => ("IcicleEavesModel", "refused", "[I", true)
  | 9 => ("IcicleEavesModel", "runs", "[I", true)
  | 10 => ("IcicleEavesModel", "at", "I", false)
  | 11 => ("IcicleEavesModel", "begin", "I", false)
  | 12 => ("IcicleEavesModel", "token", "I", false)
  | 13 => ("IcicleEavesModel", "value", "I", false)
  | 14 => ("IcicleEavesModel", "told", "[I", true)
  | 15 => ("IcicleEavesModel", "before", "[I", true)
  | 16 => ("IcicleEavesModel", "many", "I", false)
  | 17 => ("IcicleEavesModel", "falls", "[I", true)
  | 18 => ("IcicleEavesModel", "brought", "[I", true)
  | 19 => ("IcicleEavesModel", "ones", "[I", true)
  | _ => ("IcicleEavesModel", "others", "[I", true)
def tyX9 : Nat → FieldType := fun k => match k with
  | 0 => .array .int
  | 1 => .array .int
  | 2 => .array .int
  | 3 => .array .boolean
  | 4 => .array .int
  | 5 => .int
  | 6 => .long
  | 7 => .long
  | 8 => .array .int
  | 9 => .array .int
  | 10 => .int
  | 11 => .int
  | 12 => .int
  | 13 => .int
  | 14 => .array .int
  | 15 => .array .int
  | 16 => .int
  | 17 => .array .int
  | 18 => .array .int
  | 19 => .array .int
  | _ => .array .int
abbrev wsX90 : List Cond := u_ws RX9 TX9 21
theorem nmX9 : ∀ a, a < 21 → ∀ b, b < 21 → a ≠ b → (TX9 a).2.1 ≠ (TX9 b).2.1 := by decide +kernel
theorem tyX9_ok : ∀ k, k < 21 → parseFieldDescriptor (TX9 k).2.2.1 = some (tyX9 k) := by decide +kernel
abbrev cX9_init : ByteArray := prog_11_method_1_code
def yX9_init : MethodName := ⟨RX9, "<init>", "()V"⟩
abbrev cX9_in : ByteArray := prog_11_method_3_code
def yX9_in : MethodName := ⟨RX9, "in", "(JJJ)Z"⟩
abbrev cX9_less : ByteArray := prog_11_method_4_code
def yX9_less : MethodName := ⟨RX9, "less", "(II)I"⟩
abbrev cX9_copies : ByteArray := prog_11_method_5_code
def yX9_copies : MethodName := ⟨RX9, "copies", "([II[III)V"⟩
abbrev cX9_bad : ByteArray := prog_11_method_6_code
def yX9_bad : MethodName := ⟨RX9, "bad", "(I)I"⟩
abbrev cX9_no : ByteArray := prog_11_method_7_code
def yX9_no : MethodName := ⟨RX9, "no", "()I"⟩
abbrev cX9_full : ByteArray := prog_11_method_8_code
def yX9_full : MethodName := ⟨RX9, "full", "()I"⟩
abbrev cX9_isRoof : ByteArray := prog_11_method_9_code
def yX9_isRoof : MethodName := ⟨RX9, "isRoof", "(I)Z"⟩
abbrev cX9_isIce : ByteArray := prog_11_method_10_code
def yX9_isIce : MethodName := ⟨RX9, "isIce", "(I)Z"⟩
abbrev cX9_isWarmth : ByteArray := prog_11_method_11_code
def yX9_isWarmth : MethodName := ⟨RX9, "isWarmth", "(I)Z"⟩
abbrev cX9_water : ByteArray := prog_11_method_12_code
def yX9_water : MethodName := ⟨RX9, "water", "(IIII)I"⟩
abbrev cX9_moreBy : ByteArray := prog_11_method_13_code
def yX9_moreBy : MethodName := ⟨RX9, "moreBy", "(IIII)I"⟩
abbrev cX9_warmthOf : ByteArray := prog_11_method_14_code
def yX9_warmthOf : MethodName := ⟨RX9, "warmthOf", "([II)I"⟩
abbrev cX9_waterOf : ByteArray := prog_11_method_15_code
def yX9_waterOf : MethodName := ⟨RX9, "waterOf", "([III)I"⟩
abbrev cX9_passesBy : ByteArray := prog_11_method_16_code
def yX9_passesBy : MethodName := ⟨RX9, "passesBy", "([II)I"⟩
abbrev cX9_passes : ByteArray := prog_11_method_17_code
def yX9_passes : MethodName := ⟨RX9, "passes", "([I)I"⟩
abbrev cX9_begins : ByteArray := prog_11_method_18_code
def yX9_begins : MethodName := ⟨RX9, "begins", "(I)V"⟩
abbrev cX9_house : ByteArray := prog_11_method_19_code
def yX9_house : MethodName := ⟨RX9, "house", "(I)I"⟩
abbrev cX9_warm : ByteArray := prog_11_method_20_code
def yX9_warm : MethodName := ⟨RX9, "warm", "(II)I"⟩
abbrev cX9_addRoof : ByteArray := prog_11_method_21_code
def yX9_addRoof : MethodName := ⟨RX9, "addRoof", "(III)V"⟩
abbrev cX9_roof : ByteArray := prog_11_method_22_code
def yX9_roof : MethodName := ⟨RX9, "roof", "(III)I"⟩
abbrev cX9_addIce : ByteArray := prog_11_method_23_code
def yX9_addIce : MethodName := ⟨RX9, "addIce", "(IIIII)V"⟩
abbrev cX9_ice : ByteArray := prog_11_method_24_code
def yX9_ice : MethodName := ⟨RX9, "ice", "(IIIII)I"⟩
abbrev cX9_type : ByteArray := prog_11_method_25_code
def yX9_type : MethodName := ⟨RX9, "type", "(I)I"⟩
abbrev cX9_clear : ByteArray := prog_11_method_26_code
def yX9_clear : MethodName := ⟨RX9, "clear", "()I"⟩
abbrev cX9_letter : ByteArray := prog_11_method_27_code
def yX9_letter : MethodName := ⟨RX9, "letter", "(I)I"⟩
abbrev cX9_step : ByteArray := prog_11_method_28_code
def yX9_step : MethodName := ⟨RX9, "step", "()V"⟩
abbrev cX9_isWord : ByteArray := prog_11_method_29_code
def yX9_isWord : MethodName := ⟨RX9, "isWord", "(IIIII)Z"⟩
abbrev cX9_number : ByteArray := prog_11_method_30_code
def yX9_number : MethodName := ⟨RX9, "number", "(III)Z"⟩
abbrev cX9_ends : ByteArray := prog_11_method_31_code
def yX9_ends : MethodName := ⟨RX9, "ends", "()Z"⟩
abbrev cX9_readsItem : ByteArray := prog_11_method_32_code
def yX9_readsItem : MethodName := ⟨RX9, "readsItem", "()Z"⟩
abbrev cX9_goes : ByteArray := prog_11_method_33_code
def yX9_goes : MethodName := ⟨RX9, "goes", "(I)I"⟩
abbrev cX9_reads : ByteArray := prog_11_method_34_code
def yX9_reads : MethodName := ⟨RX9, "reads", "()Z"⟩
abbrev cX9_read : ByteArray := prog_11_method_35_code
def yX9_read : MethodName := ⟨RX9, "read", "()I"⟩
abbrev cX9_notes : ByteArray := prog_11_method_36_code
def yX9_notes : MethodName := ⟨RX9, "notes", "()V"⟩
abbrev cX9_standing : ByteArray := prog_11_method_37_code
def yX9_standing : MethodName := ⟨RX9, "standing", "([I)I"⟩
abbrev cX9_hours : ByteArray := prog_11_method_38_code
def yX9_hours : MethodName := ⟨RX9, "hours", "(I)I"⟩
abbrev cX9_snows : ByteArray := prog_11_method_39_code
def yX9_snows : MethodName := ⟨RX9, "snows", "(II)I"⟩
abbrev cX9_heats : ByteArray := prog_11_method_40_code
def yX9_heats : MethodName := ⟨RX9, "heats", "(II)I"⟩
abbrev cX9_knocks : ByteArray := prog_11_method_41_code
def yX9_knocks : MethodName := ⟨RX9, "knocks", "(I)I"⟩
abbrev cX9_undo : ByteArray := prog_11_method_42_code
def yX9_undo : MethodName := ⟨RX9, "undo", "()I"⟩
abbrev cX9_of : ByteArray := prog_11_method_43_code
def yX9_of : MethodName := ⟨RX9, "of", "(II)I"⟩
abbrev cX9_more : ByteArray := prog_11_method_44_code
def yX9_more : MethodName := ⟨RX9, "more", "(I)I"⟩
abbrev cX9_about : ByteArray := prog_11_method_45_code
def yX9_about : MethodName := ⟨RX9, "about", "(II)I"⟩
abbrev cX9_warmth : ByteArray := prog_11_method_46_code
def yX9_warmth : MethodName := ⟨RX9, "warmth", "(I)I"⟩
abbrev cX9_laysAside : ByteArray := prog_11_method_47_code
def yX9_laysAside : MethodName := ⟨RX9, "laysAside", "()V"⟩
abbrev cX9_ahead : ByteArray := prog_11_method_48_code
def yX9_ahead : MethodName := ⟨RX9, "ahead", "(III)I"⟩
abbrev cX9_findsFalls : ByteArray := prog_11_method_49_code
def yX9_findsFalls : MethodName := ⟨RX9, "findsFalls", "()V"⟩
abbrev cX9_fall : ByteArray := prog_11_method_50_code
def yX9_fall : MethodName := ⟨RX9, "fall", "(I)I"⟩
abbrev cX9_first : ByteArray := prog_11_method_51_code
def yX9_first : MethodName := ⟨RX9, "first", "()I"⟩
abbrev cX9_order : ByteArray := prog_11_method_52_code
def yX9_order : MethodName := ⟨RX9, "order", "(I)I"⟩
abbrev cX9_path : ByteArray := prog_11_method_53_code
def yX9_path : MethodName := ⟨RX9, "path", "()I"⟩
abbrev cX9_least : ByteArray := prog_11_method_54_code
def yX9_least : MethodName := ⟨RX9, "least", "(I)I"⟩
abbrev cX9_peak : ByteArray := prog_11_method_55_code
def yX9_peak : MethodName := ⟨RX9, "peak", "(II)I"⟩
abbrev cX9_power : ByteArray := prog_11_method_56_code
def yX9_power : MethodName := ⟨RX9, "power", "(II)I"⟩
abbrev cX9_brings : ByteArray := prog_11_method_57_code
def yX9_brings : MethodName := ⟨RX9, "brings", "(II)I"⟩
abbrev cX9_most : ByteArray := prog_11_method_58_code
def yX9_most : MethodName := ⟨RX9, "most", "(II)I"⟩
abbrev cX9_seen : ByteArray := prog_11_method_59_code
def yX9_seen : MethodName := ⟨RX9, "seen", "(IIII)I"⟩
abbrev cX9_heatsOf : ByteArray := prog_11_method_60_code
def yX9_heatsOf : MethodName := ⟨RX9, "heatsOf", "(I)I"⟩
abbrev cX9_warms : ByteArray := prog_11_method_61_code
def yX9_warms : MethodName := ⟨RX9, "warms", "(I)I"⟩
abbrev cX9_mostAlike : ByteArray := prog_11_method_62_code
def yX9_mostAlike : MethodName := ⟨RX9, "mostAlike", "(II)I"⟩
abbrev cX9_tell : ByteArray := prog_11_method_63_code
def yX9_tell : MethodName := ⟨RX9, "tell", "(I)I"⟩
abbrev cX9_note : ByteArray := prog_11_method_64_code
def yX9_note : MethodName := ⟨RX9, "note", "(IIIII)I"⟩
abbrev cX9_mark : ByteArray := prog_11_method_65_code
def yX9_mark : MethodName := ⟨RX9, "mark", "(IIIII)I"⟩
abbrev cX9_forget : ByteArray := prog_11_method_66_code
def yX9_forget : MethodName := ⟨RX9, "forget", "(I)I"⟩
abbrev cX9_icesOf : ByteArray := prog_11_method_67_code
def yX9_icesOf : MethodName := ⟨RX9, "icesOf", "(I)I"⟩
abbrev cX9_is : ByteArray := prog_11_method_68_code
def yX9_is : MethodName := ⟨RX9, "is", "(I)I"⟩
abbrev cX9_look : ByteArray := prog_11_method_69_code
def yX9_look : MethodName := ⟨RX9, "look", "(I)I"⟩
abbrev cX9_roofsOf : ByteArray := prog_11_method_70_code
def yX9_roofsOf : MethodName := ⟨RX9, "roofsOf", "(I)I"⟩
abbrev cX9_kinds : ByteArray := prog_11_method_71_code
def yX9_kinds : MethodName := ⟨RX9, "kinds", "(I)I"⟩
abbrev cX9_ask : ByteArray := prog_11_method_72_code
def yX9_ask : MethodName := ⟨RX9, "ask", "(I)I"⟩
abbrev cX9_gets : ByteArray := prog_11_method_73_code
def yX9_gets : MethodName := ⟨RX9, "gets", "(II)I"⟩
abbrev cX9_rests : ByteArray := prog_11_method_74_code
def yX9_rests : MethodName := ⟨RX9, "rests", "(II)Z"⟩
abbrev cX9_sticks : ByteArray := prog_11_method_75_code
def yX9_sticks : MethodName := ⟨RX9, "sticks", "(I)I"⟩
abbrev cX9_tellsPart : ByteArray := prog_11_method_76_code
def yX9_tellsPart : MethodName := ⟨RX9, "tellsPart", "(JJ)V"⟩
abbrev cX9_odds : ByteArray := prog_11_method_77_code
def yX9_odds : MethodName := ⟨RX9, "odds", "(III)I"⟩
abbrev cX9_winters : ByteArray := prog_11_method_78_code
def yX9_winters : MethodName := ⟨RX9, "winters", "(II)I"⟩
abbrev cX9_part : ByteArray := prog_11_method_79_code
def yX9_part : MethodName := ⟨RX9, "part", "(I)J"⟩
abbrev cX9_image : ByteArray := prog_11_method_80_code
def yX9_image : MethodName := ⟨RX9, "image", "(I)I"⟩
abbrev cX9_from : ByteArray := prog_11_method_81_code
def yX9_from : MethodName := ⟨RX9, "from", "(I)I"⟩
abbrev cX9_status : ByteArray := prog_11_method_82_code
def yX9_status : MethodName := ⟨RX9, "status", "(I)I"⟩
abbrev cX9_lostBy : ByteArray := prog_11_method_83_code
def yX9_lostBy : MethodName := ⟨RX9, "lostBy", "(I)I"⟩
abbrev cX9_tells : ByteArray := prog_11_method_84_code
def yX9_tells : MethodName := ⟨RX9, "tells", "(I)I"⟩
abbrev cX9_count : ByteArray := prog_11_method_85_code
def yX9_count : MethodName := ⟨RX9, "count", "(I)I"⟩
abbrev cX9_adds : ByteArray := prog_11_method_86_code
def yX9_adds : MethodName := ⟨RX9, "adds", "(J[III)J"⟩
abbrev cX9_digest : ByteArray := prog_11_method_87_code
def yX9_digest : MethodName := ⟨RX9, "digest", "()J"⟩
def RJx145de : String := "java/io/Serializable"
def TJx145de : u_T := fun k => match k with
  | _ => ("", "", "", false)
def tyJx145de : Nat → FieldType := fun k => match k with
  | _ => .int
abbrev wsJx145de0 : List Cond := u_ws RJx145de TJx145de 0
theorem nmJx145de : ∀ a, a < 0 → ∀ b, b < 0 → a ≠ b → (TJx145de a).2.1 ≠ (TJx145de b).2.1 := by decide +kernel
theorem tyJx145de_ok : ∀ k, k < 0 → parseFieldDescriptor (TJx145de k).2.2.1 = some (tyJx145de k) := by decide +kernel
def RJx9f9b0 : String := "java/lang/CharSequence"
def TJx9f9b0 : u_T := fun k => match k with
  | _ => ("", "", "", false)
def tyJx9f9b0 : Nat → FieldType := fun k => match k with
  | _ => .int
abbrev wsJx9f9b00 : List Cond := u_ws RJx9f9b0 TJx9f9b0 0
theorem nmJx9f9b0 : ∀ a, a < 0 → ∀ b, b < 0 → a ≠ b → (TJx9f9b0 a).2.1 ≠ (TJx9f9b0 b).2.1 := by decide +kernel
theorem tyJx9f9b0_ok : ∀ k, k < 0 → parseFieldDescriptor (TJx9f9b0 k).2.2.1 = some (tyJx9f9b0 k) := by decide +kernel
def RJxb160c : String := "java/lang/Comparable"
def TJxb160c : u_T := fun k => match k with
  | _ => ("", "", "", false)
def tyJxb160c : Nat → FieldType := fun k => match k with
  | _ => .int
abbrev wsJxb160c0 : List Cond := u_ws RJxb160c TJxb160c 0
theorem nmJxb160c : ∀ a, a < 0 → ∀ b, b < 0 → a ≠ b → (TJxb160c a).2.1 ≠ (TJxb160c b).2.1 := by decide +kernel
theorem tyJxb160c_ok : ∀ k, k < 0 → parseFieldDescriptor (TJxb160c k).2.2.1 = some (tyJxb160c k) := by decide +kernel
def RJ6 : String := "java/lang/Integer"
def TJ6 : u_T := fun k => match k with
  | _ => ("", "", "", false)
def tyJ6 : Nat → FieldType := fun k => match k with
  | _ => .int
abbrev wsJ60 : List Cond := u_ws RJ6 TJ6 0
theorem nmJ6 : ∀ a, a < 0 → ∀ b, b < 0 → a ≠ b → (TJ6 a).2.1 ≠ (TJ6 b).2.1 := by decide +kernel
theorem tyJ6_ok : ∀ k, k < 0 → parseFieldDescriptor (TJ6 k).2.2.1 = some (tyJ6 k) := by decide +kernel
abbrev cJ6_bitCount_0f7a4 : ByteArray := prog_12_method_49_code
def yJ6_bitCount_0f7a4 : MethodName := ⟨RJ6, "bitCount", "(I)I"⟩
def RJ9 : String := "java/lang/Math"
def TJ9 : u_T := fun k => match k with
  | _ => ("", "", "", false)
def tyJ9 : Nat → FieldType := fun k => match k with
  | _ => .int
abbrev wsJ90 : List Cond := u_ws RJ9 TJ9 0
theorem nmJ9 : ∀ a, a < 0 → ∀ b, b < 0 → a ≠ b → (TJ9 a).2.1 ≠ (TJ9 b).2.1 := by decide +kernel
theorem tyJ9_ok : ∀ k, k < 0 → parseFieldDescriptor (TJ9 k).2.2.1 = some (tyJ9 k) := by decide +kernel
abbrev cJ9_floorMod_7cf53 : ByteArray := prog_13_method_50_code
def yJ9_floorMod_7cf53 : MethodName := ⟨RJ9, "floorMod", "(II)I"⟩
abbrev cJ9_max_7cf53 : ByteArray := prog_13_method_65_code
def yJ9_max_7cf53 : MethodName := ⟨RJ9, "max", "(II)I"⟩
abbrev cJ9_min_7cf53 : ByteArray := prog_13_method_69_code
def yJ9_min_7cf53 : MethodName := ⟨RJ9, "min", "(II)I"⟩
def RJ0 : String := "java/lang/String"
def TJ0 : u_T := fun k => match k with
  | _ => ("", "", "", false)
def tyJ0 : Nat → FieldType := fun k => match k with
  | _ => .int
abbrev wsJ00 : List Cond := u_ws RJ0 TJ0 0
theorem nmJ0 : ∀ a, a < 0 → ∀ b, b < 0 → a ≠ b → (TJ0 a).2.1 ≠ (TJ0 b).2.1 := by decide +kernel
theorem tyJ0_ok : ∀ k, k < 0 → parseFieldDescriptor (TJ0 k).2.2.1 = some (tyJ0 k) := by decide +kernel
abbrev cJ0_length_8abf5 : ByteArray := prog_14_method_54_code
def yJ0_length_8abf5 : MethodName := ⟨RJ0, "length", "()I"⟩
abbrev cJ0_charAt_5068e : ByteArray := prog_14_method_56_code
def yJ0_charAt_5068e : MethodName := ⟨RJ0, "charAt", "(I)C"⟩
abbrev cJ0_coder_7d493 : ByteArray := prog_14_method_152_code
def yJ0_coder_7d493 : MethodName := ⟨RJ0, "coder", "()B"⟩
abbrev cJ0_isLatin1_aae02 : ByteArray := prog_14_method_154_code
def yJ0_isLatin1_aae02 : MethodName := ⟨RJ0, "isLatin1", "()Z"⟩
abbrev cJ0_checkIndex_df160 : ByteArray := prog_14_method_155_code
def yJ0_checkIndex_df160 : MethodName := ⟨RJ0, "checkIndex", "(II)V"⟩
def RJ1 : String := "java/lang/StringLatin1"
def TJ1 : u_T := fun k => match k with
  | _ => ("", "", "", false)
def tyJ1 : Nat → FieldType := fun k => match k with
  | _ => .int
abbrev wsJ10 : List Cond := u_ws RJ1 TJ1 0
theorem nmJ1 : ∀ a, a < 0 → ∀ b, b < 0 → a ≠ b → (TJ1 a).2.1 ≠ (TJ1 b).2.1 := by decide +kernel
theorem tyJ1_ok : ∀ k, k < 0 → parseFieldDescriptor (TJ1 k).2.2.1 = some (tyJ1 k) := by decide +kernel
abbrev cJ1_charAt_3b067 : ByteArray := prog_15_method_2_code
def yJ1_charAt_3b067 : MethodName := ⟨RJ1, "charAt", "([BI)C"⟩
def RJ2 : String := "java/lang/StringUTF16"
def TJ2 : u_T := fun k => match k with
  | _ => ("", "", "", false)
def tyJ2 : Nat → FieldType := fun k => match k with
  | _ => .int
abbrev wsJ20 : List Cond := u_ws RJ2 TJ2 0
theorem nmJ2 : ∀ a, a < 0 → ∀ b, b < 0 → a ≠ b → (TJ2 a).2.1 ≠ (TJ2 b).2.1 := by decide +kernel
theorem tyJ2_ok : ∀ k, k < 0 → parseFieldDescriptor (TJ2 k).2.2.1 = some (tyJ2 k) := by decide +kernel
abbrev cJ2_getChar_3b067 : ByteArray := prog_16_method_5_code
def yJ2_getChar_3b067 : MethodName := ⟨RJ2, "getChar", "([BI)C"⟩
abbrev cJ2_length_9d52b : ByteArray := prog_16_method_6_code
def yJ2_length_9d52b : MethodName := ⟨RJ2, "length", "([B)I"⟩
abbrev cJ2_charAt_3b067 : ByteArray := prog_16_method_83_code
def yJ2_charAt_3b067 : MethodName := ⟨RJ2, "charAt", "([BI)C"⟩
abbrev cJ2_checkIndex_2214a : ByteArray := prog_16_method_91_code
def yJ2_checkIndex_2214a : MethodName := ⟨RJ2, "checkIndex", "(I[B)V"⟩
def RJ10 : String := "java/lang/System"
def TJ10 : u_T := fun k => match k with
  | _ => ("", "", "", false)
def tyJ10 : Nat → FieldType := fun k => match k with
  | _ => .int
abbrev wsJ100 : List Cond := u_ws RJ10 TJ10 0
theorem nmJ10 : ∀ a, a < 0 → ∀ b, b < 0 → a ≠ b → (TJ10 a).2.1 ≠ (TJ10 b).2.1 := by decide +kernel
theorem tyJ10_ok : ∀ k, k < 0 → parseFieldDescriptor (TJ10 k).2.2.1 = some (tyJ10 k) := by decide +kernel
def RJxfd54e : String := "java/lang/constant/Constable"
def TJxfd54e : u_T := fun k => match k with
  | _ => ("", "", "", false)
def tyJxfd54e : Nat → FieldType := fun k => match k with
  | _ => .int
abbrev wsJxfd54e0 : List Cond := u_ws RJxfd54e TJxfd54e 0
theorem nmJxfd54e : ∀ a, a < 0 → ∀ b, b < 0 → a ≠ b → (TJxfd54e a).2.1 ≠ (TJxfd54e b).2.1 := by decide +kernel
theorem tyJxfd54e_ok : ∀ k, k < 0 → parseFieldDescriptor (TJxfd54e k).2.2.1 = some (tyJxfd54e k) := by decide +kernel
def RJx3cf43 : String := "java/lang/constant/ConstantDesc"
def TJx3cf43 : u_T := fun k => match k with
  | _ => ("", "", "", false)
def tyJx3cf43 : Nat → FieldType := fun k => match k with
  | _ => .int
abbrev wsJx3cf430 : List Cond := u_ws RJx3cf43 TJx3cf43 0
theorem nmJx3cf43 : ∀ a, a < 0 → ∀ b, b < 0 → a ≠ b → (TJx3cf43 a).2.1 ≠ (TJx3cf43 b).2.1 := by decide +kernel
theorem tyJx3cf43_ok : ∀ k, k < 0 → parseFieldDescriptor (TJx3cf43 k).2.2.1 = some (tyJx3cf43 k) := by decide +kernel
def RJ7 : String := "java/util/Arrays"
def TJ7 : u_T := fun k => match k with
  | _ => ("", "", "", false)
def tyJ7 : Nat → FieldType := fun k => match k with
  | _ => .int
abbrev wsJ70 : List Cond := u_ws RJ7 TJ7 0
theorem nmJ7 : ∀ a, a < 0 → ∀ b, b < 0 → a ≠ b → (TJ7 a).2.1 ≠ (TJ7 b).2.1 := by decide +kernel
theorem tyJ7_ok : ∀ k, k < 0 → parseFieldDescriptor (TJ7 k).2.2.1 = some (tyJ7 k) := by decide +kernel
abbrev cJ7_fill_53178 : ByteArray := prog_18_method_103_code
def yJ7_fill_53178 : MethodName := ⟨RJ7, "fill", "([II)V"⟩
def RJ3 : String := "jdk/internal/util/Preconditions"
def TJ3 : u_T := fun k => match k with
  | _ => ("", "", "", false)
def tyJ3 : Nat → FieldType := fun k => match k with
  | _ => .int
abbrev wsJ30 : List Cond := u_ws RJ3 TJ3 0
theorem nmJ3 : ∀ a, a < 0 → ∀ b, b < 0 → a ≠ b → (TJ3 a).2.1 ≠ (TJ3 b).2.1 := by decide +kernel
theorem tyJ3_ok : ∀ k, k < 0 → parseFieldDescriptor (TJ3 k).2.2.1 = some (tyJ3 k) := by decide +kernel
abbrev cJ3_checkIndex_8e157 : ByteArray := prog_19_method_11_code
def yJ3_checkIndex_8e157 : MethodName := ⟨RJ3, "checkIndex", "(IILjava/util/function/BiFunction;)I"⟩
def RL : String := "IcicleEavesLaw"
abbrev cL_law : ByteArray := code
def yL_law : MethodName := ⟨RL, "law", "([I)Z"⟩
abbrev vwCl : List vw_C := [(RX0, TX0, 14), (RX2, TX2, 3), (RX3, TX3, 5), (RX4, TX4, 3), (RX5, TX5, 3), (RX6, TX6, 3), (RX7, TX7, 7), (RX8, TX8, 13), (RX9, TX9, 21)]
