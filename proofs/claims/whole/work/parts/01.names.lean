-- ===== PART A: goes FIRST, ahead of the names: the tables' words, and 'selects' of the private methods out of them =====
/-- a private method of a class that the tables say can be made, by its rows of tables_1 -/
def lw_okq (q : MethodName × Nat) : Prop := (q.1.cls ≠ "java/lang/invoke/MethodHandle" ∧ q.1.cls ≠ "java/lang/invoke/VarHandle") ∧ Cond.instantiable q.1.cls q.2 ∈ tables_1 ∧ Cond.privateMethod q.1 ∈ tables_1 ∧ Cond.instanceMethod q.1 ∈ tables_1
theorem lw_p0 : lw_okq (⟨"PotHandles", "fail", "(I)I"⟩, 10) := ⟨⟨by decide +kernel, by decide +kernel⟩, List.mem_of_getElem? (i := 15) (by decide +kernel), List.mem_of_getElem? (i := 265) (by decide +kernel), List.mem_of_getElem? (i := 266) (by decide +kernel)⟩
theorem lw_p1 : lw_okq (⟨"PotHandles$Reader", "readLevel", "(II)Z"⟩, 5) := ⟨⟨by decide +kernel, by decide +kernel⟩, List.mem_of_getElem? (i := 154) (by decide +kernel), List.mem_of_getElem? (i := 368) (by decide +kernel), List.mem_of_getElem? (i := 369) (by decide +kernel)⟩
theorem lw_p2 : lw_okq (⟨"PotHandles$Reader", "readLast", "(I)Z"⟩, 5) := ⟨⟨by decide +kernel, by decide +kernel⟩, List.mem_of_getElem? (i := 154) (by decide +kernel), List.mem_of_getElem? (i := 372) (by decide +kernel), List.mem_of_getElem? (i := 373) (by decide +kernel)⟩
theorem lw_p3 : lw_okq (⟨"PotHandles$Reader", "next", "()I"⟩, 5) := ⟨⟨by decide +kernel, by decide +kernel⟩, List.mem_of_getElem? (i := 154) (by decide +kernel), List.mem_of_getElem? (i := 376) (by decide +kernel), List.mem_of_getElem? (i := 377) (by decide +kernel)⟩
theorem lw_p4 : lw_okq (⟨"PotHandles$Reader", "readNumber", "()V"⟩, 5) := ⟨⟨by decide +kernel, by decide +kernel⟩, List.mem_of_getElem? (i := 154) (by decide +kernel), List.mem_of_getElem? (i := 383) (by decide +kernel), List.mem_of_getElem? (i := 384) (by decide +kernel)⟩
theorem lw_p5 : lw_okq (⟨"PotHandles$Reader", "nameOf", "(I)I"⟩, 5) := ⟨⟨by decide +kernel, by decide +kernel⟩, List.mem_of_getElem? (i := 154) (by decide +kernel), List.mem_of_getElem? (i := 391) (by decide +kernel), List.mem_of_getElem? (i := 392) (by decide +kernel)⟩
theorem lw_p6 : lw_okq (⟨"PotHandles$District", "passYearOf", "(LPotHandles$Pot;I)V"⟩, 8) := ⟨⟨by decide +kernel, by decide +kernel⟩, List.mem_of_getElem? (i := 23) (by decide +kernel), List.mem_of_getElem? (i := 441) (by decide +kernel), List.mem_of_getElem? (i := 442) (by decide +kernel)⟩
theorem lw_p7 : lw_okq (⟨"PotHandles", "behind", "(I)LPotHandles$District;"⟩, 10) := ⟨⟨by decide +kernel, by decide +kernel⟩, List.mem_of_getElem? (i := 15) (by decide +kernel), List.mem_of_getElem? (i := 482) (by decide +kernel), List.mem_of_getElem? (i := 483) (by decide +kernel)⟩
theorem lw_p8 : lw_okq (⟨"PotHandles", "asNow", "()LPotHandles$District;"⟩, 10) := ⟨⟨by decide +kernel, by decide +kernel⟩, List.mem_of_getElem? (i := 15) (by decide +kernel), List.mem_of_getElem? (i := 486) (by decide +kernel), List.mem_of_getElem? (i := 487) (by decide +kernel)⟩
theorem lw_p9 : lw_okq (⟨"PotHandles", "whenMoved", "(III)LPotHandles$Pot;"⟩, 10) := ⟨⟨by decide +kernel, by decide +kernel⟩, List.mem_of_getElem? (i := 15) (by decide +kernel), List.mem_of_getElem? (i := 516) (by decide +kernel), List.mem_of_getElem? (i := 517) (by decide +kernel)⟩
theorem lw_p10 : lw_okq (⟨"PotHandles", "haveHandlesIfCaredFor", "(III)Z"⟩, 10) := ⟨⟨by decide +kernel, by decide +kernel⟩, List.mem_of_getElem? (i := 15) (by decide +kernel), List.mem_of_getElem? (i := 533) (by decide +kernel), List.mem_of_getElem? (i := 534) (by decide +kernel)⟩
theorem lw_p11 : lw_okq (⟨"PotHandles", "isLikedAsTold", "(LPotHandles$Sheet;II)Z"⟩, 10) := ⟨⟨by decide +kernel, by decide +kernel⟩, List.mem_of_getElem? (i := 15) (by decide +kernel), List.mem_of_getElem? (i := 548) (by decide +kernel), List.mem_of_getElem? (i := 549) (by decide +kernel)⟩
theorem lw_p12 : lw_okq (⟨"PotHandles", "handlesIfStuck", "(II)I"⟩, 10) := ⟨⟨by decide +kernel, by decide +kernel⟩, List.mem_of_getElem? (i := 15) (by decide +kernel), List.mem_of_getElem? (i := 573) (by decide +kernel), List.mem_of_getElem? (i := 574) (by decide +kernel)⟩
theorem lw_p13 : lw_okq (⟨"PotHandles", "whenBeing", "(III)LPotHandles$Pot;"⟩, 10) := ⟨⟨by decide +kernel, by decide +kernel⟩, List.mem_of_getElem? (i := 15) (by decide +kernel), List.mem_of_getElem? (i := 581) (by decide +kernel), List.mem_of_getElem? (i := 582) (by decide +kernel)⟩
theorem lw_p14 : lw_okq (⟨"PotHandles$Voices", "say", "(IIII)I"⟩, 5) := ⟨⟨by decide +kernel, by decide +kernel⟩, List.mem_of_getElem? (i := 180) (by decide +kernel), List.mem_of_getElem? (i := 597) (by decide +kernel), List.mem_of_getElem? (i := 598) (by decide +kernel)⟩
theorem lw_p15 : lw_okq (⟨"PotHandles$Voices", "begin", "(I)V"⟩, 5) := ⟨⟨by decide +kernel, by decide +kernel⟩, List.mem_of_getElem? (i := 180) (by decide +kernel), List.mem_of_getElem? (i := 604) (by decide +kernel), List.mem_of_getElem? (i := 605) (by decide +kernel)⟩
def lw_privs_1 : List (MethodName × Nat) := [(⟨"PotHandles", "fail", "(I)I"⟩, 10), (⟨"PotHandles$Reader", "readLevel", "(II)Z"⟩, 5), (⟨"PotHandles$Reader", "readLast", "(I)Z"⟩, 5), (⟨"PotHandles$Reader", "next", "()I"⟩, 5), (⟨"PotHandles$Reader", "readNumber", "()V"⟩, 5), (⟨"PotHandles$Reader", "nameOf", "(I)I"⟩, 5), (⟨"PotHandles$District", "passYearOf", "(LPotHandles$Pot;I)V"⟩, 8), (⟨"PotHandles", "behind", "(I)LPotHandles$District;"⟩, 10), (⟨"PotHandles", "asNow", "()LPotHandles$District;"⟩, 10), (⟨"PotHandles", "whenMoved", "(III)LPotHandles$Pot;"⟩, 10), (⟨"PotHandles", "haveHandlesIfCaredFor", "(III)Z"⟩, 10), (⟨"PotHandles", "isLikedAsTold", "(LPotHandles$Sheet;II)Z"⟩, 10), (⟨"PotHandles", "handlesIfStuck", "(II)I"⟩, 10), (⟨"PotHandles", "whenBeing", "(III)LPotHandles$Pot;"⟩, 10), (⟨"PotHandles$Voices", "say", "(IIII)I"⟩, 5), (⟨"PotHandles$Voices", "begin", "(I)V"⟩, 5)]
theorem lw_r1 : ∀ q ∈ lw_privs_1, lw_okq q := List.forall_mem_cons.mpr ⟨lw_p0, List.forall_mem_cons.mpr ⟨lw_p1, List.forall_mem_cons.mpr ⟨lw_p2, List.forall_mem_cons.mpr ⟨lw_p3, List.forall_mem_cons.mpr ⟨lw_p4, List.forall_mem_cons.mpr ⟨lw_p5, List.forall_mem_cons.mpr ⟨lw_p6, List.forall_mem_cons.mpr ⟨lw_p7, List.forall_mem_cons.mpr ⟨lw_p8, List.forall_mem_cons.mpr ⟨lw_p9, List.forall_mem_cons.mpr ⟨lw_p10, List.forall_mem_cons.mpr ⟨lw_p11, List.forall_mem_cons.mpr ⟨lw_p12, List.forall_mem_cons.mpr ⟨lw_p13, List.forall_mem_cons.mpr ⟨lw_p14, List.forall_mem_cons.mpr ⟨lw_p15, fun _ h => absurd h List.not_mem_nil⟩⟩⟩⟩⟩⟩⟩⟩⟩⟩⟩⟩⟩⟩⟩⟩
theorem lw_p16 : lw_okq (⟨"PotHandles$Voices", "sayBody", "(III)I"⟩, 5) := ⟨⟨by decide +kernel, by decide +kernel⟩, List.mem_of_getElem? (i := 180) (by decide +kernel), List.mem_of_getElem? (i := 608) (by decide +kernel), List.mem_of_getElem? (i := 609) (by decide +kernel)⟩
theorem lw_p17 : lw_okq (⟨"PotHandles$Voices", "sayAbove", "(IIII)I"⟩, 5) := ⟨⟨by decide +kernel, by decide +kernel⟩, List.mem_of_getElem? (i := 180) (by decide +kernel), List.mem_of_getElem? (i := 612) (by decide +kernel), List.mem_of_getElem? (i := 613) (by decide +kernel)⟩
theorem lw_p18 : lw_okq (⟨"PotHandlesModel", "finds", "(I)I"⟩, 22) := ⟨⟨by decide +kernel, by decide +kernel⟩, List.mem_of_getElem? (i := 688) (by decide +kernel), List.mem_of_getElem? (i := 769) (by decide +kernel), List.mem_of_getElem? (i := 770) (by decide +kernel)⟩
theorem lw_p19 : lw_okq (⟨"PotHandlesModel", "reads", "(III)V"⟩, 22) := ⟨⟨by decide +kernel, by decide +kernel⟩, List.mem_of_getElem? (i := 688) (by decide +kernel), List.mem_of_getElem? (i := 779) (by decide +kernel), List.mem_of_getElem? (i := 780) (by decide +kernel)⟩
theorem lw_p20 : lw_okq (⟨"PotHandlesModel", "either", "()V"⟩, 22) := ⟨⟨by decide +kernel, by decide +kernel⟩, List.mem_of_getElem? (i := 688) (by decide +kernel), List.mem_of_getElem? (i := 783) (by decide +kernel), List.mem_of_getElem? (i := 784) (by decide +kernel)⟩
theorem lw_p21 : lw_okq (⟨"PotHandlesModel", "both", "()V"⟩, 22) := ⟨⟨by decide +kernel, by decide +kernel⟩, List.mem_of_getElem? (i := 688) (by decide +kernel), List.mem_of_getElem? (i := 787) (by decide +kernel), List.mem_of_getElem? (i := 788) (by decide +kernel)⟩
theorem lw_p22 : lw_okq (⟨"PotHandlesModel", "compared", "()V"⟩, 22) := ⟨⟨by decide +kernel, by decide +kernel⟩, List.mem_of_getElem? (i := 688) (by decide +kernel), List.mem_of_getElem? (i := 791) (by decide +kernel), List.mem_of_getElem? (i := 792) (by decide +kernel)⟩
theorem lw_p23 : lw_okq (⟨"PotHandlesModel", "sum", "()V"⟩, 22) := ⟨⟨by decide +kernel, by decide +kernel⟩, List.mem_of_getElem? (i := 688) (by decide +kernel), List.mem_of_getElem? (i := 795) (by decide +kernel), List.mem_of_getElem? (i := 796) (by decide +kernel)⟩
theorem lw_p24 : lw_okq (⟨"PotHandlesModel", "product", "()V"⟩, 22) := ⟨⟨by decide +kernel, by decide +kernel⟩, List.mem_of_getElem? (i := 688) (by decide +kernel), List.mem_of_getElem? (i := 799) (by decide +kernel), List.mem_of_getElem? (i := 800) (by decide +kernel)⟩
theorem lw_p25 : lw_okq (⟨"PotHandlesModel", "unit", "()V"⟩, 22) := ⟨⟨by decide +kernel, by decide +kernel⟩, List.mem_of_getElem? (i := 688) (by decide +kernel), List.mem_of_getElem? (i := 803) (by decide +kernel), List.mem_of_getElem? (i := 804) (by decide +kernel)⟩
theorem lw_p26 : lw_okq (⟨"PotHandlesModel", "here", "()I"⟩, 22) := ⟨⟨by decide +kernel, by decide +kernel⟩, List.mem_of_getElem? (i := 688) (by decide +kernel), List.mem_of_getElem? (i := 807) (by decide +kernel), List.mem_of_getElem? (i := 808) (by decide +kernel)⟩
theorem lw_p27 : lw_okq (⟨"PotHandlesModel", "opens", "(I)V"⟩, 22) := ⟨⟨by decide +kernel, by decide +kernel⟩, List.mem_of_getElem? (i := 688) (by decide +kernel), List.mem_of_getElem? (i := 811) (by decide +kernel), List.mem_of_getElem? (i := 812) (by decide +kernel)⟩
theorem lw_p28 : lw_okq (⟨"PotHandlesModel", "wrong", "()V"⟩, 22) := ⟨⟨by decide +kernel, by decide +kernel⟩, List.mem_of_getElem? (i := 688) (by decide +kernel), List.mem_of_getElem? (i := 815) (by decide +kernel), List.mem_of_getElem? (i := 816) (by decide +kernel)⟩
theorem lw_p29 : lw_okq (⟨"PotHandlesModel", "lay", "(I)V"⟩, 22) := ⟨⟨by decide +kernel, by decide +kernel⟩, List.mem_of_getElem? (i := 688) (by decide +kernel), List.mem_of_getElem? (i := 819) (by decide +kernel), List.mem_of_getElem? (i := 820) (by decide +kernel)⟩
theorem lw_p30 : lw_okq (⟨"PotHandlesModel", "takes", "(I)Z"⟩, 22) := ⟨⟨by decide +kernel, by decide +kernel⟩, List.mem_of_getElem? (i := 688) (by decide +kernel), List.mem_of_getElem? (i := 823) (by decide +kernel), List.mem_of_getElem? (i := 824) (by decide +kernel)⟩
theorem lw_p31 : lw_okq (⟨"PotHandlesModel", "nameOf", "(I)I"⟩, 22) := ⟨⟨by decide +kernel, by decide +kernel⟩, List.mem_of_getElem? (i := 688) (by decide +kernel), List.mem_of_getElem? (i := 827) (by decide +kernel), List.mem_of_getElem? (i := 828) (by decide +kernel)⟩
def lw_privs_2 : List (MethodName × Nat) := [(⟨"PotHandles$Voices", "sayBody", "(III)I"⟩, 5), (⟨"PotHandles$Voices", "sayAbove", "(IIII)I"⟩, 5), (⟨"PotHandlesModel", "finds", "(I)I"⟩, 22), (⟨"PotHandlesModel", "reads", "(III)V"⟩, 22), (⟨"PotHandlesModel", "either", "()V"⟩, 22), (⟨"PotHandlesModel", "both", "()V"⟩, 22), (⟨"PotHandlesModel", "compared", "()V"⟩, 22), (⟨"PotHandlesModel", "sum", "()V"⟩, 22), (⟨"PotHandlesModel", "product", "()V"⟩, 22), (⟨"PotHandlesModel", "unit", "()V"⟩, 22), (⟨"PotHandlesModel", "here", "()I"⟩, 22), (⟨"PotHandlesModel", "opens", "(I)V"⟩, 22), (⟨"PotHandlesModel", "wrong", "()V"⟩, 22), (⟨"PotHandlesModel", "lay", "(I)V"⟩, 22), (⟨"PotHandlesModel", "takes", "(I)Z"⟩, 22), (⟨"PotHandlesModel", "nameOf", "(I)I"⟩, 22)]
theorem lw_r2 : ∀ q ∈ lw_privs_2, lw_okq q := List.forall_mem_cons.mpr ⟨lw_p16, List.forall_mem_cons.mpr ⟨lw_p17, List.forall_mem_cons.mpr ⟨lw_p18, List.forall_mem_cons.mpr ⟨lw_p19, List.forall_mem_cons.mpr ⟨lw_p20, List.forall_mem_cons.mpr ⟨lw_p21, List.forall_mem_cons.mpr ⟨lw_p22, List.forall_mem_cons.mpr ⟨lw_p23, List.forall_mem_cons.mpr ⟨lw_p24, List.forall_mem_cons.mpr ⟨lw_p25, List.forall_mem_cons.mpr ⟨lw_p26, List.forall_mem_cons.mpr ⟨lw_p27, List.forall_mem_cons.mpr ⟨lw_p28, List.forall_mem_cons.mpr ⟨lw_p29, List.forall_mem_cons.mpr ⟨lw_p30, List.forall_mem_cons.mpr ⟨lw_p31, fun _ h => absurd h List.not_mem_nil⟩⟩⟩⟩⟩⟩⟩⟩⟩⟩⟩⟩⟩⟩⟩⟩
theorem lw_p32 : lw_okq (⟨"PotHandlesModel", "textGives", "(IIII)I"⟩, 22) := ⟨⟨by decide +kernel, by decide +kernel⟩, List.mem_of_getElem? (i := 688) (by decide +kernel), List.mem_of_getElem? (i := 837) (by decide +kernel), List.mem_of_getElem? (i := 838) (by decide +kernel)⟩
theorem lw_p33 : lw_okq (⟨"PotHandlesModel", "worked", "(II)I"⟩, 22) := ⟨⟨by decide +kernel, by decide +kernel⟩, List.mem_of_getElem? (i := 688) (by decide +kernel), List.mem_of_getElem? (i := 841) (by decide +kernel), List.mem_of_getElem? (i := 842) (by decide +kernel)⟩
theorem lw_p34 : lw_okq (⟨"PotHandlesModel", "setOf", "(I)I"⟩, 22) := ⟨⟨by decide +kernel, by decide +kernel⟩, List.mem_of_getElem? (i := 688) (by decide +kernel), List.mem_of_getElem? (i := 865) (by decide +kernel), List.mem_of_getElem? (i := 866) (by decide +kernel)⟩
theorem lw_p35 : lw_okq (⟨"PotHandlesModel", "of", "(II)I"⟩, 22) := ⟨⟨by decide +kernel, by decide +kernel⟩, List.mem_of_getElem? (i := 688) (by decide +kernel), List.mem_of_getElem? (i := 869) (by decide +kernel), List.mem_of_getElem? (i := 870) (by decide +kernel)⟩
theorem lw_p36 : lw_okq (⟨"PotHandlesModel", "isBroken", "(I)Z"⟩, 22) := ⟨⟨by decide +kernel, by decide +kernel⟩, List.mem_of_getElem? (i := 688) (by decide +kernel), List.mem_of_getElem? (i := 873) (by decide +kernel), List.mem_of_getElem? (i := 874) (by decide +kernel)⟩
theorem lw_p37 : lw_okq (⟨"PotHandlesModel", "sets", "(III)V"⟩, 22) := ⟨⟨by decide +kernel, by decide +kernel⟩, List.mem_of_getElem? (i := 688) (by decide +kernel), List.mem_of_getElem? (i := 882) (by decide +kernel), List.mem_of_getElem? (i := 883) (by decide +kernel)⟩
theorem lw_p38 : lw_okq (⟨"PotHandlesModel", "isPot", "(I)Z"⟩, 22) := ⟨⟨by decide +kernel, by decide +kernel⟩, List.mem_of_getElem? (i := 688) (by decide +kernel), List.mem_of_getElem? (i := 890) (by decide +kernel), List.mem_of_getElem? (i := 891) (by decide +kernel)⟩
theorem lw_p39 : lw_okq (⟨"PotHandlesModel", "wants", "(I)I"⟩, 22) := ⟨⟨by decide +kernel, by decide +kernel⟩, List.mem_of_getElem? (i := 688) (by decide +kernel), List.mem_of_getElem? (i := 894) (by decide +kernel), List.mem_of_getElem? (i := 895) (by decide +kernel)⟩
theorem lw_p40 : lw_okq (⟨"PotHandlesModel", "bears", "(I)I"⟩, 22) := ⟨⟨by decide +kernel, by decide +kernel⟩, List.mem_of_getElem? (i := 688) (by decide +kernel), List.mem_of_getElem? (i := 898) (by decide +kernel), List.mem_of_getElem? (i := 899) (by decide +kernel)⟩
theorem lw_p41 : lw_okq (⟨"PotHandlesModel", "moves", "(II)V"⟩, 22) := ⟨⟨by decide +kernel, by decide +kernel⟩, List.mem_of_getElem? (i := 688) (by decide +kernel), List.mem_of_getElem? (i := 911) (by decide +kernel), List.mem_of_getElem? (i := 912) (by decide +kernel)⟩
theorem lw_p42 : lw_okq (⟨"PotHandlesModel", "yearsGo", "(I)V"⟩, 22) := ⟨⟨by decide +kernel, by decide +kernel⟩, List.mem_of_getElem? (i := 688) (by decide +kernel), List.mem_of_getElem? (i := 936) (by decide +kernel), List.mem_of_getElem? (i := 937) (by decide +kernel)⟩
theorem lw_p43 : lw_okq (⟨"PotHandlesModel", "potGoes", "(I)V"⟩, 22) := ⟨⟨by decide +kernel, by decide +kernel⟩, List.mem_of_getElem? (i := 688) (by decide +kernel), List.mem_of_getElem? (i := 940) (by decide +kernel), List.mem_of_getElem? (i := 941) (by decide +kernel)⟩
theorem lw_p44 : lw_okq (⟨"PotHandlesModel", "warms", "(I)I"⟩, 22) := ⟨⟨by decide +kernel, by decide +kernel⟩, List.mem_of_getElem? (i := 688) (by decide +kernel), List.mem_of_getElem? (i := 944) (by decide +kernel), List.mem_of_getElem? (i := 945) (by decide +kernel)⟩
theorem lw_p45 : lw_okq (⟨"PotHandlesModel", "manyIn", "(I)I"⟩, 22) := ⟨⟨by decide +kernel, by decide +kernel⟩, List.mem_of_getElem? (i := 688) (by decide +kernel), List.mem_of_getElem? (i := 948) (by decide +kernel), List.mem_of_getElem? (i := 949) (by decide +kernel)⟩
theorem lw_p46 : lw_okq (⟨"PotHandlesModel", "handles", "()I"⟩, 22) := ⟨⟨by decide +kernel, by decide +kernel⟩, List.mem_of_getElem? (i := 688) (by decide +kernel), List.mem_of_getElem? (i := 952) (by decide +kernel), List.mem_of_getElem? (i := 953) (by decide +kernel)⟩
theorem lw_p47 : lw_okq (⟨"PotHandlesModel", "drawn", "()I"⟩, 22) := ⟨⟨by decide +kernel, by decide +kernel⟩, List.mem_of_getElem? (i := 688) (by decide +kernel), List.mem_of_getElem? (i := 961) (by decide +kernel), List.mem_of_getElem? (i := 962) (by decide +kernel)⟩
def lw_privs_3 : List (MethodName × Nat) := [(⟨"PotHandlesModel", "textGives", "(IIII)I"⟩, 22), (⟨"PotHandlesModel", "worked", "(II)I"⟩, 22), (⟨"PotHandlesModel", "setOf", "(I)I"⟩, 22), (⟨"PotHandlesModel", "of", "(II)I"⟩, 22), (⟨"PotHandlesModel", "isBroken", "(I)Z"⟩, 22), (⟨"PotHandlesModel", "sets", "(III)V"⟩, 22), (⟨"PotHandlesModel", "isPot", "(I)Z"⟩, 22), (⟨"PotHandlesModel", "wants", "(I)I"⟩, 22), (⟨"PotHandlesModel", "bears", "(I)I"⟩, 22), (⟨"PotHandlesModel", "moves", "(II)V"⟩, 22), (⟨"PotHandlesModel", "yearsGo", "(I)V"⟩, 22), (⟨"PotHandlesModel", "potGoes", "(I)V"⟩, 22), (⟨"PotHandlesModel", "warms", "(I)I"⟩, 22), (⟨"PotHandlesModel", "manyIn", "(I)I"⟩, 22), (⟨"PotHandlesModel", "handles", "()I"⟩, 22), (⟨"PotHandlesModel", "drawn", "()I"⟩, 22)]
theorem lw_r3 : ∀ q ∈ lw_privs_3, lw_okq q := List.forall_mem_cons.mpr ⟨lw_p32, List.forall_mem_cons.mpr ⟨lw_p33, List.forall_mem_cons.mpr ⟨lw_p34, List.forall_mem_cons.mpr ⟨lw_p35, List.forall_mem_cons.mpr ⟨lw_p36, List.forall_mem_cons.mpr ⟨lw_p37, List.forall_mem_cons.mpr ⟨lw_p38, List.forall_mem_cons.mpr ⟨lw_p39, List.forall_mem_cons.mpr ⟨lw_p40, List.forall_mem_cons.mpr ⟨lw_p41, List.forall_mem_cons.mpr ⟨lw_p42, List.forall_mem_cons.mpr ⟨lw_p43, List.forall_mem_cons.mpr ⟨lw_p44, List.forall_mem_cons.mpr ⟨lw_p45, List.forall_mem_cons.mpr ⟨lw_p46, List.forall_mem_cons.mpr ⟨lw_p47, fun _ h => absurd h List.not_mem_nil⟩⟩⟩⟩⟩⟩⟩⟩⟩⟩⟩⟩⟩⟩⟩⟩
theorem lw_p48 : lw_okq (⟨"PotHandlesModel", "keepAside", "()V"⟩, 22) := ⟨⟨by decide +kernel, by decide +kernel⟩, List.mem_of_getElem? (i := 688) (by decide +kernel), List.mem_of_getElem? (i := 970) (by decide +kernel), List.mem_of_getElem? (i := 971) (by decide +kernel)⟩
theorem lw_p49 : lw_okq (⟨"PotHandlesModel", "putBack", "()V"⟩, 22) := ⟨⟨by decide +kernel, by decide +kernel⟩, List.mem_of_getElem? (i := 688) (by decide +kernel), List.mem_of_getElem? (i := 974) (by decide +kernel), List.mem_of_getElem? (i := 975) (by decide +kernel)⟩
theorem lw_p50 : lw_okq (⟨"PotHandlesModel", "holdsBy", "(II)I"⟩, 22) := ⟨⟨by decide +kernel, by decide +kernel⟩, List.mem_of_getElem? (i := 688) (by decide +kernel), List.mem_of_getElem? (i := 1042) (by decide +kernel), List.mem_of_getElem? (i := 1043) (by decide +kernel)⟩
theorem lw_p51 : lw_okq (⟨"PotHandlesModel", "ran", "(I)V"⟩, 22) := ⟨⟨by decide +kernel, by decide +kernel⟩, List.mem_of_getElem? (i := 688) (by decide +kernel), List.mem_of_getElem? (i := 1046) (by decide +kernel), List.mem_of_getElem? (i := 1047) (by decide +kernel)⟩
theorem lw_p52 : lw_okq (⟨"PotHandlesModel", "warmsBy", "(II)I"⟩, 22) := ⟨⟨by decide +kernel, by decide +kernel⟩, List.mem_of_getElem? (i := 688) (by decide +kernel), List.mem_of_getElem? (i := 1050) (by decide +kernel), List.mem_of_getElem? (i := 1051) (by decide +kernel)⟩
theorem lw_p53 : lw_okq (⟨"PotHandlesModel", "growsBy", "(II)I"⟩, 22) := ⟨⟨by decide +kernel, by decide +kernel⟩, List.mem_of_getElem? (i := 688) (by decide +kernel), List.mem_of_getElem? (i := 1054) (by decide +kernel), List.mem_of_getElem? (i := 1055) (by decide +kernel)⟩
theorem lw_p54 : lw_okq (⟨"PotHandlesModel", "tellsBy", "(II)I"⟩, 22) := ⟨⟨by decide +kernel, by decide +kernel⟩, List.mem_of_getElem? (i := 688) (by decide +kernel), List.mem_of_getElem? (i := 1058) (by decide +kernel), List.mem_of_getElem? (i := 1059) (by decide +kernel)⟩
def lw_privs_4 : List (MethodName × Nat) := [(⟨"PotHandlesModel", "keepAside", "()V"⟩, 22), (⟨"PotHandlesModel", "putBack", "()V"⟩, 22), (⟨"PotHandlesModel", "holdsBy", "(II)I"⟩, 22), (⟨"PotHandlesModel", "ran", "(I)V"⟩, 22), (⟨"PotHandlesModel", "warmsBy", "(II)I"⟩, 22), (⟨"PotHandlesModel", "growsBy", "(II)I"⟩, 22), (⟨"PotHandlesModel", "tellsBy", "(II)I"⟩, 22)]
theorem lw_r4 : ∀ q ∈ lw_privs_4, lw_okq q := List.forall_mem_cons.mpr ⟨lw_p48, List.forall_mem_cons.mpr ⟨lw_p49, List.forall_mem_cons.mpr ⟨lw_p50, List.forall_mem_cons.mpr ⟨lw_p51, List.forall_mem_cons.mpr ⟨lw_p52, List.forall_mem_cons.mpr ⟨lw_p53, List.forall_mem_cons.mpr ⟨lw_p54, fun _ h => absurd h List.not_mem_nil⟩⟩⟩⟩⟩⟩⟩
def lw_privs : List (MethodName × Nat) := lw_privs_1 ++ (lw_privs_2 ++ (lw_privs_3 ++ (lw_privs_4)))
def lw_tbl : List Cond := k2_sels lw_privs ++ tables_1
theorem lw_privs_ok : ∀ q ∈ lw_privs, lw_okq q := by
  show ∀ q ∈ lw_privs_1 ++ (lw_privs_2 ++ (lw_privs_3 ++ (lw_privs_4))), lw_okq q
  exact List.forall_mem_append.mpr ⟨lw_r1, List.forall_mem_append.mpr ⟨lw_r2, List.forall_mem_append.mpr ⟨lw_r3, lw_r4⟩⟩⟩
def RX0 : String := "PotHandles$Desk"
def TX0 : u_T := fun k => match k with
  | 0 => ("PotHandles$Desk", "tape", "[B", true)
  | 1 => ("PotHandles$Desk", "waiting", "[I", true)
  | 2 => ("PotHandles$Desk", "taped", "I", false)
  | 3 => ("PotHandles$Desk", "waits", "I", false)
  | _ => ("PotHandles$Desk", "z", "I", false)
def tyX0 : Nat → FieldType := fun k => match k with
  | 0 => .array .byte
  | 1 => .array .int
  | 2 => .int
  | 3 => .int
  | _ => .int
abbrev wsX00 : List Cond := u_ws RX0 TX0 5
theorem nmX0 : ∀ a, a < 5 → ∀ b, b < 5 → a ≠ b → (TX0 a).2.1 ≠ (TX0 b).2.1 := by decide +kernel
theorem tyX0_ok : ∀ k, k < 5 → parseFieldDescriptor (TX0 k).2.2.1 = some (tyX0 k) := by decide +kernel
abbrev cX0_init : ByteArray := prog_2_method_1_code
def yX0_init : MethodName := ⟨RX0, "<init>", "()V"⟩
abbrev cX0_copy : ByteArray := prog_2_method_2_code
def yX0_copy : MethodName := ⟨RX0, "copy", "(LPotHandles$Desk;)V"⟩
abbrev cX0_draw : ByteArray := prog_2_method_3_code
def yX0_draw : MethodName := ⟨RX0, "draw", "()I"⟩
def RX1 : String := "PotHandles$District"
def TX1 : u_T := fun k => match k with
  | 0 => ("PotHandles$District", "hands", "[I", true)
  | 1 => ("PotHandles$District", "care", "[I", true)
  | 2 => ("PotHandles$District", "row", "[LPotHandles$Pot;", true)
  | 3 => ("PotHandles$District", "warmth", "LPotHandles$Law;", true)
  | 4 => ("PotHandles$District", "breaking", "LPotHandles$Law;", true)
  | 5 => ("PotHandles$District", "pots", "I", false)
  | 6 => ("PotHandles$District", "year", "I", false)
  | _ => ("PotHandles$District", "broken", "I", false)
def tyX1 : Nat → FieldType := fun k => match k with
  | 0 => .array .int
  | 1 => .array .int
  | 2 => .array (.object "PotHandles$Pot")
  | 3 => .object "PotHandles$Law"
  | 4 => .object "PotHandles$Law"
  | 5 => .int
  | 6 => .int
  | _ => .int
abbrev wsX10 : List Cond := u_ws RX1 TX1 8
theorem nmX1 : ∀ a, a < 8 → ∀ b, b < 8 → a ≠ b → (TX1 a).2.1 ≠ (TX1 b).2.1 := by decide +kernel
theorem tyX1_ok : ∀ k, k < 8 → parseFieldDescriptor (TX1 k).2.2.1 = some (tyX1 k) := by decide +kernel
abbrev cX1_init : ByteArray := prog_3_method_1_code
def yX1_init : MethodName := ⟨RX1, "<init>", "()V"⟩
abbrev cX1_copy : ByteArray := prog_3_method_2_code
def yX1_copy : MethodName := ⟨RX1, "copy", "(LPotHandles$District;)V"⟩
abbrev cX1_has : ByteArray := prog_3_method_3_code
def yX1_has : MethodName := ⟨RX1, "has", "(I)Z"⟩
abbrev cX1_lawOf : ByteArray := prog_3_method_4_code
def yX1_lawOf : MethodName := ⟨RX1, "lawOf", "(I)LPotHandles$Law;"⟩
abbrev cX1_given : ByteArray := prog_3_method_5_code
def yX1_given : MethodName := ⟨RX1, "given", "(IIII)I"⟩
abbrev cX1_passYears : ByteArray := prog_3_method_6_code
def yX1_passYears : MethodName := ⟨RX1, "passYears", "(I)V"⟩
abbrev cX1_passYearOf : ByteArray := prog_3_method_7_code
def yX1_passYearOf : MethodName := ⟨RX1, "passYearOf", "(LPotHandles$Pot;I)V"⟩
abbrev cX1_potsIn : ByteArray := prog_3_method_8_code
def yX1_potsIn : MethodName := ⟨RX1, "potsIn", "(I)I"⟩
abbrev cX1_potsWithHandle : ByteArray := prog_3_method_9_code
def yX1_potsWithHandle : MethodName := ⟨RX1, "potsWithHandle", "()I"⟩
abbrev cX1_falsePots : ByteArray := prog_3_method_10_code
def yX1_falsePots : MethodName := ⟨RX1, "falsePots", "()I"⟩
abbrev cX1_allPots : ByteArray := prog_3_method_11_code
def yX1_allPots : MethodName := ⟨RX1, "allPots", "()I"⟩
abbrev cX1_allHandles : ByteArray := prog_3_method_12_code
def yX1_allHandles : MethodName := ⟨RX1, "allHandles", "()I"⟩
abbrev cX1_handlesIn : ByteArray := prog_3_method_13_code
def yX1_handlesIn : MethodName := ⟨RX1, "handlesIn", "(I)I"⟩
def RX2 : String := "PotHandles$Law"
def TX2 : u_T := fun k => match k with
  | 0 => ("PotHandles$Law", "signs", "[I", true)
  | 1 => ("PotHandles$Law", "stack", "[I", true)
  | _ => ("PotHandles$Law", "length", "I", false)
def tyX2 : Nat → FieldType := fun k => match k with
  | 0 => .array .int
  | 1 => .array .int
  | _ => .int
abbrev wsX20 : List Cond := u_ws RX2 TX2 3
theorem nmX2 : ∀ a, a < 3 → ∀ b, b < 3 → a ≠ b → (TX2 a).2.1 ≠ (TX2 b).2.1 := by decide +kernel
theorem tyX2_ok : ∀ k, k < 3 → parseFieldDescriptor (TX2 k).2.2.1 = some (tyX2 k) := by decide +kernel
abbrev cX2_init : ByteArray := prog_4_method_1_code
def yX2_init : MethodName := ⟨RX2, "<init>", "()V"⟩
abbrev cX2_stands : ByteArray := prog_4_method_2_code
def yX2_stands : MethodName := ⟨RX2, "stands", "()Z"⟩
abbrev cX2_clear : ByteArray := prog_4_method_3_code
def yX2_clear : MethodName := ⟨RX2, "clear", "()V"⟩
abbrev cX2_add : ByteArray := prog_4_method_4_code
def yX2_add : MethodName := ⟨RX2, "add", "(I)V"⟩
abbrev cX2_copy : ByteArray := prog_4_method_5_code
def yX2_copy : MethodName := ⟨RX2, "copy", "(LPotHandles$Law;)V"⟩
abbrev cX2_workedOut : ByteArray := prog_4_method_6_code
def yX2_workedOut : MethodName := ⟨RX2, "workedOut", "(III)I"⟩
abbrev cX2_namedOrNumber : ByteArray := prog_4_method_7_code
def yX2_namedOrNumber : MethodName := ⟨RX2, "namedOrNumber", "(IIII)I"⟩
abbrev cX2_joined : ByteArray := prog_4_method_8_code
def yX2_joined : MethodName := ⟨RX2, "joined", "(III)I"⟩
def RX3 : String := "PotHandles$Pot"
def TX3 : u_T := fun k => match k with
  | 0 => ("PotHandles$Pot", "kind", "I", false)
  | 1 => ("PotHandles$Pot", "m", "I", false)
  | 2 => ("PotHandles$Pot", "home", "I", false)
  | 3 => ("PotHandles$Pot", "used", "I", false)
  | 4 => ("PotHandles$Pot", "liked", "I", false)
  | 5 => ("PotHandles$Pot", "years", "I", false)
  | 6 => ("PotHandles$Pot", "handles", "I", false)
  | _ => ("PotHandles$Pot", "isFalse", "Z", false)
def tyX3 : Nat → FieldType := fun k => match k with
  | 0 => .int
  | 1 => .int
  | 2 => .int
  | 3 => .int
  | 4 => .int
  | 5 => .int
  | 6 => .int
  | _ => .boolean
abbrev wsX30 : List Cond := u_ws RX3 TX3 8
theorem nmX3 : ∀ a, a < 8 → ∀ b, b < 8 → a ≠ b → (TX3 a).2.1 ≠ (TX3 b).2.1 := by decide +kernel
theorem tyX3_ok : ∀ k, k < 8 → parseFieldDescriptor (TX3 k).2.2.1 = some (tyX3 k) := by decide +kernel
abbrev cX3_init : ByteArray := prog_5_method_1_code
def yX3_init : MethodName := ⟨RX3, "<init>", "()V"⟩
abbrev cX3_begin : ByteArray := prog_5_method_2_code
def yX3_begin : MethodName := ⟨RX3, "begin", "(III)V"⟩
abbrev cX3_copy : ByteArray := prog_5_method_3_code
def yX3_copy : MethodName := ⟨RX3, "copy", "(LPotHandles$Pot;)V"⟩
abbrev cX3_warmedBy : ByteArray := prog_5_method_4_code
def yX3_warmedBy : MethodName := ⟨RX3, "warmedBy", "(I)I"⟩
abbrev cX3_wants : ByteArray := prog_5_method_5_code
def yX3_wants : MethodName := ⟨RX3, "wants", "()I"⟩
abbrev cX3_bears : ByteArray := prog_5_method_6_code
def yX3_bears : MethodName := ⟨RX3, "bears", "()I"⟩
abbrev cX3_liveYear : ByteArray := prog_5_method_7_code
def yX3_liveYear : MethodName := ⟨RX3, "liveYear", "(I)V"⟩
abbrev cX3_goTo : ByteArray := prog_5_method_8_code
def yX3_goTo : MethodName := ⟨RX3, "goTo", "(I)V"⟩
abbrev cX3_canTakeFalseHandle : ByteArray := prog_5_method_9_code
def yX3_canTakeFalseHandle : MethodName := ⟨RX3, "canTakeFalseHandle", "()Z"⟩
abbrev cX3_takeFalseHandle : ByteArray := prog_5_method_10_code
def yX3_takeFalseHandle : MethodName := ⟨RX3, "takeFalseHandle", "()V"⟩
def RX4 : String := "PotHandles$Reader"
def TX4 : u_T := fun k => match k with
  | 0 => ("PotHandles$Reader", "law", "LPotHandles$Law;", true)
  | 1 => ("PotHandles$Reader", "bytes", "[B", true)
  | 2 => ("PotHandles$Reader", "many", "I", false)
  | 3 => ("PotHandles$Reader", "use", "I", false)
  | _ => ("PotHandles$Reader", "at", "I", false)
def tyX4 : Nat → FieldType := fun k => match k with
  | 0 => .object "PotHandles$Law"
  | 1 => .array .byte
  | 2 => .int
  | 3 => .int
  | _ => .int
abbrev wsX40 : List Cond := u_ws RX4 TX4 5
theorem nmX4 : ∀ a, a < 5 → ∀ b, b < 5 → a ≠ b → (TX4 a).2.1 ≠ (TX4 b).2.1 := by decide +kernel
theorem tyX4_ok : ∀ k, k < 5 → parseFieldDescriptor (TX4 k).2.2.1 = some (tyX4 k) := by decide +kernel
abbrev cX4_init : ByteArray := prog_6_method_1_code
def yX4_init : MethodName := ⟨RX4, "<init>", "()V"⟩
abbrev cX4_readTape : ByteArray := prog_6_method_2_code
def yX4_readTape : MethodName := ⟨RX4, "readTape", "([BII)Z"⟩
abbrev cX4_next : ByteArray := prog_6_method_3_code
def yX4_next : MethodName := ⟨RX4, "next", "()I"⟩
abbrev cX4_readLevel : ByteArray := prog_6_method_4_code
def yX4_readLevel : MethodName := ⟨RX4, "readLevel", "(II)Z"⟩
abbrev cX4_levelOf : ByteArray := prog_6_method_5_code
def yX4_levelOf : MethodName := ⟨RX4, "levelOf", "(I)I"⟩
abbrev cX4_readLast : ByteArray := prog_6_method_6_code
def yX4_readLast : MethodName := ⟨RX4, "readLast", "(I)Z"⟩
abbrev cX4_readNumber : ByteArray := prog_6_method_7_code
def yX4_readNumber : MethodName := ⟨RX4, "readNumber", "()V"⟩
abbrev cX4_isDigit : ByteArray := prog_6_method_8_code
def yX4_isDigit : MethodName := ⟨RX4, "isDigit", "(I)Z"⟩
abbrev cX4_nameOf : ByteArray := prog_6_method_9_code
def yX4_nameOf : MethodName := ⟨RX4, "nameOf", "(I)I"⟩
def RX5 : String := "PotHandles$Sheet"
def TX5 : u_T := fun k => match k with
  | 0 => ("PotHandles$Sheet", "row", "[I", true)
  | 1 => ("PotHandles$Sheet", "bits", "I", false)
  | _ => ("PotHandles$Sheet", "count", "I", false)
def tyX5 : Nat → FieldType := fun k => match k with
  | 0 => .array .int
  | 1 => .int
  | _ => .int
abbrev wsX50 : List Cond := u_ws RX5 TX5 3
theorem nmX5 : ∀ a, a < 3 → ∀ b, b < 3 → a ≠ b → (TX5 a).2.1 ≠ (TX5 b).2.1 := by decide +kernel
theorem tyX5_ok : ∀ k, k < 3 → parseFieldDescriptor (TX5 k).2.2.1 = some (tyX5 k) := by decide +kernel
abbrev cX5_init : ByteArray := prog_7_method_1_code
def yX5_init : MethodName := ⟨RX5, "<init>", "()V"⟩
abbrev cX5_isMissing : ByteArray := prog_7_method_2_code
def yX5_isMissing : MethodName := ⟨RX5, "isMissing", "()Z"⟩
abbrev cX5_lay : ByteArray := prog_7_method_3_code
def yX5_lay : MethodName := ⟨RX5, "lay", "(II)V"⟩
abbrev cX5_lowestBits : ByteArray := prog_7_method_4_code
def yX5_lowestBits : MethodName := ⟨RX5, "lowestBits", "(I)I"⟩
abbrev cX5_holds : ByteArray := prog_7_method_5_code
def yX5_holds : MethodName := ⟨RX5, "holds", "(II)Z"⟩
def RX6 : String := "PotHandles$Voices"
def TX6 : u_T := fun k => match k with
  | 0 => ("PotHandles$Voices", "trace", "[I", true)
  | 1 => ("PotHandles$Voices", "traced", "I", false)
  | 2 => ("PotHandles$Voices", "kind", "I", false)
  | 3 => ("PotHandles$Voices", "n", "I", false)
  | _ => ("PotHandles$Voices", "m", "I", false)
def tyX6 : Nat → FieldType := fun k => match k with
  | 0 => .array .int
  | 1 => .int
  | 2 => .int
  | 3 => .int
  | _ => .int
abbrev wsX60 : List Cond := u_ws RX6 TX6 5
theorem nmX6 : ∀ a, a < 5 → ∀ b, b < 5 → a ≠ b → (TX6 a).2.1 ≠ (TX6 b).2.1 := by decide +kernel
theorem tyX6_ok : ∀ k, k < 5 → parseFieldDescriptor (TX6 k).2.2.1 = some (tyX6 k) := by decide +kernel
abbrev cX6_init : ByteArray := prog_8_method_1_code
def yX6_init : MethodName := ⟨RX6, "<init>", "()V"⟩
abbrev cX6_speak : ByteArray := prog_8_method_2_code
def yX6_speak : MethodName := ⟨RX6, "speak", "(LPotHandles$Pot;III)I"⟩
abbrev cX6_say : ByteArray := prog_8_method_3_code
def yX6_say : MethodName := ⟨RX6, "say", "(IIII)I"⟩
abbrev cX6_begin : ByteArray := prog_8_method_4_code
def yX6_begin : MethodName := ⟨RX6, "begin", "(I)V"⟩
abbrev cX6_bodyOf : ByteArray := prog_8_method_5_code
def yX6_bodyOf : MethodName := ⟨RX6, "bodyOf", "(II)I"⟩
abbrev cX6_sayBody : ByteArray := prog_8_method_6_code
def yX6_sayBody : MethodName := ⟨RX6, "sayBody", "(III)I"⟩
abbrev cX6_sayAbove : ByteArray := prog_8_method_7_code
def yX6_sayAbove : MethodName := ⟨RX6, "sayAbove", "(IIII)I"⟩
def RX7 : String := "PotHandles"
def TX7 : u_T := fun k => match k with
  | 0 => ("PotHandles", "now", "LPotHandles$District;", true)
  | 1 => ("PotHandles", "thought", "LPotHandles$District;", true)
  | 2 => ("PotHandles", "kept", "LPotHandles$District;", true)
  | 3 => ("PotHandles", "desk", "LPotHandles$Desk;", true)
  | 4 => ("PotHandles", "keptDesk", "LPotHandles$Desk;", true)
  | 5 => ("PotHandles", "reader", "LPotHandles$Reader;", true)
  | 6 => ("PotHandles", "voices", "LPotHandles$Voices;", true)
  | 7 => ("PotHandles", "sheets", "[LPotHandles$Sheet;", true)
  | 8 => ("PotHandles", "errors", "[I", true)
  | _ => ("PotHandles", "images", "I", false)
def tyX7 : Nat → FieldType := fun k => match k with
  | 0 => .object "PotHandles$District"
  | 1 => .object "PotHandles$District"
  | 2 => .object "PotHandles$District"
  | 3 => .object "PotHandles$Desk"
  | 4 => .object "PotHandles$Desk"
  | 5 => .object "PotHandles$Reader"
  | 6 => .object "PotHandles$Voices"
  | 7 => .array (.object "PotHandles$Sheet")
  | 8 => .array .int
  | _ => .int
abbrev wsX70 : List Cond := u_ws RX7 TX7 10
theorem nmX7 : ∀ a, a < 10 → ∀ b, b < 10 → a ≠ b → (TX7 a).2.1 ≠ (TX7 b).2.1 := by decide +kernel
theorem tyX7_ok : ∀ k, k < 10 → parseFieldDescriptor (TX7 k).2.2.1 = some (tyX7 k) := by decide +kernel
abbrev cX7_init : ByteArray := prog_1_method_1_code
def yX7_init : MethodName := ⟨RX7, "<init>", "()V"⟩
abbrev cX7_house : ByteArray := prog_1_method_2_code
def yX7_house : MethodName := ⟨RX7, "house", "(III)I"⟩
abbrev cX7_ofHouse : ByteArray := prog_1_method_3_code
def yX7_ofHouse : MethodName := ⟨RX7, "ofHouse", "(II)I"⟩
abbrev cX7_pot : ByteArray := prog_1_method_4_code
def yX7_pot : MethodName := ⟨RX7, "pot", "(III)I"⟩
abbrev cX7_ofPot : ByteArray := prog_1_method_5_code
def yX7_ofPot : MethodName := ⟨RX7, "ofPot", "(II)I"⟩
abbrev cX7_change : ByteArray := prog_1_method_6_code
def yX7_change : MethodName := ⟨RX7, "change", "(III)I"⟩
abbrev cX7_shift : ByteArray := prog_1_method_7_code
def yX7_shift : MethodName := ⟨RX7, "shift", "(II)I"⟩
abbrev cX7_stick : ByteArray := prog_1_method_8_code
def yX7_stick : MethodName := ⟨RX7, "stick", "(I)I"⟩
abbrev cX7_become : ByteArray := prog_1_method_9_code
def yX7_become : MethodName := ⟨RX7, "become", "(II)I"⟩
abbrev cX7_as : ByteArray := prog_1_method_10_code
def yX7_as : MethodName := ⟨RX7, "as", "(II)I"⟩
abbrev cX7_feed : ByteArray := prog_1_method_11_code
def yX7_feed : MethodName := ⟨RX7, "feed", "(JI)I"⟩
abbrev cX7_text : ByteArray := prog_1_method_12_code
def yX7_text : MethodName := ⟨RX7, "text", "(I)I"⟩
abbrev cX7_law : ByteArray := prog_1_method_13_code
def yX7_law : MethodName := ⟨RX7, "law", "(IIII)I"⟩
abbrev cX7_years : ByteArray := prog_1_method_14_code
def yX7_years : MethodName := ⟨RX7, "years", "(I)I"⟩
abbrev cX7_loose : ByteArray := prog_1_method_15_code
def yX7_loose : MethodName := ⟨RX7, "loose", "(I)I"⟩
abbrev cX7_then : ByteArray := prog_1_method_16_code
def yX7_then : MethodName := ⟨RX7, "then", "(III)I"⟩
abbrev cX7_when : ByteArray := prog_1_method_17_code
def yX7_when : MethodName := ⟨RX7, "when", "(I)I"⟩
abbrev cX7_shelf : ByteArray := prog_1_method_18_code
def yX7_shelf : MethodName := ⟨RX7, "shelf", "(II)I"⟩
abbrev cX7_place : ByteArray := prog_1_method_19_code
def yX7_place : MethodName := ⟨RX7, "place", "(III)I"⟩
abbrev cX7_use : ByteArray := prog_1_method_20_code
def yX7_use : MethodName := ⟨RX7, "use", "(II)I"⟩
abbrev cX7_needed : ByteArray := prog_1_method_21_code
def yX7_needed : MethodName := ⟨RX7, "needed", "(II)I"⟩
abbrev cX7_whose : ByteArray := prog_1_method_22_code
def yX7_whose : MethodName := ⟨RX7, "whose", "(III)I"⟩
abbrev cX7_carry : ByteArray := prog_1_method_23_code
def yX7_carry : MethodName := ⟨RX7, "carry", "(I)I"⟩
abbrev cX7_richest : ByteArray := prog_1_method_24_code
def yX7_richest : MethodName := ⟨RX7, "richest", "(II)I"⟩
abbrev cX7_breaks : ByteArray := prog_1_method_25_code
def yX7_breaks : MethodName := ⟨RX7, "breaks", "(I)I"⟩
abbrev cX7_dealer : ByteArray := prog_1_method_26_code
def yX7_dealer : MethodName := ⟨RX7, "dealer", "(I)I"⟩
abbrev cX7_odds : ByteArray := prog_1_method_27_code
def yX7_odds : MethodName := ⟨RX7, "odds", "(III)I"⟩
abbrev cX7_seed : ByteArray := prog_1_method_28_code
def yX7_seed : MethodName := ⟨RX7, "seed", "(I)I"⟩
abbrev cX7_voice : ByteArray := prog_1_method_29_code
def yX7_voice : MethodName := ⟨RX7, "voice", "(III)I"⟩
abbrev cX7_trace : ByteArray := prog_1_method_30_code
def yX7_trace : MethodName := ⟨RX7, "trace", "(I)I"⟩
abbrev cX7_sheet : ByteArray := prog_1_method_31_code
def yX7_sheet : MethodName := ⟨RX7, "sheet", "(III)I"⟩
abbrev cX7_put : ByteArray := prog_1_method_32_code
def yX7_put : MethodName := ⟨RX7, "put", "(III)I"⟩
abbrev cX7_move : ByteArray := prog_1_method_33_code
def yX7_move : MethodName := ⟨RX7, "move", "(IIIII)I"⟩
abbrev cX7_uses : ByteArray := prog_1_method_34_code
def yX7_uses : MethodName := ⟨RX7, "uses", "(I)I"⟩
abbrev cX7_judge : ByteArray := prog_1_method_35_code
def yX7_judge : MethodName := ⟨RX7, "judge", "(I)I"⟩
abbrev cX7_image : ByteArray := prog_1_method_36_code
def yX7_image : MethodName := ⟨RX7, "image", "()I"⟩
abbrev cX7_restore : ByteArray := prog_1_method_37_code
def yX7_restore : MethodName := ⟨RX7, "restore", "()I"⟩
abbrev cX7_tell : ByteArray := prog_1_method_38_code
def yX7_tell : MethodName := ⟨RX7, "tell", "(I)I"⟩
abbrev cX7_check : ByteArray := prog_1_method_39_code
def yX7_check : MethodName := ⟨RX7, "check", "()I"⟩
abbrev cX7_count : ByteArray := prog_1_method_40_code
def yX7_count : MethodName := ⟨RX7, "count", "(I)I"⟩
abbrev cX7_told : ByteArray := prog_1_method_41_code
def yX7_told : MethodName := ⟨RX7, "told", "(I)I"⟩
abbrev cX7_fail : ByteArray := prog_1_method_42_code
def yX7_fail : MethodName := ⟨RX7, "fail", "(I)I"⟩
abbrev cX7_isWithin : ByteArray := prog_1_method_43_code
def yX7_isWithin : MethodName := ⟨RX7, "isWithin", "(II)Z"⟩
abbrev cX7_isHouse : ByteArray := prog_1_method_44_code
def yX7_isHouse : MethodName := ⟨RX7, "isHouse", "(I)Z"⟩
abbrev cX7_isSheet : ByteArray := prog_1_method_45_code
def yX7_isSheet : MethodName := ⟨RX7, "isSheet", "(I)Z"⟩
abbrev cX7_isKindWithNumber : ByteArray := prog_1_method_46_code
def yX7_isKindWithNumber : MethodName := ⟨RX7, "isKindWithNumber", "(I)Z"⟩
abbrev cX7_kindAbove : ByteArray := prog_1_method_47_code
def yX7_kindAbove : MethodName := ⟨RX7, "kindAbove", "(I)I"⟩
abbrev cX7_isUnder : ByteArray := prog_1_method_48_code
def yX7_isUnder : MethodName := ⟨RX7, "isUnder", "(II)Z"⟩
abbrev cX7_asNow : ByteArray := prog_1_method_49_code
def yX7_asNow : MethodName := ⟨RX7, "asNow", "()LPotHandles$District;"⟩
abbrev cX7_behind : ByteArray := prog_1_method_50_code
def yX7_behind : MethodName := ⟨RX7, "behind", "(I)LPotHandles$District;"⟩
abbrev cX7_whenMoved : ByteArray := prog_1_method_51_code
def yX7_whenMoved : MethodName := ⟨RX7, "whenMoved", "(III)LPotHandles$Pot;"⟩
abbrev cX7_whenBeing : ByteArray := prog_1_method_52_code
def yX7_whenBeing : MethodName := ⟨RX7, "whenBeing", "(III)LPotHandles$Pot;"⟩
abbrev cX7_haveHandlesIfCaredFor : ByteArray := prog_1_method_53_code
def yX7_haveHandlesIfCaredFor : MethodName := ⟨RX7, "haveHandlesIfCaredFor", "(III)Z"⟩
abbrev cX7_isLikedAsTold : ByteArray := prog_1_method_54_code
def yX7_isLikedAsTold : MethodName := ⟨RX7, "isLikedAsTold", "(LPotHandles$Sheet;II)Z"⟩
abbrev cX7_handlesIfStuck : ByteArray := prog_1_method_55_code
def yX7_handlesIfStuck : MethodName := ⟨RX7, "handlesIfStuck", "(II)I"⟩
def RX8 : String := "PotHandlesModel"
def TX8 : u_T := fun k => match k with
  | 0 => ("PotHandlesModel", "d", "[I", true)
  | 1 => ("PotHandlesModel", "kept", "[I", true)
  | 2 => ("PotHandlesModel", "aside", "[I", true)
  | 3 => ("PotHandlesModel", "images", "I", false)
  | 4 => ("PotHandlesModel", "found", "[I", true)
  | 5 => ("PotHandlesModel", "base", "I", false)
  | 6 => ("PotHandlesModel", "at", "I", false)
  | 7 => ("PotHandlesModel", "size", "I", false)
  | 8 => ("PotHandlesModel", "fault", "I", false)
  | 9 => ("PotHandlesModel", "opened", "I", false)
  | 10 => ("PotHandlesModel", "isBreaks", "Z", false)
  | 11 => ("PotHandlesModel", "names", "[I", true)
  | 12 => ("PotHandlesModel", "code", "[I", true)
  | 13 => ("PotHandlesModel", "coded", "I", false)
  | 14 => ("PotHandlesModel", "pile", "[I", true)
  | 15 => ("PotHandlesModel", "traced", "[I", true)
  | 16 => ("PotHandlesModel", "traceMany", "I", false)
  | 17 => ("PotHandlesModel", "who", "I", false)
  | 18 => ("PotHandlesModel", "bitsOf", "[I", true)
  | 19 => ("PotHandlesModel", "sizeOf", "[I", true)
  | 20 => ("PotHandlesModel", "number", "[I", true)
  | _ => ("PotHandlesModel", "lifted", "[I", true)
def tyX8 : Nat → FieldType := fun k => match k with
  | 0 => .array .int
  | 1 => .array .int
  | 2 => .array .int
  | 3 => .int
  | 4 => .array .int
  | 5 => .int
  | 6 => .int
  | 7 => .int
  | 8 => .int
  | 9 => .int
  | 10 => .boolean
  | 11 => .array .int
  | 12 => .array .int
  | 13 => .int
  | 14 => .array .int
  | 15 => .array .int
  | 16 => .int
  | 17 => .int
  | 18 => .array .int
  | 19 => .array .int
  | 20 => .array .int
  | _ => .array .int
abbrev wsX80 : List Cond := u_ws RX8 TX8 22
theorem nmX8 : ∀ a, a < 22 → ∀ b, b < 22 → a ≠ b → (TX8 a).2.1 ≠ (TX8 b).2.1 := by decide +kernel
theorem tyX8_ok : ∀ k, k < 22 → parseFieldDescriptor (TX8 k).2.2.1 = some (tyX8 k) := by decide +kernel
abbrev cX8_init : ByteArray := prog_10_method_1_code
def yX8_init : MethodName := ⟨RX8, "<init>", "()V"⟩
abbrev cX8_finds : ByteArray := prog_10_method_3_code
def yX8_finds : MethodName := ⟨RX8, "finds", "(I)I"⟩
abbrev cX8_in : ByteArray := prog_10_method_4_code
def yX8_in : MethodName := ⟨RX8, "in", "(JJJ)Z"⟩
abbrev cX8_held : ByteArray := prog_10_method_5_code
def yX8_held : MethodName := ⟨RX8, "held", "(III)I"⟩
abbrev cX8_isPot : ByteArray := prog_10_method_6_code
def yX8_isPot : MethodName := ⟨RX8, "isPot", "(I)Z"⟩
abbrev cX8_isHouse : ByteArray := prog_10_method_7_code
def yX8_isHouse : MethodName := ⟨RX8, "isHouse", "(I)Z"⟩
abbrev cX8_of : ByteArray := prog_10_method_8_code
def yX8_of : MethodName := ⟨RX8, "of", "(II)I"⟩
abbrev cX8_sets : ByteArray := prog_10_method_9_code
def yX8_sets : MethodName := ⟨RX8, "sets", "(III)V"⟩
abbrev cX8_above : ByteArray := prog_10_method_10_code
def yX8_above : MethodName := ⟨RX8, "above", "(I)I"⟩
abbrev cX8_isBroken : ByteArray := prog_10_method_11_code
def yX8_isBroken : MethodName := ⟨RX8, "isBroken", "(I)Z"⟩
abbrev cX8_keepAside : ByteArray := prog_10_method_12_code
def yX8_keepAside : MethodName := ⟨RX8, "keepAside", "()V"⟩
abbrev cX8_putBack : ByteArray := prog_10_method_13_code
def yX8_putBack : MethodName := ⟨RX8, "putBack", "()V"⟩
abbrev cX8_here : ByteArray := prog_10_method_14_code
def yX8_here : MethodName := ⟨RX8, "here", "()I"⟩
abbrev cX8_wrong : ByteArray := prog_10_method_15_code
def yX8_wrong : MethodName := ⟨RX8, "wrong", "()V"⟩
abbrev cX8_takes : ByteArray := prog_10_method_16_code
def yX8_takes : MethodName := ⟨RX8, "takes", "(I)Z"⟩
abbrev cX8_nameOf : ByteArray := prog_10_method_17_code
def yX8_nameOf : MethodName := ⟨RX8, "nameOf", "(I)I"⟩
abbrev cX8_lay : ByteArray := prog_10_method_18_code
def yX8_lay : MethodName := ⟨RX8, "lay", "(I)V"⟩
abbrev cX8_either : ByteArray := prog_10_method_19_code
def yX8_either : MethodName := ⟨RX8, "either", "()V"⟩
abbrev cX8_both : ByteArray := prog_10_method_20_code
def yX8_both : MethodName := ⟨RX8, "both", "()V"⟩
abbrev cX8_compared : ByteArray := prog_10_method_21_code
def yX8_compared : MethodName := ⟨RX8, "compared", "()V"⟩
abbrev cX8_sum : ByteArray := prog_10_method_22_code
def yX8_sum : MethodName := ⟨RX8, "sum", "()V"⟩
abbrev cX8_product : ByteArray := prog_10_method_23_code
def yX8_product : MethodName := ⟨RX8, "product", "()V"⟩
abbrev cX8_opens : ByteArray := prog_10_method_24_code
def yX8_opens : MethodName := ⟨RX8, "opens", "(I)V"⟩
abbrev cX8_unit : ByteArray := prog_10_method_25_code
def yX8_unit : MethodName := ⟨RX8, "unit", "()V"⟩
abbrev cX8_reads : ByteArray := prog_10_method_26_code
def yX8_reads : MethodName := ⟨RX8, "reads", "(III)V"⟩
abbrev cX8_done : ByteArray := prog_10_method_27_code
def yX8_done : MethodName := ⟨RX8, "done", "(III)I"⟩
abbrev cX8_worked : ByteArray := prog_10_method_28_code
def yX8_worked : MethodName := ⟨RX8, "worked", "(II)I"⟩
abbrev cX8_feed : ByteArray := prog_10_method_29_code
def yX8_feed : MethodName := ⟨RX8, "feed", "(JI)I"⟩
abbrev cX8_text : ByteArray := prog_10_method_30_code
def yX8_text : MethodName := ⟨RX8, "text", "(I)I"⟩
abbrev cX8_textGives : ByteArray := prog_10_method_31_code
def yX8_textGives : MethodName := ⟨RX8, "textGives", "(IIII)I"⟩
abbrev cX8_law : ByteArray := prog_10_method_32_code
def yX8_law : MethodName := ⟨RX8, "law", "(IIII)I"⟩
abbrev cX8_warms : ByteArray := prog_10_method_33_code
def yX8_warms : MethodName := ⟨RX8, "warms", "(I)I"⟩
abbrev cX8_wants : ByteArray := prog_10_method_34_code
def yX8_wants : MethodName := ⟨RX8, "wants", "(I)I"⟩
abbrev cX8_bears : ByteArray := prog_10_method_35_code
def yX8_bears : MethodName := ⟨RX8, "bears", "(I)I"⟩
abbrev cX8_manyIn : ByteArray := prog_10_method_36_code
def yX8_manyIn : MethodName := ⟨RX8, "manyIn", "(I)I"⟩
abbrev cX8_handles : ByteArray := prog_10_method_37_code
def yX8_handles : MethodName := ⟨RX8, "handles", "()I"⟩
abbrev cX8_moves : ByteArray := prog_10_method_38_code
def yX8_moves : MethodName := ⟨RX8, "moves", "(II)V"⟩
abbrev cX8_potGoes : ByteArray := prog_10_method_39_code
def yX8_potGoes : MethodName := ⟨RX8, "potGoes", "(I)V"⟩
abbrev cX8_yearsGo : ByteArray := prog_10_method_40_code
def yX8_yearsGo : MethodName := ⟨RX8, "yearsGo", "(I)V"⟩
abbrev cX8_setOf : ByteArray := prog_10_method_41_code
def yX8_setOf : MethodName := ⟨RX8, "setOf", "(I)I"⟩
abbrev cX8_bits : ByteArray := prog_10_method_42_code
def yX8_bits : MethodName := ⟨RX8, "bits", "(I)I"⟩
abbrev cX8_house : ByteArray := prog_10_method_43_code
def yX8_house : MethodName := ⟨RX8, "house", "(III)I"⟩
abbrev cX8_ofHouse : ByteArray := prog_10_method_44_code
def yX8_ofHouse : MethodName := ⟨RX8, "ofHouse", "(II)I"⟩
abbrev cX8_pot : ByteArray := prog_10_method_45_code
def yX8_pot : MethodName := ⟨RX8, "pot", "(III)I"⟩
abbrev cX8_ofPot : ByteArray := prog_10_method_46_code
def yX8_ofPot : MethodName := ⟨RX8, "ofPot", "(II)I"⟩
abbrev cX8_change : ByteArray := prog_10_method_47_code
def yX8_change : MethodName := ⟨RX8, "change", "(III)I"⟩
abbrev cX8_shift : ByteArray := prog_10_method_48_code
def yX8_shift : MethodName := ⟨RX8, "shift", "(II)I"⟩
abbrev cX8_stick : ByteArray := prog_10_method_49_code
def yX8_stick : MethodName := ⟨RX8, "stick", "(I)I"⟩
abbrev cX8_become : ByteArray := prog_10_method_50_code
def yX8_become : MethodName := ⟨RX8, "become", "(II)I"⟩
abbrev cX8_as : ByteArray := prog_10_method_51_code
def yX8_as : MethodName := ⟨RX8, "as", "(II)I"⟩
abbrev cX8_years : ByteArray := prog_10_method_52_code
def yX8_years : MethodName := ⟨RX8, "years", "(I)I"⟩
abbrev cX8_drawn : ByteArray := prog_10_method_53_code
def yX8_drawn : MethodName := ⟨RX8, "drawn", "()I"⟩
abbrev cX8_loose : ByteArray := prog_10_method_54_code
def yX8_loose : MethodName := ⟨RX8, "loose", "(I)I"⟩
abbrev cX8_then : ByteArray := prog_10_method_55_code
def yX8_then : MethodName := ⟨RX8, "then", "(III)I"⟩
abbrev cX8_when : ByteArray := prog_10_method_56_code
def yX8_when : MethodName := ⟨RX8, "when", "(I)I"⟩
abbrev cX8_shelf : ByteArray := prog_10_method_57_code
def yX8_shelf : MethodName := ⟨RX8, "shelf", "(II)I"⟩
abbrev cX8_place : ByteArray := prog_10_method_58_code
def yX8_place : MethodName := ⟨RX8, "place", "(III)I"⟩
abbrev cX8_use : ByteArray := prog_10_method_59_code
def yX8_use : MethodName := ⟨RX8, "use", "(II)I"⟩
abbrev cX8_needed : ByteArray := prog_10_method_60_code
def yX8_needed : MethodName := ⟨RX8, "needed", "(II)I"⟩
abbrev cX8_whose : ByteArray := prog_10_method_61_code
def yX8_whose : MethodName := ⟨RX8, "whose", "(III)I"⟩
abbrev cX8_carry : ByteArray := prog_10_method_62_code
def yX8_carry : MethodName := ⟨RX8, "carry", "(I)I"⟩
abbrev cX8_richest : ByteArray := prog_10_method_63_code
def yX8_richest : MethodName := ⟨RX8, "richest", "(II)I"⟩
abbrev cX8_breaks : ByteArray := prog_10_method_64_code
def yX8_breaks : MethodName := ⟨RX8, "breaks", "(I)I"⟩
abbrev cX8_dealer : ByteArray := prog_10_method_65_code
def yX8_dealer : MethodName := ⟨RX8, "dealer", "(I)I"⟩
abbrev cX8_common : ByteArray := prog_10_method_66_code
def yX8_common : MethodName := ⟨RX8, "common", "(II)I"⟩
abbrev cX8_odds : ByteArray := prog_10_method_67_code
def yX8_odds : MethodName := ⟨RX8, "odds", "(III)I"⟩
abbrev cX8_seed : ByteArray := prog_10_method_68_code
def yX8_seed : MethodName := ⟨RX8, "seed", "(I)I"⟩
abbrev cX8_ran : ByteArray := prog_10_method_69_code
def yX8_ran : MethodName := ⟨RX8, "ran", "(I)V"⟩
abbrev cX8_holdsBy : ByteArray := prog_10_method_70_code
def yX8_holdsBy : MethodName := ⟨RX8, "holdsBy", "(II)I"⟩
abbrev cX8_warmsBy : ByteArray := prog_10_method_71_code
def yX8_warmsBy : MethodName := ⟨RX8, "warmsBy", "(II)I"⟩
abbrev cX8_growsBy : ByteArray := prog_10_method_72_code
def yX8_growsBy : MethodName := ⟨RX8, "growsBy", "(II)I"⟩
abbrev cX8_tellsBy : ByteArray := prog_10_method_73_code
def yX8_tellsBy : MethodName := ⟨RX8, "tellsBy", "(II)I"⟩
abbrev cX8_voice : ByteArray := prog_10_method_74_code
def yX8_voice : MethodName := ⟨RX8, "voice", "(III)I"⟩
abbrev cX8_trace : ByteArray := prog_10_method_75_code
def yX8_trace : MethodName := ⟨RX8, "trace", "(I)I"⟩
abbrev cX8_isSheet : ByteArray := prog_10_method_76_code
def yX8_isSheet : MethodName := ⟨RX8, "isSheet", "(I)Z"⟩
abbrev cX8_sheet : ByteArray := prog_10_method_77_code
def yX8_sheet : MethodName := ⟨RX8, "sheet", "(III)I"⟩
abbrev cX8_put : ByteArray := prog_10_method_78_code
def yX8_put : MethodName := ⟨RX8, "put", "(III)I"⟩
abbrev cX8_move : ByteArray := prog_10_method_79_code
def yX8_move : MethodName := ⟨RX8, "move", "(IIIII)I"⟩
abbrev cX8_uses : ByteArray := prog_10_method_80_code
def yX8_uses : MethodName := ⟨RX8, "uses", "(I)I"⟩
abbrev cX8_judge : ByteArray := prog_10_method_81_code
def yX8_judge : MethodName := ⟨RX8, "judge", "(I)I"⟩
abbrev cX8_image : ByteArray := prog_10_method_82_code
def yX8_image : MethodName := ⟨RX8, "image", "()I"⟩
abbrev cX8_restore : ByteArray := prog_10_method_83_code
def yX8_restore : MethodName := ⟨RX8, "restore", "()I"⟩
abbrev cX8_tell : ByteArray := prog_10_method_84_code
def yX8_tell : MethodName := ⟨RX8, "tell", "(I)I"⟩
abbrev cX8_check : ByteArray := prog_10_method_85_code
def yX8_check : MethodName := ⟨RX8, "check", "()I"⟩
abbrev cX8_count : ByteArray := prog_10_method_86_code
def yX8_count : MethodName := ⟨RX8, "count", "(I)I"⟩
abbrev cX8_told : ByteArray := prog_10_method_87_code
def yX8_told : MethodName := ⟨RX8, "told", "(I)I"⟩
def RJ6 : String := "java/lang/Integer"
abbrev cJ6_bitCount_0f7a4 : ByteArray := prog_11_method_49_code
def yJ6_bitCount_0f7a4 : MethodName := ⟨RJ6, "bitCount", "(I)I"⟩
def RJ9 : String := "java/lang/Math"
abbrev cJ9_max_7cf53 : ByteArray := prog_12_method_65_code
def yJ9_max_7cf53 : MethodName := ⟨RJ9, "max", "(II)I"⟩
abbrev cJ9_min_7cf53 : ByteArray := prog_12_method_69_code
def yJ9_min_7cf53 : MethodName := ⟨RJ9, "min", "(II)I"⟩
def RJ10 : String := "java/lang/System"
def RJ7 : String := "java/util/Arrays"
abbrev cJ7_fill_53178 : ByteArray := prog_14_method_103_code
def yJ7_fill_53178 : MethodName := ⟨RJ7, "fill", "([II)V"⟩
def RL : String := "PotHandlesLaw"
abbrev cL_law : ByteArray := code
def yL_law : MethodName := ⟨RL, "law", "([I)Z"⟩
abbrev vwCl : List vw_C := [(RX0, TX0, 5), (RX1, TX1, 8), (RX2, TX2, 3), (RX3, TX3, 8), (RX4, TX4, 5), (RX5, TX5, 3), (RX6, TX6, 5), (RX7, TX7, 10), (RX8, TX8, 22)]
