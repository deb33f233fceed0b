section
-- ===== PART A: goes FIRST, ahead of the names: the tables' words, and 'selects' of the private methods out of them =====
/-- a private method of a class that the tables say can be made, by its rows of tables_1 -/
def lw_okq (q : MethodName × Nat) : Prop := (q.1.cls ≠ "java/lang/invoke/MethodHandle" ∧ q.1.cls ≠ "java/lang/invoke/VarHandle") ∧ Cond.instantiable q.1.cls q.2 ∈ tables_1 ∧ Cond.privateMethod q.1 ∈ tables_1 ∧ Cond.instanceMethod q.1 ∈ tables_1
theorem lw_p0 : lw_okq (⟨"PotHandles", "fail", "(I)I"⟩, 10) := ⟨⟨by decide +kernel, by decide +kernel⟩, List.mem_of_getElem? (i := 15) (by decide +kernel), List.mem_of_getElem? (i := 264) (by decide +kernel), List.mem_of_getElem? (i := 265) (by decide +kernel)⟩
theorem lw_p1 : lw_okq (⟨"PotHandles$Reader", "readLevel", "(II)Z"⟩, 4) := ⟨⟨by decide +kernel, by decide +kernel⟩, List.mem_of_getElem? (i := 156) (by decide +kernel), List.mem_of_getElem? (i := 358) (by decide +kernel), List.mem_of_getElem? (i := 359) (by decide +kernel)⟩
theorem lw_p2 : lw_okq (⟨"PotHandles$Reader", "readLast", "(I)Z"⟩, 4) := ⟨⟨by decide +kernel, by decide +kernel⟩, List.mem_of_getElem? (i := 156) (by decide +kernel), List.mem_of_getElem? (i := 362) (by decide +kernel), List.mem_of_getElem? (i := 363) (by decide +kernel)⟩
theorem lw_p3 : lw_okq (⟨"PotHandles$Reader", "next", "()I"⟩, 4) := ⟨⟨by decide +kernel, by decide +kernel⟩, List.mem_of_getElem? (i := 156) (by decide +kernel), List.mem_of_getElem? (i := 366) (by decide +kernel), List.mem_of_getElem? (i := 367) (by decide +kernel)⟩
theorem lw_p4 : lw_okq (⟨"PotHandles$Reader", "readNumber", "()V"⟩, 4) := ⟨⟨by decide +kernel, by decide +kernel⟩, List.mem_of_getElem? (i := 156) (by decide +kernel), List.mem_of_getElem? (i := 373) (by decide +kernel), List.mem_of_getElem? (i := 374) (by decide +kernel)⟩
theorem lw_p5 : lw_okq (⟨"PotHandles$Reader", "nameOf", "(I)I"⟩, 4) := ⟨⟨by decide +kernel, by decide +kernel⟩, List.mem_of_getElem? (i := 156) (by decide +kernel), List.mem_of_getElem? (i := 381) (by decide +kernel), List.mem_of_getElem? (i := 382) (by decide +kernel)⟩
theorem lw_p6 : lw_okq (⟨"PotHandles$District", "passYearOf", "(LPotHandles$Pot;I)V"⟩, 8) := ⟨⟨by decide +kernel, by decide +kernel⟩, List.mem_of_getElem? (i := 23) (by decide +kernel), List.mem_of_getElem? (i := 437) (by decide +kernel), List.mem_of_getElem? (i := 438) (by decide +kernel)⟩
theorem lw_p7 : lw_okq (⟨"PotHandles", "behind", "(I)LPotHandles$District;"⟩, 10) := ⟨⟨by decide +kernel, by decide +kernel⟩, List.mem_of_getElem? (i := 15) (by decide +kernel), List.mem_of_getElem? (i := 478) (by decide +kernel), List.mem_of_getElem? (i := 479) (by decide +kernel)⟩
theorem lw_p8 : lw_okq (⟨"PotHandles", "whenMoved", "(III)LPotHandles$Pot;"⟩, 10) := ⟨⟨by decide +kernel, by decide +kernel⟩, List.mem_of_getElem? (i := 15) (by decide +kernel), List.mem_of_getElem? (i := 508) (by decide +kernel), List.mem_of_getElem? (i := 509) (by decide +kernel)⟩
theorem lw_p9 : lw_okq (⟨"PotHandles", "haveHandlesIfCaredFor", "(III)Z"⟩, 10) := ⟨⟨by decide +kernel, by decide +kernel⟩, List.mem_of_getElem? (i := 15) (by decide +kernel), List.mem_of_getElem? (i := 525) (by decide +kernel), List.mem_of_getElem? (i := 526) (by decide +kernel)⟩
theorem lw_p10 : lw_okq (⟨"PotHandles", "isLikedAsTold", "(LPotHandles$Sheet;II)Z"⟩, 10) := ⟨⟨by decide +kernel, by decide +kernel⟩, List.mem_of_getElem? (i := 15) (by decide +kernel), List.mem_of_getElem? (i := 540) (by decide +kernel), List.mem_of_getElem? (i := 541) (by decide +kernel)⟩
theorem lw_p11 : lw_okq (⟨"PotHandles", "handlesIfStuck", "(II)I"⟩, 10) := ⟨⟨by decide +kernel, by decide +kernel⟩, List.mem_of_getElem? (i := 15) (by decide +kernel), List.mem_of_getElem? (i := 565) (by decide +kernel), List.mem_of_getElem? (i := 566) (by decide +kernel)⟩
theorem lw_p12 : lw_okq (⟨"PotHandles", "whenBeing", "(III)LPotHandles$Pot;"⟩, 10) := ⟨⟨by decide +kernel, by decide +kernel⟩, List.mem_of_getElem? (i := 15) (by decide +kernel), List.mem_of_getElem? (i := 573) (by decide +kernel), List.mem_of_getElem? (i := 574) (by decide +kernel)⟩
theorem lw_p13 : lw_okq (⟨"PotHandles$Voices", "say", "(IIII)I"⟩, 5) := ⟨⟨by decide +kernel, by decide +kernel⟩, List.mem_of_getElem? (i := 179) (by decide +kernel), List.mem_of_getElem? (i := 589) (by decide +kernel), List.mem_of_getElem? (i := 590) (by decide +kernel)⟩
theorem lw_p14 : lw_okq (⟨"PotHandles$Voices", "begin", "(I)V"⟩, 5) := ⟨⟨by decide +kernel, by decide +kernel⟩, List.mem_of_getElem? (i := 179) (by decide +kernel), List.mem_of_getElem? (i := 596) (by decide +kernel), List.mem_of_getElem? (i := 597) (by decide +kernel)⟩
theorem lw_p15 : lw_okq (⟨"PotHandles$Voices", "sayBody", "(III)I"⟩, 5) := ⟨⟨by decide +kernel, by decide +kernel⟩, List.mem_of_getElem? (i := 179) (by decide +kernel), List.mem_of_getElem? (i := 600) (by decide +kernel), List.mem_of_getElem? (i := 601) (by decide +kernel)⟩
def lw_privs_1 : List (MethodName × Nat) := [(⟨"PotHandles", "fail", "(I)I"⟩, 10), (⟨"PotHandles$Reader", "readLevel", "(II)Z"⟩, 4), (⟨"PotHandles$Reader", "readLast", "(I)Z"⟩, 4), (⟨"PotHandles$Reader", "next", "()I"⟩, 4), (⟨"PotHandles$Reader", "readNumber", "()V"⟩, 4), (⟨"PotHandles$Reader", "nameOf", "(I)I"⟩, 4), (⟨"PotHandles$District", "passYearOf", "(LPotHandles$Pot;I)V"⟩, 8), (⟨"PotHandles", "behind", "(I)LPotHandles$District;"⟩, 10), (⟨"PotHandles", "whenMoved", "(III)LPotHandles$Pot;"⟩, 10), (⟨"PotHandles", "haveHandlesIfCaredFor", "(III)Z"⟩, 10), (⟨"PotHandles", "isLikedAsTold", "(LPotHandles$Sheet;II)Z"⟩, 10), (⟨"PotHandles", "handlesIfStuck", "(II)I"⟩, 10), (⟨"PotHandles", "whenBeing", "(III)LPotHandles$Pot;"⟩, 10), (⟨"PotHandles$Voices", "say", "(IIII)I"⟩, 5), (⟨"PotHandles$Voices", "begin", "(I)V"⟩, 5), (⟨"PotHandles$Voices", "sayBody", "(III)I"⟩, 5)]
theorem lw_r1 : ∀ q ∈ lw_privs_1, lw_okq q := List.forall_mem_cons.mpr ⟨lw_p0, List.forall_mem_cons.mpr ⟨lw_p1, List.forall_mem_cons.mpr ⟨lw_p2, List.forall_mem_cons.mpr ⟨lw_p3, List.forall_mem_cons.mpr ⟨lw_p4, List.forall_mem_cons.mpr ⟨lw_p5, List.forall_mem_cons.mpr ⟨lw_p6, List.forall_mem_cons.mpr ⟨lw_p7, List.forall_mem_cons.mpr ⟨lw_p8, List.forall_mem_cons.mpr ⟨lw_p9, List.forall_mem_cons.mpr ⟨lw_p10, List.forall_mem_cons.mpr ⟨lw_p11, List.forall_mem_cons.mpr ⟨lw_p12, List.forall_mem_cons.mpr ⟨lw_p13, List.forall_mem_cons.mpr ⟨lw_p14, List.forall_mem_cons.mpr ⟨lw_p15, fun _ h => absurd h List.not_mem_nil⟩⟩⟩⟩⟩⟩⟩⟩⟩⟩⟩⟩⟩⟩⟩⟩
theorem lw_p16 : lw_okq (⟨"PotHandles$Voices", "sayAbove", "(IIII)I"⟩, 5) := ⟨⟨by decide +kernel, by decide +kernel⟩, List.mem_of_getElem? (i := 179) (by decide +kernel), List.mem_of_getElem? (i := 604) (by decide +kernel), List.mem_of_getElem? (i := 605) (by decide +kernel)⟩
theorem lw_p17 : lw_okq (⟨"PotHandlesModel", "finds", "(I)I"⟩, 22) := ⟨⟨by decide +kernel, by decide +kernel⟩, List.mem_of_getElem? (i := 680) (by decide +kernel), List.mem_of_getElem? (i := 761) (by decide +kernel), List.mem_of_getElem? (i := 762) (by decide +kernel)⟩
theorem lw_p18 : lw_okq (⟨"PotHandlesModel", "reads", "(III)V"⟩, 22) := ⟨⟨by decide +kernel, by decide +kernel⟩, List.mem_of_getElem? (i := 680) (by decide +kernel), List.mem_of_getElem? (i := 771) (by decide +kernel), List.mem_of_getElem? (i := 772) (by decide +kernel)⟩
theorem lw_p19 : lw_okq (⟨"PotHandlesModel", "either", "()V"⟩, 22) := ⟨⟨by decide +kernel, by decide +kernel⟩, List.mem_of_getElem? (i := 680) (by decide +kernel), List.mem_of_getElem? (i := 775) (by decide +kernel), List.mem_of_getElem? (i := 776) (by decide +kernel)⟩
theorem lw_p20 : lw_okq (⟨"PotHandlesModel", "both", "()V"⟩, 22) := ⟨⟨by decide +kernel, by decide +kernel⟩, List.mem_of_getElem? (i := 680) (by decide +kernel), List.mem_of_getElem? (i := 779) (by decide +kernel), List.mem_of_getElem? (i := 780) (by decide +kernel)⟩
theorem lw_p21 : lw_okq (⟨"PotHandlesModel", "compared", "()V"⟩, 22) := ⟨⟨by decide +kernel, by decide +kernel⟩, List.mem_of_getElem? (i := 680) (by decide +kernel), List.mem_of_getElem? (i := 783) (by decide +kernel), List.mem_of_getElem? (i := 784) (by decide +kernel)⟩
theorem lw_p22 : lw_okq (⟨"PotHandlesModel", "sum", "()V"⟩, 22) := ⟨⟨by decide +kernel, by decide +kernel⟩, List.mem_of_getElem? (i := 680) (by decide +kernel), List.mem_of_getElem? (i := 787) (by decide +kernel), List.mem_of_getElem? (i := 788) (by decide +kernel)⟩
theorem lw_p23 : lw_okq (⟨"PotHandlesModel", "product", "()V"⟩, 22) := ⟨⟨by decide +kernel, by decide +kernel⟩, List.mem_of_getElem? (i := 680) (by decide +kernel), List.mem_of_getElem? (i := 791) (by decide +kernel), List.mem_of_getElem? (i := 792) (by decide +kernel)⟩
theorem lw_p24 : lw_okq (⟨"PotHandlesModel", "unit", "()V"⟩, 22) := ⟨⟨by decide +kernel, by decide +kernel⟩, List.mem_of_getElem? (i := 680) (by decide +kernel), List.mem_of_getElem? (i := 795) (by decide +kernel), List.mem_of_getElem? (i := 796) (by decide +kernel)⟩
theorem lw_p25 : lw_okq (⟨"PotHandlesModel", "here", "()I"⟩, 22) := ⟨⟨by decide +kernel, by decide +kernel⟩, List.mem_of_getElem? (i := 680) (by decide +kernel), List.mem_of_getElem? (i := 799) (by decide +kernel), List.mem_of_getElem? (i := 800) (by decide +kernel)⟩
theorem lw_p26 : lw_okq (⟨"PotHandlesModel", "opens", "(I)V"⟩, 22) := ⟨⟨by decide +kernel, by decide +kernel⟩, List.mem_of_getElem? (i := 680) (by decide +kernel), List.mem_of_getElem? (i := 803) (by decide +kernel), List.mem_of_getElem? (i := 804) (by decide +kernel)⟩
theorem lw_p27 : lw_okq (⟨"PotHandlesModel", "wrong", "()V"⟩, 22) := ⟨⟨by decide +kernel, by decide +kernel⟩, List.mem_of_getElem? (i := 680) (by decide +kernel), List.mem_of_getElem? (i := 807) (by decide +kernel), List.mem_of_getElem? (i := 808) (by decide +kernel)⟩
theorem lw_p28 : lw_okq (⟨"PotHandlesModel", "lay", "(I)V"⟩, 22) := ⟨⟨by decide +kernel, by decide +kernel⟩, List.mem_of_getElem? (i := 680) (by decide +kernel), List.mem_of_getElem? (i := 811) (by decide +kernel), List.mem_of_getElem? (i := 812) (by decide +kernel)⟩
theorem lw_p29 : lw_okq (⟨"PotHandlesModel", "takes", "(I)Z"⟩, 22) := ⟨⟨by decide +kernel, by decide +kernel⟩, List.mem_of_getElem? (i := 680) (by decide +kernel), List.mem_of_getElem? (i := 815) (by decide +kernel), List.mem_of_getElem? (i := 816) (by decide +kernel)⟩
theorem lw_p30 : lw_okq (⟨"PotHandlesModel", "nameOf", "(I)I"⟩, 22) := ⟨⟨by decide +kernel, by decide +kernel⟩, List.mem_of_getElem? (i := 680) (by decide +kernel), List.mem_of_getElem? (i := 819) (by decide +kernel), List.mem_of_getElem? (i := 820) (by decide +kernel)⟩
theorem lw_p31 : lw_okq (⟨"PotHandlesModel", "textGives", "(IIII)I"⟩, 22) := ⟨⟨by decide +kernel, by decide +kernel⟩, List.mem_of_getElem? (i := 680) (by decide +kernel), List.mem_of_getElem? (i := 829) (by decide +kernel), List.mem_of_getElem? (i := 830) (by decide +kernel)⟩
def lw_privs_2 : List (MethodName × Nat) := [(⟨"PotHandles$Voices", "sayAbove", "(IIII)I"⟩, 5), (⟨"PotHandlesModel", "finds", "(I)I"⟩, 22), (⟨"PotHandlesModel", "reads", "(III)V"⟩, 22), (⟨"PotHandlesModel", "either", "()V"⟩, 22), (⟨"PotHandlesModel", "both", "()V"⟩, 22), (⟨"PotHandlesModel", "compared", "()V"⟩, 22), (⟨"PotHandlesModel", "sum", "()V"⟩, 22), (⟨"PotHandlesModel", "product", "()V"⟩, 22), (⟨"PotHandlesModel", "unit", "()V"⟩, 22), (⟨"PotHandlesModel", "here", "()I"⟩, 22), (⟨"PotHandlesModel", "opens", "(I)V"⟩, 22), (⟨"PotHandlesModel", "wrong", "()V"⟩, 22), (⟨"PotHandlesModel", "lay", "(I)V"⟩, 22), (⟨"PotHandlesModel", "takes", "(I)Z"⟩, 22), (⟨"PotHandlesModel", "nameOf", "(I)I"⟩, 22), (⟨"PotHandlesModel", "textGives", "(IIII)I"⟩, 22)]
theorem lw_r2 : ∀ q ∈ lw_privs_2, lw_okq q := List.forall_mem_cons.mpr ⟨lw_p16, List.forall_mem_cons.mpr ⟨lw_p17, List.forall_mem_cons.mpr ⟨lw_p18, List.forall_mem_cons.mpr ⟨lw_p19, List.forall_mem_cons.mpr ⟨lw_p20, List.forall_mem_cons.mpr ⟨lw_p21, List.forall_mem_cons.mpr ⟨lw_p22, List.forall_mem_cons.mpr ⟨lw_p23, List.forall_mem_cons.mpr ⟨lw_p24, List.forall_mem_cons.mpr ⟨lw_p25, List.forall_mem_cons.mpr ⟨lw_p26, List.forall_mem_cons.mpr ⟨lw_p27, List.forall_mem_cons.mpr ⟨lw_p28, List.forall_mem_cons.mpr ⟨lw_p29, List.forall_mem_cons.mpr ⟨lw_p30, List.forall_mem_cons.mpr ⟨lw_p31, fun _ h => absurd h List.not_mem_nil⟩⟩⟩⟩⟩⟩⟩⟩⟩⟩⟩⟩⟩⟩⟩⟩
theorem lw_p32 : lw_okq (⟨"PotHandlesModel", "worked", "(II)I"⟩, 22) := ⟨⟨by decide +kernel, by decide +kernel⟩, List.mem_of_getElem? (i := 680) (by decide +kernel), List.mem_of_getElem? (i := 833) (by decide +kernel), List.mem_of_getElem? (i := 834) (by decide +kernel)⟩
theorem lw_p33 : lw_okq (⟨"PotHandlesModel", "setOf", "(I)I"⟩, 22) := ⟨⟨by decide +kernel, by decide +kernel⟩, List.mem_of_getElem? (i := 680) (by decide +kernel), List.mem_of_getElem? (i := 857) (by decide +kernel), List.mem_of_getElem? (i := 858) (by decide +kernel)⟩
theorem lw_p34 : lw_okq (⟨"PotHandlesModel", "of", "(II)I"⟩, 22) := ⟨⟨by decide +kernel, by decide +kernel⟩, List.mem_of_getElem? (i := 680) (by decide +kernel), List.mem_of_getElem? (i := 861) (by decide +kernel), List.mem_of_getElem? (i := 862) (by decide +kernel)⟩
theorem lw_p35 : lw_okq (⟨"PotHandlesModel", "isBroken", "(I)Z"⟩, 22) := ⟨⟨by decide +kernel, by decide +kernel⟩, List.mem_of_getElem? (i := 680) (by decide +kernel), List.mem_of_getElem? (i := 865) (by decide +kernel), List.mem_of_getElem? (i := 866) (by decide +kernel)⟩
theorem lw_p36 : lw_okq (⟨"PotHandlesModel", "sets", "(III)V"⟩, 22) := ⟨⟨by decide +kernel, by decide +kernel⟩, List.mem_of_getElem? (i := 680) (by decide +kernel), List.mem_of_getElem? (i := 874) (by decide +kernel), List.mem_of_getElem? (i := 875) (by decide +kernel)⟩
theorem lw_p37 : lw_okq (⟨"PotHandlesModel", "isPot", "(I)Z"⟩, 22) := ⟨⟨by decide +kernel, by decide +kernel⟩, List.mem_of_getElem? (i := 680) (by decide +kernel), List.mem_of_getElem? (i := 882) (by decide +kernel), List.mem_of_getElem? (i := 883) (by decide +kernel)⟩
theorem lw_p38 : lw_okq (⟨"PotHandlesModel", "wants", "(I)I"⟩, 22) := ⟨⟨by decide +kernel, by decide +kernel⟩, List.mem_of_getElem? (i := 680) (by decide +kernel), List.mem_of_getElem? (i := 886) (by decide +kernel), List.mem_of_getElem? (i := 887) (by decide +kernel)⟩
theorem lw_p39 : lw_okq (⟨"PotHandlesModel", "bears", "(I)I"⟩, 22) := ⟨⟨by decide +kernel, by decide +kernel⟩, List.mem_of_getElem? (i := 680) (by decide +kernel), List.mem_of_getElem? (i := 890) (by decide +kernel), List.mem_of_getElem? (i := 891) (by decide +kernel)⟩
theorem lw_p40 : lw_okq (⟨"PotHandlesModel", "moves", "(II)V"⟩, 22) := ⟨⟨by decide +kernel, by decide +kernel⟩, List.mem_of_getElem? (i := 680) (by decide +kernel), List.mem_of_getElem? (i := 903) (by decide +kernel), List.mem_of_getElem? (i := 904) (by decide +kernel)⟩
theorem lw_p41 : lw_okq (⟨"PotHandlesModel", "yearsGo", "(I)V"⟩, 22) := ⟨⟨by decide +kernel, by decide +kernel⟩, List.mem_of_getElem? (i := 680) (by decide +kernel), List.mem_of_getElem? (i := 928) (by decide +kernel), List.mem_of_getElem? (i := 929) (by decide +kernel)⟩
theorem lw_p42 : lw_okq (⟨"PotHandlesModel", "potGoes", "(I)V"⟩, 22) := ⟨⟨by decide +kernel, by decide +kernel⟩, List.mem_of_getElem? (i := 680) (by decide +kernel), List.mem_of_getElem? (i := 932) (by decide +kernel), List.mem_of_getElem? (i := 933) (by decide +kernel)⟩
theorem lw_p43 : lw_okq (⟨"PotHandlesModel", "warms", "(I)I"⟩, 22) := ⟨⟨by decide +kernel, by decide +kernel⟩, List.mem_of_getElem? (i := 680) (by decide +kernel), List.mem_of_getElem? (i := 936) (by decide +kernel), List.mem_of_getElem? (i := 937) (by decide +kernel)⟩
theorem lw_p44 : lw_okq (⟨"PotHandlesModel", "manyIn", "(I)I"⟩, 22) := ⟨⟨by decide +kernel, by decide +kernel⟩, List.mem_of_getElem? (i := 680) (by decide +kernel), List.mem_of_getElem? (i := 940) (by decide +kernel), List.mem_of_getElem? (i := 941) (by decide +kernel)⟩
theorem lw_p45 : lw_okq (⟨"PotHandlesModel", "handles", "()I"⟩, 22) := ⟨⟨by decide +kernel, by decide +kernel⟩, List.mem_of_getElem? (i := 680) (by decide +kernel), List.mem_of_getElem? (i := 944) (by decide +kernel), List.mem_of_getElem? (i := 945) (by decide +kernel)⟩
theorem lw_p46 : lw_okq (⟨"PotHandlesModel", "drawn", "()I"⟩, 22) := ⟨⟨by decide +kernel, by decide +kernel⟩, List.mem_of_getElem? (i := 680) (by decide +kernel), List.mem_of_getElem? (i := 953) (by decide +kernel), List.mem_of_getElem? (i := 954) (by decide +kernel)⟩
theorem lw_p47 : lw_okq (⟨"PotHandlesModel", "keepAside", "()V"⟩, 22) := ⟨⟨by decide +kernel, by decide +kernel⟩, List.mem_of_getElem? (i := 680) (by decide +kernel), List.mem_of_getElem? (i := 962) (by decide +kernel), List.mem_of_getElem? (i := 963) (by decide +kernel)⟩
def lw_privs_3 : List (MethodName × Nat) := [(⟨"PotHandlesModel", "worked", "(II)I"⟩, 22), (⟨"PotHandlesModel", "setOf", "(I)I"⟩, 22), (⟨"PotHandlesModel", "of", "(II)I"⟩, 22), (⟨"PotHandlesModel", "isBroken", "(I)Z"⟩, 22), (⟨"PotHandlesModel", "sets", "(III)V"⟩, 22), (⟨"PotHandlesModel", "isPot", "(I)Z"⟩, 22), (⟨"PotHandlesModel", "wants", "(I)I"⟩, 22), (⟨"PotHandlesModel", "bears", "(I)I"⟩, 22), (⟨"PotHandlesModel", "moves", "(II)V"⟩, 22), (⟨"PotHandlesModel", "yearsGo", "(I)V"⟩, 22), (⟨"PotHandlesModel", "potGoes", "(I)V"⟩, 22), (⟨"PotHandlesModel", "warms", "(I)I"⟩, 22), (⟨"PotHandlesModel", "manyIn", "(I)I"⟩, 22), (⟨"PotHandlesModel", "handles", "()I"⟩, 22), (⟨"PotHandlesModel", "drawn", "()I"⟩, 22), (⟨"PotHandlesModel", "keepAside", "()V"⟩, 22)]
theorem lw_r3 : ∀ q ∈ lw_privs_3, lw_okq q := List.forall_mem_cons.mpr ⟨lw_p32, List.forall_mem_cons.mpr ⟨lw_p33, List.forall_mem_cons.mpr ⟨lw_p34, List.forall_mem_cons.mpr ⟨lw_p35, List.forall_mem_cons.mpr ⟨lw_p36, List.forall_mem_cons.mpr ⟨lw_p37, List.forall_mem_cons.mpr ⟨lw_p38, List.forall_mem_cons.mpr ⟨lw_p39, List.forall_mem_cons.mpr ⟨lw_p40, List.forall_mem_cons.mpr ⟨lw_p41, List.forall_mem_cons.mpr ⟨lw_p42, List.forall_mem_cons.mpr ⟨lw_p43, List.forall_mem_cons.mpr ⟨lw_p44, List.forall_mem_cons.mpr ⟨lw_p45, List.forall_mem_cons.mpr ⟨lw_p46, List.forall_mem_cons.mpr ⟨lw_p47, fun _ h => absurd h List.not_mem_nil⟩⟩⟩⟩⟩⟩⟩⟩⟩⟩⟩⟩⟩⟩⟩⟩
theorem lw_p48 : lw_okq (⟨"PotHandlesModel", "putBack", "()V"⟩, 22) := ⟨⟨by decide +kernel, by decide +kernel⟩, List.mem_of_getElem? (i := 680) (by decide +kernel), List.mem_of_getElem? (i := 966) (by decide +kernel), List.mem_of_getElem? (i := 967) (by decide +kernel)⟩
theorem lw_p49 : lw_okq (⟨"PotHandlesModel", "holdsBy", "(II)I"⟩, 22) := ⟨⟨by decide +kernel, by decide +kernel⟩, List.mem_of_getElem? (i := 680) (by decide +kernel), List.mem_of_getElem? (i := 1034) (by decide +kernel), List.mem_of_getElem? (i := 1035) (by decide +kernel)⟩
theorem lw_p50 : lw_okq (⟨"PotHandlesModel", "ran", "(I)V"⟩, 22) := ⟨⟨by decide +kernel, by decide +kernel⟩, List.mem_of_getElem? (i := 680) (by decide +kernel), List.mem_of_getElem? (i := 1038) (by decide +kernel), List.mem_of_getElem? (i := 1039) (by decide +kernel)⟩
theorem lw_p51 : lw_okq (⟨"PotHandlesModel", "warmsBy", "(II)I"⟩, 22) := ⟨⟨by decide +kernel, by decide +kernel⟩, List.mem_of_getElem? (i := 680) (by decide +kernel), List.mem_of_getElem? (i := 1042) (by decide +kernel), List.mem_of_getElem? (i := 1043) (by decide +kernel)⟩
theorem lw_p52 : lw_okq (⟨"PotHandlesModel", "growsBy", "(II)I"⟩, 22) := ⟨⟨by decide +kernel, by decide +kernel⟩, List.mem_of_getElem? (i := 680) (by decide +kernel), List.mem_of_getElem? (i := 1046) (by decide +kernel), List.mem_of_getElem? (i := 1047) (by decide +kernel)⟩
theorem lw_p53 : lw_okq (⟨"PotHandlesModel", "tellsBy", "(II)I"⟩, 22) := ⟨⟨by decide +kernel, by decide +kernel⟩, List.mem_of_getElem? (i := 680) (by decide +kernel), List.mem_of_getElem? (i := 1050) (by decide +kernel), List.mem_of_getElem? (i := 1051) (by decide +kernel)⟩
def lw_privs_4 : List (MethodName × Nat) := [(⟨"PotHandlesModel", "putBack", "()V"⟩, 22), (⟨"PotHandlesModel", "holdsBy", "(II)I"⟩, 22), (⟨"PotHandlesModel", "ran", "(I)V"⟩, 22), (⟨"PotHandlesModel", "warmsBy", "(II)I"⟩, 22), (⟨"PotHandlesModel", "growsBy", "(II)I"⟩, 22), (⟨"PotHandlesModel", "tellsBy", "(II)I"⟩, 22)]
theorem lw_r4 : ∀ q ∈ lw_privs_4, lw_okq q := List.forall_mem_cons.mpr ⟨lw_p48, List.forall_mem_cons.mpr ⟨lw_p49, List.forall_mem_cons.mpr ⟨lw_p50, List.forall_mem_cons.mpr ⟨lw_p51, List.forall_mem_cons.mpr ⟨lw_p52, List.forall_mem_cons.mpr ⟨lw_p53, fun _ h => absurd h List.not_mem_nil⟩⟩⟩⟩⟩⟩
def lw_privs : List (MethodName × Nat) := lw_privs_1 ++ (lw_privs_2 ++ (lw_privs_3 ++ (lw_privs_4)))
def lw_tbl : List Cond := k2_sels lw_privs ++ tables_1
theorem lw_privs_ok : ∀ q ∈ lw_privs, lw_okq q := by
  show ∀ q ∈ lw_privs_1 ++ (lw_privs_2 ++ (lw_privs_3 ++ (lw_privs_4))), lw_okq q
  exact List.forall_mem_append.mpr ⟨lw_r1, List.forall_mem_append.mpr ⟨lw_r2, List.forall_mem_append.mpr ⟨lw_r3, lw_r4⟩⟩⟩
def RX0 : String := "PotHandles$Desk"
def TX0 : u_T := fun k => match k with
  | 0 => ("PotHandles$Desk", "tape", "[B", true)
  | 1 => ("PotHandles$Desk", "waiting", "[I", true)
  | 2 => ("PotHandles$Desk", "taped", "I", false)
  | 3 => ("PotHandles$Desk", "waits", "I", false)
  | _ => ("PotHandles$Desk", "z", "I", false)
def tyX0 : Nat → FieldType := fun k => match k with
  | 0 => .array .byte
  | 1 => .array .int
  | 2 => .int
  | 3 => .int
  | _ => .int
abbrev wsX00 : List Cond := u_ws RX0 TX0 5
theorem nmX0 : ∀ a, a < 5 → ∀ b, b < 5 → a ≠ b → (TX0 a).2.1 ≠ (TX0 b).2.1 := by decide +kernel
theorem tyX0_ok : ∀ k, k < 5 → parseFieldDescriptor (TX0 k).2.2.1 = some (tyX0 k) := by decide +kernel
abbrev cX0_init : ByteArray := prog_2_method_1_code
def yX0_init : MethodName := ⟨RX0, "<init>", "()V"⟩
abbrev cX0_copy : ByteArray := prog_2_method_2_code
def yX0_copy : MethodName := ⟨RX0, "copy", "(LPotHandles$Desk;)V"⟩
abbrev cX0_draw : ByteArray := prog_2_method_3_code
def yX0_draw : MethodName := ⟨RX0, "draw", "()I"⟩
def RX1 : String := "PotHandles$District"
def TX1 : u_T := fun k => match k with
  | 0 => ("PotHandles$District", "hands", "[I", true)
  | 1 => ("PotHandles$District", "care", "[I", true)
  | 2 => ("PotHandles$District", "row", "[LPotHandles$Pot;", true)
  | 3 => ("PotHandles$District", "warmth", "LPotHandles$Law;", true)
  | 4 => ("PotHandles$District", "breaking", "LPotHandles$Law;", true)
  | 5 => ("PotHandles$District", "pots", "I", false)
  | 6 => ("PotHandles$District", "year", "I", false)
  | _ => ("PotHandles$District", "broken", "I", false)
def tyX1 : Nat → FieldType := fun k => match k with
  | 0 => .array .int
  | 1 => .array .int
  | 2 => .array (.object "PotHandles$Pot")
  | 3 => .object "PotHandles$Law"
  | 4 => .object "PotHandles$Law"
  | 5 => .int
  | 6 => .int
  | _ => .int
abbrev wsX10 : List Cond := u_ws RX1 TX1 8
theorem nmX1 : ∀ a, a < 8 → ∀ b, b < 8 → a ≠ b → (TX1 a).2.1 ≠ (TX1 b).2.1 := by decide +kernel
theorem tyX1_ok : ∀ k, k < 8 → parseFieldDescriptor (TX1 k).2.2.1 = some (tyX1 k) := by decide +kernel
abbrev cX1_init : ByteArray := prog_3_method_1_code
def yX1_init : MethodName := ⟨RX1, "<init>", "()V"⟩
abbrev cX1_copy : ByteArray := prog_3_method_2_code
def yX1_copy : MethodName := ⟨RX1, "copy", "(LPotHandles$District;)V"⟩
abbrev cX1_has : ByteArray := prog_3_method_3_code
def yX1_has : MethodName := ⟨RX1, "has", "(I)Z"⟩
abbrev cX1_lawOf : ByteArray := prog_3_method_4_code
def yX1_lawOf : MethodName := ⟨RX1, "lawOf", "(I)LPotHandles$Law;"⟩
abbrev cX1_given : ByteArray := prog_3_method_5_code
def yX1_given : MethodName := ⟨RX1, "given", "(IIII)I"⟩
abbrev cX1_passYears : ByteArray := prog_3_method_6_code
def yX1_passYears : MethodName := ⟨RX1, "passYears", "(I)V"⟩
abbrev cX1_passYearOf : ByteArray := prog_3_method_7_code
def yX1_passYearOf : MethodName := ⟨RX1, "passYearOf", "(LPotHandles$Pot;I)V"⟩
abbrev cX1_potsIn : ByteArray := prog_3_method_8_code
def yX1_potsIn : MethodName := ⟨RX1, "potsIn", "(I)I"⟩
abbrev cX1_potsWithHandle : ByteArray := prog_3_method_9_code
def yX1_potsWithHandle : MethodName := ⟨RX1, "potsWithHandle", "()I"⟩
abbrev cX1_falsePots : ByteArray := prog_3_method_10_code
def yX1_falsePots : MethodName := ⟨RX1, "falsePots", "()I"⟩
abbrev cX1_allPots : ByteArray := prog_3_method_11_code
def yX1_allPots : MethodName := ⟨RX1, "allPots", "()I"⟩
abbrev cX1_allHandles : ByteArray := prog_3_method_12_code
def yX1_allHandles : MethodName := ⟨RX1, "allHandles", "()I"⟩
abbrev cX1_handlesIn : ByteArray := prog_3_method_13_code
def yX1_handlesIn : MethodName := ⟨RX1, "handlesIn", "(I)I"⟩
def RX2 : String := "PotHandles$Law"
def TX2 : u_T := fun k => match k with
  | 0 => ("PotHandles$Law", "signs", "[I", true)
  | 1 => ("PotHandles$Law", "stack", "[I", true)
  | _ => ("PotHandles$Law", "length", "I", false)
def tyX2 : Nat → FieldType := fun k => match k with
  | 0 => .array .int
  | 1 => .array .int
  | _ => .int
abbrev wsX20 : List Cond := u_ws RX2 TX2 3
theorem nmX2 : ∀ a, a < 3 → ∀ b, b < 3 → a ≠ b → (TX2 a).2.1 ≠ (TX2 b).2.1 := by decide +kernel
theorem tyX2_ok : ∀ k, k < 3 → parseFieldDescriptor (TX2 k).2.2.1 = some (tyX2 k) := by decide +kernel
abbrev cX2_init : ByteArray := prog_4_method_1_code
def yX2_init : MethodName := ⟨RX2, "<init>", "()V"⟩
abbrev cX2_stands : ByteArray := prog_4_method_2_code
def yX2_stands : MethodName := ⟨RX2, "stands", "()Z"⟩
abbrev cX2_clear : ByteArray := prog_4_method_3_code
def yX2_clear : MethodName := ⟨RX2, "clear", "()V"⟩
abbrev cX2_add : ByteArray := prog_4_method_4_code
def yX2_add : MethodName := ⟨RX2, "add", "(I)V"⟩
abbrev cX2_copy : ByteArray := prog_4_method_5_code
def yX2_copy : MethodName := ⟨RX2, "copy", "(LPotHandles$Law;)V"⟩
abbrev cX2_workedOut : ByteArray := prog_4_method_6_code
def yX2_workedOut : MethodName := ⟨RX2, "workedOut", "(III)I"⟩
abbrev cX2_namedOrNumber : ByteArray := prog_4_method_7_code
def yX2_namedOrNumber : MethodName := ⟨RX2, "namedOrNumber", "(IIII)I"⟩
abbrev cX2_joined : ByteArray := prog_4_method_8_code
def yX2_joined : MethodName := ⟨RX2, "joined", "(III)I"⟩
def RX3 : String := "PotHandles$Pot"
def TX3 : u_T := fun k => match k with
  | 0 => ("PotHandles$Pot", "kind", "I", false)
  | 1 => ("PotHandles$Pot", "m", "I", false)
  | 2 => ("PotHandles$Pot", "home", "I", false)
  | 3 => ("PotHandles$Pot", "used", "I", false)
  | 4 => ("PotHandles$Pot", "liked", "I", false)
  | 5 => ("PotHandles$Pot", "years", "I", false)
  | 6 => ("PotHandles$Pot", "handles", "I", false)
  | _ => ("PotHandles$Pot", "isFalse", "Z", false)
def tyX3 : Nat → FieldType := fun k => match k with
  | 0 => .int
  | 1 => .int
  | 2 => .int
  | 3 => .int
  | 4 => .int
  | 5 => .int
  | 6 => .int
  | _ => .boolean
abbrev wsX30 : List Cond := u_ws RX3 TX3 8
theorem nmX3 : ∀ a, a < 8 → ∀ b, b < 8 → a ≠ b → (TX3 a).2.1 ≠ (TX3 b).2.1 := by decide +kernel
theorem tyX3_ok : ∀ k, k < 8 → parseFieldDescriptor (TX3 k).2.2.1 = some (tyX3 k) := by decide +kernel
abbrev cX3_init : ByteArray := prog_5_method_1_code
def yX3_init : MethodName := ⟨RX3, "<init>", "()V"⟩
abbrev cX3_begin : ByteArray := prog_5_method_2_code
def yX3_begin : MethodName := ⟨RX3, "begin", "(III)V"⟩
abbrev cX3_copy : ByteArray := prog_5_method_3_code
def yX3_copy : MethodName := ⟨RX3, "copy", "(LPotHandles$Pot;)V"⟩
abbrev cX3_warmedBy : ByteArray := prog_5_method_4_code
def yX3_warmedBy : MethodName := ⟨RX3, "warmedBy", "(I)I"⟩
abbrev cX3_wants : ByteArray := prog_5_method_5_code
def yX3_wants : MethodName := ⟨RX3, "wants", "()I"⟩
abbrev cX3_bears : ByteArray := prog_5_method_6_code
def yX3_bears : MethodName := ⟨RX3, "bears", "()I"⟩
abbrev cX3_liveYear : ByteArray := prog_5_method_7_code
def yX3_liveYear : MethodName := ⟨RX3, "liveYear", "(I)V"⟩
abbrev cX3_goTo : ByteArray := prog_5_method_8_code
def yX3_goTo : MethodName := ⟨RX3, "goTo", "(I)V"⟩
abbrev cX3_canTakeFalseHandle : ByteArray := prog_5_method_9_code
def yX3_canTakeFalseHandle : MethodName := ⟨RX3, "canTakeFalseHandle", "()Z"⟩
abbrev cX3_takeFalseHandle : ByteArray := prog_5_method_10_code
def yX3_takeFalseHandle : MethodName := ⟨RX3, "takeFalseHandle", "()V"⟩
def RX4 : String := "PotHandles$Reader"
def TX4 : u_T := fun k => match k with
  | 0 => ("PotHandles$Reader", "law", "LPotHandles$Law;", true)
  | 1 => ("PotHandles$Reader", "desk", "LPotHandles$Desk;", true)
  | 2 => ("PotHandles$Reader", "use", "I", false)
  | _ => ("PotHandles$Reader", "at", "I", false)
def tyX4 : Nat → FieldType := fun k => match k with
  | 0 => .object "PotHandles$Law"
  | 1 => .object "PotHandles$Desk"
  | 2 => .int
  | _ => .int
abbrev wsX40 : List Cond := u_ws RX4 TX4 4
theorem nmX4 : ∀ a, a < 4 → ∀ b, b < 4 → a ≠ b → (TX4 a).2.1 ≠ (TX4 b).2.1 := by decide +kernel
theorem tyX4_ok : ∀ k, k < 4 → parseFieldDescriptor (TX4 k).2.2.1 = some (tyX4 k) := by decide +kernel
abbrev cX4_init : ByteArray := prog_6_method_1_code
def yX4_init : MethodName := ⟨RX4, "<init>", "(LPotHandles$Desk;)V"⟩
abbrev cX4_readTape : ByteArray := prog_6_method_2_code
def yX4_readTape : MethodName := ⟨RX4, "readTape", "(I)Z"⟩
abbrev cX4_next : ByteArray := prog_6_method_3_code
def yX4_next : MethodName := ⟨RX4, "next", "()I"⟩
abbrev cX4_readLevel : ByteArray := prog_6_method_4_code
def yX4_readLevel : MethodName := ⟨RX4, "readLevel", "(II)Z"⟩
abbrev cX4_levelOf : ByteArray := prog_6_method_5_code
def yX4_levelOf : MethodName := ⟨RX4, "levelOf", "(I)I"⟩
abbrev cX4_readLast : ByteArray := prog_6_method_6_code
def yX4_readLast : MethodName := ⟨RX4, "readLast", "(I)Z"⟩
abbrev cX4_readNumber : ByteArray := prog_6_method_7_code
def yX4_readNumber : MethodName := ⟨RX4, "readNumber", "()V"⟩
abbrev cX4_isDigit : ByteArray := prog_6_method_8_code
def yX4_isDigit : MethodName := ⟨RX4, "isDigit", "(I)Z"⟩
abbrev cX4_nameOf : ByteArray := prog_6_method_9_code
def yX4_nameOf : MethodName := ⟨RX4, "nameOf", "(I)I"⟩
def RX5 : String := "PotHandles$Sheet"
def TX5 : u_T := fun k => match k with
  | 0 => ("PotHandles$Sheet", "row", "[I", true)
  | 1 => ("PotHandles$Sheet", "bits", "I", false)
  | _ => ("PotHandles$Sheet", "count", "I", false)
def tyX5 : Nat → FieldType := fun k => match k with
  | 0 => .array .int
  | 1 => .int
  | _ => .int
abbrev wsX50 : List Cond := u_ws RX5 TX5 3
theorem nmX5 : ∀ a, a < 3 → ∀ b, b < 3 → a ≠ b → (TX5 a).2.1 ≠ (TX5 b).2.1 := by decide +kernel
theorem tyX5_ok : ∀ k, k < 3 → parseFieldDescriptor (TX5 k).2.2.1 = some (tyX5 k) := by decide +kernel
abbrev cX5_init : ByteArray := prog_7_method_1_code
def yX5_init : MethodName := ⟨RX5, "<init>", "()V"⟩
abbrev cX5_isMissing : ByteArray := prog_7_method_2_code
def yX5_isMissing : MethodName := ⟨RX5, "isMissing", "()Z"⟩
abbrev cX5_lay : ByteArray := prog_7_method_3_code
def yX5_lay : MethodName := ⟨RX5, "lay", "(II)V"⟩
abbrev cX5_lowestBits : ByteArray := prog_7_method_4_code
def yX5_lowestBits : MethodName := ⟨RX5, "lowestBits", "(I)I"⟩
abbrev cX5_holds : ByteArray := prog_7_method_5_code
def yX5_holds : MethodName := ⟨RX5, "holds", "(II)Z"⟩
def RX6 : String := "PotHandles$Voices"
def TX6 : u_T := fun k => match k with
  | 0 => ("PotHandles$Voices", "trace", "[I", true)
  | 1 => ("PotHandles$Voices", "traced", "I", false)
  | 2 => ("PotHandles$Voices", "kind", "I", false)
  | 3 => ("PotHandles$Voices", "n", "I", false)
  | _ => ("PotHandles$Voices", "m", "I", false)
def tyX6 : Nat → FieldType := fun k => match k with
  | 0 => .array .int
  | 1 => .int
  | 2 => .int
  | 3 => .int
  | _ => .int
abbrev wsX60 : List Cond := u_ws RX6 TX6 5
theorem nmX6 : ∀ a, a < 5 → ∀ b, b < 5 → a ≠ b → (TX6 a).2.1 ≠ (TX6 b).2.1 := by decide +kernel
theorem tyX6_ok : ∀ k, k < 5 → parseFieldDescriptor (TX6 k).2.2.1 = some (tyX6 k) := by decide +kernel
abbrev cX6_init : ByteArray := prog_8_method_1_code
def yX6_init : MethodName := ⟨RX6, "<init>", "()V"⟩
abbrev cX6_speak : ByteArray := prog_8_method_2_code
def yX6_speak : MethodName := ⟨RX6, "speak", "(LPotHandles$Pot;III)I"⟩
abbrev cX6_say : ByteArray := prog_8_method_3_code
def yX6_say : MethodName := ⟨RX6, "say", "(IIII)I"⟩
abbrev cX6_begin : ByteArray := prog_8_method_4_code
def yX6_begin : MethodName := ⟨RX6, "begin", "(I)V"⟩
abbrev cX6_bodyOf : ByteArray := prog_8_method_5_code
def yX6_bodyOf : MethodName := ⟨RX6, "bodyOf", "(II)I"⟩
abbrev cX6_sayBody : ByteArray := prog_8_method_6_code
def yX6_sayBody : MethodName := ⟨RX6, "sayBody", "(III)I"⟩
abbrev cX6_sayAbove : ByteArray := prog_8_method_7_code
def yX6_sayAbove : MethodName := ⟨RX6, "sayAbove", "(IIII)I"⟩
def RX7 : String := "PotHandles"
def TX7 : u_T := fun k => match k with
  | 0 => ("PotHandles", "now", "LPotHandles$District;", true)
  | 1 => ("PotHandles", "thought", "LPotHandles$District;", true)
  | 2 => ("PotHandles", "kept", "LPotHandles$District;", true)
  | 3 => ("PotHandles", "desk", "LPotHandles$Desk;", true)
  | 4 => ("PotHandles", "keptDesk", "LPotHandles$Desk;", true)
  | 5 => ("PotHandles", "reader", "LPotHandles$Reader;", true)
  | 6 => ("PotHandles", "voices", "LPotHandles$Voices;", true)
  | 7 => ("PotHandles", "sheets", "[LPotHandles$Sheet;", true)
  | 8 => ("PotHandles", "errors", "[I", true)
  | _ => ("PotHandles", "images", "I", false)
def tyX7 : Nat → FieldType := fun k => match k with
  | 0 => .object "PotHandles$District"
  | 1 => .object "PotHandles$District"
  | 2 => .object "PotHandles$District"
  | 3 => .object "PotHandles$Desk"
  | 4 => .object "PotHandles$Desk"
  | 5 => .object "PotHandles$Reader"
  | 6 => .object "PotHandles$Voices"
  | 7 => .array (.object "PotHandles$Sheet")
  | 8 => .array .int
  | _ => .int
abbrev wsX70 : List Cond := u_ws RX7 TX7 10
theorem nmX7 : ∀ a, a < 10 → ∀ b, b < 10 → a ≠ b → (TX7 a).2.1 ≠ (TX7 b).2.1 := by decide +kernel
theorem tyX7_ok : ∀ k, k < 10 → parseFieldDescriptor (TX7 k).2.2.1 = some (tyX7 k) := by decide +kernel
abbrev cX7_init : ByteArray := prog_1_method_1_code
def yX7_init : MethodName := ⟨RX7, "<init>", "()V"⟩
abbrev cX7_house : ByteArray := prog_1_method_2_code
def yX7_house : MethodName := ⟨RX7, "house", "(III)I"⟩
abbrev cX7_ofHouse : ByteArray := prog_1_method_3_code
def yX7_ofHouse : MethodName := ⟨RX7, "ofHouse", "(II)I"⟩
abbrev cX7_pot : ByteArray := prog_1_method_4_code
def yX7_pot : MethodName := ⟨RX7, "pot", "(III)I"⟩
abbrev cX7_ofPot : ByteArray := prog_1_method_5_code
def yX7_ofPot : MethodName := ⟨RX7, "ofPot", "(II)I"⟩
abbrev cX7_change : ByteArray := prog_1_method_6_code
def yX7_change : MethodName := ⟨RX7, "change", "(III)I"⟩
abbrev cX7_shift : ByteArray := prog_1_method_7_code
def yX7_shift : MethodName := ⟨RX7, "shift", "(II)I"⟩
abbrev cX7_stick : ByteArray := prog_1_method_8_code
def yX7_stick : MethodName := ⟨RX7, "stick", "(I)I"⟩
abbrev cX7_become : ByteArray := prog_1_method_9_code
def yX7_become : MethodName := ⟨RX7, "become", "(II)I"⟩
abbrev cX7_as : ByteArray := prog_1_method_10_code
def yX7_as : MethodName := ⟨RX7, "as", "(II)I"⟩
abbrev cX7_feed : ByteArray := prog_1_method_11_code
def yX7_feed : MethodName := ⟨RX7, "feed", "(JI)I"⟩
abbrev cX7_text : ByteArray := prog_1_method_12_code
def yX7_text : MethodName := ⟨RX7, "text", "(I)I"⟩
abbrev cX7_law : ByteArray := prog_1_method_13_code
def yX7_law : MethodName := ⟨RX7, "law", "(IIII)I"⟩
abbrev cX7_years : ByteArray := prog_1_method_14_code
def yX7_years : MethodName := ⟨RX7, "years", "(I)I"⟩
abbrev cX7_loose : ByteArray := prog_1_method_15_code
def yX7_loose : MethodName := ⟨RX7, "loose", "(I)I"⟩
abbrev cX7_then : ByteArray := prog_1_method_16_code
def yX7_then : MethodName := ⟨RX7, "then", "(III)I"⟩
abbrev cX7_when : ByteArray := prog_1_method_17_code
def yX7_when : MethodName := ⟨RX7, "when", "(I)I"⟩
abbrev cX7_shelf : ByteArray := prog_1_method_18_code
def yX7_shelf : MethodName := ⟨RX7, "shelf", "(II)I"⟩
abbrev cX7_place : ByteArray := prog_1_method_19_code
def yX7_place : MethodName := ⟨RX7, "place", "(III)I"⟩
abbrev cX7_use : ByteArray := prog_1_method_20_code
def yX7_use : MethodName := ⟨RX7, "use", "(II)I"⟩
abbrev cX7_needed : ByteArray := prog_1_method_21_code
def yX7_needed : MethodName := ⟨RX7, "needed", "(II)I"⟩
abbrev cX7_whose : ByteArray := prog_1_method_22_code
def yX7_whose : MethodName := ⟨RX7, "whose", "(III)I"⟩
abbrev cX7_carry : ByteArray := prog_1_method_23_code
def yX7_carry : MethodName := ⟨RX7, "carry", "(I)I"⟩
abbrev cX7_richest : ByteArray := prog_1_method_24_code
def yX7_richest : MethodName := ⟨RX7, "richest", "(II)I"⟩
abbrev cX7_breaks : ByteArray := prog_1_method_25_code
def yX7_breaks : MethodName := ⟨RX7, "breaks", "(I)I"⟩
abbrev cX7_dealer : ByteArray := prog_1_method_26_code
def yX7_dealer : MethodName := ⟨RX7, "dealer", "(I)I"⟩
abbrev cX7_odds : ByteArray := prog_1_method_27_code
def yX7_odds : MethodName := ⟨RX7, "odds", "(III)I"⟩
abbrev cX7_seed : ByteArray := prog_1_method_28_code
def yX7_seed : MethodName := ⟨RX7, "seed", "(I)I"⟩
abbrev cX7_voice : ByteArray := prog_1_method_29_code
def yX7_voice : MethodName := ⟨RX7, "voice", "(III)I"⟩
abbrev cX7_trace : ByteArray := prog_1_method_30_code
def yX7_trace : MethodName := ⟨RX7, "trace", "(I)I"⟩
abbrev cX7_sheet : ByteArray := prog_1_method_31_code
def yX7_sheet : MethodName := ⟨RX7, "sheet", "(III)I"⟩
abbrev cX7_put : ByteArray := prog_1_method_32_code
def yX7_put : MethodName := ⟨RX7, "put", "(III)I"⟩
abbrev cX7_move : ByteArray := prog_1_method_33_code
def yX7_move : MethodName := ⟨RX7, "move", "(IIIII)I"⟩
abbrev cX7_uses : ByteArray := prog_1_method_34_code
def yX7_uses : MethodName := ⟨RX7, "uses", "(I)I"⟩
abbrev cX7_judge : ByteArray := prog_1_method_35_code
def yX7_judge : MethodName := ⟨RX7, "judge", "(I)I"⟩
abbrev cX7_image : ByteArray := prog_1_method_36_code
def yX7_image : MethodName := ⟨RX7, "image", "()I"⟩
abbrev cX7_restore : ByteArray := prog_1_method_37_code
def yX7_restore : MethodName := ⟨RX7, "restore", "()I"⟩
abbrev cX7_tell : ByteArray := prog_1_method_38_code
def yX7_tell : MethodName := ⟨RX7, "tell", "(I)I"⟩
abbrev cX7_check : ByteArray := prog_1_method_39_code
def yX7_check : MethodName := ⟨RX7, "check", "()I"⟩
abbrev cX7_count : ByteArray := prog_1_method_40_code
def yX7_count : MethodName := ⟨RX7, "count", "(I)I"⟩
abbrev cX7_told : ByteArray := prog_1_method_41_code
def yX7_told : MethodName := ⟨RX7, "told", "(I)I"⟩
abbrev cX7_fail : ByteArray := prog_1_method_42_code
def yX7_fail : MethodName := ⟨RX7, "fail", "(I)I"⟩
abbrev cX7_isWithin : ByteArray := prog_1_method_43_code
def yX7_isWithin : MethodName := ⟨RX7, "isWithin", "(II)Z"⟩
abbrev cX7_isHouse : ByteArray := prog_1_method_44_code
def yX7_isHouse : MethodName := ⟨RX7, "isHouse", "(I)Z"⟩
abbrev cX7_isSheet : ByteArray := prog_1_method_45_code
def yX7_isSheet : MethodName := ⟨RX7, "isSheet", "(I)Z"⟩
abbrev cX7_isKindWithNumber : ByteArray := prog_1_method_46_code
def yX7_isKindWithNumber : MethodName := ⟨RX7, "isKindWithNumber", "(I)Z"⟩
abbrev cX7_kindAbove : ByteArray := prog_1_method_47_code
def yX7_kindAbove : MethodName := ⟨RX7, "kindAbove", "(I)I"⟩
abbrev cX7_isUnder : ByteArray := prog_1_method_48_code
def yX7_isUnder : MethodName := ⟨RX7, "isUnder", "(II)Z"⟩
abbrev cX7_behind : ByteArray := prog_1_method_49_code
def yX7_behind : MethodName := ⟨RX7, "behind", "(I)LPotHandles$District;"⟩
abbrev cX7_whenMoved : ByteArray := prog_1_method_50_code
def yX7_whenMoved : MethodName := ⟨RX7, "whenMoved", "(III)LPotHandles$Pot;"⟩
abbrev cX7_whenBeing : ByteArray := prog_1_method_51_code
def yX7_whenBeing : MethodName := ⟨RX7, "whenBeing", "(III)LPotHandles$Pot;"⟩
abbrev cX7_haveHandlesIfCaredFor : ByteArray := prog_1_method_52_code
def yX7_haveHandlesIfCaredFor : MethodName := ⟨RX7, "haveHandlesIfCaredFor", "(III)Z"⟩
abbrev cX7_isLikedAsTold : ByteArray := prog_1_method_53_code
def yX7_isLikedAsTold : MethodName := ⟨RX7, "isLikedAsTold", "(LPotHandles$Sheet;II)Z"⟩
abbrev cX7_handlesIfStuck : ByteArray := prog_1_method_54_code
def yX7_handlesIfStuck : MethodName := ⟨RX7, "handlesIfStuck", "(II)I"⟩
def RX8 : String := "PotHandlesModel"
def TX8 : u_T := fun k => match k with
  | 0 => ("PotHandlesModel", "d", "[I", true)
  | 1 => ("PotHandlesModel", "kept", "[I", true)
  | 2 => ("PotHandlesModel", "aside", "[I", true)
  | 3 => ("PotHandlesModel", "images", "I", false)
  | 4 => ("PotHandlesModel", "found", "[I", true)
  | 5 => ("PotHandlesModel", "base", "I", false)
  | 6 => ("PotHandlesModel", "at", "I", false)
  | 7 => ("PotHandlesModel", "size", "I", false)
  | 8 => ("PotHandlesModel", "fault", "I", false)
  | 9 => ("PotHandlesModel", "opened", "I", false)
  | 10 => ("PotHandlesModel", "isBreaks", "Z", false)
  | 11 => ("PotHandlesModel", "names", "[I", true)
  | 12 => ("PotHandlesModel", "code", "[I", true)
  | 13 => ("PotHandlesModel", "coded", "I", false)
  | 14 => ("PotHandlesModel", "pile", "[I", true)
  | 15 => ("PotHandlesModel", "traced", "[I", true)
  | 16 => ("PotHandlesModel", "traceMany", "I", false)
  | 17 => ("PotHandlesModel", "who", "I", false)
  | 18 => ("PotHandlesModel", "bitsOf", "[I", true)
  | 19 => ("PotHandlesModel", "sizeOf", "[I", true)
  | 20 => ("PotHandlesModel", "number", "[I", true)
  | _ => ("PotHandlesModel", "lifted", "[I", true)
def tyX8 : Nat → FieldType := fun k => match k with
  | 0 => .array .int
  | 1 => .array .int
  | 2 => .array .int
  | 3 => .int
  | 4 => .array .int
  | 5 => .int
  | 6 => .int
  | 7 => .int
  | 8 => .int
  | 9 => .int
  | 10 => .boolean
  | 11 => .array .int
  | 12 => .array .int
  | 13 => .int
  | 14 => .array .int
  | 15 => .array .int
  | 16 => .int
  | 17 => .int
  | 18 => .array .int
  | 19 => .array .int
  | 20 => .array .int
  | _ => .array .int
abbrev wsX80 : List Cond := u_ws RX8 TX8 22
theorem nmX8 : ∀ a, a < 22 → ∀ b, b < 22 → a ≠ b → (TX8 a).2.1 ≠ (TX8 b).2.1 := by decide +kernel
theorem tyX8_ok : ∀ k, k < 22 → parseFieldDescriptor (TX8 k).2.2.1 = some (tyX8 k) := by decide +kernel
abbrev cX8_init : ByteArray := prog_10_method_1_code
def yX8_init : MethodName := ⟨RX8, "<init>", "()V"⟩
abbrev cX8_finds : ByteArray := prog_10_method_3_code
def yX8_finds : MethodName := ⟨RX8, "finds", "(I)I"⟩
abbrev cX8_in : ByteArray := prog_10_method_4_code
def yX8_in : MethodName := ⟨RX8, "in", "(JJJ)Z"⟩
abbrev cX8_held : ByteArray := prog_10_method_5_code
def yX8_held : MethodName := ⟨RX8, "held", "(III)I"⟩
abbrev cX8_isPot : ByteArray := prog_10_method_6_code
def yX8_isPot : MethodName := ⟨RX8, "isPot", "(I)Z"⟩
abbrev cX8_isHouse : ByteArray := prog_10_method_7_code
def yX8_isHouse : MethodName := ⟨RX8, "isHouse", "(I)Z"⟩
abbrev cX8_of : ByteArray := prog_10_method_8_code
def yX8_of : MethodName := ⟨RX8, "of", "(II)I"⟩
abbrev cX8_sets : ByteArray := prog_10_method_9_code
def yX8_sets : MethodName := ⟨RX8, "sets", "(III)V"⟩
abbrev cX8_above : ByteArray := prog_10_method_10_code
def yX8_above : MethodName := ⟨RX8, "above", "(I)I"⟩
abbrev cX8_isBroken : ByteArray := prog_10_method_11_code
def yX8_isBroken : MethodName := ⟨RX8, "isBroken", "(I)Z"⟩
abbrev cX8_keepAside : ByteArray := prog_10_method_12_code
def yX8_keepAside : MethodName := ⟨RX8, "keepAside", "()V"⟩
abbrev cX8_putBack : ByteArray := prog_10_method_13_code
def yX8_putBack : MethodName := ⟨RX8, "putBack", "()V"⟩
abbrev cX8_here : ByteArray := prog_10_method_14_code
def yX8_here : MethodName := ⟨RX8, "here", "()I"⟩
abbrev cX8_wrong : ByteArray := prog_10_method_15_code
def yX8_wrong : MethodName := ⟨RX8, "wrong", "()V"⟩
abbrev cX8_takes : ByteArray := prog_10_method_16_code
def yX8_takes : MethodName := ⟨RX8, "takes", "(I)Z"⟩
abbrev cX8_nameOf : ByteArray := prog_10_method_17_code
def yX8_nameOf : MethodName := ⟨RX8, "nameOf", "(I)I"⟩
abbrev cX8_lay : ByteArray := prog_10_method_18_code
def yX8_lay : MethodName := ⟨RX8, "lay", "(I)V"⟩
abbrev cX8_either : ByteArray := prog_10_method_19_code
def yX8_either : MethodName := ⟨RX8, "either", "()V"⟩
abbrev cX8_both : ByteArray := prog_10_method_20_code
def yX8_both : MethodName := ⟨RX8, "both", "()V"⟩
abbrev cX8_compared : ByteArray := prog_10_method_21_code
def yX8_compared : MethodName := ⟨RX8, "compared", "()V"⟩
abbrev cX8_sum : ByteArray := prog_10_method_22_code
def yX8_sum : MethodName := ⟨RX8, "sum", "()V"⟩
abbrev cX8_product : ByteArray := prog_10_method_23_code
def yX8_product : MethodName := ⟨RX8, "product", "()V"⟩
abbrev cX8_opens : ByteArray := prog_10_method_24_code
def yX8_opens : MethodName := ⟨RX8, "opens", "(I)V"⟩
abbrev cX8_unit : ByteArray := prog_10_method_25_code
def yX8_unit : MethodName := ⟨RX8, "unit", "()V"⟩
abbrev cX8_reads : ByteArray := prog_10_method_26_code
def yX8_reads : MethodName := ⟨RX8, "reads", "(III)V"⟩
abbrev cX8_done : ByteArray := prog_10_method_27_code
def yX8_done : MethodName := ⟨RX8, "done", "(III)I"⟩
abbrev cX8_worked : ByteArray := prog_10_method_28_code
def yX8_worked : MethodName := ⟨RX8, "worked", "(II)I"⟩
abbrev cX8_feed : ByteArray := prog_10_method_29_code
def yX8_feed : MethodName := ⟨RX8, "feed", "(JI)I"⟩
abbrev cX8_text : ByteArray := prog_10_method_30_code
def yX8_text : MethodName := ⟨RX8, "text", "(I)I"⟩
abbrev cX8_textGives : ByteArray := prog_10_method_31_code
def yX8_textGives : MethodName := ⟨RX8, "textGives", "(IIII)I"⟩
abbrev cX8_law : ByteArray := prog_10_method_32_code
def yX8_law : MethodName := ⟨RX8, "law", "(IIII)I"⟩
abbrev cX8_warms : ByteArray := prog_10_method_33_code
def yX8_warms : MethodName := ⟨RX8, "warms", "(I)I"⟩
abbrev cX8_wants : ByteArray := prog_10_method_34_code
def yX8_wants : MethodName := ⟨RX8, "wants", "(I)I"⟩
abbrev cX8_bears : ByteArray := prog_10_method_35_code
def yX8_bears : MethodName := ⟨RX8, "bears", "(I)I"⟩
abbrev cX8_manyIn : ByteArray := prog_10_method_36_code
def yX8_manyIn : MethodName := ⟨RX8, "manyIn", "(I)I"⟩
abbrev cX8_handles : ByteArray := prog_10_method_37_code
def yX8_handles : MethodName := ⟨RX8, "handles", "()I"⟩
abbrev cX8_moves : ByteArray := prog_10_method_38_code
def yX8_moves : MethodName := ⟨RX8, "moves", "(II)V"⟩
abbrev cX8_potGoes : ByteArray := prog_10_method_39_code
def yX8_potGoes : MethodName := ⟨RX8, "potGoes", "(I)V"⟩
abbrev cX8_yearsGo : ByteArray := prog_10_method_40_code
def yX8_yearsGo : MethodName := ⟨RX8, "yearsGo", "(I)V"⟩
abbrev cX8_setOf : ByteArray := prog_10_method_41_code
def yX8_setOf : MethodName := ⟨RX8, "setOf", "(I)I"⟩
abbrev cX8_bits : ByteArray := prog_10_method_42_code
def yX8_bits : MethodName := ⟨RX8, "bits", "(I)I"⟩
abbrev cX8_house : ByteArray := prog_10_method_43_code
def yX8_house : MethodName := ⟨RX8, "house", "(III)I"⟩
abbrev cX8_ofHouse : ByteArray := prog_10_method_44_code
def yX8_ofHouse : MethodName := ⟨RX8, "ofHouse", "(II)I"⟩
abbrev cX8_pot : ByteArray := prog_10_method_45_code
def yX8_pot : MethodName := ⟨RX8, "pot", "(III)I"⟩
abbrev cX8_ofPot : ByteArray := prog_10_method_46_code
def yX8_ofPot : MethodName := ⟨RX8, "ofPot", "(II)I"⟩
abbrev cX8_change : ByteArray := prog_10_method_47_code
def yX8_change : MethodName := ⟨RX8, "change", "(III)I"⟩
abbrev cX8_shift : ByteArray := prog_10_method_48_code
def yX8_shift : MethodName := ⟨RX8, "shift", "(II)I"⟩
abbrev cX8_stick : ByteArray := prog_10_method_49_code
def yX8_stick : MethodName := ⟨RX8, "stick", "(I)I"⟩
abbrev cX8_become : ByteArray := prog_10_method_50_code
def yX8_become : MethodName := ⟨RX8, "become", "(II)I"⟩
abbrev cX8_as : ByteArray := prog_10_method_51_code
def yX8_as : MethodName := ⟨RX8, "as", "(II)I"⟩
abbrev cX8_years : ByteArray := prog_10_method_52_code
def yX8_years : MethodName := ⟨RX8, "years", "(I)I"⟩
abbrev cX8_drawn : ByteArray := prog_10_method_53_code
def yX8_drawn : MethodName := ⟨RX8, "drawn", "()I"⟩
abbrev cX8_loose : ByteArray := prog_10_method_54_code
def yX8_loose : MethodName := ⟨RX8, "loose", "(I)I"⟩
abbrev cX8_then : ByteArray := prog_10_method_55_code
def yX8_then : MethodName := ⟨RX8, "then", "(III)I"⟩
abbrev cX8_when : ByteArray := prog_10_method_56_code
def yX8_when : MethodName := ⟨RX8, "when", "(I)I"⟩
abbrev cX8_shelf : ByteArray := prog_10_method_57_code
def yX8_shelf : MethodName := ⟨RX8, "shelf", "(II)I"⟩
abbrev cX8_place : ByteArray := prog_10_method_58_code
def yX8_place : MethodName := ⟨RX8, "place", "(III)I"⟩
abbrev cX8_use : ByteArray := prog_10_method_59_code
def yX8_use : MethodName := ⟨RX8, "use", "(II)I"⟩
abbrev cX8_needed : ByteArray := prog_10_method_60_code
def yX8_needed : MethodName := ⟨RX8, "needed", "(II)I"⟩
abbrev cX8_whose : ByteArray := prog_10_method_61_code
def yX8_whose : MethodName := ⟨RX8, "whose", "(III)I"⟩
abbrev cX8_carry : ByteArray := prog_10_method_62_code
def yX8_carry : MethodName := ⟨RX8, "carry", "(I)I"⟩
abbrev cX8_richest : ByteArray := prog_10_method_63_code
def yX8_richest : MethodName := ⟨RX8, "richest", "(II)I"⟩
abbrev cX8_breaks : ByteArray := prog_10_method_64_code
def yX8_breaks : MethodName := ⟨RX8, "breaks", "(I)I"⟩
abbrev cX8_dealer : ByteArray := prog_10_method_65_code
def yX8_dealer : MethodName := ⟨RX8, "dealer", "(I)I"⟩
abbrev cX8_common : ByteArray := prog_10_method_66_code
def yX8_common : MethodName := ⟨RX8, "common", "(II)I"⟩
abbrev cX8_odds : ByteArray := prog_10_method_67_code
def yX8_odds : MethodName := ⟨RX8, "odds", "(III)I"⟩
abbrev cX8_seed : ByteArray := prog_10_method_68_code
def yX8_seed : MethodName := ⟨RX8, "seed", "(I)I"⟩
abbrev cX8_ran : ByteArray := prog_10_method_69_code
def yX8_ran : MethodName := ⟨RX8, "ran", "(I)V"⟩
abbrev cX8_holdsBy : ByteArray := prog_10_method_70_code
def yX8_holdsBy : MethodName := ⟨RX8, "holdsBy", "(II)I"⟩
abbrev cX8_warmsBy : ByteArray := prog_10_method_71_code
def yX8_warmsBy : MethodName := ⟨RX8, "warmsBy", "(II)I"⟩
abbrev cX8_growsBy : ByteArray := prog_10_method_72_code
def yX8_growsBy : MethodName := ⟨RX8, "growsBy", "(II)I"⟩
abbrev cX8_tellsBy : ByteArray := prog_10_method_73_code
def yX8_tellsBy : MethodName := ⟨RX8, "tellsBy", "(II)I"⟩
abbrev cX8_voice : ByteArray := prog_10_method_74_code
def yX8_voice : MethodName := ⟨RX8, "voice", "(III)I"⟩
abbrev cX8_trace : ByteArray := prog_10_method_75_code
def yX8_trace : MethodName := ⟨RX8, "trace", "(I)I"⟩
abbrev cX8_isSheet : ByteArray := prog_10_method_76_code
def yX8_isSheet : MethodName := ⟨RX8, "isSheet", "(I)Z"⟩
abbrev cX8_sheet : ByteArray := prog_10_method_77_code
def yX8_sheet : MethodName := ⟨RX8, "sheet", "(III)I"⟩
abbrev cX8_put : ByteArray := prog_10_method_78_code
def yX8_put : MethodName := ⟨RX8, "put", "(III)I"⟩
abbrev cX8_move : ByteArray := prog_10_method_79_code
def yX8_move : MethodName := ⟨RX8, "move", "(IIIII)I"⟩
abbrev cX8_uses : ByteArray := prog_10_method_80_code
def yX8_uses : MethodName := ⟨RX8, "uses", "(I)I"⟩
abbrev cX8_judge : ByteArray := prog_10_method_81_code
def yX8_judge : MethodName := ⟨RX8, "judge", "(I)I"⟩
abbrev cX8_image : ByteArray := prog_10_method_82_code
def yX8_image : MethodName := ⟨RX8, "image", "()I"⟩
abbrev cX8_restore : ByteArray := prog_10_method_83_code
def yX8_restore : MethodName := ⟨RX8, "restore", "()I"⟩
abbrev cX8_tell : ByteArray := prog_10_method_84_code
def yX8_tell : MethodName := ⟨RX8, "tell", "(I)I"⟩
abbrev cX8_check : ByteArray := prog_10_method_85_code
def yX8_check : MethodName := ⟨RX8, "check", "()I"⟩
abbrev cX8_count : ByteArray := prog_10_method_86_code
def yX8_count : MethodName := ⟨RX8, "count", "(I)I"⟩
abbrev cX8_told : ByteArray := prog_10_method_87_code
def yX8_told : MethodName := ⟨RX8, "told", "(I)I"⟩
def RJ6 : String := "java/lang/Integer"
abbrev cJ6_bitCount_0f7a4 : ByteArray := prog_11_method_49_code
def yJ6_bitCount_0f7a4 : MethodName := ⟨RJ6, "bitCount", "(I)I"⟩
def RJ9 : String := "java/lang/Math"
abbrev cJ9_max_7cf53 : ByteArray := prog_12_method_65_code
def yJ9_max_7cf53 : MethodName := ⟨RJ9, "max", "(II)I"⟩
abbrev cJ9_min_7cf53 : ByteArray := prog_12_method_69_code
def yJ9_min_7cf53 : MethodName := ⟨RJ9, "min", "(II)I"⟩
def RJ10 : String := "java/lang/System"
def RJ7 : String := "java/util/Arrays"
abbrev cJ7_fill_53178 : ByteArray := prog_14_method_103_code
def yJ7_fill_53178 : MethodName := ⟨RJ7, "fill", "([II)V"⟩
def RL : String := "PotHandlesLaw"
abbrev cL_law : ByteArray := code
def yL_law : MethodName := ⟨RL, "law", "([I)Z"⟩
abbrev vwCl : List vw_C := [(RX0, TX0, 5), (RX1, TX1, 8), (RX2, TX2, 3), (RX3, TX3, 8), (RX4, TX4, 4), (RX5, TX5, 3), (RX6, TX6, 5), (RX7, TX7, 10), (RX8, TX8, 22)]
end
section
/-! THE WORLD: the cells of both systems, by families; a memory is a pair of number tables (class, reference): family, member, slot.
Families 0 .. 7: objects of class number f of vwCl; 8 .. 18: arrays of the class's objects; 19: the reference's object; 20 .. 31: its arrays. -/
abbrev AV : Type := Int32 ⊕ (Int64 ⊕ (Nat × Nat))
abbrev Mem : Type := Nat → Nat → Nat → Int32
abbrev MM : Type := Mem × Mem
def up3 (M : Mem) (f i k : Nat) (v : Int32) : Mem := fun f' i' k' => if f' = f ∧ k' = k ∧ i' = i then v else M f' i' k'
def cp3 (M : Mem) (f i sp g j dp n : Nat) : Mem := fun f' i' k' => if f' = g ∧ i' = j ∧ dp ≤ k' ∧ k' < dp + n then M f i (sp + (k' - dp)) else M f' i' k'
def rdM (M : MM) (f i k : Nat) : Int32 := if f < 19 then M.1 f i k else M.2 f i k
def wrM (M : MM) (f i k : Nat) (v : Int32) : MM := if f < 19 then (up3 M.1 f i k v, M.2) else (M.1, up3 M.2 f i k v)
def nbB (x : Int32) : Int32 := x.toInt8.toInt32
def nbZ (x : Int32) : Int32 := if x = 0 then 0 else 1
/-- how many members a family has -/
def fCnt (f : Nat) : Nat := ([2, 3, 7, 30, 1, 4, 1, 1, 2, 2, 3, 3, 3, 7, 7, 4, 1, 1, 1, 1, 1, 1, 1, 1, 1, 1, 1, 1, 1, 1, 1, 1] : List Nat).getD f 0
def fOff (f : Nat) : Nat := ([0, 2, 5, 12, 42, 43, 47, 48, 49, 51, 53, 56, 59, 62, 69, 76, 80, 81, 82, 83, 84, 85, 86, 87, 88, 89, 90, 91, 92, 93, 94, 95] : List Nat).getD f 0
/-- its class number in vwCl (9: it is of arrays) -/
def fCls (f : Nat) : Nat := ([0, 1, 2, 3, 4, 5, 6, 7, 9, 9, 9, 9, 9, 9, 9, 9, 9, 9, 9, 8, 9, 9, 9, 9, 9, 9, 9, 9, 9, 9, 9, 9] : List Nat).getD f 9
/-- what its arrays hold: 0 ints, 1 bytes, 2 POTS, 3 SHEETS -/
def fElt (f : Nat) : Nat := ([0, 0, 0, 0, 0, 0, 0, 0, 1, 0, 0, 0, 2, 0, 0, 0, 0, 3, 0, 0, 0, 0, 0, 0, 0, 0, 0, 0, 0, 0, 0, 0] : List Nat).getD f 0
def fLen (f : Nat) : Nat := ([0, 0, 0, 0, 0, 0, 0, 0, 50, 20, 5, 5, 10, 50, 50, 40, 40, 4, 6, 0, 268, 268, 96, 6, 3, 60, 60, 40, 4, 4, 160, 40] : List Nat).getD f 0
/-- fields of a class -/
def fNum (c : Nat) : Nat := ([5, 8, 3, 8, 4, 3, 5, 10, 22] : List Nat).getD c 0
/-- fields that are references: where they lead -/
def fRef (f k : Nat) : Option (Nat → Nat × Nat) := (([
  [some fun i => (8, i), some fun i => (9, i)],
  [some fun i => (10, i), some fun i => (11, i), some fun i => (12, i), some fun i => (2, 2 * i), some fun i => (2, 2 * i + 1)],
  [some fun i => (13, i), some fun i => (14, i)],
  [],
  [some fun _ => (2, 6), some fun _ => (0, 0)],
  [some fun i => (15, i)],
  [some fun i => (16, i)],
  [some fun _ => (1, 0), some fun _ => (1, 1), some fun _ => (1, 2), some fun _ => (0, 0), some fun _ => (0, 1), some fun _ => (4, 0), some fun _ => (6, 0), some fun _ => (17, 0), some fun _ => (18, 0)],
  [], [], [], [], [], [], [], [], [], [], [],
  [some fun _ => (20, 0), some fun _ => (21, 0), some fun _ => (22, 0), none, some fun _ => (23, 0), none, none, none, none, none, none, some fun _ => (24, 0), some fun _ => (25, 0), none, some fun _ => (26, 0), some fun _ => (27, 0), none, none, some fun _ => (28, 0), some fun _ => (29, 0), some fun _ => (30, 0), some fun _ => (31, 0)]
  ] : List (List (Option (Nat → Nat × Nat)))).getD f []).getD k none
/-- is a field a truth value -/
def fZ (f k : Nat) : Bool := (f == 3 && k == 7) || (f == 19 && k == 10)
def cv (ad : Nat → Nat → Nat) (v : AV) : Value := match v with
  | .inl x => .int x
  | .inr (.inl y) => .long y
  | .inr (.inr q) => .ref (ad q.1 q.2)
/-- what a field holds -/
def fldV (f i k : Nat) (M : MM) : AV := match fRef f k with
  | some g => .inr (.inr (g i))
  | none => .inl (if fZ f k then nbZ (rdM M f i k) else rdM M f i k)
def arrF (ad : Nat → Nat → Nat) (M : MM) (f i : Nat) : (Nat → Int32) ⊕ (Nat → Int64) ⊕ (Nat → UInt32) ⊕ (Nat → UInt64) ⊕ (Nat → Option Nat) := match fElt f with
  | 0 => .inl (fun j => rdM M f i j)
  | 1 => .inl (fun j => nbB (rdM M f i j))
  | 2 => .inr (.inr (.inr (.inr (fun j => some (ad 3 (10 * i + j))))))
  | _ => .inr (.inr (.inr (.inr (fun j => some (ad 5 j)))))
def cellE (ad : Nat → Nat → Nat) (cA : Nat → ClassId) (M : MM) (f i : Nat) : va_E :=
  if fCls f < 9 then .inr (fCls f, (List.range (fNum (fCls f))).map (fun k => cv ad (fldV f i k M)))
  else .inl (cA (fElt f), fLen f, arrF ad M f i)
def allC : List (Nat × Nat) := (List.range 32).flatMap (fun f => (List.range (fCnt f)).map (fun i => (f, i)))
def world (ad : Nat → Nat → Nat) (cA : Nat → ClassId) (M : MM) : va_W := allC.map (fun q => (ad q.1 q.2, cellE ad cA M q.1 q.2))
def tysA (cA : Nat → ClassId) : List (ClassId × FieldType) := [(cA 0, .int), (cA 1, .byte), (cA 2, .object "PotHandles$Pot"), (cA 3, .object "PotHandles$Sheet")]
set_option maxRecDepth 100000 in
theorem allC_at : ∀ f, f < 32 → ∀ i, i < fCnt f → allC[fOff f + i]? = some (f, i) := by decide +kernel
set_option maxRecDepth 100000 in
theorem allC_in : ∀ k, k < 96 → (allC[k]?).all (fun q => decide (q.1 < 32) && decide (q.2 < fCnt q.1) && decide (fOff q.1 + q.2 = k)) = true := by decide +kernel
set_option maxRecDepth 100000 in
theorem allC_len : allC.length = 96 := by decide +kernel
theorem world_at {ad : Nat → Nat → Nat} {cA : Nat → ClassId} {M : MM} {f i : Nat} (hf : f < 32) (hi : i < fCnt f) : (world ad cA M)[fOff f + i]? = some (ad f i, cellE ad cA M f i) := by
  unfold world
  rw [List.getElem?_map, allC_at f hf i hi]
  rfl
theorem allC_inv {k f i : Nat} (h : allC[k]? = some (f, i)) : f < 32 ∧ i < fCnt f ∧ fOff f + i = k := by
  have hk : k < 96 := by
    rw [← allC_len]
    exact (List.getElem?_eq_some_iff.mp h).1
  have h1 := allC_in k hk
  rw [h] at h1
  simp only [Option.all_some, Bool.and_eq_true, decide_eq_true_eq] at h1
  exact ⟨h1.1.1, h1.1.2, h1.2⟩
theorem rd_wr_ne {M : MM} {f i k f' i' j : Nat} {v : Int32} (h : ¬ (f' = f ∧ i' = i)) : rdM (wrM M f i k v) f' i' j = rdM M f' i' j := by
  have h2 : ¬ (f' = f ∧ j = k ∧ i' = i) := fun e => h ⟨e.1, e.2.2⟩
  unfold rdM wrM
  by_cases h1 : f < 19 <;> by_cases h3 : f' < 19 <;> simp [h1, h3, up3, h2]
theorem rd_wr_eq {M : MM} {f i k j : Nat} {v : Int32} : rdM (wrM M f i k v) f i j = if j = k then v else rdM M f i j := by
  unfold rdM wrM
  by_cases h1 : f < 19 <;> by_cases h3 : j = k <;> simp [h1, h3, up3]
theorem cellE_congr {ad : Nat → Nat → Nat} {cA : Nat → ClassId} {M M' : MM} {f i : Nat} (h : ∀ j, rdM M' f i j = rdM M f i j) : cellE ad cA M' f i = cellE ad cA M f i := by
  have h1 : ∀ k, fldV f i k M' = fldV f i k M := fun k => by unfold fldV; rw [h]
  have h2 : arrF ad M' f i = arrF ad M f i := by unfold arrF; simp only [h]
  unfold cellE
  simp only [h1, h2]
theorem list_set_map {C : List (Nat × Nat)} {E E' : Nat × Nat → Nat × va_E} {n0 : Nat} {q0 : Nat × Nat} (h0 : C[n0]? = some q0) (hu : ∀ k, C[k]? = some q0 → n0 = k) (h : ∀ q, q ≠ q0 → E' q = E q) : (C.map E).set n0 (E' q0) = C.map E' := by
  apply List.ext_getElem?
  intro n
  rw [List.getElem?_set, List.getElem?_map, List.getElem?_map, List.length_map]
  have hlt : n0 < C.length := (List.getElem?_eq_some_iff.mp h0).1
  by_cases hn : n0 = n
  · subst hn
    rw [if_pos rfl, if_pos hlt, h0]
    rfl
  · rw [if_neg hn]
    cases hq : C[n]? with
    | none => rfl
    | some q =>
      have hne : q ≠ q0 := by
        intro e
        rw [e] at hq
        exact hn (hu n hq)
      show some (E q) = some (E' q)
      rw [h q hne]
theorem world_set {ad : Nat → Nat → Nat} {cA : Nat → ClassId} {M M' : MM} {f i : Nat} (hf : f < 32) (hi : i < fCnt f) (h : ∀ f' i', ¬ (f' = f ∧ i' = i) → ∀ j, rdM M' f' i' j = rdM M f' i' j) : (world ad cA M).set (fOff f + i) (ad f i, cellE ad cA M' f i) = world ad cA M' := by
  refine list_set_map (C := allC) (E := fun q => (ad q.1 q.2, cellE ad cA M q.1 q.2)) (E' := fun q => (ad q.1 q.2, cellE ad cA M' q.1 q.2)) (n0 := fOff f + i) (q0 := (f, i)) (allC_at f hf i hi) (fun k hk => (allC_inv hk).2.2) (fun q hq => ?_)
  obtain ⟨f', i'⟩ := q
  have hne : ¬ (f' = f ∧ i' = i) := by
    rintro ⟨rfl, rfl⟩
    exact hq rfl
  show (ad f' i', cellE ad cA M' f' i') = (ad f' i', cellE ad cA M f' i')
  rw [cellE_congr (h f' i' hne)]
theorem map_keys {C : List (Nat × Nat)} {E E' : Nat × Nat → Nat × va_E} (h : ∀ q, (E' q).1 = (E q).1) {k : Nat} {q : Nat × va_E} (hq : (C.map E')[k]? = some q) : ∃ q2 : Nat × va_E, (C.map E)[k]? = some q2 ∧ q2.1 = q.1 := by
  rw [List.getElem?_map] at hq ⊢
  cases h1 : C[k]? with
  | none => rw [h1] at hq; cases hq
  | some z =>
    rw [h1] at hq
    cases hq
    exact ⟨_, rfl, (h z).symm⟩
theorem va_D_world {ad : Nat → Nat → Nat} {cA : Nat → ClassId} {A : Nat → Prop} {M M' : MM} (h : va_D A (world ad cA M)) : va_D A (world ad cA M') := by
  have e : ∀ (k : Nat) (q : Nat × va_E), (world ad cA M' : List (Nat × va_E))[k]? = some q → ∃ q2 : Nat × va_E, (world ad cA M : List (Nat × va_E))[k]? = some q2 ∧ q2.1 = q.1 :=
    fun k q hq => map_keys (C := allC) (E := fun q => (ad q.1 q.2, cellE ad cA M q.1 q.2)) (E' := fun q => (ad q.1 q.2, cellE ad cA M' q.1 q.2)) (fun _ => rfl) hq
  refine ⟨fun i j p q hp hq hpq => ?_, fun k q hq => ?_⟩
  · obtain ⟨p2, g1, g2⟩ := e i p hp
    obtain ⟨q2, g3, g4⟩ := e j q hq
    exact h.1 i j p2 q2 g1 g3 (by rw [g2, g4, hpq])
  · obtain ⟨q2, g3, g4⟩ := e k q hq
    rw [← g4]
    exact h.2 k q2 g3
end
section
def nestL : List Cond := [.methodLinkNest RX1 88 ⟨"PotHandles", "isHouse", "(I)Z"⟩ "PotHandles", .methodLinkNest RX6 48 ⟨"PotHandles", "kindAbove", "(I)I"⟩ "PotHandles"]
def TB : List Cond := lw_tbl.filter goodWord
/-- a method: its class, its name, its bytes, its locals, what it returns -/
abbrev MT : Type := String × MethodName × ByteArray × Nat × Option FieldType
def wsM (t : MT) : List Cond := Cond.code t.2.1 t.2.2.1 t.2.2.2.1 t.2.2.2.2 :: TB
def roomD (d : Nat) : Room := { frames := d, cells := 0, slots := 0, locals := 64 * d }
def CtxG (t : MT) (d : Nat) (p : Program) (R : Room) (s : State) (m : MethodId) (args : Array Value) (c : Code) (cells slots : Nat) (A : Nat → Prop) (H0 : Heap) (ad : Nat → Nat → Nat) (cA : Nat → ClassId) (D : va_G) : Prop :=
  p.tables.exec = Jvm.exec ∧ c.code = t.2.2.1 ∧ c.maxLocals = t.2.2.2.1 ∧ s.vm.findClass t.1 = some m.cls ∧ (∀ w ∈ TB, w.before args s = true) ∧ (∀ w ∈ nestL, va_Nw w s) ∧ va_K D vwCl (tysA cA) s ∧ d ≤ R.frames ∧ 64 * d ≤ R.locals ∧ cells ≤ R.cells ∧ slots ≤ R.slots ∧ (∀ q : Nat, H0.size ≤ q → A q) ∧ (∀ M, va_D A (world ad cA M))
def retI (r : Option AV) : Instr := match r with
  | none => .return_
  | some (.inl _) => .ireturn
  | some (.inr (.inl _)) => .lreturn
  | some (.inr (.inr _)) => .areturn
def retOK (ret : Option FieldType) (r : Option AV) : Prop := match ret, r with
  | none, none => True
  | some .int, some (.inl _) => True
  | some .boolean, some (.inl v) => v = 0 ∨ v = 1
  | some (.object _), some (.inr (.inr _)) => True
  | _, _ => False
def FinG (t : MT) (p : Program) (l : Launch) (e : Env) (R : Room) (s : State) (m : MethodId) (args : Array Value) (below : List Frame) (meth : Method) (c : Code) (cells slots : Nat) (A : Nat → Prop) (H0 : Heap) (ad : Nat → Nat → Nat) (cA : Nat → ClassId) (D : va_G) (Q : State → Prop) (r : Option AV) (M' : MM) : Prop :=
  ∀ (H : Heap) (locs : List Loc) (ls : Array Slot) (pc : Nat), va_P D vwCl (world ad cA M') H → va_S A H0 H locs → decode t.2.2.1 pc = .ok (retI r, 1) → retOK t.2.2.2.2 r →
    W p l e R s m args below meth c H locs cells slots Q (F0 m pc ls (r.toList.map (cv ad)))
abbrev CtxX : Type := State → (Nat → Prop) → Heap → (Nat → Nat → Nat) → Prop
/-- at a place of a method, with these locals, this stack, this memory: it comes to its end, with this answer and this memory -/
def GX (X : CtxX) (t : MT) (d : Nat) (r : Option AV) (M' : MM) (pc : Nat) (L : List (Nat × AV)) (st : List AV) (M : MM) : Prop :=
  ∀ (p : Program) (l : Launch) (e : Env) (R : Room) (s : State) (m : MethodId) (args : Array Value) (below : List Frame) (meth : Method) (c : Code) (cells slots : Nat) (A : Nat → Prop) (H0 : Heap) (ad : Nat → Nat → Nat) (cA : Nat → ClassId) (D : va_G) (Q : State → Prop),
    CtxG t d p R s m args c cells slots A H0 ad cA D → X s A H0 ad → FinG t p l e R s m args below meth c cells slots A H0 ad cA D Q r M' →
    ∀ (H : Heap) (locs : List Loc) (ls : Array Slot), lv_has ls t.2.2.2.1 (L.map fun q => (q.1, cv ad q.2)) → va_P D vwCl (world ad cA M) H → va_S A H0 H locs →
      W p l e R s m args below meth c H locs cells slots Q (F0 m pc ls (st.map (cv ad)))
abbrev G (t : MT) (d : Nat) (r : Option AV) (M' : MM) (pc : Nat) (L : List (Nat × AV)) (st : List AV) (M : MM) : Prop := GX (fun _ _ _ _ => True) t d r M' pc L st M
def av2 (v : AV) : Bool := match v with
  | .inr (.inl _) => true
  | _ => false
def lset (i : Nat) (v : AV) (L : List (Nat × AV)) : List (Nat × AV) := (i, v) :: L.filter (fun q => !(q.1 == i) && !(q.1 + 1 == i && av2 q.2))
theorem lget {ad : Nat → Nat → Nat} {ls : Array Slot} {n : Nat} {L : List (Nat × AV)} (h : lv_has ls n (L.map fun q => (q.1, cv ad q.2))) {i : Nat} {v : AV} (hv : L.lookup i = some v) : ls[i]? = some (.val (cv ad v)) := by
  have hm : (i, v) ∈ L := by
    induction L with
    | nil => simp at hv
    | cons a L ih =>
      obtain ⟨j, w⟩ := a
      rw [List.lookup_cons] at hv
      by_cases hij : (i == j) = true
      · rw [hij] at hv
        simp only [Option.some.injEq] at hv
        have := eq_of_beq hij
        subst this; subst hv
        exact List.mem_cons_self
      · rw [Bool.not_eq_true] at hij
        rw [hij] at hv
        refine List.mem_cons_of_mem _ (ih ⟨h.1, h.2.1, fun q hq => h.2.2 q ?_⟩ hv)
        exact List.mem_cons_of_mem _ hq
  exact h.2.2 (i, cv ad v) (List.mem_map.mpr ⟨(i, v), hm, rfl⟩)
theorem av2_cat {ad : Nat → Nat → Nat} (v : AV) : ((cv ad v).category == 2) = av2 v := by
  rcases v with x | y | q <;> rfl
theorem lset_map {ad : Nat → Nat → Nat} (i : Nat) (v : AV) (L : List (Nat × AV)) : (i, cv ad v) :: (L.map fun q => (q.1, cv ad q.2)).filter (fun q => !(q.1 == i) && !(q.1 + 1 == i && q.2.category == 2)) = (lset i v L).map (fun q => (q.1, cv ad q.2)) := by
  unfold lset
  rw [List.map_cons, List.filter_map]
  congr 2
  apply List.filter_congr
  intro q _
  show (!(q.1 == i) && !(q.1 + 1 == i && ((cv ad q.2).category == 2))) = _
  rw [av2_cat]
/-- fewer locals, or in another order -/
theorem G_sub {X : CtxX} {t : MT} {d : Nat} {r : Option AV} {M' : MM} {pc : Nat} {L : List (Nat × AV)} {st : List AV} {M : MM} (L2 : List (Nat × AV)) (ks : List Nat) (h : ks.filterMap (fun k => L[k]?) = L2) (k : GX X t d r M' pc L2 st M) : GX X t d r M' pc L st M := by
  intro p l e R s m args below meth c cells slots A H0 ad cA D Q C Xh F H locs ls hl hP hS
  refine k p l e R s m args below meth c cells slots A H0 ad cA D Q C Xh F H locs ls (lv_sub hl ks ?_) hP hS
  subst h
  unfold lv_pick
  rw [List.map_filterMap]
  congr 1
  funext j
  rw [List.getElem?_map]
section ONE
variable {X : CtxX} {t : MT} {d : Nat} {r : Option AV} {M' : MM} {pc : Nat} {L L2 : List (Nat × AV)} {st : List AV} {M : MM}
theorem G_iconst {n : Int} {v : Int32} (hdg : decode t.2.2.1 pc = .ok (.iconst n, 1)) (hv : Int32.ofInt n = v) (k : GX X t d r M' (pc + 1) L (.inl v :: st) M) : GX X t d r M' pc L st M := by
  intro p l e R s m args below meth c cells slots A H0 ad cA D Q C Xh F H locs ls hl hP hS
  exact lv_iconst C.1 C.2.1 hdg hv (k p l e R s m args below meth c cells slots A H0 ad cA D Q C Xh F H locs ls hl hP hS)
theorem G_bipush {n : Int} {v : Int32} (hdg : decode t.2.2.1 pc = .ok (.bipush n, 2)) (hv : (Int8.ofInt n).toInt32 = v) (k : GX X t d r M' (pc + 2) L (.inl v :: st) M) : GX X t d r M' pc L st M := by
  intro p l e R s m args below meth c cells slots A H0 ad cA D Q C Xh F H locs ls hl hP hS
  exact lv_bipush C.1 C.2.1 hdg hv (k p l e R s m args below meth c cells slots A H0 ad cA D Q C Xh F H locs ls hl hP hS)
theorem G_sipush {n : Int} {v : Int32} (hdg : decode t.2.2.1 pc = .ok (.sipush n, 3)) (hv : (Int16.ofInt n).toInt32 = v) (k : GX X t d r M' (pc + 3) L (.inl v :: st) M) : GX X t d r M' pc L st M := by
  intro p l e R s m args below meth c cells slots A H0 ad cA D Q C Xh F H locs ls hl hP hS
  exact lv_sipush C.1 C.2.1 hdg hv (k p l e R s m args below meth c cells slots A H0 ad cA D Q C Xh F H locs ls hl hP hS)
theorem G_lconst {n : Fin 2} {v : Int64} (hdg : decode t.2.2.1 pc = .ok (.lconst n, 1)) (hv : Int64.ofNat (n : Nat) = v) (k : GX X t d r M' (pc + 1) L (.inr (.inl v) :: st) M) : GX X t d r M' pc L st M := by
  intro p l e R s m args below meth c cells slots A H0 ad cA D Q C Xh F H locs ls hl hP hS
  exact lv_lconst C.1 C.2.1 hdg hv (k p l e R s m args below meth c cells slots A H0 ad cA D Q C Xh F H locs ls hl hP hS)
theorem G_ldc {i : Nat} {v : Int32} (hw : Cond.constant t.1 i v ∈ TB) (hdg : decode t.2.2.1 pc = .ok (.ldc i, 2)) (k : GX X t d r M' (pc + 2) L (.inl v :: st) M) : GX X t d r M' pc L st M := by
  intro p l e R s m args below meth c cells slots A H0 ad cA D Q C Xh F H locs ls hl hP hS
  exact lv_ldc C.1 C.2.1 C.2.2.2.1 (C.2.2.2.2.1 _ hw) hdg (k p l e R s m args below meth c cells slots A H0 ad cA D Q C Xh F H locs ls hl hP hS)
theorem G_ldcw {i : Nat} {v : Int32} (hw : Cond.constant t.1 i v ∈ TB) (hdg : decode t.2.2.1 pc = .ok (.ldc_w i, 3)) (k : GX X t d r M' (pc + 3) L (.inl v :: st) M) : GX X t d r M' pc L st M := by
  intro p l e R s m args below meth c cells slots A H0 ad cA D Q C Xh F H locs ls hl hP hS
  exact lv_ldcw C.1 C.2.1 C.2.2.2.1 (C.2.2.2.2.1 _ hw) hdg (k p l e R s m args below meth c cells slots A H0 ad cA D Q C Xh F H locs ls hl hP hS)
theorem G_ldc2 {i : Nat} {v : Int64} (hw : Cond.constantLong t.1 i v ∈ TB) (hdg : decode t.2.2.1 pc = .ok (.ldc2_w i, 3)) (k : GX X t d r M' (pc + 3) L (.inr (.inl v) :: st) M) : GX X t d r M' pc L st M := by
  intro p l e R s m args below meth c cells slots A H0 ad cA D Q C Xh F H locs ls hl hP hS
  exact lv_ldc2 C.1 C.2.1 C.2.2.2.1 (C.2.2.2.2.1 _ hw) hdg (k p l e R s m args below meth c cells slots A H0 ad cA D Q C Xh F H locs ls hl hP hS)
theorem G_iload_n {k0 : Fin 4} {x : Int32} (hdg : decode t.2.2.1 pc = .ok (.iload_n k0, 1)) (hx : L.lookup (k0 : Nat) = some (.inl x)) (k : GX X t d r M' (pc + 1) L (.inl x :: st) M) : GX X t d r M' pc L st M := by
  intro p l e R s m args below meth c cells slots A H0 ad cA D Q C Xh F H locs ls hl hP hS
  exact lv_iload_n C.1 C.2.1 hdg rfl (lget hl hx) (k p l e R s m args below meth c cells slots A H0 ad cA D Q C Xh F H locs ls hl hP hS)
theorem G_iload {i : Nat} {x : Int32} (hdg : decode t.2.2.1 pc = .ok (.iload i, 2)) (hx : L.lookup i = some (.inl x)) (k : GX X t d r M' (pc + 2) L (.inl x :: st) M) : GX X t d r M' pc L st M := by
  intro p l e R s m args below meth c cells slots A H0 ad cA D Q C Xh F H locs ls hl hP hS
  exact lv_iload C.1 C.2.1 hdg (lget hl hx) (k p l e R s m args below meth c cells slots A H0 ad cA D Q C Xh F H locs ls hl hP hS)
theorem G_lload_n {k0 : Fin 4} {x : Int64} (hdg : decode t.2.2.1 pc = .ok (.lload_n k0, 1)) (hx : L.lookup (k0 : Nat) = some (.inr (.inl x))) (k : GX X t d r M' (pc + 1) L (.inr (.inl x) :: st) M) : GX X t d r M' pc L st M := by
  intro p l e R s m args below meth c cells slots A H0 ad cA D Q C Xh F H locs ls hl hP hS
  exact lv_lload_n C.1 C.2.1 hdg rfl (lget hl hx) (k p l e R s m args below meth c cells slots A H0 ad cA D Q C Xh F H locs ls hl hP hS)
theorem G_lload {i : Nat} {x : Int64} (hdg : decode t.2.2.1 pc = .ok (.lload i, 2)) (hx : L.lookup i = some (.inr (.inl x))) (k : GX X t d r M' (pc + 2) L (.inr (.inl x) :: st) M) : GX X t d r M' pc L st M := by
  intro p l e R s m args below meth c cells slots A H0 ad cA D Q C Xh F H locs ls hl hP hS
  exact lv_lload C.1 C.2.1 hdg (lget hl hx) (k p l e R s m args below meth c cells slots A H0 ad cA D Q C Xh F H locs ls hl hP hS)
theorem G_aload_n {k0 : Fin 4} {q : Nat × Nat} (hdg : decode t.2.2.1 pc = .ok (.aload_n k0, 1)) (hx : L.lookup (k0 : Nat) = some (.inr (.inr q))) (k : GX X t d r M' (pc + 1) L (.inr (.inr q) :: st) M) : GX X t d r M' pc L st M := by
  intro p l e R s m args below meth c cells slots A H0 ad cA D Q C Xh F H locs ls hl hP hS
  exact lv_aload_n C.1 C.2.1 hdg rfl (lget hl hx) (k p l e R s m args below meth c cells slots A H0 ad cA D Q C Xh F H locs ls hl hP hS)
theorem G_aload {i : Nat} {q : Nat × Nat} (hdg : decode t.2.2.1 pc = .ok (.aload i, 2)) (hx : L.lookup i = some (.inr (.inr q))) (k : GX X t d r M' (pc + 2) L (.inr (.inr q) :: st) M) : GX X t d r M' pc L st M := by
  intro p l e R s m args below meth c cells slots A H0 ad cA D Q C Xh F H locs ls hl hP hS
  exact lv_aload C.1 C.2.1 hdg (lget hl hx) (k p l e R s m args below meth c cells slots A H0 ad cA D Q C Xh F H locs ls hl hP hS)
theorem G_istore_n {k0 : Fin 4} {x : Int32} (hdg : decode t.2.2.1 pc = .ok (.istore_n k0, 1)) (hn : (k0 : Nat) < t.2.2.2.1) (hL : lset (k0 : Nat) (.inl x) L = L2) (k : GX X t d r M' (pc + 1) L2 st M) : GX X t d r M' pc L (.inl x :: st) M := by
  intro p l e R s m args below meth c cells slots A H0 ad cA D Q C Xh F H locs ls hl hP hS
  subst hL
  exact lv_istore_n C.1 C.2.1 hdg rfl hl hn (lset_map (ad := ad) _ (.inl x) L) (fun ls hl => k p l e R s m args below meth c cells slots A H0 ad cA D Q C Xh F H locs ls hl hP hS)
theorem G_istore {i : Nat} {x : Int32} (hdg : decode t.2.2.1 pc = .ok (.istore i, 2)) (hn : i < t.2.2.2.1) (hL : lset i (.inl x) L = L2) (k : GX X t d r M' (pc + 2) L2 st M) : GX X t d r M' pc L (.inl x :: st) M := by
  intro p l e R s m args below meth c cells slots A H0 ad cA D Q C Xh F H locs ls hl hP hS
  subst hL
  exact lv_istore C.1 C.2.1 hdg hl hn (lset_map (ad := ad) _ (.inl x) L) (fun ls hl => k p l e R s m args below meth c cells slots A H0 ad cA D Q C Xh F H locs ls hl hP hS)
theorem G_astore_n {k0 : Fin 4} {q : Nat × Nat} (hdg : decode t.2.2.1 pc = .ok (.astore_n k0, 1)) (hn : (k0 : Nat) < t.2.2.2.1) (hL : lset (k0 : Nat) (.inr (.inr q)) L = L2) (k : GX X t d r M' (pc + 1) L2 st M) : GX X t d r M' pc L (.inr (.inr q) :: st) M := by
  intro p l e R s m args below meth c cells slots A H0 ad cA D Q C Xh F H locs ls hl hP hS
  subst hL
  exact lv_astore_n C.1 C.2.1 hdg rfl hl hn (lset_map (ad := ad) _ (.inr (.inr q)) L) (fun ls hl => k p l e R s m args below meth c cells slots A H0 ad cA D Q C Xh F H locs ls hl hP hS)
theorem G_astore {i : Nat} {q : Nat × Nat} (hdg : decode t.2.2.1 pc = .ok (.astore i, 2)) (hn : i < t.2.2.2.1) (hL : lset i (.inr (.inr q)) L = L2) (k : GX X t d r M' (pc + 2) L2 st M) : GX X t d r M' pc L (.inr (.inr q) :: st) M := by
  intro p l e R s m args below meth c cells slots A H0 ad cA D Q C Xh F H locs ls hl hP hS
  subst hL
  exact lv_astore C.1 C.2.1 hdg hl hn (lset_map (ad := ad) _ (.inr (.inr q)) L) (fun ls hl => k p l e R s m args below meth c cells slots A H0 ad cA D Q C Xh F H locs ls hl hP hS)
theorem G_iinc {i : Nat} {n : Int} {x v : Int32} (hdg : decode t.2.2.1 pc = .ok (.iinc i n, 3)) (hx : L.lookup i = some (.inl x)) (hv : x + Int32.ofInt n = v) (hn : i < t.2.2.2.1) (hL : lset i (.inl v) L = L2) (k : GX X t d r M' (pc + 3) L2 st M) : GX X t d r M' pc L st M := by
  intro p l e R s m args below meth c cells slots A H0 ad cA D Q C Xh F H locs ls hl hP hS
  subst hL
  have hm : ∃ j : Nat, L[j]? = some (i, (Sum.inl x : AV)) := by
    have h1 := hx
    clear k hl
    induction L with
    | nil => simp at h1
    | cons a L ih =>
      obtain ⟨j, w⟩ := a
      rw [List.lookup_cons] at h1
      by_cases hij : (i == j) = true
      · rw [hij] at h1
        simp only [Option.some.injEq] at h1
        have := eq_of_beq hij
        subst this; subst h1
        exact ⟨0, rfl⟩
      · rw [Bool.not_eq_true] at hij
        rw [hij] at h1
        obtain ⟨j2, h2⟩ := ih h1 h1
        exact ⟨j2 + 1, h2⟩
  obtain ⟨j, hj⟩ := hm
  exact lv_iinc C.1 C.2.1 hdg hl (k := j) (by rw [List.getElem?_map, hj]; rfl) hv hn (lset_map (ad := ad) _ (.inl v) L) (fun ls hl => k p l e R s m args below meth c cells slots A H0 ad cA D Q C Xh F H locs ls hl hP hS)
theorem av1_cat {ad : Nat → Nat → Nat} {v : AV} (h : av2 v = false) : (cv ad v).category = 1 := by
  rcases v with x | y | q
  · rfl
  · cases h
  · rfl
def jrem (x y : Int32) : Int32 := x - x / y * y
theorem G_iadd {x y : Int32} (hdg : decode t.2.2.1 pc = .ok (.iadd, 1)) (k : GX X t d r M' (pc + 1) L (.inl (x + y) :: st) M) : GX X t d r M' pc L (.inl y :: .inl x :: st) M := by
  intro p l e R s m args below meth c cells slots A H0 ad cA D Q C Xh F H locs ls hl hP hS
  exact lv_iadd C.1 C.2.1 hdg (k p l e R s m args below meth c cells slots A H0 ad cA D Q C Xh F H locs ls hl hP hS)
theorem G_isub {x y : Int32} (hdg : decode t.2.2.1 pc = .ok (.isub, 1)) (k : GX X t d r M' (pc + 1) L (.inl (x - y) :: st) M) : GX X t d r M' pc L (.inl y :: .inl x :: st) M := by
  intro p l e R s m args below meth c cells slots A H0 ad cA D Q C Xh F H locs ls hl hP hS
  exact lv_isub C.1 C.2.1 hdg (k p l e R s m args below meth c cells slots A H0 ad cA D Q C Xh F H locs ls hl hP hS)
theorem G_imul {x y : Int32} (hdg : decode t.2.2.1 pc = .ok (.imul, 1)) (k : GX X t d r M' (pc + 1) L (.inl (x * y) :: st) M) : GX X t d r M' pc L (.inl y :: .inl x :: st) M := by
  intro p l e R s m args below meth c cells slots A H0 ad cA D Q C Xh F H locs ls hl hP hS
  exact lv_imul C.1 C.2.1 hdg (k p l e R s m args below meth c cells slots A H0 ad cA D Q C Xh F H locs ls hl hP hS)
theorem G_iand {x y : Int32} (hdg : decode t.2.2.1 pc = .ok (.iand, 1)) (k : GX X t d r M' (pc + 1) L (.inl (x &&& y) :: st) M) : GX X t d r M' pc L (.inl y :: .inl x :: st) M := by
  intro p l e R s m args below meth c cells slots A H0 ad cA D Q C Xh F H locs ls hl hP hS
  exact lv_iand C.1 C.2.1 hdg (k p l e R s m args below meth c cells slots A H0 ad cA D Q C Xh F H locs ls hl hP hS)
theorem G_ior {x y : Int32} (hdg : decode t.2.2.1 pc = .ok (.ior, 1)) (k : GX X t d r M' (pc + 1) L (.inl (x ||| y) :: st) M) : GX X t d r M' pc L (.inl y :: .inl x :: st) M := by
  intro p l e R s m args below meth c cells slots A H0 ad cA D Q C Xh F H locs ls hl hP hS
  exact lv_ior C.1 C.2.1 hdg (k p l e R s m args below meth c cells slots A H0 ad cA D Q C Xh F H locs ls hl hP hS)
theorem G_ixor {x y : Int32} (hdg : decode t.2.2.1 pc = .ok (.ixor, 1)) (k : GX X t d r M' (pc + 1) L (.inl (x ^^^ y) :: st) M) : GX X t d r M' pc L (.inl y :: .inl x :: st) M := by
  intro p l e R s m args below meth c cells slots A H0 ad cA D Q C Xh F H locs ls hl hP hS
  exact lv_ixor C.1 C.2.1 hdg (k p l e R s m args below meth c cells slots A H0 ad cA D Q C Xh F H locs ls hl hP hS)
theorem G_ishl {x y : Int32} (hdg : decode t.2.2.1 pc = .ok (.ishl, 1)) (k : GX X t d r M' (pc + 1) L (.inl (x <<< (y &&& 31)) :: st) M) : GX X t d r M' pc L (.inl y :: .inl x :: st) M := by
  intro p l e R s m args below meth c cells slots A H0 ad cA D Q C Xh F H locs ls hl hP hS
  exact lv_ishl C.1 C.2.1 hdg (k p l e R s m args below meth c cells slots A H0 ad cA D Q C Xh F H locs ls hl hP hS)
theorem G_ishr {x y : Int32} (hdg : decode t.2.2.1 pc = .ok (.ishr, 1)) (k : GX X t d r M' (pc + 1) L (.inl (x >>> (y &&& 31)) :: st) M) : GX X t d r M' pc L (.inl y :: .inl x :: st) M := by
  intro p l e R s m args below meth c cells slots A H0 ad cA D Q C Xh F H locs ls hl hP hS
  exact lv_ishr C.1 C.2.1 hdg (k p l e R s m args below meth c cells slots A H0 ad cA D Q C Xh F H locs ls hl hP hS)
theorem G_idiv {x y : Int32} (hne : ¬ y = 0) (hdg : decode t.2.2.1 pc = .ok (.idiv, 1)) (k : GX X t d r M' (pc + 1) L (.inl (x / y) :: st) M) : GX X t d r M' pc L (.inl y :: .inl x :: st) M := by
  intro p l e R s m args below meth c cells slots A H0 ad cA D Q C Xh F H locs ls hl hP hS
  exact lv_idiv C.1 C.2.1 hdg hne (k p l e R s m args below meth c cells slots A H0 ad cA D Q C Xh F H locs ls hl hP hS)
theorem G_irem {x y : Int32} (hne : ¬ y = 0) (hdg : decode t.2.2.1 pc = .ok (.irem, 1)) (k : GX X t d r M' (pc + 1) L (.inl (jrem x y) :: st) M) : GX X t d r M' pc L (.inl y :: .inl x :: st) M := by
  intro p l e R s m args below meth c cells slots A H0 ad cA D Q C Xh F H locs ls hl hP hS
  exact lv_irem C.1 C.2.1 hdg hne (k p l e R s m args below meth c cells slots A H0 ad cA D Q C Xh F H locs ls hl hP hS)
def jushr (x y : Int32) : Int32 := (x.toUInt32 >>> (y.toUInt32 &&& Int32.toUInt32 31)).toInt32
def jlushr (x : Int64) (y : Int32) : Int64 := (x.toUInt64 >>> (y.toInt64.toUInt64 &&& Int64.toUInt64 63)).toInt64
theorem G_iushr {x y : Int32} (hdg : decode t.2.2.1 pc = .ok (.iushr, 1)) (k : GX X t d r M' (pc + 1) L (.inl (jushr x y) :: st) M) : GX X t d r M' pc L (.inl y :: .inl x :: st) M := by
  intro p l e R s m args below meth c cells slots A H0 ad cA D Q C Xh F H locs ls hl hP hS
  exact lv_iushr C.1 C.2.1 hdg rfl (k p l e R s m args below meth c cells slots A H0 ad cA D Q C Xh F H locs ls hl hP hS)
theorem G_ineg {x : Int32} (hdg : decode t.2.2.1 pc = .ok (.ineg, 1)) (k : GX X t d r M' (pc + 1) L (.inl (-x) :: st) M) : GX X t d r M' pc L (.inl x :: st) M := by
  intro p l e R s m args below meth c cells slots A H0 ad cA D Q C Xh F H locs ls hl hP hS
  exact lv_ineg C.1 C.2.1 hdg (k p l e R s m args below meth c cells slots A H0 ad cA D Q C Xh F H locs ls hl hP hS)
theorem G_i2b {x : Int32} (hdg : decode t.2.2.1 pc = .ok (.i2b, 1)) (k : GX X t d r M' (pc + 1) L (.inl (nbB x) :: st) M) : GX X t d r M' pc L (.inl x :: st) M := by
  intro p l e R s m args below meth c cells slots A H0 ad cA D Q C Xh F H locs ls hl hP hS
  exact lv_i2b C.1 C.2.1 hdg rfl (k p l e R s m args below meth c cells slots A H0 ad cA D Q C Xh F H locs ls hl hP hS)
theorem G_i2s {x : Int32} (hdg : decode t.2.2.1 pc = .ok (.i2s, 1)) (k : GX X t d r M' (pc + 1) L (.inl (x.toInt16.toInt32) :: st) M) : GX X t d r M' pc L (.inl x :: st) M := by
  intro p l e R s m args below meth c cells slots A H0 ad cA D Q C Xh F H locs ls hl hP hS
  exact lv_i2s C.1 C.2.1 hdg rfl (k p l e R s m args below meth c cells slots A H0 ad cA D Q C Xh F H locs ls hl hP hS)
theorem G_i2l {x : Int32} (hdg : decode t.2.2.1 pc = .ok (.i2l, 1)) (k : GX X t d r M' (pc + 1) L (.inr (.inl (x.toInt64)) :: st) M) : GX X t d r M' pc L (.inl x :: st) M := by
  intro p l e R s m args below meth c cells slots A H0 ad cA D Q C Xh F H locs ls hl hP hS
  exact lv_i2l C.1 C.2.1 hdg rfl (k p l e R s m args below meth c cells slots A H0 ad cA D Q C Xh F H locs ls hl hP hS)
theorem G_l2i {x : Int64} (hdg : decode t.2.2.1 pc = .ok (.l2i, 1)) (k : GX X t d r M' (pc + 1) L (.inl (x.toInt32) :: st) M) : GX X t d r M' pc L (.inr (.inl x) :: st) M := by
  intro p l e R s m args below meth c cells slots A H0 ad cA D Q C Xh F H locs ls hl hP hS
  exact lv_l2i C.1 C.2.1 hdg rfl (k p l e R s m args below meth c cells slots A H0 ad cA D Q C Xh F H locs ls hl hP hS)
theorem G_land {x y : Int64} (hdg : decode t.2.2.1 pc = .ok (.land, 1)) (k : GX X t d r M' (pc + 1) L (.inr (.inl (x &&& y)) :: st) M) : GX X t d r M' pc L (.inr (.inl y) :: .inr (.inl x) :: st) M := by
  intro p l e R s m args below meth c cells slots A H0 ad cA D Q C Xh F H locs ls hl hP hS
  exact lv_land C.1 C.2.1 hdg (k p l e R s m args below meth c cells slots A H0 ad cA D Q C Xh F H locs ls hl hP hS)
theorem G_lor {x y : Int64} (hdg : decode t.2.2.1 pc = .ok (.lor, 1)) (k : GX X t d r M' (pc + 1) L (.inr (.inl (x ||| y)) :: st) M) : GX X t d r M' pc L (.inr (.inl y) :: .inr (.inl x) :: st) M := by
  intro p l e R s m args below meth c cells slots A H0 ad cA D Q C Xh F H locs ls hl hP hS
  exact lv_lor C.1 C.2.1 hdg (k p l e R s m args below meth c cells slots A H0 ad cA D Q C Xh F H locs ls hl hP hS)
theorem G_lshl {x : Int64} {y : Int32} (hdg : decode t.2.2.1 pc = .ok (.lshl, 1)) (k : GX X t d r M' (pc + 1) L (.inr (.inl (x <<< (y.toInt64 &&& 63))) :: st) M) : GX X t d r M' pc L (.inl y :: .inr (.inl x) :: st) M := by
  intro p l e R s m args below meth c cells slots A H0 ad cA D Q C Xh F H locs ls hl hP hS
  exact lv_lshl C.1 C.2.1 hdg rfl (k p l e R s m args below meth c cells slots A H0 ad cA D Q C Xh F H locs ls hl hP hS)
theorem G_lshr {x : Int64} {y : Int32} (hdg : decode t.2.2.1 pc = .ok (.lshr, 1)) (k : GX X t d r M' (pc + 1) L (.inr (.inl (x >>> (y.toInt64 &&& 63))) :: st) M) : GX X t d r M' pc L (.inl y :: .inr (.inl x) :: st) M := by
  intro p l e R s m args below meth c cells slots A H0 ad cA D Q C Xh F H locs ls hl hP hS
  exact lv_lshr C.1 C.2.1 hdg rfl (k p l e R s m args below meth c cells slots A H0 ad cA D Q C Xh F H locs ls hl hP hS)
theorem G_lushr {x : Int64} {y : Int32} (hdg : decode t.2.2.1 pc = .ok (.lushr, 1)) (k : GX X t d r M' (pc + 1) L (.inr (.inl (jlushr x y)) :: st) M) : GX X t d r M' pc L (.inl y :: .inr (.inl x) :: st) M := by
  intro p l e R s m args below meth c cells slots A H0 ad cA D Q C Xh F H locs ls hl hP hS
  exact lv_lushr C.1 C.2.1 hdg rfl (k p l e R s m args below meth c cells slots A H0 ad cA D Q C Xh F H locs ls hl hP hS)
theorem G_lcmp {x y : Int64} (hdg : decode t.2.2.1 pc = .ok (.lcmp, 1)) (k : GX X t d r M' (pc + 1) L (.inl (lg_cmp x y) :: st) M) : GX X t d r M' pc L (.inr (.inl y) :: .inr (.inl x) :: st) M := by
  intro p l e R s m args below meth c cells slots A H0 ad cA D Q C Xh F H locs ls hl hP hS
  exact W.lcmp C.1 C.2.1 hdg (k p l e R s m args below meth c cells slots A H0 ad cA D Q C Xh F H locs ls hl hP hS)
theorem G_dup {v : AV} (h2 : av2 v = false) (hdg : decode t.2.2.1 pc = .ok (.dup, 1)) (k : GX X t d r M' (pc + 1) L (v :: v :: st) M) : GX X t d r M' pc L (v :: st) M := by
  intro p l e R s m args below meth c cells slots A H0 ad cA D Q C Xh F H locs ls hl hP hS
  exact lv_dup C.1 C.2.1 hdg (av1_cat h2) (k p l e R s m args below meth c cells slots A H0 ad cA D Q C Xh F H locs ls hl hP hS)
theorem G_dup2 {v w : AV} (h2 : av2 v = false) (h3 : av2 w = false) (hdg : decode t.2.2.1 pc = .ok (.dup2, 1)) (k : GX X t d r M' (pc + 1) L (v :: w :: v :: w :: st) M) : GX X t d r M' pc L (v :: w :: st) M := by
  intro p l e R s m args below meth c cells slots A H0 ad cA D Q C Xh F H locs ls hl hP hS
  exact lv_dup2_11 C.1 C.2.1 hdg (av1_cat h2) (av1_cat h3) (k p l e R s m args below meth c cells slots A H0 ad cA D Q C Xh F H locs ls hl hP hS)
theorem G_goto {off : Int} {tgt : Nat} (hdg : decode t.2.2.1 pc = .ok (.goto off, 3)) (ht : (pc : Int) + off = (tgt : Int)) (k : GX X t d r M' tgt L st M) : GX X t d r M' pc L st M := by
  intro p l e R s m args below meth c cells slots A H0 ad cA D Q C Xh F H locs ls hl hP hS
  exact lv_goto C.1 C.2.1 hdg ht (k p l e R s m args below meth c cells slots A H0 ad cA D Q C Xh F H locs ls hl hP hS)
theorem G_icmp_eq {x y : Int32} {off : Int} {tgt : Nat} (hdg : decode t.2.2.1 pc = .ok (.if_icmp .eq off, 3)) (ht : (pc : Int) + off = (tgt : Int)) (kt : x = y → GX X t d r M' tgt L st M) (kf : ¬ x = y → GX X t d r M' (pc + 3) L st M) : GX X t d r M' pc L (.inl y :: .inl x :: st) M := by
  intro p l e R s m args below meth c cells slots A H0 ad cA D Q C Xh F H locs ls hl hP hS
  exact lv_icmp_eq C.1 C.2.1 hdg ht (fun h => kt (h) p l e R s m args below meth c cells slots A H0 ad cA D Q C Xh F H locs ls hl hP hS) (fun h => kf (h) p l e R s m args below meth c cells slots A H0 ad cA D Q C Xh F H locs ls hl hP hS)
theorem G_if_eq {x : Int32} {off : Int} {tgt : Nat} (hdg : decode t.2.2.1 pc = .ok (.ifCond .eq off, 3)) (ht : (pc : Int) + off = (tgt : Int)) (kt : x = 0 → GX X t d r M' tgt L st M) (kf : ¬ x = 0 → GX X t d r M' (pc + 3) L st M) : GX X t d r M' pc L (.inl x :: st) M := by
  intro p l e R s m args below meth c cells slots A H0 ad cA D Q C Xh F H locs ls hl hP hS
  exact lv_if_eq C.1 C.2.1 hdg ht (fun h => kt (h) p l e R s m args below meth c cells slots A H0 ad cA D Q C Xh F H locs ls hl hP hS) (fun h => kf (h) p l e R s m args below meth c cells slots A H0 ad cA D Q C Xh F H locs ls hl hP hS)
theorem G_icmp_ne {x y : Int32} {off : Int} {tgt : Nat} (hdg : decode t.2.2.1 pc = .ok (.if_icmp .ne off, 3)) (ht : (pc : Int) + off = (tgt : Int)) (kt : ¬ x = y → GX X t d r M' tgt L st M) (kf : x = y → GX X t d r M' (pc + 3) L st M) : GX X t d r M' pc L (.inl y :: .inl x :: st) M := by
  intro p l e R s m args below meth c cells slots A H0 ad cA D Q C Xh F H locs ls hl hP hS
  exact lv_icmp_ne C.1 C.2.1 hdg ht (fun h => kt (h) p l e R s m args below meth c cells slots A H0 ad cA D Q C Xh F H locs ls hl hP hS) (fun h => kf (h) p l e R s m args below meth c cells slots A H0 ad cA D Q C Xh F H locs ls hl hP hS)
theorem G_if_ne {x : Int32} {off : Int} {tgt : Nat} (hdg : decode t.2.2.1 pc = .ok (.ifCond .ne off, 3)) (ht : (pc : Int) + off = (tgt : Int)) (kt : ¬ x = 0 → GX X t d r M' tgt L st M) (kf : x = 0 → GX X t d r M' (pc + 3) L st M) : GX X t d r M' pc L (.inl x :: st) M := by
  intro p l e R s m args below meth c cells slots A H0 ad cA D Q C Xh F H locs ls hl hP hS
  exact lv_if_ne C.1 C.2.1 hdg ht (fun h => kt (h) p l e R s m args below meth c cells slots A H0 ad cA D Q C Xh F H locs ls hl hP hS) (fun h => kf (h) p l e R s m args below meth c cells slots A H0 ad cA D Q C Xh F H locs ls hl hP hS)
theorem G_icmp_lt {x y : Int32} {off : Int} {tgt : Nat} (hdg : decode t.2.2.1 pc = .ok (.if_icmp .lt off, 3)) (ht : (pc : Int) + off = (tgt : Int)) (kt : x < y → GX X t d r M' tgt L st M) (kf : ¬ x < y → GX X t d r M' (pc + 3) L st M) : GX X t d r M' pc L (.inl y :: .inl x :: st) M := by
  intro p l e R s m args below meth c cells slots A H0 ad cA D Q C Xh F H locs ls hl hP hS
  exact lv_icmp_lt C.1 C.2.1 hdg ht (fun h => kt (h) p l e R s m args below meth c cells slots A H0 ad cA D Q C Xh F H locs ls hl hP hS) (fun h => kf (h) p l e R s m args below meth c cells slots A H0 ad cA D Q C Xh F H locs ls hl hP hS)
theorem G_if_lt {x : Int32} {off : Int} {tgt : Nat} (hdg : decode t.2.2.1 pc = .ok (.ifCond .lt off, 3)) (ht : (pc : Int) + off = (tgt : Int)) (kt : x < 0 → GX X t d r M' tgt L st M) (kf : ¬ x < 0 → GX X t d r M' (pc + 3) L st M) : GX X t d r M' pc L (.inl x :: st) M := by
  intro p l e R s m args below meth c cells slots A H0 ad cA D Q C Xh F H locs ls hl hP hS
  exact lv_if_lt C.1 C.2.1 hdg ht (fun h => kt (h) p l e R s m args below meth c cells slots A H0 ad cA D Q C Xh F H locs ls hl hP hS) (fun h => kf (h) p l e R s m args below meth c cells slots A H0 ad cA D Q C Xh F H locs ls hl hP hS)
theorem G_icmp_ge {x y : Int32} {off : Int} {tgt : Nat} (hdg : decode t.2.2.1 pc = .ok (.if_icmp .ge off, 3)) (ht : (pc : Int) + off = (tgt : Int)) (kt : ¬ x < y → GX X t d r M' tgt L st M) (kf : x < y → GX X t d r M' (pc + 3) L st M) : GX X t d r M' pc L (.inl y :: .inl x :: st) M := by
  intro p l e R s m args below meth c cells slots A H0 ad cA D Q C Xh F H locs ls hl hP hS
  exact lv_icmp_ge C.1 C.2.1 hdg ht (fun h => kt (Int32.not_lt.mpr h) p l e R s m args below meth c cells slots A H0 ad cA D Q C Xh F H locs ls hl hP hS) (fun h => kf (Int32.not_le.mp h) p l e R s m args below meth c cells slots A H0 ad cA D Q C Xh F H locs ls hl hP hS)
theorem G_if_ge {x : Int32} {off : Int} {tgt : Nat} (hdg : decode t.2.2.1 pc = .ok (.ifCond .ge off, 3)) (ht : (pc : Int) + off = (tgt : Int)) (kt : ¬ x < 0 → GX X t d r M' tgt L st M) (kf : x < 0 → GX X t d r M' (pc + 3) L st M) : GX X t d r M' pc L (.inl x :: st) M := by
  intro p l e R s m args below meth c cells slots A H0 ad cA D Q C Xh F H locs ls hl hP hS
  exact lv_if_ge C.1 C.2.1 hdg ht (fun h => kt (Int32.not_lt.mpr h) p l e R s m args below meth c cells slots A H0 ad cA D Q C Xh F H locs ls hl hP hS) (fun h => kf (Int32.not_le.mp h) p l e R s m args below meth c cells slots A H0 ad cA D Q C Xh F H locs ls hl hP hS)
theorem G_icmp_gt {x y : Int32} {off : Int} {tgt : Nat} (hdg : decode t.2.2.1 pc = .ok (.if_icmp .gt off, 3)) (ht : (pc : Int) + off = (tgt : Int)) (kt : y < x → GX X t d r M' tgt L st M) (kf : ¬ y < x → GX X t d r M' (pc + 3) L st M) : GX X t d r M' pc L (.inl y :: .inl x :: st) M := by
  intro p l e R s m args below meth c cells slots A H0 ad cA D Q C Xh F H locs ls hl hP hS
  exact lv_icmp_gt C.1 C.2.1 hdg ht (fun h => kt (h) p l e R s m args below meth c cells slots A H0 ad cA D Q C Xh F H locs ls hl hP hS) (fun h => kf (h) p l e R s m args below meth c cells slots A H0 ad cA D Q C Xh F H locs ls hl hP hS)
theorem G_if_gt {x : Int32} {off : Int} {tgt : Nat} (hdg : decode t.2.2.1 pc = .ok (.ifCond .gt off, 3)) (ht : (pc : Int) + off = (tgt : Int)) (kt : 0 < x → GX X t d r M' tgt L st M) (kf : ¬ 0 < x → GX X t d r M' (pc + 3) L st M) : GX X t d r M' pc L (.inl x :: st) M := by
  intro p l e R s m args below meth c cells slots A H0 ad cA D Q C Xh F H locs ls hl hP hS
  exact lv_if_gt C.1 C.2.1 hdg ht (fun h => kt (h) p l e R s m args below meth c cells slots A H0 ad cA D Q C Xh F H locs ls hl hP hS) (fun h => kf (h) p l e R s m args below meth c cells slots A H0 ad cA D Q C Xh F H locs ls hl hP hS)
theorem G_icmp_le {x y : Int32} {off : Int} {tgt : Nat} (hdg : decode t.2.2.1 pc = .ok (.if_icmp .le off, 3)) (ht : (pc : Int) + off = (tgt : Int)) (kt : ¬ y < x → GX X t d r M' tgt L st M) (kf : y < x → GX X t d r M' (pc + 3) L st M) : GX X t d r M' pc L (.inl y :: .inl x :: st) M := by
  intro p l e R s m args below meth c cells slots A H0 ad cA D Q C Xh F H locs ls hl hP hS
  exact lv_icmp_le C.1 C.2.1 hdg ht (fun h => kt (Int32.not_lt.mpr h) p l e R s m args below meth c cells slots A H0 ad cA D Q C Xh F H locs ls hl hP hS) (fun h => kf (Int32.not_le.mp h) p l e R s m args below meth c cells slots A H0 ad cA D Q C Xh F H locs ls hl hP hS)
theorem G_if_le {x : Int32} {off : Int} {tgt : Nat} (hdg : decode t.2.2.1 pc = .ok (.ifCond .le off, 3)) (ht : (pc : Int) + off = (tgt : Int)) (kt : ¬ 0 < x → GX X t d r M' tgt L st M) (kf : 0 < x → GX X t d r M' (pc + 3) L st M) : GX X t d r M' pc L (.inl x :: st) M := by
  intro p l e R s m args below meth c cells slots A H0 ad cA D Q C Xh F H locs ls hl hP hS
  exact lv_if_le C.1 C.2.1 hdg ht (fun h => kt (Int32.not_lt.mpr h) p l e R s m args below meth c cells slots A H0 ad cA D Q C Xh F H locs ls hl hP hS) (fun h => kf (Int32.not_le.mp h) p l e R s m args below meth c cells slots A H0 ad cA D Q C Xh F H locs ls hl hP hS)
theorem G_tableIn {dflt lo hi : Int} {offs : Array Int} {len : Nat} {x : Int32} {off : Int} {tgt : Nat} (hdg : decode t.2.2.1 pc = .ok (.tableswitch dflt lo hi offs, len)) (h1 : ¬ x.toInt < lo) (h2 : ¬ hi < x.toInt) (ho : offs[(x.toInt - lo).toNat]? = some off) (ht : (pc : Int) + off = (tgt : Int)) (k : GX X t d r M' tgt L st M) : GX X t d r M' pc L (.inl x :: st) M := by
  intro p l e R s m args below meth c cells slots A H0 ad cA D Q C Xh F H locs ls hl hP hS
  exact lv_tableIn C.1 C.2.1 hdg h1 h2 ho ht (k p l e R s m args below meth c cells slots A H0 ad cA D Q C Xh F H locs ls hl hP hS)
theorem G_tableOut {dflt lo hi : Int} {offs : Array Int} {len : Nat} {x : Int32} {tgt : Nat} (hdg : decode t.2.2.1 pc = .ok (.tableswitch dflt lo hi offs, len)) (h : x.toInt < lo ∨ hi < x.toInt) (ht : (pc : Int) + dflt = (tgt : Int)) (k : GX X t d r M' tgt L st M) : GX X t d r M' pc L (.inl x :: st) M := by
  intro p l e R s m args below meth c cells slots A H0 ad cA D Q C Xh F H locs ls hl hP hS
  exact lv_tableOut C.1 C.2.1 hdg h ht (k p l e R s m args below meth c cells slots A H0 ad cA D Q C Xh F H locs ls hl hP hS)
theorem G_lookup {dflt : Int} {ps : Array (Int × Int)} {len : Nat} {x : Int32} {off : Int} {tgt : Nat} (hdg : decode t.2.2.1 pc = .ok (.lookupswitch dflt ps, len)) (hp : (ps.toList.zip (ps.toList.drop 1)).all (fun (a, next) => a.1 < next.1) = true) (ho : Op.lookupswitch.offset ps.toList dflt x.toInt = off) (ht : (pc : Int) + off = (tgt : Int)) (k : GX X t d r M' tgt L st M) : GX X t d r M' pc L (.inl x :: st) M := by
  intro p l e R s m args below meth c cells slots A H0 ad cA D Q C Xh F H locs ls hl hP hS
  exact lv_lookup C.1 C.2.1 hdg hp ho ht (k p l e R s m args below meth c cells slots A H0 ad cA D Q C Xh F H locs ls hl hP hS)
/-- the end of a method -/
theorem G_ret (hdg : decode t.2.2.1 pc = .ok (retI r, 1)) (ho : retOK t.2.2.2.2 r) (hst : st = r.toList) (hM : M = M') : GX X t d r M' pc L st M := by
  intro p l e R s m args below meth c cells slots A H0 ad cA D Q C Xh F H locs ls hl hP hS
  subst hst; subst hM
  exact F H locs ls pc hP hS hdg ho
theorem cellE_obj {ad : Nat → Nat → Nat} {cA : Nat → ClassId} {M : MM} {f i : Nat} (h : fCls f < 9) : cellE ad cA M f i = .inr (fCls f, (List.range (fNum (fCls f))).map (fun k => cv ad (fldV f i k M))) := by
  unfold cellE
  rw [if_pos h]
theorem cellE_arr {ad : Nat → Nat → Nat} {cA : Nat → ClassId} {M : MM} {f i : Nat} (h : ¬ fCls f < 9) : cellE ad cA M f i = .inl (cA (fElt f), fLen f, arrF ad M f i) := by
  unfold cellE
  rw [if_neg h]
theorem TB_tbl {w : Cond} (h : w ∈ TB) : w ∈ lw_tbl := (List.mem_filter.mp h).1
/-- a field of an object is read -/
theorem G_get {ci idx : Nat} {C : String} {T : u_T} {N : Nat} {f i k0 : Nat} {v : AV} (hws : ∀ w ∈ u_ws C T N, w ∈ TB) (hc : vwCl[ci]? = some (C, T, N)) (hw : Cond.fieldLink t.1 idx (T k0).1 (T k0).2.1 (T k0).2.2.1 ∈ TB) (hf : f < 32) (hi : i < fCnt f) (hcl : fCls f = ci) (hci : ci < 9) (hN : fNum ci = N) (hk : k0 < N) (hv : fldV f i k0 M = v) (hdg : decode t.2.2.1 pc = .ok (.getfield idx, 3)) (k : GX X t d r M' (pc + 3) L (v :: st) M) : GX X t d r M' pc L (.inr (.inr (f, i)) :: st) M := by
  intro p l e R s m args below meth c cells slots A H0 ad cA D Q Cx Xh F H locs ls hl hP hS
  subst hcl
  have he : (world ad cA M)[fOff f + i]? = some (ad f i, .inr (fCls f, (List.range (fNum (fCls f))).map (fun k => cv ad (fldV f i k M)))) := by rw [world_at hf hi, cellE_obj hci]
  exact va_get Cx.1 Cx.2.1 Cx.2.2.2.2.1 hws Cx.2.2.2.1 Cx.2.2.2.2.2.2.1 hP (fOff f + i) he hc k0 hk (Cx.2.2.2.2.1 _ hw) (fun _ h => h) (v := cv ad v) (by rw [List.getElem?_map, hN, List.getElem?_range hk, ← hv]; rfl) hdg (k p l e R s m args below meth c cells slots A H0 ad cA D Q Cx Xh F H locs ls hl hP hS)
theorem rd_wr_other {M : MM} {f i k0 : Nat} {v : Int32} : ∀ f' i', ¬ (f' = f ∧ i' = i) → ∀ j, rdM (wrM M f i k0 v) f' i' j = rdM M f' i' j := fun _ _ h _ => rd_wr_ne h
theorem fld_wr {M : MM} {f i k0 j : Nat} {v : Int32} (hr0 : fRef f k0 = none) (hZ : fZ f k0 = true → nbZ v = v) : fldV f i j (wrM M f i k0 v) = if j = k0 then .inl v else fldV f i j M := by
  unfold fldV
  rw [rd_wr_eq]
  by_cases hj : j = k0
  · subst hj
    rw [hr0]
    by_cases hz : fZ f j = true
    · simp [hz, hZ hz]
    · simp [hz]
  · simp [hj]
theorem fields_wr {ad : Nat → Nat → Nat} {M : MM} {f i k0 N : Nat} {v : Int32} (hk : k0 < N) (hr0 : fRef f k0 = none) (hZ : fZ f k0 = true → nbZ v = v) : ((List.range N).map (fun k => cv ad (fldV f i k M))).set k0 (.int v) = (List.range N).map (fun k => cv ad (fldV f i k (wrM M f i k0 v))) := by
  apply List.ext_getElem?
  intro n
  rw [List.getElem?_set, List.getElem?_map, List.getElem?_map, List.length_map, List.length_range]
  by_cases hn : k0 = n
  · subst hn
    rw [if_pos rfl, if_pos hk, List.getElem?_range hk]
    show _ = some (cv ad (fldV f i k0 (wrM M f i k0 v)))
    rw [fld_wr hr0 hZ, if_pos rfl]
    rfl
  · rw [if_neg hn]
    by_cases h2 : n < N
    · rw [List.getElem?_range h2]
      show some (cv ad (fldV f i n M)) = some (cv ad (fldV f i n (wrM M f i k0 v)))
      rw [fld_wr hr0 hZ, if_neg (fun e => hn e.symm)]
    · rw [List.getElem?_eq_none (by rw [List.length_range]; omega)]
      rfl
theorem narrow_nbZ {v : Int32} (h : nbZ v = v) : narrow .boolean (.int v) = .int v ∧ fits .boolean (.int v) = true := by
  unfold nbZ at h
  by_cases h0 : v = 0
  · subst h0; exact ⟨rfl, rfl⟩
  · rw [if_neg h0] at h
    subst h; exact ⟨rfl, rfl⟩
/-- a number field of an object is written -/
theorem G_put {ci idx : Nat} {C : String} {T : u_T} {N : Nat} {ty0 : Nat → FieldType} {f i k0 : Nat} {v : Int32} {M2 : MM} (hws : ∀ w ∈ u_ws C T N, w ∈ TB) (hty : ∀ k, k < N → parseFieldDescriptor (T k).2.2.1 = some (ty0 k)) (hnm : ∀ a, a < N → ∀ b, b < N → a ≠ b → (T a).2.1 ≠ (T b).2.1) (hc : vwCl[ci]? = some (C, T, N)) (hw : Cond.fieldLink t.1 idx (T k0).1 (T k0).2.1 (T k0).2.2.1 ∈ TB) (hf : f < 32) (hi : i < fCnt f) (hcl : fCls f = ci) (hci : ci < 9) (hN : fNum ci = N) (hk : k0 < N) (hfin : (T k0).2.2.2 = false) (htz : (fZ f k0 = false ∧ ty0 k0 = .int) ∨ (nbZ v = v ∧ ty0 k0 = .boolean)) (hr0 : fRef f k0 = none) (hM2 : wrM M f i k0 v = M2) (hdg : decode t.2.2.1 pc = .ok (.putfield idx, 3)) (k : GX X t d r M' (pc + 3) L st M2) : GX X t d r M' pc L (.inl v :: .inr (.inr (f, i)) :: st) M := by
  intro p l e R s m args below meth c cells slots A H0 ad cA D Q Cx Xh F H locs ls hl hP hS
  subst hcl; subst hM2
  have he : (world ad cA M)[fOff f + i]? = some (ad f i, .inr (fCls f, (List.range (fNum (fCls f))).map (fun k => cv ad (fldV f i k M)))) := by rw [world_at hf hi, cellE_obj hci]
  have hZ : fZ f k0 = true → nbZ v = v := by
    intro h
    rcases htz with ⟨h1, -⟩ | ⟨h1, -⟩
    · rw [h1] at h; cases h
    · exact h1
  have hn : narrow (ty0 k0) (.int v) = .int v ∧ fits (ty0 k0) (.int v) = true := by
    rcases htz with ⟨-, h2⟩ | ⟨h1, h2⟩
    · rw [h2]; exact ⟨rfl, rfl⟩
    · rw [h2]; exact narrow_nbZ h1
  have e1 : (world ad cA M).set (fOff f + i) (ad f i, .inr (fCls f, ((List.range (fNum (fCls f))).map (fun k => cv ad (fldV f i k M))).set k0 (.int v))) = world ad cA (wrM M f i k0 v) := by
    rw [fields_wr (by rw [hN]; exact hk) hr0 hZ, ← world_set (M := M) hf hi rd_wr_other, cellE_obj hci]
  refine va_put (v := .int v) Cx.1 Cx.2.1 Cx.2.2.2.2.1 hws ty0 hty hnm Cx.2.2.2.1 Cx.2.2.2.2.2.2.1 hP (Cx.2.2.2.2.2.2.2.2.2.2.2.2 M) hS (fOff f + i) he hc k0 hk (Cx.2.2.2.2.1 _ hw) (fun _ h => h) hfin (hty k0 hk) hn.1 hn.2 (by rw [List.length_map, List.length_range, hN]; exact hk) hdg (fun H1 locs1 hP1 hD1 hS1 => ?_)
  rw [e1] at hP1
  exact k p l e R s m args below meth c cells slots A H0 ad cA D Q Cx Xh F H1 locs1 ls hl hP1 hS1
/-- is an index within an array -/
def ib (x : Int32) (n : Nat) : Bool := decide (¬ x < 0 ∧ x.toNatClampNeg < n)
theorem ib_in {x : Int32} {n : Nat} (h : ib x n = true) : vp_in x n := by
  have h1 := of_decide_eq_true h
  rintro (h2 | h2)
  · exact h1.1 h2
  · exact absurd h1.2 (Nat.not_lt.mpr h2)
theorem ib_lt {x : Int32} {n : Nat} (h : ib x n = true) : x.toNatClampNeg < n := (of_decide_eq_true h).2
theorem G_iald {f i : Nat} {x : Int32} (hf : f < 32) (hi : i < fCnt f) (hcl : ¬ fCls f < 9) (he0 : fElt f = 0) (hin : ib x (fLen f) = true) {v : Int32} (hv : rdM M f i x.toNatClampNeg = v) (hdg : decode t.2.2.1 pc = .ok (.iaload, 1)) (k : GX X t d r M' (pc + 1) L (.inl v :: st) M) : GX X t d r M' pc L (.inl x :: .inr (.inr (f, i)) :: st) M := by
  intro p l e R s m args below meth c cells slots A H0 ad cA D Q Cx Xh F H locs ls hl hP hS
  subst hv
  have he : (world ad cA M)[fOff f + i]? = some (ad f i, .inl (cA 0, fLen f, .inl (fun j => rdM M f i j))) := by
    rw [world_at hf hi, cellE_arr hcl]
    unfold arrF
    rw [he0]
    rfl
  exact va_iald Cx.1 Cx.2.1 Cx.2.2.2.2.2.2.1 hP (fOff f + i) 0 he rfl (ib_in hin) hdg (k p l e R s m args below meth c cells slots A H0 ad cA D Q Cx Xh F H locs ls hl hP hS)
theorem G_bald {f i : Nat} {x : Int32} (hf : f < 32) (hi : i < fCnt f) (hcl : ¬ fCls f < 9) (he0 : fElt f = 1) (hin : ib x (fLen f) = true) {v : Int32} (hv : nbB (rdM M f i x.toNatClampNeg) = v) (hdg : decode t.2.2.1 pc = .ok (.baload, 1)) (k : GX X t d r M' (pc + 1) L (.inl v :: st) M) : GX X t d r M' pc L (.inl x :: .inr (.inr (f, i)) :: st) M := by
  intro p l e R s m args below meth c cells slots A H0 ad cA D Q Cx Xh F H locs ls hl hP hS
  subst hv
  have he : (world ad cA M)[fOff f + i]? = some (ad f i, .inl (cA 1, fLen f, .inl (fun j => nbB (rdM M f i j)))) := by
    rw [world_at hf hi, cellE_arr hcl]
    unfold arrF
    rw [he0]
    rfl
  exact va_bald Cx.1 Cx.2.1 Cx.2.2.2.2.2.2.1 hP (fOff f + i) 1 he rfl (ib_in hin) hdg (k p l e R s m args below meth c cells slots A H0 ad cA D Q Cx Xh F H locs ls hl hP hS)
theorem G_aald3 {f i : Nat} {x : Int32} (hf : f < 32) (hi : i < fCnt f) (hcl : ¬ fCls f < 9) (he0 : fElt f = 2) (hin : ib x (fLen f) = true) (hdg : decode t.2.2.1 pc = .ok (.aaload, 1)) (k : GX X t d r M' (pc + 1) L (.inr (.inr (3, 10 * i + x.toNatClampNeg)) :: st) M) : GX X t d r M' pc L (.inl x :: .inr (.inr (f, i)) :: st) M := by
  intro p l e R s m args below meth c cells slots A H0 ad cA D Q Cx Xh F H locs ls hl hP hS
  have he : (world ad cA M)[fOff f + i]? = some (ad f i, .inl (cA 2, fLen f, .inr (.inr (.inr (.inr (fun j => some (ad 3 (10 * i + j)))))))) := by
    rw [world_at hf hi, cellE_arr hcl]
    unfold arrF
    rw [he0]
    rfl
  exact va_aldq Cx.1 Cx.2.1 Cx.2.2.2.2.2.2.1 hP (fOff f + i) 2 he rfl (ib_in hin) hdg (k p l e R s m args below meth c cells slots A H0 ad cA D Q Cx Xh F H locs ls hl hP hS)
theorem G_aald5 {f i : Nat} {x : Int32} (hf : f < 32) (hi : i < fCnt f) (hcl : ¬ fCls f < 9) (he0 : fElt f = 3) (hin : ib x (fLen f) = true) (hdg : decode t.2.2.1 pc = .ok (.aaload, 1)) (k : GX X t d r M' (pc + 1) L (.inr (.inr (5, x.toNatClampNeg)) :: st) M) : GX X t d r M' pc L (.inl x :: .inr (.inr (f, i)) :: st) M := by
  intro p l e R s m args below meth c cells slots A H0 ad cA D Q Cx Xh F H locs ls hl hP hS
  have he : (world ad cA M)[fOff f + i]? = some (ad f i, .inl (cA 3, fLen f, .inr (.inr (.inr (.inr (fun j => some (ad 5 j))))))) := by
    rw [world_at hf hi, cellE_arr hcl]
    unfold arrF
    rw [he0]
    rfl
  exact va_aldq Cx.1 Cx.2.1 Cx.2.2.2.2.2.2.1 hP (fOff f + i) 3 he rfl (ib_in hin) hdg (k p l e R s m args below meth c cells slots A H0 ad cA D Q Cx Xh F H locs ls hl hP hS)
theorem arr_wr {M : MM} {f i k0 : Nat} {v : Int32} : upd (fun j => rdM M f i j) k0 v = (fun j => rdM (wrM M f i k0 v) f i j) := by
  funext j
  rw [rd_wr_eq]
  by_cases h : j = k0
  · subst h; simp [upd]
  · simp [upd, h]
theorem G_iast {f i : Nat} {x v : Int32} {M2 : MM} (hf : f < 32) (hi : i < fCnt f) (hcl : ¬ fCls f < 9) (he0 : fElt f = 0) (hin : ib x (fLen f) = true) (hM2 : wrM M f i x.toNatClampNeg v = M2) (hdg : decode t.2.2.1 pc = .ok (.iastore, 1)) (k : GX X t d r M' (pc + 1) L st M2) : GX X t d r M' pc L (.inl v :: .inl x :: .inr (.inr (f, i)) :: st) M := by
  intro p l e R s m args below meth c cells slots A H0 ad cA D Q Cx Xh F H locs ls hl hP hS
  subst hM2
  have he : ∀ M : MM, (world ad cA M)[fOff f + i]? = some (ad f i, .inl (cA 0, fLen f, .inl (fun j => rdM M f i j))) := by
    intro M
    rw [world_at hf hi, cellE_arr hcl]
    unfold arrF
    rw [he0]
    rfl
  have e1 : (world ad cA M).set (fOff f + i) (ad f i, .inl (cA 0, fLen f, .inl (upd (fun j => rdM M f i j) x.toNatClampNeg v))) = world ad cA (wrM M f i x.toNatClampNeg v) := by
    rw [arr_wr, ← world_set (M := M) hf hi rd_wr_other, cellE_arr hcl]
    unfold arrF
    rw [he0]
    rfl
  refine va_iast Cx.1 Cx.2.1 Cx.2.2.2.2.2.2.1 hP (Cx.2.2.2.2.2.2.2.2.2.2.2.2 M) hS (fOff f + i) 0 (he M) rfl (ib_in hin) hdg (fun H1 locs1 hP1 hD1 hS1 => ?_)
  rw [e1] at hP1
  exact k p l e R s m args below meth c cells slots A H0 ad cA D Q Cx Xh F H1 locs1 ls hl hP1 hS1
end ONE
end
section
def argL : Nat → List AV → List (Nat × AV)
  | _, [] => []
  | i, v :: vs => (i, v) :: argL (if av2 v = true then i + 2 else i + 1) vs
def argW (as : List AV) : Nat := (as.map fun v => if av2 v = true then 2 else 1).sum
theorem cat_av2 {ad : Nat → Nat → Nat} (v : AV) : (cv ad v).category = 2 ↔ av2 v = true := by
  rcases v with x | y | q
  · exact ⟨fun h => (by cases h), fun h => (by cases h)⟩
  · exact ⟨fun _ => rfl, fun _ => rfl⟩
  · exact ⟨fun h => (by cases h), fun h => (by cases h)⟩
theorem argL_map {ad : Nat → Nat → Nat} (vs : List AV) : ∀ i, lv_args i (vs.map (cv ad)) = (argL i vs).map (fun q => (q.1, cv ad q.2)) := by
  induction vs with
  | nil => intro i; rfl
  | cons v vs ih =>
    intro i
    show (i, cv ad v) :: lv_args _ (vs.map (cv ad)) = (i, cv ad v) :: (argL _ vs).map _
    rw [ih]
    by_cases h : av2 v = true
    · rw [if_pos h, if_pos ((cat_av2 v).mpr h)]
    · rw [if_neg h, if_neg (fun e => h ((cat_av2 v).mp e))]
theorem argW_len {ad : Nat → Nat → Nat} (vs : List AV) : (lg_sl (vs.map (cv ad))).length = argW vs := by
  induction vs with
  | nil => rfl
  | cons v vs ih =>
    have e : lg_sl ((v :: vs).map (cv ad)) = (if (cv ad v).category = 2 then [.val (cv ad v), .second] else [.val (cv ad v)]) ++ lg_sl (vs.map (cv ad)) := rfl
    have e2 : argW (v :: vs) = (if av2 v = true then 2 else 1) + argW vs := rfl
    rw [e, e2, List.length_append, ih]
    by_cases h : av2 v = true
    · rw [if_pos h, if_pos ((cat_av2 v).mpr h)]; rfl
    · rw [if_neg h, if_neg (fun e => h ((cat_av2 v).mp e))]; rfl
def PreG (ad : Nat → Nat → Nat) (cA : Nat → ClassId) (D : va_G) (sz : Nat) (M : MM) : State → Prop := fun U => U.heap.size = sz ∧ va_P D vwCl (world ad cA M) U.heap ∧ va_K D vwCl (tysA cA) U ∧ va_D (fun _ => True) (world ad cA M) ∧ ∀ w ∈ nestL, va_Nw w U
def PostG (ad : Nat → Nat → Nat) (cA : Nat → ClassId) (D : va_G) (A : Nat → Prop) (r : Option AV) (M' : MM) : Array Value → State → Outcome → State → Prop := fun _ st oc t => (oc = .returned (r.map (cv ad)) ∧ va_P D vwCl (world ad cA M') t.heap ∧ va_K D vwCl (tysA cA) t) ∧ va_F A st t
/-- A METHOD'S CONTRACT: called with these values in this memory it returns, with this answer and this memory; d: how deep its calls may go -/
def Spec (t : MT) (d : Nat) (as : List AV) (M : MM) (r : Option AV) (M' : MM) : Prop :=
  ∀ (l : Launch) (ad : Nat → Nat → Nat) (cA : Nat → ClassId) (D : va_G) (sz : Nat), Met l t.2.1 (wsM t) (roomD d) (va_Pc (as.map (cv ad)) (PreG ad cA D sz M)) (PostG ad cA D (va_A (world ad cA M) sz) r M') 0 0 (va_A (world ad cA M) sz)
theorem nest_on : ∀ w ∈ nestL, w.onTables = true := by
  intro w hw
  rcases List.mem_cons.mp hw with rfl | hw
  · rfl
  rcases List.mem_cons.mp hw with rfl | hw
  · rfl
  cases hw
theorem nest_warm {s U : State} (hW : s.WarmedH U.vm) (h : ∀ w ∈ nestL, va_Nw w s) : ∀ w ∈ nestL, va_Nw w U := by
  intro w hw
  have h1 := h w hw
  rcases List.mem_cons.mp hw with rfl | hw
  · exact va_Nw.warmM hW h1
  rcases List.mem_cons.mp hw with rfl | hw
  · exact va_Nw.warmM hW h1
  cases hw
theorem pre_blind {ad : Nat → Nat → Nat} {cA : Nat → ClassId} {D : va_G} {sz : Nat} {M : MM} {av : List Value} : FrameBlind (va_Pc av (PreG ad cA D sz M)) := by
  intro a U g mk q
  obtain ⟨q0, q1, qP, qK, qD, qN⟩ := q
  exact ⟨q0, q1, qP, va_K.moved (u := U) (U := U.calling g mk a) (Vm.Alike.refl U.vm) qK, qD, fun w hw => va_Nw.same (nest_on w hw) (u := U) (U := U.calling g mk a) rfl (qN w hw)⟩
theorem Spec_of_G {t : MT} {d : Nat} {as : List AV} {M M' : MM} {r : Option AV} (hy : plainName t.2.1.cls = true) (hown : t.2.1.cls = t.1) (hn : argW as ≤ t.2.2.2.1) (k : G t d r M' 0 (argL 0 as) [] M) : Spec t d as M r M' := by
  intro l ad cA D sz
  refine Met.ofW (cc := t.2.2.1) (maxL := t.2.2.2.1) (ret := t.2.2.2.2) hy rfl ?_
  intro p e s m args below meth c s₁ B hml hv
  obtain ⟨rfl, hsz, hP, hK, hD0, hN⟩ := hv
  have hx := B.exec
  have hb := B.bytes
  have hr := B.returns
  have hts := atoms_spec (ws := wsM t) B.pre
  have hownc : s.vm.findClass t.1 = some m.cls := by rw [← hown]; exact findClass_of_methodNamed B.named
  have hlocks := B.notSynchronized
  subst hsz
  have hDA : va_D (va_A (world ad cA M) s.heap.size) (world ad cA M) := hD0.self (sz := s.heap.size)
  have hC : CtxG t d p (headSpec (wsM t) (roomD d)).room s m (as.map (cv ad)).toArray c 0 0 (va_A (world ad cA M) s.heap.size) s.heap ad cA D :=
    ⟨hx, hb, hml, hownc, fun w hw => hts w (List.mem_cons_of_mem _ hw), hN, hK, Nat.le_refl _, Nat.le_refl _, Nat.zero_le _, Nat.zero_le _, fun q h => Or.inr h, fun M2 => va_D_world hDA⟩
  have hl := lv_entry (as.map (cv ad)) (n := t.2.2.2.1) (by rw [argW_len]; exact hn)
  rw [argL_map] at hl
  rw [lg_entry_eq]
  refine k p l e _ s m _ below meth c 0 0 _ s.heap ad cA D _ hC trivial ?_ s.heap [] _ hl hP va_S.rf
  intro H locs ls pc hP' hS hdg hro
  have hq : ∀ tt : State, tt.heap = H → s.WarmedH tt.vm → PostG ad cA D (va_A (world ad cA M) s.heap.size) r M' (as.map (cv ad)).toArray s (.returned (r.map (cv ad))) tt :=
    fun tt ht hW => ⟨⟨rfl, by rw [ht]; exact hP', va_K.moved hW.alike hK⟩, hS.F ht⟩
  rcases r with _ | x | y | q
  · cases hret : t.2.2.2.2 with
    | none => exact W.vret hx hb (hr.trans hret) hq hS.2.2 hdg
    | some ty => rw [hret] at hro; cases ty <;> exact hro.elim
  · cases hret : t.2.2.2.2 with
    | none => rw [hret] at hro; exact hro.elim
    | some ty =>
      rw [hret] at hro
      cases ty <;> first
        | exact False.elim hro
        | exact W.iret hx hb (hr.trans hret) hq hS.2.2 hdg
        | (refine W.zret hx hb (hr.trans hret) ?_ hq hS.2.2 hdg
           rcases (show x = 0 ∨ x = 1 from hro) with rfl | rfl <;> rfl)
  · cases hret : t.2.2.2.2 with
    | none => rw [hret] at hro; exact hro.elim
    | some ty => rw [hret] at hro; cases ty <;> exact hro.elim
  · cases hret : t.2.2.2.2 with
    | none => rw [hret] at hro; exact hro.elim
    | some ty =>
      rw [hret] at hro
      cases ty <;> first
        | exact W.aret hx hb (hr.trans hret) (Or.inl ⟨_, rfl⟩) (Or.inr ⟨_, rfl⟩) hq hS.2.2 hdg
        | exact hro.elim
theorem goodTB {ws : List Cond} (h : ∀ w ∈ ws, w ∈ TB) : GoodIn TB ws := fun w hw => ⟨h w hw, good_of_word (List.mem_filter.mp (h w hw)).2⟩
/-- a callee's words: its code, that it stands ready -/
def okM (t2 : MT) (n : Nat) : Prop := (t2.2.1.cls = t2.1 ∧ t2.2.2.2.1 ≤ 45 ∧ plainName t2.2.1.cls = true) ∧ (t2.2.1.cls ≠ "java/lang/invoke/MethodHandle" ∧ t2.2.1.cls ≠ "java/lang/invoke/VarHandle" ∧ (parseMethodDescriptor t2.2.1.desc).map (fun d => d.parameters.length) = some n) ∧ Cond.initialized t2.2.1.cls ∈ TB ∧ Cond.code t2.2.1 t2.2.2.1 t2.2.2.2.1 t2.2.2.2.2 ∈ TB
def okV (t2 : MT) (n : Nat) : Prop := okM t2 n ∧ Cond.instanceMethod t2.2.1 ∈ TB ∧ Cond.selects t2.2.1.cls t2.2.1 t2.2.1 ∈ TB
def okS (t2 : MT) (n : Nat) : Prop := okM t2 n ∧ Cond.static t2.2.1 ∈ TB
section CALL
variable {X : CtxX} {t t2 : MT} {d d2 idx n : Nat} {r r1 : Option AV} {M' M1 : MM} {pc : Nat} {L : List (Nat × AV)} {st st0 as : List AV} {M : MM}
theorem W_called {p : Program} {l : Launch} {e : Env} {R : Room} {s : State} {m : MethodId} {args : Array Value} {below : List Frame} {meth : Method} {c : Code} {H : Heap} {locs : List Loc} {cells slots : Nat} {Q : State → Prop} {ls : Array Slot} {rest st1 : List Value} {a : Array Value} {A0 A1 : Nat → Prop} {H0 : Heap} {ad : Nat → Nat → Nat} {cA : Nat → ClassId} {D : va_G}
    (hr : va_Run p l e R s m args below meth c H locs cells slots 0 0 (F0 m pc ls st1) rest (PostG ad cA D A1 r1 M1 a) A1) (hS : va_S A0 H0 H locs) (hA : ∀ q, A1 q → A0 q)
    (kk : ∀ (H1 : Heap) (locs1 : List Loc), va_P D vwCl (world ad cA M1) H1 → va_S A0 H0 H1 locs1 → W p l e R s m args below meth c H1 locs1 cells slots Q (F0 m (pc + 3) ls ((r1.map (cv ad)).toList ++ rest))) : W p l e R s m args below meth c H locs cells slots Q (F0 m pc ls st1) := by
  intro T hT X
  obtain ⟨v, st₀, t, T', L, h0, X', hL, e1, e2, ⟨⟨hv, hP1, -⟩, hz, hk⟩, st⟩ := hr T hT X
  cases hv
  rw [h0] at hz hk
  obtain ⟨t2, a1, b1⟩ := kk T'.heap (locs ++ L) (by rw [e1]; exact hP1)
    ⟨Nat.le_trans hS.1 (by rw [e1]; exact hz), fun q h1 h2 => by rw [e1, hk q (Nat.lt_of_lt_of_le h1 hS.1) (fun z => h2 (hA q z))]; exact hS.2.1 q h1 h2, fun q hq => by
      rcases List.mem_append.mp hq with h | h
      · exact hS.2.2 q h
      · exact hA _ (hL q h)⟩ T' rfl X'
  exact ⟨t2, st t2 a1, b1⟩
theorem map_opt {ad : Nat → Nat → Nat} : (r1.map (cv ad)).toList ++ st.map (cv ad) = (r1.toList ++ st).map (cv ad) := by
  cases r1 <;> rfl
theorem cat_sum {ad : Nat → Nat → Nat} (st : List AV) : ((st.map (cv ad)).map fun v => v.category).sum = argW st := by
  induction st with
  | nil => rfl
  | cons v st ih =>
    rw [List.map_cons, List.map_cons, List.sum_cons, ih]
    show (cv ad v).category + _ = (if av2 v = true then 2 else 1) + argW st
    congr 1
    rcases v with x | y | q <;> rfl
theorem free_in {A : Nat → Prop} {H0 H : Heap} {locs : List Loc} {ad : Nat → Nat → Nat} {cA : Nat → ClassId} (hD : va_D A (world ad cA M)) (hS : va_S A H0 H locs) (hA : ∀ q : Nat, H0.size ≤ q → A q) : ∀ q, va_A (world ad cA M) H.size q → A q := by
  intro q h
  rcases h with ⟨k, e, h⟩ | h
  · exact hD.2 k (q, e) h
  · exact hA q (Nat.le_trans hS.1 h)
theorem G_callS (hs : Spec t2 d2 as M r1 M1) (ho : okS t2 n) (hlk : Cond.methodLink t.1 idx t2.2.1 ∈ TB) (hd : d2 + 1 ≤ d) (hn : as.length = n) (hst : st0 = as.reverse ++ st) (hcat : argW st ≤ 8) (hdg : decode t.2.2.1 pc = .ok (.invokestatic idx, 3)) (k : GX X t d r M' (pc + 3) L (r1.toList ++ st) M1) : GX X t d r M' pc L st0 M := by
  intro p l e R s m args below meth c cells slots A H0 ad cA D Q Cx Xh F H locs ls hl hP hS
  obtain ⟨⟨⟨h1, h2, h3⟩, h4, h5, h6⟩, h7⟩ := ho
  obtain ⟨hx, hb, hml, hown, hts, hN, hK, hdf, hdl, hc, hsl, hA, hD⟩ := id Cx
  have hF := free_in (hD M) hS hA
  have hT : GoodIn TB (va_wsS t.1 idx t2.2.1 (wsM t2)) := goodTB fun w hw => by
    rcases List.mem_append.mp hw with hw | hw
    · rcases List.mem_cons.mp hw with rfl | hw
      · exact hlk
      rcases List.mem_cons.mp hw with rfl | hw
      · exact h7
      rcases List.mem_cons.mp hw with rfl | hw
      · exact h5
      cases hw
    · rcases List.mem_cons.mp hw with rfl | hw
      · exact h6
      · exact hw
  refine W_called (va_runS (As := as.map (cv ad)) (rest := st.map (cv ad)) (n := n) ⟨hx, hb, hml, hown, hts⟩ (hs l ad cA D H.size) (va_cwS n hts hT rfl rfl rfl h4 ⟨by show d2 + 1 ≤ _; omega, by show 8 + (t2.2.2.2.1 + 11) + 64 * d2 ≤ _; omega⟩) ⟨pre_blind, fun U hU hW => ⟨rfl, by rw [hU], by rw [hU]; exact hP, va_K.moved hW.alike hK, (hD M).weaken (fun _ _ _ _ => trivial), nest_warm hW hN⟩⟩ rfl (by rw [List.length_map, hn]) hl.1 (by rw [hst, List.map_append, List.map_reverse]) (lv_room (by rw [cat_sum]; exact hcat)) hdg ⟨hc, hsl⟩) hS hF (fun H1 locs1 hP1 hS1 => ?_)
  rw [map_opt]
  exact k p l e R s m args below meth c cells slots A H0 ad cA D Q Cx Xh F H1 locs1 ls hl hP1 hS1
theorem G_callSN (hs : Spec t2 d2 as M r1 M1) (ho : okS t2 n) (hlk : Cond.methodLinkNest t.1 idx t2.2.1 "PotHandles" ∈ nestL) (hd : d2 + 1 ≤ d) (hn : as.length = n) (hst : st0 = as.reverse ++ st) (hcat : argW st ≤ 8) (hdg : decode t.2.2.1 pc = .ok (.invokestatic idx, 3)) (k : GX X t d r M' (pc + 3) L (r1.toList ++ st) M1) : GX X t d r M' pc L st0 M := by
  intro p l e R s m args below meth c cells slots A H0 ad cA D Q Cx Xh F H locs ls hl hP hS
  obtain ⟨⟨⟨h1, h2, h3⟩, h4, h5, h6⟩, h7⟩ := ho
  obtain ⟨hx, hb, hml, hown, hts, hN, hK, hdf, hdl, hc, hsl, hA, hD⟩ := id Cx
  have hF := free_in (hD M) hS hA
  have hT : GoodIn TB (wsM t2) := goodTB fun w hw => by
    rcases List.mem_cons.mp hw with rfl | hw
    · exact h6
    · exact hw
  refine W_called (va_runSN (As := as.map (cv ad)) (rest := st.map (cv ad)) (n := n) ⟨hx, hb, hml, hown, hts⟩ (hs l ad cA D H.size) ⟨va_cnB n hts hT rfl rfl rfl (hN _ hlk) (hts _ h5) h4 ⟨by show d2 + 1 ≤ _; omega, by show 8 + (t2.2.2.2.1 + 11) + 64 * d2 ≤ _; omega⟩, hts _ h7, trivial⟩ ⟨pre_blind, fun U hU hW => ⟨rfl, by rw [hU], by rw [hU]; exact hP, va_K.moved hW.alike hK, (hD M).weaken (fun _ _ _ _ => trivial), nest_warm hW hN⟩⟩ rfl (by rw [List.length_map, hn]) hl.1 (by rw [hst, List.map_append, List.map_reverse]) (lv_room (by rw [cat_sum]; exact hcat)) hdg ⟨hc, hsl⟩) hS hF (fun H1 locs1 hP1 hS1 => ?_)
  rw [map_opt]
  exact k p l e R s m args below meth c cells slots A H0 ad cA D Q Cx Xh F H1 locs1 ls hl hP1 hS1
theorem G_callV {f i : Nat} {T : u_T} {N : Nat} (hs : Spec t2 d2 (.inr (.inr (f, i)) :: as) M r1 M1) (ho : okV t2 n) (hlk : Cond.methodLink t.1 idx t2.2.1 ∈ TB) (hd : d2 + 1 ≤ d) (hn : as.length = n) (hf : f < 32) (hi : i < fCnt f) (hcl : fCls f < 9) (hvw : vwCl[fCls f]? = some (t2.1, T, N)) (hst : st0 = as.reverse ++ .inr (.inr (f, i)) :: st) (hcat : argW st ≤ 8) (hdg : decode t.2.2.1 pc = .ok (.invokevirtual idx, 3)) (k : GX X t d r M' (pc + 3) L (r1.toList ++ st) M1) : GX X t d r M' pc L st0 M := by
  intro p l e R s m args below meth c cells slots A H0 ad cA D Q Cx Xh F H locs ls hl hP hS
  obtain ⟨⟨⟨h1, h2, h3⟩, h4, h5, h6⟩, h7, h8⟩ := ho
  obtain ⟨hx, hb, hml, hown, hts, hN, hK, hdf, hdl, hc, hsl, hA, hD⟩ := id Cx
  have hF := free_in (hD M) hS hA
  have he : (world ad cA M)[fOff f + i]? = some (ad f i, .inr (fCls f, (List.range (fNum (fCls f))).map (fun k => cv ad (fldV f i k M)))) := by rw [world_at hf hi, cellE_obj hcl]
  have hT : GoodIn TB (wsV t.1 idx t2.1 t2.2.1 (wsM t2)) := goodTB fun w hw => by
    rcases List.mem_append.mp hw with hw | hw
    · rcases List.mem_cons.mp hw with rfl | hw
      · exact hlk
      rcases List.mem_cons.mp hw with rfl | hw
      · exact h7
      rcases List.mem_cons.mp hw with rfl | hw
      · rw [← h1]; exact h8
      rcases List.mem_cons.mp hw with rfl | hw
      · rw [← h1]; exact h5
      cases hw
    · rcases List.mem_cons.mp hw with rfl | hw
      · exact h6
      · exact hw
  refine W_called (va_runV (C := t2.1) (b := ad f i) (As := as.map (cv ad)) (rest := st.map (cv ad)) (n := n) ⟨hx, hb, hml, hown, hts⟩ (hs l ad cA D H.size) (cwV n hts hT rfl rfl rfl ⟨h1, h4⟩ ⟨by show d2 + 1 ≤ _; omega, by show 8 + (t2.2.2.2.1 + 11) + 64 * d2 ≤ _; omega⟩) ⟨pre_blind, va_recv (q := (t2.1, T, N)) hK hP hvw he, fun U hU hW => ⟨rfl, by rw [hU], by rw [hU]; exact hP, va_K.moved hW.alike hK, (hD M).weaken (fun _ _ _ _ => trivial), nest_warm hW hN⟩⟩ rfl (by rw [List.length_map, hn]) hl.1 (by rw [hst, List.map_append, List.map_reverse]; rfl) (lv_room (by rw [cat_sum]; exact hcat)) hdg ⟨hc, hsl⟩) hS hF (fun H1 locs1 hP1 hS1 => ?_)
  rw [map_opt]
  exact k p l e R s m args below meth c cells slots A H0 ad cA D Q Cx Xh F H1 locs1 ls hl hP1 hS1
def jmax (x y : Int32) : Int32 := if x < y then y else x
def jmin (x y : Int32) : Int32 := if y < x then y else x
theorem G_max {x y : Int32} (hlk : Cond.methodLink t.1 idx Lib.Math.max.name ∈ TB) (hst : Cond.static Lib.Math.max.name ∈ TB) (hin : Cond.initialized "java/lang/Math" ∈ TB) (hcd : Cond.code Lib.Math.max.name Lib.Math.max.code 2 (some .int) ∈ TB) (hd : 1 ≤ d) (hcat : argW st ≤ 8) (hdg : decode t.2.2.1 pc = .ok (.invokestatic idx, 3)) (k : GX X t d r M' (pc + 3) L (.inl (jmax x y) :: st) M) : GX X t d r M' pc L (.inl y :: .inl x :: st) M := by
  intro p l e R s m args below meth c cells slots A H0 ad cA D Q Cx Xh F H locs ls hl hP hS
  obtain ⟨hx, hb, hml, hown, hts, hN, hK, hdf, hdl, hc, hsl, hA, hD⟩ := id Cx
  exact va_mmax hx hb (hml.trans hl.1.symm) hown (hts _ hlk) (hts _ hst) (hts _ hin) (hts _ hcd) (by omega) (by rw [cat_sum]; omega) hc hsl hdg (k p l e R s m args below meth c cells slots A H0 ad cA D Q Cx Xh F H locs ls hl hP hS)
theorem G_min {x y : Int32} (hlk : Cond.methodLink t.1 idx Lib.Math.min.name ∈ TB) (hst : Cond.static Lib.Math.min.name ∈ TB) (hin : Cond.initialized "java/lang/Math" ∈ TB) (hcd : Cond.code Lib.Math.min.name Lib.Math.min.code 2 (some .int) ∈ TB) (hd : 1 ≤ d) (hcat : argW st ≤ 8) (hdg : decode t.2.2.1 pc = .ok (.invokestatic idx, 3)) (k : GX X t d r M' (pc + 3) L (.inl (jmin x y) :: st) M) : GX X t d r M' pc L (.inl y :: .inl x :: st) M := by
  intro p l e R s m args below meth c cells slots A H0 ad cA D Q Cx Xh F H locs ls hl hP hS
  obtain ⟨hx, hb, hml, hown, hts, hN, hK, hdf, hdl, hc, hsl, hA, hD⟩ := id Cx
  exact va_mmin hx hb (hml.trans hl.1.symm) hown (hts _ hlk) (hts _ hst) (hts _ hin) (hts _ hcd) (by omega) (by rw [cat_sum]; omega) hc hsl hdg (k p l e R s m args below meth c cells slots A H0 ad cA D Q Cx Xh F H locs ls hl hP hS)
theorem G_bast {f i : Nat} {x v : Int32} {M2 : MM} (hf : f < 32) (hi : i < fCnt f) (hcl : ¬ fCls f < 9) (he0 : fElt f = 1) (hin : ib x (fLen f) = true) (hM2 : wrM M f i x.toNatClampNeg v = M2) (hdg : decode t.2.2.1 pc = .ok (.bastore, 1)) (k : GX X t d r M' (pc + 1) L st M2) : GX X t d r M' pc L (.inl v :: .inl x :: .inr (.inr (f, i)) :: st) M := by
  intro p l e R s m args below meth c cells slots A H0 ad cA D Q Cx Xh F H locs ls hl hP hS
  subst hM2
  have he : ∀ M : MM, (world ad cA M)[fOff f + i]? = some (ad f i, .inl (cA 1, fLen f, .inl (fun j => nbB (rdM M f i j)))) := by
    intro M
    rw [world_at hf hi, cellE_arr hcl]
    unfold arrF
    rw [he0]
    rfl
  have e0 : upd (fun j => nbB (rdM M f i j)) x.toNatClampNeg (vp_nar .byte v) = (fun j => nbB (rdM (wrM M f i x.toNatClampNeg v) f i j)) := by
    funext j
    rw [rd_wr_eq]
    by_cases h : j = x.toNatClampNeg
    · subst h; simp [upd]; rfl
    · simp [upd, h]
  have e1 : (world ad cA M).set (fOff f + i) (ad f i, .inl (cA 1, fLen f, .inl (upd (fun j => nbB (rdM M f i j)) x.toNatClampNeg (vp_nar .byte v)))) = world ad cA (wrM M f i x.toNatClampNeg v) := by
    rw [e0, ← world_set (M := M) hf hi rd_wr_other, cellE_arr hcl]
    unfold arrF
    rw [he0]
    rfl
  refine va_bast Cx.1 Cx.2.1 Cx.2.2.2.2.2.2.1 hP (Cx.2.2.2.2.2.2.2.2.2.2.2.2 M) hS (fOff f + i) 1 (he M) rfl (ib_in hin) hdg (fun H1 locs1 hP1 hD1 hS1 => ?_)
  rw [e1] at hP1
  exact k p l e R s m args below meth c cells slots A H0 ad cA D Q Cx Xh F H1 locs1 ls hl hP1 hS1
end CALL
/-- numbers are copied between two rows of the class's -/
def cpM (M : MM) (f i sp g j dp n : Nat) : MM := (cp3 M.1 f i sp g j dp n, M.2)
theorem rd_cp {M : MM} {f i sp g j dp n f' i' k' : Nat} (hf : f < 19) (hg : g < 19) : rdM (cpM M f i sp g j dp n) f' i' k' = if f' = g ∧ i' = j ∧ dp ≤ k' ∧ k' < dp + n then rdM M f i (sp + (k' - dp)) else rdM M f' i' k' := by
  unfold rdM cpM cp3
  by_cases h : f' < 19
  · simp [h, hf]
  · have : ¬ f' = g := by omega
    simp [h, this]
theorem fits_nbB (x : Int32) : fits .byte (.int (nbB x)) = true := by
  have e : (nbB x).toInt = x.toInt8.toInt := Int8.toInt_toInt32 _
  have h1 := Int8.le_toInt x.toInt8
  have h2 := Int8.toInt_lt x.toInt8
  show (decide (-128 ≤ nbB x) && decide (nbB x ≤ 127)) = true
  rw [Bool.and_eq_true, decide_eq_true_eq, decide_eq_true_eq, Int32.le_iff_toInt_le, Int32.le_iff_toInt_le, e]
  exact ⟨h1, by have : (127 : Int32).toInt = 127 := rfl
                omega⟩
section CPY
variable {X : CtxX} {t : MT} {d idx : Nat} {r : Option AV} {M' : MM} {pc : Nat} {L : List (Nat × AV)} {st : List AV} {M : MM}
/-- what may be copied: both places within -/
def cpok (sp dp n : Int32) (n0 n1 : Nat) : Bool := decide (¬ sp < 0 ∧ ¬ dp < 0 ∧ ¬ n < 0 ∧ sp.toNatClampNeg + n.toNatClampNeg ≤ n0 ∧ dp.toNatClampNeg + n.toNatClampNeg ≤ n1)
theorem G_copy {f i g j : Nat} {sp dp n : Int32} {M2 : MM} (hlk : Cond.methodLink t.1 idx arraycopyName ∈ TB) (hnat : Cond.native arraycopyName ∈ TB) (hsta : Cond.static arraycopyName ∈ TB) (hini : Cond.initialized "java/lang/System" ∈ TB) (hf : f < 19) (hi : i < fCnt f) (hg : g < 19) (hj : j < fCnt g) (hcl : ¬ fCls f < 9) (hclg : ¬ fCls g < 9) (he0 : (fElt f = 0 ∧ fElt g = 0) ∨ (fElt f = 1 ∧ fElt g = 1)) (hin : cpok sp dp n (fLen f) (fLen g) = true) (hd : 1 ≤ d) (hst : st = []) (hM2 : cpM M f i sp.toNatClampNeg g j dp.toNatClampNeg n.toNatClampNeg = M2) (hdg : decode t.2.2.1 pc = .ok (.invokestatic idx, 3)) (k : GX X t d r M' (pc + 3) L st M2) : GX X t d r M' pc L (.inl n :: .inl dp :: .inr (.inr (g, j)) :: .inl sp :: .inr (.inr (f, i)) :: st) M := by
  intro p l e R s m args below meth c cells slots A H0 ad cA D Q Cx Xh F H locs ls hl hP hS
  subst hM2; subst hst
  obtain ⟨hx, hb, hml, hown, hts, hN, hK, hdf, hdl, hc, hsl, hA, hD⟩ := id Cx
  obtain ⟨b1, b2, b3, b4, b5⟩ := of_decide_eq_true hin
  have hnf : nativeFrameWords "java/lang/System" "arraycopy" 5 + 11 ≤ 64 := by decide +kernel
  have hw0 : ∀ f' i', ¬ (f' = g ∧ i' = j) → ∀ k', rdM (cpM M f i sp.toNatClampNeg g j dp.toNatClampNeg n.toNatClampNeg) f' i' k' = rdM M f' i' k' := fun f' i' h k' => by
    rw [rd_cp hf hg, if_neg (fun e => h ⟨e.1, e.2.1⟩)]
  rcases he0 with ⟨z1, z2⟩ | ⟨z1, z2⟩
  · have he : ∀ (M : MM) (f i : Nat), f < 19 → i < fCnt f → ¬ fCls f < 9 → fElt f = 0 → (world ad cA M)[fOff f + i]? = some (ad f i, .inl (cA 0, fLen f, .inl (fun j => rdM M f i j))) := by
      intro M f i hf hi hcl he0
      rw [world_at (by omega) hi, cellE_arr hcl]
      unfold arrF
      rw [he0]
      rfl
    have e0 : va_cpy (fun j => rdM M f i j) (fun k => rdM M g j k) sp.toNatClampNeg dp.toNatClampNeg n.toNatClampNeg = (fun k => rdM (cpM M f i sp.toNatClampNeg g j dp.toNatClampNeg n.toNatClampNeg) g j k) := by
      funext k'
      rw [rd_cp hf hg]
      simp [va_cpy]
    have e1 : (world ad cA M).set (fOff g + j) (ad g j, .inl (cA 0, fLen g, .inl (va_cpy (fun j => rdM M f i j) (fun k => rdM M g j k) sp.toNatClampNeg dp.toNatClampNeg n.toNatClampNeg))) = world ad cA (cpM M f i sp.toNatClampNeg g j dp.toNatClampNeg n.toNatClampNeg) := by
      rw [e0, ← world_set (M := M) (by omega) hj hw0, cellE_arr hclg]
      unfold arrF
      rw [z2]
      rfl
    refine va_copyi hx hb (hml.trans hl.1.symm) hown (hts _ hlk) (hts _ hnat) (hts _ hsta) (hts _ hini) hK hP (hD M) hS (fOff f + i) (fOff g + j) 0 0 (he M f i hf hi hcl z1) (he M g j hg hj hclg z2) rfl rfl rfl b1 b2 b3 b4 b5 (fun _ _ => rfl) (by omega) (by show 0 + _ ≤ _; omega) hdg (fun H1 locs1 hP1 hD1 hS1 => ?_)
    rw [e1] at hP1
    exact k p l e R s m args below meth c cells slots A H0 ad cA D Q Cx Xh F H1 locs1 ls hl hP1 hS1
  · have he : ∀ (M : MM) (f i : Nat), f < 19 → i < fCnt f → ¬ fCls f < 9 → fElt f = 1 → (world ad cA M)[fOff f + i]? = some (ad f i, .inl (cA 1, fLen f, .inl (fun j => nbB (rdM M f i j)))) := by
      intro M f i hf hi hcl he0
      rw [world_at (by omega) hi, cellE_arr hcl]
      unfold arrF
      rw [he0]
      rfl
    have e0 : va_cpy (fun j => nbB (rdM M f i j)) (fun k => nbB (rdM M g j k)) sp.toNatClampNeg dp.toNatClampNeg n.toNatClampNeg = (fun k => nbB (rdM (cpM M f i sp.toNatClampNeg g j dp.toNatClampNeg n.toNatClampNeg) g j k)) := by
      funext k'
      rw [rd_cp hf hg]
      by_cases h : dp.toNatClampNeg ≤ k' ∧ k' < dp.toNatClampNeg + n.toNatClampNeg <;> simp [va_cpy, h]
    have e1 : (world ad cA M).set (fOff g + j) (ad g j, .inl (cA 1, fLen g, .inl (va_cpy (fun j => nbB (rdM M f i j)) (fun k => nbB (rdM M g j k)) sp.toNatClampNeg dp.toNatClampNeg n.toNatClampNeg))) = world ad cA (cpM M f i sp.toNatClampNeg g j dp.toNatClampNeg n.toNatClampNeg) := by
      rw [e0, ← world_set (M := M) (by omega) hj hw0, cellE_arr hclg]
      unfold arrF
      rw [z2]
      rfl
    refine va_copyi hx hb (hml.trans hl.1.symm) hown (hts _ hlk) (hts _ hnat) (hts _ hsta) (hts _ hini) hK hP (hD M) hS (fOff f + i) (fOff g + j) 1 1 (he M f i hf hi hcl z1) (he M g j hg hj hclg z2) rfl rfl rfl b1 b2 b3 b4 b5 (fun k _ => ?_) (by omega) (by show 0 + _ ≤ _; omega) hdg (fun H1 locs1 hP1 hD1 hS1 => ?_)
    · exact fits_nbB _
    rw [e1] at hP1
    exact k p l e R s m args below meth c cells slots A H0 ad cA D Q Cx Xh F H1 locs1 ls hl hP1 hS1
end CPY
end
section
theorem tbm {w : Cond} (i : Nat) (h : tables_1[i]? = some w) (g : goodWord w = true) : w ∈ TB := List.mem_filter.mpr ⟨List.mem_append_right _ (List.mem_of_getElem? h), g⟩
theorem tbs (q : MethodName × Nat) (i : Nat) (h : lw_privs[i]? = some q) : Cond.selects q.1.cls q.1 q.1 ∈ TB := List.mem_filter.mpr ⟨List.mem_append_left _ (List.mem_map.mpr ⟨q, List.mem_of_getElem? h, rfl⟩), rfl⟩
theorem up3_eq {M : Mem} {f i k : Nat} {v : Int32} : up3 M f i k v f i k = v := if_pos ⟨rfl, rfl, rfl⟩
theorem up3_f {M : Mem} {f i k f' i' k' : Nat} {v : Int32} (h : ¬ f' = f) : up3 M f i k v f' i' k' = M f' i' k' := if_neg (fun e => h e.1)
theorem up3_k {M : Mem} {f i k f' i' k' : Nat} {v : Int32} (h : ¬ k' = k) : up3 M f i k v f' i' k' = M f' i' k' := if_neg (fun e => h e.2.1)
theorem cp3_f {M : Mem} {f i sp g j dp n f' i' k' : Nat} (h : ¬ f' = g) : cp3 M f i sp g j dp n f' i' k' = M f' i' k' := if_neg (fun e => h e.1)
theorem nbZ_nbZ (x : Int32) : nbZ (nbZ x) = nbZ x := by
  unfold nbZ
  by_cases h : x = 0 <;> simp [h]
theorem chk {p : Prop} [Decidable p] {α : Type} {A : Option α} {res : α} (h : (if p then A else none) = some res) : p ∧ A = some res := by
  by_cases hp : p
  · exact ⟨hp, (if_pos hp).symm.trans h⟩
  · cases (if_neg hp).symm.trans h
theorem chkn {p : Prop} [Decidable p] {α : Type} {A : Option α} {res : α} (h : (if p then none else A) = some res) : ¬ p ∧ A = some res := by
  by_cases hp : p
  · cases (if_pos hp).symm.trans h
  · exact ⟨hp, (if_neg hp).symm.trans h⟩
theorem bnd {α β : Type} {a : Option α} {f : α → Option β} {res : β} (h : a.bind f = some res) : ∃ q, a = some q ∧ f q = some res := Option.bind_eq_some_iff.mp h
theorem ne_lit {x v : Int32} {n : Int} (hn : v.toInt = n) (h : ¬ x = v) : x.toInt ≠ n := fun e => h (Int32.toInt_inj.mp (e.trans hn.symm))
section SW
variable {X : CtxX} {t : MT} {d : Nat} {r : Option AV} {M' : MM} {pc : Nat} {L : List (Nat × AV)} {st : List AV} {M : MM}
theorem G_tableEq {dflt lo hi : Int} {offs : Array Int} {len : Nat} {x v : Int32} {off : Int} {tgt : Nat} (hx : x = v) (hdg : decode t.2.2.1 pc = .ok (.tableswitch dflt lo hi offs, len)) (h1 : ¬ v.toInt < lo) (h2 : ¬ hi < v.toInt) (ho : offs[(v.toInt - lo).toNat]? = some off) (ht : (pc : Int) + off = (tgt : Int)) (k : GX X t d r M' tgt L st M) : GX X t d r M' pc L (.inl x :: st) M := by
  subst hx
  exact G_tableIn hdg h1 h2 ho ht k
theorem G_lookEq {dflt : Int} {ps : Array (Int × Int)} {len : Nat} {x v : Int32} {off : Int} {tgt : Nat} (hx : x = v) (hdg : decode t.2.2.1 pc = .ok (.lookupswitch dflt ps, len)) (hp : (ps.toList.zip (ps.toList.drop 1)).all (fun (a, next) => a.1 < next.1) = true) (ho : Op.lookupswitch.offset ps.toList dflt v.toInt = off) (ht : (pc : Int) + off = (tgt : Int)) (k : GX X t d r M' tgt L st M) : GX X t d r M' pc L (.inl x :: st) M := by
  subst hx
  exact G_lookup hdg hp ho ht k
theorem G_callSv {t2 : MT} {d2 idx n : Nat} {st0 as : List AV} {v : AV} {M1 : MM} (hs : Spec t2 d2 as M (some v) M1) (ho : okS t2 n) (hlk : Cond.methodLink t.1 idx t2.2.1 ∈ TB) (hd : d2 + 1 ≤ d) (hn : as.length = n) (hst : st0 = as.reverse ++ st) (hcat : argW st ≤ 8) (hdg : decode t.2.2.1 pc = .ok (.invokestatic idx, 3)) (k : GX X t d r M' (pc + 3) L (v :: st) M1) : GX X t d r M' pc L st0 M := G_callS hs ho hlk hd hn hst hcat hdg k
theorem G_callSn {t2 : MT} {d2 idx n : Nat} {st0 as : List AV} {M1 : MM} (hs : Spec t2 d2 as M none M1) (ho : okS t2 n) (hlk : Cond.methodLink t.1 idx t2.2.1 ∈ TB) (hd : d2 + 1 ≤ d) (hn : as.length = n) (hst : st0 = as.reverse ++ st) (hcat : argW st ≤ 8) (hdg : decode t.2.2.1 pc = .ok (.invokestatic idx, 3)) (k : GX X t d r M' (pc + 3) L st M1) : GX X t d r M' pc L st0 M := G_callS hs ho hlk hd hn hst hcat hdg k
theorem G_callSNv {t2 : MT} {d2 idx n : Nat} {st0 as : List AV} {v : AV} {M1 : MM} (hs : Spec t2 d2 as M (some v) M1) (ho : okS t2 n) (hlk : Cond.methodLinkNest t.1 idx t2.2.1 "PotHandles" ∈ nestL) (hd : d2 + 1 ≤ d) (hn : as.length = n) (hst : st0 = as.reverse ++ st) (hcat : argW st ≤ 8) (hdg : decode t.2.2.1 pc = .ok (.invokestatic idx, 3)) (k : GX X t d r M' (pc + 3) L (v :: st) M1) : GX X t d r M' pc L st0 M := G_callSN hs ho hlk hd hn hst hcat hdg k
theorem G_callVv {t2 : MT} {d2 idx n f i : Nat} {st0 as : List AV} {v : AV} {M1 : MM} {T : u_T} {N : Nat} (hs : Spec t2 d2 (.inr (.inr (f, i)) :: as) M (some v) M1) (ho : okV t2 n) (hlk : Cond.methodLink t.1 idx t2.2.1 ∈ TB) (hd : d2 + 1 ≤ d) (hn : as.length = n) (hf : f < 32) (hi : i < fCnt f) (hcl : fCls f < 9) (hvw : vwCl[fCls f]? = some (t2.1, T, N)) (hst : st0 = as.reverse ++ .inr (.inr (f, i)) :: st) (hcat : argW st ≤ 8) (hdg : decode t.2.2.1 pc = .ok (.invokevirtual idx, 3)) (k : GX X t d r M' (pc + 3) L (v :: st) M1) : GX X t d r M' pc L st0 M := G_callV hs ho hlk hd hn hf hi hcl hvw hst hcat hdg k
theorem G_callVn {t2 : MT} {d2 idx n f i : Nat} {st0 as : List AV} {M1 : MM} {T : u_T} {N : Nat} (hs : Spec t2 d2 (.inr (.inr (f, i)) :: as) M none M1) (ho : okV t2 n) (hlk : Cond.methodLink t.1 idx t2.2.1 ∈ TB) (hd : d2 + 1 ≤ d) (hn : as.length = n) (hf : f < 32) (hi : i < fCnt f) (hcl : fCls f < 9) (hvw : vwCl[fCls f]? = some (t2.1, T, N)) (hst : st0 = as.reverse ++ .inr (.inr (f, i)) :: st) (hcat : argW st ≤ 8) (hdg : decode t.2.2.1 pc = .ok (.invokevirtual idx, 3)) (k : GX X t d r M' (pc + 3) L st M1) : GX X t d r M' pc L st0 M := G_callV hs ho hlk hd hn hf hi hcl hvw hst hcat hdg k
end SW
abbrev mt_J7_fill_53178 : MT := (RJ7, yJ7_fill_53178, cJ7_fill_53178, 4, none)
set_option maxRecDepth 100000 in
theorem ok_J7_fill_53178 : okS mt_J7_fill_53178 2 := ⟨⟨⟨rfl, by decide, by decide⟩, ⟨by decide, by decide, by decide +kernel⟩, tbm 4 (by decide +kernel) rfl, tbm 49 (by decide +kernel) rfl⟩, tbm 48 (by decide +kernel) rfl⟩
abbrev mt_X7_house : MT := (RX7, yX7_house, cX7_house, 6, (some .int))
set_option maxRecDepth 100000 in
theorem ok_X7_house : okV mt_X7_house 3 := ⟨⟨⟨rfl, by decide, by decide⟩, ⟨by decide, by decide, by decide +kernel⟩, tbm 1 (by decide +kernel) rfl, tbm 256 (by decide +kernel) rfl⟩, tbm 254 (by decide +kernel) rfl, tbm 255 (by decide +kernel) rfl⟩
abbrev mt_X7_isHouse : MT := (RX7, yX7_isHouse, cX7_isHouse, 1, (some .boolean))
set_option maxRecDepth 100000 in
theorem ok_X7_isHouse : okS mt_X7_isHouse 1 := ⟨⟨⟨rfl, by decide, by decide⟩, ⟨by decide, by decide, by decide +kernel⟩, tbm 1 (by decide +kernel) rfl, tbm 259 (by decide +kernel) rfl⟩, tbm 258 (by decide +kernel) rfl⟩
abbrev mt_X7_isWithin : MT := (RX7, yX7_isWithin, cX7_isWithin, 2, (some .boolean))
set_option maxRecDepth 100000 in
theorem ok_X7_isWithin : okS mt_X7_isWithin 2 := ⟨⟨⟨rfl, by decide, by decide⟩, ⟨by decide, by decide, by decide +kernel⟩, tbm 1 (by decide +kernel) rfl, tbm 262 (by decide +kernel) rfl⟩, tbm 261 (by decide +kernel) rfl⟩
abbrev mt_X7_fail : MT := (RX7, yX7_fail, cX7_fail, 2, (some .int))
set_option maxRecDepth 100000 in
theorem ok_X7_fail : okV mt_X7_fail 1 := ⟨⟨⟨rfl, by decide, by decide⟩, ⟨by decide, by decide, by decide +kernel⟩, tbm 1 (by decide +kernel) rfl, tbm 266 (by decide +kernel) rfl⟩, tbm 265 (by decide +kernel) rfl, tbs (yX7_fail, 10) 0 (by decide +kernel)⟩
abbrev mt_X7_ofHouse : MT := (RX7, yX7_ofHouse, cX7_ofHouse, 3, (some .int))
set_option maxRecDepth 100000 in
theorem ok_X7_ofHouse : okV mt_X7_ofHouse 2 := ⟨⟨⟨rfl, by decide, by decide⟩, ⟨by decide, by decide, by decide +kernel⟩, tbm 1 (by decide +kernel) rfl, tbm 271 (by decide +kernel) rfl⟩, tbm 269 (by decide +kernel) rfl, tbm 270 (by decide +kernel) rfl⟩
abbrev mt_X1_potsIn : MT := (RX1, yX1_potsIn, cX1_potsIn, 4, (some .int))
set_option maxRecDepth 100000 in
theorem ok_X1_potsIn : okV mt_X1_potsIn 1 := ⟨⟨⟨rfl, by decide, by decide⟩, ⟨by decide, by decide, by decide +kernel⟩, tbm 2 (by decide +kernel) rfl, tbm 275 (by decide +kernel) rfl⟩, tbm 273 (by decide +kernel) rfl, tbm 274 (by decide +kernel) rfl⟩
abbrev mt_X7_pot : MT := (RX7, yX7_pot, cX7_pot, 4, (some .int))
set_option maxRecDepth 100000 in
theorem ok_X7_pot : okV mt_X7_pot 3 := ⟨⟨⟨rfl, by decide, by decide⟩, ⟨by decide, by decide, by decide +kernel⟩, tbm 1 (by decide +kernel) rfl, tbm 279 (by decide +kernel) rfl⟩, tbm 277 (by decide +kernel) rfl, tbm 278 (by decide +kernel) rfl⟩
abbrev mt_X7_isKindWithNumber : MT := (RX7, yX7_isKindWithNumber, cX7_isKindWithNumber, 1, (some .boolean))
set_option maxRecDepth 100000 in
theorem ok_X7_isKindWithNumber : okS mt_X7_isKindWithNumber 1 := ⟨⟨⟨rfl, by decide, by decide⟩, ⟨by decide, by decide, by decide +kernel⟩, tbm 1 (by decide +kernel) rfl, tbm 282 (by decide +kernel) rfl⟩, tbm 281 (by decide +kernel) rfl⟩
abbrev mt_X3_begin : MT := (RX3, yX3_begin, cX3_begin, 4, none)
set_option maxRecDepth 100000 in
theorem ok_X3_begin : okV mt_X3_begin 3 := ⟨⟨⟨rfl, by decide, by decide⟩, ⟨by decide, by decide, by decide +kernel⟩, tbm 5 (by decide +kernel) rfl, tbm 286 (by decide +kernel) rfl⟩, tbm 284 (by decide +kernel) rfl, tbm 285 (by decide +kernel) rfl⟩
abbrev mt_X7_ofPot : MT := (RX7, yX7_ofPot, cX7_ofPot, 4, (some .int))
set_option maxRecDepth 100000 in
theorem ok_X7_ofPot : okV mt_X7_ofPot 2 := ⟨⟨⟨rfl, by decide, by decide⟩, ⟨by decide, by decide, by decide +kernel⟩, tbm 1 (by decide +kernel) rfl, tbm 290 (by decide +kernel) rfl⟩, tbm 288 (by decide +kernel) rfl, tbm 289 (by decide +kernel) rfl⟩
abbrev mt_X1_has : MT := (RX1, yX1_has, cX1_has, 2, (some .boolean))
set_option maxRecDepth 100000 in
theorem ok_X1_has : okV mt_X1_has 1 := ⟨⟨⟨rfl, by decide, by decide⟩, ⟨by decide, by decide, by decide +kernel⟩, tbm 2 (by decide +kernel) rfl, tbm 294 (by decide +kernel) rfl⟩, tbm 292 (by decide +kernel) rfl, tbm 293 (by decide +kernel) rfl⟩
abbrev mt_X3_wants : MT := (RX3, yX3_wants, cX3_wants, 1, (some .int))
set_option maxRecDepth 100000 in
theorem ok_X3_wants : okV mt_X3_wants 0 := ⟨⟨⟨rfl, by decide, by decide⟩, ⟨by decide, by decide, by decide +kernel⟩, tbm 5 (by decide +kernel) rfl, tbm 298 (by decide +kernel) rfl⟩, tbm 296 (by decide +kernel) rfl, tbm 297 (by decide +kernel) rfl⟩
abbrev mt_X3_bears : MT := (RX3, yX3_bears, cX3_bears, 1, (some .int))
set_option maxRecDepth 100000 in
theorem ok_X3_bears : okV mt_X3_bears 0 := ⟨⟨⟨rfl, by decide, by decide⟩, ⟨by decide, by decide, by decide +kernel⟩, tbm 5 (by decide +kernel) rfl, tbm 302 (by decide +kernel) rfl⟩, tbm 300 (by decide +kernel) rfl, tbm 301 (by decide +kernel) rfl⟩
abbrev mt_X7_change : MT := (RX7, yX7_change, cX7_change, 6, (some .int))
set_option maxRecDepth 100000 in
theorem ok_X7_change : okV mt_X7_change 3 := ⟨⟨⟨rfl, by decide, by decide⟩, ⟨by decide, by decide, by decide +kernel⟩, tbm 1 (by decide +kernel) rfl, tbm 306 (by decide +kernel) rfl⟩, tbm 304 (by decide +kernel) rfl, tbm 305 (by decide +kernel) rfl⟩
abbrev mt_X7_shift : MT := (RX7, yX7_shift, cX7_shift, 5, (some .int))
set_option maxRecDepth 100000 in
theorem ok_X7_shift : okV mt_X7_shift 2 := ⟨⟨⟨rfl, by decide, by decide⟩, ⟨by decide, by decide, by decide +kernel⟩, tbm 1 (by decide +kernel) rfl, tbm 310 (by decide +kernel) rfl⟩, tbm 308 (by decide +kernel) rfl, tbm 309 (by decide +kernel) rfl⟩
abbrev mt_X3_goTo : MT := (RX3, yX3_goTo, cX3_goTo, 2, none)
set_option maxRecDepth 100000 in
theorem ok_X3_goTo : okV mt_X3_goTo 1 := ⟨⟨⟨rfl, by decide, by decide⟩, ⟨by decide, by decide, by decide +kernel⟩, tbm 5 (by decide +kernel) rfl, tbm 314 (by decide +kernel) rfl⟩, tbm 312 (by decide +kernel) rfl, tbm 313 (by decide +kernel) rfl⟩
abbrev mt_X7_stick : MT := (RX7, yX7_stick, cX7_stick, 3, (some .int))
set_option maxRecDepth 100000 in
theorem ok_X7_stick : okV mt_X7_stick 1 := ⟨⟨⟨rfl, by decide, by decide⟩, ⟨by decide, by decide, by decide +kernel⟩, tbm 1 (by decide +kernel) rfl, tbm 318 (by decide +kernel) rfl⟩, tbm 316 (by decide +kernel) rfl, tbm 317 (by decide +kernel) rfl⟩
abbrev mt_X3_canTakeFalseHandle : MT := (RX3, yX3_canTakeFalseHandle, cX3_canTakeFalseHandle, 1, (some .boolean))
set_option maxRecDepth 100000 in
theorem ok_X3_canTakeFalseHandle : okV mt_X3_canTakeFalseHandle 0 := ⟨⟨⟨rfl, by decide, by decide⟩, ⟨by decide, by decide, by decide +kernel⟩, tbm 5 (by decide +kernel) rfl, tbm 322 (by decide +kernel) rfl⟩, tbm 320 (by decide +kernel) rfl, tbm 321 (by decide +kernel) rfl⟩
abbrev mt_X3_takeFalseHandle : MT := (RX3, yX3_takeFalseHandle, cX3_takeFalseHandle, 1, none)
set_option maxRecDepth 100000 in
theorem ok_X3_takeFalseHandle : okV mt_X3_takeFalseHandle 0 := ⟨⟨⟨rfl, by decide, by decide⟩, ⟨by decide, by decide, by decide +kernel⟩, tbm 5 (by decide +kernel) rfl, tbm 326 (by decide +kernel) rfl⟩, tbm 324 (by decide +kernel) rfl, tbm 325 (by decide +kernel) rfl⟩
abbrev mt_X7_become : MT := (RX7, yX7_become, cX7_become, 5, (some .int))
set_option maxRecDepth 100000 in
theorem ok_X7_become : okV mt_X7_become 2 := ⟨⟨⟨rfl, by decide, by decide⟩, ⟨by decide, by decide, by decide +kernel⟩, tbm 1 (by decide +kernel) rfl, tbm 330 (by decide +kernel) rfl⟩, tbm 328 (by decide +kernel) rfl, tbm 329 (by decide +kernel) rfl⟩
abbrev mt_X7_as : MT := (RX7, yX7_as, cX7_as, 4, (some .int))
set_option maxRecDepth 100000 in
theorem ok_X7_as : okV mt_X7_as 2 := ⟨⟨⟨rfl, by decide, by decide⟩, ⟨by decide, by decide, by decide +kernel⟩, tbm 1 (by decide +kernel) rfl, tbm 334 (by decide +kernel) rfl⟩, tbm 332 (by decide +kernel) rfl, tbm 333 (by decide +kernel) rfl⟩
abbrev mt_X7_isUnder : MT := (RX7, yX7_isUnder, cX7_isUnder, 3, (some .boolean))
set_option maxRecDepth 100000 in
theorem ok_X7_isUnder : okS mt_X7_isUnder 2 := ⟨⟨⟨rfl, by decide, by decide⟩, ⟨by decide, by decide, by decide +kernel⟩, tbm 1 (by decide +kernel) rfl, tbm 337 (by decide +kernel) rfl⟩, tbm 336 (by decide +kernel) rfl⟩
abbrev mt_X7_kindAbove : MT := (RX7, yX7_kindAbove, cX7_kindAbove, 1, (some .int))
set_option maxRecDepth 100000 in
theorem ok_X7_kindAbove : okS mt_X7_kindAbove 1 := ⟨⟨⟨rfl, by decide, by decide⟩, ⟨by decide, by decide, by decide +kernel⟩, tbm 1 (by decide +kernel) rfl, tbm 340 (by decide +kernel) rfl⟩, tbm 339 (by decide +kernel) rfl⟩
abbrev mt_X7_feed : MT := (RX7, yX7_feed, cX7_feed, 5, (some .int))
set_option maxRecDepth 100000 in
theorem ok_X7_feed : okV mt_X7_feed 2 := ⟨⟨⟨rfl, by decide, by decide⟩, ⟨by decide, by decide, by decide +kernel⟩, tbm 1 (by decide +kernel) rfl, tbm 344 (by decide +kernel) rfl⟩, tbm 342 (by decide +kernel) rfl, tbm 343 (by decide +kernel) rfl⟩
abbrev mt_X7_text : MT := (RX7, yX7_text, cX7_text, 3, (some .int))
set_option maxRecDepth 100000 in
theorem ok_X7_text : okV mt_X7_text 1 := ⟨⟨⟨rfl, by decide, by decide⟩, ⟨by decide, by decide, by decide +kernel⟩, tbm 1 (by decide +kernel) rfl, tbm 348 (by decide +kernel) rfl⟩, tbm 346 (by decide +kernel) rfl, tbm 347 (by decide +kernel) rfl⟩
abbrev mt_X4_readTape : MT := (RX4, yX4_readTape, cX4_readTape, 2, (some .boolean))
set_option maxRecDepth 100000 in
theorem ok_X4_readTape : okV mt_X4_readTape 1 := ⟨⟨⟨rfl, by decide, by decide⟩, ⟨by decide, by decide, by decide +kernel⟩, tbm 7 (by decide +kernel) rfl, tbm 352 (by decide +kernel) rfl⟩, tbm 350 (by decide +kernel) rfl, tbm 351 (by decide +kernel) rfl⟩
abbrev mt_X2_clear : MT := (RX2, yX2_clear, cX2_clear, 1, none)
set_option maxRecDepth 100000 in
theorem ok_X2_clear : okV mt_X2_clear 0 := ⟨⟨⟨rfl, by decide, by decide⟩, ⟨by decide, by decide, by decide +kernel⟩, tbm 3 (by decide +kernel) rfl, tbm 356 (by decide +kernel) rfl⟩, tbm 354 (by decide +kernel) rfl, tbm 355 (by decide +kernel) rfl⟩
abbrev mt_X4_readLevel : MT := (RX4, yX4_readLevel, cX4_readLevel, 5, (some .boolean))
set_option maxRecDepth 100000 in
theorem ok_X4_readLevel : okV mt_X4_readLevel 2 := ⟨⟨⟨rfl, by decide, by decide⟩, ⟨by decide, by decide, by decide +kernel⟩, tbm 7 (by decide +kernel) rfl, tbm 360 (by decide +kernel) rfl⟩, tbm 359 (by decide +kernel) rfl, tbs (yX4_readLevel, 4) 1 (by decide +kernel)⟩
abbrev mt_X4_readLast : MT := (RX4, yX4_readLast, cX4_readLast, 5, (some .boolean))
set_option maxRecDepth 100000 in
theorem ok_X4_readLast : okV mt_X4_readLast 1 := ⟨⟨⟨rfl, by decide, by decide⟩, ⟨by decide, by decide, by decide +kernel⟩, tbm 7 (by decide +kernel) rfl, tbm 364 (by decide +kernel) rfl⟩, tbm 363 (by decide +kernel) rfl, tbs (yX4_readLast, 4) 2 (by decide +kernel)⟩
abbrev mt_X4_next : MT := (RX4, yX4_next, cX4_next, 1, (some .int))
set_option maxRecDepth 100000 in
theorem ok_X4_next : okV mt_X4_next 0 := ⟨⟨⟨rfl, by decide, by decide⟩, ⟨by decide, by decide, by decide +kernel⟩, tbm 7 (by decide +kernel) rfl, tbm 368 (by decide +kernel) rfl⟩, tbm 367 (by decide +kernel) rfl, tbs (yX4_next, 4) 3 (by decide +kernel)⟩
abbrev mt_X4_isDigit : MT := (RX4, yX4_isDigit, cX4_isDigit, 1, (some .boolean))
set_option maxRecDepth 100000 in
theorem ok_X4_isDigit : okS mt_X4_isDigit 1 := ⟨⟨⟨rfl, by decide, by decide⟩, ⟨by decide, by decide, by decide +kernel⟩, tbm 7 (by decide +kernel) rfl, tbm 371 (by decide +kernel) rfl⟩, tbm 370 (by decide +kernel) rfl⟩
abbrev mt_X4_readNumber : MT := (RX4, yX4_readNumber, cX4_readNumber, 3, none)
set_option maxRecDepth 100000 in
theorem ok_X4_readNumber : okV mt_X4_readNumber 0 := ⟨⟨⟨rfl, by decide, by decide⟩, ⟨by decide, by decide, by decide +kernel⟩, tbm 7 (by decide +kernel) rfl, tbm 375 (by decide +kernel) rfl⟩, tbm 374 (by decide +kernel) rfl, tbs (yX4_readNumber, 4) 4 (by decide +kernel)⟩
abbrev mt_X2_add : MT := (RX2, yX2_add, cX2_add, 2, none)
set_option maxRecDepth 100000 in
theorem ok_X2_add : okV mt_X2_add 1 := ⟨⟨⟨rfl, by decide, by decide⟩, ⟨by decide, by decide, by decide +kernel⟩, tbm 3 (by decide +kernel) rfl, tbm 379 (by decide +kernel) rfl⟩, tbm 377 (by decide +kernel) rfl, tbm 378 (by decide +kernel) rfl⟩
abbrev mt_X4_nameOf : MT := (RX4, yX4_nameOf, cX4_nameOf, 2, (some .int))
set_option maxRecDepth 100000 in
theorem ok_X4_nameOf : okV mt_X4_nameOf 1 := ⟨⟨⟨rfl, by decide, by decide⟩, ⟨by decide, by decide, by decide +kernel⟩, tbm 7 (by decide +kernel) rfl, tbm 383 (by decide +kernel) rfl⟩, tbm 382 (by decide +kernel) rfl, tbs (yX4_nameOf, 4) 5 (by decide +kernel)⟩
abbrev mt_X4_levelOf : MT := (RX4, yX4_levelOf, cX4_levelOf, 1, (some .int))
set_option maxRecDepth 100000 in
theorem ok_X4_levelOf : okS mt_X4_levelOf 1 := ⟨⟨⟨rfl, by decide, by decide⟩, ⟨by decide, by decide, by decide +kernel⟩, tbm 7 (by decide +kernel) rfl, tbm 386 (by decide +kernel) rfl⟩, tbm 385 (by decide +kernel) rfl⟩
abbrev mt_X1_lawOf : MT := (RX1, yX1_lawOf, cX1_lawOf, 2, (some (.object "PotHandles$Law")))
set_option maxRecDepth 100000 in
theorem ok_X1_lawOf : okV mt_X1_lawOf 1 := ⟨⟨⟨rfl, by decide, by decide⟩, ⟨by decide, by decide, by decide +kernel⟩, tbm 2 (by decide +kernel) rfl, tbm 390 (by decide +kernel) rfl⟩, tbm 388 (by decide +kernel) rfl, tbm 389 (by decide +kernel) rfl⟩
abbrev mt_X2_copy : MT := (RX2, yX2_copy, cX2_copy, 2, none)
set_option maxRecDepth 100000 in
theorem ok_X2_copy : okV mt_X2_copy 1 := ⟨⟨⟨rfl, by decide, by decide⟩, ⟨by decide, by decide, by decide +kernel⟩, tbm 3 (by decide +kernel) rfl, tbm 394 (by decide +kernel) rfl⟩, tbm 392 (by decide +kernel) rfl, tbm 393 (by decide +kernel) rfl⟩
abbrev mt_X7_law : MT := (RX7, yX7_law, cX7_law, 5, (some .int))
set_option maxRecDepth 100000 in
theorem ok_X7_law : okV mt_X7_law 4 := ⟨⟨⟨rfl, by decide, by decide⟩, ⟨by decide, by decide, by decide +kernel⟩, tbm 1 (by decide +kernel) rfl, tbm 401 (by decide +kernel) rfl⟩, tbm 399 (by decide +kernel) rfl, tbm 400 (by decide +kernel) rfl⟩
abbrev mt_X1_given : MT := (RX1, yX1_given, cX1_given, 7, (some .int))
set_option maxRecDepth 100000 in
theorem ok_X1_given : okV mt_X1_given 4 := ⟨⟨⟨rfl, by decide, by decide⟩, ⟨by decide, by decide, by decide +kernel⟩, tbm 2 (by decide +kernel) rfl, tbm 405 (by decide +kernel) rfl⟩, tbm 403 (by decide +kernel) rfl, tbm 404 (by decide +kernel) rfl⟩
abbrev mt_X2_stands : MT := (RX2, yX2_stands, cX2_stands, 1, (some .boolean))
set_option maxRecDepth 100000 in
theorem ok_X2_stands : okV mt_X2_stands 0 := ⟨⟨⟨rfl, by decide, by decide⟩, ⟨by decide, by decide, by decide +kernel⟩, tbm 3 (by decide +kernel) rfl, tbm 410 (by decide +kernel) rfl⟩, tbm 408 (by decide +kernel) rfl, tbm 409 (by decide +kernel) rfl⟩
abbrev mt_X2_workedOut : MT := (RX2, yX2_workedOut, cX2_workedOut, 7, (some .int))
set_option maxRecDepth 100000 in
theorem ok_X2_workedOut : okV mt_X2_workedOut 3 := ⟨⟨⟨rfl, by decide, by decide⟩, ⟨by decide, by decide, by decide +kernel⟩, tbm 3 (by decide +kernel) rfl, tbm 414 (by decide +kernel) rfl⟩, tbm 412 (by decide +kernel) rfl, tbm 413 (by decide +kernel) rfl⟩
abbrev mt_X2_joined : MT := (RX2, yX2_joined, cX2_joined, 3, (some .int))
set_option maxRecDepth 100000 in
theorem ok_X2_joined : okS mt_X2_joined 3 := ⟨⟨⟨rfl, by decide, by decide⟩, ⟨by decide, by decide, by decide +kernel⟩, tbm 3 (by decide +kernel) rfl, tbm 417 (by decide +kernel) rfl⟩, tbm 416 (by decide +kernel) rfl⟩
abbrev mt_X2_namedOrNumber : MT := (RX2, yX2_namedOrNumber, cX2_namedOrNumber, 4, (some .int))
set_option maxRecDepth 100000 in
theorem ok_X2_namedOrNumber : okS mt_X2_namedOrNumber 4 := ⟨⟨⟨rfl, by decide, by decide⟩, ⟨by decide, by decide, by decide +kernel⟩, tbm 3 (by decide +kernel) rfl, tbm 420 (by decide +kernel) rfl⟩, tbm 419 (by decide +kernel) rfl⟩
abbrev mt_X7_years : MT := (RX7, yX7_years, cX7_years, 2, (some .int))
set_option maxRecDepth 100000 in
theorem ok_X7_years : okV mt_X7_years 1 := ⟨⟨⟨rfl, by decide, by decide⟩, ⟨by decide, by decide, by decide +kernel⟩, tbm 1 (by decide +kernel) rfl, tbm 430 (by decide +kernel) rfl⟩, tbm 428 (by decide +kernel) rfl, tbm 429 (by decide +kernel) rfl⟩
abbrev mt_X1_passYears : MT := (RX1, yX1_passYears, cX1_passYears, 4, none)
set_option maxRecDepth 100000 in
theorem ok_X1_passYears : okV mt_X1_passYears 1 := ⟨⟨⟨rfl, by decide, by decide⟩, ⟨by decide, by decide, by decide +kernel⟩, tbm 2 (by decide +kernel) rfl, tbm 434 (by decide +kernel) rfl⟩, tbm 432 (by decide +kernel) rfl, tbm 433 (by decide +kernel) rfl⟩
abbrev mt_X1_passYearOf : MT := (RX1, yX1_passYearOf, cX1_passYearOf, 4, none)
set_option maxRecDepth 100000 in
theorem ok_X1_passYearOf : okV mt_X1_passYearOf 2 := ⟨⟨⟨rfl, by decide, by decide⟩, ⟨by decide, by decide, by decide +kernel⟩, tbm 2 (by decide +kernel) rfl, tbm 439 (by decide +kernel) rfl⟩, tbm 438 (by decide +kernel) rfl, tbs (yX1_passYearOf, 8) 6 (by decide +kernel)⟩
abbrev mt_X3_liveYear : MT := (RX3, yX3_liveYear, cX3_liveYear, 3, none)
set_option maxRecDepth 100000 in
theorem ok_X3_liveYear : okV mt_X3_liveYear 1 := ⟨⟨⟨rfl, by decide, by decide⟩, ⟨by decide, by decide, by decide +kernel⟩, tbm 5 (by decide +kernel) rfl, tbm 444 (by decide +kernel) rfl⟩, tbm 442 (by decide +kernel) rfl, tbm 443 (by decide +kernel) rfl⟩
abbrev mt_X3_warmedBy : MT := (RX3, yX3_warmedBy, cX3_warmedBy, 2, (some .int))
set_option maxRecDepth 100000 in
theorem ok_X3_warmedBy : okV mt_X3_warmedBy 1 := ⟨⟨⟨rfl, by decide, by decide⟩, ⟨by decide, by decide, by decide +kernel⟩, tbm 5 (by decide +kernel) rfl, tbm 448 (by decide +kernel) rfl⟩, tbm 446 (by decide +kernel) rfl, tbm 447 (by decide +kernel) rfl⟩
abbrev mt_J6_bitCount_0f7a4 : MT := (RJ6, yJ6_bitCount_0f7a4, cJ6_bitCount_0f7a4, 1, (some .int))
set_option maxRecDepth 100000 in
theorem ok_J6_bitCount_0f7a4 : okS mt_J6_bitCount_0f7a4 1 := ⟨⟨⟨rfl, by decide, by decide⟩, ⟨by decide, by decide, by decide +kernel⟩, tbm 13 (by decide +kernel) rfl, tbm 456 (by decide +kernel) rfl⟩, tbm 455 (by decide +kernel) rfl⟩
abbrev mt_X1_allHandles : MT := (RX1, yX1_allHandles, cX1_allHandles, 3, (some .int))
set_option maxRecDepth 100000 in
theorem ok_X1_allHandles : okV mt_X1_allHandles 0 := ⟨⟨⟨rfl, by decide, by decide⟩, ⟨by decide, by decide, by decide +kernel⟩, tbm 2 (by decide +kernel) rfl, tbm 463 (by decide +kernel) rfl⟩, tbm 461 (by decide +kernel) rfl, tbm 462 (by decide +kernel) rfl⟩
abbrev mt_X7_loose : MT := (RX7, yX7_loose, cX7_loose, 4, (some .int))
set_option maxRecDepth 100000 in
theorem ok_X7_loose : okV mt_X7_loose 1 := ⟨⟨⟨rfl, by decide, by decide⟩, ⟨by decide, by decide, by decide +kernel⟩, tbm 1 (by decide +kernel) rfl, tbm 467 (by decide +kernel) rfl⟩, tbm 465 (by decide +kernel) rfl, tbm 466 (by decide +kernel) rfl⟩
abbrev mt_X0_draw : MT := (RX0, yX0_draw, cX0_draw, 1, (some .int))
set_option maxRecDepth 100000 in
theorem ok_X0_draw : okV mt_X0_draw 0 := ⟨⟨⟨rfl, by decide, by decide⟩, ⟨by decide, by decide, by decide +kernel⟩, tbm 6 (by decide +kernel) rfl, tbm 471 (by decide +kernel) rfl⟩, tbm 469 (by decide +kernel) rfl, tbm 470 (by decide +kernel) rfl⟩
abbrev mt_X7_then : MT := (RX7, yX7_then, cX7_then, 5, (some .int))
set_option maxRecDepth 100000 in
theorem ok_X7_then : okV mt_X7_then 3 := ⟨⟨⟨rfl, by decide, by decide⟩, ⟨by decide, by decide, by decide +kernel⟩, tbm 1 (by decide +kernel) rfl, tbm 476 (by decide +kernel) rfl⟩, tbm 474 (by decide +kernel) rfl, tbm 475 (by decide +kernel) rfl⟩
abbrev mt_X7_behind : MT := (RX7, yX7_behind, cX7_behind, 2, (some (.object "PotHandles$District")))
set_option maxRecDepth 100000 in
theorem ok_X7_behind : okV mt_X7_behind 1 := ⟨⟨⟨rfl, by decide, by decide⟩, ⟨by decide, by decide, by decide +kernel⟩, tbm 1 (by decide +kernel) rfl, tbm 480 (by decide +kernel) rfl⟩, tbm 479 (by decide +kernel) rfl, tbs (yX7_behind, 10) 7 (by decide +kernel)⟩
abbrev mt_X1_copy : MT := (RX1, yX1_copy, cX1_copy, 3, none)
set_option maxRecDepth 100000 in
theorem ok_X1_copy : okV mt_X1_copy 1 := ⟨⟨⟨rfl, by decide, by decide⟩, ⟨by decide, by decide, by decide +kernel⟩, tbm 2 (by decide +kernel) rfl, tbm 484 (by decide +kernel) rfl⟩, tbm 482 (by decide +kernel) rfl, tbm 483 (by decide +kernel) rfl⟩
abbrev mt_X3_copy : MT := (RX3, yX3_copy, cX3_copy, 2, none)
set_option maxRecDepth 100000 in
theorem ok_X3_copy : okV mt_X3_copy 1 := ⟨⟨⟨rfl, by decide, by decide⟩, ⟨by decide, by decide, by decide +kernel⟩, tbm 5 (by decide +kernel) rfl, tbm 489 (by decide +kernel) rfl⟩, tbm 487 (by decide +kernel) rfl, tbm 488 (by decide +kernel) rfl⟩
abbrev mt_X7_when : MT := (RX7, yX7_when, cX7_when, 5, (some .int))
set_option maxRecDepth 100000 in
theorem ok_X7_when : okV mt_X7_when 1 := ⟨⟨⟨rfl, by decide, by decide⟩, ⟨by decide, by decide, by decide +kernel⟩, tbm 1 (by decide +kernel) rfl, tbm 494 (by decide +kernel) rfl⟩, tbm 492 (by decide +kernel) rfl, tbm 493 (by decide +kernel) rfl⟩
abbrev mt_X7_shelf : MT := (RX7, yX7_shelf, cX7_shelf, 4, (some .int))
set_option maxRecDepth 100000 in
theorem ok_X7_shelf : okV mt_X7_shelf 2 := ⟨⟨⟨rfl, by decide, by decide⟩, ⟨by decide, by decide, by decide +kernel⟩, tbm 1 (by decide +kernel) rfl, tbm 498 (by decide +kernel) rfl⟩, tbm 496 (by decide +kernel) rfl, tbm 497 (by decide +kernel) rfl⟩
abbrev mt_X1_potsWithHandle : MT := (RX1, yX1_potsWithHandle, cX1_potsWithHandle, 3, (some .int))
set_option maxRecDepth 100000 in
theorem ok_X1_potsWithHandle : okV mt_X1_potsWithHandle 0 := ⟨⟨⟨rfl, by decide, by decide⟩, ⟨by decide, by decide, by decide +kernel⟩, tbm 2 (by decide +kernel) rfl, tbm 502 (by decide +kernel) rfl⟩, tbm 500 (by decide +kernel) rfl, tbm 501 (by decide +kernel) rfl⟩
abbrev mt_X7_place : MT := (RX7, yX7_place, cX7_place, 9, (some .int))
set_option maxRecDepth 100000 in
theorem ok_X7_place : okV mt_X7_place 3 := ⟨⟨⟨rfl, by decide, by decide⟩, ⟨by decide, by decide, by decide +kernel⟩, tbm 1 (by decide +kernel) rfl, tbm 506 (by decide +kernel) rfl⟩, tbm 504 (by decide +kernel) rfl, tbm 505 (by decide +kernel) rfl⟩
abbrev mt_X7_whenMoved : MT := (RX7, yX7_whenMoved, cX7_whenMoved, 6, (some (.object "PotHandles$Pot")))
set_option maxRecDepth 100000 in
theorem ok_X7_whenMoved : okV mt_X7_whenMoved 3 := ⟨⟨⟨rfl, by decide, by decide⟩, ⟨by decide, by decide, by decide +kernel⟩, tbm 1 (by decide +kernel) rfl, tbm 510 (by decide +kernel) rfl⟩, tbm 509 (by decide +kernel) rfl, tbs (yX7_whenMoved, 10) 8 (by decide +kernel)⟩
abbrev mt_X7_use : MT := (RX7, yX7_use, cX7_use, 6, (some .int))
set_option maxRecDepth 100000 in
theorem ok_X7_use : okV mt_X7_use 2 := ⟨⟨⟨rfl, by decide, by decide⟩, ⟨by decide, by decide, by decide +kernel⟩, tbm 1 (by decide +kernel) rfl, tbm 514 (by decide +kernel) rfl⟩, tbm 512 (by decide +kernel) rfl, tbm 513 (by decide +kernel) rfl⟩
abbrev mt_X7_needed : MT := (RX7, yX7_needed, cX7_needed, 7, (some .int))
set_option maxRecDepth 100000 in
theorem ok_X7_needed : okV mt_X7_needed 2 := ⟨⟨⟨rfl, by decide, by decide⟩, ⟨by decide, by decide, by decide +kernel⟩, tbm 1 (by decide +kernel) rfl, tbm 518 (by decide +kernel) rfl⟩, tbm 516 (by decide +kernel) rfl, tbm 517 (by decide +kernel) rfl⟩
abbrev mt_X1_allPots : MT := (RX1, yX1_allPots, cX1_allPots, 1, (some .int))
set_option maxRecDepth 100000 in
theorem ok_X1_allPots : okV mt_X1_allPots 0 := ⟨⟨⟨rfl, by decide, by decide⟩, ⟨by decide, by decide, by decide +kernel⟩, tbm 2 (by decide +kernel) rfl, tbm 522 (by decide +kernel) rfl⟩, tbm 520 (by decide +kernel) rfl, tbm 521 (by decide +kernel) rfl⟩
abbrev mt_X7_haveHandlesIfCaredFor : MT := (RX7, yX7_haveHandlesIfCaredFor, cX7_haveHandlesIfCaredFor, 6, (some .boolean))
set_option maxRecDepth 100000 in
theorem ok_X7_haveHandlesIfCaredFor : okV mt_X7_haveHandlesIfCaredFor 3 := ⟨⟨⟨rfl, by decide, by decide⟩, ⟨by decide, by decide, by decide +kernel⟩, tbm 1 (by decide +kernel) rfl, tbm 527 (by decide +kernel) rfl⟩, tbm 526 (by decide +kernel) rfl, tbs (yX7_haveHandlesIfCaredFor, 10) 9 (by decide +kernel)⟩
abbrev mt_X7_whose : MT := (RX7, yX7_whose, cX7_whose, 6, (some .int))
set_option maxRecDepth 100000 in
theorem ok_X7_whose : okV mt_X7_whose 3 := ⟨⟨⟨rfl, by decide, by decide⟩, ⟨by decide, by decide, by decide +kernel⟩, tbm 1 (by decide +kernel) rfl, tbm 531 (by decide +kernel) rfl⟩, tbm 529 (by decide +kernel) rfl, tbm 530 (by decide +kernel) rfl⟩
abbrev mt_X7_isSheet : MT := (RX7, yX7_isSheet, cX7_isSheet, 1, (some .boolean))
set_option maxRecDepth 100000 in
theorem ok_X7_isSheet : okS mt_X7_isSheet 1 := ⟨⟨⟨rfl, by decide, by decide⟩, ⟨by decide, by decide, by decide +kernel⟩, tbm 1 (by decide +kernel) rfl, tbm 534 (by decide +kernel) rfl⟩, tbm 533 (by decide +kernel) rfl⟩
abbrev mt_X5_isMissing : MT := (RX5, yX5_isMissing, cX5_isMissing, 1, (some .boolean))
set_option maxRecDepth 100000 in
theorem ok_X5_isMissing : okV mt_X5_isMissing 0 := ⟨⟨⟨rfl, by decide, by decide⟩, ⟨by decide, by decide, by decide +kernel⟩, tbm 9 (by decide +kernel) rfl, tbm 538 (by decide +kernel) rfl⟩, tbm 536 (by decide +kernel) rfl, tbm 537 (by decide +kernel) rfl⟩
abbrev mt_X7_isLikedAsTold : MT := (RX7, yX7_isLikedAsTold, cX7_isLikedAsTold, 7, (some .boolean))
set_option maxRecDepth 100000 in
theorem ok_X7_isLikedAsTold : okV mt_X7_isLikedAsTold 3 := ⟨⟨⟨rfl, by decide, by decide⟩, ⟨by decide, by decide, by decide +kernel⟩, tbm 1 (by decide +kernel) rfl, tbm 542 (by decide +kernel) rfl⟩, tbm 541 (by decide +kernel) rfl, tbs (yX7_isLikedAsTold, 10) 10 (by decide +kernel)⟩
abbrev mt_X7_carry : MT := (RX7, yX7_carry, cX7_carry, 6, (some .int))
set_option maxRecDepth 100000 in
theorem ok_X7_carry : okV mt_X7_carry 1 := ⟨⟨⟨rfl, by decide, by decide⟩, ⟨by decide, by decide, by decide +kernel⟩, tbm 1 (by decide +kernel) rfl, tbm 546 (by decide +kernel) rfl⟩, tbm 544 (by decide +kernel) rfl, tbm 545 (by decide +kernel) rfl⟩
abbrev mt_X7_richest : MT := (RX7, yX7_richest, cX7_richest, 8, (some .int))
set_option maxRecDepth 100000 in
theorem ok_X7_richest : okV mt_X7_richest 2 := ⟨⟨⟨rfl, by decide, by decide⟩, ⟨by decide, by decide, by decide +kernel⟩, tbm 1 (by decide +kernel) rfl, tbm 551 (by decide +kernel) rfl⟩, tbm 549 (by decide +kernel) rfl, tbm 550 (by decide +kernel) rfl⟩
abbrev mt_X1_handlesIn : MT := (RX1, yX1_handlesIn, cX1_handlesIn, 4, (some .int))
set_option maxRecDepth 100000 in
theorem ok_X1_handlesIn : okV mt_X1_handlesIn 1 := ⟨⟨⟨rfl, by decide, by decide⟩, ⟨by decide, by decide, by decide +kernel⟩, tbm 2 (by decide +kernel) rfl, tbm 555 (by decide +kernel) rfl⟩, tbm 553 (by decide +kernel) rfl, tbm 554 (by decide +kernel) rfl⟩
abbrev mt_X7_breaks : MT := (RX7, yX7_breaks, cX7_breaks, 3, (some .int))
set_option maxRecDepth 100000 in
theorem ok_X7_breaks : okV mt_X7_breaks 1 := ⟨⟨⟨rfl, by decide, by decide⟩, ⟨by decide, by decide, by decide +kernel⟩, tbm 1 (by decide +kernel) rfl, tbm 559 (by decide +kernel) rfl⟩, tbm 557 (by decide +kernel) rfl, tbm 558 (by decide +kernel) rfl⟩
abbrev mt_X7_dealer : MT := (RX7, yX7_dealer, cX7_dealer, 6, (some .int))
set_option maxRecDepth 100000 in
theorem ok_X7_dealer : okV mt_X7_dealer 1 := ⟨⟨⟨rfl, by decide, by decide⟩, ⟨by decide, by decide, by decide +kernel⟩, tbm 1 (by decide +kernel) rfl, tbm 563 (by decide +kernel) rfl⟩, tbm 561 (by decide +kernel) rfl, tbm 562 (by decide +kernel) rfl⟩
abbrev mt_X7_handlesIfStuck : MT := (RX7, yX7_handlesIfStuck, cX7_handlesIfStuck, 4, (some .int))
set_option maxRecDepth 100000 in
theorem ok_X7_handlesIfStuck : okV mt_X7_handlesIfStuck 2 := ⟨⟨⟨rfl, by decide, by decide⟩, ⟨by decide, by decide, by decide +kernel⟩, tbm 1 (by decide +kernel) rfl, tbm 567 (by decide +kernel) rfl⟩, tbm 566 (by decide +kernel) rfl, tbs (yX7_handlesIfStuck, 10) 11 (by decide +kernel)⟩
abbrev mt_X7_odds : MT := (RX7, yX7_odds, cX7_odds, 7, (some .int))
set_option maxRecDepth 100000 in
theorem ok_X7_odds : okV mt_X7_odds 3 := ⟨⟨⟨rfl, by decide, by decide⟩, ⟨by decide, by decide, by decide +kernel⟩, tbm 1 (by decide +kernel) rfl, tbm 571 (by decide +kernel) rfl⟩, tbm 569 (by decide +kernel) rfl, tbm 570 (by decide +kernel) rfl⟩
abbrev mt_X7_whenBeing : MT := (RX7, yX7_whenBeing, cX7_whenBeing, 5, (some (.object "PotHandles$Pot")))
set_option maxRecDepth 100000 in
theorem ok_X7_whenBeing : okV mt_X7_whenBeing 3 := ⟨⟨⟨rfl, by decide, by decide⟩, ⟨by decide, by decide, by decide +kernel⟩, tbm 1 (by decide +kernel) rfl, tbm 575 (by decide +kernel) rfl⟩, tbm 574 (by decide +kernel) rfl, tbs (yX7_whenBeing, 10) 12 (by decide +kernel)⟩
abbrev mt_X7_seed : MT := (RX7, yX7_seed, cX7_seed, 3, (some .int))
set_option maxRecDepth 100000 in
theorem ok_X7_seed : okV mt_X7_seed 1 := ⟨⟨⟨rfl, by decide, by decide⟩, ⟨by decide, by decide, by decide +kernel⟩, tbm 1 (by decide +kernel) rfl, tbm 579 (by decide +kernel) rfl⟩, tbm 577 (by decide +kernel) rfl, tbm 578 (by decide +kernel) rfl⟩
abbrev mt_X7_voice : MT := (RX7, yX7_voice, cX7_voice, 4, (some .int))
set_option maxRecDepth 100000 in
theorem ok_X7_voice : okV mt_X7_voice 3 := ⟨⟨⟨rfl, by decide, by decide⟩, ⟨by decide, by decide, by decide +kernel⟩, tbm 1 (by decide +kernel) rfl, tbm 583 (by decide +kernel) rfl⟩, tbm 581 (by decide +kernel) rfl, tbm 582 (by decide +kernel) rfl⟩
abbrev mt_X6_speak : MT := (RX6, yX6_speak, cX6_speak, 5, (some .int))
set_option maxRecDepth 100000 in
theorem ok_X6_speak : okV mt_X6_speak 4 := ⟨⟨⟨rfl, by decide, by decide⟩, ⟨by decide, by decide, by decide +kernel⟩, tbm 8 (by decide +kernel) rfl, tbm 587 (by decide +kernel) rfl⟩, tbm 585 (by decide +kernel) rfl, tbm 586 (by decide +kernel) rfl⟩
abbrev mt_X6_say : MT := (RX6, yX6_say, cX6_say, 7, (some .int))
set_option maxRecDepth 100000 in
theorem ok_X6_say : okV mt_X6_say 4 := ⟨⟨⟨rfl, by decide, by decide⟩, ⟨by decide, by decide, by decide +kernel⟩, tbm 8 (by decide +kernel) rfl, tbm 591 (by decide +kernel) rfl⟩, tbm 590 (by decide +kernel) rfl, tbs (yX6_say, 5) 13 (by decide +kernel)⟩
abbrev mt_X6_bodyOf : MT := (RX6, yX6_bodyOf, cX6_bodyOf, 2, (some .int))
set_option maxRecDepth 100000 in
theorem ok_X6_bodyOf : okS mt_X6_bodyOf 2 := ⟨⟨⟨rfl, by decide, by decide⟩, ⟨by decide, by decide, by decide +kernel⟩, tbm 8 (by decide +kernel) rfl, tbm 594 (by decide +kernel) rfl⟩, tbm 593 (by decide +kernel) rfl⟩
abbrev mt_X6_begin : MT := (RX6, yX6_begin, cX6_begin, 2, none)
set_option maxRecDepth 100000 in
theorem ok_X6_begin : okV mt_X6_begin 1 := ⟨⟨⟨rfl, by decide, by decide⟩, ⟨by decide, by decide, by decide +kernel⟩, tbm 8 (by decide +kernel) rfl, tbm 598 (by decide +kernel) rfl⟩, tbm 597 (by decide +kernel) rfl, tbs (yX6_begin, 5) 14 (by decide +kernel)⟩
abbrev mt_X6_sayBody : MT := (RX6, yX6_sayBody, cX6_sayBody, 4, (some .int))
set_option maxRecDepth 100000 in
theorem ok_X6_sayBody : okV mt_X6_sayBody 3 := ⟨⟨⟨rfl, by decide, by decide⟩, ⟨by decide, by decide, by decide +kernel⟩, tbm 8 (by decide +kernel) rfl, tbm 602 (by decide +kernel) rfl⟩, tbm 601 (by decide +kernel) rfl, tbs (yX6_sayBody, 5) 15 (by decide +kernel)⟩
abbrev mt_X6_sayAbove : MT := (RX6, yX6_sayAbove, cX6_sayAbove, 5, (some .int))
set_option maxRecDepth 100000 in
theorem ok_X6_sayAbove : okV mt_X6_sayAbove 4 := ⟨⟨⟨rfl, by decide, by decide⟩, ⟨by decide, by decide, by decide +kernel⟩, tbm 8 (by decide +kernel) rfl, tbm 606 (by decide +kernel) rfl⟩, tbm 605 (by decide +kernel) rfl, tbs (yX6_sayAbove, 5) 16 (by decide +kernel)⟩
abbrev mt_X7_trace : MT := (RX7, yX7_trace, cX7_trace, 2, (some .int))
set_option maxRecDepth 100000 in
theorem ok_X7_trace : okV mt_X7_trace 1 := ⟨⟨⟨rfl, by decide, by decide⟩, ⟨by decide, by decide, by decide +kernel⟩, tbm 1 (by decide +kernel) rfl, tbm 611 (by decide +kernel) rfl⟩, tbm 609 (by decide +kernel) rfl, tbm 610 (by decide +kernel) rfl⟩
abbrev mt_X7_sheet : MT := (RX7, yX7_sheet, cX7_sheet, 4, (some .int))
set_option maxRecDepth 100000 in
theorem ok_X7_sheet : okV mt_X7_sheet 3 := ⟨⟨⟨rfl, by decide, by decide⟩, ⟨by decide, by decide, by decide +kernel⟩, tbm 1 (by decide +kernel) rfl, tbm 615 (by decide +kernel) rfl⟩, tbm 613 (by decide +kernel) rfl, tbm 614 (by decide +kernel) rfl⟩
abbrev mt_X5_lay : MT := (RX5, yX5_lay, cX5_lay, 3, none)
set_option maxRecDepth 100000 in
theorem ok_X5_lay : okV mt_X5_lay 2 := ⟨⟨⟨rfl, by decide, by decide⟩, ⟨by decide, by decide, by decide +kernel⟩, tbm 9 (by decide +kernel) rfl, tbm 619 (by decide +kernel) rfl⟩, tbm 617 (by decide +kernel) rfl, tbm 618 (by decide +kernel) rfl⟩
abbrev mt_X7_put : MT := (RX7, yX7_put, cX7_put, 5, (some .int))
set_option maxRecDepth 100000 in
theorem ok_X7_put : okV mt_X7_put 3 := ⟨⟨⟨rfl, by decide, by decide⟩, ⟨by decide, by decide, by decide +kernel⟩, tbm 1 (by decide +kernel) rfl, tbm 624 (by decide +kernel) rfl⟩, tbm 622 (by decide +kernel) rfl, tbm 623 (by decide +kernel) rfl⟩
abbrev mt_X5_lowestBits : MT := (RX5, yX5_lowestBits, cX5_lowestBits, 2, (some .int))
set_option maxRecDepth 100000 in
theorem ok_X5_lowestBits : okV mt_X5_lowestBits 1 := ⟨⟨⟨rfl, by decide, by decide⟩, ⟨by decide, by decide, by decide +kernel⟩, tbm 9 (by decide +kernel) rfl, tbm 628 (by decide +kernel) rfl⟩, tbm 626 (by decide +kernel) rfl, tbm 627 (by decide +kernel) rfl⟩
abbrev mt_X7_move : MT := (RX7, yX7_move, cX7_move, 8, (some .int))
set_option maxRecDepth 100000 in
theorem ok_X7_move : okV mt_X7_move 5 := ⟨⟨⟨rfl, by decide, by decide⟩, ⟨by decide, by decide, by decide +kernel⟩, tbm 1 (by decide +kernel) rfl, tbm 632 (by decide +kernel) rfl⟩, tbm 630 (by decide +kernel) rfl, tbm 631 (by decide +kernel) rfl⟩
abbrev mt_X5_holds : MT := (RX5, yX5_holds, cX5_holds, 3, (some .boolean))
set_option maxRecDepth 100000 in
theorem ok_X5_holds : okV mt_X5_holds 2 := ⟨⟨⟨rfl, by decide, by decide⟩, ⟨by decide, by decide, by decide +kernel⟩, tbm 9 (by decide +kernel) rfl, tbm 636 (by decide +kernel) rfl⟩, tbm 634 (by decide +kernel) rfl, tbm 635 (by decide +kernel) rfl⟩
abbrev mt_X7_uses : MT := (RX7, yX7_uses, cX7_uses, 5, (some .int))
set_option maxRecDepth 100000 in
theorem ok_X7_uses : okV mt_X7_uses 1 := ⟨⟨⟨rfl, by decide, by decide⟩, ⟨by decide, by decide, by decide +kernel⟩, tbm 1 (by decide +kernel) rfl, tbm 641 (by decide +kernel) rfl⟩, tbm 639 (by decide +kernel) rfl, tbm 640 (by decide +kernel) rfl⟩
abbrev mt_X7_judge : MT := (RX7, yX7_judge, cX7_judge, 5, (some .int))
set_option maxRecDepth 100000 in
theorem ok_X7_judge : okV mt_X7_judge 1 := ⟨⟨⟨rfl, by decide, by decide⟩, ⟨by decide, by decide, by decide +kernel⟩, tbm 1 (by decide +kernel) rfl, tbm 645 (by decide +kernel) rfl⟩, tbm 643 (by decide +kernel) rfl, tbm 644 (by decide +kernel) rfl⟩
abbrev mt_X7_image : MT := (RX7, yX7_image, cX7_image, 1, (some .int))
set_option maxRecDepth 100000 in
theorem ok_X7_image : okV mt_X7_image 0 := ⟨⟨⟨rfl, by decide, by decide⟩, ⟨by decide, by decide, by decide +kernel⟩, tbm 1 (by decide +kernel) rfl, tbm 649 (by decide +kernel) rfl⟩, tbm 647 (by decide +kernel) rfl, tbm 648 (by decide +kernel) rfl⟩
abbrev mt_X0_copy : MT := (RX0, yX0_copy, cX0_copy, 2, none)
set_option maxRecDepth 100000 in
theorem ok_X0_copy : okV mt_X0_copy 1 := ⟨⟨⟨rfl, by decide, by decide⟩, ⟨by decide, by decide, by decide +kernel⟩, tbm 6 (by decide +kernel) rfl, tbm 653 (by decide +kernel) rfl⟩, tbm 651 (by decide +kernel) rfl, tbm 652 (by decide +kernel) rfl⟩
abbrev mt_X7_restore : MT := (RX7, yX7_restore, cX7_restore, 1, (some .int))
set_option maxRecDepth 100000 in
theorem ok_X7_restore : okV mt_X7_restore 0 := ⟨⟨⟨rfl, by decide, by decide⟩, ⟨by decide, by decide, by decide +kernel⟩, tbm 1 (by decide +kernel) rfl, tbm 658 (by decide +kernel) rfl⟩, tbm 656 (by decide +kernel) rfl, tbm 657 (by decide +kernel) rfl⟩
abbrev mt_X7_tell : MT := (RX7, yX7_tell, cX7_tell, 2, (some .int))
set_option maxRecDepth 100000 in
theorem ok_X7_tell : okV mt_X7_tell 1 := ⟨⟨⟨rfl, by decide, by decide⟩, ⟨by decide, by decide, by decide +kernel⟩, tbm 1 (by decide +kernel) rfl, tbm 662 (by decide +kernel) rfl⟩, tbm 660 (by decide +kernel) rfl, tbm 661 (by decide +kernel) rfl⟩
abbrev mt_X7_check : MT := (RX7, yX7_check, cX7_check, 4, (some .int))
set_option maxRecDepth 100000 in
theorem ok_X7_check : okV mt_X7_check 0 := ⟨⟨⟨rfl, by decide, by decide⟩, ⟨by decide, by decide, by decide +kernel⟩, tbm 1 (by decide +kernel) rfl, tbm 666 (by decide +kernel) rfl⟩, tbm 664 (by decide +kernel) rfl, tbm 665 (by decide +kernel) rfl⟩
abbrev mt_X7_count : MT := (RX7, yX7_count, cX7_count, 2, (some .int))
set_option maxRecDepth 100000 in
theorem ok_X7_count : okV mt_X7_count 1 := ⟨⟨⟨rfl, by decide, by decide⟩, ⟨by decide, by decide, by decide +kernel⟩, tbm 1 (by decide +kernel) rfl, tbm 670 (by decide +kernel) rfl⟩, tbm 668 (by decide +kernel) rfl, tbm 669 (by decide +kernel) rfl⟩
abbrev mt_X1_falsePots : MT := (RX1, yX1_falsePots, cX1_falsePots, 3, (some .int))
set_option maxRecDepth 100000 in
theorem ok_X1_falsePots : okV mt_X1_falsePots 0 := ⟨⟨⟨rfl, by decide, by decide⟩, ⟨by decide, by decide, by decide +kernel⟩, tbm 2 (by decide +kernel) rfl, tbm 674 (by decide +kernel) rfl⟩, tbm 672 (by decide +kernel) rfl, tbm 673 (by decide +kernel) rfl⟩
abbrev mt_X7_told : MT := (RX7, yX7_told, cX7_told, 2, (some .int))
set_option maxRecDepth 100000 in
theorem ok_X7_told : okV mt_X7_told 1 := ⟨⟨⟨rfl, by decide, by decide⟩, ⟨by decide, by decide, by decide +kernel⟩, tbm 1 (by decide +kernel) rfl, tbm 678 (by decide +kernel) rfl⟩, tbm 676 (by decide +kernel) rfl, tbm 677 (by decide +kernel) rfl⟩
abbrev mt_X8_feed : MT := (RX8, yX8_feed, cX8_feed, 5, (some .int))
set_option maxRecDepth 100000 in
theorem ok_X8_feed : okV mt_X8_feed 2 := ⟨⟨⟨rfl, by decide, by decide⟩, ⟨by decide, by decide, by decide +kernel⟩, tbm 10 (by decide +kernel) rfl, tbm 755 (by decide +kernel) rfl⟩, tbm 753 (by decide +kernel) rfl, tbm 754 (by decide +kernel) rfl⟩
abbrev mt_X8_in : MT := (RX8, yX8_in, cX8_in, 6, (some .boolean))
set_option maxRecDepth 100000 in
theorem ok_X8_in : okS mt_X8_in 3 := ⟨⟨⟨rfl, by decide, by decide⟩, ⟨by decide, by decide, by decide +kernel⟩, tbm 10 (by decide +kernel) rfl, tbm 759 (by decide +kernel) rfl⟩, tbm 758 (by decide +kernel) rfl⟩
abbrev mt_X8_finds : MT := (RX8, yX8_finds, cX8_finds, 2, (some .int))
set_option maxRecDepth 100000 in
theorem ok_X8_finds : okV mt_X8_finds 1 := ⟨⟨⟨rfl, by decide, by decide⟩, ⟨by decide, by decide, by decide +kernel⟩, tbm 10 (by decide +kernel) rfl, tbm 763 (by decide +kernel) rfl⟩, tbm 762 (by decide +kernel) rfl, tbs (yX8_finds, 22) 17 (by decide +kernel)⟩
abbrev mt_X8_text : MT := (RX8, yX8_text, cX8_text, 4, (some .int))
set_option maxRecDepth 100000 in
theorem ok_X8_text : okV mt_X8_text 1 := ⟨⟨⟨rfl, by decide, by decide⟩, ⟨by decide, by decide, by decide +kernel⟩, tbm 10 (by decide +kernel) rfl, tbm 769 (by decide +kernel) rfl⟩, tbm 767 (by decide +kernel) rfl, tbm 768 (by decide +kernel) rfl⟩
abbrev mt_X8_reads : MT := (RX8, yX8_reads, cX8_reads, 4, none)
set_option maxRecDepth 100000 in
theorem ok_X8_reads : okV mt_X8_reads 3 := ⟨⟨⟨rfl, by decide, by decide⟩, ⟨by decide, by decide, by decide +kernel⟩, tbm 10 (by decide +kernel) rfl, tbm 773 (by decide +kernel) rfl⟩, tbm 772 (by decide +kernel) rfl, tbs (yX8_reads, 22) 18 (by decide +kernel)⟩
abbrev mt_X8_either : MT := (RX8, yX8_either, cX8_either, 1, none)
set_option maxRecDepth 100000 in
theorem ok_X8_either : okV mt_X8_either 0 := ⟨⟨⟨rfl, by decide, by decide⟩, ⟨by decide, by decide, by decide +kernel⟩, tbm 10 (by decide +kernel) rfl, tbm 777 (by decide +kernel) rfl⟩, tbm 776 (by decide +kernel) rfl, tbs (yX8_either, 22) 19 (by decide +kernel)⟩
abbrev mt_X8_both : MT := (RX8, yX8_both, cX8_both, 1, none)
set_option maxRecDepth 100000 in
theorem ok_X8_both : okV mt_X8_both 0 := ⟨⟨⟨rfl, by decide, by decide⟩, ⟨by decide, by decide, by decide +kernel⟩, tbm 10 (by decide +kernel) rfl, tbm 781 (by decide +kernel) rfl⟩, tbm 780 (by decide +kernel) rfl, tbs (yX8_both, 22) 20 (by decide +kernel)⟩
abbrev mt_X8_compared : MT := (RX8, yX8_compared, cX8_compared, 2, none)
set_option maxRecDepth 100000 in
theorem ok_X8_compared : okV mt_X8_compared 0 := ⟨⟨⟨rfl, by decide, by decide⟩, ⟨by decide, by decide, by decide +kernel⟩, tbm 10 (by decide +kernel) rfl, tbm 785 (by decide +kernel) rfl⟩, tbm 784 (by decide +kernel) rfl, tbs (yX8_compared, 22) 21 (by decide +kernel)⟩
abbrev mt_X8_sum : MT := (RX8, yX8_sum, cX8_sum, 2, none)
set_option maxRecDepth 100000 in
theorem ok_X8_sum : okV mt_X8_sum 0 := ⟨⟨⟨rfl, by decide, by decide⟩, ⟨by decide, by decide, by decide +kernel⟩, tbm 10 (by decide +kernel) rfl, tbm 789 (by decide +kernel) rfl⟩, tbm 788 (by decide +kernel) rfl, tbs (yX8_sum, 22) 22 (by decide +kernel)⟩
abbrev mt_X8_product : MT := (RX8, yX8_product, cX8_product, 2, none)
set_option maxRecDepth 100000 in
theorem ok_X8_product : okV mt_X8_product 0 := ⟨⟨⟨rfl, by decide, by decide⟩, ⟨by decide, by decide, by decide +kernel⟩, tbm 10 (by decide +kernel) rfl, tbm 793 (by decide +kernel) rfl⟩, tbm 792 (by decide +kernel) rfl, tbs (yX8_product, 22) 23 (by decide +kernel)⟩
abbrev mt_X8_unit : MT := (RX8, yX8_unit, cX8_unit, 5, none)
set_option maxRecDepth 100000 in
theorem ok_X8_unit : okV mt_X8_unit 0 := ⟨⟨⟨rfl, by decide, by decide⟩, ⟨by decide, by decide, by decide +kernel⟩, tbm 10 (by decide +kernel) rfl, tbm 797 (by decide +kernel) rfl⟩, tbm 796 (by decide +kernel) rfl, tbs (yX8_unit, 22) 24 (by decide +kernel)⟩
abbrev mt_X8_here : MT := (RX8, yX8_here, cX8_here, 1, (some .int))
set_option maxRecDepth 100000 in
theorem ok_X8_here : okV mt_X8_here 0 := ⟨⟨⟨rfl, by decide, by decide⟩, ⟨by decide, by decide, by decide +kernel⟩, tbm 10 (by decide +kernel) rfl, tbm 801 (by decide +kernel) rfl⟩, tbm 800 (by decide +kernel) rfl, tbs (yX8_here, 22) 25 (by decide +kernel)⟩
abbrev mt_X8_opens : MT := (RX8, yX8_opens, cX8_opens, 2, none)
set_option maxRecDepth 100000 in
theorem ok_X8_opens : okV mt_X8_opens 1 := ⟨⟨⟨rfl, by decide, by decide⟩, ⟨by decide, by decide, by decide +kernel⟩, tbm 10 (by decide +kernel) rfl, tbm 805 (by decide +kernel) rfl⟩, tbm 804 (by decide +kernel) rfl, tbs (yX8_opens, 22) 26 (by decide +kernel)⟩
abbrev mt_X8_wrong : MT := (RX8, yX8_wrong, cX8_wrong, 1, none)
set_option maxRecDepth 100000 in
theorem ok_X8_wrong : okV mt_X8_wrong 0 := ⟨⟨⟨rfl, by decide, by decide⟩, ⟨by decide, by decide, by decide +kernel⟩, tbm 10 (by decide +kernel) rfl, tbm 809 (by decide +kernel) rfl⟩, tbm 808 (by decide +kernel) rfl, tbs (yX8_wrong, 22) 27 (by decide +kernel)⟩
abbrev mt_X8_lay : MT := (RX8, yX8_lay, cX8_lay, 2, none)
set_option maxRecDepth 100000 in
theorem ok_X8_lay : okV mt_X8_lay 1 := ⟨⟨⟨rfl, by decide, by decide⟩, ⟨by decide, by decide, by decide +kernel⟩, tbm 10 (by decide +kernel) rfl, tbm 813 (by decide +kernel) rfl⟩, tbm 812 (by decide +kernel) rfl, tbs (yX8_lay, 22) 28 (by decide +kernel)⟩
abbrev mt_X8_takes : MT := (RX8, yX8_takes, cX8_takes, 2, (some .boolean))
set_option maxRecDepth 100000 in
theorem ok_X8_takes : okV mt_X8_takes 1 := ⟨⟨⟨rfl, by decide, by decide⟩, ⟨by decide, by decide, by decide +kernel⟩, tbm 10 (by decide +kernel) rfl, tbm 817 (by decide +kernel) rfl⟩, tbm 816 (by decide +kernel) rfl, tbs (yX8_takes, 22) 29 (by decide +kernel)⟩
abbrev mt_X8_nameOf : MT := (RX8, yX8_nameOf, cX8_nameOf, 2, (some .int))
set_option maxRecDepth 100000 in
theorem ok_X8_nameOf : okV mt_X8_nameOf 1 := ⟨⟨⟨rfl, by decide, by decide⟩, ⟨by decide, by decide, by decide +kernel⟩, tbm 10 (by decide +kernel) rfl, tbm 821 (by decide +kernel) rfl⟩, tbm 820 (by decide +kernel) rfl, tbs (yX8_nameOf, 22) 30 (by decide +kernel)⟩
abbrev mt_X8_law : MT := (RX8, yX8_law, cX8_law, 5, (some .int))
set_option maxRecDepth 100000 in
theorem ok_X8_law : okV mt_X8_law 4 := ⟨⟨⟨rfl, by decide, by decide⟩, ⟨by decide, by decide, by decide +kernel⟩, tbm 10 (by decide +kernel) rfl, tbm 827 (by decide +kernel) rfl⟩, tbm 825 (by decide +kernel) rfl, tbm 826 (by decide +kernel) rfl⟩
abbrev mt_X8_textGives : MT := (RX8, yX8_textGives, cX8_textGives, 6, (some .int))
set_option maxRecDepth 100000 in
theorem ok_X8_textGives : okV mt_X8_textGives 4 := ⟨⟨⟨rfl, by decide, by decide⟩, ⟨by decide, by decide, by decide +kernel⟩, tbm 10 (by decide +kernel) rfl, tbm 831 (by decide +kernel) rfl⟩, tbm 830 (by decide +kernel) rfl, tbs (yX8_textGives, 22) 31 (by decide +kernel)⟩
abbrev mt_X8_worked : MT := (RX8, yX8_worked, cX8_worked, 6, (some .int))
set_option maxRecDepth 100000 in
theorem ok_X8_worked : okV mt_X8_worked 2 := ⟨⟨⟨rfl, by decide, by decide⟩, ⟨by decide, by decide, by decide +kernel⟩, tbm 10 (by decide +kernel) rfl, tbm 835 (by decide +kernel) rfl⟩, tbm 834 (by decide +kernel) rfl, tbs (yX8_worked, 22) 32 (by decide +kernel)⟩
abbrev mt_X8_done : MT := (RX8, yX8_done, cX8_done, 3, (some .int))
set_option maxRecDepth 100000 in
theorem ok_X8_done : okS mt_X8_done 3 := ⟨⟨⟨rfl, by decide, by decide⟩, ⟨by decide, by decide, by decide +kernel⟩, tbm 10 (by decide +kernel) rfl, tbm 838 (by decide +kernel) rfl⟩, tbm 837 (by decide +kernel) rfl⟩
abbrev mt_X8_held : MT := (RX8, yX8_held, cX8_held, 3, (some .int))
set_option maxRecDepth 100000 in
theorem ok_X8_held : okS mt_X8_held 3 := ⟨⟨⟨rfl, by decide, by decide⟩, ⟨by decide, by decide, by decide +kernel⟩, tbm 10 (by decide +kernel) rfl, tbm 841 (by decide +kernel) rfl⟩, tbm 840 (by decide +kernel) rfl⟩
abbrev mt_X8_house : MT := (RX8, yX8_house, cX8_house, 5, (some .int))
set_option maxRecDepth 100000 in
theorem ok_X8_house : okV mt_X8_house 3 := ⟨⟨⟨rfl, by decide, by decide⟩, ⟨by decide, by decide, by decide +kernel⟩, tbm 10 (by decide +kernel) rfl, tbm 845 (by decide +kernel) rfl⟩, tbm 843 (by decide +kernel) rfl, tbm 844 (by decide +kernel) rfl⟩
abbrev mt_X8_isHouse : MT := (RX8, yX8_isHouse, cX8_isHouse, 1, (some .boolean))
set_option maxRecDepth 100000 in
theorem ok_X8_isHouse : okS mt_X8_isHouse 1 := ⟨⟨⟨rfl, by decide, by decide⟩, ⟨by decide, by decide, by decide +kernel⟩, tbm 10 (by decide +kernel) rfl, tbm 848 (by decide +kernel) rfl⟩, tbm 847 (by decide +kernel) rfl⟩
abbrev mt_X8_ofHouse : MT := (RX8, yX8_ofHouse, cX8_ofHouse, 3, (some .int))
set_option maxRecDepth 100000 in
theorem ok_X8_ofHouse : okV mt_X8_ofHouse 2 := ⟨⟨⟨rfl, by decide, by decide⟩, ⟨by decide, by decide, by decide +kernel⟩, tbm 10 (by decide +kernel) rfl, tbm 854 (by decide +kernel) rfl⟩, tbm 852 (by decide +kernel) rfl, tbm 853 (by decide +kernel) rfl⟩
abbrev mt_X8_setOf : MT := (RX8, yX8_setOf, cX8_setOf, 5, (some .int))
set_option maxRecDepth 100000 in
theorem ok_X8_setOf : okV mt_X8_setOf 1 := ⟨⟨⟨rfl, by decide, by decide⟩, ⟨by decide, by decide, by decide +kernel⟩, tbm 10 (by decide +kernel) rfl, tbm 859 (by decide +kernel) rfl⟩, tbm 858 (by decide +kernel) rfl, tbs (yX8_setOf, 22) 33 (by decide +kernel)⟩
abbrev mt_X8_of : MT := (RX8, yX8_of, cX8_of, 3, (some .int))
set_option maxRecDepth 100000 in
theorem ok_X8_of : okV mt_X8_of 2 := ⟨⟨⟨rfl, by decide, by decide⟩, ⟨by decide, by decide, by decide +kernel⟩, tbm 10 (by decide +kernel) rfl, tbm 863 (by decide +kernel) rfl⟩, tbm 862 (by decide +kernel) rfl, tbs (yX8_of, 22) 34 (by decide +kernel)⟩
abbrev mt_X8_isBroken : MT := (RX8, yX8_isBroken, cX8_isBroken, 2, (some .boolean))
set_option maxRecDepth 100000 in
theorem ok_X8_isBroken : okV mt_X8_isBroken 1 := ⟨⟨⟨rfl, by decide, by decide⟩, ⟨by decide, by decide, by decide +kernel⟩, tbm 10 (by decide +kernel) rfl, tbm 867 (by decide +kernel) rfl⟩, tbm 866 (by decide +kernel) rfl, tbs (yX8_isBroken, 22) 35 (by decide +kernel)⟩
abbrev mt_X8_pot : MT := (RX8, yX8_pot, cX8_pot, 6, (some .int))
set_option maxRecDepth 100000 in
theorem ok_X8_pot : okV mt_X8_pot 3 := ⟨⟨⟨rfl, by decide, by decide⟩, ⟨by decide, by decide, by decide +kernel⟩, tbm 10 (by decide +kernel) rfl, tbm 871 (by decide +kernel) rfl⟩, tbm 869 (by decide +kernel) rfl, tbm 870 (by decide +kernel) rfl⟩
abbrev mt_X8_sets : MT := (RX8, yX8_sets, cX8_sets, 4, none)
set_option maxRecDepth 100000 in
theorem ok_X8_sets : okV mt_X8_sets 3 := ⟨⟨⟨rfl, by decide, by decide⟩, ⟨by decide, by decide, by decide +kernel⟩, tbm 10 (by decide +kernel) rfl, tbm 876 (by decide +kernel) rfl⟩, tbm 875 (by decide +kernel) rfl, tbs (yX8_sets, 22) 36 (by decide +kernel)⟩
abbrev mt_X8_ofPot : MT := (RX8, yX8_ofPot, cX8_ofPot, 3, (some .int))
set_option maxRecDepth 100000 in
theorem ok_X8_ofPot : okV mt_X8_ofPot 2 := ⟨⟨⟨rfl, by decide, by decide⟩, ⟨by decide, by decide, by decide +kernel⟩, tbm 10 (by decide +kernel) rfl, tbm 880 (by decide +kernel) rfl⟩, tbm 878 (by decide +kernel) rfl, tbm 879 (by decide +kernel) rfl⟩
abbrev mt_X8_isPot : MT := (RX8, yX8_isPot, cX8_isPot, 2, (some .boolean))
set_option maxRecDepth 100000 in
theorem ok_X8_isPot : okV mt_X8_isPot 1 := ⟨⟨⟨rfl, by decide, by decide⟩, ⟨by decide, by decide, by decide +kernel⟩, tbm 10 (by decide +kernel) rfl, tbm 884 (by decide +kernel) rfl⟩, tbm 883 (by decide +kernel) rfl, tbs (yX8_isPot, 22) 37 (by decide +kernel)⟩
abbrev mt_X8_wants : MT := (RX8, yX8_wants, cX8_wants, 3, (some .int))
set_option maxRecDepth 100000 in
theorem ok_X8_wants : okV mt_X8_wants 1 := ⟨⟨⟨rfl, by decide, by decide⟩, ⟨by decide, by decide, by decide +kernel⟩, tbm 10 (by decide +kernel) rfl, tbm 888 (by decide +kernel) rfl⟩, tbm 887 (by decide +kernel) rfl, tbs (yX8_wants, 22) 38 (by decide +kernel)⟩
abbrev mt_X8_bears : MT := (RX8, yX8_bears, cX8_bears, 3, (some .int))
set_option maxRecDepth 100000 in
theorem ok_X8_bears : okV mt_X8_bears 1 := ⟨⟨⟨rfl, by decide, by decide⟩, ⟨by decide, by decide, by decide +kernel⟩, tbm 10 (by decide +kernel) rfl, tbm 892 (by decide +kernel) rfl⟩, tbm 891 (by decide +kernel) rfl, tbs (yX8_bears, 22) 39 (by decide +kernel)⟩
abbrev mt_X8_change : MT := (RX8, yX8_change, cX8_change, 5, (some .int))
set_option maxRecDepth 100000 in
theorem ok_X8_change : okV mt_X8_change 3 := ⟨⟨⟨rfl, by decide, by decide⟩, ⟨by decide, by decide, by decide +kernel⟩, tbm 10 (by decide +kernel) rfl, tbm 896 (by decide +kernel) rfl⟩, tbm 894 (by decide +kernel) rfl, tbm 895 (by decide +kernel) rfl⟩
abbrev mt_X8_shift : MT := (RX8, yX8_shift, cX8_shift, 4, (some .int))
set_option maxRecDepth 100000 in
theorem ok_X8_shift : okV mt_X8_shift 2 := ⟨⟨⟨rfl, by decide, by decide⟩, ⟨by decide, by decide, by decide +kernel⟩, tbm 10 (by decide +kernel) rfl, tbm 901 (by decide +kernel) rfl⟩, tbm 899 (by decide +kernel) rfl, tbm 900 (by decide +kernel) rfl⟩
abbrev mt_X8_moves : MT := (RX8, yX8_moves, cX8_moves, 3, none)
set_option maxRecDepth 100000 in
theorem ok_X8_moves : okV mt_X8_moves 2 := ⟨⟨⟨rfl, by decide, by decide⟩, ⟨by decide, by decide, by decide +kernel⟩, tbm 10 (by decide +kernel) rfl, tbm 905 (by decide +kernel) rfl⟩, tbm 904 (by decide +kernel) rfl, tbs (yX8_moves, 22) 40 (by decide +kernel)⟩
abbrev mt_X8_stick : MT := (RX8, yX8_stick, cX8_stick, 2, (some .int))
set_option maxRecDepth 100000 in
theorem ok_X8_stick : okV mt_X8_stick 1 := ⟨⟨⟨rfl, by decide, by decide⟩, ⟨by decide, by decide, by decide +kernel⟩, tbm 10 (by decide +kernel) rfl, tbm 909 (by decide +kernel) rfl⟩, tbm 907 (by decide +kernel) rfl, tbm 908 (by decide +kernel) rfl⟩
abbrev mt_X8_become : MT := (RX8, yX8_become, cX8_become, 4, (some .int))
set_option maxRecDepth 100000 in
theorem ok_X8_become : okV mt_X8_become 2 := ⟨⟨⟨rfl, by decide, by decide⟩, ⟨by decide, by decide, by decide +kernel⟩, tbm 10 (by decide +kernel) rfl, tbm 913 (by decide +kernel) rfl⟩, tbm 911 (by decide +kernel) rfl, tbm 912 (by decide +kernel) rfl⟩
abbrev mt_X8_as : MT := (RX8, yX8_as, cX8_as, 4, (some .int))
set_option maxRecDepth 100000 in
theorem ok_X8_as : okV mt_X8_as 2 := ⟨⟨⟨rfl, by decide, by decide⟩, ⟨by decide, by decide, by decide +kernel⟩, tbm 10 (by decide +kernel) rfl, tbm 917 (by decide +kernel) rfl⟩, tbm 915 (by decide +kernel) rfl, tbm 916 (by decide +kernel) rfl⟩
abbrev mt_X8_above : MT := (RX8, yX8_above, cX8_above, 1, (some .int))
set_option maxRecDepth 100000 in
theorem ok_X8_above : okS mt_X8_above 1 := ⟨⟨⟨rfl, by decide, by decide⟩, ⟨by decide, by decide, by decide +kernel⟩, tbm 10 (by decide +kernel) rfl, tbm 921 (by decide +kernel) rfl⟩, tbm 920 (by decide +kernel) rfl⟩
abbrev mt_X8_years : MT := (RX8, yX8_years, cX8_years, 2, (some .int))
set_option maxRecDepth 100000 in
theorem ok_X8_years : okV mt_X8_years 1 := ⟨⟨⟨rfl, by decide, by decide⟩, ⟨by decide, by decide, by decide +kernel⟩, tbm 10 (by decide +kernel) rfl, tbm 925 (by decide +kernel) rfl⟩, tbm 923 (by decide +kernel) rfl, tbm 924 (by decide +kernel) rfl⟩
abbrev mt_X8_yearsGo : MT := (RX8, yX8_yearsGo, cX8_yearsGo, 4, none)
set_option maxRecDepth 100000 in
theorem ok_X8_yearsGo : okV mt_X8_yearsGo 1 := ⟨⟨⟨rfl, by decide, by decide⟩, ⟨by decide, by decide, by decide +kernel⟩, tbm 10 (by decide +kernel) rfl, tbm 930 (by decide +kernel) rfl⟩, tbm 929 (by decide +kernel) rfl, tbs (yX8_yearsGo, 22) 41 (by decide +kernel)⟩
abbrev mt_X8_potGoes : MT := (RX8, yX8_potGoes, cX8_potGoes, 4, none)
set_option maxRecDepth 100000 in
theorem ok_X8_potGoes : okV mt_X8_potGoes 1 := ⟨⟨⟨rfl, by decide, by decide⟩, ⟨by decide, by decide, by decide +kernel⟩, tbm 10 (by decide +kernel) rfl, tbm 934 (by decide +kernel) rfl⟩, tbm 933 (by decide +kernel) rfl, tbs (yX8_potGoes, 22) 42 (by decide +kernel)⟩
abbrev mt_X8_warms : MT := (RX8, yX8_warms, cX8_warms, 4, (some .int))
set_option maxRecDepth 100000 in
theorem ok_X8_warms : okV mt_X8_warms 1 := ⟨⟨⟨rfl, by decide, by decide⟩, ⟨by decide, by decide, by decide +kernel⟩, tbm 10 (by decide +kernel) rfl, tbm 938 (by decide +kernel) rfl⟩, tbm 937 (by decide +kernel) rfl, tbs (yX8_warms, 22) 43 (by decide +kernel)⟩
abbrev mt_X8_manyIn : MT := (RX8, yX8_manyIn, cX8_manyIn, 4, (some .int))
set_option maxRecDepth 100000 in
theorem ok_X8_manyIn : okV mt_X8_manyIn 1 := ⟨⟨⟨rfl, by decide, by decide⟩, ⟨by decide, by decide, by decide +kernel⟩, tbm 10 (by decide +kernel) rfl, tbm 942 (by decide +kernel) rfl⟩, tbm 941 (by decide +kernel) rfl, tbs (yX8_manyIn, 22) 44 (by decide +kernel)⟩
abbrev mt_X8_handles : MT := (RX8, yX8_handles, cX8_handles, 3, (some .int))
set_option maxRecDepth 100000 in
theorem ok_X8_handles : okV mt_X8_handles 0 := ⟨⟨⟨rfl, by decide, by decide⟩, ⟨by decide, by decide, by decide +kernel⟩, tbm 10 (by decide +kernel) rfl, tbm 946 (by decide +kernel) rfl⟩, tbm 945 (by decide +kernel) rfl, tbs (yX8_handles, 22) 45 (by decide +kernel)⟩
abbrev mt_X8_loose : MT := (RX8, yX8_loose, cX8_loose, 4, (some .int))
set_option maxRecDepth 100000 in
theorem ok_X8_loose : okV mt_X8_loose 1 := ⟨⟨⟨rfl, by decide, by decide⟩, ⟨by decide, by decide, by decide +kernel⟩, tbm 10 (by decide +kernel) rfl, tbm 950 (by decide +kernel) rfl⟩, tbm 948 (by decide +kernel) rfl, tbm 949 (by decide +kernel) rfl⟩
abbrev mt_X8_drawn : MT := (RX8, yX8_drawn, cX8_drawn, 1, (some .int))
set_option maxRecDepth 100000 in
theorem ok_X8_drawn : okV mt_X8_drawn 0 := ⟨⟨⟨rfl, by decide, by decide⟩, ⟨by decide, by decide, by decide +kernel⟩, tbm 10 (by decide +kernel) rfl, tbm 955 (by decide +kernel) rfl⟩, tbm 954 (by decide +kernel) rfl, tbs (yX8_drawn, 22) 46 (by decide +kernel)⟩
abbrev mt_X8_then : MT := (RX8, yX8_then, cX8_then, 5, (some .int))
set_option maxRecDepth 100000 in
theorem ok_X8_then : okV mt_X8_then 3 := ⟨⟨⟨rfl, by decide, by decide⟩, ⟨by decide, by decide, by decide +kernel⟩, tbm 10 (by decide +kernel) rfl, tbm 960 (by decide +kernel) rfl⟩, tbm 958 (by decide +kernel) rfl, tbm 959 (by decide +kernel) rfl⟩
abbrev mt_X8_keepAside : MT := (RX8, yX8_keepAside, cX8_keepAside, 2, none)
set_option maxRecDepth 100000 in
theorem ok_X8_keepAside : okV mt_X8_keepAside 0 := ⟨⟨⟨rfl, by decide, by decide⟩, ⟨by decide, by decide, by decide +kernel⟩, tbm 10 (by decide +kernel) rfl, tbm 964 (by decide +kernel) rfl⟩, tbm 963 (by decide +kernel) rfl, tbs (yX8_keepAside, 22) 47 (by decide +kernel)⟩
abbrev mt_X8_putBack : MT := (RX8, yX8_putBack, cX8_putBack, 2, none)
set_option maxRecDepth 100000 in
theorem ok_X8_putBack : okV mt_X8_putBack 0 := ⟨⟨⟨rfl, by decide, by decide⟩, ⟨by decide, by decide, by decide +kernel⟩, tbm 10 (by decide +kernel) rfl, tbm 968 (by decide +kernel) rfl⟩, tbm 967 (by decide +kernel) rfl, tbs (yX8_putBack, 22) 48 (by decide +kernel)⟩
abbrev mt_X8_when : MT := (RX8, yX8_when, cX8_when, 5, (some .int))
set_option maxRecDepth 100000 in
theorem ok_X8_when : okV mt_X8_when 1 := ⟨⟨⟨rfl, by decide, by decide⟩, ⟨by decide, by decide, by decide +kernel⟩, tbm 10 (by decide +kernel) rfl, tbm 972 (by decide +kernel) rfl⟩, tbm 970 (by decide +kernel) rfl, tbm 971 (by decide +kernel) rfl⟩
abbrev mt_X8_shelf : MT := (RX8, yX8_shelf, cX8_shelf, 4, (some .int))
set_option maxRecDepth 100000 in
theorem ok_X8_shelf : okV mt_X8_shelf 2 := ⟨⟨⟨rfl, by decide, by decide⟩, ⟨by decide, by decide, by decide +kernel⟩, tbm 10 (by decide +kernel) rfl, tbm 976 (by decide +kernel) rfl⟩, tbm 974 (by decide +kernel) rfl, tbm 975 (by decide +kernel) rfl⟩
abbrev mt_X8_place : MT := (RX8, yX8_place, cX8_place, 10, (some .int))
set_option maxRecDepth 100000 in
theorem ok_X8_place : okV mt_X8_place 3 := ⟨⟨⟨rfl, by decide, by decide⟩, ⟨by decide, by decide, by decide +kernel⟩, tbm 10 (by decide +kernel) rfl, tbm 980 (by decide +kernel) rfl⟩, tbm 978 (by decide +kernel) rfl, tbm 979 (by decide +kernel) rfl⟩
abbrev mt_X8_use : MT := (RX8, yX8_use, cX8_use, 5, (some .int))
set_option maxRecDepth 100000 in
theorem ok_X8_use : okV mt_X8_use 2 := ⟨⟨⟨rfl, by decide, by decide⟩, ⟨by decide, by decide, by decide +kernel⟩, tbm 10 (by decide +kernel) rfl, tbm 984 (by decide +kernel) rfl⟩, tbm 982 (by decide +kernel) rfl, tbm 983 (by decide +kernel) rfl⟩
abbrev mt_X8_needed : MT := (RX8, yX8_needed, cX8_needed, 6, (some .int))
set_option maxRecDepth 100000 in
theorem ok_X8_needed : okV mt_X8_needed 2 := ⟨⟨⟨rfl, by decide, by decide⟩, ⟨by decide, by decide, by decide +kernel⟩, tbm 10 (by decide +kernel) rfl, tbm 988 (by decide +kernel) rfl⟩, tbm 986 (by decide +kernel) rfl, tbm 987 (by decide +kernel) rfl⟩
abbrev mt_X8_bits : MT := (RX8, yX8_bits, cX8_bits, 3, (some .int))
set_option maxRecDepth 100000 in
theorem ok_X8_bits : okS mt_X8_bits 1 := ⟨⟨⟨rfl, by decide, by decide⟩, ⟨by decide, by decide, by decide +kernel⟩, tbm 10 (by decide +kernel) rfl, tbm 992 (by decide +kernel) rfl⟩, tbm 991 (by decide +kernel) rfl⟩
abbrev mt_X8_whose : MT := (RX8, yX8_whose, cX8_whose, 8, (some .int))
set_option maxRecDepth 100000 in
theorem ok_X8_whose : okV mt_X8_whose 3 := ⟨⟨⟨rfl, by decide, by decide⟩, ⟨by decide, by decide, by decide +kernel⟩, tbm 10 (by decide +kernel) rfl, tbm 996 (by decide +kernel) rfl⟩, tbm 994 (by decide +kernel) rfl, tbm 995 (by decide +kernel) rfl⟩
abbrev mt_X8_isSheet : MT := (RX8, yX8_isSheet, cX8_isSheet, 1, (some .boolean))
set_option maxRecDepth 100000 in
theorem ok_X8_isSheet : okS mt_X8_isSheet 1 := ⟨⟨⟨rfl, by decide, by decide⟩, ⟨by decide, by decide, by decide +kernel⟩, tbm 10 (by decide +kernel) rfl, tbm 999 (by decide +kernel) rfl⟩, tbm 998 (by decide +kernel) rfl⟩
abbrev mt_X8_carry : MT := (RX8, yX8_carry, cX8_carry, 6, (some .int))
set_option maxRecDepth 100000 in
theorem ok_X8_carry : okV mt_X8_carry 1 := ⟨⟨⟨rfl, by decide, by decide⟩, ⟨by decide, by decide, by decide +kernel⟩, tbm 10 (by decide +kernel) rfl, tbm 1004 (by decide +kernel) rfl⟩, tbm 1002 (by decide +kernel) rfl, tbm 1003 (by decide +kernel) rfl⟩
abbrev mt_X8_richest : MT := (RX8, yX8_richest, cX8_richest, 8, (some .int))
set_option maxRecDepth 100000 in
theorem ok_X8_richest : okV mt_X8_richest 2 := ⟨⟨⟨rfl, by decide, by decide⟩, ⟨by decide, by decide, by decide +kernel⟩, tbm 10 (by decide +kernel) rfl, tbm 1008 (by decide +kernel) rfl⟩, tbm 1006 (by decide +kernel) rfl, tbm 1007 (by decide +kernel) rfl⟩
abbrev mt_X8_breaks : MT := (RX8, yX8_breaks, cX8_breaks, 4, (some .int))
set_option maxRecDepth 100000 in
theorem ok_X8_breaks : okV mt_X8_breaks 1 := ⟨⟨⟨rfl, by decide, by decide⟩, ⟨by decide, by decide, by decide +kernel⟩, tbm 10 (by decide +kernel) rfl, tbm 1012 (by decide +kernel) rfl⟩, tbm 1010 (by decide +kernel) rfl, tbm 1011 (by decide +kernel) rfl⟩
abbrev mt_X8_dealer : MT := (RX8, yX8_dealer, cX8_dealer, 6, (some .int))
set_option maxRecDepth 100000 in
theorem ok_X8_dealer : okV mt_X8_dealer 1 := ⟨⟨⟨rfl, by decide, by decide⟩, ⟨by decide, by decide, by decide +kernel⟩, tbm 10 (by decide +kernel) rfl, tbm 1016 (by decide +kernel) rfl⟩, tbm 1014 (by decide +kernel) rfl, tbm 1015 (by decide +kernel) rfl⟩
abbrev mt_X8_odds : MT := (RX8, yX8_odds, cX8_odds, 6, (some .int))
set_option maxRecDepth 100000 in
theorem ok_X8_odds : okV mt_X8_odds 3 := ⟨⟨⟨rfl, by decide, by decide⟩, ⟨by decide, by decide, by decide +kernel⟩, tbm 10 (by decide +kernel) rfl, tbm 1021 (by decide +kernel) rfl⟩, tbm 1019 (by decide +kernel) rfl, tbm 1020 (by decide +kernel) rfl⟩
abbrev mt_X8_common : MT := (RX8, yX8_common, cX8_common, 5, (some .int))
set_option maxRecDepth 100000 in
theorem ok_X8_common : okS mt_X8_common 2 := ⟨⟨⟨rfl, by decide, by decide⟩, ⟨by decide, by decide, by decide +kernel⟩, tbm 10 (by decide +kernel) rfl, tbm 1024 (by decide +kernel) rfl⟩, tbm 1023 (by decide +kernel) rfl⟩
abbrev mt_X8_seed : MT := (RX8, yX8_seed, cX8_seed, 3, (some .int))
set_option maxRecDepth 100000 in
theorem ok_X8_seed : okV mt_X8_seed 1 := ⟨⟨⟨rfl, by decide, by decide⟩, ⟨by decide, by decide, by decide +kernel⟩, tbm 10 (by decide +kernel) rfl, tbm 1028 (by decide +kernel) rfl⟩, tbm 1026 (by decide +kernel) rfl, tbm 1027 (by decide +kernel) rfl⟩
abbrev mt_X8_voice : MT := (RX8, yX8_voice, cX8_voice, 5, (some .int))
set_option maxRecDepth 100000 in
theorem ok_X8_voice : okV mt_X8_voice 3 := ⟨⟨⟨rfl, by decide, by decide⟩, ⟨by decide, by decide, by decide +kernel⟩, tbm 10 (by decide +kernel) rfl, tbm 1032 (by decide +kernel) rfl⟩, tbm 1030 (by decide +kernel) rfl, tbm 1031 (by decide +kernel) rfl⟩
abbrev mt_X8_holdsBy : MT := (RX8, yX8_holdsBy, cX8_holdsBy, 3, (some .int))
set_option maxRecDepth 100000 in
theorem ok_X8_holdsBy : okV mt_X8_holdsBy 2 := ⟨⟨⟨rfl, by decide, by decide⟩, ⟨by decide, by decide, by decide +kernel⟩, tbm 10 (by decide +kernel) rfl, tbm 1036 (by decide +kernel) rfl⟩, tbm 1035 (by decide +kernel) rfl, tbs (yX8_holdsBy, 22) 49 (by decide +kernel)⟩
abbrev mt_X8_ran : MT := (RX8, yX8_ran, cX8_ran, 2, none)
set_option maxRecDepth 100000 in
theorem ok_X8_ran : okV mt_X8_ran 1 := ⟨⟨⟨rfl, by decide, by decide⟩, ⟨by decide, by decide, by decide +kernel⟩, tbm 10 (by decide +kernel) rfl, tbm 1040 (by decide +kernel) rfl⟩, tbm 1039 (by decide +kernel) rfl, tbs (yX8_ran, 22) 50 (by decide +kernel)⟩
abbrev mt_X8_warmsBy : MT := (RX8, yX8_warmsBy, cX8_warmsBy, 4, (some .int))
set_option maxRecDepth 100000 in
theorem ok_X8_warmsBy : okV mt_X8_warmsBy 2 := ⟨⟨⟨rfl, by decide, by decide⟩, ⟨by decide, by decide, by decide +kernel⟩, tbm 10 (by decide +kernel) rfl, tbm 1044 (by decide +kernel) rfl⟩, tbm 1043 (by decide +kernel) rfl, tbs (yX8_warmsBy, 22) 51 (by decide +kernel)⟩
abbrev mt_X8_growsBy : MT := (RX8, yX8_growsBy, cX8_growsBy, 3, (some .int))
set_option maxRecDepth 100000 in
theorem ok_X8_growsBy : okV mt_X8_growsBy 2 := ⟨⟨⟨rfl, by decide, by decide⟩, ⟨by decide, by decide, by decide +kernel⟩, tbm 10 (by decide +kernel) rfl, tbm 1048 (by decide +kernel) rfl⟩, tbm 1047 (by decide +kernel) rfl, tbs (yX8_growsBy, 22) 52 (by decide +kernel)⟩
abbrev mt_X8_tellsBy : MT := (RX8, yX8_tellsBy, cX8_tellsBy, 4, (some .int))
set_option maxRecDepth 100000 in
theorem ok_X8_tellsBy : okV mt_X8_tellsBy 2 := ⟨⟨⟨rfl, by decide, by decide⟩, ⟨by decide, by decide, by decide +kernel⟩, tbm 10 (by decide +kernel) rfl, tbm 1052 (by decide +kernel) rfl⟩, tbm 1051 (by decide +kernel) rfl, tbs (yX8_tellsBy, 22) 53 (by decide +kernel)⟩
abbrev mt_X8_trace : MT := (RX8, yX8_trace, cX8_trace, 2, (some .int))
set_option maxRecDepth 100000 in
theorem ok_X8_trace : okV mt_X8_trace 1 := ⟨⟨⟨rfl, by decide, by decide⟩, ⟨by decide, by decide, by decide +kernel⟩, tbm 10 (by decide +kernel) rfl, tbm 1056 (by decide +kernel) rfl⟩, tbm 1054 (by decide +kernel) rfl, tbm 1055 (by decide +kernel) rfl⟩
abbrev mt_X8_sheet : MT := (RX8, yX8_sheet, cX8_sheet, 5, (some .int))
set_option maxRecDepth 100000 in
theorem ok_X8_sheet : okV mt_X8_sheet 3 := ⟨⟨⟨rfl, by decide, by decide⟩, ⟨by decide, by decide, by decide +kernel⟩, tbm 10 (by decide +kernel) rfl, tbm 1060 (by decide +kernel) rfl⟩, tbm 1058 (by decide +kernel) rfl, tbm 1059 (by decide +kernel) rfl⟩
abbrev mt_X8_put : MT := (RX8, yX8_put, cX8_put, 4, (some .int))
set_option maxRecDepth 100000 in
theorem ok_X8_put : okV mt_X8_put 3 := ⟨⟨⟨rfl, by decide, by decide⟩, ⟨by decide, by decide, by decide +kernel⟩, tbm 10 (by decide +kernel) rfl, tbm 1064 (by decide +kernel) rfl⟩, tbm 1062 (by decide +kernel) rfl, tbm 1063 (by decide +kernel) rfl⟩
abbrev mt_X8_move : MT := (RX8, yX8_move, cX8_move, 7, (some .int))
set_option maxRecDepth 100000 in
theorem ok_X8_move : okV mt_X8_move 5 := ⟨⟨⟨rfl, by decide, by decide⟩, ⟨by decide, by decide, by decide +kernel⟩, tbm 10 (by decide +kernel) rfl, tbm 1068 (by decide +kernel) rfl⟩, tbm 1066 (by decide +kernel) rfl, tbm 1067 (by decide +kernel) rfl⟩
abbrev mt_X8_uses : MT := (RX8, yX8_uses, cX8_uses, 3, (some .int))
set_option maxRecDepth 100000 in
theorem ok_X8_uses : okV mt_X8_uses 1 := ⟨⟨⟨rfl, by decide, by decide⟩, ⟨by decide, by decide, by decide +kernel⟩, tbm 10 (by decide +kernel) rfl, tbm 1072 (by decide +kernel) rfl⟩, tbm 1070 (by decide +kernel) rfl, tbm 1071 (by decide +kernel) rfl⟩
abbrev mt_X8_judge : MT := (RX8, yX8_judge, cX8_judge, 3, (some .int))
set_option maxRecDepth 100000 in
theorem ok_X8_judge : okV mt_X8_judge 1 := ⟨⟨⟨rfl, by decide, by decide⟩, ⟨by decide, by decide, by decide +kernel⟩, tbm 10 (by decide +kernel) rfl, tbm 1076 (by decide +kernel) rfl⟩, tbm 1074 (by decide +kernel) rfl, tbm 1075 (by decide +kernel) rfl⟩
abbrev mt_X8_image : MT := (RX8, yX8_image, cX8_image, 2, (some .int))
set_option maxRecDepth 100000 in
theorem ok_X8_image : okV mt_X8_image 0 := ⟨⟨⟨rfl, by decide, by decide⟩, ⟨by decide, by decide, by decide +kernel⟩, tbm 10 (by decide +kernel) rfl, tbm 1080 (by decide +kernel) rfl⟩, tbm 1078 (by decide +kernel) rfl, tbm 1079 (by decide +kernel) rfl⟩
abbrev mt_X8_restore : MT := (RX8, yX8_restore, cX8_restore, 2, (some .int))
set_option maxRecDepth 100000 in
theorem ok_X8_restore : okV mt_X8_restore 0 := ⟨⟨⟨rfl, by decide, by decide⟩, ⟨by decide, by decide, by decide +kernel⟩, tbm 10 (by decide +kernel) rfl, tbm 1084 (by decide +kernel) rfl⟩, tbm 1082 (by decide +kernel) rfl, tbm 1083 (by decide +kernel) rfl⟩
abbrev mt_X8_tell : MT := (RX8, yX8_tell, cX8_tell, 2, (some .int))
set_option maxRecDepth 100000 in
theorem ok_X8_tell : okV mt_X8_tell 1 := ⟨⟨⟨rfl, by decide, by decide⟩, ⟨by decide, by decide, by decide +kernel⟩, tbm 10 (by decide +kernel) rfl, tbm 1088 (by decide +kernel) rfl⟩, tbm 1086 (by decide +kernel) rfl, tbm 1087 (by decide +kernel) rfl⟩
abbrev mt_X8_check : MT := (RX8, yX8_check, cX8_check, 4, (some .int))
set_option maxRecDepth 100000 in
theorem ok_X8_check : okV mt_X8_check 0 := ⟨⟨⟨rfl, by decide, by decide⟩, ⟨by decide, by decide, by decide +kernel⟩, tbm 10 (by decide +kernel) rfl, tbm 1092 (by decide +kernel) rfl⟩, tbm 1090 (by decide +kernel) rfl, tbm 1091 (by decide +kernel) rfl⟩
abbrev mt_X8_count : MT := (RX8, yX8_count, cX8_count, 2, (some .int))
set_option maxRecDepth 100000 in
theorem ok_X8_count : okV mt_X8_count 1 := ⟨⟨⟨rfl, by decide, by decide⟩, ⟨by decide, by decide, by decide +kernel⟩, tbm 10 (by decide +kernel) rfl, tbm 1096 (by decide +kernel) rfl⟩, tbm 1094 (by decide +kernel) rfl, tbm 1095 (by decide +kernel) rfl⟩
abbrev mt_X8_told : MT := (RX8, yX8_told, cX8_told, 2, (some .int))
set_option maxRecDepth 100000 in
theorem ok_X8_told : okV mt_X8_told 1 := ⟨⟨⟨rfl, by decide, by decide⟩, ⟨by decide, by decide, by decide +kernel⟩, tbm 10 (by decide +kernel) rfl, tbm 1100 (by decide +kernel) rfl⟩, tbm 1098 (by decide +kernel) rfl, tbm 1099 (by decide +kernel) rfl⟩
set_option maxRecDepth 100000 in
theorem ml_X7_59 : Cond.methodLink RX7 59 yX7_isHouse ∈ TB := tbm 257 (by decide +kernel) rfl
set_option maxRecDepth 100000 in
theorem ml_X7_63 : Cond.methodLink RX7 63 yX7_isWithin ∈ TB := tbm 260 (by decide +kernel) rfl
set_option maxRecDepth 100000 in
theorem ml_X7_67 : Cond.methodLink RX7 67 yX7_fail ∈ TB := tbm 263 (by decide +kernel) rfl
set_option maxRecDepth 100000 in
theorem ml_X7_77 : Cond.methodLink RX7 77 yX1_potsIn ∈ TB := tbm 272 (by decide +kernel) rfl
set_option maxRecDepth 100000 in
theorem ml_X7_80 : Cond.methodLink RX7 80 yX7_isKindWithNumber ∈ TB := tbm 280 (by decide +kernel) rfl
set_option maxRecDepth 100000 in
theorem ml_X7_91 : Cond.methodLink RX7 91 yX3_begin ∈ TB := tbm 283 (by decide +kernel) rfl
set_option maxRecDepth 100000 in
theorem ml_X7_97 : Cond.methodLink RX7 97 yX1_has ∈ TB := tbm 291 (by decide +kernel) rfl
set_option maxRecDepth 100000 in
theorem ml_X7_125 : Cond.methodLink RX7 125 yX3_wants ∈ TB := tbm 295 (by decide +kernel) rfl
set_option maxRecDepth 100000 in
theorem ml_X7_129 : Cond.methodLink RX7 129 yX3_bears ∈ TB := tbm 299 (by decide +kernel) rfl
set_option maxRecDepth 100000 in
theorem ml_X7_132 : Cond.methodLink RX7 132 yX3_goTo ∈ TB := tbm 311 (by decide +kernel) rfl
set_option maxRecDepth 100000 in
theorem ml_X7_136 : Cond.methodLink RX7 136 yX3_canTakeFalseHandle ∈ TB := tbm 319 (by decide +kernel) rfl
set_option maxRecDepth 100000 in
theorem ml_X7_140 : Cond.methodLink RX7 140 yX3_takeFalseHandle ∈ TB := tbm 323 (by decide +kernel) rfl
set_option maxRecDepth 100000 in
theorem ml_X7_143 : Cond.methodLink RX7 143 yX7_isUnder ∈ TB := tbm 335 (by decide +kernel) rfl
set_option maxRecDepth 100000 in
theorem ml_X7_153 : Cond.methodLink RX7 153 yX4_readTape ∈ TB := tbm 349 (by decide +kernel) rfl
set_option maxRecDepth 100000 in
theorem ml_X7_159 : Cond.methodLink RX7 159 yX1_lawOf ∈ TB := tbm 387 (by decide +kernel) rfl
set_option maxRecDepth 100000 in
theorem ml_X7_167 : Cond.methodLink RX7 167 yX2_copy ∈ TB := tbm 391 (by decide +kernel) rfl
set_option maxRecDepth 100000 in
theorem ml_X7_173 : Cond.methodLink RX7 173 yX1_given ∈ TB := tbm 402 (by decide +kernel) rfl
set_option maxRecDepth 100000 in
theorem ml_X7_180 : Cond.methodLink RX7 180 yX1_passYears ∈ TB := tbm 431 (by decide +kernel) rfl
set_option maxRecDepth 100000 in
theorem ml_X7_183 : Cond.methodLink RX7 183 yX1_allHandles ∈ TB := tbm 460 (by decide +kernel) rfl
set_option maxRecDepth 100000 in
theorem ml_X7_186 : Cond.methodLink RX7 186 yX0_draw ∈ TB := tbm 468 (by decide +kernel) rfl
set_option maxRecDepth 100000 in
theorem ml_X7_189 : Cond.methodLink RX7 189 yX7_behind ∈ TB := tbm 477 (by decide +kernel) rfl
set_option maxRecDepth 100000 in
theorem ml_X7_193 : Cond.methodLink RX7 193 yX1_potsWithHandle ∈ TB := tbm 499 (by decide +kernel) rfl
set_option maxRecDepth 100000 in
theorem ml_X7_196 : Cond.methodLink RX7 196 yX7_whenMoved ∈ TB := tbm 507 (by decide +kernel) rfl
set_option maxRecDepth 100000 in
theorem ml_X7_200 : Cond.methodLink RX7 200 yX1_allPots ∈ TB := tbm 519 (by decide +kernel) rfl
set_option maxRecDepth 100000 in
theorem ml_X7_203 : Cond.methodLink RX7 203 yJ6_bitCount_0f7a4 ∈ TB := tbm 523 (by decide +kernel) rfl
set_option maxRecDepth 100000 in
theorem ml_X7_208 : Cond.methodLink RX7 208 yX7_haveHandlesIfCaredFor ∈ TB := tbm 524 (by decide +kernel) rfl
set_option maxRecDepth 100000 in
theorem ml_X7_212 : Cond.methodLink RX7 212 yX7_isSheet ∈ TB := tbm 532 (by decide +kernel) rfl
set_option maxRecDepth 100000 in
theorem ml_X7_215 : Cond.methodLink RX7 215 yX5_isMissing ∈ TB := tbm 535 (by decide +kernel) rfl
set_option maxRecDepth 100000 in
theorem ml_X7_218 : Cond.methodLink RX7 218 yX7_isLikedAsTold ∈ TB := tbm 539 (by decide +kernel) rfl
set_option maxRecDepth 100000 in
theorem ml_X7_222 : Cond.methodLink RX7 222 Lib.Math.min.name ∈ TB := tbm 547 (by decide +kernel) rfl
set_option maxRecDepth 100000 in
theorem ml_X7_228 : Cond.methodLink RX7 228 yX1_handlesIn ∈ TB := tbm 552 (by decide +kernel) rfl
set_option maxRecDepth 100000 in
theorem ml_X7_231 : Cond.methodLink RX7 231 yX7_handlesIfStuck ∈ TB := tbm 564 (by decide +kernel) rfl
set_option maxRecDepth 100000 in
theorem ml_X7_234 : Cond.methodLink RX7 234 yX7_whenBeing ∈ TB := tbm 572 (by decide +kernel) rfl
set_option maxRecDepth 100000 in
theorem ml_X7_240 : Cond.methodLink RX7 240 yX6_speak ∈ TB := tbm 584 (by decide +kernel) rfl
set_option maxRecDepth 100000 in
theorem ml_X7_250 : Cond.methodLink RX7 250 yX5_lay ∈ TB := tbm 616 (by decide +kernel) rfl
set_option maxRecDepth 100000 in
theorem ml_X7_259 : Cond.methodLink RX7 259 yX5_lowestBits ∈ TB := tbm 625 (by decide +kernel) rfl
set_option maxRecDepth 100000 in
theorem ml_X7_265 : Cond.methodLink RX7 265 yX5_holds ∈ TB := tbm 633 (by decide +kernel) rfl
set_option maxRecDepth 100000 in
theorem ml_X7_268 : Cond.methodLink RX7 268 arraycopyName ∈ TB := tbm 637 (by decide +kernel) rfl
set_option maxRecDepth 100000 in
theorem ml_X7_274 : Cond.methodLink RX7 274 yX1_copy ∈ TB := tbm 481 (by decide +kernel) rfl
set_option maxRecDepth 100000 in
theorem ml_X7_277 : Cond.methodLink RX7 277 yX0_copy ∈ TB := tbm 650 (by decide +kernel) rfl
set_option maxRecDepth 100000 in
theorem ml_X7_291 : Cond.methodLink RX7 291 yX1_falsePots ∈ TB := tbm 671 (by decide +kernel) rfl
set_option maxRecDepth 100000 in
theorem ml_X7_295 : Cond.methodLink RX7 295 yX7_kindAbove ∈ TB := tbm 338 (by decide +kernel) rfl
set_option maxRecDepth 100000 in
theorem ml_X0_23 : Cond.methodLink RX0 23 arraycopyName ∈ TB := tbm 654 (by decide +kernel) rfl
set_option maxRecDepth 100000 in
theorem ml_X1_41 : Cond.methodLink RX1 41 arraycopyName ∈ TB := tbm 485 (by decide +kernel) rfl
set_option maxRecDepth 100000 in
theorem ml_X1_51 : Cond.methodLink RX1 51 yX3_copy ∈ TB := tbm 486 (by decide +kernel) rfl
set_option maxRecDepth 100000 in
theorem ml_X1_55 : Cond.methodLink RX1 55 yX2_copy ∈ TB := tbm 490 (by decide +kernel) rfl
set_option maxRecDepth 100000 in
theorem ml_X1_64 : Cond.methodLink RX1 64 yX1_lawOf ∈ TB := tbm 406 (by decide +kernel) rfl
set_option maxRecDepth 100000 in
theorem ml_X1_68 : Cond.methodLink RX1 68 yX2_stands ∈ TB := tbm 407 (by decide +kernel) rfl
set_option maxRecDepth 100000 in
theorem ml_X1_72 : Cond.methodLink RX1 72 yX2_workedOut ∈ TB := tbm 411 (by decide +kernel) rfl
set_option maxRecDepth 100000 in
theorem ml_X1_76 : Cond.methodLink RX1 76 Lib.Math.min.name ∈ TB := tbm 421 (by decide +kernel) rfl
set_option maxRecDepth 100000 in
theorem ml_X1_82 : Cond.methodLink RX1 82 Lib.Math.max.name ∈ TB := tbm 424 (by decide +kernel) rfl
set_option maxRecDepth 100000 in
theorem ml_X1_92 : Cond.methodLink RX1 92 yX1_passYearOf ∈ TB := tbm 436 (by decide +kernel) rfl
set_option maxRecDepth 100000 in
theorem ml_X1_99 : Cond.methodLink RX1 99 yX1_given ∈ TB := tbm 440 (by decide +kernel) rfl
set_option maxRecDepth 100000 in
theorem ml_X1_103 : Cond.methodLink RX1 103 yX3_liveYear ∈ TB := tbm 441 (by decide +kernel) rfl
set_option maxRecDepth 100000 in
theorem ml_X1_107 : Cond.methodLink RX1 107 yX1_potsIn ∈ TB := tbm 453 (by decide +kernel) rfl
set_option maxRecDepth 100000 in
theorem ml_X1_111 : Cond.methodLink RX1 111 yJ6_bitCount_0f7a4 ∈ TB := tbm 454 (by decide +kernel) rfl
set_option maxRecDepth 100000 in
theorem ml_X2_22 : Cond.methodLink RX2 22 arraycopyName ∈ TB := tbm 395 (by decide +kernel) rfl
set_option maxRecDepth 100000 in
theorem ml_X2_28 : Cond.methodLink RX2 28 yX2_joined ∈ TB := tbm 415 (by decide +kernel) rfl
set_option maxRecDepth 100000 in
theorem ml_X2_32 : Cond.methodLink RX2 32 yX2_namedOrNumber ∈ TB := tbm 418 (by decide +kernel) rfl
set_option maxRecDepth 100000 in
theorem ml_X3_37 : Cond.methodLink RX3 37 Lib.Math.max.name ∈ TB := tbm 449 (by decide +kernel) rfl
set_option maxRecDepth 100000 in
theorem ml_X3_43 : Cond.methodLink RX3 43 yX3_warmedBy ∈ TB := tbm 445 (by decide +kernel) rfl
set_option maxRecDepth 100000 in
theorem ml_X3_47 : Cond.methodLink RX3 47 Lib.Math.min.name ∈ TB := tbm 450 (by decide +kernel) rfl
set_option maxRecDepth 100000 in
theorem ml_X3_50 : Cond.methodLink RX3 50 yX3_wants ∈ TB := tbm 451 (by decide +kernel) rfl
set_option maxRecDepth 100000 in
theorem ml_X3_54 : Cond.methodLink RX3 54 yX3_bears ∈ TB := tbm 452 (by decide +kernel) rfl
set_option maxRecDepth 100000 in
theorem ml_X4_29 : Cond.methodLink RX4 29 yX2_clear ∈ TB := tbm 353 (by decide +kernel) rfl
set_option maxRecDepth 100000 in
theorem ml_X4_32 : Cond.methodLink RX4 32 yX4_readLevel ∈ TB := tbm 357 (by decide +kernel) rfl
set_option maxRecDepth 100000 in
theorem ml_X4_45 : Cond.methodLink RX4 45 yX4_readLast ∈ TB := tbm 361 (by decide +kernel) rfl
set_option maxRecDepth 100000 in
theorem ml_X4_49 : Cond.methodLink RX4 49 yX4_next ∈ TB := tbm 365 (by decide +kernel) rfl
set_option maxRecDepth 100000 in
theorem ml_X4_53 : Cond.methodLink RX4 53 yX4_levelOf ∈ TB := tbm 384 (by decide +kernel) rfl
set_option maxRecDepth 100000 in
theorem ml_X4_57 : Cond.methodLink RX4 57 yX2_add ∈ TB := tbm 376 (by decide +kernel) rfl
set_option maxRecDepth 100000 in
theorem ml_X4_61 : Cond.methodLink RX4 61 yX4_isDigit ∈ TB := tbm 369 (by decide +kernel) rfl
set_option maxRecDepth 100000 in
theorem ml_X4_64 : Cond.methodLink RX4 64 yX4_readNumber ∈ TB := tbm 372 (by decide +kernel) rfl
set_option maxRecDepth 100000 in
theorem ml_X4_67 : Cond.methodLink RX4 67 yX4_nameOf ∈ TB := tbm 380 (by decide +kernel) rfl
set_option maxRecDepth 100000 in
theorem ml_X5_22 : Cond.methodLink RX5 22 yJ7_fill_53178 ∈ TB := tbm 620 (by decide +kernel) rfl
set_option maxRecDepth 100000 in
theorem ml_X6_32 : Cond.methodLink RX6 32 yX6_say ∈ TB := tbm 588 (by decide +kernel) rfl
set_option maxRecDepth 100000 in
theorem ml_X6_36 : Cond.methodLink RX6 36 yX6_bodyOf ∈ TB := tbm 592 (by decide +kernel) rfl
set_option maxRecDepth 100000 in
theorem ml_X6_40 : Cond.methodLink RX6 40 yX6_begin ∈ TB := tbm 595 (by decide +kernel) rfl
set_option maxRecDepth 100000 in
theorem ml_X6_44 : Cond.methodLink RX6 44 yX6_sayBody ∈ TB := tbm 599 (by decide +kernel) rfl
set_option maxRecDepth 100000 in
theorem ml_X6_52 : Cond.methodLink RX6 52 yX6_sayAbove ∈ TB := tbm 603 (by decide +kernel) rfl
set_option maxRecDepth 100000 in
theorem ml_X8_47 : Cond.methodLink RX8 47 yX8_in ∈ TB := tbm 757 (by decide +kernel) rfl
set_option maxRecDepth 100000 in
theorem ml_X8_53 : Cond.methodLink RX8 53 yX8_of ∈ TB := tbm 860 (by decide +kernel) rfl
set_option maxRecDepth 100000 in
theorem ml_X8_70 : Cond.methodLink RX8 70 yX8_here ∈ TB := tbm 798 (by decide +kernel) rfl
set_option maxRecDepth 100000 in
theorem ml_X8_81 : Cond.methodLink RX8 81 yX8_both ∈ TB := tbm 778 (by decide +kernel) rfl
set_option maxRecDepth 100000 in
theorem ml_X8_84 : Cond.methodLink RX8 84 yX8_takes ∈ TB := tbm 814 (by decide +kernel) rfl
set_option maxRecDepth 100000 in
theorem ml_X8_88 : Cond.methodLink RX8 88 yX8_lay ∈ TB := tbm 810 (by decide +kernel) rfl
set_option maxRecDepth 100000 in
theorem ml_X8_92 : Cond.methodLink RX8 92 yX8_compared ∈ TB := tbm 782 (by decide +kernel) rfl
set_option maxRecDepth 100000 in
theorem ml_X8_95 : Cond.methodLink RX8 95 yX8_sum ∈ TB := tbm 786 (by decide +kernel) rfl
set_option maxRecDepth 100000 in
theorem ml_X8_98 : Cond.methodLink RX8 98 yX8_product ∈ TB := tbm 790 (by decide +kernel) rfl
set_option maxRecDepth 100000 in
theorem ml_X8_101 : Cond.methodLink RX8 101 yX8_unit ∈ TB := tbm 794 (by decide +kernel) rfl
set_option maxRecDepth 100000 in
theorem ml_X8_107 : Cond.methodLink RX8 107 yX8_wrong ∈ TB := tbm 806 (by decide +kernel) rfl
set_option maxRecDepth 100000 in
theorem ml_X8_110 : Cond.methodLink RX8 110 yX8_either ∈ TB := tbm 774 (by decide +kernel) rfl
set_option maxRecDepth 100000 in
theorem ml_X8_113 : Cond.methodLink RX8 113 yX8_opens ∈ TB := tbm 802 (by decide +kernel) rfl
set_option maxRecDepth 100000 in
theorem ml_X8_116 : Cond.methodLink RX8 116 yX8_nameOf ∈ TB := tbm 818 (by decide +kernel) rfl
set_option maxRecDepth 100000 in
theorem ml_X8_124 : Cond.methodLink RX8 124 yX8_done ∈ TB := tbm 836 (by decide +kernel) rfl
set_option maxRecDepth 100000 in
theorem ml_X8_130 : Cond.methodLink RX8 130 yX8_finds ∈ TB := tbm 760 (by decide +kernel) rfl
set_option maxRecDepth 100000 in
theorem ml_X8_135 : Cond.methodLink RX8 135 yX8_reads ∈ TB := tbm 770 (by decide +kernel) rfl
set_option maxRecDepth 100000 in
theorem ml_X8_139 : Cond.methodLink RX8 139 yX8_worked ∈ TB := tbm 832 (by decide +kernel) rfl
set_option maxRecDepth 100000 in
theorem ml_X8_142 : Cond.methodLink RX8 142 yX8_held ∈ TB := tbm 839 (by decide +kernel) rfl
set_option maxRecDepth 100000 in
theorem ml_X8_145 : Cond.methodLink RX8 145 yX8_textGives ∈ TB := tbm 828 (by decide +kernel) rfl
set_option maxRecDepth 100000 in
theorem ml_X8_149 : Cond.methodLink RX8 149 yX8_sets ∈ TB := tbm 873 (by decide +kernel) rfl
set_option maxRecDepth 100000 in
theorem ml_X8_152 : Cond.methodLink RX8 152 yX8_warms ∈ TB := tbm 935 (by decide +kernel) rfl
set_option maxRecDepth 100000 in
theorem ml_X8_155 : Cond.methodLink RX8 155 yX8_wants ∈ TB := tbm 885 (by decide +kernel) rfl
set_option maxRecDepth 100000 in
theorem ml_X8_158 : Cond.methodLink RX8 158 yX8_bears ∈ TB := tbm 889 (by decide +kernel) rfl
set_option maxRecDepth 100000 in
theorem ml_X8_161 : Cond.methodLink RX8 161 yX8_manyIn ∈ TB := tbm 939 (by decide +kernel) rfl
set_option maxRecDepth 100000 in
theorem ml_X8_164 : Cond.methodLink RX8 164 yX8_isBroken ∈ TB := tbm 864 (by decide +kernel) rfl
set_option maxRecDepth 100000 in
theorem ml_X8_167 : Cond.methodLink RX8 167 yX8_potGoes ∈ TB := tbm 931 (by decide +kernel) rfl
set_option maxRecDepth 100000 in
theorem ml_X8_170 : Cond.methodLink RX8 170 yX8_isHouse ∈ TB := tbm 846 (by decide +kernel) rfl
set_option maxRecDepth 100000 in
theorem ml_X8_177 : Cond.methodLink RX8 177 yX8_setOf ∈ TB := tbm 856 (by decide +kernel) rfl
set_option maxRecDepth 100000 in
theorem ml_X8_182 : Cond.methodLink RX8 182 yX8_isPot ∈ TB := tbm 881 (by decide +kernel) rfl
set_option maxRecDepth 100000 in
theorem ml_X8_187 : Cond.methodLink RX8 187 yX8_moves ∈ TB := tbm 902 (by decide +kernel) rfl
set_option maxRecDepth 100000 in
theorem ml_X8_193 : Cond.methodLink RX8 193 yX8_above ∈ TB := tbm 919 (by decide +kernel) rfl
set_option maxRecDepth 100000 in
theorem ml_X8_198 : Cond.methodLink RX8 198 yX8_yearsGo ∈ TB := tbm 927 (by decide +kernel) rfl
set_option maxRecDepth 100000 in
theorem ml_X8_201 : Cond.methodLink RX8 201 yX8_handles ∈ TB := tbm 943 (by decide +kernel) rfl
set_option maxRecDepth 100000 in
theorem ml_X8_207 : Cond.methodLink RX8 207 yX8_drawn ∈ TB := tbm 952 (by decide +kernel) rfl
set_option maxRecDepth 100000 in
theorem ml_X8_210 : Cond.methodLink RX8 210 yX8_keepAside ∈ TB := tbm 961 (by decide +kernel) rfl
set_option maxRecDepth 100000 in
theorem ml_X8_213 : Cond.methodLink RX8 213 yX8_putBack ∈ TB := tbm 965 (by decide +kernel) rfl
set_option maxRecDepth 100000 in
theorem ml_X8_218 : Cond.methodLink RX8 218 yX8_bits ∈ TB := tbm 990 (by decide +kernel) rfl
set_option maxRecDepth 100000 in
theorem ml_X8_221 : Cond.methodLink RX8 221 yX8_isSheet ∈ TB := tbm 997 (by decide +kernel) rfl
set_option maxRecDepth 100000 in
theorem ml_X8_226 : Cond.methodLink RX8 226 yX8_common ∈ TB := tbm 1022 (by decide +kernel) rfl
set_option maxRecDepth 100000 in
theorem ml_X8_232 : Cond.methodLink RX8 232 yX8_ran ∈ TB := tbm 1037 (by decide +kernel) rfl
set_option maxRecDepth 100000 in
theorem ml_X8_238 : Cond.methodLink RX8 238 yX8_holdsBy ∈ TB := tbm 1033 (by decide +kernel) rfl
set_option maxRecDepth 100000 in
theorem ml_X8_241 : Cond.methodLink RX8 241 yX8_warmsBy ∈ TB := tbm 1041 (by decide +kernel) rfl
set_option maxRecDepth 100000 in
theorem ml_X8_244 : Cond.methodLink RX8 244 yX8_growsBy ∈ TB := tbm 1045 (by decide +kernel) rfl
set_option maxRecDepth 100000 in
theorem ml_X8_247 : Cond.methodLink RX8 247 yX8_tellsBy ∈ TB := tbm 1049 (by decide +kernel) rfl
set_option maxRecDepth 100000 in
theorem st_max : Cond.static Lib.Math.max.name ∈ TB := tbm 425 (by decide +kernel) rfl
set_option maxRecDepth 100000 in
theorem cd_max : Cond.code Lib.Math.max.name Lib.Math.max.code 2 (some .int) ∈ TB := tbm 426 (by decide +kernel) rfl
set_option maxRecDepth 100000 in
theorem st_min : Cond.static Lib.Math.min.name ∈ TB := tbm 422 (by decide +kernel) rfl
set_option maxRecDepth 100000 in
theorem cd_min : Cond.code Lib.Math.min.name Lib.Math.min.code 2 (some .int) ∈ TB := tbm 423 (by decide +kernel) rfl
set_option maxRecDepth 100000 in
theorem in_Math : Cond.initialized "java/lang/Math" ∈ TB := tbm 12 (by decide +kernel) rfl
set_option maxRecDepth 100000 in
theorem in_System : Cond.initialized "java/lang/System" ∈ TB := tbm 11 (by decide +kernel) rfl
set_option maxRecDepth 100000 in
theorem na_copy : Cond.native arraycopyName ∈ TB := tbm 397 (by decide +kernel) rfl
set_option maxRecDepth 100000 in
theorem st_copy : Cond.static arraycopyName ∈ TB := tbm 396 (by decide +kernel) rfl
set_option maxRecDepth 100000 in
theorem ko_X7_294 : Cond.constant RX7 294 (-1000000000) ∈ TB := tbm 267 (by decide +kernel) rfl
set_option maxRecDepth 100000 in
theorem ko_X0_35 : Cond.constant RX0 35 (1103515245) ∈ TB := tbm 472 (by decide +kernel) rfl
set_option maxRecDepth 100000 in
theorem ko_X8_46 : Cond.constant RX8 46 (-1000000000) ∈ TB := tbm 764 (by decide +kernel) rfl
set_option maxRecDepth 100000 in
theorem ko_X8_51 : Cond.constantLong RX8 51 (4) ∈ TB := tbm 849 (by decide +kernel) rfl
set_option maxRecDepth 100000 in
theorem ko_X8_120 : Cond.constantLong RX8 120 (48) ∈ TB := tbm 822 (by decide +kernel) rfl
set_option maxRecDepth 100000 in
theorem ko_X8_122 : Cond.constantLong RX8 122 (57) ∈ TB := tbm 823 (by decide +kernel) rfl
set_option maxRecDepth 100000 in
theorem ko_X8_128 : Cond.constantLong RX8 128 (8) ∈ TB := tbm 756 (by decide +kernel) rfl
set_option maxRecDepth 100000 in
theorem ko_X8_133 : Cond.constantLong RX8 133 (255) ∈ TB := tbm 765 (by decide +kernel) rfl
set_option maxRecDepth 100000 in
theorem ko_X8_173 : Cond.constantLong RX8 173 (9) ∈ TB := tbm 850 (by decide +kernel) rfl
set_option maxRecDepth 100000 in
theorem ko_X8_175 : Cond.constantLong RX8 175 (2) ∈ TB := tbm 855 (by decide +kernel) rfl
set_option maxRecDepth 100000 in
theorem ko_X8_180 : Cond.constantLong RX8 180 (69) ∈ TB := tbm 872 (by decide +kernel) rfl
set_option maxRecDepth 100000 in
theorem ko_X8_185 : Cond.constantLong RX8 185 (999) ∈ TB := tbm 897 (by decide +kernel) rfl
set_option maxRecDepth 100000 in
theorem ko_X8_191 : Cond.constantLong RX8 191 (6) ∈ TB := tbm 918 (by decide +kernel) rfl
set_option maxRecDepth 100000 in
theorem ko_X8_196 : Cond.constantLong RX8 196 (60) ∈ TB := tbm 926 (by decide +kernel) rfl
set_option maxRecDepth 100000 in
theorem ko_X8_204 : Cond.constant RX8 204 (1103515245) ∈ TB := tbm 956 (by decide +kernel) rfl
set_option maxRecDepth 100000 in
theorem ko_X8_205 : Cond.constantLong RX8 205 (40) ∈ TB := tbm 951 (by decide +kernel) rfl
set_option maxRecDepth 100000 in
theorem ko_X8_216 : Cond.constantLong RX8 216 (20) ∈ TB := tbm 989 (by decide +kernel) rfl
set_option maxRecDepth 100000 in
theorem ko_X8_224 : Cond.constantLong RX8 224 (30) ∈ TB := tbm 1017 (by decide +kernel) rfl
set_option maxRecDepth 100000 in
theorem ko_X8_250 : Cond.constantLong RX8 250 (3) ∈ TB := tbm 1000 (by decide +kernel) rfl
set_option maxRecDepth 100000 in
theorem ko_X8_255 : Cond.constantLong RX8 255 (5) ∈ TB := tbm 1101 (by decide +kernel) rfl
set_option maxRecDepth 100000 in
theorem ko_J6_265 : Cond.constant RJ6 265 (1431655765) ∈ TB := tbm 457 (by decide +kernel) rfl
set_option maxRecDepth 100000 in
theorem ko_J6_266 : Cond.constant RJ6 266 (858993459) ∈ TB := tbm 458 (by decide +kernel) rfl
set_option maxRecDepth 100000 in
theorem ko_J6_267 : Cond.constant RJ6 267 (252645135) ∈ TB := tbm 459 (by decide +kernel) rfl
set_option maxRecDepth 100000 in
theorem inT_0 : ∀ w ∈ u_ws RX0 TX0 5, w ∈ TB := by
  intro w hw
  obtain ⟨k, hk, rfl⟩ := List.mem_map.mp hw
  have h : ∀ k, k < 5 → tables_1[([143, 145, 147, 149, 151] : List Nat).getD k 0]? = some (u_lay RX0 TX0 k) ∧ goodWord (u_lay RX0 TX0 k) = true := by decide +kernel
  exact tbm _ (h k (List.mem_range.mp hk)).1 (h k (List.mem_range.mp hk)).2
set_option maxRecDepth 100000 in
theorem inT_1 : ∀ w ∈ u_ws RX1 TX1 8, w ∈ TB := by
  intro w hw
  obtain ⟨k, hk, rfl⟩ := List.mem_map.mp hw
  have h : ∀ k, k < 8 → tables_1[([108, 110, 112, 114, 116, 118, 120, 122] : List Nat).getD k 0]? = some (u_lay RX1 TX1 k) ∧ goodWord (u_lay RX1 TX1 k) = true := by decide +kernel
  exact tbm _ (h k (List.mem_range.mp hk)).1 (h k (List.mem_range.mp hk)).2
set_option maxRecDepth 100000 in
theorem inT_2 : ∀ w ∈ u_ws RX2 TX2 3, w ∈ TB := by
  intro w hw
  obtain ⟨k, hk, rfl⟩ := List.mem_map.mp hw
  have h : ∀ k, k < 3 → tables_1[([39, 41, 43] : List Nat).getD k 0]? = some (u_lay RX2 TX2 k) ∧ goodWord (u_lay RX2 TX2 k) = true := by decide +kernel
  exact tbm _ (h k (List.mem_range.mp hk)).1 (h k (List.mem_range.mp hk)).2
set_option maxRecDepth 100000 in
theorem inT_3 : ∀ w ∈ u_ws RX3 TX3 8, w ∈ TB := by
  intro w hw
  obtain ⟨k, hk, rfl⟩ := List.mem_map.mp hw
  have h : ∀ k, k < 8 → tables_1[([77, 79, 81, 83, 85, 87, 89, 91] : List Nat).getD k 0]? = some (u_lay RX3 TX3 k) ∧ goodWord (u_lay RX3 TX3 k) = true := by decide +kernel
  exact tbm _ (h k (List.mem_range.mp hk)).1 (h k (List.mem_range.mp hk)).2
set_option maxRecDepth 100000 in
theorem inT_4 : ∀ w ∈ u_ws RX4 TX4 4, w ∈ TB := by
  intro w hw
  obtain ⟨k, hk, rfl⟩ := List.mem_map.mp hw
  have h : ∀ k, k < 4 → tables_1[([169, 171, 173, 175] : List Nat).getD k 0]? = some (u_lay RX4 TX4 k) ∧ goodWord (u_lay RX4 TX4 k) = true := by decide +kernel
  exact tbm _ (h k (List.mem_range.mp hk)).1 (h k (List.mem_range.mp hk)).2
set_option maxRecDepth 100000 in
theorem inT_5 : ∀ w ∈ u_ws RX5 TX5 3, w ∈ TB := by
  intro w hw
  obtain ⟨k, hk, rfl⟩ := List.mem_map.mp hw
  have h : ∀ k, k < 3 → tables_1[([215, 217, 219] : List Nat).getD k 0]? = some (u_lay RX5 TX5 k) ∧ goodWord (u_lay RX5 TX5 k) = true := by decide +kernel
  exact tbm _ (h k (List.mem_range.mp hk)).1 (h k (List.mem_range.mp hk)).2
set_option maxRecDepth 100000 in
theorem inT_6 : ∀ w ∈ u_ws RX6 TX6 5, w ∈ TB := by
  intro w hw
  obtain ⟨k, hk, rfl⟩ := List.mem_map.mp hw
  have h : ∀ k, k < 5 → tables_1[([191, 193, 195, 197, 199] : List Nat).getD k 0]? = some (u_lay RX6 TX6 k) ∧ goodWord (u_lay RX6 TX6 k) = true := by decide +kernel
  exact tbm _ (h k (List.mem_range.mp hk)).1 (h k (List.mem_range.mp hk)).2
set_option maxRecDepth 100000 in
theorem inT_7 : ∀ w ∈ u_ws RX7 TX7 10, w ∈ TB := by
  intro w hw
  obtain ⟨k, hk, rfl⟩ := List.mem_map.mp hw
  have h : ∀ k, k < 10 → tables_1[([232, 234, 236, 238, 240, 242, 244, 246, 248, 250] : List Nat).getD k 0]? = some (u_lay RX7 TX7 k) ∧ goodWord (u_lay RX7 TX7 k) = true := by decide +kernel
  exact tbm _ (h k (List.mem_range.mp hk)).1 (h k (List.mem_range.mp hk)).2
set_option maxRecDepth 100000 in
theorem inT_8 : ∀ w ∈ u_ws RX8 TX8 22, w ∈ TB := by
  intro w hw
  obtain ⟨k, hk, rfl⟩ := List.mem_map.mp hw
  have h : ∀ k, k < 22 → tables_1[([707, 709, 711, 713, 715, 717, 719, 721, 723, 725, 727, 729, 731, 733, 735, 737, 739, 741, 743, 745, 747, 749] : List Nat).getD k 0]? = some (u_lay RX8 TX8 k) ∧ goodWord (u_lay RX8 TX8 k) = true := by decide +kernel
  exact tbm _ (h k (List.mem_range.mp hk)).1 (h k (List.mem_range.mp hk)).2
section FL
variable {X : CtxX} {t : MT} {d : Nat} {r : Option AV} {M' : MM} {pc : Nat} {L : List (Nat × AV)} {st : List AV} {M N : Mem}
set_option maxRecDepth 100000 in
theorem fg_X7_10 {i : Nat} (ht : t.1 = RX7) (hi : i < 1) (hdg : decode t.2.2.1 pc = .ok (.getfield 10, 3)) (k : GX X t d r M' (pc + 3) L (.inr (.inr (1, 0)) :: st) (M, N)) : GX X t d r M' pc L (.inr (.inr (7, i)) :: st) (M, N) := G_get (ci := 7) (k0 := 0) inT_7 rfl (by rw [ht]; exact tbm 222 (by decide +kernel) rfl) (by decide) hi rfl (by decide) rfl (by decide) rfl hdg k
set_option maxRecDepth 100000 in
theorem fg_X7_16 {i : Nat} (ht : t.1 = RX7) (hi : i < 1) (hdg : decode t.2.2.1 pc = .ok (.getfield 16, 3)) (k : GX X t d r M' (pc + 3) L (.inr (.inr (1, 1)) :: st) (M, N)) : GX X t d r M' pc L (.inr (.inr (7, i)) :: st) (M, N) := G_get (ci := 7) (k0 := 1) inT_7 rfl (by rw [ht]; exact tbm 223 (by decide +kernel) rfl) (by decide) hi rfl (by decide) rfl (by decide) rfl hdg k
set_option maxRecDepth 100000 in
theorem fg_X7_19 {i : Nat} (ht : t.1 = RX7) (hi : i < 1) (hdg : decode t.2.2.1 pc = .ok (.getfield 19, 3)) (k : GX X t d r M' (pc + 3) L (.inr (.inr (1, 2)) :: st) (M, N)) : GX X t d r M' pc L (.inr (.inr (7, i)) :: st) (M, N) := G_get (ci := 7) (k0 := 2) inT_7 rfl (by rw [ht]; exact tbm 224 (by decide +kernel) rfl) (by decide) hi rfl (by decide) rfl (by decide) rfl hdg k
set_option maxRecDepth 100000 in
theorem fg_X7_25 {i : Nat} (ht : t.1 = RX7) (hi : i < 1) (hdg : decode t.2.2.1 pc = .ok (.getfield 25, 3)) (k : GX X t d r M' (pc + 3) L (.inr (.inr (0, 0)) :: st) (M, N)) : GX X t d r M' pc L (.inr (.inr (7, i)) :: st) (M, N) := G_get (ci := 7) (k0 := 3) inT_7 rfl (by rw [ht]; exact tbm 225 (by decide +kernel) rfl) (by decide) hi rfl (by decide) rfl (by decide) rfl hdg k
set_option maxRecDepth 100000 in
theorem fg_X7_29 {i : Nat} (ht : t.1 = RX7) (hi : i < 1) (hdg : decode t.2.2.1 pc = .ok (.getfield 29, 3)) (k : GX X t d r M' (pc + 3) L (.inr (.inr (0, 1)) :: st) (M, N)) : GX X t d r M' pc L (.inr (.inr (7, i)) :: st) (M, N) := G_get (ci := 7) (k0 := 4) inT_7 rfl (by rw [ht]; exact tbm 226 (by decide +kernel) rfl) (by decide) hi rfl (by decide) rfl (by decide) rfl hdg k
set_option maxRecDepth 100000 in
theorem fg_X7_37 {i : Nat} (ht : t.1 = RX7) (hi : i < 1) (hdg : decode t.2.2.1 pc = .ok (.getfield 37, 3)) (k : GX X t d r M' (pc + 3) L (.inr (.inr (4, 0)) :: st) (M, N)) : GX X t d r M' pc L (.inr (.inr (7, i)) :: st) (M, N) := G_get (ci := 7) (k0 := 5) inT_7 rfl (by rw [ht]; exact tbm 227 (by decide +kernel) rfl) (by decide) hi rfl (by decide) rfl (by decide) rfl hdg k
set_option maxRecDepth 100000 in
theorem fg_X7_44 {i : Nat} (ht : t.1 = RX7) (hi : i < 1) (hdg : decode t.2.2.1 pc = .ok (.getfield 44, 3)) (k : GX X t d r M' (pc + 3) L (.inr (.inr (6, 0)) :: st) (M, N)) : GX X t d r M' pc L (.inr (.inr (7, i)) :: st) (M, N) := G_get (ci := 7) (k0 := 6) inT_7 rfl (by rw [ht]; exact tbm 228 (by decide +kernel) rfl) (by decide) hi rfl (by decide) rfl (by decide) rfl hdg k
set_option maxRecDepth 100000 in
theorem fg_X7_50 {i : Nat} (ht : t.1 = RX7) (hi : i < 1) (hdg : decode t.2.2.1 pc = .ok (.getfield 50, 3)) (k : GX X t d r M' (pc + 3) L (.inr (.inr (17, 0)) :: st) (M, N)) : GX X t d r M' pc L (.inr (.inr (7, i)) :: st) (M, N) := G_get (ci := 7) (k0 := 7) inT_7 rfl (by rw [ht]; exact tbm 229 (by decide +kernel) rfl) (by decide) hi rfl (by decide) rfl (by decide) rfl hdg k
set_option maxRecDepth 100000 in
theorem fg_X7_54 {i : Nat} (ht : t.1 = RX7) (hi : i < 1) (hdg : decode t.2.2.1 pc = .ok (.getfield 54, 3)) (k : GX X t d r M' (pc + 3) L (.inr (.inr (18, 0)) :: st) (M, N)) : GX X t d r M' pc L (.inr (.inr (7, i)) :: st) (M, N) := G_get (ci := 7) (k0 := 8) inT_7 rfl (by rw [ht]; exact tbm 230 (by decide +kernel) rfl) (by decide) hi rfl (by decide) rfl (by decide) rfl hdg k
set_option maxRecDepth 100000 in
theorem fg_X7_71 {i : Nat} (ht : t.1 = RX7) (hi : i < 3) (hdg : decode t.2.2.1 pc = .ok (.getfield 71, 3)) (k : GX X t d r M' (pc + 3) L (.inr (.inr (10, i)) :: st) (M, N)) : GX X t d r M' pc L (.inr (.inr (1, i)) :: st) (M, N) := G_get (ci := 1) (k0 := 0) inT_1 rfl (by rw [ht]; exact tbm 95 (by decide +kernel) rfl) (by decide) hi rfl (by decide) rfl (by decide) rfl hdg k
set_option maxRecDepth 100000 in
theorem fg_X7_74 {i : Nat} (ht : t.1 = RX7) (hi : i < 3) (hdg : decode t.2.2.1 pc = .ok (.getfield 74, 3)) (k : GX X t d r M' (pc + 3) L (.inr (.inr (11, i)) :: st) (M, N)) : GX X t d r M' pc L (.inr (.inr (1, i)) :: st) (M, N) := G_get (ci := 1) (k0 := 1) inT_1 rfl (by rw [ht]; exact tbm 97 (by decide +kernel) rfl) (by decide) hi rfl (by decide) rfl (by decide) rfl hdg k
set_option maxRecDepth 100000 in
theorem fg_X7_83 {i : Nat} {v : Int32} (hv : M 1 i 5 = v) (ht : t.1 = RX7) (hi : i < 3) (hdg : decode t.2.2.1 pc = .ok (.getfield 83, 3)) (k : GX X t d r M' (pc + 3) L (.inl v :: st) (M, N)) : GX X t d r M' pc L (.inr (.inr (1, i)) :: st) (M, N) := G_get (ci := 1) (k0 := 5) inT_1 rfl (by rw [ht]; exact tbm 103 (by decide +kernel) rfl) (by decide) hi rfl (by decide) rfl (by decide) (by rw [← hv]; rfl) hdg k
set_option maxRecDepth 100000 in
theorem fg_X7_87 {i : Nat} (ht : t.1 = RX7) (hi : i < 3) (hdg : decode t.2.2.1 pc = .ok (.getfield 87, 3)) (k : GX X t d r M' (pc + 3) L (.inr (.inr (12, i)) :: st) (M, N)) : GX X t d r M' pc L (.inr (.inr (1, i)) :: st) (M, N) := G_get (ci := 1) (k0 := 2) inT_1 rfl (by rw [ht]; exact tbm 99 (by decide +kernel) rfl) (by decide) hi rfl (by decide) rfl (by decide) rfl hdg k
set_option maxRecDepth 100000 in
theorem fg_X7_100 {i : Nat} {v : Int32} (hv : M 3 i 0 = v) (ht : t.1 = RX7) (hi : i < 30) (hdg : decode t.2.2.1 pc = .ok (.getfield 100, 3)) (k : GX X t d r M' (pc + 3) L (.inl v :: st) (M, N)) : GX X t d r M' pc L (.inr (.inr (3, i)) :: st) (M, N) := G_get (ci := 3) (k0 := 0) inT_3 rfl (by rw [ht]; exact tbm 57 (by decide +kernel) rfl) (by decide) hi rfl (by decide) rfl (by decide) (by rw [← hv]; rfl) hdg k
set_option maxRecDepth 100000 in
theorem fg_X7_103 {i : Nat} {v : Int32} (hv : M 3 i 1 = v) (ht : t.1 = RX7) (hi : i < 30) (hdg : decode t.2.2.1 pc = .ok (.getfield 103, 3)) (k : GX X t d r M' (pc + 3) L (.inl v :: st) (M, N)) : GX X t d r M' pc L (.inr (.inr (3, i)) :: st) (M, N) := G_get (ci := 3) (k0 := 1) inT_3 rfl (by rw [ht]; exact tbm 60 (by decide +kernel) rfl) (by decide) hi rfl (by decide) rfl (by decide) (by rw [← hv]; rfl) hdg k
set_option maxRecDepth 100000 in
theorem fg_X7_106 {i : Nat} {v : Int32} (hv : M 3 i 2 = v) (ht : t.1 = RX7) (hi : i < 30) (hdg : decode t.2.2.1 pc = .ok (.getfield 106, 3)) (k : GX X t d r M' (pc + 3) L (.inl v :: st) (M, N)) : GX X t d r M' pc L (.inr (.inr (3, i)) :: st) (M, N) := G_get (ci := 3) (k0 := 2) inT_3 rfl (by rw [ht]; exact tbm 62 (by decide +kernel) rfl) (by decide) hi rfl (by decide) rfl (by decide) (by rw [← hv]; rfl) hdg k
set_option maxRecDepth 100000 in
theorem fg_X7_109 {i : Nat} {v : Int32} (hv : M 3 i 3 = v) (ht : t.1 = RX7) (hi : i < 30) (hdg : decode t.2.2.1 pc = .ok (.getfield 109, 3)) (k : GX X t d r M' (pc + 3) L (.inl v :: st) (M, N)) : GX X t d r M' pc L (.inr (.inr (3, i)) :: st) (M, N) := G_get (ci := 3) (k0 := 3) inT_3 rfl (by rw [ht]; exact tbm 65 (by decide +kernel) rfl) (by decide) hi rfl (by decide) rfl (by decide) (by rw [← hv]; rfl) hdg k
set_option maxRecDepth 100000 in
theorem fg_X7_112 {i : Nat} {v : Int32} (hv : M 3 i 4 = v) (ht : t.1 = RX7) (hi : i < 30) (hdg : decode t.2.2.1 pc = .ok (.getfield 112, 3)) (k : GX X t d r M' (pc + 3) L (.inl v :: st) (M, N)) : GX X t d r M' pc L (.inr (.inr (3, i)) :: st) (M, N) := G_get (ci := 3) (k0 := 4) inT_3 rfl (by rw [ht]; exact tbm 68 (by decide +kernel) rfl) (by decide) hi rfl (by decide) rfl (by decide) (by rw [← hv]; rfl) hdg k
set_option maxRecDepth 100000 in
theorem fg_X7_115 {i : Nat} {v : Int32} (hv : M 3 i 5 = v) (ht : t.1 = RX7) (hi : i < 30) (hdg : decode t.2.2.1 pc = .ok (.getfield 115, 3)) (k : GX X t d r M' (pc + 3) L (.inl v :: st) (M, N)) : GX X t d r M' pc L (.inr (.inr (3, i)) :: st) (M, N) := G_get (ci := 3) (k0 := 5) inT_3 rfl (by rw [ht]; exact tbm 70 (by decide +kernel) rfl) (by decide) hi rfl (by decide) rfl (by decide) (by rw [← hv]; rfl) hdg k
set_option maxRecDepth 100000 in
theorem fg_X7_118 {i : Nat} {v : Int32} (hv : M 3 i 6 = v) (ht : t.1 = RX7) (hi : i < 30) (hdg : decode t.2.2.1 pc = .ok (.getfield 118, 3)) (k : GX X t d r M' (pc + 3) L (.inl v :: st) (M, N)) : GX X t d r M' pc L (.inr (.inr (3, i)) :: st) (M, N) := G_get (ci := 3) (k0 := 6) inT_3 rfl (by rw [ht]; exact tbm 72 (by decide +kernel) rfl) (by decide) hi rfl (by decide) rfl (by decide) (by rw [← hv]; rfl) hdg k
set_option maxRecDepth 100000 in
theorem fg_X7_121 {i : Nat} {v : Int32} (hv : nbZ (M 3 i 7) = v) (ht : t.1 = RX7) (hi : i < 30) (hdg : decode t.2.2.1 pc = .ok (.getfield 121, 3)) (k : GX X t d r M' (pc + 3) L (.inl v :: st) (M, N)) : GX X t d r M' pc L (.inr (.inr (3, i)) :: st) (M, N) := G_get (ci := 3) (k0 := 7) inT_3 rfl (by rw [ht]; exact tbm 75 (by decide +kernel) rfl) (by decide) hi rfl (by decide) rfl (by decide) (by rw [← hv]; rfl) hdg k
set_option maxRecDepth 100000 in
theorem fg_X7_146 {i : Nat} {v : Int32} (hv : M 0 i 2 = v) (ht : t.1 = RX7) (hi : i < 2) (hdg : decode t.2.2.1 pc = .ok (.getfield 146, 3)) (k : GX X t d r M' (pc + 3) L (.inl v :: st) (M, N)) : GX X t d r M' pc L (.inr (.inr (0, i)) :: st) (M, N) := G_get (ci := 0) (k0 := 2) inT_0 rfl (by rw [ht]; exact tbm 138 (by decide +kernel) rfl) (by decide) hi rfl (by decide) rfl (by decide) (by rw [← hv]; rfl) hdg k
set_option maxRecDepth 100000 in
theorem fg_X7_149 {i : Nat} (ht : t.1 = RX7) (hi : i < 2) (hdg : decode t.2.2.1 pc = .ok (.getfield 149, 3)) (k : GX X t d r M' (pc + 3) L (.inr (.inr (8, i)) :: st) (M, N)) : GX X t d r M' pc L (.inr (.inr (0, i)) :: st) (M, N) := G_get (ci := 0) (k0 := 0) inT_0 rfl (by rw [ht]; exact tbm 133 (by decide +kernel) rfl) (by decide) hi rfl (by decide) rfl (by decide) rfl hdg k
set_option maxRecDepth 100000 in
theorem fg_X7_156 {i : Nat} {v : Int32} (hv : M 4 i 3 = v) (ht : t.1 = RX7) (hi : i < 1) (hdg : decode t.2.2.1 pc = .ok (.getfield 156, 3)) (k : GX X t d r M' (pc + 3) L (.inl v :: st) (M, N)) : GX X t d r M' pc L (.inr (.inr (4, i)) :: st) (M, N) := G_get (ci := 4) (k0 := 3) inT_4 rfl (by rw [ht]; exact tbm 168 (by decide +kernel) rfl) (by decide) hi rfl (by decide) rfl (by decide) (by rw [← hv]; rfl) hdg k
set_option maxRecDepth 100000 in
theorem fg_X7_163 {i : Nat} (ht : t.1 = RX7) (hi : i < 1) (hdg : decode t.2.2.1 pc = .ok (.getfield 163, 3)) (k : GX X t d r M' (pc + 3) L (.inr (.inr (2, 6)) :: st) (M, N)) : GX X t d r M' pc L (.inr (.inr (4, i)) :: st) (M, N) := G_get (ci := 4) (k0 := 0) inT_4 rfl (by rw [ht]; exact tbm 164 (by decide +kernel) rfl) (by decide) hi rfl (by decide) rfl (by decide) rfl hdg k
set_option maxRecDepth 100000 in
theorem fg_X7_177 {i : Nat} {v : Int32} (hv : M 1 i 6 = v) (ht : t.1 = RX7) (hi : i < 3) (hdg : decode t.2.2.1 pc = .ok (.getfield 177, 3)) (k : GX X t d r M' (pc + 3) L (.inl v :: st) (M, N)) : GX X t d r M' pc L (.inr (.inr (1, i)) :: st) (M, N) := G_get (ci := 1) (k0 := 6) inT_1 rfl (by rw [ht]; exact tbm 105 (by decide +kernel) rfl) (by decide) hi rfl (by decide) rfl (by decide) (by rw [← hv]; rfl) hdg k
set_option maxRecDepth 100000 in
theorem fg_X7_237 {i : Nat} {v : Int32} (hv : M 0 i 4 = v) (ht : t.1 = RX7) (hi : i < 2) (hdg : decode t.2.2.1 pc = .ok (.getfield 237, 3)) (k : GX X t d r M' (pc + 3) L (.inl v :: st) (M, N)) : GX X t d r M' pc L (.inr (.inr (0, i)) :: st) (M, N) := G_get (ci := 0) (k0 := 4) inT_0 rfl (by rw [ht]; exact tbm 142 (by decide +kernel) rfl) (by decide) hi rfl (by decide) rfl (by decide) (by rw [← hv]; rfl) hdg k
set_option maxRecDepth 100000 in
theorem fg_X7_244 {i : Nat} {v : Int32} (hv : M 6 i 1 = v) (ht : t.1 = RX7) (hi : i < 1) (hdg : decode t.2.2.1 pc = .ok (.getfield 244, 3)) (k : GX X t d r M' (pc + 3) L (.inl v :: st) (M, N)) : GX X t d r M' pc L (.inr (.inr (6, i)) :: st) (M, N) := G_get (ci := 6) (k0 := 1) inT_6 rfl (by rw [ht]; exact tbm 187 (by decide +kernel) rfl) (by decide) hi rfl (by decide) rfl (by decide) (by rw [← hv]; rfl) hdg k
set_option maxRecDepth 100000 in
theorem fg_X7_247 {i : Nat} (ht : t.1 = RX7) (hi : i < 1) (hdg : decode t.2.2.1 pc = .ok (.getfield 247, 3)) (k : GX X t d r M' (pc + 3) L (.inr (.inr (16, i)) :: st) (M, N)) : GX X t d r M' pc L (.inr (.inr (6, i)) :: st) (M, N) := G_get (ci := 6) (k0 := 0) inT_6 rfl (by rw [ht]; exact tbm 185 (by decide +kernel) rfl) (by decide) hi rfl (by decide) rfl (by decide) rfl hdg k
set_option maxRecDepth 100000 in
theorem fg_X7_254 {i : Nat} {v : Int32} (hv : M 5 i 2 = v) (ht : t.1 = RX7) (hi : i < 4) (hdg : decode t.2.2.1 pc = .ok (.getfield 254, 3)) (k : GX X t d r M' (pc + 3) L (.inl v :: st) (M, N)) : GX X t d r M' pc L (.inr (.inr (5, i)) :: st) (M, N) := G_get (ci := 5) (k0 := 2) inT_5 rfl (by rw [ht]; exact tbm 214 (by decide +kernel) rfl) (by decide) hi rfl (by decide) rfl (by decide) (by rw [← hv]; rfl) hdg k
set_option maxRecDepth 100000 in
theorem fg_X7_257 {i : Nat} (ht : t.1 = RX7) (hi : i < 4) (hdg : decode t.2.2.1 pc = .ok (.getfield 257, 3)) (k : GX X t d r M' (pc + 3) L (.inr (.inr (15, i)) :: st) (M, N)) : GX X t d r M' pc L (.inr (.inr (5, i)) :: st) (M, N) := G_get (ci := 5) (k0 := 0) inT_5 rfl (by rw [ht]; exact tbm 210 (by decide +kernel) rfl) (by decide) hi rfl (by decide) rfl (by decide) rfl hdg k
set_option maxRecDepth 100000 in
theorem fg_X7_262 {i : Nat} {v : Int32} (hv : M 5 i 1 = v) (ht : t.1 = RX7) (hi : i < 4) (hdg : decode t.2.2.1 pc = .ok (.getfield 262, 3)) (k : GX X t d r M' (pc + 3) L (.inl v :: st) (M, N)) : GX X t d r M' pc L (.inr (.inr (5, i)) :: st) (M, N) := G_get (ci := 5) (k0 := 1) inT_5 rfl (by rw [ht]; exact tbm 212 (by decide +kernel) rfl) (by decide) hi rfl (by decide) rfl (by decide) (by rw [← hv]; rfl) hdg k
set_option maxRecDepth 100000 in
theorem fg_X7_279 {i : Nat} {v : Int32} (hv : M 7 i 9 = v) (ht : t.1 = RX7) (hi : i < 1) (hdg : decode t.2.2.1 pc = .ok (.getfield 279, 3)) (k : GX X t d r M' (pc + 3) L (.inl v :: st) (M, N)) : GX X t d r M' pc L (.inr (.inr (7, i)) :: st) (M, N) := G_get (ci := 7) (k0 := 9) inT_7 rfl (by rw [ht]; exact tbm 231 (by decide +kernel) rfl) (by decide) hi rfl (by decide) rfl (by decide) (by rw [← hv]; rfl) hdg k
set_option maxRecDepth 100000 in
theorem fg_X7_282 {i : Nat} {v : Int32} (hv : M 0 i 3 = v) (ht : t.1 = RX7) (hi : i < 2) (hdg : decode t.2.2.1 pc = .ok (.getfield 282, 3)) (k : GX X t d r M' (pc + 3) L (.inl v :: st) (M, N)) : GX X t d r M' pc L (.inr (.inr (0, i)) :: st) (M, N) := G_get (ci := 0) (k0 := 3) inT_0 rfl (by rw [ht]; exact tbm 140 (by decide +kernel) rfl) (by decide) hi rfl (by decide) rfl (by decide) (by rw [← hv]; rfl) hdg k
set_option maxRecDepth 100000 in
theorem fg_X7_285 {i : Nat} (ht : t.1 = RX7) (hi : i < 2) (hdg : decode t.2.2.1 pc = .ok (.getfield 285, 3)) (k : GX X t d r M' (pc + 3) L (.inr (.inr (9, i)) :: st) (M, N)) : GX X t d r M' pc L (.inr (.inr (0, i)) :: st) (M, N) := G_get (ci := 0) (k0 := 1) inT_0 rfl (by rw [ht]; exact tbm 135 (by decide +kernel) rfl) (by decide) hi rfl (by decide) rfl (by decide) rfl hdg k
set_option maxRecDepth 100000 in
theorem fg_X7_288 {i : Nat} {v : Int32} (hv : M 1 i 7 = v) (ht : t.1 = RX7) (hi : i < 3) (hdg : decode t.2.2.1 pc = .ok (.getfield 288, 3)) (k : GX X t d r M' (pc + 3) L (.inl v :: st) (M, N)) : GX X t d r M' pc L (.inr (.inr (1, i)) :: st) (M, N) := G_get (ci := 1) (k0 := 7) inT_1 rfl (by rw [ht]; exact tbm 107 (by decide +kernel) rfl) (by decide) hi rfl (by decide) rfl (by decide) (by rw [← hv]; rfl) hdg k
set_option maxRecDepth 100000 in
theorem fg_X0_9 {i : Nat} (ht : t.1 = RX0) (hi : i < 2) (hdg : decode t.2.2.1 pc = .ok (.getfield 9, 3)) (k : GX X t d r M' (pc + 3) L (.inr (.inr (8, i)) :: st) (M, N)) : GX X t d r M' pc L (.inr (.inr (0, i)) :: st) (M, N) := G_get (ci := 0) (k0 := 0) inT_0 rfl (by rw [ht]; exact tbm 131 (by decide +kernel) rfl) (by decide) hi rfl (by decide) rfl (by decide) rfl hdg k
set_option maxRecDepth 100000 in
theorem fg_X0_15 {i : Nat} (ht : t.1 = RX0) (hi : i < 2) (hdg : decode t.2.2.1 pc = .ok (.getfield 15, 3)) (k : GX X t d r M' (pc + 3) L (.inr (.inr (9, i)) :: st) (M, N)) : GX X t d r M' pc L (.inr (.inr (0, i)) :: st) (M, N) := G_get (ci := 0) (k0 := 1) inT_0 rfl (by rw [ht]; exact tbm 134 (by decide +kernel) rfl) (by decide) hi rfl (by decide) rfl (by decide) rfl hdg k
set_option maxRecDepth 100000 in
theorem fg_X0_19 {i : Nat} {v : Int32} (hv : M 0 i 4 = v) (ht : t.1 = RX0) (hi : i < 2) (hdg : decode t.2.2.1 pc = .ok (.getfield 19, 3)) (k : GX X t d r M' (pc + 3) L (.inl v :: st) (M, N)) : GX X t d r M' pc L (.inr (.inr (0, i)) :: st) (M, N) := G_get (ci := 0) (k0 := 4) inT_0 rfl (by rw [ht]; exact tbm 141 (by decide +kernel) rfl) (by decide) hi rfl (by decide) rfl (by decide) (by rw [← hv]; rfl) hdg k
set_option maxRecDepth 100000 in
theorem fg_X0_29 {i : Nat} {v : Int32} (hv : M 0 i 2 = v) (ht : t.1 = RX0) (hi : i < 2) (hdg : decode t.2.2.1 pc = .ok (.getfield 29, 3)) (k : GX X t d r M' (pc + 3) L (.inl v :: st) (M, N)) : GX X t d r M' pc L (.inr (.inr (0, i)) :: st) (M, N) := G_get (ci := 0) (k0 := 2) inT_0 rfl (by rw [ht]; exact tbm 136 (by decide +kernel) rfl) (by decide) hi rfl (by decide) rfl (by decide) (by rw [← hv]; rfl) hdg k
set_option maxRecDepth 100000 in
theorem fg_X0_32 {i : Nat} {v : Int32} (hv : M 0 i 3 = v) (ht : t.1 = RX0) (hi : i < 2) (hdg : decode t.2.2.1 pc = .ok (.getfield 32, 3)) (k : GX X t d r M' (pc + 3) L (.inl v :: st) (M, N)) : GX X t d r M' pc L (.inr (.inr (0, i)) :: st) (M, N) := G_get (ci := 0) (k0 := 3) inT_0 rfl (by rw [ht]; exact tbm 139 (by decide +kernel) rfl) (by decide) hi rfl (by decide) rfl (by decide) (by rw [← hv]; rfl) hdg k
set_option maxRecDepth 100000 in
theorem fg_X1_9 {i : Nat} (ht : t.1 = RX1) (hi : i < 3) (hdg : decode t.2.2.1 pc = .ok (.getfield 9, 3)) (k : GX X t d r M' (pc + 3) L (.inr (.inr (10, i)) :: st) (M, N)) : GX X t d r M' pc L (.inr (.inr (1, i)) :: st) (M, N) := G_get (ci := 1) (k0 := 0) inT_1 rfl (by rw [ht]; exact tbm 94 (by decide +kernel) rfl) (by decide) hi rfl (by decide) rfl (by decide) rfl hdg k
set_option maxRecDepth 100000 in
theorem fg_X1_15 {i : Nat} (ht : t.1 = RX1) (hi : i < 3) (hdg : decode t.2.2.1 pc = .ok (.getfield 15, 3)) (k : GX X t d r M' (pc + 3) L (.inr (.inr (11, i)) :: st) (M, N)) : GX X t d r M' pc L (.inr (.inr (1, i)) :: st) (M, N) := G_get (ci := 1) (k0 := 1) inT_1 rfl (by rw [ht]; exact tbm 96 (by decide +kernel) rfl) (by decide) hi rfl (by decide) rfl (by decide) rfl hdg k
set_option maxRecDepth 100000 in
theorem fg_X1_20 {i : Nat} (ht : t.1 = RX1) (hi : i < 3) (hdg : decode t.2.2.1 pc = .ok (.getfield 20, 3)) (k : GX X t d r M' (pc + 3) L (.inr (.inr (12, i)) :: st) (M, N)) : GX X t d r M' pc L (.inr (.inr (1, i)) :: st) (M, N) := G_get (ci := 1) (k0 := 2) inT_1 rfl (by rw [ht]; exact tbm 98 (by decide +kernel) rfl) (by decide) hi rfl (by decide) rfl (by decide) rfl hdg k
set_option maxRecDepth 100000 in
theorem fg_X1_27 {i : Nat} (ht : t.1 = RX1) (hi : i < 3) (hdg : decode t.2.2.1 pc = .ok (.getfield 27, 3)) (k : GX X t d r M' (pc + 3) L (.inr (.inr (2, (2 * i))) :: st) (M, N)) : GX X t d r M' pc L (.inr (.inr (1, i)) :: st) (M, N) := G_get (ci := 1) (k0 := 3) inT_1 rfl (by rw [ht]; exact tbm 100 (by decide +kernel) rfl) (by decide) hi rfl (by decide) rfl (by decide) rfl hdg k
set_option maxRecDepth 100000 in
theorem fg_X1_31 {i : Nat} (ht : t.1 = RX1) (hi : i < 3) (hdg : decode t.2.2.1 pc = .ok (.getfield 31, 3)) (k : GX X t d r M' (pc + 3) L (.inr (.inr (2, (2 * i + 1))) :: st) (M, N)) : GX X t d r M' pc L (.inr (.inr (1, i)) :: st) (M, N) := G_get (ci := 1) (k0 := 4) inT_1 rfl (by rw [ht]; exact tbm 101 (by decide +kernel) rfl) (by decide) hi rfl (by decide) rfl (by decide) rfl hdg k
set_option maxRecDepth 100000 in
theorem fg_X1_47 {i : Nat} {v : Int32} (hv : M 1 i 5 = v) (ht : t.1 = RX1) (hi : i < 3) (hdg : decode t.2.2.1 pc = .ok (.getfield 47, 3)) (k : GX X t d r M' (pc + 3) L (.inl v :: st) (M, N)) : GX X t d r M' pc L (.inr (.inr (1, i)) :: st) (M, N) := G_get (ci := 1) (k0 := 5) inT_1 rfl (by rw [ht]; exact tbm 102 (by decide +kernel) rfl) (by decide) hi rfl (by decide) rfl (by decide) (by rw [← hv]; rfl) hdg k
set_option maxRecDepth 100000 in
theorem fg_X1_58 {i : Nat} {v : Int32} (hv : M 1 i 6 = v) (ht : t.1 = RX1) (hi : i < 3) (hdg : decode t.2.2.1 pc = .ok (.getfield 58, 3)) (k : GX X t d r M' (pc + 3) L (.inl v :: st) (M, N)) : GX X t d r M' pc L (.inr (.inr (1, i)) :: st) (M, N) := G_get (ci := 1) (k0 := 6) inT_1 rfl (by rw [ht]; exact tbm 104 (by decide +kernel) rfl) (by decide) hi rfl (by decide) rfl (by decide) (by rw [← hv]; rfl) hdg k
set_option maxRecDepth 100000 in
theorem fg_X1_61 {i : Nat} {v : Int32} (hv : M 1 i 7 = v) (ht : t.1 = RX1) (hi : i < 3) (hdg : decode t.2.2.1 pc = .ok (.getfield 61, 3)) (k : GX X t d r M' (pc + 3) L (.inl v :: st) (M, N)) : GX X t d r M' pc L (.inr (.inr (1, i)) :: st) (M, N) := G_get (ci := 1) (k0 := 7) inT_1 rfl (by rw [ht]; exact tbm 106 (by decide +kernel) rfl) (by decide) hi rfl (by decide) rfl (by decide) (by rw [← hv]; rfl) hdg k
set_option maxRecDepth 100000 in
theorem fg_X1_85 {i : Nat} {v : Int32} (hv : M 3 i 2 = v) (ht : t.1 = RX1) (hi : i < 30) (hdg : decode t.2.2.1 pc = .ok (.getfield 85, 3)) (k : GX X t d r M' (pc + 3) L (.inl v :: st) (M, N)) : GX X t d r M' pc L (.inr (.inr (3, i)) :: st) (M, N) := G_get (ci := 3) (k0 := 2) inT_3 rfl (by rw [ht]; exact tbm 63 (by decide +kernel) rfl) (by decide) hi rfl (by decide) rfl (by decide) (by rw [← hv]; rfl) hdg k
set_option maxRecDepth 100000 in
theorem fg_X1_96 {i : Nat} {v : Int32} (hv : M 3 i 3 = v) (ht : t.1 = RX1) (hi : i < 30) (hdg : decode t.2.2.1 pc = .ok (.getfield 96, 3)) (k : GX X t d r M' (pc + 3) L (.inl v :: st) (M, N)) : GX X t d r M' pc L (.inr (.inr (3, i)) :: st) (M, N) := G_get (ci := 3) (k0 := 3) inT_3 rfl (by rw [ht]; exact tbm 66 (by decide +kernel) rfl) (by decide) hi rfl (by decide) rfl (by decide) (by rw [← hv]; rfl) hdg k
set_option maxRecDepth 100000 in
theorem fg_X1_116 {i : Nat} {v : Int32} (hv : M 3 i 6 = v) (ht : t.1 = RX1) (hi : i < 30) (hdg : decode t.2.2.1 pc = .ok (.getfield 116, 3)) (k : GX X t d r M' (pc + 3) L (.inl v :: st) (M, N)) : GX X t d r M' pc L (.inr (.inr (3, i)) :: st) (M, N) := G_get (ci := 3) (k0 := 6) inT_3 rfl (by rw [ht]; exact tbm 73 (by decide +kernel) rfl) (by decide) hi rfl (by decide) rfl (by decide) (by rw [← hv]; rfl) hdg k
set_option maxRecDepth 100000 in
theorem fg_X1_119 {i : Nat} {v : Int32} (hv : nbZ (M 3 i 7) = v) (ht : t.1 = RX1) (hi : i < 30) (hdg : decode t.2.2.1 pc = .ok (.getfield 119, 3)) (k : GX X t d r M' (pc + 3) L (.inl v :: st) (M, N)) : GX X t d r M' pc L (.inr (.inr (3, i)) :: st) (M, N) := G_get (ci := 3) (k0 := 7) inT_3 rfl (by rw [ht]; exact tbm 76 (by decide +kernel) rfl) (by decide) hi rfl (by decide) rfl (by decide) (by rw [← hv]; rfl) hdg k
set_option maxRecDepth 100000 in
theorem fg_X2_9 {i : Nat} (ht : t.1 = RX2) (hi : i < 7) (hdg : decode t.2.2.1 pc = .ok (.getfield 9, 3)) (k : GX X t d r M' (pc + 3) L (.inr (.inr (13, i)) :: st) (M, N)) : GX X t d r M' pc L (.inr (.inr (2, i)) :: st) (M, N) := G_get (ci := 2) (k0 := 0) inT_2 rfl (by rw [ht]; exact tbm 36 (by decide +kernel) rfl) (by decide) hi rfl (by decide) rfl (by decide) rfl hdg k
set_option maxRecDepth 100000 in
theorem fg_X2_15 {i : Nat} (ht : t.1 = RX2) (hi : i < 7) (hdg : decode t.2.2.1 pc = .ok (.getfield 15, 3)) (k : GX X t d r M' (pc + 3) L (.inr (.inr (14, i)) :: st) (M, N)) : GX X t d r M' pc L (.inr (.inr (2, i)) :: st) (M, N) := G_get (ci := 2) (k0 := 1) inT_2 rfl (by rw [ht]; exact tbm 37 (by decide +kernel) rfl) (by decide) hi rfl (by decide) rfl (by decide) rfl hdg k
set_option maxRecDepth 100000 in
theorem fg_X2_18 {i : Nat} {v : Int32} (hv : M 2 i 2 = v) (ht : t.1 = RX2) (hi : i < 7) (hdg : decode t.2.2.1 pc = .ok (.getfield 18, 3)) (k : GX X t d r M' (pc + 3) L (.inl v :: st) (M, N)) : GX X t d r M' pc L (.inr (.inr (2, i)) :: st) (M, N) := G_get (ci := 2) (k0 := 2) inT_2 rfl (by rw [ht]; exact tbm 38 (by decide +kernel) rfl) (by decide) hi rfl (by decide) rfl (by decide) (by rw [← hv]; rfl) hdg k
set_option maxRecDepth 100000 in
theorem fg_X3_9 {i : Nat} {v : Int32} (hv : M 3 i 0 = v) (ht : t.1 = RX3) (hi : i < 30) (hdg : decode t.2.2.1 pc = .ok (.getfield 9, 3)) (k : GX X t d r M' (pc + 3) L (.inl v :: st) (M, N)) : GX X t d r M' pc L (.inr (.inr (3, i)) :: st) (M, N) := G_get (ci := 3) (k0 := 0) inT_3 rfl (by rw [ht]; exact tbm 55 (by decide +kernel) rfl) (by decide) hi rfl (by decide) rfl (by decide) (by rw [← hv]; rfl) hdg k
set_option maxRecDepth 100000 in
theorem fg_X3_15 {i : Nat} {v : Int32} (hv : M 3 i 1 = v) (ht : t.1 = RX3) (hi : i < 30) (hdg : decode t.2.2.1 pc = .ok (.getfield 15, 3)) (k : GX X t d r M' (pc + 3) L (.inl v :: st) (M, N)) : GX X t d r M' pc L (.inr (.inr (3, i)) :: st) (M, N) := G_get (ci := 3) (k0 := 1) inT_3 rfl (by rw [ht]; exact tbm 58 (by decide +kernel) rfl) (by decide) hi rfl (by decide) rfl (by decide) (by rw [← hv]; rfl) hdg k
set_option maxRecDepth 100000 in
theorem fg_X3_18 {i : Nat} {v : Int32} (hv : M 3 i 2 = v) (ht : t.1 = RX3) (hi : i < 30) (hdg : decode t.2.2.1 pc = .ok (.getfield 18, 3)) (k : GX X t d r M' (pc + 3) L (.inl v :: st) (M, N)) : GX X t d r M' pc L (.inr (.inr (3, i)) :: st) (M, N) := G_get (ci := 3) (k0 := 2) inT_3 rfl (by rw [ht]; exact tbm 61 (by decide +kernel) rfl) (by decide) hi rfl (by decide) rfl (by decide) (by rw [← hv]; rfl) hdg k
set_option maxRecDepth 100000 in
theorem fg_X3_21 {i : Nat} {v : Int32} (hv : M 3 i 3 = v) (ht : t.1 = RX3) (hi : i < 30) (hdg : decode t.2.2.1 pc = .ok (.getfield 21, 3)) (k : GX X t d r M' (pc + 3) L (.inl v :: st) (M, N)) : GX X t d r M' pc L (.inr (.inr (3, i)) :: st) (M, N) := G_get (ci := 3) (k0 := 3) inT_3 rfl (by rw [ht]; exact tbm 64 (by decide +kernel) rfl) (by decide) hi rfl (by decide) rfl (by decide) (by rw [← hv]; rfl) hdg k
set_option maxRecDepth 100000 in
theorem fg_X3_24 {i : Nat} {v : Int32} (hv : M 3 i 4 = v) (ht : t.1 = RX3) (hi : i < 30) (hdg : decode t.2.2.1 pc = .ok (.getfield 24, 3)) (k : GX X t d r M' (pc + 3) L (.inl v :: st) (M, N)) : GX X t d r M' pc L (.inr (.inr (3, i)) :: st) (M, N) := G_get (ci := 3) (k0 := 4) inT_3 rfl (by rw [ht]; exact tbm 67 (by decide +kernel) rfl) (by decide) hi rfl (by decide) rfl (by decide) (by rw [← hv]; rfl) hdg k
set_option maxRecDepth 100000 in
theorem fg_X3_27 {i : Nat} {v : Int32} (hv : M 3 i 5 = v) (ht : t.1 = RX3) (hi : i < 30) (hdg : decode t.2.2.1 pc = .ok (.getfield 27, 3)) (k : GX X t d r M' (pc + 3) L (.inl v :: st) (M, N)) : GX X t d r M' pc L (.inr (.inr (3, i)) :: st) (M, N) := G_get (ci := 3) (k0 := 5) inT_3 rfl (by rw [ht]; exact tbm 69 (by decide +kernel) rfl) (by decide) hi rfl (by decide) rfl (by decide) (by rw [← hv]; rfl) hdg k
set_option maxRecDepth 100000 in
theorem fg_X3_30 {i : Nat} {v : Int32} (hv : M 3 i 6 = v) (ht : t.1 = RX3) (hi : i < 30) (hdg : decode t.2.2.1 pc = .ok (.getfield 30, 3)) (k : GX X t d r M' (pc + 3) L (.inl v :: st) (M, N)) : GX X t d r M' pc L (.inr (.inr (3, i)) :: st) (M, N) := G_get (ci := 3) (k0 := 6) inT_3 rfl (by rw [ht]; exact tbm 71 (by decide +kernel) rfl) (by decide) hi rfl (by decide) rfl (by decide) (by rw [← hv]; rfl) hdg k
set_option maxRecDepth 100000 in
theorem fg_X3_33 {i : Nat} {v : Int32} (hv : nbZ (M 3 i 7) = v) (ht : t.1 = RX3) (hi : i < 30) (hdg : decode t.2.2.1 pc = .ok (.getfield 33, 3)) (k : GX X t d r M' (pc + 3) L (.inl v :: st) (M, N)) : GX X t d r M' pc L (.inr (.inr (3, i)) :: st) (M, N) := G_get (ci := 3) (k0 := 7) inT_3 rfl (by rw [ht]; exact tbm 74 (by decide +kernel) rfl) (by decide) hi rfl (by decide) rfl (by decide) (by rw [← hv]; rfl) hdg k
set_option maxRecDepth 100000 in
theorem fg_X4_12 {i : Nat} (ht : t.1 = RX4) (hi : i < 1) (hdg : decode t.2.2.1 pc = .ok (.getfield 12, 3)) (k : GX X t d r M' (pc + 3) L (.inr (.inr (2, 6)) :: st) (M, N)) : GX X t d r M' pc L (.inr (.inr (4, i)) :: st) (M, N) := G_get (ci := 4) (k0 := 0) inT_4 rfl (by rw [ht]; exact tbm 163 (by decide +kernel) rfl) (by decide) hi rfl (by decide) rfl (by decide) rfl hdg k
set_option maxRecDepth 100000 in
theorem fg_X4_18 {i : Nat} (ht : t.1 = RX4) (hi : i < 1) (hdg : decode t.2.2.1 pc = .ok (.getfield 18, 3)) (k : GX X t d r M' (pc + 3) L (.inr (.inr (0, 0)) :: st) (M, N)) : GX X t d r M' pc L (.inr (.inr (4, i)) :: st) (M, N) := G_get (ci := 4) (k0 := 1) inT_4 rfl (by rw [ht]; exact tbm 165 (by decide +kernel) rfl) (by decide) hi rfl (by decide) rfl (by decide) rfl hdg k
set_option maxRecDepth 100000 in
theorem fg_X4_22 {i : Nat} {v : Int32} (hv : M 4 i 2 = v) (ht : t.1 = RX4) (hi : i < 1) (hdg : decode t.2.2.1 pc = .ok (.getfield 22, 3)) (k : GX X t d r M' (pc + 3) L (.inl v :: st) (M, N)) : GX X t d r M' pc L (.inr (.inr (4, i)) :: st) (M, N) := G_get (ci := 4) (k0 := 2) inT_4 rfl (by rw [ht]; exact tbm 166 (by decide +kernel) rfl) (by decide) hi rfl (by decide) rfl (by decide) (by rw [← hv]; rfl) hdg k
set_option maxRecDepth 100000 in
theorem fg_X4_26 {i : Nat} {v : Int32} (hv : M 4 i 3 = v) (ht : t.1 = RX4) (hi : i < 1) (hdg : decode t.2.2.1 pc = .ok (.getfield 26, 3)) (k : GX X t d r M' (pc + 3) L (.inl v :: st) (M, N)) : GX X t d r M' pc L (.inr (.inr (4, i)) :: st) (M, N) := G_get (ci := 4) (k0 := 3) inT_4 rfl (by rw [ht]; exact tbm 167 (by decide +kernel) rfl) (by decide) hi rfl (by decide) rfl (by decide) (by rw [← hv]; rfl) hdg k
set_option maxRecDepth 100000 in
theorem fg_X4_36 {i : Nat} {v : Int32} (hv : M 0 i 2 = v) (ht : t.1 = RX4) (hi : i < 2) (hdg : decode t.2.2.1 pc = .ok (.getfield 36, 3)) (k : GX X t d r M' (pc + 3) L (.inl v :: st) (M, N)) : GX X t d r M' pc L (.inr (.inr (0, i)) :: st) (M, N) := G_get (ci := 0) (k0 := 2) inT_0 rfl (by rw [ht]; exact tbm 137 (by decide +kernel) rfl) (by decide) hi rfl (by decide) rfl (by decide) (by rw [← hv]; rfl) hdg k
set_option maxRecDepth 100000 in
theorem fg_X4_41 {i : Nat} (ht : t.1 = RX4) (hi : i < 2) (hdg : decode t.2.2.1 pc = .ok (.getfield 41, 3)) (k : GX X t d r M' (pc + 3) L (.inr (.inr (8, i)) :: st) (M, N)) : GX X t d r M' pc L (.inr (.inr (0, i)) :: st) (M, N) := G_get (ci := 0) (k0 := 0) inT_0 rfl (by rw [ht]; exact tbm 132 (by decide +kernel) rfl) (by decide) hi rfl (by decide) rfl (by decide) rfl hdg k
set_option maxRecDepth 100000 in
theorem fg_X5_9 {i : Nat} (ht : t.1 = RX5) (hi : i < 4) (hdg : decode t.2.2.1 pc = .ok (.getfield 9, 3)) (k : GX X t d r M' (pc + 3) L (.inr (.inr (15, i)) :: st) (M, N)) : GX X t d r M' pc L (.inr (.inr (5, i)) :: st) (M, N) := G_get (ci := 5) (k0 := 0) inT_5 rfl (by rw [ht]; exact tbm 209 (by decide +kernel) rfl) (by decide) hi rfl (by decide) rfl (by decide) rfl hdg k
set_option maxRecDepth 100000 in
theorem fg_X5_15 {i : Nat} {v : Int32} (hv : M 5 i 1 = v) (ht : t.1 = RX5) (hi : i < 4) (hdg : decode t.2.2.1 pc = .ok (.getfield 15, 3)) (k : GX X t d r M' (pc + 3) L (.inl v :: st) (M, N)) : GX X t d r M' pc L (.inr (.inr (5, i)) :: st) (M, N) := G_get (ci := 5) (k0 := 1) inT_5 rfl (by rw [ht]; exact tbm 211 (by decide +kernel) rfl) (by decide) hi rfl (by decide) rfl (by decide) (by rw [← hv]; rfl) hdg k
set_option maxRecDepth 100000 in
theorem fg_X5_19 {i : Nat} {v : Int32} (hv : M 5 i 2 = v) (ht : t.1 = RX5) (hi : i < 4) (hdg : decode t.2.2.1 pc = .ok (.getfield 19, 3)) (k : GX X t d r M' (pc + 3) L (.inl v :: st) (M, N)) : GX X t d r M' pc L (.inr (.inr (5, i)) :: st) (M, N) := G_get (ci := 5) (k0 := 2) inT_5 rfl (by rw [ht]; exact tbm 213 (by decide +kernel) rfl) (by decide) hi rfl (by decide) rfl (by decide) (by rw [← hv]; rfl) hdg k
set_option maxRecDepth 100000 in
theorem fg_X6_9 {i : Nat} (ht : t.1 = RX6) (hi : i < 1) (hdg : decode t.2.2.1 pc = .ok (.getfield 9, 3)) (k : GX X t d r M' (pc + 3) L (.inr (.inr (16, i)) :: st) (M, N)) : GX X t d r M' pc L (.inr (.inr (6, i)) :: st) (M, N) := G_get (ci := 6) (k0 := 0) inT_6 rfl (by rw [ht]; exact tbm 184 (by decide +kernel) rfl) (by decide) hi rfl (by decide) rfl (by decide) rfl hdg k
set_option maxRecDepth 100000 in
theorem fg_X6_15 {i : Nat} {v : Int32} (hv : M 6 i 1 = v) (ht : t.1 = RX6) (hi : i < 1) (hdg : decode t.2.2.1 pc = .ok (.getfield 15, 3)) (k : GX X t d r M' (pc + 3) L (.inl v :: st) (M, N)) : GX X t d r M' pc L (.inr (.inr (6, i)) :: st) (M, N) := G_get (ci := 6) (k0 := 1) inT_6 rfl (by rw [ht]; exact tbm 186 (by decide +kernel) rfl) (by decide) hi rfl (by decide) rfl (by decide) (by rw [← hv]; rfl) hdg k
set_option maxRecDepth 100000 in
theorem fg_X6_19 {i : Nat} {v : Int32} (hv : M 3 i 0 = v) (ht : t.1 = RX6) (hi : i < 30) (hdg : decode t.2.2.1 pc = .ok (.getfield 19, 3)) (k : GX X t d r M' (pc + 3) L (.inl v :: st) (M, N)) : GX X t d r M' pc L (.inr (.inr (3, i)) :: st) (M, N) := G_get (ci := 3) (k0 := 0) inT_3 rfl (by rw [ht]; exact tbm 56 (by decide +kernel) rfl) (by decide) hi rfl (by decide) rfl (by decide) (by rw [← hv]; rfl) hdg k
set_option maxRecDepth 100000 in
theorem fg_X6_24 {i : Nat} {v : Int32} (hv : M 6 i 2 = v) (ht : t.1 = RX6) (hi : i < 1) (hdg : decode t.2.2.1 pc = .ok (.getfield 24, 3)) (k : GX X t d r M' (pc + 3) L (.inl v :: st) (M, N)) : GX X t d r M' pc L (.inr (.inr (6, i)) :: st) (M, N) := G_get (ci := 6) (k0 := 2) inT_6 rfl (by rw [ht]; exact tbm 188 (by decide +kernel) rfl) (by decide) hi rfl (by decide) rfl (by decide) (by rw [← hv]; rfl) hdg k
set_option maxRecDepth 100000 in
theorem fg_X6_25 {i : Nat} {v : Int32} (hv : M 6 i 3 = v) (ht : t.1 = RX6) (hi : i < 1) (hdg : decode t.2.2.1 pc = .ok (.getfield 25, 3)) (k : GX X t d r M' (pc + 3) L (.inl v :: st) (M, N)) : GX X t d r M' pc L (.inr (.inr (6, i)) :: st) (M, N) := G_get (ci := 6) (k0 := 3) inT_6 rfl (by rw [ht]; exact tbm 189 (by decide +kernel) rfl) (by decide) hi rfl (by decide) rfl (by decide) (by rw [← hv]; rfl) hdg k
set_option maxRecDepth 100000 in
theorem fg_X6_28 {i : Nat} {v : Int32} (hv : M 3 i 1 = v) (ht : t.1 = RX6) (hi : i < 30) (hdg : decode t.2.2.1 pc = .ok (.getfield 28, 3)) (k : GX X t d r M' (pc + 3) L (.inl v :: st) (M, N)) : GX X t d r M' pc L (.inr (.inr (3, i)) :: st) (M, N) := G_get (ci := 3) (k0 := 1) inT_3 rfl (by rw [ht]; exact tbm 59 (by decide +kernel) rfl) (by decide) hi rfl (by decide) rfl (by decide) (by rw [← hv]; rfl) hdg k
set_option maxRecDepth 100000 in
theorem fg_X6_31 {i : Nat} {v : Int32} (hv : M 6 i 4 = v) (ht : t.1 = RX6) (hi : i < 1) (hdg : decode t.2.2.1 pc = .ok (.getfield 31, 3)) (k : GX X t d r M' (pc + 3) L (.inl v :: st) (M, N)) : GX X t d r M' pc L (.inr (.inr (6, i)) :: st) (M, N) := G_get (ci := 6) (k0 := 4) inT_6 rfl (by rw [ht]; exact tbm 190 (by decide +kernel) rfl) (by decide) hi rfl (by decide) rfl (by decide) (by rw [← hv]; rfl) hdg k
set_option maxRecDepth 100000 in
theorem fg_X8_7 {i : Nat} (ht : t.1 = RX8) (hi : i < 1) (hdg : decode t.2.2.1 pc = .ok (.getfield 7, 3)) (k : GX X t d r M' (pc + 3) L (.inr (.inr (20, 0)) :: st) (N, M)) : GX X t d r M' pc L (.inr (.inr (19, i)) :: st) (N, M) := G_get (ci := 8) (k0 := 0) inT_8 rfl (by rw [ht]; exact tbm 685 (by decide +kernel) rfl) (by decide) hi rfl (by decide) rfl (by decide) rfl hdg k
set_option maxRecDepth 100000 in
theorem fg_X8_13 {i : Nat} (ht : t.1 = RX8) (hi : i < 1) (hdg : decode t.2.2.1 pc = .ok (.getfield 13, 3)) (k : GX X t d r M' (pc + 3) L (.inr (.inr (21, 0)) :: st) (N, M)) : GX X t d r M' pc L (.inr (.inr (19, i)) :: st) (N, M) := G_get (ci := 8) (k0 := 1) inT_8 rfl (by rw [ht]; exact tbm 686 (by decide +kernel) rfl) (by decide) hi rfl (by decide) rfl (by decide) rfl hdg k
set_option maxRecDepth 100000 in
theorem fg_X8_16 {i : Nat} (ht : t.1 = RX8) (hi : i < 1) (hdg : decode t.2.2.1 pc = .ok (.getfield 16, 3)) (k : GX X t d r M' (pc + 3) L (.inr (.inr (22, 0)) :: st) (N, M)) : GX X t d r M' pc L (.inr (.inr (19, i)) :: st) (N, M) := G_get (ci := 8) (k0 := 2) inT_8 rfl (by rw [ht]; exact tbm 687 (by decide +kernel) rfl) (by decide) hi rfl (by decide) rfl (by decide) rfl hdg k
set_option maxRecDepth 100000 in
theorem fg_X8_19 {i : Nat} (ht : t.1 = RX8) (hi : i < 1) (hdg : decode t.2.2.1 pc = .ok (.getfield 19, 3)) (k : GX X t d r M' (pc + 3) L (.inr (.inr (23, 0)) :: st) (N, M)) : GX X t d r M' pc L (.inr (.inr (19, i)) :: st) (N, M) := G_get (ci := 8) (k0 := 4) inT_8 rfl (by rw [ht]; exact tbm 689 (by decide +kernel) rfl) (by decide) hi rfl (by decide) rfl (by decide) rfl hdg k
set_option maxRecDepth 100000 in
theorem fg_X8_22 {i : Nat} (ht : t.1 = RX8) (hi : i < 1) (hdg : decode t.2.2.1 pc = .ok (.getfield 22, 3)) (k : GX X t d r M' (pc + 3) L (.inr (.inr (24, 0)) :: st) (N, M)) : GX X t d r M' pc L (.inr (.inr (19, i)) :: st) (N, M) := G_get (ci := 8) (k0 := 11) inT_8 rfl (by rw [ht]; exact tbm 696 (by decide +kernel) rfl) (by decide) hi rfl (by decide) rfl (by decide) rfl hdg k
set_option maxRecDepth 100000 in
theorem fg_X8_25 {i : Nat} (ht : t.1 = RX8) (hi : i < 1) (hdg : decode t.2.2.1 pc = .ok (.getfield 25, 3)) (k : GX X t d r M' (pc + 3) L (.inr (.inr (25, 0)) :: st) (N, M)) : GX X t d r M' pc L (.inr (.inr (19, i)) :: st) (N, M) := G_get (ci := 8) (k0 := 12) inT_8 rfl (by rw [ht]; exact tbm 697 (by decide +kernel) rfl) (by decide) hi rfl (by decide) rfl (by decide) rfl hdg k
set_option maxRecDepth 100000 in
theorem fg_X8_28 {i : Nat} (ht : t.1 = RX8) (hi : i < 1) (hdg : decode t.2.2.1 pc = .ok (.getfield 28, 3)) (k : GX X t d r M' (pc + 3) L (.inr (.inr (26, 0)) :: st) (N, M)) : GX X t d r M' pc L (.inr (.inr (19, i)) :: st) (N, M) := G_get (ci := 8) (k0 := 14) inT_8 rfl (by rw [ht]; exact tbm 699 (by decide +kernel) rfl) (by decide) hi rfl (by decide) rfl (by decide) rfl hdg k
set_option maxRecDepth 100000 in
theorem fg_X8_31 {i : Nat} (ht : t.1 = RX8) (hi : i < 1) (hdg : decode t.2.2.1 pc = .ok (.getfield 31, 3)) (k : GX X t d r M' (pc + 3) L (.inr (.inr (27, 0)) :: st) (N, M)) : GX X t d r M' pc L (.inr (.inr (19, i)) :: st) (N, M) := G_get (ci := 8) (k0 := 15) inT_8 rfl (by rw [ht]; exact tbm 700 (by decide +kernel) rfl) (by decide) hi rfl (by decide) rfl (by decide) rfl hdg k
set_option maxRecDepth 100000 in
theorem fg_X8_34 {i : Nat} (ht : t.1 = RX8) (hi : i < 1) (hdg : decode t.2.2.1 pc = .ok (.getfield 34, 3)) (k : GX X t d r M' (pc + 3) L (.inr (.inr (28, 0)) :: st) (N, M)) : GX X t d r M' pc L (.inr (.inr (19, i)) :: st) (N, M) := G_get (ci := 8) (k0 := 18) inT_8 rfl (by rw [ht]; exact tbm 703 (by decide +kernel) rfl) (by decide) hi rfl (by decide) rfl (by decide) rfl hdg k
set_option maxRecDepth 100000 in
theorem fg_X8_37 {i : Nat} (ht : t.1 = RX8) (hi : i < 1) (hdg : decode t.2.2.1 pc = .ok (.getfield 37, 3)) (k : GX X t d r M' (pc + 3) L (.inr (.inr (29, 0)) :: st) (N, M)) : GX X t d r M' pc L (.inr (.inr (19, i)) :: st) (N, M) := G_get (ci := 8) (k0 := 19) inT_8 rfl (by rw [ht]; exact tbm 704 (by decide +kernel) rfl) (by decide) hi rfl (by decide) rfl (by decide) rfl hdg k
set_option maxRecDepth 100000 in
theorem fg_X8_40 {i : Nat} (ht : t.1 = RX8) (hi : i < 1) (hdg : decode t.2.2.1 pc = .ok (.getfield 40, 3)) (k : GX X t d r M' (pc + 3) L (.inr (.inr (30, 0)) :: st) (N, M)) : GX X t d r M' pc L (.inr (.inr (19, i)) :: st) (N, M) := G_get (ci := 8) (k0 := 20) inT_8 rfl (by rw [ht]; exact tbm 705 (by decide +kernel) rfl) (by decide) hi rfl (by decide) rfl (by decide) rfl hdg k
set_option maxRecDepth 100000 in
theorem fg_X8_43 {i : Nat} (ht : t.1 = RX8) (hi : i < 1) (hdg : decode t.2.2.1 pc = .ok (.getfield 43, 3)) (k : GX X t d r M' (pc + 3) L (.inr (.inr (31, 0)) :: st) (N, M)) : GX X t d r M' pc L (.inr (.inr (19, i)) :: st) (N, M) := G_get (ci := 8) (k0 := 21) inT_8 rfl (by rw [ht]; exact tbm 706 (by decide +kernel) rfl) (by decide) hi rfl (by decide) rfl (by decide) rfl hdg k
set_option maxRecDepth 100000 in
theorem fg_X8_57 {i : Nat} {v : Int32} (hv : M 19 i 6 = v) (ht : t.1 = RX8) (hi : i < 1) (hdg : decode t.2.2.1 pc = .ok (.getfield 57, 3)) (k : GX X t d r M' (pc + 3) L (.inl v :: st) (N, M)) : GX X t d r M' pc L (.inr (.inr (19, i)) :: st) (N, M) := G_get (ci := 8) (k0 := 6) inT_8 rfl (by rw [ht]; exact tbm 691 (by decide +kernel) rfl) (by decide) hi rfl (by decide) rfl (by decide) (by rw [← hv]; rfl) hdg k
set_option maxRecDepth 100000 in
theorem fg_X8_61 {i : Nat} {v : Int32} (hv : M 19 i 7 = v) (ht : t.1 = RX8) (hi : i < 1) (hdg : decode t.2.2.1 pc = .ok (.getfield 61, 3)) (k : GX X t d r M' (pc + 3) L (.inl v :: st) (N, M)) : GX X t d r M' pc L (.inr (.inr (19, i)) :: st) (N, M) := G_get (ci := 8) (k0 := 7) inT_8 rfl (by rw [ht]; exact tbm 692 (by decide +kernel) rfl) (by decide) hi rfl (by decide) rfl (by decide) (by rw [← hv]; rfl) hdg k
set_option maxRecDepth 100000 in
theorem fg_X8_64 {i : Nat} {v : Int32} (hv : M 19 i 8 = v) (ht : t.1 = RX8) (hi : i < 1) (hdg : decode t.2.2.1 pc = .ok (.getfield 64, 3)) (k : GX X t d r M' (pc + 3) L (.inl v :: st) (N, M)) : GX X t d r M' pc L (.inr (.inr (19, i)) :: st) (N, M) := G_get (ci := 8) (k0 := 8) inT_8 rfl (by rw [ht]; exact tbm 693 (by decide +kernel) rfl) (by decide) hi rfl (by decide) rfl (by decide) (by rw [← hv]; rfl) hdg k
set_option maxRecDepth 100000 in
theorem fg_X8_67 {i : Nat} {v : Int32} (hv : M 19 i 5 = v) (ht : t.1 = RX8) (hi : i < 1) (hdg : decode t.2.2.1 pc = .ok (.getfield 67, 3)) (k : GX X t d r M' (pc + 3) L (.inl v :: st) (N, M)) : GX X t d r M' pc L (.inr (.inr (19, i)) :: st) (N, M) := G_get (ci := 8) (k0 := 5) inT_8 rfl (by rw [ht]; exact tbm 690 (by decide +kernel) rfl) (by decide) hi rfl (by decide) rfl (by decide) (by rw [← hv]; rfl) hdg k
set_option maxRecDepth 100000 in
theorem fg_X8_74 {i : Nat} {v : Int32} (hv : nbZ (M 19 i 10) = v) (ht : t.1 = RX8) (hi : i < 1) (hdg : decode t.2.2.1 pc = .ok (.getfield 74, 3)) (k : GX X t d r M' (pc + 3) L (.inl v :: st) (N, M)) : GX X t d r M' pc L (.inr (.inr (19, i)) :: st) (N, M) := G_get (ci := 8) (k0 := 10) inT_8 rfl (by rw [ht]; exact tbm 695 (by decide +kernel) rfl) (by decide) hi rfl (by decide) rfl (by decide) (by rw [← hv]; rfl) hdg k
set_option maxRecDepth 100000 in
theorem fg_X8_78 {i : Nat} {v : Int32} (hv : M 19 i 13 = v) (ht : t.1 = RX8) (hi : i < 1) (hdg : decode t.2.2.1 pc = .ok (.getfield 78, 3)) (k : GX X t d r M' (pc + 3) L (.inl v :: st) (N, M)) : GX X t d r M' pc L (.inr (.inr (19, i)) :: st) (N, M) := G_get (ci := 8) (k0 := 13) inT_8 rfl (by rw [ht]; exact tbm 698 (by decide +kernel) rfl) (by decide) hi rfl (by decide) rfl (by decide) (by rw [← hv]; rfl) hdg k
set_option maxRecDepth 100000 in
theorem fg_X8_104 {i : Nat} {v : Int32} (hv : M 19 i 9 = v) (ht : t.1 = RX8) (hi : i < 1) (hdg : decode t.2.2.1 pc = .ok (.getfield 104, 3)) (k : GX X t d r M' (pc + 3) L (.inl v :: st) (N, M)) : GX X t d r M' pc L (.inr (.inr (19, i)) :: st) (N, M) := G_get (ci := 8) (k0 := 9) inT_8 rfl (by rw [ht]; exact tbm 694 (by decide +kernel) rfl) (by decide) hi rfl (by decide) rfl (by decide) (by rw [← hv]; rfl) hdg k
set_option maxRecDepth 100000 in
theorem fg_X8_229 {i : Nat} {v : Int32} (hv : M 19 i 16 = v) (ht : t.1 = RX8) (hi : i < 1) (hdg : decode t.2.2.1 pc = .ok (.getfield 229, 3)) (k : GX X t d r M' (pc + 3) L (.inl v :: st) (N, M)) : GX X t d r M' pc L (.inr (.inr (19, i)) :: st) (N, M) := G_get (ci := 8) (k0 := 16) inT_8 rfl (by rw [ht]; exact tbm 701 (by decide +kernel) rfl) (by decide) hi rfl (by decide) rfl (by decide) (by rw [← hv]; rfl) hdg k
set_option maxRecDepth 100000 in
theorem fg_X8_235 {i : Nat} {v : Int32} (hv : M 19 i 17 = v) (ht : t.1 = RX8) (hi : i < 1) (hdg : decode t.2.2.1 pc = .ok (.getfield 235, 3)) (k : GX X t d r M' (pc + 3) L (.inl v :: st) (N, M)) : GX X t d r M' pc L (.inr (.inr (19, i)) :: st) (N, M) := G_get (ci := 8) (k0 := 17) inT_8 rfl (by rw [ht]; exact tbm 702 (by decide +kernel) rfl) (by decide) hi rfl (by decide) rfl (by decide) (by rw [← hv]; rfl) hdg k
set_option maxRecDepth 100000 in
theorem fg_X8_252 {i : Nat} {v : Int32} (hv : M 19 i 3 = v) (ht : t.1 = RX8) (hi : i < 1) (hdg : decode t.2.2.1 pc = .ok (.getfield 252, 3)) (k : GX X t d r M' (pc + 3) L (.inl v :: st) (N, M)) : GX X t d r M' pc L (.inr (.inr (19, i)) :: st) (N, M) := G_get (ci := 8) (k0 := 3) inT_8 rfl (by rw [ht]; exact tbm 688 (by decide +kernel) rfl) (by decide) hi rfl (by decide) rfl (by decide) (by rw [← hv]; rfl) hdg k
set_option maxRecDepth 100000 in
theorem fp_X7_83 {i : Nat} {v : Int32} (ht : t.1 = RX7) (hi : i < 3) (hdg : decode t.2.2.1 pc = .ok (.putfield 83, 3)) (k : GX X t d r M' (pc + 3) L st (up3 M 1 i 5 v, N)) : GX X t d r M' pc L (.inl v :: .inr (.inr (1, i)) :: st) (M, N) := G_put (ci := 1) (k0 := 5) (ty0 := tyX1) inT_1 tyX1_ok nmX1 rfl (by rw [ht]; exact tbm 103 (by decide +kernel) rfl) (by decide) hi rfl (by decide) rfl (by decide) rfl (Or.inl ⟨rfl, rfl⟩) rfl rfl hdg k
set_option maxRecDepth 100000 in
theorem fp_X7_100 {i : Nat} {v : Int32} (ht : t.1 = RX7) (hi : i < 30) (hdg : decode t.2.2.1 pc = .ok (.putfield 100, 3)) (k : GX X t d r M' (pc + 3) L st (up3 M 3 i 0 v, N)) : GX X t d r M' pc L (.inl v :: .inr (.inr (3, i)) :: st) (M, N) := G_put (ci := 3) (k0 := 0) (ty0 := tyX3) inT_3 tyX3_ok nmX3 rfl (by rw [ht]; exact tbm 57 (by decide +kernel) rfl) (by decide) hi rfl (by decide) rfl (by decide) rfl (Or.inl ⟨rfl, rfl⟩) rfl rfl hdg k
set_option maxRecDepth 100000 in
theorem fp_X7_103 {i : Nat} {v : Int32} (ht : t.1 = RX7) (hi : i < 30) (hdg : decode t.2.2.1 pc = .ok (.putfield 103, 3)) (k : GX X t d r M' (pc + 3) L st (up3 M 3 i 1 v, N)) : GX X t d r M' pc L (.inl v :: .inr (.inr (3, i)) :: st) (M, N) := G_put (ci := 3) (k0 := 1) (ty0 := tyX3) inT_3 tyX3_ok nmX3 rfl (by rw [ht]; exact tbm 60 (by decide +kernel) rfl) (by decide) hi rfl (by decide) rfl (by decide) rfl (Or.inl ⟨rfl, rfl⟩) rfl rfl hdg k
set_option maxRecDepth 100000 in
theorem fp_X7_106 {i : Nat} {v : Int32} (ht : t.1 = RX7) (hi : i < 30) (hdg : decode t.2.2.1 pc = .ok (.putfield 106, 3)) (k : GX X t d r M' (pc + 3) L st (up3 M 3 i 2 v, N)) : GX X t d r M' pc L (.inl v :: .inr (.inr (3, i)) :: st) (M, N) := G_put (ci := 3) (k0 := 2) (ty0 := tyX3) inT_3 tyX3_ok nmX3 rfl (by rw [ht]; exact tbm 62 (by decide +kernel) rfl) (by decide) hi rfl (by decide) rfl (by decide) rfl (Or.inl ⟨rfl, rfl⟩) rfl rfl hdg k
set_option maxRecDepth 100000 in
theorem fp_X7_109 {i : Nat} {v : Int32} (ht : t.1 = RX7) (hi : i < 30) (hdg : decode t.2.2.1 pc = .ok (.putfield 109, 3)) (k : GX X t d r M' (pc + 3) L st (up3 M 3 i 3 v, N)) : GX X t d r M' pc L (.inl v :: .inr (.inr (3, i)) :: st) (M, N) := G_put (ci := 3) (k0 := 3) (ty0 := tyX3) inT_3 tyX3_ok nmX3 rfl (by rw [ht]; exact tbm 65 (by decide +kernel) rfl) (by decide) hi rfl (by decide) rfl (by decide) rfl (Or.inl ⟨rfl, rfl⟩) rfl rfl hdg k
set_option maxRecDepth 100000 in
theorem fp_X7_112 {i : Nat} {v : Int32} (ht : t.1 = RX7) (hi : i < 30) (hdg : decode t.2.2.1 pc = .ok (.putfield 112, 3)) (k : GX X t d r M' (pc + 3) L st (up3 M 3 i 4 v, N)) : GX X t d r M' pc L (.inl v :: .inr (.inr (3, i)) :: st) (M, N) := G_put (ci := 3) (k0 := 4) (ty0 := tyX3) inT_3 tyX3_ok nmX3 rfl (by rw [ht]; exact tbm 68 (by decide +kernel) rfl) (by decide) hi rfl (by decide) rfl (by decide) rfl (Or.inl ⟨rfl, rfl⟩) rfl rfl hdg k
set_option maxRecDepth 100000 in
theorem fp_X7_115 {i : Nat} {v : Int32} (ht : t.1 = RX7) (hi : i < 30) (hdg : decode t.2.2.1 pc = .ok (.putfield 115, 3)) (k : GX X t d r M' (pc + 3) L st (up3 M 3 i 5 v, N)) : GX X t d r M' pc L (.inl v :: .inr (.inr (3, i)) :: st) (M, N) := G_put (ci := 3) (k0 := 5) (ty0 := tyX3) inT_3 tyX3_ok nmX3 rfl (by rw [ht]; exact tbm 70 (by decide +kernel) rfl) (by decide) hi rfl (by decide) rfl (by decide) rfl (Or.inl ⟨rfl, rfl⟩) rfl rfl hdg k
set_option maxRecDepth 100000 in
theorem fp_X7_146 {i : Nat} {v : Int32} (ht : t.1 = RX7) (hi : i < 2) (hdg : decode t.2.2.1 pc = .ok (.putfield 146, 3)) (k : GX X t d r M' (pc + 3) L st (up3 M 0 i 2 v, N)) : GX X t d r M' pc L (.inl v :: .inr (.inr (0, i)) :: st) (M, N) := G_put (ci := 0) (k0 := 2) (ty0 := tyX0) inT_0 tyX0_ok nmX0 rfl (by rw [ht]; exact tbm 138 (by decide +kernel) rfl) (by decide) hi rfl (by decide) rfl (by decide) rfl (Or.inl ⟨rfl, rfl⟩) rfl rfl hdg k
set_option maxRecDepth 100000 in
theorem fp_X7_237 {i : Nat} {v : Int32} (ht : t.1 = RX7) (hi : i < 2) (hdg : decode t.2.2.1 pc = .ok (.putfield 237, 3)) (k : GX X t d r M' (pc + 3) L st (up3 M 0 i 4 v, N)) : GX X t d r M' pc L (.inl v :: .inr (.inr (0, i)) :: st) (M, N) := G_put (ci := 0) (k0 := 4) (ty0 := tyX0) inT_0 tyX0_ok nmX0 rfl (by rw [ht]; exact tbm 142 (by decide +kernel) rfl) (by decide) hi rfl (by decide) rfl (by decide) rfl (Or.inl ⟨rfl, rfl⟩) rfl rfl hdg k
set_option maxRecDepth 100000 in
theorem fp_X7_279 {i : Nat} {v : Int32} (ht : t.1 = RX7) (hi : i < 1) (hdg : decode t.2.2.1 pc = .ok (.putfield 279, 3)) (k : GX X t d r M' (pc + 3) L st (up3 M 7 i 9 v, N)) : GX X t d r M' pc L (.inl v :: .inr (.inr (7, i)) :: st) (M, N) := G_put (ci := 7) (k0 := 9) (ty0 := tyX7) inT_7 tyX7_ok nmX7 rfl (by rw [ht]; exact tbm 231 (by decide +kernel) rfl) (by decide) hi rfl (by decide) rfl (by decide) rfl (Or.inl ⟨rfl, rfl⟩) rfl rfl hdg k
set_option maxRecDepth 100000 in
theorem fp_X7_282 {i : Nat} {v : Int32} (ht : t.1 = RX7) (hi : i < 2) (hdg : decode t.2.2.1 pc = .ok (.putfield 282, 3)) (k : GX X t d r M' (pc + 3) L st (up3 M 0 i 3 v, N)) : GX X t d r M' pc L (.inl v :: .inr (.inr (0, i)) :: st) (M, N) := G_put (ci := 0) (k0 := 3) (ty0 := tyX0) inT_0 tyX0_ok nmX0 rfl (by rw [ht]; exact tbm 140 (by decide +kernel) rfl) (by decide) hi rfl (by decide) rfl (by decide) rfl (Or.inl ⟨rfl, rfl⟩) rfl rfl hdg k
set_option maxRecDepth 100000 in
theorem fp_X0_19 {i : Nat} {v : Int32} (ht : t.1 = RX0) (hi : i < 2) (hdg : decode t.2.2.1 pc = .ok (.putfield 19, 3)) (k : GX X t d r M' (pc + 3) L st (up3 M 0 i 4 v, N)) : GX X t d r M' pc L (.inl v :: .inr (.inr (0, i)) :: st) (M, N) := G_put (ci := 0) (k0 := 4) (ty0 := tyX0) inT_0 tyX0_ok nmX0 rfl (by rw [ht]; exact tbm 141 (by decide +kernel) rfl) (by decide) hi rfl (by decide) rfl (by decide) rfl (Or.inl ⟨rfl, rfl⟩) rfl rfl hdg k
set_option maxRecDepth 100000 in
theorem fp_X0_29 {i : Nat} {v : Int32} (ht : t.1 = RX0) (hi : i < 2) (hdg : decode t.2.2.1 pc = .ok (.putfield 29, 3)) (k : GX X t d r M' (pc + 3) L st (up3 M 0 i 2 v, N)) : GX X t d r M' pc L (.inl v :: .inr (.inr (0, i)) :: st) (M, N) := G_put (ci := 0) (k0 := 2) (ty0 := tyX0) inT_0 tyX0_ok nmX0 rfl (by rw [ht]; exact tbm 136 (by decide +kernel) rfl) (by decide) hi rfl (by decide) rfl (by decide) rfl (Or.inl ⟨rfl, rfl⟩) rfl rfl hdg k
set_option maxRecDepth 100000 in
theorem fp_X0_32 {i : Nat} {v : Int32} (ht : t.1 = RX0) (hi : i < 2) (hdg : decode t.2.2.1 pc = .ok (.putfield 32, 3)) (k : GX X t d r M' (pc + 3) L st (up3 M 0 i 3 v, N)) : GX X t d r M' pc L (.inl v :: .inr (.inr (0, i)) :: st) (M, N) := G_put (ci := 0) (k0 := 3) (ty0 := tyX0) inT_0 tyX0_ok nmX0 rfl (by rw [ht]; exact tbm 139 (by decide +kernel) rfl) (by decide) hi rfl (by decide) rfl (by decide) rfl (Or.inl ⟨rfl, rfl⟩) rfl rfl hdg k
set_option maxRecDepth 100000 in
theorem fp_X1_47 {i : Nat} {v : Int32} (ht : t.1 = RX1) (hi : i < 3) (hdg : decode t.2.2.1 pc = .ok (.putfield 47, 3)) (k : GX X t d r M' (pc + 3) L st (up3 M 1 i 5 v, N)) : GX X t d r M' pc L (.inl v :: .inr (.inr (1, i)) :: st) (M, N) := G_put (ci := 1) (k0 := 5) (ty0 := tyX1) inT_1 tyX1_ok nmX1 rfl (by rw [ht]; exact tbm 102 (by decide +kernel) rfl) (by decide) hi rfl (by decide) rfl (by decide) rfl (Or.inl ⟨rfl, rfl⟩) rfl rfl hdg k
set_option maxRecDepth 100000 in
theorem fp_X1_58 {i : Nat} {v : Int32} (ht : t.1 = RX1) (hi : i < 3) (hdg : decode t.2.2.1 pc = .ok (.putfield 58, 3)) (k : GX X t d r M' (pc + 3) L st (up3 M 1 i 6 v, N)) : GX X t d r M' pc L (.inl v :: .inr (.inr (1, i)) :: st) (M, N) := G_put (ci := 1) (k0 := 6) (ty0 := tyX1) inT_1 tyX1_ok nmX1 rfl (by rw [ht]; exact tbm 104 (by decide +kernel) rfl) (by decide) hi rfl (by decide) rfl (by decide) rfl (Or.inl ⟨rfl, rfl⟩) rfl rfl hdg k
set_option maxRecDepth 100000 in
theorem fp_X1_61 {i : Nat} {v : Int32} (ht : t.1 = RX1) (hi : i < 3) (hdg : decode t.2.2.1 pc = .ok (.putfield 61, 3)) (k : GX X t d r M' (pc + 3) L st (up3 M 1 i 7 v, N)) : GX X t d r M' pc L (.inl v :: .inr (.inr (1, i)) :: st) (M, N) := G_put (ci := 1) (k0 := 7) (ty0 := tyX1) inT_1 tyX1_ok nmX1 rfl (by rw [ht]; exact tbm 106 (by decide +kernel) rfl) (by decide) hi rfl (by decide) rfl (by decide) rfl (Or.inl ⟨rfl, rfl⟩) rfl rfl hdg k
set_option maxRecDepth 100000 in
theorem fp_X1_85 {i : Nat} {v : Int32} (ht : t.1 = RX1) (hi : i < 30) (hdg : decode t.2.2.1 pc = .ok (.putfield 85, 3)) (k : GX X t d r M' (pc + 3) L st (up3 M 3 i 2 v, N)) : GX X t d r M' pc L (.inl v :: .inr (.inr (3, i)) :: st) (M, N) := G_put (ci := 3) (k0 := 2) (ty0 := tyX3) inT_3 tyX3_ok nmX3 rfl (by rw [ht]; exact tbm 63 (by decide +kernel) rfl) (by decide) hi rfl (by decide) rfl (by decide) rfl (Or.inl ⟨rfl, rfl⟩) rfl rfl hdg k
set_option maxRecDepth 100000 in
theorem fp_X2_18 {i : Nat} {v : Int32} (ht : t.1 = RX2) (hi : i < 7) (hdg : decode t.2.2.1 pc = .ok (.putfield 18, 3)) (k : GX X t d r M' (pc + 3) L st (up3 M 2 i 2 v, N)) : GX X t d r M' pc L (.inl v :: .inr (.inr (2, i)) :: st) (M, N) := G_put (ci := 2) (k0 := 2) (ty0 := tyX2) inT_2 tyX2_ok nmX2 rfl (by rw [ht]; exact tbm 38 (by decide +kernel) rfl) (by decide) hi rfl (by decide) rfl (by decide) rfl (Or.inl ⟨rfl, rfl⟩) rfl rfl hdg k
set_option maxRecDepth 100000 in
theorem fp_X3_9 {i : Nat} {v : Int32} (ht : t.1 = RX3) (hi : i < 30) (hdg : decode t.2.2.1 pc = .ok (.putfield 9, 3)) (k : GX X t d r M' (pc + 3) L st (up3 M 3 i 0 v, N)) : GX X t d r M' pc L (.inl v :: .inr (.inr (3, i)) :: st) (M, N) := G_put (ci := 3) (k0 := 0) (ty0 := tyX3) inT_3 tyX3_ok nmX3 rfl (by rw [ht]; exact tbm 55 (by decide +kernel) rfl) (by decide) hi rfl (by decide) rfl (by decide) rfl (Or.inl ⟨rfl, rfl⟩) rfl rfl hdg k
set_option maxRecDepth 100000 in
theorem fp_X3_15 {i : Nat} {v : Int32} (ht : t.1 = RX3) (hi : i < 30) (hdg : decode t.2.2.1 pc = .ok (.putfield 15, 3)) (k : GX X t d r M' (pc + 3) L st (up3 M 3 i 1 v, N)) : GX X t d r M' pc L (.inl v :: .inr (.inr (3, i)) :: st) (M, N) := G_put (ci := 3) (k0 := 1) (ty0 := tyX3) inT_3 tyX3_ok nmX3 rfl (by rw [ht]; exact tbm 58 (by decide +kernel) rfl) (by decide) hi rfl (by decide) rfl (by decide) rfl (Or.inl ⟨rfl, rfl⟩) rfl rfl hdg k
set_option maxRecDepth 100000 in
theorem fp_X3_18 {i : Nat} {v : Int32} (ht : t.1 = RX3) (hi : i < 30) (hdg : decode t.2.2.1 pc = .ok (.putfield 18, 3)) (k : GX X t d r M' (pc + 3) L st (up3 M 3 i 2 v, N)) : GX X t d r M' pc L (.inl v :: .inr (.inr (3, i)) :: st) (M, N) := G_put (ci := 3) (k0 := 2) (ty0 := tyX3) inT_3 tyX3_ok nmX3 rfl (by rw [ht]; exact tbm 61 (by decide +kernel) rfl) (by decide) hi rfl (by decide) rfl (by decide) rfl (Or.inl ⟨rfl, rfl⟩) rfl rfl hdg k
set_option maxRecDepth 100000 in
theorem fp_X3_21 {i : Nat} {v : Int32} (ht : t.1 = RX3) (hi : i < 30) (hdg : decode t.2.2.1 pc = .ok (.putfield 21, 3)) (k : GX X t d r M' (pc + 3) L st (up3 M 3 i 3 v, N)) : GX X t d r M' pc L (.inl v :: .inr (.inr (3, i)) :: st) (M, N) := G_put (ci := 3) (k0 := 3) (ty0 := tyX3) inT_3 tyX3_ok nmX3 rfl (by rw [ht]; exact tbm 64 (by decide +kernel) rfl) (by decide) hi rfl (by decide) rfl (by decide) rfl (Or.inl ⟨rfl, rfl⟩) rfl rfl hdg k
set_option maxRecDepth 100000 in
theorem fp_X3_24 {i : Nat} {v : Int32} (ht : t.1 = RX3) (hi : i < 30) (hdg : decode t.2.2.1 pc = .ok (.putfield 24, 3)) (k : GX X t d r M' (pc + 3) L st (up3 M 3 i 4 v, N)) : GX X t d r M' pc L (.inl v :: .inr (.inr (3, i)) :: st) (M, N) := G_put (ci := 3) (k0 := 4) (ty0 := tyX3) inT_3 tyX3_ok nmX3 rfl (by rw [ht]; exact tbm 67 (by decide +kernel) rfl) (by decide) hi rfl (by decide) rfl (by decide) rfl (Or.inl ⟨rfl, rfl⟩) rfl rfl hdg k
set_option maxRecDepth 100000 in
theorem fp_X3_27 {i : Nat} {v : Int32} (ht : t.1 = RX3) (hi : i < 30) (hdg : decode t.2.2.1 pc = .ok (.putfield 27, 3)) (k : GX X t d r M' (pc + 3) L st (up3 M 3 i 5 v, N)) : GX X t d r M' pc L (.inl v :: .inr (.inr (3, i)) :: st) (M, N) := G_put (ci := 3) (k0 := 5) (ty0 := tyX3) inT_3 tyX3_ok nmX3 rfl (by rw [ht]; exact tbm 69 (by decide +kernel) rfl) (by decide) hi rfl (by decide) rfl (by decide) rfl (Or.inl ⟨rfl, rfl⟩) rfl rfl hdg k
set_option maxRecDepth 100000 in
theorem fp_X3_30 {i : Nat} {v : Int32} (ht : t.1 = RX3) (hi : i < 30) (hdg : decode t.2.2.1 pc = .ok (.putfield 30, 3)) (k : GX X t d r M' (pc + 3) L st (up3 M 3 i 6 v, N)) : GX X t d r M' pc L (.inl v :: .inr (.inr (3, i)) :: st) (M, N) := G_put (ci := 3) (k0 := 6) (ty0 := tyX3) inT_3 tyX3_ok nmX3 rfl (by rw [ht]; exact tbm 71 (by decide +kernel) rfl) (by decide) hi rfl (by decide) rfl (by decide) rfl (Or.inl ⟨rfl, rfl⟩) rfl rfl hdg k
set_option maxRecDepth 100000 in
theorem fp_X3_33 {i : Nat} {v : Int32} (hz : nbZ v = v) (ht : t.1 = RX3) (hi : i < 30) (hdg : decode t.2.2.1 pc = .ok (.putfield 33, 3)) (k : GX X t d r M' (pc + 3) L st (up3 M 3 i 7 v, N)) : GX X t d r M' pc L (.inl v :: .inr (.inr (3, i)) :: st) (M, N) := G_put (ci := 3) (k0 := 7) (ty0 := tyX3) inT_3 tyX3_ok nmX3 rfl (by rw [ht]; exact tbm 74 (by decide +kernel) rfl) (by decide) hi rfl (by decide) rfl (by decide) rfl (Or.inr ⟨hz, rfl⟩) rfl rfl hdg k
set_option maxRecDepth 100000 in
theorem fp_X4_22 {i : Nat} {v : Int32} (ht : t.1 = RX4) (hi : i < 1) (hdg : decode t.2.2.1 pc = .ok (.putfield 22, 3)) (k : GX X t d r M' (pc + 3) L st (up3 M 4 i 2 v, N)) : GX X t d r M' pc L (.inl v :: .inr (.inr (4, i)) :: st) (M, N) := G_put (ci := 4) (k0 := 2) (ty0 := tyX4) inT_4 tyX4_ok nmX4 rfl (by rw [ht]; exact tbm 166 (by decide +kernel) rfl) (by decide) hi rfl (by decide) rfl (by decide) rfl (Or.inl ⟨rfl, rfl⟩) rfl rfl hdg k
set_option maxRecDepth 100000 in
theorem fp_X4_26 {i : Nat} {v : Int32} (ht : t.1 = RX4) (hi : i < 1) (hdg : decode t.2.2.1 pc = .ok (.putfield 26, 3)) (k : GX X t d r M' (pc + 3) L st (up3 M 4 i 3 v, N)) : GX X t d r M' pc L (.inl v :: .inr (.inr (4, i)) :: st) (M, N) := G_put (ci := 4) (k0 := 3) (ty0 := tyX4) inT_4 tyX4_ok nmX4 rfl (by rw [ht]; exact tbm 167 (by decide +kernel) rfl) (by decide) hi rfl (by decide) rfl (by decide) rfl (Or.inl ⟨rfl, rfl⟩) rfl rfl hdg k
set_option maxRecDepth 100000 in
theorem fp_X5_15 {i : Nat} {v : Int32} (ht : t.1 = RX5) (hi : i < 4) (hdg : decode t.2.2.1 pc = .ok (.putfield 15, 3)) (k : GX X t d r M' (pc + 3) L st (up3 M 5 i 1 v, N)) : GX X t d r M' pc L (.inl v :: .inr (.inr (5, i)) :: st) (M, N) := G_put (ci := 5) (k0 := 1) (ty0 := tyX5) inT_5 tyX5_ok nmX5 rfl (by rw [ht]; exact tbm 211 (by decide +kernel) rfl) (by decide) hi rfl (by decide) rfl (by decide) rfl (Or.inl ⟨rfl, rfl⟩) rfl rfl hdg k
set_option maxRecDepth 100000 in
theorem fp_X5_19 {i : Nat} {v : Int32} (ht : t.1 = RX5) (hi : i < 4) (hdg : decode t.2.2.1 pc = .ok (.putfield 19, 3)) (k : GX X t d r M' (pc + 3) L st (up3 M 5 i 2 v, N)) : GX X t d r M' pc L (.inl v :: .inr (.inr (5, i)) :: st) (M, N) := G_put (ci := 5) (k0 := 2) (ty0 := tyX5) inT_5 tyX5_ok nmX5 rfl (by rw [ht]; exact tbm 213 (by decide +kernel) rfl) (by decide) hi rfl (by decide) rfl (by decide) rfl (Or.inl ⟨rfl, rfl⟩) rfl rfl hdg k
set_option maxRecDepth 100000 in
theorem fp_X6_15 {i : Nat} {v : Int32} (ht : t.1 = RX6) (hi : i < 1) (hdg : decode t.2.2.1 pc = .ok (.putfield 15, 3)) (k : GX X t d r M' (pc + 3) L st (up3 M 6 i 1 v, N)) : GX X t d r M' pc L (.inl v :: .inr (.inr (6, i)) :: st) (M, N) := G_put (ci := 6) (k0 := 1) (ty0 := tyX6) inT_6 tyX6_ok nmX6 rfl (by rw [ht]; exact tbm 186 (by decide +kernel) rfl) (by decide) hi rfl (by decide) rfl (by decide) rfl (Or.inl ⟨rfl, rfl⟩) rfl rfl hdg k
set_option maxRecDepth 100000 in
theorem fp_X6_24 {i : Nat} {v : Int32} (ht : t.1 = RX6) (hi : i < 1) (hdg : decode t.2.2.1 pc = .ok (.putfield 24, 3)) (k : GX X t d r M' (pc + 3) L st (up3 M 6 i 2 v, N)) : GX X t d r M' pc L (.inl v :: .inr (.inr (6, i)) :: st) (M, N) := G_put (ci := 6) (k0 := 2) (ty0 := tyX6) inT_6 tyX6_ok nmX6 rfl (by rw [ht]; exact tbm 188 (by decide +kernel) rfl) (by decide) hi rfl (by decide) rfl (by decide) rfl (Or.inl ⟨rfl, rfl⟩) rfl rfl hdg k
set_option maxRecDepth 100000 in
theorem fp_X6_25 {i : Nat} {v : Int32} (ht : t.1 = RX6) (hi : i < 1) (hdg : decode t.2.2.1 pc = .ok (.putfield 25, 3)) (k : GX X t d r M' (pc + 3) L st (up3 M 6 i 3 v, N)) : GX X t d r M' pc L (.inl v :: .inr (.inr (6, i)) :: st) (M, N) := G_put (ci := 6) (k0 := 3) (ty0 := tyX6) inT_6 tyX6_ok nmX6 rfl (by rw [ht]; exact tbm 189 (by decide +kernel) rfl) (by decide) hi rfl (by decide) rfl (by decide) rfl (Or.inl ⟨rfl, rfl⟩) rfl rfl hdg k
set_option maxRecDepth 100000 in
theorem fp_X6_31 {i : Nat} {v : Int32} (ht : t.1 = RX6) (hi : i < 1) (hdg : decode t.2.2.1 pc = .ok (.putfield 31, 3)) (k : GX X t d r M' (pc + 3) L st (up3 M 6 i 4 v, N)) : GX X t d r M' pc L (.inl v :: .inr (.inr (6, i)) :: st) (M, N) := G_put (ci := 6) (k0 := 4) (ty0 := tyX6) inT_6 tyX6_ok nmX6 rfl (by rw [ht]; exact tbm 190 (by decide +kernel) rfl) (by decide) hi rfl (by decide) rfl (by decide) rfl (Or.inl ⟨rfl, rfl⟩) rfl rfl hdg k
set_option maxRecDepth 100000 in
theorem fp_X8_57 {i : Nat} {v : Int32} (ht : t.1 = RX8) (hi : i < 1) (hdg : decode t.2.2.1 pc = .ok (.putfield 57, 3)) (k : GX X t d r M' (pc + 3) L st (N, up3 M 19 i 6 v)) : GX X t d r M' pc L (.inl v :: .inr (.inr (19, i)) :: st) (N, M) := G_put (ci := 8) (k0 := 6) (ty0 := tyX8) inT_8 tyX8_ok nmX8 rfl (by rw [ht]; exact tbm 691 (by decide +kernel) rfl) (by decide) hi rfl (by decide) rfl (by decide) rfl (Or.inl ⟨rfl, rfl⟩) rfl rfl hdg k
set_option maxRecDepth 100000 in
theorem fp_X8_61 {i : Nat} {v : Int32} (ht : t.1 = RX8) (hi : i < 1) (hdg : decode t.2.2.1 pc = .ok (.putfield 61, 3)) (k : GX X t d r M' (pc + 3) L st (N, up3 M 19 i 7 v)) : GX X t d r M' pc L (.inl v :: .inr (.inr (19, i)) :: st) (N, M) := G_put (ci := 8) (k0 := 7) (ty0 := tyX8) inT_8 tyX8_ok nmX8 rfl (by rw [ht]; exact tbm 692 (by decide +kernel) rfl) (by decide) hi rfl (by decide) rfl (by decide) rfl (Or.inl ⟨rfl, rfl⟩) rfl rfl hdg k
set_option maxRecDepth 100000 in
theorem fp_X8_64 {i : Nat} {v : Int32} (ht : t.1 = RX8) (hi : i < 1) (hdg : decode t.2.2.1 pc = .ok (.putfield 64, 3)) (k : GX X t d r M' (pc + 3) L st (N, up3 M 19 i 8 v)) : GX X t d r M' pc L (.inl v :: .inr (.inr (19, i)) :: st) (N, M) := G_put (ci := 8) (k0 := 8) (ty0 := tyX8) inT_8 tyX8_ok nmX8 rfl (by rw [ht]; exact tbm 693 (by decide +kernel) rfl) (by decide) hi rfl (by decide) rfl (by decide) rfl (Or.inl ⟨rfl, rfl⟩) rfl rfl hdg k
set_option maxRecDepth 100000 in
theorem fp_X8_67 {i : Nat} {v : Int32} (ht : t.1 = RX8) (hi : i < 1) (hdg : decode t.2.2.1 pc = .ok (.putfield 67, 3)) (k : GX X t d r M' (pc + 3) L st (N, up3 M 19 i 5 v)) : GX X t d r M' pc L (.inl v :: .inr (.inr (19, i)) :: st) (N, M) := G_put (ci := 8) (k0 := 5) (ty0 := tyX8) inT_8 tyX8_ok nmX8 rfl (by rw [ht]; exact tbm 690 (by decide +kernel) rfl) (by decide) hi rfl (by decide) rfl (by decide) rfl (Or.inl ⟨rfl, rfl⟩) rfl rfl hdg k
set_option maxRecDepth 100000 in
theorem fp_X8_74 {i : Nat} {v : Int32} (hz : nbZ v = v) (ht : t.1 = RX8) (hi : i < 1) (hdg : decode t.2.2.1 pc = .ok (.putfield 74, 3)) (k : GX X t d r M' (pc + 3) L st (N, up3 M 19 i 10 v)) : GX X t d r M' pc L (.inl v :: .inr (.inr (19, i)) :: st) (N, M) := G_put (ci := 8) (k0 := 10) (ty0 := tyX8) inT_8 tyX8_ok nmX8 rfl (by rw [ht]; exact tbm 695 (by decide +kernel) rfl) (by decide) hi rfl (by decide) rfl (by decide) rfl (Or.inr ⟨hz, rfl⟩) rfl rfl hdg k
set_option maxRecDepth 100000 in
theorem fp_X8_78 {i : Nat} {v : Int32} (ht : t.1 = RX8) (hi : i < 1) (hdg : decode t.2.2.1 pc = .ok (.putfield 78, 3)) (k : GX X t d r M' (pc + 3) L st (N, up3 M 19 i 13 v)) : GX X t d r M' pc L (.inl v :: .inr (.inr (19, i)) :: st) (N, M) := G_put (ci := 8) (k0 := 13) (ty0 := tyX8) inT_8 tyX8_ok nmX8 rfl (by rw [ht]; exact tbm 698 (by decide +kernel) rfl) (by decide) hi rfl (by decide) rfl (by decide) rfl (Or.inl ⟨rfl, rfl⟩) rfl rfl hdg k
set_option maxRecDepth 100000 in
theorem fp_X8_104 {i : Nat} {v : Int32} (ht : t.1 = RX8) (hi : i < 1) (hdg : decode t.2.2.1 pc = .ok (.putfield 104, 3)) (k : GX X t d r M' (pc + 3) L st (N, up3 M 19 i 9 v)) : GX X t d r M' pc L (.inl v :: .inr (.inr (19, i)) :: st) (N, M) := G_put (ci := 8) (k0 := 9) (ty0 := tyX8) inT_8 tyX8_ok nmX8 rfl (by rw [ht]; exact tbm 694 (by decide +kernel) rfl) (by decide) hi rfl (by decide) rfl (by decide) rfl (Or.inl ⟨rfl, rfl⟩) rfl rfl hdg k
set_option maxRecDepth 100000 in
theorem fp_X8_229 {i : Nat} {v : Int32} (ht : t.1 = RX8) (hi : i < 1) (hdg : decode t.2.2.1 pc = .ok (.putfield 229, 3)) (k : GX X t d r M' (pc + 3) L st (N, up3 M 19 i 16 v)) : GX X t d r M' pc L (.inl v :: .inr (.inr (19, i)) :: st) (N, M) := G_put (ci := 8) (k0 := 16) (ty0 := tyX8) inT_8 tyX8_ok nmX8 rfl (by rw [ht]; exact tbm 701 (by decide +kernel) rfl) (by decide) hi rfl (by decide) rfl (by decide) rfl (Or.inl ⟨rfl, rfl⟩) rfl rfl hdg k
set_option maxRecDepth 100000 in
theorem fp_X8_235 {i : Nat} {v : Int32} (ht : t.1 = RX8) (hi : i < 1) (hdg : decode t.2.2.1 pc = .ok (.putfield 235, 3)) (k : GX X t d r M' (pc + 3) L st (N, up3 M 19 i 17 v)) : GX X t d r M' pc L (.inl v :: .inr (.inr (19, i)) :: st) (N, M) := G_put (ci := 8) (k0 := 17) (ty0 := tyX8) inT_8 tyX8_ok nmX8 rfl (by rw [ht]; exact tbm 702 (by decide +kernel) rfl) (by decide) hi rfl (by decide) rfl (by decide) rfl (Or.inl ⟨rfl, rfl⟩) rfl rfl hdg k
set_option maxRecDepth 100000 in
theorem fp_X8_252 {i : Nat} {v : Int32} (ht : t.1 = RX8) (hi : i < 1) (hdg : decode t.2.2.1 pc = .ok (.putfield 252, 3)) (k : GX X t d r M' (pc + 3) L st (N, up3 M 19 i 3 v)) : GX X t d r M' pc L (.inl v :: .inr (.inr (19, i)) :: st) (N, M) := G_put (ci := 8) (k0 := 3) (ty0 := tyX8) inT_8 tyX8_ok nmX8 rfl (by rw [ht]; exact tbm 688 (by decide +kernel) rfl) (by decide) hi rfl (by decide) rfl (by decide) rfl (Or.inl ⟨rfl, rfl⟩) rfl rfl hdg k
theorem al_8 {i kk : Nat} {x v : Int32} (hi : i < 2) (hin : ib x 50 = true) (hk : x.toNatClampNeg = kk) (hv : nbB (M 8 i kk) = v) (hdg : decode t.2.2.1 pc = .ok (.baload, 1)) (k : GX X t d r M' (pc + 1) L (.inl v :: st) (M, N)) : GX X t d r M' pc L (.inl x :: .inr (.inr (8, i)) :: st) (M, N) := G_bald (by decide) hi (by decide) rfl hin (by rw [hk, ← hv]; rfl) hdg k
theorem as_8 {i kk : Nat} {x v : Int32} (hi : i < 2) (hin : ib x 50 = true) (hk : x.toNatClampNeg = kk) (hdg : decode t.2.2.1 pc = .ok (.bastore, 1)) (k : GX X t d r M' (pc + 1) L st (up3 M 8 i kk v, N)) : GX X t d r M' pc L (.inl v :: .inl x :: .inr (.inr (8, i)) :: st) (M, N) := G_bast (by decide) hi (by decide) rfl hin (by rw [hk]; rfl) hdg k
theorem al_9 {i kk : Nat} {x v : Int32} (hi : i < 2) (hin : ib x 20 = true) (hk : x.toNatClampNeg = kk) (hv : M 9 i kk = v) (hdg : decode t.2.2.1 pc = .ok (.iaload, 1)) (k : GX X t d r M' (pc + 1) L (.inl v :: st) (M, N)) : GX X t d r M' pc L (.inl x :: .inr (.inr (9, i)) :: st) (M, N) := G_iald (by decide) hi (by decide) rfl hin (by rw [hk, ← hv]; rfl) hdg k
theorem as_9 {i kk : Nat} {x v : Int32} (hi : i < 2) (hin : ib x 20 = true) (hk : x.toNatClampNeg = kk) (hdg : decode t.2.2.1 pc = .ok (.iastore, 1)) (k : GX X t d r M' (pc + 1) L st (up3 M 9 i kk v, N)) : GX X t d r M' pc L (.inl v :: .inl x :: .inr (.inr (9, i)) :: st) (M, N) := G_iast (by decide) hi (by decide) rfl hin (by rw [hk]; rfl) hdg k
theorem al_10 {i kk : Nat} {x v : Int32} (hi : i < 3) (hin : ib x 5 = true) (hk : x.toNatClampNeg = kk) (hv : M 10 i kk = v) (hdg : decode t.2.2.1 pc = .ok (.iaload, 1)) (k : GX X t d r M' (pc + 1) L (.inl v :: st) (M, N)) : GX X t d r M' pc L (.inl x :: .inr (.inr (10, i)) :: st) (M, N) := G_iald (by decide) hi (by decide) rfl hin (by rw [hk, ← hv]; rfl) hdg k
theorem as_10 {i kk : Nat} {x v : Int32} (hi : i < 3) (hin : ib x 5 = true) (hk : x.toNatClampNeg = kk) (hdg : decode t.2.2.1 pc = .ok (.iastore, 1)) (k : GX X t d r M' (pc + 1) L st (up3 M 10 i kk v, N)) : GX X t d r M' pc L (.inl v :: .inl x :: .inr (.inr (10, i)) :: st) (M, N) := G_iast (by decide) hi (by decide) rfl hin (by rw [hk]; rfl) hdg k
theorem al_11 {i kk : Nat} {x v : Int32} (hi : i < 3) (hin : ib x 5 = true) (hk : x.toNatClampNeg = kk) (hv : M 11 i kk = v) (hdg : decode t.2.2.1 pc = .ok (.iaload, 1)) (k : GX X t d r M' (pc + 1) L (.inl v :: st) (M, N)) : GX X t d r M' pc L (.inl x :: .inr (.inr (11, i)) :: st) (M, N) := G_iald (by decide) hi (by decide) rfl hin (by rw [hk, ← hv]; rfl) hdg k
theorem as_11 {i kk : Nat} {x v : Int32} (hi : i < 3) (hin : ib x 5 = true) (hk : x.toNatClampNeg = kk) (hdg : decode t.2.2.1 pc = .ok (.iastore, 1)) (k : GX X t d r M' (pc + 1) L st (up3 M 11 i kk v, N)) : GX X t d r M' pc L (.inl v :: .inl x :: .inr (.inr (11, i)) :: st) (M, N) := G_iast (by decide) hi (by decide) rfl hin (by rw [hk]; rfl) hdg k
theorem al_13 {i kk : Nat} {x v : Int32} (hi : i < 7) (hin : ib x 50 = true) (hk : x.toNatClampNeg = kk) (hv : M 13 i kk = v) (hdg : decode t.2.2.1 pc = .ok (.iaload, 1)) (k : GX X t d r M' (pc + 1) L (.inl v :: st) (M, N)) : GX X t d r M' pc L (.inl x :: .inr (.inr (13, i)) :: st) (M, N) := G_iald (by decide) hi (by decide) rfl hin (by rw [hk, ← hv]; rfl) hdg k
theorem as_13 {i kk : Nat} {x v : Int32} (hi : i < 7) (hin : ib x 50 = true) (hk : x.toNatClampNeg = kk) (hdg : decode t.2.2.1 pc = .ok (.iastore, 1)) (k : GX X t d r M' (pc + 1) L st (up3 M 13 i kk v, N)) : GX X t d r M' pc L (.inl v :: .inl x :: .inr (.inr (13, i)) :: st) (M, N) := G_iast (by decide) hi (by decide) rfl hin (by rw [hk]; rfl) hdg k
theorem al_14 {i kk : Nat} {x v : Int32} (hi : i < 7) (hin : ib x 50 = true) (hk : x.toNatClampNeg = kk) (hv : M 14 i kk = v) (hdg : decode t.2.2.1 pc = .ok (.iaload, 1)) (k : GX X t d r M' (pc + 1) L (.inl v :: st) (M, N)) : GX X t d r M' pc L (.inl x :: .inr (.inr (14, i)) :: st) (M, N) := G_iald (by decide) hi (by decide) rfl hin (by rw [hk, ← hv]; rfl) hdg k
theorem as_14 {i kk : Nat} {x v : Int32} (hi : i < 7) (hin : ib x 50 = true) (hk : x.toNatClampNeg = kk) (hdg : decode t.2.2.1 pc = .ok (.iastore, 1)) (k : GX X t d r M' (pc + 1) L st (up3 M 14 i kk v, N)) : GX X t d r M' pc L (.inl v :: .inl x :: .inr (.inr (14, i)) :: st) (M, N) := G_iast (by decide) hi (by decide) rfl hin (by rw [hk]; rfl) hdg k
theorem al_15 {i kk : Nat} {x v : Int32} (hi : i < 4) (hin : ib x 40 = true) (hk : x.toNatClampNeg = kk) (hv : M 15 i kk = v) (hdg : decode t.2.2.1 pc = .ok (.iaload, 1)) (k : GX X t d r M' (pc + 1) L (.inl v :: st) (M, N)) : GX X t d r M' pc L (.inl x :: .inr (.inr (15, i)) :: st) (M, N) := G_iald (by decide) hi (by decide) rfl hin (by rw [hk, ← hv]; rfl) hdg k
theorem as_15 {i kk : Nat} {x v : Int32} (hi : i < 4) (hin : ib x 40 = true) (hk : x.toNatClampNeg = kk) (hdg : decode t.2.2.1 pc = .ok (.iastore, 1)) (k : GX X t d r M' (pc + 1) L st (up3 M 15 i kk v, N)) : GX X t d r M' pc L (.inl v :: .inl x :: .inr (.inr (15, i)) :: st) (M, N) := G_iast (by decide) hi (by decide) rfl hin (by rw [hk]; rfl) hdg k
theorem al_16 {i kk : Nat} {x v : Int32} (hi : i < 1) (hin : ib x 40 = true) (hk : x.toNatClampNeg = kk) (hv : M 16 i kk = v) (hdg : decode t.2.2.1 pc = .ok (.iaload, 1)) (k : GX X t d r M' (pc + 1) L (.inl v :: st) (M, N)) : GX X t d r M' pc L (.inl x :: .inr (.inr (16, i)) :: st) (M, N) := G_iald (by decide) hi (by decide) rfl hin (by rw [hk, ← hv]; rfl) hdg k
theorem as_16 {i kk : Nat} {x v : Int32} (hi : i < 1) (hin : ib x 40 = true) (hk : x.toNatClampNeg = kk) (hdg : decode t.2.2.1 pc = .ok (.iastore, 1)) (k : GX X t d r M' (pc + 1) L st (up3 M 16 i kk v, N)) : GX X t d r M' pc L (.inl v :: .inl x :: .inr (.inr (16, i)) :: st) (M, N) := G_iast (by decide) hi (by decide) rfl hin (by rw [hk]; rfl) hdg k
theorem al_18 {i kk : Nat} {x v : Int32} (hi : i < 1) (hin : ib x 6 = true) (hk : x.toNatClampNeg = kk) (hv : M 18 i kk = v) (hdg : decode t.2.2.1 pc = .ok (.iaload, 1)) (k : GX X t d r M' (pc + 1) L (.inl v :: st) (M, N)) : GX X t d r M' pc L (.inl x :: .inr (.inr (18, i)) :: st) (M, N) := G_iald (by decide) hi (by decide) rfl hin (by rw [hk, ← hv]; rfl) hdg k
theorem as_18 {i kk : Nat} {x v : Int32} (hi : i < 1) (hin : ib x 6 = true) (hk : x.toNatClampNeg = kk) (hdg : decode t.2.2.1 pc = .ok (.iastore, 1)) (k : GX X t d r M' (pc + 1) L st (up3 M 18 i kk v, N)) : GX X t d r M' pc L (.inl v :: .inl x :: .inr (.inr (18, i)) :: st) (M, N) := G_iast (by decide) hi (by decide) rfl hin (by rw [hk]; rfl) hdg k
theorem al_20 {i kk : Nat} {x v : Int32} (hi : i < 1) (hin : ib x 268 = true) (hk : x.toNatClampNeg = kk) (hv : M 20 i kk = v) (hdg : decode t.2.2.1 pc = .ok (.iaload, 1)) (k : GX X t d r M' (pc + 1) L (.inl v :: st) (N, M)) : GX X t d r M' pc L (.inl x :: .inr (.inr (20, i)) :: st) (N, M) := G_iald (by decide) hi (by decide) rfl hin (by rw [hk, ← hv]; rfl) hdg k
theorem as_20 {i kk : Nat} {x v : Int32} (hi : i < 1) (hin : ib x 268 = true) (hk : x.toNatClampNeg = kk) (hdg : decode t.2.2.1 pc = .ok (.iastore, 1)) (k : GX X t d r M' (pc + 1) L st (N, up3 M 20 i kk v)) : GX X t d r M' pc L (.inl v :: .inl x :: .inr (.inr (20, i)) :: st) (N, M) := G_iast (by decide) hi (by decide) rfl hin (by rw [hk]; rfl) hdg k
theorem al_21 {i kk : Nat} {x v : Int32} (hi : i < 1) (hin : ib x 268 = true) (hk : x.toNatClampNeg = kk) (hv : M 21 i kk = v) (hdg : decode t.2.2.1 pc = .ok (.iaload, 1)) (k : GX X t d r M' (pc + 1) L (.inl v :: st) (N, M)) : GX X t d r M' pc L (.inl x :: .inr (.inr (21, i)) :: st) (N, M) := G_iald (by decide) hi (by decide) rfl hin (by rw [hk, ← hv]; rfl) hdg k
theorem as_21 {i kk : Nat} {x v : Int32} (hi : i < 1) (hin : ib x 268 = true) (hk : x.toNatClampNeg = kk) (hdg : decode t.2.2.1 pc = .ok (.iastore, 1)) (k : GX X t d r M' (pc + 1) L st (N, up3 M 21 i kk v)) : GX X t d r M' pc L (.inl v :: .inl x :: .inr (.inr (21, i)) :: st) (N, M) := G_iast (by decide) hi (by decide) rfl hin (by rw [hk]; rfl) hdg k
theorem al_22 {i kk : Nat} {x v : Int32} (hi : i < 1) (hin : ib x 96 = true) (hk : x.toNatClampNeg = kk) (hv : M 22 i kk = v) (hdg : decode t.2.2.1 pc = .ok (.iaload, 1)) (k : GX X t d r M' (pc + 1) L (.inl v :: st) (N, M)) : GX X t d r M' pc L (.inl x :: .inr (.inr (22, i)) :: st) (N, M) := G_iald (by decide) hi (by decide) rfl hin (by rw [hk, ← hv]; rfl) hdg k
theorem as_22 {i kk : Nat} {x v : Int32} (hi : i < 1) (hin : ib x 96 = true) (hk : x.toNatClampNeg = kk) (hdg : decode t.2.2.1 pc = .ok (.iastore, 1)) (k : GX X t d r M' (pc + 1) L st (N, up3 M 22 i kk v)) : GX X t d r M' pc L (.inl v :: .inl x :: .inr (.inr (22, i)) :: st) (N, M) := G_iast (by decide) hi (by decide) rfl hin (by rw [hk]; rfl) hdg k
theorem al_23 {i kk : Nat} {x v : Int32} (hi : i < 1) (hin : ib x 6 = true) (hk : x.toNatClampNeg = kk) (hv : M 23 i kk = v) (hdg : decode t.2.2.1 pc = .ok (.iaload, 1)) (k : GX X t d r M' (pc + 1) L (.inl v :: st) (N, M)) : GX X t d r M' pc L (.inl x :: .inr (.inr (23, i)) :: st) (N, M) := G_iald (by decide) hi (by decide) rfl hin (by rw [hk, ← hv]; rfl) hdg k
theorem as_23 {i kk : Nat} {x v : Int32} (hi : i < 1) (hin : ib x 6 = true) (hk : x.toNatClampNeg = kk) (hdg : decode t.2.2.1 pc = .ok (.iastore, 1)) (k : GX X t d r M' (pc + 1) L st (N, up3 M 23 i kk v)) : GX X t d r M' pc L (.inl v :: .inl x :: .inr (.inr (23, i)) :: st) (N, M) := G_iast (by decide) hi (by decide) rfl hin (by rw [hk]; rfl) hdg k
theorem al_24 {i kk : Nat} {x v : Int32} (hi : i < 1) (hin : ib x 3 = true) (hk : x.toNatClampNeg = kk) (hv : M 24 i kk = v) (hdg : decode t.2.2.1 pc = .ok (.iaload, 1)) (k : GX X t d r M' (pc + 1) L (.inl v :: st) (N, M)) : GX X t d r M' pc L (.inl x :: .inr (.inr (24, i)) :: st) (N, M) := G_iald (by decide) hi (by decide) rfl hin (by rw [hk, ← hv]; rfl) hdg k
theorem as_24 {i kk : Nat} {x v : Int32} (hi : i < 1) (hin : ib x 3 = true) (hk : x.toNatClampNeg = kk) (hdg : decode t.2.2.1 pc = .ok (.iastore, 1)) (k : GX X t d r M' (pc + 1) L st (N, up3 M 24 i kk v)) : GX X t d r M' pc L (.inl v :: .inl x :: .inr (.inr (24, i)) :: st) (N, M) := G_iast (by decide) hi (by decide) rfl hin (by rw [hk]; rfl) hdg k
theorem al_25 {i kk : Nat} {x v : Int32} (hi : i < 1) (hin : ib x 60 = true) (hk : x.toNatClampNeg = kk) (hv : M 25 i kk = v) (hdg : decode t.2.2.1 pc = .ok (.iaload, 1)) (k : GX X t d r M' (pc + 1) L (.inl v :: st) (N, M)) : GX X t d r M' pc L (.inl x :: .inr (.inr (25, i)) :: st) (N, M) := G_iald (by decide) hi (by decide) rfl hin (by rw [hk, ← hv]; rfl) hdg k
theorem as_25 {i kk : Nat} {x v : Int32} (hi : i < 1) (hin : ib x 60 = true) (hk : x.toNatClampNeg = kk) (hdg : decode t.2.2.1 pc = .ok (.iastore, 1)) (k : GX X t d r M' (pc + 1) L st (N, up3 M 25 i kk v)) : GX X t d r M' pc L (.inl v :: .inl x :: .inr (.inr (25, i)) :: st) (N, M) := G_iast (by decide) hi (by decide) rfl hin (by rw [hk]; rfl) hdg k
theorem al_26 {i kk : Nat} {x v : Int32} (hi : i < 1) (hin : ib x 60 = true) (hk : x.toNatClampNeg = kk) (hv : M 26 i kk = v) (hdg : decode t.2.2.1 pc = .ok (.iaload, 1)) (k : GX X t d r M' (pc + 1) L (.inl v :: st) (N, M)) : GX X t d r M' pc L (.inl x :: .inr (.inr (26, i)) :: st) (N, M) := G_iald (by decide) hi (by decide) rfl hin (by rw [hk, ← hv]; rfl) hdg k
theorem as_26 {i kk : Nat} {x v : Int32} (hi : i < 1) (hin : ib x 60 = true) (hk : x.toNatClampNeg = kk) (hdg : decode t.2.2.1 pc = .ok (.iastore, 1)) (k : GX X t d r M' (pc + 1) L st (N, up3 M 26 i kk v)) : GX X t d r M' pc L (.inl v :: .inl x :: .inr (.inr (26, i)) :: st) (N, M) := G_iast (by decide) hi (by decide) rfl hin (by rw [hk]; rfl) hdg k
theorem al_27 {i kk : Nat} {x v : Int32} (hi : i < 1) (hin : ib x 40 = true) (hk : x.toNatClampNeg = kk) (hv : M 27 i kk = v) (hdg : decode t.2.2.1 pc = .ok (.iaload, 1)) (k : GX X t d r M' (pc + 1) L (.inl v :: st) (N, M)) : GX X t d r M' pc L (.inl x :: .inr (.inr (27, i)) :: st) (N, M) := G_iald (by decide) hi (by decide) rfl hin (by rw [hk, ← hv]; rfl) hdg k
theorem as_27 {i kk : Nat} {x v : Int32} (hi : i < 1) (hin : ib x 40 = true) (hk : x.toNatClampNeg = kk) (hdg : decode t.2.2.1 pc = .ok (.iastore, 1)) (k : GX X t d r M' (pc + 1) L st (N, up3 M 27 i kk v)) : GX X t d r M' pc L (.inl v :: .inl x :: .inr (.inr (27, i)) :: st) (N, M) := G_iast (by decide) hi (by decide) rfl hin (by rw [hk]; rfl) hdg k
theorem al_28 {i kk : Nat} {x v : Int32} (hi : i < 1) (hin : ib x 4 = true) (hk : x.toNatClampNeg = kk) (hv : M 28 i kk = v) (hdg : decode t.2.2.1 pc = .ok (.iaload, 1)) (k : GX X t d r M' (pc + 1) L (.inl v :: st) (N, M)) : GX X t d r M' pc L (.inl x :: .inr (.inr (28, i)) :: st) (N, M) := G_iald (by decide) hi (by decide) rfl hin (by rw [hk, ← hv]; rfl) hdg k
theorem as_28 {i kk : Nat} {x v : Int32} (hi : i < 1) (hin : ib x 4 = true) (hk : x.toNatClampNeg = kk) (hdg : decode t.2.2.1 pc = .ok (.iastore, 1)) (k : GX X t d r M' (pc + 1) L st (N, up3 M 28 i kk v)) : GX X t d r M' pc L (.inl v :: .inl x :: .inr (.inr (28, i)) :: st) (N, M) := G_iast (by decide) hi (by decide) rfl hin (by rw [hk]; rfl) hdg k
theorem al_29 {i kk : Nat} {x v : Int32} (hi : i < 1) (hin : ib x 4 = true) (hk : x.toNatClampNeg = kk) (hv : M 29 i kk = v) (hdg : decode t.2.2.1 pc = .ok (.iaload, 1)) (k : GX X t d r M' (pc + 1) L (.inl v :: st) (N, M)) : GX X t d r M' pc L (.inl x :: .inr (.inr (29, i)) :: st) (N, M) := G_iald (by decide) hi (by decide) rfl hin (by rw [hk, ← hv]; rfl) hdg k
theorem as_29 {i kk : Nat} {x v : Int32} (hi : i < 1) (hin : ib x 4 = true) (hk : x.toNatClampNeg = kk) (hdg : decode t.2.2.1 pc = .ok (.iastore, 1)) (k : GX X t d r M' (pc + 1) L st (N, up3 M 29 i kk v)) : GX X t d r M' pc L (.inl v :: .inl x :: .inr (.inr (29, i)) :: st) (N, M) := G_iast (by decide) hi (by decide) rfl hin (by rw [hk]; rfl) hdg k
theorem al_30 {i kk : Nat} {x v : Int32} (hi : i < 1) (hin : ib x 160 = true) (hk : x.toNatClampNeg = kk) (hv : M 30 i kk = v) (hdg : decode t.2.2.1 pc = .ok (.iaload, 1)) (k : GX X t d r M' (pc + 1) L (.inl v :: st) (N, M)) : GX X t d r M' pc L (.inl x :: .inr (.inr (30, i)) :: st) (N, M) := G_iald (by decide) hi (by decide) rfl hin (by rw [hk, ← hv]; rfl) hdg k
theorem as_30 {i kk : Nat} {x v : Int32} (hi : i < 1) (hin : ib x 160 = true) (hk : x.toNatClampNeg = kk) (hdg : decode t.2.2.1 pc = .ok (.iastore, 1)) (k : GX X t d r M' (pc + 1) L st (N, up3 M 30 i kk v)) : GX X t d r M' pc L (.inl v :: .inl x :: .inr (.inr (30, i)) :: st) (N, M) := G_iast (by decide) hi (by decide) rfl hin (by rw [hk]; rfl) hdg k
theorem al_31 {i kk : Nat} {x v : Int32} (hi : i < 1) (hin : ib x 40 = true) (hk : x.toNatClampNeg = kk) (hv : M 31 i kk = v) (hdg : decode t.2.2.1 pc = .ok (.iaload, 1)) (k : GX X t d r M' (pc + 1) L (.inl v :: st) (N, M)) : GX X t d r M' pc L (.inl x :: .inr (.inr (31, i)) :: st) (N, M) := G_iald (by decide) hi (by decide) rfl hin (by rw [hk, ← hv]; rfl) hdg k
theorem as_31 {i kk : Nat} {x v : Int32} (hi : i < 1) (hin : ib x 40 = true) (hk : x.toNatClampNeg = kk) (hdg : decode t.2.2.1 pc = .ok (.iastore, 1)) (k : GX X t d r M' (pc + 1) L st (N, up3 M 31 i kk v)) : GX X t d r M' pc L (.inl v :: .inl x :: .inr (.inr (31, i)) :: st) (N, M) := G_iast (by decide) hi (by decide) rfl hin (by rw [hk]; rfl) hdg k
end FL
end
section
section MORE
variable {X : CtxX} {t : MT} {d : Nat} {r : Option AV} {M' : MM} {pc : Nat} {L : List (Nat × AV)} {st : List AV} {M : MM}
theorem G_alen {f i : Nat} {v : Int32} (hf : f < 32) (hi : i < fCnt f) (hcl : ¬ fCls f < 9) (he0 : fElt f = 0) (hv : Int32.ofNat (fLen f) = v) (hdg : decode t.2.2.1 pc = .ok (.arraylength, 1)) (k : GX X t d r M' (pc + 1) L (.inl v :: st) M) : GX X t d r M' pc L (.inr (.inr (f, i)) :: st) M := by
  intro p l e R s m args below meth c cells slots A H0 ad cA D Q Cx Xh F H locs ls hl hP hS
  have he : (world ad cA M)[fOff f + i]? = some (ad f i, .inl (cA 0, fLen f, .inl (fun j => rdM M f i j))) := by
    rw [world_at hf hi, cellE_arr hcl]
    unfold arrF
    rw [he0]
    rfl
  exact va_alen Cx.1 Cx.2.1 Cx.2.2.2.2.2.2.1 hP (fOff f + i) 0 he rfl hv hdg (k p l e R s m args below meth c cells slots A H0 ad cA D Q Cx Xh F H locs ls hl hP hS)
theorem G_eq {x y : Int32} (e : y = x) (k : GX X t d r M' pc L (.inl y :: st) M) : GX X t d r M' pc L (.inl x :: st) M := e ▸ k
theorem let_eq {α : Type} {x y : Int32} {f : Int32 → α} {z : α} (e : y = x) (h : (let v : Int32 := x; f v) = z) : f y = z := by
  subst e
  exact h
end MORE
end
section
/-! WHAT IS MADE: constructors, over worlds of cells as lists -/
def nestA : List Cond := [.methodLinkNest RX1 26 yX2_init "PotHandles", .methodLinkNest RX1 40 yX3_init "PotHandles", .methodLinkNest RX7 24 yX0_init "PotHandles", .methodLinkNest RX4 11 yX2_init "PotHandles", .methodLinkNest RX7 43 yX6_init "PotHandles", .methodLinkNest RX7 58 yX5_init "PotHandles"]
theorem nestA_on : ∀ w ∈ nestA, w.onTables = true := by
  intro w hw
  simp only [nestA, List.mem_cons, List.not_mem_nil, or_false] at hw
  rcases hw with rfl | rfl | rfl | rfl | rfl | rfl <;> rfl
theorem nestA_warm {s U : State} (hW : s.WarmedH U.vm) (h : ∀ w ∈ nestA, va_Nw w s) : ∀ w ∈ nestA, va_Nw w U := by
  intro w hw
  have h1 := h w hw
  simp only [nestA, List.mem_cons, List.not_mem_nil, or_false] at hw
  rcases hw with rfl | rfl | rfl | rfl | rfl | rfl <;> exact va_Nw.warmM hW h1
def AOs (s : State) : Prop := va_AO "PotHandles$Pot" s ∧ va_AO "PotHandles$Sheet" s
def CtxA (t : MT) (d mc ms : Nat) (p : Program) (R : Room) (s : State) (m : MethodId) (args : Array Value) (meth : Method) (c : Code) (A : Nat → Prop) (H0 : Heap) (cA : Nat → ClassId) (D : va_G) : Prop :=
  p.tables.exec = Jvm.exec ∧ c.code = t.2.2.1 ∧ c.maxLocals = t.2.2.2.1 ∧ s.vm.findClass t.1 = some m.cls ∧ (∀ w ∈ TB, w.before args s = true) ∧ (∀ w ∈ nestA, va_Nw w s) ∧ AOs s ∧ va_K D vwCl (tysA cA) s ∧ d ≤ R.frames ∧ 64 * d ≤ R.locals ∧ mc ≤ R.cells ∧ ms ≤ R.slots ∧ (∀ q : Nat, H0.size ≤ q → A q) ∧ (t.2.1.name = "<init>" → meth.name = "<init>")
def FinA (t : MT) (mc ms : Nat) (F : va_W → Prop) (p : Program) (l : Launch) (e : Env) (R : Room) (s : State) (m : MethodId) (args : Array Value) (below : List Frame) (meth : Method) (c : Code) (A : Nat → Prop) (H0 : Heap) (D : va_G) (Q : State → Prop) : Prop :=
  ∀ (H : Heap) (locs : List Loc) (ls : Array Slot) (pc : Nat) (ws : va_W), F ws → va_P D vwCl ws H → va_D A ws → va_S A H0 H locs → decode t.2.2.1 pc = .ok (.return_, 1) → W p l e R s m args below meth c H locs mc ms Q (F0 m pc ls [])
abbrev CtxP : Type := Program → Launch → Env → Room → State → MethodId → Array Value → List Frame → Method → Code → (Nat → Prop) → Heap → va_G → (State → Prop) → Prop
/-- at a place of a method that makes cells: with these locals, this stack, these cells, so many made: it comes to its end (X: what is known of the end) -/
def GAX (t : MT) (d mc ms : Nat) (cA : Nat → ClassId) (X : CtxP) (pc : Nat) (L : List (Nat × Value)) (st : List Value) (ws : va_W) (nc ns : Nat) : Prop :=
  ∀ (p : Program) (l : Launch) (e : Env) (R : Room) (s : State) (m : MethodId) (args : Array Value) (below : List Frame) (meth : Method) (c : Code) (A : Nat → Prop) (H0 : Heap) (D : va_G) (Q : State → Prop),
    CtxA t d mc ms p R s m args meth c A H0 cA D → X p l e R s m args below meth c A H0 D Q →
    ∀ (H : Heap) (locs : List Loc) (ls : Array Slot), lv_has ls t.2.2.2.1 L → va_P D vwCl ws H → va_D A ws → va_S A H0 H locs → W p l e R s m args below meth c H locs nc ns Q (F0 m pc ls st)
abbrev GA (t : MT) (d mc ms : Nat) (cA : Nat → ClassId) (F : va_W → Prop) (pc : Nat) (L : List (Nat × Value)) (st : List Value) (ws : va_W) (nc ns : Nat) : Prop := GAX t d mc ms cA (FinA t mc ms F) pc L st ws nc ns
section A1
variable {t : MT} {d mc ms : Nat} {cA : Nat → ClassId} {F : va_W → Prop} {X : CtxP} {pc nc ns : Nat} {L L2 : List (Nat × Value)} {st : List Value} {ws ws2 : va_W}
theorem A_iconst {n : Int} {v : Int32} (hdg : decode t.2.2.1 pc = .ok (.iconst n, 1)) (hv : Int32.ofInt n = v) (k : GAX t d mc ms cA X (pc + 1) L (.int v :: st) ws nc ns) : GAX t d mc ms cA X pc L st ws nc ns := by
  intro p l e R s m args below meth c A H0 D Q C E H locs ls hl hP hD hS
  exact lv_iconst C.1 C.2.1 hdg hv (k p l e R s m args below meth c A H0 D Q C E H locs ls hl hP hD hS)
theorem A_bipush {n : Int} {v : Int32} (hdg : decode t.2.2.1 pc = .ok (.bipush n, 2)) (hv : (Int8.ofInt n).toInt32 = v) (k : GAX t d mc ms cA X (pc + 2) L (.int v :: st) ws nc ns) : GAX t d mc ms cA X pc L st ws nc ns := by
  intro p l e R s m args below meth c A H0 D Q C E H locs ls hl hP hD hS
  exact lv_bipush C.1 C.2.1 hdg hv (k p l e R s m args below meth c A H0 D Q C E H locs ls hl hP hD hS)
theorem A_sipush {n : Int} {v : Int32} (hdg : decode t.2.2.1 pc = .ok (.sipush n, 3)) (hv : (Int16.ofInt n).toInt32 = v) (k : GAX t d mc ms cA X (pc + 3) L (.int v :: st) ws nc ns) : GAX t d mc ms cA X pc L st ws nc ns := by
  intro p l e R s m args below meth c A H0 D Q C E H locs ls hl hP hD hS
  exact lv_sipush C.1 C.2.1 hdg hv (k p l e R s m args below meth c A H0 D Q C E H locs ls hl hP hD hS)
theorem A_iload_n {k0 : Fin 4} {x : Int32} (hdg : decode t.2.2.1 pc = .ok (.iload_n k0, 1)) (j : Nat) (hx : L[j]? = some ((k0 : Nat), .int x)) (k : GAX t d mc ms cA X (pc + 1) L (.int x :: st) ws nc ns) : GAX t d mc ms cA X pc L st ws nc ns := by
  intro p l e R s m args below meth c A H0 D Q C E H locs ls hl hP hD hS
  exact lv_iload_n C.1 C.2.1 hdg rfl (lv_at hl j hx) (k p l e R s m args below meth c A H0 D Q C E H locs ls hl hP hD hS)
theorem A_aload_n {k0 : Fin 4} {x : Nat} (hdg : decode t.2.2.1 pc = .ok (.aload_n k0, 1)) (j : Nat) (hx : L[j]? = some ((k0 : Nat), .ref x)) (k : GAX t d mc ms cA X (pc + 1) L (.ref x :: st) ws nc ns) : GAX t d mc ms cA X pc L st ws nc ns := by
  intro p l e R s m args below meth c A H0 D Q C E H locs ls hl hP hD hS
  exact lv_aload_n C.1 C.2.1 hdg rfl (lv_at hl j hx) (k p l e R s m args below meth c A H0 D Q C E H locs ls hl hP hD hS)
theorem A_istore_n {k0 : Fin 4} {x : Int32} (hdg : decode t.2.2.1 pc = .ok (.istore_n k0, 1)) (hn : (k0 : Nat) < t.2.2.2.1) (hL : ((k0 : Nat), Value.int x) :: L.filter (fun q => !(q.1 == (k0 : Nat)) && !(q.1 + 1 == (k0 : Nat) && q.2.category == 2)) = L2) (k : GAX t d mc ms cA X (pc + 1) L2 st ws nc ns) : GAX t d mc ms cA X pc L (.int x :: st) ws nc ns := by
  intro p l e R s m args below meth c A H0 D Q C E H locs ls hl hP hD hS
  exact lv_istore_n C.1 C.2.1 hdg rfl hl hn hL (fun ls hl => k p l e R s m args below meth c A H0 D Q C E H locs ls hl hP hD hS)
theorem A_iinc {i : Nat} {n : Int} {x v : Int32} (hdg : decode t.2.2.1 pc = .ok (.iinc i n, 3)) (j : Nat) (hx : L[j]? = some (i, .int x)) (hv : x + Int32.ofInt n = v) (hn : i < t.2.2.2.1) (hL : (i, Value.int v) :: L.filter (fun q => !(q.1 == i) && !(q.1 + 1 == i && q.2.category == 2)) = L2) (k : GAX t d mc ms cA X (pc + 3) L2 st ws nc ns) : GAX t d mc ms cA X pc L st ws nc ns := by
  intro p l e R s m args below meth c A H0 D Q C E H locs ls hl hP hD hS
  exact lv_iinc C.1 C.2.1 hdg hl (k := j) hx hv hn hL (fun ls hl => k p l e R s m args below meth c A H0 D Q C E H locs ls hl hP hD hS)
theorem A_imul {x y v : Int32} (hv : x * y = v) (hdg : decode t.2.2.1 pc = .ok (.imul, 1)) (k : GAX t d mc ms cA X (pc + 1) L (.int v :: st) ws nc ns) : GAX t d mc ms cA X pc L (.int y :: .int x :: st) ws nc ns := by
  intro p l e R s m args below meth c A H0 D Q C E H locs ls hl hP hD hS
  subst hv
  exact lv_imul C.1 C.2.1 hdg (k p l e R s m args below meth c A H0 D Q C E H locs ls hl hP hD hS)
theorem A_iadd {x y v : Int32} (hv : x + y = v) (hdg : decode t.2.2.1 pc = .ok (.iadd, 1)) (k : GAX t d mc ms cA X (pc + 1) L (.int v :: st) ws nc ns) : GAX t d mc ms cA X pc L (.int y :: .int x :: st) ws nc ns := by
  intro p l e R s m args below meth c A H0 D Q C E H locs ls hl hP hD hS
  subst hv
  exact lv_iadd C.1 C.2.1 hdg (k p l e R s m args below meth c A H0 D Q C E H locs ls hl hP hD hS)
theorem A_dup {v : Value} (hv : v.category = 1) (hdg : decode t.2.2.1 pc = .ok (.dup, 1)) (k : GAX t d mc ms cA X (pc + 1) L (v :: v :: st) ws nc ns) : GAX t d mc ms cA X pc L (v :: st) ws nc ns := by
  intro p l e R s m args below meth c A H0 D Q C E H locs ls hl hP hD hS
  exact lv_dup C.1 C.2.1 hdg hv (k p l e R s m args below meth c A H0 D Q C E H locs ls hl hP hD hS)
theorem A_goto {off : Int} {tgt : Nat} (hdg : decode t.2.2.1 pc = .ok (.goto off, 3)) (ht : (pc : Int) + off = (tgt : Int)) (k : GAX t d mc ms cA X tgt L st ws nc ns) : GAX t d mc ms cA X pc L st ws nc ns := by
  intro p l e R s m args below meth c A H0 D Q C E H locs ls hl hP hD hS
  exact lv_goto C.1 C.2.1 hdg ht (k p l e R s m args below meth c A H0 D Q C E H locs ls hl hP hD hS)
theorem A_ge_t {x y : Int32} {off : Int} {tgt : Nat} (hc : y ≤ x) (hdg : decode t.2.2.1 pc = .ok (.if_icmp .ge off, 3)) (ht : (pc : Int) + off = (tgt : Int)) (k : GAX t d mc ms cA X tgt L st ws nc ns) : GAX t d mc ms cA X pc L (.int y :: .int x :: st) ws nc ns := by
  intro p l e R s m args below meth c A H0 D Q C E H locs ls hl hP hD hS
  exact lv_icmp_ge C.1 C.2.1 hdg ht (fun _ => k p l e R s m args below meth c A H0 D Q C E H locs ls hl hP hD hS) (fun h => absurd hc h)
theorem A_ge_f {x y : Int32} {off : Int} {tgt : Nat} (hc : ¬ y ≤ x) (hdg : decode t.2.2.1 pc = .ok (.if_icmp .ge off, 3)) (ht : (pc : Int) + off = (tgt : Int)) (k : GAX t d mc ms cA X (pc + 3) L st ws nc ns) : GAX t d mc ms cA X pc L (.int y :: .int x :: st) ws nc ns := by
  intro p l e R s m args below meth c A H0 D Q C E H locs ls hl hP hD hS
  exact lv_icmp_ge C.1 C.2.1 hdg ht (fun h => absurd h hc) (fun _ => k p l e R s m args below meth c A H0 D Q C E H locs ls hl hP hD hS)
theorem A_alen {a : Nat} {n : Nat} {f : Nat → Int32} {v : Int32} (q0 : Nat) (he : ws[q0]? = some (a, .inl (cA 0, n, .inl f))) (hv : Int32.ofNat n = v) (hdg : decode t.2.2.1 pc = .ok (.arraylength, 1)) (k : GAX t d mc ms cA X (pc + 1) L (.int v :: st) ws nc ns) : GAX t d mc ms cA X pc L (.ref a :: st) ws nc ns := by
  intro p l e R s m args below meth c A H0 D Q C E H locs ls hl hP hD hS
  exact va_alen C.1 C.2.1 C.2.2.2.2.2.2.2.1 hP q0 0 he rfl hv hdg (k p l e R s m args below meth c A H0 D Q C E H locs ls hl hP hD hS)
theorem A_ret (hdg : decode t.2.2.1 pc = .ok (.return_, 1)) (hF : F ws) (hc : nc = mc) (hs : ns = ms) : GA t d mc ms cA F pc L [] ws nc ns := by
  intro p l e R s m args below meth c A H0 D Q C E H locs ls hl hP hD hS
  subst hc; subst hs
  exact E H locs ls pc ws hF hP hD hS hdg
theorem A_ws (h : ws = ws2) (k : GAX t d mc ms cA X pc L st ws2 nc ns) : GAX t d mc ms cA X pc L st ws nc ns := h ▸ k
/-- Object() -/
theorem A_obj {a idx : Nat} (hlk : Cond.methodLink t.1 idx Lib.objectInit ∈ TB) (hin : Cond.instanceMethod Lib.objectInit ∈ TB) (hcd : Cond.code Lib.objectInit ⟨#[0xb1]⟩ 1 none ∈ TB) (hd : 1 ≤ d) (hst : ((st.map fun v => v.category).sum) ≤ 8) (hdg : decode t.2.2.1 pc = .ok (.invokespecial idx, 3)) (k : GAX t d mc ms cA X (pc + 3) L st ws nc ns) : GAX t d mc ms cA X pc L (.ref a :: st) ws nc ns := by
  intro p l e R s m args below meth c A H0 D Q C E H locs ls hl hP hD hS
  obtain ⟨hx, hb, hml, hown, hts, hN, hAO, hK, hdf, hdl, hc, hs, hA, hn⟩ := id C
  refine W.objInit (g := F0 m pc ls (.ref a :: st)) (rest := st) hx hb hown (hts _ hlk) (hts _ hin) (hts _ hcd) rfl (by rw [hml]; exact hl.1) rfl hdg (by omega) (by show 2 * 0 + _ + 12 ≤ _; omega) ?_
  exact k p l e R s m args below meth c A H0 D Q C E H locs ls hl hP hD hS
theorem A_new {own C0 : String} {T : u_T} {N ci idx : Nat} {fs : List Value} {ty : Nat → FieldType} (hown0 : t.1 = own) (hws : ∀ w ∈ u_ws C0 T N, w ∈ TB) (hty : ∀ k, k < N → parseFieldDescriptor (T k).2.2.1 = some (ty k)) (hcl : Cond.classLink own idx C0 ∈ TB) (hins : Cond.instantiable C0 N ∈ TB) (hini : Cond.initialized C0 ∈ TB) (hc : vwCl[ci]? = some (C0, T, N)) (hfs : ∀ j, j < N → defaultValue (ty j) = vp_V fs j) (hn1 : nc + 1 ≤ mc) (hn2 : ns + N ≤ ms) (hdg : decode t.2.2.1 pc = .ok (.new idx, 3)) (k : ∀ q : Nat, GAX t d mc ms cA X (pc + 3) L (.ref q :: st) (ws ++ [(q, .inr (ci, fs))]) (nc + 1) (ns + N)) : GAX t d mc ms cA X pc L st ws nc ns := by
  intro p l e R s m args below meth c A H0 D Q C E H locs ls hl hP hD hS
  obtain ⟨hx, hb, hml, hown, hts, hN, hAO, hK, hdf, hdl, hcr, hsr, hA, hnn⟩ := id C
  subst hown0
  exact va_new hx hb hts hws ty hty hown (hts _ hcl) (hts _ hins) (hts _ hini) hK hP hD hS hA hc hfs (by omega) (by omega) hdg (fun q H1 hP1 hD1 hS1 => k q p l e R s m args below meth c A H0 D Q C E H1 locs ls hl hP1 hD1 hS1)
theorem cls_uniq {s : State} {D : va_G} {cA : Nat → ClassId} {c2 : ClassId} {ty : FieldType} (j : Nat) (hK : va_K D vwCl (tysA cA) s) (h : (tysA cA)[j]? = some (cA j, ty)) (hK2 : va_K D vwCl (tysA cA ++ [(c2, ty)]) s) (hu : ∀ a b : ClassId, va_RA s a ty → va_RA s b ty → a = b) : c2 = cA j :=
  hu _ _ (hK2.2 4 (c2, ty) rfl).2 (hK.2 j _ h).2
theorem A_newi {n : Int32} {N' : Nat} (harr : Cond.arrayClass .int ∈ TB) (hn : ¬ n < 0) (hN : n.toNatClampNeg = N') (hby : N' * 4 ≤ 536870912) (hn1 : nc + 1 ≤ mc) (hn2 : ns + N' ≤ ms) (hdg : decode t.2.2.1 pc = .ok (.newarray .int, 2)) (k : ∀ q : Nat, GAX t d mc ms cA X (pc + 2) L (.ref q :: st) (ws ++ [(q, .inl (cA 0, N', .inl (fun _ => 0)))]) (nc + 1) (ns + N')) : GAX t d mc ms cA X pc L (.int n :: st) ws nc ns := by
  intro p l e R s m args below meth c A H0 D Q C E H locs ls hl hP hD hS
  obtain ⟨hx, hb, hml, hown, hts, hN0, hAO, hK, hdf, hdl, hcr, hsr, hA, hnn⟩ := id C
  refine va_newa (atype := .int) (a0 := (N', .inl (fun _ => 0))) (ty := .int) hx hb (hts _ harr) rfl hK hP hD hS hA (fun _ => rfl) hn hN hby (by omega) (by omega) hdg (fun q c2 H1 hK1 hP1 hD1 hS1 => ?_)
  have e1 : c2 = cA 0 := cls_uniq 0 hK rfl hK1 (fun a b h1 h2 => Option.some.inj (Eq.trans (Eq.symm (show s.vm.findClass _ = some a from h1)) h2))
  subst e1
  exact k q p l e R s m args below meth c A H0 D Q C E H1 locs ls hl hP1 hD1 hS1
theorem A_newb {n : Int32} {N' : Nat} (harr : Cond.arrayClass .byte ∈ TB) (hn : ¬ n < 0) (hN : n.toNatClampNeg = N') (hby : N' * 1 ≤ 536870912) (hn1 : nc + 1 ≤ mc) (hn2 : ns + N' ≤ ms) (hdg : decode t.2.2.1 pc = .ok (.newarray .byte, 2)) (k : ∀ q : Nat, GAX t d mc ms cA X (pc + 2) L (.ref q :: st) (ws ++ [(q, .inl (cA 1, N', .inl (fun _ => 0)))]) (nc + 1) (ns + N')) : GAX t d mc ms cA X pc L (.int n :: st) ws nc ns := by
  intro p l e R s m args below meth c A H0 D Q C E H locs ls hl hP hD hS
  obtain ⟨hx, hb, hml, hown, hts, hN0, hAO, hK, hdf, hdl, hcr, hsr, hA, hnn⟩ := id C
  refine va_newa (atype := .byte) (a0 := (N', .inl (fun _ => 0))) (ty := .byte) hx hb (hts _ harr) rfl hK hP hD hS hA (fun _ => rfl) hn hN hby (by omega) (by omega) hdg (fun q c2 H1 hK1 hP1 hD1 hS1 => ?_)
  have e1 : c2 = cA 1 := cls_uniq 1 hK rfl hK1 (fun a b h1 h2 => Option.some.inj (Eq.trans (Eq.symm (show s.vm.findClass _ = some a from h1)) h2))
  subst e1
  exact k q p l e R s m args below meth c A H0 D Q C E H1 locs ls hl hP1 hD1 hS1
theorem A_newq {own C0 : String} {n : Int32} {N' idx j : Nat} (hown0 : t.1 = own) (hj : (j = 2 ∧ C0 = "PotHandles$Pot") ∨ (j = 3 ∧ C0 = "PotHandles$Sheet")) (hcl : Cond.classLink own idx C0 ∈ TB) (hn : ¬ n < 0) (hN : n.toNatClampNeg = N') (hby : N' * 4 ≤ 536870912) (hn1 : nc + 1 ≤ mc) (hn2 : ns + N' ≤ ms) (hdg : decode t.2.2.1 pc = .ok (.anewarray idx, 3)) (k : ∀ q : Nat, GAX t d mc ms cA X (pc + 3) L (.ref q :: st) (ws ++ [(q, .inl (cA j, N', .inr (.inr (.inr (.inr (fun _ => none))))))]) (nc + 1) (ns + N')) : GAX t d mc ms cA X pc L (.int n :: st) ws nc ns := by
  intro p l e R s m args below meth c A H0 D Q C E H locs ls hl hP hD hS
  obtain ⟨hx, hb, hml, hown, hts, hN0, hAO, hK, hdf, hdl, hcr, hsr, hA, hnn⟩ := id C
  subst hown0
  have hao : va_AO C0 s := by
    rcases hj with ⟨-, rfl⟩ | ⟨-, rfl⟩
    · exact hAO.1
    · exact hAO.2
  refine va_newq hx hb hown (hts _ hcl) hao hK hP hD hS hA hn hN hby (by omega) (by omega) hdg (fun q c2 H1 hK1 hP1 hD1 hS1 => ?_)
  have e1 : c2 = cA j := by
    refine cls_uniq (ty := .object C0) j hK ?_ hK1 (fun a b h1 h2 => ?_)
    · rcases hj with ⟨rfl, rfl⟩ | ⟨rfl, rfl⟩ <;> rfl
    · obtain ⟨_, _, _, _, _, g1⟩ := h1
      obtain ⟨_, _, _, _, _, g2⟩ := h2
      exact Option.some.inj (g1.symm.trans g2)
  subst e1
  exact k q p l e R s m args below meth c A H0 D Q C E H1 locs ls hl hP1 hD1 hS1
theorem A_get {own C0 : String} {T : u_T} {N ci idx k0 a : Nat} {fs : List Value} {v : Value} (hown0 : t.1 = own) (hws : ∀ w ∈ u_ws C0 T N, w ∈ TB) (hc : vwCl[ci]? = some (C0, T, N)) (hlk : Cond.fieldLink own idx (T k0).1 (T k0).2.1 (T k0).2.2.1 ∈ TB) (q0 : Nat) (he : ws[q0]? = some (a, .inr (ci, fs))) (hk : k0 < N) (hv : fs[k0]? = some v) (hdg : decode t.2.2.1 pc = .ok (.getfield idx, 3)) (k : GAX t d mc ms cA X (pc + 3) L (v :: st) ws nc ns) : GAX t d mc ms cA X pc L (.ref a :: st) ws nc ns := by
  intro p l e R s m args below meth c A H0 D Q C E H locs ls hl hP hD hS
  obtain ⟨hx, hb, hml, hown, hts, hN0, hAO, hK, hdf, hdl, hcr, hsr, hA, hnn⟩ := id C
  subst hown0
  exact va_get hx hb hts hws hown hK hP q0 he hc k0 hk (hts _ hlk) (fun _ h => h) hv hdg (k p l e R s m args below meth c A H0 D Q C E H locs ls hl hP hD hS)
theorem A_putF {own C0 : String} {T : u_T} {N ci idx k0 a : Nat} {fs : List Value} {v : Value} {ty : Nat → FieldType} (hini : t.2.1.name = "<init>") (hown0 : t.1 = own) (hws : ∀ w ∈ u_ws C0 T N, w ∈ TB) (hty : ∀ k, k < N → parseFieldDescriptor (T k).2.2.1 = some (ty k)) (hnm : ∀ a, a < N → ∀ b, b < N → a ≠ b → (T a).2.1 ≠ (T b).2.1) (hc : vwCl[ci]? = some (C0, T, N)) (hlk : Cond.fieldLink own idx (T k0).1 (T k0).2.1 (T k0).2.2.1 ∈ TB) (q0 : Nat) (he : ws[q0]? = some (a, .inr (ci, fs))) (hk : k0 < N) (hfin : (T k0).2.2.2 = true) (hdecl : (T k0).1 = own) (hn : narrow (ty k0) v = v) (hfit : fits (ty k0) v = true) (hl : k0 < fs.length) (hw2 : ws.set q0 (a, .inr (ci, fs.set k0 v)) = ws2) (hdg : decode t.2.2.1 pc = .ok (.putfield idx, 3)) (k : GAX t d mc ms cA X (pc + 3) L st ws2 nc ns) : GAX t d mc ms cA X pc L (v :: .ref a :: st) ws nc ns := by
  intro p l e R s m args below meth c A H0 D Q C E H locs ls hlv hP hD hS
  obtain ⟨hx, hb, hml, hown, hts, hN0, hAO, hK, hdf, hdl, hcr, hsr, hA, hnn⟩ := id C
  subst hown0; subst hw2
  exact va_putF hx hb hts hws ty hty hnm hown hK hP hD hS q0 he hc k0 hk (hts _ hlk) (fun _ h => h) hfin (hnn hini) hdecl (hty k0 hk) hn hfit hl hdg (fun H1 locs1 hP1 hD1 hS1 => k p l e R s m args below meth c A H0 D Q C E H1 locs1 ls hlv hP1 hD1 hS1)
theorem A_put {own C0 : String} {T : u_T} {N ci idx k0 a : Nat} {fs : List Value} {v : Value} {ty : Nat → FieldType} (hown0 : t.1 = own) (hws : ∀ w ∈ u_ws C0 T N, w ∈ TB) (hty : ∀ k, k < N → parseFieldDescriptor (T k).2.2.1 = some (ty k)) (hnm : ∀ a, a < N → ∀ b, b < N → a ≠ b → (T a).2.1 ≠ (T b).2.1) (hc : vwCl[ci]? = some (C0, T, N)) (hlk : Cond.fieldLink own idx (T k0).1 (T k0).2.1 (T k0).2.2.1 ∈ TB) (q0 : Nat) (he : ws[q0]? = some (a, .inr (ci, fs))) (hk : k0 < N) (hfin : (T k0).2.2.2 = false) (hn : narrow (ty k0) v = v) (hfit : fits (ty k0) v = true) (hl : k0 < fs.length) (hw2 : ws.set q0 (a, .inr (ci, fs.set k0 v)) = ws2) (hdg : decode t.2.2.1 pc = .ok (.putfield idx, 3)) (k : GAX t d mc ms cA X (pc + 3) L st ws2 nc ns) : GAX t d mc ms cA X pc L (v :: .ref a :: st) ws nc ns := by
  intro p l e R s m args below meth c A H0 D Q C E H locs ls hlv hP hD hS
  obtain ⟨hx, hb, hml, hown, hts, hN0, hAO, hK, hdf, hdl, hcr, hsr, hA, hnn⟩ := id C
  subst hown0; subst hw2
  exact va_put hx hb hts hws ty hty hnm hown hK hP hD hS q0 he hc k0 hk (hts _ hlk) (fun _ h => h) hfin (hty k0 hk) hn hfit hl hdg (fun H1 locs1 hP1 hD1 hS1 => k p l e R s m args below meth c A H0 D Q C E H1 locs1 ls hlv hP1 hD1 hS1)
theorem A_iast {a n : Nat} {f f2 : Nat → Int32} {i x : Int32} (q0 : Nat) (he : ws[q0]? = some (a, .inl (cA 0, n, .inl f))) (hin : vp_in i n) (hf : upd f i.toNatClampNeg x = f2) (hw2 : ws.set q0 (a, .inl (cA 0, n, .inl f2)) = ws2) (hdg : decode t.2.2.1 pc = .ok (.iastore, 1)) (k : GAX t d mc ms cA X (pc + 1) L st ws2 nc ns) : GAX t d mc ms cA X pc L (.int x :: .int i :: .ref a :: st) ws nc ns := by
  intro p l e R s m args below meth c A H0 D Q C E H locs ls hlv hP hD hS
  subst hf; subst hw2
  exact va_iast C.1 C.2.1 C.2.2.2.2.2.2.2.1 hP hD hS q0 0 he rfl hin hdg (fun H1 locs1 hP1 hD1 hS1 => k p l e R s m args below meth c A H0 D Q C E H1 locs1 ls hlv hP1 hD1 hS1)
theorem A_astq {a n v j ci : Nat} {C0 : String} {T : u_T} {N : Nat} {vs : List Value} {f f2 : Nat → Option Nat} {i : Int32} (q0 qk : Nat) (he : ws[q0]? = some (a, .inl (cA j, n, .inr (.inr (.inr (.inr f)))))) (hty : (tysA cA)[j]? = some (cA j, .object C0)) (hv : ws[qk]? = some (v, .inr (ci, vs))) (hc : vwCl[ci]? = some (C0, T, N)) (hin : vp_in i n) (hf : va_up f i.toNatClampNeg (some v) = f2) (hw2 : ws.set q0 (a, .inl (cA j, n, .inr (.inr (.inr (.inr f2))))) = ws2) (hdg : decode t.2.2.1 pc = .ok (.aastore, 1)) (k : GAX t d mc ms cA X (pc + 1) L st ws2 nc ns) : GAX t d mc ms cA X pc L (.ref v :: .int i :: .ref a :: st) ws nc ns := by
  intro p l e R s m args below meth c A H0 D Q C E H locs ls hlv hP hD hS
  subst hf; subst hw2
  exact va_astq C.1 C.2.1 C.2.2.2.2.2.2.2.1 hP hD hS q0 j qk ci (r := (C0, T, N)) he hty hv hc hin hdg (fun H1 locs1 hP1 hD1 hS1 => k p l e R s m args below meth c A H0 D Q C E H1 locs1 ls hlv hP1 hD1 hS1)
end A1
def PreA (cA : Nat → ClassId) (D : va_G) (sz : Nat) (ws : va_W) : State → Prop := fun U => U.heap.size = sz ∧ va_P D vwCl ws U.heap ∧ va_K D vwCl (tysA cA) U ∧ va_D (fun _ => True) ws ∧ (∀ w ∈ nestA, va_Nw w U) ∧ AOs U
def PostA (cA : Nat → ClassId) (D : va_G) (A : Nat → Prop) (F : va_W → Prop) : Array Value → State → Outcome → State → Prop := fun _ st oc t => (oc = .returned none ∧ (∃ ws : va_W, F ws ∧ va_P D vwCl ws t.heap ∧ va_D A ws) ∧ va_K D vwCl (tysA cA) t) ∧ va_F A st t
/-- what a constructor does: from these cells to cells as F says; so many cells and slots are made -/
def SpecA (t : MT) (d mc ms : Nat) (as : List Value) (ws : (Nat → ClassId) → va_W) (F : (Nat → ClassId) → va_W → Prop) : Prop :=
  ∀ (l : Launch) (cA : Nat → ClassId) (D : va_G) (sz : Nat), Met l t.2.1 (wsM t) ({ frames := d, cells := mc, slots := ms, locals := 64 * d } : Room) (va_Pc as (PreA cA D sz (ws cA))) (PostA cA D (va_A (ws cA) sz) (F cA)) mc ms (va_A (ws cA) sz)
theorem preA_blind {cA : Nat → ClassId} {D : va_G} {sz : Nat} {ws : va_W} {av : List Value} : FrameBlind (va_Pc av (PreA cA D sz ws)) := by
  intro a U g mk q
  obtain ⟨q0, q1, qP, qK, qD, qN, qO⟩ := q
  exact ⟨q0, q1, qP, va_K.moved (u := U) (U := U.calling g mk a) (Vm.Alike.refl U.vm) qK, qD, fun w hw => va_Nw.same (nestA_on w hw) (u := U) (U := U.calling g mk a) rfl (qN w hw), va_AO.moved (u := U) (U := U.calling g mk a) (Vm.Alike.refl U.vm) qO.1, va_AO.moved (u := U) (U := U.calling g mk a) (Vm.Alike.refl U.vm) qO.2⟩
theorem SpecA_of {t : MT} {d mc ms : Nat} {as : List Value} {ws : (Nat → ClassId) → va_W} {F : (Nat → ClassId) → va_W → Prop} {L : List (Nat × Value)} (hy : plainName t.2.1.cls = true) (hown : t.2.1.cls = t.1) (hret : t.2.2.2.2 = none) (hn : (lg_sl as).length ≤ t.2.2.2.1) (hL : lv_args 0 as = L) (k : ∀ cA, GA t d mc ms cA (F cA) 0 L [] (ws cA) 0 0) : SpecA t d mc ms as ws F := by
  intro l cA D sz
  refine Met.ofW (cc := t.2.2.1) (maxL := t.2.2.2.1) (ret := t.2.2.2.2) hy rfl ?_
  intro p e s m args below meth c s₁ B hml hv
  obtain ⟨rfl, hsz, hP, hK, hD0, hN, hO⟩ := hv
  have hx := B.exec
  have hb := B.bytes
  have hr := B.returns
  have hts := atoms_spec (ws := wsM t) B.pre
  have hownc : s.vm.findClass t.1 = some m.cls := by rw [← hown]; exact findClass_of_methodNamed B.named
  have hlocks := B.notSynchronized
  subst hsz
  have hDA : va_D (va_A (ws cA) s.heap.size) (ws cA) := hD0.self (sz := s.heap.size)
  have hC : CtxA t d mc ms p (headSpec (wsM t) ({ frames := d, cells := mc, slots := ms, locals := 64 * d } : Room)).room s m as.toArray meth c (va_A (ws cA) s.heap.size) s.heap cA D :=
    ⟨hx, hb, hml, hownc, fun w hw => hts w (List.mem_cons_of_mem _ hw), hN, hO, hK, Nat.le_refl _, Nat.le_refl _, Nat.le_refl _, Nat.le_refl _, fun q h => Or.inr h, fun h => by rw [← h]; exact (name_of_methodNamed B.named B.method).1⟩
  have hl := lv_entry as (n := t.2.2.2.1) hn
  rw [hL] at hl
  rw [lg_entry_eq]
  refine k cA p l e _ s m _ below meth c _ s.heap D _ hC ?_ s.heap [] _ hl hP hDA va_S.rf
  intro H locs ls pc w2 hF hP' hD' hS hdg
  exact W.vret hx hb (hr.trans hret) (fun tt ht hW => ⟨⟨rfl, ⟨w2, hF, by rw [ht]; exact hP', hD'⟩, va_K.moved hW.alike hK⟩, hS.F ht⟩) hS.2.2 hdg
section A2
variable {t t2 : MT} {d d2 mc ms mc2 ms2 idx n : Nat} {cA : Nat → ClassId} {F : va_W → Prop} {X : CtxP} {F2 : (Nat → ClassId) → va_W → Prop} {pc nc ns : Nat} {L : List (Nat × Value)} {st st0 as : List Value} {ws wr : va_W} {wc : (Nat → ClassId) → va_W}
theorem W_made {p : Program} {l : Launch} {e : Env} {R : Room} {s : State} {m : MethodId} {args : Array Value} {below : List Frame} {meth : Method} {c : Code} {H : Heap} {locs : List Loc} {cells slots : Nat} {Q : State → Prop} {ls : Array Slot} {rest st1 : List Value} {a : Array Value} {A0 A1 : Nat → Prop} {H0 : Heap} {D : va_G} {G2 : va_W → Prop}
    (hr : va_Run p l e R s m args below meth c H locs cells slots mc2 ms2 (F0 m pc ls st1) rest (PostA cA D A1 G2 a) A1) (hS : va_S A0 H0 H locs) (hA : ∀ q, A1 q → A0 q)
    (kk : ∀ (w : va_W) (H1 : Heap) (locs1 : List Loc), G2 w → va_P D vwCl w H1 → va_D A1 w → (∀ q : Nat, q < H.size → ¬ A1 q → H1[q]? = H[q]?) → va_S A0 H0 H1 locs1 → W p l e R s m args below meth c H1 locs1 (cells + mc2) (slots + ms2) Q (F0 m (pc + 3) ls rest)) : W p l e R s m args below meth c H locs cells slots Q (F0 m pc ls st1) := by
  intro T hT X
  obtain ⟨v, st₀, t, T', L, h0, X', hL, e1, e2, ⟨⟨hv, ⟨w, hw, hP1, hD1⟩, -⟩, hz, hk⟩, st⟩ := hr T hT X
  cases hv
  rw [h0] at hz hk
  obtain ⟨t2, a1, b1⟩ := kk w T'.heap (locs ++ L) hw (by rw [e1]; exact hP1) hD1 (fun q h1 h2 => by rw [e1]; exact hk q h1 h2)
    ⟨Nat.le_trans hS.1 (by rw [e1]; exact hz), fun q h1 h2 => by rw [e1, hk q (Nat.lt_of_lt_of_le h1 hS.1) (fun z => h2 (hA q z))]; exact hS.2.1 q h1 h2, fun q hq => by
      rcases List.mem_append.mp hq with h | h
      · exact hS.2.2 q h
      · exact hA _ (hL q h)⟩ T' rfl X'
  exact ⟨t2, st t2 a1, b1⟩
def okI (t2 : MT) (n : Nat) : Prop := okM t2 n ∧ Cond.instanceMethod t2.2.1 ∈ TB ∧ t2.2.1.name = "<init>" ∧ t2.2.2.2.2 = none
theorem A_callI {b : Nat} (hs : SpecA t2 d2 mc2 ms2 (.ref b :: as) wc F2) (ho : okI t2 n) (hlk : Cond.methodLink t.1 idx t2.2.1 ∈ TB ∨ Cond.methodLinkNest t.1 idx t2.2.1 "PotHandles" ∈ nestA) (hd : d2 + 1 ≤ d) (hn : as.length = n) (hst : st0 = as.reverse ++ .ref b :: st) (hcat : (st.map fun v => v.category).sum ≤ 8) (isC isR : List Nat) (hC : isC.map (fun i => ws[i]?) = (wc cA).map some) (hR : isR.map (fun i => ws[i]?) = wr.map some) (hnd : va_nd isR = true) (hndC : va_nd isC = true) (hdis : ∀ i ∈ isR, i ∉ isC) (hn1 : nc + mc2 ≤ mc) (hn2 : ns + ms2 ≤ ms) (hdg : decode t.2.2.1 pc = .ok (.invokespecial idx, 3)) (k : ∀ w, F2 cA w → GAX t d mc ms cA X (pc + 3) L st (wr ++ w) (nc + mc2) (ns + ms2)) : GAX t d mc ms cA X pc L st0 ws nc ns := by
  intro p l e R s m args below meth c A H0 D Q C E H locs ls hl hP hD hS
  obtain ⟨⟨⟨h1, h2, h3⟩, h4, h5, h6⟩, h7, h8, h9⟩ := ho
  obtain ⟨hx, hb, hml, hown, hts, hN0, hAO, hK, hdf, hdl, hcr, hsr, hA, hnn⟩ := id C
  have hF := va_free hD hS hA isC hC
  have hPc : va_P D vwCl (wc cA) H := by
    intro k q hq
    have g1 : (isC.map (fun i => ws[i]?))[k]? = some (some q) := by rw [hC, List.getElem?_map, hq]; rfl
    rw [List.getElem?_map] at g1
    cases hi : isC[k]? with
    | none => rw [hi] at g1; cases g1
    | some i => rw [hi] at g1; exact hP i q (Option.some.inj g1)
  have hDc : va_D (fun _ => True) (wc cA) := (hD.sub isC hndC hC).weaken (fun _ _ _ _ => trivial)
  have hT : GoodIn TB (wsM t2) := goodTB fun w hw => by
    rcases List.mem_cons.mp hw with rfl | hw
    · exact h6
    · exact hw
  have hyb : t2.2.1 = t2.2.1 := rfl
  have pre : PreS s H (va_Pc (.ref b :: as) (PreA cA D H.size (wc cA))) (.ref b :: as) := ⟨preA_blind, fun U hU hW => ⟨rfl, by rw [hU], by rw [hU]; exact hPc, va_K.moved hW.alike hK, hDc, nestA_warm hW hN0, va_AO.moved hW.alike hAO.1, va_AO.moved hW.alike hAO.2⟩⟩
  have run : va_Run p l e R s m args below meth c H locs nc ns mc2 ms2 (F0 m pc ls st0) st (PostA cA D (va_A (wc cA) H.size) (F2 cA) (Value.ref b :: as).toArray) (va_A (wc cA) H.size) := by
    have hwc : wsM t2 = Cond.code t2.2.1 t2.2.2.1 t2.2.2.2.1 none :: TB := by unfold wsM; rw [h9]
    rcases hlk with hlk | hlk
    · exact va_runI (As := as) (rest := st) (n := n) ⟨hx, hb, hml, hown, hts⟩ (hs l cA D H.size) (cwI n hts hT hwc rfl rfl (hts _ h5) (hts _ hlk) (hts _ h7) h8 h4 ⟨by show d2 + 1 ≤ _; omega, by show 8 + (t2.2.2.2.1 + 11) + 64 * d2 ≤ _; omega⟩) pre rfl hn hl.1 hst (lv_room hcat) hdg ⟨by omega, by omega⟩
    · exact va_runIN (As := as) (rest := st) (n := n) ⟨hx, hb, hml, hown, hts⟩ (hs l cA D H.size) ⟨va_cnB n hts hT hwc rfl rfl (hN0 _ hlk) (hts _ h5) h4 ⟨by show d2 + 1 ≤ _; omega, by show 8 + (t2.2.2.2.1 + 11) + 64 * d2 ≤ _; omega⟩, h8, hts _ h7⟩ pre rfl hn hl.1 hst (lv_room hcat) hdg ⟨by omega, by omega⟩
  refine W_made run hS hF (fun w H1 locs1 hw hP1 hD1 hk1 hS1 => ?_)
  obtain ⟨hP2, hD2⟩ := va_join hP hD isC isR hC hR hnd hdis hk1 hF hP1 hD1
  exact k w hw p l e R s m args below meth c A H0 D Q C E H1 locs1 ls hl hP2 hD2 hS1
theorem A_callS (hs : SpecA t2 d2 mc2 ms2 as wc F2) (ho : okS t2 n) (hret : t2.2.2.2.2 = none) (hlk : Cond.methodLink t.1 idx t2.2.1 ∈ TB) (hd : d2 + 1 ≤ d) (hn : as.length = n) (hst : st0 = as.reverse ++ st) (hcat : (st.map fun v => v.category).sum ≤ 8) (isC isR : List Nat) (hC : isC.map (fun i => ws[i]?) = (wc cA).map some) (hR : isR.map (fun i => ws[i]?) = wr.map some) (hnd : va_nd isR = true) (hndC : va_nd isC = true) (hdis : ∀ i ∈ isR, i ∉ isC) (hn1 : nc + mc2 ≤ mc) (hn2 : ns + ms2 ≤ ms) (hdg : decode t.2.2.1 pc = .ok (.invokestatic idx, 3)) (k : ∀ w, F2 cA w → GAX t d mc ms cA X (pc + 3) L st (wr ++ w) (nc + mc2) (ns + ms2)) : GAX t d mc ms cA X pc L st0 ws nc ns := by
  intro p l e R s m args below meth c A H0 D Q C E H locs ls hl hP hD hS
  obtain ⟨⟨⟨h1, h2, h3⟩, h4, h5, h6⟩, h7⟩ := ho
  obtain ⟨hx, hb, hml, hown, hts, hN0, hAO, hK, hdf, hdl, hcr, hsr, hA, hnn⟩ := id C
  have hF := va_free hD hS hA isC hC
  have hPc : va_P D vwCl (wc cA) H := by
    intro k q hq
    have g1 : (isC.map (fun i => ws[i]?))[k]? = some (some q) := by rw [hC, List.getElem?_map, hq]; rfl
    rw [List.getElem?_map] at g1
    cases hi : isC[k]? with
    | none => rw [hi] at g1; cases g1
    | some i => rw [hi] at g1; exact hP i q (Option.some.inj g1)
  have hDc : va_D (fun _ => True) (wc cA) := (hD.sub isC hndC hC).weaken (fun _ _ _ _ => trivial)
  have hT : GoodIn TB (va_wsS t.1 idx t2.2.1 (wsM t2)) := goodTB fun w hw => by
    rcases List.mem_append.mp hw with hw | hw
    · rcases List.mem_cons.mp hw with rfl | hw
      · exact hlk
      rcases List.mem_cons.mp hw with rfl | hw
      · exact h7
      rcases List.mem_cons.mp hw with rfl | hw
      · exact h5
      cases hw
    · rcases List.mem_cons.mp hw with rfl | hw
      · exact h6
      · exact hw
  have run := va_runS (p := p) (l := l) (e := e) (R := R) (below := below) (meth := meth) (H := H) (locs := locs) (cells := nc) (slots := ns) (g := F0 m pc ls st0) (As := as) (rest := st) (n := n) ⟨hx, hb, hml, hown, hts⟩ (hs l cA D H.size) (va_cwS n hts hT rfl rfl rfl h4 ⟨by show d2 + 1 ≤ _; omega, by show 8 + (t2.2.2.2.1 + 11) + 64 * d2 ≤ _; omega⟩) ⟨preA_blind, fun U hU hW => ⟨rfl, by rw [hU], by rw [hU]; exact hPc, va_K.moved hW.alike hK, hDc, nestA_warm hW hN0, va_AO.moved hW.alike hAO.1, va_AO.moved hW.alike hAO.2⟩⟩ rfl hn hl.1 hst (lv_room hcat) hdg ⟨by omega, by omega⟩
  refine W_made run hS hF (fun w H1 locs1 hw hP1 hD1 hk1 hS1 => ?_)
  obtain ⟨hP2, hD2⟩ := va_join hP hD isC isR hC hR hnd hdis hk1 hF hP1 hD1
  exact k w hw p l e R s m args below meth c A H0 D Q C E H1 locs1 ls hl hP2 hD2 hS1
end A2
end
section
set_option maxRecDepth 100000 in
theorem oi_i : Cond.instanceMethod Lib.objectInit ∈ TB := tbm 20 (by decide +kernel) rfl
set_option maxRecDepth 100000 in
theorem oi_c : Cond.code Lib.objectInit ⟨#[0xb1]⟩ 1 none ∈ TB := tbm 21 (by decide +kernel) rfl
set_option maxRecDepth 100000 in
theorem ar_int : Cond.arrayClass .int ∈ TB := tbm 46 (by decide +kernel) rfl
set_option maxRecDepth 100000 in
theorem ar_byte : Cond.arrayClass .byte ∈ TB := tbm 154 (by decide +kernel) rfl
theorem df_0 : ∀ j, j < 5 → defaultValue (tyX0 j) = vp_V [.null, .null, .int 0, .int 0, .int 0] j := by
  intro j hj
  rcases (show j = 0 ∨ j = 1 ∨ j = 2 ∨ j = 3 ∨ j = 4 by omega) with rfl | rfl | rfl | rfl | rfl <;> rfl
set_option maxRecDepth 100000 in
theorem iw_0 : Cond.instantiable RX0 5 ∈ TB := tbm 126 (by decide +kernel) rfl
set_option maxRecDepth 100000 in
theorem in_0 : Cond.initialized RX0 ∈ TB := tbm 6 (by decide +kernel) rfl
theorem df_1 : ∀ j, j < 8 → defaultValue (tyX1 j) = vp_V [.null, .null, .null, .null, .null, .int 0, .int 0, .int 0] j := by
  intro j hj
  rcases (show j = 0 ∨ j = 1 ∨ j = 2 ∨ j = 3 ∨ j = 4 ∨ j = 5 ∨ j = 6 ∨ j = 7 by omega) with rfl | rfl | rfl | rfl | rfl | rfl | rfl | rfl <;> rfl
set_option maxRecDepth 100000 in
theorem iw_1 : Cond.instantiable RX1 8 ∈ TB := tbm 23 (by decide +kernel) rfl
set_option maxRecDepth 100000 in
theorem in_1 : Cond.initialized RX1 ∈ TB := tbm 2 (by decide +kernel) rfl
theorem df_2 : ∀ j, j < 3 → defaultValue (tyX2 j) = vp_V [.null, .null, .int 0] j := by
  intro j hj
  rcases (show j = 0 ∨ j = 1 ∨ j = 2 by omega) with rfl | rfl | rfl <;> rfl
set_option maxRecDepth 100000 in
theorem iw_2 : Cond.instantiable RX2 3 ∈ TB := tbm 31 (by decide +kernel) rfl
set_option maxRecDepth 100000 in
theorem in_2 : Cond.initialized RX2 ∈ TB := tbm 3 (by decide +kernel) rfl
theorem df_3 : ∀ j, j < 8 → defaultValue (tyX3 j) = vp_V [.int 0, .int 0, .int 0, .int 0, .int 0, .int 0, .int 0, .int 0] j := by
  intro j hj
  rcases (show j = 0 ∨ j = 1 ∨ j = 2 ∨ j = 3 ∨ j = 4 ∨ j = 5 ∨ j = 6 ∨ j = 7 by omega) with rfl | rfl | rfl | rfl | rfl | rfl | rfl | rfl <;> rfl
set_option maxRecDepth 100000 in
theorem iw_3 : Cond.instantiable RX3 8 ∈ TB := tbm 50 (by decide +kernel) rfl
set_option maxRecDepth 100000 in
theorem in_3 : Cond.initialized RX3 ∈ TB := tbm 5 (by decide +kernel) rfl
theorem df_4 : ∀ j, j < 4 → defaultValue (tyX4 j) = vp_V [.null, .null, .int 0, .int 0] j := by
  intro j hj
  rcases (show j = 0 ∨ j = 1 ∨ j = 2 ∨ j = 3 by omega) with rfl | rfl | rfl | rfl <;> rfl
set_option maxRecDepth 100000 in
theorem iw_4 : Cond.instantiable RX4 4 ∈ TB := tbm 156 (by decide +kernel) rfl
set_option maxRecDepth 100000 in
theorem in_4 : Cond.initialized RX4 ∈ TB := tbm 7 (by decide +kernel) rfl
theorem df_5 : ∀ j, j < 3 → defaultValue (tyX5 j) = vp_V [.null, .int 0, .int 0] j := by
  intro j hj
  rcases (show j = 0 ∨ j = 1 ∨ j = 2 by omega) with rfl | rfl | rfl <;> rfl
set_option maxRecDepth 100000 in
theorem iw_5 : Cond.instantiable RX5 3 ∈ TB := tbm 204 (by decide +kernel) rfl
set_option maxRecDepth 100000 in
theorem in_5 : Cond.initialized RX5 ∈ TB := tbm 9 (by decide +kernel) rfl
theorem df_6 : ∀ j, j < 5 → defaultValue (tyX6 j) = vp_V [.null, .int 0, .int 0, .int 0, .int 0] j := by
  intro j hj
  rcases (show j = 0 ∨ j = 1 ∨ j = 2 ∨ j = 3 ∨ j = 4 by omega) with rfl | rfl | rfl | rfl | rfl <;> rfl
set_option maxRecDepth 100000 in
theorem iw_6 : Cond.instantiable RX6 5 ∈ TB := tbm 179 (by decide +kernel) rfl
set_option maxRecDepth 100000 in
theorem in_6 : Cond.initialized RX6 ∈ TB := tbm 8 (by decide +kernel) rfl
theorem df_7 : ∀ j, j < 10 → defaultValue (tyX7 j) = vp_V [.null, .null, .null, .null, .null, .null, .null, .null, .null, .int 0] j := by
  intro j hj
  rcases (show j = 0 ∨ j = 1 ∨ j = 2 ∨ j = 3 ∨ j = 4 ∨ j = 5 ∨ j = 6 ∨ j = 7 ∨ j = 8 ∨ j = 9 by omega) with rfl | rfl | rfl | rfl | rfl | rfl | rfl | rfl | rfl | rfl <;> rfl
set_option maxRecDepth 100000 in
theorem iw_7 : Cond.instantiable RX7 10 ∈ TB := tbm 15 (by decide +kernel) rfl
set_option maxRecDepth 100000 in
theorem in_7 : Cond.initialized RX7 ∈ TB := tbm 1 (by decide +kernel) rfl
theorem df_8 : ∀ j, j < 22 → defaultValue (tyX8 j) = vp_V [.null, .null, .null, .int 0, .null, .int 0, .int 0, .int 0, .int 0, .int 0, .int 0, .null, .null, .int 0, .null, .null, .int 0, .int 0, .null, .null, .null, .null] j := by
  intro j hj
  rcases (show j = 0 ∨ j = 1 ∨ j = 2 ∨ j = 3 ∨ j = 4 ∨ j = 5 ∨ j = 6 ∨ j = 7 ∨ j = 8 ∨ j = 9 ∨ j = 10 ∨ j = 11 ∨ j = 12 ∨ j = 13 ∨ j = 14 ∨ j = 15 ∨ j = 16 ∨ j = 17 ∨ j = 18 ∨ j = 19 ∨ j = 20 ∨ j = 21 by omega) with rfl | rfl | rfl | rfl | rfl | rfl | rfl | rfl | rfl | rfl | rfl | rfl | rfl | rfl | rfl | rfl | rfl | rfl | rfl | rfl | rfl | rfl <;> rfl
set_option maxRecDepth 100000 in
theorem iw_8 : Cond.instantiable RX8 22 ∈ TB := tbm 680 (by decide +kernel) rfl
set_option maxRecDepth 100000 in
theorem in_8 : Cond.initialized RX8 ∈ TB := tbm 10 (by decide +kernel) rfl
abbrev mt_X7_init : MT := (RX7, yX7_init, cX7_init, 2, none)
set_option maxRecDepth 100000 in
theorem ok_X7_init : okI mt_X7_init 0 := ⟨⟨⟨rfl, by decide, by decide⟩, ⟨by decide, by decide, by decide +kernel⟩, tbm 1 (by decide +kernel) rfl, tbm 18 (by decide +kernel) rfl⟩, tbm 17 (by decide +kernel) rfl, rfl, rfl⟩
theorem dX7_init_0 : decode cX7_init 0 = .ok (.aload_n 0, 1) := by decide +kernel
theorem dX7_init_1 : decode cX7_init 1 = .ok (.invokespecial 1, 3) := by decide +kernel
theorem dX7_init_4 : decode cX7_init 4 = .ok (.aload_n 0, 1) := by decide +kernel
theorem dX7_init_5 : decode cX7_init 5 = .ok (.new 7, 3) := by decide +kernel
theorem dX7_init_8 : decode cX7_init 8 = .ok (.dup, 1) := by decide +kernel
theorem dX7_init_9 : decode cX7_init 9 = .ok (.invokespecial 9, 3) := by decide +kernel
theorem dX7_init_12 : decode cX7_init 12 = .ok (.putfield 10, 3) := by decide +kernel
theorem dX7_init_15 : decode cX7_init 15 = .ok (.aload_n 0, 1) := by decide +kernel
theorem dX7_init_16 : decode cX7_init 16 = .ok (.new 7, 3) := by decide +kernel
theorem dX7_init_19 : decode cX7_init 19 = .ok (.dup, 1) := by decide +kernel
theorem dX7_init_20 : decode cX7_init 20 = .ok (.invokespecial 9, 3) := by decide +kernel
theorem dX7_init_23 : decode cX7_init 23 = .ok (.putfield 16, 3) := by decide +kernel
theorem dX7_init_26 : decode cX7_init 26 = .ok (.aload_n 0, 1) := by decide +kernel
theorem dX7_init_27 : decode cX7_init 27 = .ok (.new 7, 3) := by decide +kernel
theorem dX7_init_30 : decode cX7_init 30 = .ok (.dup, 1) := by decide +kernel
theorem dX7_init_31 : decode cX7_init 31 = .ok (.invokespecial 9, 3) := by decide +kernel
theorem dX7_init_34 : decode cX7_init 34 = .ok (.putfield 19, 3) := by decide +kernel
theorem dX7_init_37 : decode cX7_init 37 = .ok (.aload_n 0, 1) := by decide +kernel
theorem dX7_init_38 : decode cX7_init 38 = .ok (.new 22, 3) := by decide +kernel
theorem dX7_init_41 : decode cX7_init 41 = .ok (.dup, 1) := by decide +kernel
theorem dX7_init_42 : decode cX7_init 42 = .ok (.invokespecial 24, 3) := by decide +kernel
theorem dX7_init_45 : decode cX7_init 45 = .ok (.putfield 25, 3) := by decide +kernel
theorem dX7_init_48 : decode cX7_init 48 = .ok (.aload_n 0, 1) := by decide +kernel
theorem dX7_init_49 : decode cX7_init 49 = .ok (.new 22, 3) := by decide +kernel
theorem dX7_init_52 : decode cX7_init 52 = .ok (.dup, 1) := by decide +kernel
theorem dX7_init_53 : decode cX7_init 53 = .ok (.invokespecial 24, 3) := by decide +kernel
theorem dX7_init_56 : decode cX7_init 56 = .ok (.putfield 29, 3) := by decide +kernel
theorem dX7_init_59 : decode cX7_init 59 = .ok (.aload_n 0, 1) := by decide +kernel
theorem dX7_init_60 : decode cX7_init 60 = .ok (.new 32, 3) := by decide +kernel
theorem dX7_init_63 : decode cX7_init 63 = .ok (.dup, 1) := by decide +kernel
theorem dX7_init_64 : decode cX7_init 64 = .ok (.aload_n 0, 1) := by decide +kernel
theorem dX7_init_65 : decode cX7_init 65 = .ok (.getfield 25, 3) := by decide +kernel
theorem dX7_init_68 : decode cX7_init 68 = .ok (.invokespecial 34, 3) := by decide +kernel
theorem dX7_init_71 : decode cX7_init 71 = .ok (.putfield 37, 3) := by decide +kernel
theorem dX7_init_74 : decode cX7_init 74 = .ok (.aload_n 0, 1) := by decide +kernel
theorem dX7_init_75 : decode cX7_init 75 = .ok (.new 41, 3) := by decide +kernel
theorem dX7_init_78 : decode cX7_init 78 = .ok (.dup, 1) := by decide +kernel
theorem dX7_init_79 : decode cX7_init 79 = .ok (.invokespecial 43, 3) := by decide +kernel
theorem dX7_init_82 : decode cX7_init 82 = .ok (.putfield 44, 3) := by decide +kernel
theorem dX7_init_85 : decode cX7_init 85 = .ok (.aload_n 0, 1) := by decide +kernel
theorem dX7_init_86 : decode cX7_init 86 = .ok (.iconst 4, 1) := by decide +kernel
theorem dX7_init_87 : decode cX7_init 87 = .ok (.anewarray 48, 3) := by decide +kernel
theorem dX7_init_90 : decode cX7_init 90 = .ok (.putfield 50, 3) := by decide +kernel
theorem dX7_init_93 : decode cX7_init 93 = .ok (.aload_n 0, 1) := by decide +kernel
theorem dX7_init_94 : decode cX7_init 94 = .ok (.bipush 6, 2) := by decide +kernel
theorem dX7_init_96 : decode cX7_init 96 = .ok (.newarray .int, 2) := by decide +kernel
theorem dX7_init_98 : decode cX7_init 98 = .ok (.putfield 54, 3) := by decide +kernel
theorem dX7_init_101 : decode cX7_init 101 = .ok (.iconst 0, 1) := by decide +kernel
theorem dX7_init_102 : decode cX7_init 102 = .ok (.istore_n 1, 1) := by decide +kernel
theorem dX7_init_103 : decode cX7_init 103 = .ok (.iload_n 1, 1) := by decide +kernel
theorem dX7_init_104 : decode cX7_init 104 = .ok (.iconst 4, 1) := by decide +kernel
theorem dX7_init_105 : decode cX7_init 105 = .ok (.if_icmp .ge 22, 3) := by decide +kernel
theorem dX7_init_108 : decode cX7_init 108 = .ok (.aload_n 0, 1) := by decide +kernel
theorem dX7_init_109 : decode cX7_init 109 = .ok (.getfield 50, 3) := by decide +kernel
theorem dX7_init_112 : decode cX7_init 112 = .ok (.iload_n 1, 1) := by decide +kernel
theorem dX7_init_113 : decode cX7_init 113 = .ok (.new 48, 3) := by decide +kernel
theorem dX7_init_116 : decode cX7_init 116 = .ok (.dup, 1) := by decide +kernel
theorem dX7_init_117 : decode cX7_init 117 = .ok (.invokespecial 58, 3) := by decide +kernel
theorem dX7_init_120 : decode cX7_init 120 = .ok (.aastore, 1) := by decide +kernel
theorem dX7_init_121 : decode cX7_init 121 = .ok (.iinc 1 1, 3) := by decide +kernel
theorem dX7_init_124 : decode cX7_init 124 = .ok (.goto (-21), 3) := by decide +kernel
theorem dX7_init_127 : decode cX7_init 127 = .ok (.return_, 1) := by decide +kernel
abbrev mt_X1_init : MT := (RX1, yX1_init, cX1_init, 2, none)
set_option maxRecDepth 100000 in
theorem ok_X1_init : okI mt_X1_init 0 := ⟨⟨⟨rfl, by decide, by decide⟩, ⟨by decide, by decide, by decide +kernel⟩, tbm 2 (by decide +kernel) rfl, tbm 26 (by decide +kernel) rfl⟩, tbm 25 (by decide +kernel) rfl, rfl, rfl⟩
theorem dX1_init_0 : decode cX1_init 0 = .ok (.aload_n 0, 1) := by decide +kernel
theorem dX1_init_1 : decode cX1_init 1 = .ok (.invokespecial 3, 3) := by decide +kernel
theorem dX1_init_4 : decode cX1_init 4 = .ok (.aload_n 0, 1) := by decide +kernel
theorem dX1_init_5 : decode cX1_init 5 = .ok (.iconst 5, 1) := by decide +kernel
theorem dX1_init_6 : decode cX1_init 6 = .ok (.newarray .int, 2) := by decide +kernel
theorem dX1_init_8 : decode cX1_init 8 = .ok (.putfield 9, 3) := by decide +kernel
theorem dX1_init_11 : decode cX1_init 11 = .ok (.aload_n 0, 1) := by decide +kernel
theorem dX1_init_12 : decode cX1_init 12 = .ok (.iconst 5, 1) := by decide +kernel
theorem dX1_init_13 : decode cX1_init 13 = .ok (.newarray .int, 2) := by decide +kernel
theorem dX1_init_15 : decode cX1_init 15 = .ok (.putfield 15, 3) := by decide +kernel
theorem dX1_init_18 : decode cX1_init 18 = .ok (.aload_n 0, 1) := by decide +kernel
theorem dX1_init_19 : decode cX1_init 19 = .ok (.bipush 10, 2) := by decide +kernel
theorem dX1_init_21 : decode cX1_init 21 = .ok (.anewarray 18, 3) := by decide +kernel
theorem dX1_init_24 : decode cX1_init 24 = .ok (.putfield 20, 3) := by decide +kernel
theorem dX1_init_27 : decode cX1_init 27 = .ok (.aload_n 0, 1) := by decide +kernel
theorem dX1_init_28 : decode cX1_init 28 = .ok (.new 24, 3) := by decide +kernel
theorem dX1_init_31 : decode cX1_init 31 = .ok (.dup, 1) := by decide +kernel
theorem dX1_init_32 : decode cX1_init 32 = .ok (.invokespecial 26, 3) := by decide +kernel
theorem dX1_init_35 : decode cX1_init 35 = .ok (.putfield 27, 3) := by decide +kernel
theorem dX1_init_38 : decode cX1_init 38 = .ok (.aload_n 0, 1) := by decide +kernel
theorem dX1_init_39 : decode cX1_init 39 = .ok (.new 24, 3) := by decide +kernel
theorem dX1_init_42 : decode cX1_init 42 = .ok (.dup, 1) := by decide +kernel
theorem dX1_init_43 : decode cX1_init 43 = .ok (.invokespecial 26, 3) := by decide +kernel
theorem dX1_init_46 : decode cX1_init 46 = .ok (.putfield 31, 3) := by decide +kernel
theorem dX1_init_49 : decode cX1_init 49 = .ok (.aload_n 0, 1) := by decide +kernel
theorem dX1_init_50 : decode cX1_init 50 = .ok (.getfield 9, 3) := by decide +kernel
theorem dX1_init_53 : decode cX1_init 53 = .ok (.iconst 2, 1) := by decide +kernel
theorem dX1_init_54 : decode cX1_init 54 = .ok (.invokestatic 34, 3) := by decide +kernel
theorem dX1_init_57 : decode cX1_init 57 = .ok (.aload_n 0, 1) := by decide +kernel
theorem dX1_init_58 : decode cX1_init 58 = .ok (.getfield 15, 3) := by decide +kernel
theorem dX1_init_61 : decode cX1_init 61 = .ok (.iconst 5, 1) := by decide +kernel
theorem dX1_init_62 : decode cX1_init 62 = .ok (.invokestatic 34, 3) := by decide +kernel
theorem dX1_init_65 : decode cX1_init 65 = .ok (.iconst 0, 1) := by decide +kernel
theorem dX1_init_66 : decode cX1_init 66 = .ok (.istore_n 1, 1) := by decide +kernel
theorem dX1_init_67 : decode cX1_init 67 = .ok (.iload_n 1, 1) := by decide +kernel
theorem dX1_init_68 : decode cX1_init 68 = .ok (.bipush 10, 2) := by decide +kernel
theorem dX1_init_70 : decode cX1_init 70 = .ok (.if_icmp .ge 22, 3) := by decide +kernel
theorem dX1_init_73 : decode cX1_init 73 = .ok (.aload_n 0, 1) := by decide +kernel
theorem dX1_init_74 : decode cX1_init 74 = .ok (.getfield 20, 3) := by decide +kernel
theorem dX1_init_77 : decode cX1_init 77 = .ok (.iload_n 1, 1) := by decide +kernel
theorem dX1_init_78 : decode cX1_init 78 = .ok (.new 18, 3) := by decide +kernel
theorem dX1_init_81 : decode cX1_init 81 = .ok (.dup, 1) := by decide +kernel
theorem dX1_init_82 : decode cX1_init 82 = .ok (.invokespecial 40, 3) := by decide +kernel
theorem dX1_init_85 : decode cX1_init 85 = .ok (.aastore, 1) := by decide +kernel
theorem dX1_init_86 : decode cX1_init 86 = .ok (.iinc 1 1, 3) := by decide +kernel
theorem dX1_init_89 : decode cX1_init 89 = .ok (.goto (-22), 3) := by decide +kernel
theorem dX1_init_92 : decode cX1_init 92 = .ok (.return_, 1) := by decide +kernel
abbrev mt_X2_init : MT := (RX2, yX2_init, cX2_init, 1, none)
set_option maxRecDepth 100000 in
theorem ok_X2_init : okI mt_X2_init 0 := ⟨⟨⟨rfl, by decide, by decide⟩, ⟨by decide, by decide, by decide +kernel⟩, tbm 3 (by decide +kernel) rfl, tbm 34 (by decide +kernel) rfl⟩, tbm 33 (by decide +kernel) rfl, rfl, rfl⟩
theorem dX2_init_0 : decode cX2_init 0 = .ok (.aload_n 0, 1) := by decide +kernel
theorem dX2_init_1 : decode cX2_init 1 = .ok (.invokespecial 3, 3) := by decide +kernel
theorem dX2_init_4 : decode cX2_init 4 = .ok (.aload_n 0, 1) := by decide +kernel
theorem dX2_init_5 : decode cX2_init 5 = .ok (.bipush 50, 2) := by decide +kernel
theorem dX2_init_7 : decode cX2_init 7 = .ok (.newarray .int, 2) := by decide +kernel
theorem dX2_init_9 : decode cX2_init 9 = .ok (.putfield 9, 3) := by decide +kernel
theorem dX2_init_12 : decode cX2_init 12 = .ok (.aload_n 0, 1) := by decide +kernel
theorem dX2_init_13 : decode cX2_init 13 = .ok (.bipush 50, 2) := by decide +kernel
theorem dX2_init_15 : decode cX2_init 15 = .ok (.newarray .int, 2) := by decide +kernel
theorem dX2_init_17 : decode cX2_init 17 = .ok (.putfield 15, 3) := by decide +kernel
theorem dX2_init_20 : decode cX2_init 20 = .ok (.return_, 1) := by decide +kernel
abbrev mt_X3_init : MT := (RX3, yX3_init, cX3_init, 1, none)
set_option maxRecDepth 100000 in
theorem ok_X3_init : okI mt_X3_init 0 := ⟨⟨⟨rfl, by decide, by decide⟩, ⟨by decide, by decide, by decide +kernel⟩, tbm 5 (by decide +kernel) rfl, tbm 53 (by decide +kernel) rfl⟩, tbm 52 (by decide +kernel) rfl, rfl, rfl⟩
theorem dX3_init_0 : decode cX3_init 0 = .ok (.aload_n 0, 1) := by decide +kernel
theorem dX3_init_1 : decode cX3_init 1 = .ok (.invokespecial 3, 3) := by decide +kernel
theorem dX3_init_4 : decode cX3_init 4 = .ok (.return_, 1) := by decide +kernel
abbrev mt_X0_init : MT := (RX0, yX0_init, cX0_init, 1, none)
set_option maxRecDepth 100000 in
theorem ok_X0_init : okI mt_X0_init 0 := ⟨⟨⟨rfl, by decide, by decide⟩, ⟨by decide, by decide, by decide +kernel⟩, tbm 6 (by decide +kernel) rfl, tbm 129 (by decide +kernel) rfl⟩, tbm 128 (by decide +kernel) rfl, rfl, rfl⟩
theorem dX0_init_0 : decode cX0_init 0 = .ok (.aload_n 0, 1) := by decide +kernel
theorem dX0_init_1 : decode cX0_init 1 = .ok (.invokespecial 3, 3) := by decide +kernel
theorem dX0_init_4 : decode cX0_init 4 = .ok (.aload_n 0, 1) := by decide +kernel
theorem dX0_init_5 : decode cX0_init 5 = .ok (.bipush 50, 2) := by decide +kernel
theorem dX0_init_7 : decode cX0_init 7 = .ok (.newarray .byte, 2) := by decide +kernel
theorem dX0_init_9 : decode cX0_init 9 = .ok (.putfield 9, 3) := by decide +kernel
theorem dX0_init_12 : decode cX0_init 12 = .ok (.aload_n 0, 1) := by decide +kernel
theorem dX0_init_13 : decode cX0_init 13 = .ok (.bipush 20, 2) := by decide +kernel
theorem dX0_init_15 : decode cX0_init 15 = .ok (.newarray .int, 2) := by decide +kernel
theorem dX0_init_17 : decode cX0_init 17 = .ok (.putfield 15, 3) := by decide +kernel
theorem dX0_init_20 : decode cX0_init 20 = .ok (.aload_n 0, 1) := by decide +kernel
theorem dX0_init_21 : decode cX0_init 21 = .ok (.iconst 1, 1) := by decide +kernel
theorem dX0_init_22 : decode cX0_init 22 = .ok (.putfield 19, 3) := by decide +kernel
theorem dX0_init_25 : decode cX0_init 25 = .ok (.return_, 1) := by decide +kernel
abbrev mt_X4_init : MT := (RX4, yX4_init, cX4_init, 2, none)
set_option maxRecDepth 100000 in
theorem ok_X4_init : okI mt_X4_init 1 := ⟨⟨⟨rfl, by decide, by decide⟩, ⟨by decide, by decide, by decide +kernel⟩, tbm 7 (by decide +kernel) rfl, tbm 159 (by decide +kernel) rfl⟩, tbm 158 (by decide +kernel) rfl, rfl, rfl⟩
theorem dX4_init_0 : decode cX4_init 0 = .ok (.aload_n 0, 1) := by decide +kernel
theorem dX4_init_1 : decode cX4_init 1 = .ok (.invokespecial 3, 3) := by decide +kernel
theorem dX4_init_4 : decode cX4_init 4 = .ok (.aload_n 0, 1) := by decide +kernel
theorem dX4_init_5 : decode cX4_init 5 = .ok (.new 9, 3) := by decide +kernel
theorem dX4_init_8 : decode cX4_init 8 = .ok (.dup, 1) := by decide +kernel
theorem dX4_init_9 : decode cX4_init 9 = .ok (.invokespecial 11, 3) := by decide +kernel
theorem dX4_init_12 : decode cX4_init 12 = .ok (.putfield 12, 3) := by decide +kernel
theorem dX4_init_15 : decode cX4_init 15 = .ok (.aload_n 0, 1) := by decide +kernel
theorem dX4_init_16 : decode cX4_init 16 = .ok (.aload_n 1, 1) := by decide +kernel
theorem dX4_init_17 : decode cX4_init 17 = .ok (.putfield 18, 3) := by decide +kernel
theorem dX4_init_20 : decode cX4_init 20 = .ok (.return_, 1) := by decide +kernel
abbrev mt_X6_init : MT := (RX6, yX6_init, cX6_init, 1, none)
set_option maxRecDepth 100000 in
theorem ok_X6_init : okI mt_X6_init 0 := ⟨⟨⟨rfl, by decide, by decide⟩, ⟨by decide, by decide, by decide +kernel⟩, tbm 8 (by decide +kernel) rfl, tbm 182 (by decide +kernel) rfl⟩, tbm 181 (by decide +kernel) rfl, rfl, rfl⟩
theorem dX6_init_0 : decode cX6_init 0 = .ok (.aload_n 0, 1) := by decide +kernel
theorem dX6_init_1 : decode cX6_init 1 = .ok (.invokespecial 3, 3) := by decide +kernel
theorem dX6_init_4 : decode cX6_init 4 = .ok (.aload_n 0, 1) := by decide +kernel
theorem dX6_init_5 : decode cX6_init 5 = .ok (.bipush 40, 2) := by decide +kernel
theorem dX6_init_7 : decode cX6_init 7 = .ok (.newarray .int, 2) := by decide +kernel
theorem dX6_init_9 : decode cX6_init 9 = .ok (.putfield 9, 3) := by decide +kernel
theorem dX6_init_12 : decode cX6_init 12 = .ok (.return_, 1) := by decide +kernel
abbrev mt_X5_init : MT := (RX5, yX5_init, cX5_init, 1, none)
set_option maxRecDepth 100000 in
theorem ok_X5_init : okI mt_X5_init 0 := ⟨⟨⟨rfl, by decide, by decide⟩, ⟨by decide, by decide, by decide +kernel⟩, tbm 9 (by decide +kernel) rfl, tbm 207 (by decide +kernel) rfl⟩, tbm 206 (by decide +kernel) rfl, rfl, rfl⟩
theorem dX5_init_0 : decode cX5_init 0 = .ok (.aload_n 0, 1) := by decide +kernel
theorem dX5_init_1 : decode cX5_init 1 = .ok (.invokespecial 3, 3) := by decide +kernel
theorem dX5_init_4 : decode cX5_init 4 = .ok (.aload_n 0, 1) := by decide +kernel
theorem dX5_init_5 : decode cX5_init 5 = .ok (.bipush 40, 2) := by decide +kernel
theorem dX5_init_7 : decode cX5_init 7 = .ok (.newarray .int, 2) := by decide +kernel
theorem dX5_init_9 : decode cX5_init 9 = .ok (.putfield 9, 3) := by decide +kernel
theorem dX5_init_12 : decode cX5_init 12 = .ok (.return_, 1) := by decide +kernel
abbrev mt_X8_init : MT := (RX8, yX8_init, cX8_init, 2, none)
set_option maxRecDepth 100000 in
theorem ok_X8_init : okI mt_X8_init 0 := ⟨⟨⟨rfl, by decide, by decide⟩, ⟨by decide, by decide, by decide +kernel⟩, tbm 10 (by decide +kernel) rfl, tbm 683 (by decide +kernel) rfl⟩, tbm 682 (by decide +kernel) rfl, rfl, rfl⟩
theorem dX8_init_0 : decode cX8_init 0 = .ok (.aload_n 0, 1) := by decide +kernel
theorem dX8_init_1 : decode cX8_init 1 = .ok (.invokespecial 1, 3) := by decide +kernel
theorem dX8_init_4 : decode cX8_init 4 = .ok (.aload_n 0, 1) := by decide +kernel
theorem dX8_init_5 : decode cX8_init 5 = .ok (.sipush 268, 3) := by decide +kernel
theorem dX8_init_8 : decode cX8_init 8 = .ok (.newarray .int, 2) := by decide +kernel
theorem dX8_init_10 : decode cX8_init 10 = .ok (.putfield 7, 3) := by decide +kernel
theorem dX8_init_13 : decode cX8_init 13 = .ok (.aload_n 0, 1) := by decide +kernel
theorem dX8_init_14 : decode cX8_init 14 = .ok (.sipush 268, 3) := by decide +kernel
theorem dX8_init_17 : decode cX8_init 17 = .ok (.newarray .int, 2) := by decide +kernel
theorem dX8_init_19 : decode cX8_init 19 = .ok (.putfield 13, 3) := by decide +kernel
theorem dX8_init_22 : decode cX8_init 22 = .ok (.aload_n 0, 1) := by decide +kernel
theorem dX8_init_23 : decode cX8_init 23 = .ok (.bipush 96, 2) := by decide +kernel
theorem dX8_init_25 : decode cX8_init 25 = .ok (.newarray .int, 2) := by decide +kernel
theorem dX8_init_27 : decode cX8_init 27 = .ok (.putfield 16, 3) := by decide +kernel
theorem dX8_init_30 : decode cX8_init 30 = .ok (.aload_n 0, 1) := by decide +kernel
theorem dX8_init_31 : decode cX8_init 31 = .ok (.bipush 6, 2) := by decide +kernel
theorem dX8_init_33 : decode cX8_init 33 = .ok (.newarray .int, 2) := by decide +kernel
theorem dX8_init_35 : decode cX8_init 35 = .ok (.putfield 19, 3) := by decide +kernel
theorem dX8_init_38 : decode cX8_init 38 = .ok (.aload_n 0, 1) := by decide +kernel
theorem dX8_init_39 : decode cX8_init 39 = .ok (.iconst 3, 1) := by decide +kernel
theorem dX8_init_40 : decode cX8_init 40 = .ok (.newarray .int, 2) := by decide +kernel
theorem dX8_init_42 : decode cX8_init 42 = .ok (.putfield 22, 3) := by decide +kernel
theorem dX8_init_45 : decode cX8_init 45 = .ok (.aload_n 0, 1) := by decide +kernel
theorem dX8_init_46 : decode cX8_init 46 = .ok (.bipush 60, 2) := by decide +kernel
theorem dX8_init_48 : decode cX8_init 48 = .ok (.newarray .int, 2) := by decide +kernel
theorem dX8_init_50 : decode cX8_init 50 = .ok (.putfield 25, 3) := by decide +kernel
theorem dX8_init_53 : decode cX8_init 53 = .ok (.aload_n 0, 1) := by decide +kernel
theorem dX8_init_54 : decode cX8_init 54 = .ok (.bipush 60, 2) := by decide +kernel
theorem dX8_init_56 : decode cX8_init 56 = .ok (.newarray .int, 2) := by decide +kernel
theorem dX8_init_58 : decode cX8_init 58 = .ok (.putfield 28, 3) := by decide +kernel
theorem dX8_init_61 : decode cX8_init 61 = .ok (.aload_n 0, 1) := by decide +kernel
theorem dX8_init_62 : decode cX8_init 62 = .ok (.bipush 40, 2) := by decide +kernel
theorem dX8_init_64 : decode cX8_init 64 = .ok (.newarray .int, 2) := by decide +kernel
theorem dX8_init_66 : decode cX8_init 66 = .ok (.putfield 31, 3) := by decide +kernel
theorem dX8_init_69 : decode cX8_init 69 = .ok (.aload_n 0, 1) := by decide +kernel
theorem dX8_init_70 : decode cX8_init 70 = .ok (.iconst 4, 1) := by decide +kernel
theorem dX8_init_71 : decode cX8_init 71 = .ok (.newarray .int, 2) := by decide +kernel
theorem dX8_init_73 : decode cX8_init 73 = .ok (.putfield 34, 3) := by decide +kernel
theorem dX8_init_76 : decode cX8_init 76 = .ok (.aload_n 0, 1) := by decide +kernel
theorem dX8_init_77 : decode cX8_init 77 = .ok (.iconst 4, 1) := by decide +kernel
theorem dX8_init_78 : decode cX8_init 78 = .ok (.newarray .int, 2) := by decide +kernel
theorem dX8_init_80 : decode cX8_init 80 = .ok (.putfield 37, 3) := by decide +kernel
theorem dX8_init_83 : decode cX8_init 83 = .ok (.aload_n 0, 1) := by decide +kernel
theorem dX8_init_84 : decode cX8_init 84 = .ok (.sipush 160, 3) := by decide +kernel
theorem dX8_init_87 : decode cX8_init 87 = .ok (.newarray .int, 2) := by decide +kernel
theorem dX8_init_89 : decode cX8_init 89 = .ok (.putfield 40, 3) := by decide +kernel
theorem dX8_init_92 : decode cX8_init 92 = .ok (.aload_n 0, 1) := by decide +kernel
theorem dX8_init_93 : decode cX8_init 93 = .ok (.bipush 40, 2) := by decide +kernel
theorem dX8_init_95 : decode cX8_init 95 = .ok (.newarray .int, 2) := by decide +kernel
theorem dX8_init_97 : decode cX8_init 97 = .ok (.putfield 43, 3) := by decide +kernel
theorem dX8_init_100 : decode cX8_init 100 = .ok (.iconst 0, 1) := by decide +kernel
theorem dX8_init_101 : decode cX8_init 101 = .ok (.istore_n 1, 1) := by decide +kernel
theorem dX8_init_102 : decode cX8_init 102 = .ok (.iload_n 1, 1) := by decide +kernel
theorem dX8_init_103 : decode cX8_init 103 = .ok (.iconst 5, 1) := by decide +kernel
theorem dX8_init_104 : decode cX8_init 104 = .ok (.if_icmp .ge 35, 3) := by decide +kernel
theorem dX8_init_107 : decode cX8_init 107 = .ok (.aload_n 0, 1) := by decide +kernel
theorem dX8_init_108 : decode cX8_init 108 = .ok (.getfield 7, 3) := by decide +kernel
theorem dX8_init_111 : decode cX8_init 111 = .ok (.bipush 6, 2) := by decide +kernel
theorem dX8_init_113 : decode cX8_init 113 = .ok (.iconst 2, 1) := by decide +kernel
theorem dX8_init_114 : decode cX8_init 114 = .ok (.iload_n 1, 1) := by decide +kernel
theorem dX8_init_115 : decode cX8_init 115 = .ok (.imul, 1) := by decide +kernel
theorem dX8_init_116 : decode cX8_init 116 = .ok (.iadd, 1) := by decide +kernel
theorem dX8_init_117 : decode cX8_init 117 = .ok (.iconst 2, 1) := by decide +kernel
theorem dX8_init_118 : decode cX8_init 118 = .ok (.iastore, 1) := by decide +kernel
theorem dX8_init_119 : decode cX8_init 119 = .ok (.aload_n 0, 1) := by decide +kernel
theorem dX8_init_120 : decode cX8_init 120 = .ok (.getfield 7, 3) := by decide +kernel
theorem dX8_init_123 : decode cX8_init 123 = .ok (.bipush 6, 2) := by decide +kernel
theorem dX8_init_125 : decode cX8_init 125 = .ok (.iconst 2, 1) := by decide +kernel
theorem dX8_init_126 : decode cX8_init 126 = .ok (.iload_n 1, 1) := by decide +kernel
theorem dX8_init_127 : decode cX8_init 127 = .ok (.imul, 1) := by decide +kernel
theorem dX8_init_128 : decode cX8_init 128 = .ok (.iadd, 1) := by decide +kernel
theorem dX8_init_129 : decode cX8_init 129 = .ok (.iconst 1, 1) := by decide +kernel
theorem dX8_init_130 : decode cX8_init 130 = .ok (.iadd, 1) := by decide +kernel
theorem dX8_init_131 : decode cX8_init 131 = .ok (.iconst 5, 1) := by decide +kernel
theorem dX8_init_132 : decode cX8_init 132 = .ok (.iastore, 1) := by decide +kernel
theorem dX8_init_133 : decode cX8_init 133 = .ok (.iinc 1 1, 3) := by decide +kernel
theorem dX8_init_136 : decode cX8_init 136 = .ok (.goto (-34), 3) := by decide +kernel
theorem dX8_init_139 : decode cX8_init 139 = .ok (.aload_n 0, 1) := by decide +kernel
theorem dX8_init_140 : decode cX8_init 140 = .ok (.getfield 7, 3) := by decide +kernel
theorem dX8_init_143 : decode cX8_init 143 = .ok (.iconst 3, 1) := by decide +kernel
theorem dX8_init_144 : decode cX8_init 144 = .ok (.iconst 1, 1) := by decide +kernel
theorem dX8_init_145 : decode cX8_init 145 = .ok (.iastore, 1) := by decide +kernel
theorem dX8_init_146 : decode cX8_init 146 = .ok (.return_, 1) := by decide +kernel
set_option maxRecDepth 100000 in
theorem mo_X2_3 : Cond.methodLink RX2 3 Lib.objectInit ∈ TB := tbm 35 (by decide +kernel) rfl
set_option maxRecDepth 100000 in
theorem fl_X2_9 : Cond.fieldLink RX2 9 (TX2 0).1 (TX2 0).2.1 (TX2 0).2.2.1 ∈ TB := tbm 36 (by decide +kernel) rfl
set_option maxRecDepth 100000 in
theorem fl_X2_15 : Cond.fieldLink RX2 15 (TX2 1).1 (TX2 1).2.1 (TX2 1).2.2.1 ∈ TB := tbm 37 (by decide +kernel) rfl
set_option maxRecDepth 100000 in
set_option maxHeartbeats 8000000 in
theorem X2_init_made (h0 : Nat) : SpecA mt_X2_init 1 2 100 [.ref h0] (fun cA => [(h0, .inr (2, [.null, .null, .int 0]))]) (fun cA w => ∃ a1 a2 : Nat, w = [(h0, .inr (2, [.ref a1, .ref a2, .int 0])), (a1, .inl (cA 0, 50, .inl (fun _ => 0))), (a2, .inl (cA 0, 50, .inl (fun _ => 0)))]) := by
  refine SpecA_of (L := [(0, .ref h0)]) (by decide) rfl rfl (Nat.le_of_ble_eq_true rfl) rfl (fun cA => ?_)
  refine A_aload_n dX2_init_0 0 rfl ?_
  refine A_obj mo_X2_3 oi_i oi_c (by decide) (by decide) dX2_init_1 ?_
  refine A_aload_n dX2_init_4 0 rfl ?_
  refine A_bipush (v := 50) dX2_init_5 (by decide) ?_
  refine A_newi (N' := 50) ar_int (by decide) (by decide) (by decide) (by decide) (by decide) dX2_init_7 (fun q1 => ?_)
  refine A_ws (ws2 := [(h0, .inr (2, [.null, .null, .int 0])), (q1, .inl (cA 0, 50, .inl (fun _ => 0)))]) rfl ?_
  refine A_putF (C0 := RX2) (T := TX2) (ty := tyX2) (k0 := 0) (ws2 := [(h0, .inr (2, [.ref q1, .null, .int 0])), (q1, .inl (cA 0, 50, .inl (fun _ => 0)))]) rfl rfl inT_2 tyX2_ok nmX2 rfl fl_X2_9 0 rfl (by decide) rfl rfl rfl rfl (Nat.le_of_ble_eq_true rfl) rfl dX2_init_9 ?_
  refine A_aload_n dX2_init_12 0 rfl ?_
  refine A_bipush (v := 50) dX2_init_13 (by decide) ?_
  refine A_newi (N' := 50) ar_int (by decide) (by decide) (by decide) (by decide) (by decide) dX2_init_15 (fun q2 => ?_)
  refine A_ws (ws2 := [(h0, .inr (2, [.ref q1, .null, .int 0])), (q1, .inl (cA 0, 50, .inl (fun _ => 0))), (q2, .inl (cA 0, 50, .inl (fun _ => 0)))]) rfl ?_
  refine A_putF (C0 := RX2) (T := TX2) (ty := tyX2) (k0 := 1) (ws2 := [(h0, .inr (2, [.ref q1, .ref q2, .int 0])), (q1, .inl (cA 0, 50, .inl (fun _ => 0))), (q2, .inl (cA 0, 50, .inl (fun _ => 0)))]) rfl rfl inT_2 tyX2_ok nmX2 rfl fl_X2_15 0 rfl (by decide) rfl rfl rfl rfl (Nat.le_of_ble_eq_true rfl) rfl dX2_init_17 ?_
  refine A_ret dX2_init_20 ?_ rfl rfl
  exact ⟨_, _, rfl⟩
set_option maxRecDepth 100000 in
theorem mo_X3_3 : Cond.methodLink RX3 3 Lib.objectInit ∈ TB := tbm 54 (by decide +kernel) rfl
set_option maxRecDepth 100000 in
set_option maxHeartbeats 8000000 in
theorem X3_init_made (h0 : Nat) : SpecA mt_X3_init 1 0 0 [.ref h0] (fun cA => [(h0, .inr (3, [.int 0, .int 0, .int 0, .int 0, .int 0, .int 0, .int 0, .int 0]))]) (fun cA w => w = [(h0, .inr (3, [.int 0, .int 0, .int 0, .int 0, .int 0, .int 0, .int 0, .int 0]))]) := by
  refine SpecA_of (L := [(0, .ref h0)]) (by decide) rfl rfl (Nat.le_of_ble_eq_true rfl) rfl (fun cA => ?_)
  refine A_aload_n dX3_init_0 0 rfl ?_
  refine A_obj mo_X3_3 oi_i oi_c (by decide) (by decide) dX3_init_1 ?_
  refine A_ret dX3_init_4 ?_ rfl rfl
  rfl
set_option maxRecDepth 100000 in
theorem mo_X0_3 : Cond.methodLink RX0 3 Lib.objectInit ∈ TB := tbm 130 (by decide +kernel) rfl
set_option maxRecDepth 100000 in
theorem fl_X0_9 : Cond.fieldLink RX0 9 (TX0 0).1 (TX0 0).2.1 (TX0 0).2.2.1 ∈ TB := tbm 131 (by decide +kernel) rfl
set_option maxRecDepth 100000 in
theorem fl_X0_15 : Cond.fieldLink RX0 15 (TX0 1).1 (TX0 1).2.1 (TX0 1).2.2.1 ∈ TB := tbm 134 (by decide +kernel) rfl
set_option maxRecDepth 100000 in
theorem fl_X0_19 : Cond.fieldLink RX0 19 (TX0 4).1 (TX0 4).2.1 (TX0 4).2.2.1 ∈ TB := tbm 141 (by decide +kernel) rfl
set_option maxRecDepth 100000 in
set_option maxHeartbeats 8000000 in
theorem X0_init_made (h0 : Nat) : SpecA mt_X0_init 1 2 70 [.ref h0] (fun cA => [(h0, .inr (0, [.null, .null, .int 0, .int 0, .int 0]))]) (fun cA w => ∃ a1 a2 : Nat, w = [(h0, .inr (0, [.ref a1, .ref a2, .int 0, .int 0, .int 1])), (a1, .inl (cA 1, 50, .inl (fun _ => 0))), (a2, .inl (cA 0, 20, .inl (fun _ => 0)))]) := by
  refine SpecA_of (L := [(0, .ref h0)]) (by decide) rfl rfl (Nat.le_of_ble_eq_true rfl) rfl (fun cA => ?_)
  refine A_aload_n dX0_init_0 0 rfl ?_
  refine A_obj mo_X0_3 oi_i oi_c (by decide) (by decide) dX0_init_1 ?_
  refine A_aload_n dX0_init_4 0 rfl ?_
  refine A_bipush (v := 50) dX0_init_5 (by decide) ?_
  refine A_newb (N' := 50) ar_byte (by decide) (by decide) (by decide) (by decide) (by decide) dX0_init_7 (fun q1 => ?_)
  refine A_ws (ws2 := [(h0, .inr (0, [.null, .null, .int 0, .int 0, .int 0])), (q1, .inl (cA 1, 50, .inl (fun _ => 0)))]) rfl ?_
  refine A_putF (C0 := RX0) (T := TX0) (ty := tyX0) (k0 := 0) (ws2 := [(h0, .inr (0, [.ref q1, .null, .int 0, .int 0, .int 0])), (q1, .inl (cA 1, 50, .inl (fun _ => 0)))]) rfl rfl inT_0 tyX0_ok nmX0 rfl fl_X0_9 0 rfl (by decide) rfl rfl rfl rfl (Nat.le_of_ble_eq_true rfl) rfl dX0_init_9 ?_
  refine A_aload_n dX0_init_12 0 rfl ?_
  refine A_bipush (v := 20) dX0_init_13 (by decide) ?_
  refine A_newi (N' := 20) ar_int (by decide) (by decide) (by decide) (by decide) (by decide) dX0_init_15 (fun q2 => ?_)
  refine A_ws (ws2 := [(h0, .inr (0, [.ref q1, .null, .int 0, .int 0, .int 0])), (q1, .inl (cA 1, 50, .inl (fun _ => 0))), (q2, .inl (cA 0, 20, .inl (fun _ => 0)))]) rfl ?_
  refine A_putF (C0 := RX0) (T := TX0) (ty := tyX0) (k0 := 1) (ws2 := [(h0, .inr (0, [.ref q1, .ref q2, .int 0, .int 0, .int 0])), (q1, .inl (cA 1, 50, .inl (fun _ => 0))), (q2, .inl (cA 0, 20, .inl (fun _ => 0)))]) rfl rfl inT_0 tyX0_ok nmX0 rfl fl_X0_15 0 rfl (by decide) rfl rfl rfl rfl (Nat.le_of_ble_eq_true rfl) rfl dX0_init_17 ?_
  refine A_aload_n dX0_init_20 0 rfl ?_
  refine A_iconst (v := 1) dX0_init_21 (by decide) ?_
  refine A_put (C0 := RX0) (T := TX0) (ty := tyX0) (k0 := 4) (ws2 := [(h0, .inr (0, [.ref q1, .ref q2, .int 0, .int 0, .int 1])), (q1, .inl (cA 1, 50, .inl (fun _ => 0))), (q2, .inl (cA 0, 20, .inl (fun _ => 0)))]) rfl inT_0 tyX0_ok nmX0 rfl fl_X0_19 0 rfl (by decide) rfl rfl rfl (Nat.le_of_ble_eq_true rfl) rfl dX0_init_22 ?_
  refine A_ret dX0_init_25 ?_ rfl rfl
  exact ⟨_, _, rfl⟩
set_option maxRecDepth 100000 in
theorem mo_X4_3 : Cond.methodLink RX4 3 Lib.objectInit ∈ TB := tbm 160 (by decide +kernel) rfl
set_option maxRecDepth 100000 in
theorem cl_X4_9 : Cond.classLink RX4 9 RX2 ∈ TB := tbm 161 (by decide +kernel) rfl
set_option maxRecDepth 100000 in
theorem fl_X4_12 : Cond.fieldLink RX4 12 (TX4 0).1 (TX4 0).2.1 (TX4 0).2.2.1 ∈ TB := tbm 163 (by decide +kernel) rfl
set_option maxRecDepth 100000 in
theorem fl_X4_18 : Cond.fieldLink RX4 18 (TX4 1).1 (TX4 1).2.1 (TX4 1).2.2.1 ∈ TB := tbm 165 (by decide +kernel) rfl
set_option maxRecDepth 100000 in
set_option maxHeartbeats 8000000 in
theorem X4_init_made (h0 : Nat) (dk : Nat) : SpecA mt_X4_init 2 3 103 [.ref h0, .ref dk] (fun cA => [(h0, .inr (4, [.null, .null, .int 0, .int 0]))]) (fun cA w => ∃ a1 a2 a3 : Nat, w = [(h0, .inr (4, [.ref a1, .ref dk, .int 0, .int 0])), (a1, .inr (2, [.ref a2, .ref a3, .int 0])), (a2, .inl (cA 0, 50, .inl (fun _ => 0))), (a3, .inl (cA 0, 50, .inl (fun _ => 0)))]) := by
  refine SpecA_of (L := [(0, .ref h0), (1, .ref dk)]) (by decide) rfl rfl (Nat.le_of_ble_eq_true rfl) rfl (fun cA => ?_)
  refine A_aload_n dX4_init_0 0 rfl ?_
  refine A_obj mo_X4_3 oi_i oi_c (by decide) (by decide) dX4_init_1 ?_
  refine A_aload_n dX4_init_4 0 rfl ?_
  refine A_new (ci := 2) (C0 := RX2) (T := TX2) (ty := tyX2) (fs := [.null, .null, .int 0]) rfl inT_2 tyX2_ok cl_X4_9 iw_2 in_2 rfl df_2 (by decide) (by decide) dX4_init_5 (fun q1 => ?_)
  refine A_ws (ws2 := [(h0, .inr (4, [.null, .null, .int 0, .int 0])), (q1, .inr (2, [.null, .null, .int 0]))]) rfl ?_
  refine A_dup rfl dX4_init_8 ?_
  refine A_callI (wr := [(h0, .inr (4, [.null, .null, .int 0, .int 0]))]) (X2_init_made q1) ok_X2_init (Or.inr (by simp [nestA])) (by decide) rfl rfl (Nat.le_of_ble_eq_true rfl) [1] [0] rfl rfl (by decide) (by decide) (by decide) (by decide) (by decide) dX4_init_9 ?_
  rintro w ⟨q2, q3, rfl⟩
  refine A_ws (ws2 := [(h0, .inr (4, [.null, .null, .int 0, .int 0])), (q1, .inr (2, [.ref q2, .ref q3, .int 0])), (q2, .inl (cA 0, 50, .inl (fun _ => 0))), (q3, .inl (cA 0, 50, .inl (fun _ => 0)))]) rfl ?_
  refine A_putF (C0 := RX4) (T := TX4) (ty := tyX4) (k0 := 0) (ws2 := [(h0, .inr (4, [.ref q1, .null, .int 0, .int 0])), (q1, .inr (2, [.ref q2, .ref q3, .int 0])), (q2, .inl (cA 0, 50, .inl (fun _ => 0))), (q3, .inl (cA 0, 50, .inl (fun _ => 0)))]) rfl rfl inT_4 tyX4_ok nmX4 rfl fl_X4_12 0 rfl (by decide) rfl rfl rfl rfl (Nat.le_of_ble_eq_true rfl) rfl dX4_init_12 ?_
  refine A_aload_n dX4_init_15 0 rfl ?_
  refine A_aload_n dX4_init_16 1 rfl ?_
  refine A_putF (C0 := RX4) (T := TX4) (ty := tyX4) (k0 := 1) (ws2 := [(h0, .inr (4, [.ref q1, .ref dk, .int 0, .int 0])), (q1, .inr (2, [.ref q2, .ref q3, .int 0])), (q2, .inl (cA 0, 50, .inl (fun _ => 0))), (q3, .inl (cA 0, 50, .inl (fun _ => 0)))]) rfl rfl inT_4 tyX4_ok nmX4 rfl fl_X4_18 0 rfl (by decide) rfl rfl rfl rfl (Nat.le_of_ble_eq_true rfl) rfl dX4_init_17 ?_
  refine A_ret dX4_init_20 ?_ rfl rfl
  exact ⟨_, _, _, rfl⟩
set_option maxRecDepth 100000 in
theorem mo_X6_3 : Cond.methodLink RX6 3 Lib.objectInit ∈ TB := tbm 183 (by decide +kernel) rfl
set_option maxRecDepth 100000 in
theorem fl_X6_9 : Cond.fieldLink RX6 9 (TX6 0).1 (TX6 0).2.1 (TX6 0).2.2.1 ∈ TB := tbm 184 (by decide +kernel) rfl
set_option maxRecDepth 100000 in
set_option maxHeartbeats 8000000 in
theorem X6_init_made (h0 : Nat) : SpecA mt_X6_init 1 1 40 [.ref h0] (fun cA => [(h0, .inr (6, [.null, .int 0, .int 0, .int 0, .int 0]))]) (fun cA w => ∃ a1 : Nat, w = [(h0, .inr (6, [.ref a1, .int 0, .int 0, .int 0, .int 0])), (a1, .inl (cA 0, 40, .inl (fun _ => 0)))]) := by
  refine SpecA_of (L := [(0, .ref h0)]) (by decide) rfl rfl (Nat.le_of_ble_eq_true rfl) rfl (fun cA => ?_)
  refine A_aload_n dX6_init_0 0 rfl ?_
  refine A_obj mo_X6_3 oi_i oi_c (by decide) (by decide) dX6_init_1 ?_
  refine A_aload_n dX6_init_4 0 rfl ?_
  refine A_bipush (v := 40) dX6_init_5 (by decide) ?_
  refine A_newi (N' := 40) ar_int (by decide) (by decide) (by decide) (by decide) (by decide) dX6_init_7 (fun q1 => ?_)
  refine A_ws (ws2 := [(h0, .inr (6, [.null, .int 0, .int 0, .int 0, .int 0])), (q1, .inl (cA 0, 40, .inl (fun _ => 0)))]) rfl ?_
  refine A_putF (C0 := RX6) (T := TX6) (ty := tyX6) (k0 := 0) (ws2 := [(h0, .inr (6, [.ref q1, .int 0, .int 0, .int 0, .int 0])), (q1, .inl (cA 0, 40, .inl (fun _ => 0)))]) rfl rfl inT_6 tyX6_ok nmX6 rfl fl_X6_9 0 rfl (by decide) rfl rfl rfl rfl (Nat.le_of_ble_eq_true rfl) rfl dX6_init_9 ?_
  refine A_ret dX6_init_12 ?_ rfl rfl
  exact ⟨_, rfl⟩
set_option maxRecDepth 100000 in
theorem mo_X5_3 : Cond.methodLink RX5 3 Lib.objectInit ∈ TB := tbm 208 (by decide +kernel) rfl
set_option maxRecDepth 100000 in
theorem fl_X5_9 : Cond.fieldLink RX5 9 (TX5 0).1 (TX5 0).2.1 (TX5 0).2.2.1 ∈ TB := tbm 209 (by decide +kernel) rfl
set_option maxRecDepth 100000 in
set_option maxHeartbeats 8000000 in
theorem X5_init_made (h0 : Nat) : SpecA mt_X5_init 1 1 40 [.ref h0] (fun cA => [(h0, .inr (5, [.null, .int 0, .int 0]))]) (fun cA w => ∃ a1 : Nat, w = [(h0, .inr (5, [.ref a1, .int 0, .int 0])), (a1, .inl (cA 0, 40, .inl (fun _ => 0)))]) := by
  refine SpecA_of (L := [(0, .ref h0)]) (by decide) rfl rfl (Nat.le_of_ble_eq_true rfl) rfl (fun cA => ?_)
  refine A_aload_n dX5_init_0 0 rfl ?_
  refine A_obj mo_X5_3 oi_i oi_c (by decide) (by decide) dX5_init_1 ?_
  refine A_aload_n dX5_init_4 0 rfl ?_
  refine A_bipush (v := 40) dX5_init_5 (by decide) ?_
  refine A_newi (N' := 40) ar_int (by decide) (by decide) (by decide) (by decide) (by decide) dX5_init_7 (fun q1 => ?_)
  refine A_ws (ws2 := [(h0, .inr (5, [.null, .int 0, .int 0])), (q1, .inl (cA 0, 40, .inl (fun _ => 0)))]) rfl ?_
  refine A_putF (C0 := RX5) (T := TX5) (ty := tyX5) (k0 := 0) (ws2 := [(h0, .inr (5, [.ref q1, .int 0, .int 0])), (q1, .inl (cA 0, 40, .inl (fun _ => 0)))]) rfl rfl inT_5 tyX5_ok nmX5 rfl fl_X5_9 0 rfl (by decide) rfl rfl rfl rfl (Nat.le_of_ble_eq_true rfl) rfl dX5_init_9 ?_
  refine A_ret dX5_init_12 ?_ rfl rfl
  exact ⟨_, rfl⟩
theorem mdJ7_fill_53178_0 : decode cJ7_fill_53178 0 = .ok (.iconst 0, 1) := by decide +kernel
theorem mdJ7_fill_53178_1 : decode cJ7_fill_53178 1 = .ok (.istore_n 2, 1) := by decide +kernel
theorem mdJ7_fill_53178_2 : decode cJ7_fill_53178 2 = .ok (.aload_n 0, 1) := by decide +kernel
theorem mdJ7_fill_53178_3 : decode cJ7_fill_53178 3 = .ok (.arraylength, 1) := by decide +kernel
theorem mdJ7_fill_53178_4 : decode cJ7_fill_53178 4 = .ok (.istore_n 3, 1) := by decide +kernel
theorem mdJ7_fill_53178_5 : decode cJ7_fill_53178 5 = .ok (.iload_n 2, 1) := by decide +kernel
theorem mdJ7_fill_53178_6 : decode cJ7_fill_53178 6 = .ok (.iload_n 3, 1) := by decide +kernel
theorem mdJ7_fill_53178_7 : decode cJ7_fill_53178 7 = .ok (.if_icmp .ge 13, 3) := by decide +kernel
theorem mdJ7_fill_53178_10 : decode cJ7_fill_53178 10 = .ok (.aload_n 0, 1) := by decide +kernel
theorem mdJ7_fill_53178_11 : decode cJ7_fill_53178 11 = .ok (.iload_n 2, 1) := by decide +kernel
theorem mdJ7_fill_53178_12 : decode cJ7_fill_53178 12 = .ok (.iload_n 1, 1) := by decide +kernel
theorem mdJ7_fill_53178_13 : decode cJ7_fill_53178 13 = .ok (.iastore, 1) := by decide +kernel
theorem mdJ7_fill_53178_14 : decode cJ7_fill_53178 14 = .ok (.iinc 2 1, 3) := by decide +kernel
theorem mdJ7_fill_53178_17 : decode cJ7_fill_53178 17 = .ok (.goto (-12), 3) := by decide +kernel
theorem mdJ7_fill_53178_20 : decode cJ7_fill_53178 20 = .ok (.return_, 1) := by decide +kernel
set_option maxRecDepth 100000 in
set_option maxHeartbeats 8000000 in
theorem fill_made (h0 : Nat) (v : Int32) : SpecA mt_J7_fill_53178 1 0 0 [.ref h0, .int v] (fun cA => [(h0, .inl (cA 0, 5, .inl (fun _ => 0)))]) (fun cA w => ∃ f : Nat → Int32, (∀ j, j < 5 → f j = v) ∧ w = [(h0, .inl (cA 0, 5, .inl f))]) := by
  refine SpecA_of (L := [(0, .ref h0), (1, .int v)]) (by decide) rfl rfl (Nat.le_of_ble_eq_true rfl) rfl (fun cA => ?_)
  refine A_iconst (v := 0) mdJ7_fill_53178_0 (by decide) ?_
  refine A_istore_n (L2 := [(2, .int 0), (0, .ref h0), (1, .int v)]) mdJ7_fill_53178_1 (by decide) rfl ?_
  refine A_aload_n mdJ7_fill_53178_2 1 rfl ?_
  refine A_alen (v := 5) 0 rfl (by decide) mdJ7_fill_53178_3 ?_
  refine A_istore_n (L2 := [(3, .int 5), (2, .int 0), (0, .ref h0), (1, .int v)]) mdJ7_fill_53178_4 (by decide) rfl ?_
  refine A_iload_n mdJ7_fill_53178_5 1 rfl ?_
  refine A_iload_n mdJ7_fill_53178_6 0 rfl ?_
  refine A_ge_f (by decide) mdJ7_fill_53178_7 (tgt := 20) (by decide) ?_
  refine A_aload_n mdJ7_fill_53178_10 2 rfl ?_
  refine A_iload_n mdJ7_fill_53178_11 1 rfl ?_
  refine A_iload_n mdJ7_fill_53178_12 3 rfl ?_
  obtain ⟨g1, eg1⟩ : ∃ g : Nat → Int32, upd (fun _ => 0) (0 : Int32).toNatClampNeg v = g := ⟨_, rfl⟩
  refine A_iast (f2 := g1) (ws2 := [(h0, .inl (cA 0, 5, .inl g1))]) 0 rfl (ib_in (by decide)) eg1 rfl mdJ7_fill_53178_13 ?_
  refine A_iinc (v := 1) (L2 := [(2, .int 1), (3, .int 5), (0, .ref h0), (1, .int v)]) mdJ7_fill_53178_14 1 rfl (by decide) (by decide) rfl ?_
  refine A_goto (tgt := 5) mdJ7_fill_53178_17 (by decide) ?_
  refine A_iload_n mdJ7_fill_53178_5 0 rfl ?_
  refine A_iload_n mdJ7_fill_53178_6 1 rfl ?_
  refine A_ge_f (by decide) mdJ7_fill_53178_7 (tgt := 20) (by decide) ?_
  refine A_aload_n mdJ7_fill_53178_10 2 rfl ?_
  refine A_iload_n mdJ7_fill_53178_11 0 rfl ?_
  refine A_iload_n mdJ7_fill_53178_12 3 rfl ?_
  obtain ⟨g2, eg2⟩ : ∃ g : Nat → Int32, upd g1 (1 : Int32).toNatClampNeg v = g := ⟨_, rfl⟩
  refine A_iast (f2 := g2) (ws2 := [(h0, .inl (cA 0, 5, .inl g2))]) 0 rfl (ib_in (by decide)) eg2 rfl mdJ7_fill_53178_13 ?_
  refine A_iinc (v := 2) (L2 := [(2, .int 2), (3, .int 5), (0, .ref h0), (1, .int v)]) mdJ7_fill_53178_14 0 rfl (by decide) (by decide) rfl ?_
  refine A_goto (tgt := 5) mdJ7_fill_53178_17 (by decide) ?_
  refine A_iload_n mdJ7_fill_53178_5 0 rfl ?_
  refine A_iload_n mdJ7_fill_53178_6 1 rfl ?_
  refine A_ge_f (by decide) mdJ7_fill_53178_7 (tgt := 20) (by decide) ?_
  refine A_aload_n mdJ7_fill_53178_10 2 rfl ?_
  refine A_iload_n mdJ7_fill_53178_11 0 rfl ?_
  refine A_iload_n mdJ7_fill_53178_12 3 rfl ?_
  obtain ⟨g3, eg3⟩ : ∃ g : Nat → Int32, upd g2 (2 : Int32).toNatClampNeg v = g := ⟨_, rfl⟩
  refine A_iast (f2 := g3) (ws2 := [(h0, .inl (cA 0, 5, .inl g3))]) 0 rfl (ib_in (by decide)) eg3 rfl mdJ7_fill_53178_13 ?_
  refine A_iinc (v := 3) (L2 := [(2, .int 3), (3, .int 5), (0, .ref h0), (1, .int v)]) mdJ7_fill_53178_14 0 rfl (by decide) (by decide) rfl ?_
  refine A_goto (tgt := 5) mdJ7_fill_53178_17 (by decide) ?_
  refine A_iload_n mdJ7_fill_53178_5 0 rfl ?_
  refine A_iload_n mdJ7_fill_53178_6 1 rfl ?_
  refine A_ge_f (by decide) mdJ7_fill_53178_7 (tgt := 20) (by decide) ?_
  refine A_aload_n mdJ7_fill_53178_10 2 rfl ?_
  refine A_iload_n mdJ7_fill_53178_11 0 rfl ?_
  refine A_iload_n mdJ7_fill_53178_12 3 rfl ?_
  obtain ⟨g4, eg4⟩ : ∃ g : Nat → Int32, upd g3 (3 : Int32).toNatClampNeg v = g := ⟨_, rfl⟩
  refine A_iast (f2 := g4) (ws2 := [(h0, .inl (cA 0, 5, .inl g4))]) 0 rfl (ib_in (by decide)) eg4 rfl mdJ7_fill_53178_13 ?_
  refine A_iinc (v := 4) (L2 := [(2, .int 4), (3, .int 5), (0, .ref h0), (1, .int v)]) mdJ7_fill_53178_14 0 rfl (by decide) (by decide) rfl ?_
  refine A_goto (tgt := 5) mdJ7_fill_53178_17 (by decide) ?_
  refine A_iload_n mdJ7_fill_53178_5 0 rfl ?_
  refine A_iload_n mdJ7_fill_53178_6 1 rfl ?_
  refine A_ge_f (by decide) mdJ7_fill_53178_7 (tgt := 20) (by decide) ?_
  refine A_aload_n mdJ7_fill_53178_10 2 rfl ?_
  refine A_iload_n mdJ7_fill_53178_11 0 rfl ?_
  refine A_iload_n mdJ7_fill_53178_12 3 rfl ?_
  obtain ⟨g5, eg5⟩ : ∃ g : Nat → Int32, upd g4 (4 : Int32).toNatClampNeg v = g := ⟨_, rfl⟩
  refine A_iast (f2 := g5) (ws2 := [(h0, .inl (cA 0, 5, .inl g5))]) 0 rfl (ib_in (by decide)) eg5 rfl mdJ7_fill_53178_13 ?_
  refine A_iinc (v := 5) (L2 := [(2, .int 5), (3, .int 5), (0, .ref h0), (1, .int v)]) mdJ7_fill_53178_14 0 rfl (by decide) (by decide) rfl ?_
  refine A_goto (tgt := 5) mdJ7_fill_53178_17 (by decide) ?_
  refine A_iload_n mdJ7_fill_53178_5 0 rfl ?_
  refine A_iload_n mdJ7_fill_53178_6 1 rfl ?_
  refine A_ge_t (by decide) mdJ7_fill_53178_7 (tgt := 20) (by decide) ?_
  refine A_ret mdJ7_fill_53178_20 ?_ rfl rfl
  refine ⟨_, ?_, rfl⟩
  intro j hj
  rcases (show j = 0 ∨ j = 1 ∨ j = 2 ∨ j = 3 ∨ j = 4 by omega) with rfl | rfl | rfl | rfl | rfl <;> subst eg5 eg4 eg3 eg2 eg1 <;> rfl
set_option maxRecDepth 100000 in
theorem mo_X1_3 : Cond.methodLink RX1 3 Lib.objectInit ∈ TB := tbm 27 (by decide +kernel) rfl
set_option maxRecDepth 100000 in
theorem fl_X1_9 : Cond.fieldLink RX1 9 (TX1 0).1 (TX1 0).2.1 (TX1 0).2.2.1 ∈ TB := tbm 94 (by decide +kernel) rfl
set_option maxRecDepth 100000 in
theorem fl_X1_15 : Cond.fieldLink RX1 15 (TX1 1).1 (TX1 1).2.1 (TX1 1).2.2.1 ∈ TB := tbm 96 (by decide +kernel) rfl
set_option maxRecDepth 100000 in
theorem cl_X1_18 : Cond.classLink RX1 18 RX3 ∈ TB := tbm 28 (by decide +kernel) rfl
set_option maxRecDepth 100000 in
theorem fl_X1_20 : Cond.fieldLink RX1 20 (TX1 2).1 (TX1 2).2.1 (TX1 2).2.2.1 ∈ TB := tbm 98 (by decide +kernel) rfl
set_option maxRecDepth 100000 in
theorem cl_X1_24 : Cond.classLink RX1 24 RX2 ∈ TB := tbm 30 (by decide +kernel) rfl
set_option maxRecDepth 100000 in
theorem fl_X1_27 : Cond.fieldLink RX1 27 (TX1 3).1 (TX1 3).2.1 (TX1 3).2.2.1 ∈ TB := tbm 100 (by decide +kernel) rfl
set_option maxRecDepth 100000 in
theorem fl_X1_31 : Cond.fieldLink RX1 31 (TX1 4).1 (TX1 4).2.1 (TX1 4).2.2.1 ∈ TB := tbm 101 (by decide +kernel) rfl
set_option maxRecDepth 100000 in
theorem ms_X1_34 : Cond.methodLink RX1 34 yJ7_fill_53178 ∈ TB := tbm 47 (by decide +kernel) rfl
set_option maxRecDepth 100000 in
set_option maxHeartbeats 8000000 in
theorem X1_init_made (h0 : Nat) : SpecA mt_X1_init 2 19 306 [.ref h0] (fun cA => [(h0, .inr (1, [.null, .null, .null, .null, .null, .int 0, .int 0, .int 0]))]) (fun cA w => ∃ a1 a2 a3 a4 a5 a6 a7 a8 a9 a10 a11 a12 a13 a14 a15 a16 a17 a18 a19 : Nat, ∃ f1 : Nat → Option Nat, ∃ f2 : Nat → Int32, ∃ f3 : Nat → Int32, (f1 0 = some a10 ∧ f1 1 = some a11 ∧ f1 2 = some a12 ∧ f1 3 = some a13 ∧ f1 4 = some a14 ∧ f1 5 = some a15 ∧ f1 6 = some a16 ∧ f1 7 = some a17 ∧ f1 8 = some a18 ∧ f1 9 = some a19) ∧ (∀ j, j < 5 → f2 j = 2) ∧ (∀ j, j < 5 → f3 j = 5) ∧ w = [(h0, .inr (1, [.ref a8, .ref a9, .ref a1, .ref a2, .ref a5, .int 0, .int 0, .int 0])), (a1, .inl (cA 2, 10, .inr (.inr (.inr (.inr f1))))), (a2, .inr (2, [.ref a3, .ref a4, .int 0])), (a3, .inl (cA 0, 50, .inl (fun _ => 0))), (a4, .inl (cA 0, 50, .inl (fun _ => 0))), (a5, .inr (2, [.ref a6, .ref a7, .int 0])), (a6, .inl (cA 0, 50, .inl (fun _ => 0))), (a7, .inl (cA 0, 50, .inl (fun _ => 0))), (a8, .inl (cA 0, 5, .inl f2)), (a9, .inl (cA 0, 5, .inl f3)), (a10, .inr (3, [.int 0, .int 0, .int 0, .int 0, .int 0, .int 0, .int 0, .int 0])), (a11, .inr (3, [.int 0, .int 0, .int 0, .int 0, .int 0, .int 0, .int 0, .int 0])), (a12, .inr (3, [.int 0, .int 0, .int 0, .int 0, .int 0, .int 0, .int 0, .int 0])), (a13, .inr (3, [.int 0, .int 0, .int 0, .int 0, .int 0, .int 0, .int 0, .int 0])), (a14, .inr (3, [.int 0, .int 0, .int 0, .int 0, .int 0, .int 0, .int 0, .int 0])), (a15, .inr (3, [.int 0, .int 0, .int 0, .int 0, .int 0, .int 0, .int 0, .int 0])), (a16, .inr (3, [.int 0, .int 0, .int 0, .int 0, .int 0, .int 0, .int 0, .int 0])), (a17, .inr (3, [.int 0, .int 0, .int 0, .int 0, .int 0, .int 0, .int 0, .int 0])), (a18, .inr (3, [.int 0, .int 0, .int 0, .int 0, .int 0, .int 0, .int 0, .int 0])), (a19, .inr (3, [.int 0, .int 0, .int 0, .int 0, .int 0, .int 0, .int 0, .int 0]))]) := by
  refine SpecA_of (L := [(0, .ref h0)]) (by decide) rfl rfl (Nat.le_of_ble_eq_true rfl) rfl (fun cA => ?_)
  refine A_aload_n dX1_init_0 0 rfl ?_
  refine A_obj mo_X1_3 oi_i oi_c (by decide) (by decide) dX1_init_1 ?_
  refine A_aload_n dX1_init_4 0 rfl ?_
  refine A_iconst (v := 5) dX1_init_5 (by decide) ?_
  refine A_newi (N' := 5) ar_int (by decide) (by decide) (by decide) (by decide) (by decide) dX1_init_6 (fun q1 => ?_)
  refine A_ws (ws2 := [(h0, .inr (1, [.null, .null, .null, .null, .null, .int 0, .int 0, .int 0])), (q1, .inl (cA 0, 5, .inl (fun _ => 0)))]) rfl ?_
  refine A_putF (C0 := RX1) (T := TX1) (ty := tyX1) (k0 := 0) (ws2 := [(h0, .inr (1, [.ref q1, .null, .null, .null, .null, .int 0, .int 0, .int 0])), (q1, .inl (cA 0, 5, .inl (fun _ => 0)))]) rfl rfl inT_1 tyX1_ok nmX1 rfl fl_X1_9 0 rfl (by decide) rfl rfl rfl rfl (Nat.le_of_ble_eq_true rfl) rfl dX1_init_8 ?_
  refine A_aload_n dX1_init_11 0 rfl ?_
  refine A_iconst (v := 5) dX1_init_12 (by decide) ?_
  refine A_newi (N' := 5) ar_int (by decide) (by decide) (by decide) (by decide) (by decide) dX1_init_13 (fun q2 => ?_)
  refine A_ws (ws2 := [(h0, .inr (1, [.ref q1, .null, .null, .null, .null, .int 0, .int 0, .int 0])), (q1, .inl (cA 0, 5, .inl (fun _ => 0))), (q2, .inl (cA 0, 5, .inl (fun _ => 0)))]) rfl ?_
  refine A_putF (C0 := RX1) (T := TX1) (ty := tyX1) (k0 := 1) (ws2 := [(h0, .inr (1, [.ref q1, .ref q2, .null, .null, .null, .int 0, .int 0, .int 0])), (q1, .inl (cA 0, 5, .inl (fun _ => 0))), (q2, .inl (cA 0, 5, .inl (fun _ => 0)))]) rfl rfl inT_1 tyX1_ok nmX1 rfl fl_X1_15 0 rfl (by decide) rfl rfl rfl rfl (Nat.le_of_ble_eq_true rfl) rfl dX1_init_15 ?_
  refine A_aload_n dX1_init_18 0 rfl ?_
  refine A_bipush (v := 10) dX1_init_19 (by decide) ?_
  refine A_newq (C0 := RX3) (N' := 10) (j := 2) rfl (Or.inl ⟨rfl, rfl⟩) cl_X1_18 (by decide) (by decide) (by decide) (by decide) (by decide) dX1_init_21 (fun q3 => ?_)
  refine A_ws (ws2 := [(h0, .inr (1, [.ref q1, .ref q2, .null, .null, .null, .int 0, .int 0, .int 0])), (q1, .inl (cA 0, 5, .inl (fun _ => 0))), (q2, .inl (cA 0, 5, .inl (fun _ => 0))), (q3, .inl (cA 2, 10, .inr (.inr (.inr (.inr (fun _ => none))))))]) rfl ?_
  refine A_putF (C0 := RX1) (T := TX1) (ty := tyX1) (k0 := 2) (ws2 := [(h0, .inr (1, [.ref q1, .ref q2, .ref q3, .null, .null, .int 0, .int 0, .int 0])), (q1, .inl (cA 0, 5, .inl (fun _ => 0))), (q2, .inl (cA 0, 5, .inl (fun _ => 0))), (q3, .inl (cA 2, 10, .inr (.inr (.inr (.inr (fun _ => none))))))]) rfl rfl inT_1 tyX1_ok nmX1 rfl fl_X1_20 0 rfl (by decide) rfl rfl rfl rfl (Nat.le_of_ble_eq_true rfl) rfl dX1_init_24 ?_
  refine A_aload_n dX1_init_27 0 rfl ?_
  refine A_new (ci := 2) (C0 := RX2) (T := TX2) (ty := tyX2) (fs := [.null, .null, .int 0]) rfl inT_2 tyX2_ok cl_X1_24 iw_2 in_2 rfl df_2 (by decide) (by decide) dX1_init_28 (fun q4 => ?_)
  refine A_ws (ws2 := [(h0, .inr (1, [.ref q1, .ref q2, .ref q3, .null, .null, .int 0, .int 0, .int 0])), (q1, .inl (cA 0, 5, .inl (fun _ => 0))), (q2, .inl (cA 0, 5, .inl (fun _ => 0))), (q3, .inl (cA 2, 10, .inr (.inr (.inr (.inr (fun _ => none)))))), (q4, .inr (2, [.null, .null, .int 0]))]) rfl ?_
  refine A_dup rfl dX1_init_31 ?_
  refine A_callI (wr := [(h0, .inr (1, [.ref q1, .ref q2, .ref q3, .null, .null, .int 0, .int 0, .int 0])), (q1, .inl (cA 0, 5, .inl (fun _ => 0))), (q2, .inl (cA 0, 5, .inl (fun _ => 0))), (q3, .inl (cA 2, 10, .inr (.inr (.inr (.inr (fun _ => none))))))]) (X2_init_made q4) ok_X2_init (Or.inr (by simp [nestA])) (by decide) rfl rfl (Nat.le_of_ble_eq_true rfl) [4] [0, 1, 2, 3] rfl rfl (by decide) (by decide) (by decide) (by decide) (by decide) dX1_init_32 ?_
  rintro w ⟨q5, q6, rfl⟩
  refine A_ws (ws2 := [(h0, .inr (1, [.ref q1, .ref q2, .ref q3, .null, .null, .int 0, .int 0, .int 0])), (q1, .inl (cA 0, 5, .inl (fun _ => 0))), (q2, .inl (cA 0, 5, .inl (fun _ => 0))), (q3, .inl (cA 2, 10, .inr (.inr (.inr (.inr (fun _ => none)))))), (q4, .inr (2, [.ref q5, .ref q6, .int 0])), (q5, .inl (cA 0, 50, .inl (fun _ => 0))), (q6, .inl (cA 0, 50, .inl (fun _ => 0)))]) rfl ?_
  refine A_putF (C0 := RX1) (T := TX1) (ty := tyX1) (k0 := 3) (ws2 := [(h0, .inr (1, [.ref q1, .ref q2, .ref q3, .ref q4, .null, .int 0, .int 0, .int 0])), (q1, .inl (cA 0, 5, .inl (fun _ => 0))), (q2, .inl (cA 0, 5, .inl (fun _ => 0))), (q3, .inl (cA 2, 10, .inr (.inr (.inr (.inr (fun _ => none)))))), (q4, .inr (2, [.ref q5, .ref q6, .int 0])), (q5, .inl (cA 0, 50, .inl (fun _ => 0))), (q6, .inl (cA 0, 50, .inl (fun _ => 0)))]) rfl rfl inT_1 tyX1_ok nmX1 rfl fl_X1_27 0 rfl (by decide) rfl rfl rfl rfl (Nat.le_of_ble_eq_true rfl) rfl dX1_init_35 ?_
  refine A_aload_n dX1_init_38 0 rfl ?_
  refine A_new (ci := 2) (C0 := RX2) (T := TX2) (ty := tyX2) (fs := [.null, .null, .int 0]) rfl inT_2 tyX2_ok cl_X1_24 iw_2 in_2 rfl df_2 (by decide) (by decide) dX1_init_39 (fun q7 => ?_)
  refine A_ws (ws2 := [(h0, .inr (1, [.ref q1, .ref q2, .ref q3, .ref q4, .null, .int 0, .int 0, .int 0])), (q1, .inl (cA 0, 5, .inl (fun _ => 0))), (q2, .inl (cA 0, 5, .inl (fun _ => 0))), (q3, .inl (cA 2, 10, .inr (.inr (.inr (.inr (fun _ => none)))))), (q4, .inr (2, [.ref q5, .ref q6, .int 0])), (q5, .inl (cA 0, 50, .inl (fun _ => 0))), (q6, .inl (cA 0, 50, .inl (fun _ => 0))), (q7, .inr (2, [.null, .null, .int 0]))]) rfl ?_
  refine A_dup rfl dX1_init_42 ?_
  refine A_callI (wr := [(h0, .inr (1, [.ref q1, .ref q2, .ref q3, .ref q4, .null, .int 0, .int 0, .int 0])), (q1, .inl (cA 0, 5, .inl (fun _ => 0))), (q2, .inl (cA 0, 5, .inl (fun _ => 0))), (q3, .inl (cA 2, 10, .inr (.inr (.inr (.inr (fun _ => none)))))), (q4, .inr (2, [.ref q5, .ref q6, .int 0])), (q5, .inl (cA 0, 50, .inl (fun _ => 0))), (q6, .inl (cA 0, 50, .inl (fun _ => 0)))]) (X2_init_made q7) ok_X2_init (Or.inr (by simp [nestA])) (by decide) rfl rfl (Nat.le_of_ble_eq_true rfl) [7] [0, 1, 2, 3, 4, 5, 6] rfl rfl (by decide) (by decide) (by decide) (by decide) (by decide) dX1_init_43 ?_
  rintro w ⟨q8, q9, rfl⟩
  refine A_ws (ws2 := [(h0, .inr (1, [.ref q1, .ref q2, .ref q3, .ref q4, .null, .int 0, .int 0, .int 0])), (q1, .inl (cA 0, 5, .inl (fun _ => 0))), (q2, .inl (cA 0, 5, .inl (fun _ => 0))), (q3, .inl (cA 2, 10, .inr (.inr (.inr (.inr (fun _ => none)))))), (q4, .inr (2, [.ref q5, .ref q6, .int 0])), (q5, .inl (cA 0, 50, .inl (fun _ => 0))), (q6, .inl (cA 0, 50, .inl (fun _ => 0))), (q7, .inr (2, [.ref q8, .ref q9, .int 0])), (q8, .inl (cA 0, 50, .inl (fun _ => 0))), (q9, .inl (cA 0, 50, .inl (fun _ => 0)))]) rfl ?_
  refine A_putF (C0 := RX1) (T := TX1) (ty := tyX1) (k0 := 4) (ws2 := [(h0, .inr (1, [.ref q1, .ref q2, .ref q3, .ref q4, .ref q7, .int 0, .int 0, .int 0])), (q1, .inl (cA 0, 5, .inl (fun _ => 0))), (q2, .inl (cA 0, 5, .inl (fun _ => 0))), (q3, .inl (cA 2, 10, .inr (.inr (.inr (.inr (fun _ => none)))))), (q4, .inr (2, [.ref q5, .ref q6, .int 0])), (q5, .inl (cA 0, 50, .inl (fun _ => 0))), (q6, .inl (cA 0, 50, .inl (fun _ => 0))), (q7, .inr (2, [.ref q8, .ref q9, .int 0])), (q8, .inl (cA 0, 50, .inl (fun _ => 0))), (q9, .inl (cA 0, 50, .inl (fun _ => 0)))]) rfl rfl inT_1 tyX1_ok nmX1 rfl fl_X1_31 0 rfl (by decide) rfl rfl rfl rfl (Nat.le_of_ble_eq_true rfl) rfl dX1_init_46 ?_
  refine A_aload_n dX1_init_49 0 rfl ?_
  refine A_get (C0 := RX1) (T := TX1) (k0 := 0) (v := .ref q1) rfl inT_1 rfl fl_X1_9 0 rfl (by decide) rfl dX1_init_50 ?_
  refine A_iconst (v := 2) dX1_init_53 (by decide) ?_
  refine A_callS (wr := [(h0, .inr (1, [.ref q1, .ref q2, .ref q3, .ref q4, .ref q7, .int 0, .int 0, .int 0])), (q2, .inl (cA 0, 5, .inl (fun _ => 0))), (q3, .inl (cA 2, 10, .inr (.inr (.inr (.inr (fun _ => none)))))), (q4, .inr (2, [.ref q5, .ref q6, .int 0])), (q5, .inl (cA 0, 50, .inl (fun _ => 0))), (q6, .inl (cA 0, 50, .inl (fun _ => 0))), (q7, .inr (2, [.ref q8, .ref q9, .int 0])), (q8, .inl (cA 0, 50, .inl (fun _ => 0))), (q9, .inl (cA 0, 50, .inl (fun _ => 0)))]) (fill_made q1 2) ok_J7_fill_53178 rfl ms_X1_34 (by decide) rfl rfl (Nat.le_of_ble_eq_true rfl) [1] [0, 2, 3, 4, 5, 6, 7, 8, 9] rfl rfl (by decide) (by decide) (by decide) (by decide) (by decide) dX1_init_54 ?_
  rintro w ⟨g10, h11, rfl⟩
  refine A_ws (ws2 := [(h0, .inr (1, [.ref q1, .ref q2, .ref q3, .ref q4, .ref q7, .int 0, .int 0, .int 0])), (q2, .inl (cA 0, 5, .inl (fun _ => 0))), (q3, .inl (cA 2, 10, .inr (.inr (.inr (.inr (fun _ => none)))))), (q4, .inr (2, [.ref q5, .ref q6, .int 0])), (q5, .inl (cA 0, 50, .inl (fun _ => 0))), (q6, .inl (cA 0, 50, .inl (fun _ => 0))), (q7, .inr (2, [.ref q8, .ref q9, .int 0])), (q8, .inl (cA 0, 50, .inl (fun _ => 0))), (q9, .inl (cA 0, 50, .inl (fun _ => 0))), (q1, .inl (cA 0, 5, .inl g10))]) rfl ?_
  refine A_aload_n dX1_init_57 0 rfl ?_
  refine A_get (C0 := RX1) (T := TX1) (k0 := 1) (v := .ref q2) rfl inT_1 rfl fl_X1_15 0 rfl (by decide) rfl dX1_init_58 ?_
  refine A_iconst (v := 5) dX1_init_61 (by decide) ?_
  refine A_callS (wr := [(h0, .inr (1, [.ref q1, .ref q2, .ref q3, .ref q4, .ref q7, .int 0, .int 0, .int 0])), (q3, .inl (cA 2, 10, .inr (.inr (.inr (.inr (fun _ => none)))))), (q4, .inr (2, [.ref q5, .ref q6, .int 0])), (q5, .inl (cA 0, 50, .inl (fun _ => 0))), (q6, .inl (cA 0, 50, .inl (fun _ => 0))), (q7, .inr (2, [.ref q8, .ref q9, .int 0])), (q8, .inl (cA 0, 50, .inl (fun _ => 0))), (q9, .inl (cA 0, 50, .inl (fun _ => 0))), (q1, .inl (cA 0, 5, .inl g10))]) (fill_made q2 5) ok_J7_fill_53178 rfl ms_X1_34 (by decide) rfl rfl (Nat.le_of_ble_eq_true rfl) [1] [0, 2, 3, 4, 5, 6, 7, 8, 9] rfl rfl (by decide) (by decide) (by decide) (by decide) (by decide) dX1_init_62 ?_
  rintro w ⟨g12, h13, rfl⟩
  refine A_ws (ws2 := [(h0, .inr (1, [.ref q1, .ref q2, .ref q3, .ref q4, .ref q7, .int 0, .int 0, .int 0])), (q3, .inl (cA 2, 10, .inr (.inr (.inr (.inr (fun _ => none)))))), (q4, .inr (2, [.ref q5, .ref q6, .int 0])), (q5, .inl (cA 0, 50, .inl (fun _ => 0))), (q6, .inl (cA 0, 50, .inl (fun _ => 0))), (q7, .inr (2, [.ref q8, .ref q9, .int 0])), (q8, .inl (cA 0, 50, .inl (fun _ => 0))), (q9, .inl (cA 0, 50, .inl (fun _ => 0))), (q1, .inl (cA 0, 5, .inl g10)), (q2, .inl (cA 0, 5, .inl g12))]) rfl ?_
  refine A_iconst (v := 0) dX1_init_65 (by decide) ?_
  refine A_istore_n (L2 := [(1, .int 0), (0, .ref h0)]) dX1_init_66 (by decide) rfl ?_
  refine A_iload_n dX1_init_67 0 rfl ?_
  refine A_bipush (v := 10) dX1_init_68 (by decide) ?_
  refine A_ge_f (by decide) dX1_init_70 (tgt := 92) (by decide) ?_
  refine A_aload_n dX1_init_73 1 rfl ?_
  refine A_get (C0 := RX1) (T := TX1) (k0 := 2) (v := .ref q3) rfl inT_1 rfl fl_X1_20 0 rfl (by decide) rfl dX1_init_74 ?_
  refine A_iload_n dX1_init_77 0 rfl ?_
  refine A_new (ci := 3) (C0 := RX3) (T := TX3) (ty := tyX3) (fs := [.int 0, .int 0, .int 0, .int 0, .int 0, .int 0, .int 0, .int 0]) rfl inT_3 tyX3_ok cl_X1_18 iw_3 in_3 rfl df_3 (by decide) (by decide) dX1_init_78 (fun q14 => ?_)
  refine A_ws (ws2 := [(h0, .inr (1, [.ref q1, .ref q2, .ref q3, .ref q4, .ref q7, .int 0, .int 0, .int 0])), (q3, .inl (cA 2, 10, .inr (.inr (.inr (.inr (fun _ => none)))))), (q4, .inr (2, [.ref q5, .ref q6, .int 0])), (q5, .inl (cA 0, 50, .inl (fun _ => 0))), (q6, .inl (cA 0, 50, .inl (fun _ => 0))), (q7, .inr (2, [.ref q8, .ref q9, .int 0])), (q8, .inl (cA 0, 50, .inl (fun _ => 0))), (q9, .inl (cA 0, 50, .inl (fun _ => 0))), (q1, .inl (cA 0, 5, .inl g10)), (q2, .inl (cA 0, 5, .inl g12)), (q14, .inr (3, [.int 0, .int 0, .int 0, .int 0, .int 0, .int 0, .int 0, .int 0]))]) rfl ?_
  refine A_dup rfl dX1_init_81 ?_
  refine A_callI (wr := [(h0, .inr (1, [.ref q1, .ref q2, .ref q3, .ref q4, .ref q7, .int 0, .int 0, .int 0])), (q3, .inl (cA 2, 10, .inr (.inr (.inr (.inr (fun _ => none)))))), (q4, .inr (2, [.ref q5, .ref q6, .int 0])), (q5, .inl (cA 0, 50, .inl (fun _ => 0))), (q6, .inl (cA 0, 50, .inl (fun _ => 0))), (q7, .inr (2, [.ref q8, .ref q9, .int 0])), (q8, .inl (cA 0, 50, .inl (fun _ => 0))), (q9, .inl (cA 0, 50, .inl (fun _ => 0))), (q1, .inl (cA 0, 5, .inl g10)), (q2, .inl (cA 0, 5, .inl g12))]) (X3_init_made q14) ok_X3_init (Or.inr (by simp [nestA])) (by decide) rfl rfl (Nat.le_of_ble_eq_true rfl) [10] [0, 1, 2, 3, 4, 5, 6, 7, 8, 9] rfl rfl (by decide) (by decide) (by decide) (by decide) (by decide) dX1_init_82 ?_
  rintro w ⟨rfl⟩
  refine A_ws (ws2 := [(h0, .inr (1, [.ref q1, .ref q2, .ref q3, .ref q4, .ref q7, .int 0, .int 0, .int 0])), (q3, .inl (cA 2, 10, .inr (.inr (.inr (.inr (fun _ => none)))))), (q4, .inr (2, [.ref q5, .ref q6, .int 0])), (q5, .inl (cA 0, 50, .inl (fun _ => 0))), (q6, .inl (cA 0, 50, .inl (fun _ => 0))), (q7, .inr (2, [.ref q8, .ref q9, .int 0])), (q8, .inl (cA 0, 50, .inl (fun _ => 0))), (q9, .inl (cA 0, 50, .inl (fun _ => 0))), (q1, .inl (cA 0, 5, .inl g10)), (q2, .inl (cA 0, 5, .inl g12)), (q14, .inr (3, [.int 0, .int 0, .int 0, .int 0, .int 0, .int 0, .int 0, .int 0]))]) rfl ?_
  obtain ⟨g15, eg15⟩ : ∃ g : Nat → Option Nat, va_up (fun _ => none) (0 : Int32).toNatClampNeg (some q14) = g := ⟨_, rfl⟩
  refine A_astq (j := 2) (ci := 3) (f2 := g15) (ws2 := [(h0, .inr (1, [.ref q1, .ref q2, .ref q3, .ref q4, .ref q7, .int 0, .int 0, .int 0])), (q3, .inl (cA 2, 10, .inr (.inr (.inr (.inr g15))))), (q4, .inr (2, [.ref q5, .ref q6, .int 0])), (q5, .inl (cA 0, 50, .inl (fun _ => 0))), (q6, .inl (cA 0, 50, .inl (fun _ => 0))), (q7, .inr (2, [.ref q8, .ref q9, .int 0])), (q8, .inl (cA 0, 50, .inl (fun _ => 0))), (q9, .inl (cA 0, 50, .inl (fun _ => 0))), (q1, .inl (cA 0, 5, .inl g10)), (q2, .inl (cA 0, 5, .inl g12)), (q14, .inr (3, [.int 0, .int 0, .int 0, .int 0, .int 0, .int 0, .int 0, .int 0]))]) 1 10 rfl rfl rfl rfl (ib_in (by decide)) eg15 rfl dX1_init_85 ?_
  refine A_iinc (v := 1) (L2 := [(1, .int 1), (0, .ref h0)]) dX1_init_86 0 rfl (by decide) (by decide) rfl ?_
  refine A_goto (tgt := 67) dX1_init_89 (by decide) ?_
  refine A_iload_n dX1_init_67 0 rfl ?_
  refine A_bipush (v := 10) dX1_init_68 (by decide) ?_
  refine A_ge_f (by decide) dX1_init_70 (tgt := 92) (by decide) ?_
  refine A_aload_n dX1_init_73 1 rfl ?_
  refine A_get (C0 := RX1) (T := TX1) (k0 := 2) (v := .ref q3) rfl inT_1 rfl fl_X1_20 0 rfl (by decide) rfl dX1_init_74 ?_
  refine A_iload_n dX1_init_77 0 rfl ?_
  refine A_new (ci := 3) (C0 := RX3) (T := TX3) (ty := tyX3) (fs := [.int 0, .int 0, .int 0, .int 0, .int 0, .int 0, .int 0, .int 0]) rfl inT_3 tyX3_ok cl_X1_18 iw_3 in_3 rfl df_3 (by decide) (by decide) dX1_init_78 (fun q16 => ?_)
  refine A_ws (ws2 := [(h0, .inr (1, [.ref q1, .ref q2, .ref q3, .ref q4, .ref q7, .int 0, .int 0, .int 0])), (q3, .inl (cA 2, 10, .inr (.inr (.inr (.inr g15))))), (q4, .inr (2, [.ref q5, .ref q6, .int 0])), (q5, .inl (cA 0, 50, .inl (fun _ => 0))), (q6, .inl (cA 0, 50, .inl (fun _ => 0))), (q7, .inr (2, [.ref q8, .ref q9, .int 0])), (q8, .inl (cA 0, 50, .inl (fun _ => 0))), (q9, .inl (cA 0, 50, .inl (fun _ => 0))), (q1, .inl (cA 0, 5, .inl g10)), (q2, .inl (cA 0, 5, .inl g12)), (q14, .inr (3, [.int 0, .int 0, .int 0, .int 0, .int 0, .int 0, .int 0, .int 0])), (q16, .inr (3, [.int 0, .int 0, .int 0, .int 0, .int 0, .int 0, .int 0, .int 0]))]) rfl ?_
  refine A_dup rfl dX1_init_81 ?_
  refine A_callI (wr := [(h0, .inr (1, [.ref q1, .ref q2, .ref q3, .ref q4, .ref q7, .int 0, .int 0, .int 0])), (q3, .inl (cA 2, 10, .inr (.inr (.inr (.inr g15))))), (q4, .inr (2, [.ref q5, .ref q6, .int 0])), (q5, .inl (cA 0, 50, .inl (fun _ => 0))), (q6, .inl (cA 0, 50, .inl (fun _ => 0))), (q7, .inr (2, [.ref q8, .ref q9, .int 0])), (q8, .inl (cA 0, 50, .inl (fun _ => 0))), (q9, .inl (cA 0, 50, .inl (fun _ => 0))), (q1, .inl (cA 0, 5, .inl g10)), (q2, .inl (cA 0, 5, .inl g12)), (q14, .inr (3, [.int 0, .int 0, .int 0, .int 0, .int 0, .int 0, .int 0, .int 0]))]) (X3_init_made q16) ok_X3_init (Or.inr (by simp [nestA])) (by decide) rfl rfl (Nat.le_of_ble_eq_true rfl) [11] [0, 1, 2, 3, 4, 5, 6, 7, 8, 9, 10] rfl rfl (by decide) (by decide) (by decide) (by decide) (by decide) dX1_init_82 ?_
  rintro w ⟨rfl⟩
  refine A_ws (ws2 := [(h0, .inr (1, [.ref q1, .ref q2, .ref q3, .ref q4, .ref q7, .int 0, .int 0, .int 0])), (q3, .inl (cA 2, 10, .inr (.inr (.inr (.inr g15))))), (q4, .inr (2, [.ref q5, .ref q6, .int 0])), (q5, .inl (cA 0, 50, .inl (fun _ => 0))), (q6, .inl (cA 0, 50, .inl (fun _ => 0))), (q7, .inr (2, [.ref q8, .ref q9, .int 0])), (q8, .inl (cA 0, 50, .inl (fun _ => 0))), (q9, .inl (cA 0, 50, .inl (fun _ => 0))), (q1, .inl (cA 0, 5, .inl g10)), (q2, .inl (cA 0, 5, .inl g12)), (q14, .inr (3, [.int 0, .int 0, .int 0, .int 0, .int 0, .int 0, .int 0, .int 0])), (q16, .inr (3, [.int 0, .int 0, .int 0, .int 0, .int 0, .int 0, .int 0, .int 0]))]) rfl ?_
  obtain ⟨g17, eg17⟩ : ∃ g : Nat → Option Nat, va_up g15 (1 : Int32).toNatClampNeg (some q16) = g := ⟨_, rfl⟩
  refine A_astq (j := 2) (ci := 3) (f2 := g17) (ws2 := [(h0, .inr (1, [.ref q1, .ref q2, .ref q3, .ref q4, .ref q7, .int 0, .int 0, .int 0])), (q3, .inl (cA 2, 10, .inr (.inr (.inr (.inr g17))))), (q4, .inr (2, [.ref q5, .ref q6, .int 0])), (q5, .inl (cA 0, 50, .inl (fun _ => 0))), (q6, .inl (cA 0, 50, .inl (fun _ => 0))), (q7, .inr (2, [.ref q8, .ref q9, .int 0])), (q8, .inl (cA 0, 50, .inl (fun _ => 0))), (q9, .inl (cA 0, 50, .inl (fun _ => 0))), (q1, .inl (cA 0, 5, .inl g10)), (q2, .inl (cA 0, 5, .inl g12)), (q14, .inr (3, [.int 0, .int 0, .int 0, .int 0, .int 0, .int 0, .int 0, .int 0])), (q16, .inr (3, [.int 0, .int 0, .int 0, .int 0, .int 0, .int 0, .int 0, .int 0]))]) 1 11 rfl rfl rfl rfl (ib_in (by decide)) eg17 rfl dX1_init_85 ?_
  refine A_iinc (v := 2) (L2 := [(1, .int 2), (0, .ref h0)]) dX1_init_86 0 rfl (by decide) (by decide) rfl ?_
  refine A_goto (tgt := 67) dX1_init_89 (by decide) ?_
  refine A_iload_n dX1_init_67 0 rfl ?_
  refine A_bipush (v := 10) dX1_init_68 (by decide) ?_
  refine A_ge_f (by decide) dX1_init_70 (tgt := 92) (by decide) ?_
  refine A_aload_n dX1_init_73 1 rfl ?_
  refine A_get (C0 := RX1) (T := TX1) (k0 := 2) (v := .ref q3) rfl inT_1 rfl fl_X1_20 0 rfl (by decide) rfl dX1_init_74 ?_
  refine A_iload_n dX1_init_77 0 rfl ?_
  refine A_new (ci := 3) (C0 := RX3) (T := TX3) (ty := tyX3) (fs := [.int 0, .int 0, .int 0, .int 0, .int 0, .int 0, .int 0, .int 0]) rfl inT_3 tyX3_ok cl_X1_18 iw_3 in_3 rfl df_3 (by decide) (by decide) dX1_init_78 (fun q18 => ?_)
  refine A_ws (ws2 := [(h0, .inr (1, [.ref q1, .ref q2, .ref q3, .ref q4, .ref q7, .int 0, .int 0, .int 0])), (q3, .inl (cA 2, 10, .inr (.inr (.inr (.inr g17))))), (q4, .inr (2, [.ref q5, .ref q6, .int 0])), (q5, .inl (cA 0, 50, .inl (fun _ => 0))), (q6, .inl (cA 0, 50, .inl (fun _ => 0))), (q7, .inr (2, [.ref q8, .ref q9, .int 0])), (q8, .inl (cA 0, 50, .inl (fun _ => 0))), (q9, .inl (cA 0, 50, .inl (fun _ => 0))), (q1, .inl (cA 0, 5, .inl g10)), (q2, .inl (cA 0, 5, .inl g12)), (q14, .inr (3, [.int 0, .int 0, .int 0, .int 0, .int 0, .int 0, .int 0, .int 0])), (q16, .inr (3, [.int 0, .int 0, .int 0, .int 0, .int 0, .int 0, .int 0, .int 0])), (q18, .inr (3, [.int 0, .int 0, .int 0, .int 0, .int 0, .int 0, .int 0, .int 0]))]) rfl ?_
  refine A_dup rfl dX1_init_81 ?_
  refine A_callI (wr := [(h0, .inr (1, [.ref q1, .ref q2, .ref q3, .ref q4, .ref q7, .int 0, .int 0, .int 0])), (q3, .inl (cA 2, 10, .inr (.inr (.inr (.inr g17))))), (q4, .inr (2, [.ref q5, .ref q6, .int 0])), (q5, .inl (cA 0, 50, .inl (fun _ => 0))), (q6, .inl (cA 0, 50, .inl (fun _ => 0))), (q7, .inr (2, [.ref q8, .ref q9, .int 0])), (q8, .inl (cA 0, 50, .inl (fun _ => 0))), (q9, .inl (cA 0, 50, .inl (fun _ => 0))), (q1, .inl (cA 0, 5, .inl g10)), (q2, .inl (cA 0, 5, .inl g12)), (q14, .inr (3, [.int 0, .int 0, .int 0, .int 0, .int 0, .int 0, .int 0, .int 0])), (q16, .inr (3, [.int 0, .int 0, .int 0, .int 0, .int 0, .int 0, .int 0, .int 0]))]) (X3_init_made q18) ok_X3_init (Or.inr (by simp [nestA])) (by decide) rfl rfl (Nat.le_of_ble_eq_true rfl) [12] [0, 1, 2, 3, 4, 5, 6, 7, 8, 9, 10, 11] rfl rfl (by decide) (by decide) (by decide) (by decide) (by decide) dX1_init_82 ?_
  rintro w ⟨rfl⟩
  refine A_ws (ws2 := [(h0, .inr (1, [.ref q1, .ref q2, .ref q3, .ref q4, .ref q7, .int 0, .int 0, .int 0])), (q3, .inl (cA 2, 10, .inr (.inr (.inr (.inr g17))))), (q4, .inr (2, [.ref q5, .ref q6, .int 0])), (q5, .inl (cA 0, 50, .inl (fun _ => 0))), (q6, .inl (cA 0, 50, .inl (fun _ => 0))), (q7, .inr (2, [.ref q8, .ref q9, .int 0])), (q8, .inl (cA 0, 50, .inl (fun _ => 0))), (q9, .inl (cA 0, 50, .inl (fun _ => 0))), (q1, .inl (cA 0, 5, .inl g10)), (q2, .inl (cA 0, 5, .inl g12)), (q14, .inr (3, [.int 0, .int 0, .int 0, .int 0, .int 0, .int 0, .int 0, .int 0])), (q16, .inr (3, [.int 0, .int 0, .int 0, .int 0, .int 0, .int 0, .int 0, .int 0])), (q18, .inr (3, [.int 0, .int 0, .int 0, .int 0, .int 0, .int 0, .int 0, .int 0]))]) rfl ?_
  obtain ⟨g19, eg19⟩ : ∃ g : Nat → Option Nat, va_up g17 (2 : Int32).toNatClampNeg (some q18) = g := ⟨_, rfl⟩
  refine A_astq (j := 2) (ci := 3) (f2 := g19) (ws2 := [(h0, .inr (1, [.ref q1, .ref q2, .ref q3, .ref q4, .ref q7, .int 0, .int 0, .int 0])), (q3, .inl (cA 2, 10, .inr (.inr (.inr (.inr g19))))), (q4, .inr (2, [.ref q5, .ref q6, .int 0])), (q5, .inl (cA 0, 50, .inl (fun _ => 0))), (q6, .inl (cA 0, 50, .inl (fun _ => 0))), (q7, .inr (2, [.ref q8, .ref q9, .int 0])), (q8, .inl (cA 0, 50, .inl (fun _ => 0))), (q9, .inl (cA 0, 50, .inl (fun _ => 0))), (q1, .inl (cA 0, 5, .inl g10)), (q2, .inl (cA 0, 5, .inl g12)), (q14, .inr (3, [.int 0, .int 0, .int 0, .int 0, .int 0, .int 0, .int 0, .int 0])), (q16, .inr (3, [.int 0, .int 0, .int 0, .int 0, .int 0, .int 0, .int 0, .int 0])), (q18, .inr (3, [.int 0, .int 0, .int 0, .int 0, .int 0, .int 0, .int 0, .int 0]))]) 1 12 rfl rfl rfl rfl (ib_in (by decide)) eg19 rfl dX1_init_85 ?_
  refine A_iinc (v := 3) (L2 := [(1, .int 3), (0, .ref h0)]) dX1_init_86 0 rfl (by decide) (by decide) rfl ?_
  refine A_goto (tgt := 67) dX1_init_89 (by decide) ?_
  refine A_iload_n dX1_init_67 0 rfl ?_
  refine A_bipush (v := 10) dX1_init_68 (by decide) ?_
  refine A_ge_f (by decide) dX1_init_70 (tgt := 92) (by decide) ?_
  refine A_aload_n dX1_init_73 1 rfl ?_
  refine A_get (C0 := RX1) (T := TX1) (k0 := 2) (v := .ref q3) rfl inT_1 rfl fl_X1_20 0 rfl (by decide) rfl dX1_init_74 ?_
  refine A_iload_n dX1_init_77 0 rfl ?_
  refine A_new (ci := 3) (C0 := RX3) (T := TX3) (ty := tyX3) (fs := [.int 0, .int 0, .int 0, .int 0, .int 0, .int 0, .int 0, .int 0]) rfl inT_3 tyX3_ok cl_X1_18 iw_3 in_3 rfl df_3 (by decide) (by decide) dX1_init_78 (fun q20 => ?_)
  refine A_ws (ws2 := [(h0, .inr (1, [.ref q1, .ref q2, .ref q3, .ref q4, .ref q7, .int 0, .int 0, .int 0])), (q3, .inl (cA 2, 10, .inr (.inr (.inr (.inr g19))))), (q4, .inr (2, [.ref q5, .ref q6, .int 0])), (q5, .inl (cA 0, 50, .inl (fun _ => 0))), (q6, .inl (cA 0, 50, .inl (fun _ => 0))), (q7, .inr (2, [.ref q8, .ref q9, .int 0])), (q8, .inl (cA 0, 50, .inl (fun _ => 0))), (q9, .inl (cA 0, 50, .inl (fun _ => 0))), (q1, .inl (cA 0, 5, .inl g10)), (q2, .inl (cA 0, 5, .inl g12)), (q14, .inr (3, [.int 0, .int 0, .int 0, .int 0, .int 0, .int 0, .int 0, .int 0])), (q16, .inr (3, [.int 0, .int 0, .int 0, .int 0, .int 0, .int 0, .int 0, .int 0])), (q18, .inr (3, [.int 0, .int 0, .int 0, .int 0, .int 0, .int 0, .int 0, .int 0])), (q20, .inr (3, [.int 0, .int 0, .int 0, .int 0, .int 0, .int 0, .int 0, .int 0]))]) rfl ?_
  refine A_dup rfl dX1_init_81 ?_
  refine A_callI (wr := [(h0, .inr (1, [.ref q1, .ref q2, .ref q3, .ref q4, .ref q7, .int 0, .int 0, .int 0])), (q3, .inl (cA 2, 10, .inr (.inr (.inr (.inr g19))))), (q4, .inr (2, [.ref q5, .ref q6, .int 0])), (q5, .inl (cA 0, 50, .inl (fun _ => 0))), (q6, .inl (cA 0, 50, .inl (fun _ => 0))), (q7, .inr (2, [.ref q8, .ref q9, .int 0])), (q8, .inl (cA 0, 50, .inl (fun _ => 0))), (q9, .inl (cA 0, 50, .inl (fun _ => 0))), (q1, .inl (cA 0, 5, .inl g10)), (q2, .inl (cA 0, 5, .inl g12)), (q14, .inr (3, [.int 0, .int 0, .int 0, .int 0, .int 0, .int 0, .int 0, .int 0])), (q16, .inr (3, [.int 0, .int 0, .int 0, .int 0, .int 0, .int 0, .int 0, .int 0])), (q18, .inr (3, [.int 0, .int 0, .int 0, .int 0, .int 0, .int 0, .int 0, .int 0]))]) (X3_init_made q20) ok_X3_init (Or.inr (by simp [nestA])) (by decide) rfl rfl (Nat.le_of_ble_eq_true rfl) [13] [0, 1, 2, 3, 4, 5, 6, 7, 8, 9, 10, 11, 12] rfl rfl (by decide) (by decide) (by decide) (by decide) (by decide) dX1_init_82 ?_
  rintro w ⟨rfl⟩
  refine A_ws (ws2 := [(h0, .inr (1, [.ref q1, .ref q2, .ref q3, .ref q4, .ref q7, .int 0, .int 0, .int 0])), (q3, .inl (cA 2, 10, .inr (.inr (.inr (.inr g19))))), (q4, .inr (2, [.ref q5, .ref q6, .int 0])), (q5, .inl (cA 0, 50, .inl (fun _ => 0))), (q6, .inl (cA 0, 50, .inl (fun _ => 0))), (q7, .inr (2, [.ref q8, .ref q9, .int 0])), (q8, .inl (cA 0, 50, .inl (fun _ => 0))), (q9, .inl (cA 0, 50, .inl (fun _ => 0))), (q1, .inl (cA 0, 5, .inl g10)), (q2, .inl (cA 0, 5, .inl g12)), (q14, .inr (3, [.int 0, .int 0, .int 0, .int 0, .int 0, .int 0, .int 0, .int 0])), (q16, .inr (3, [.int 0, .int 0, .int 0, .int 0, .int 0, .int 0, .int 0, .int 0])), (q18, .inr (3, [.int 0, .int 0, .int 0, .int 0, .int 0, .int 0, .int 0, .int 0])), (q20, .inr (3, [.int 0, .int 0, .int 0, .int 0, .int 0, .int 0, .int 0, .int 0]))]) rfl ?_
  obtain ⟨g21, eg21⟩ : ∃ g : Nat → Option Nat, va_up g19 (3 : Int32).toNatClampNeg (some q20) = g := ⟨_, rfl⟩
  refine A_astq (j := 2) (ci := 3) (f2 := g21) (ws2 := [(h0, .inr (1, [.ref q1, .ref q2, .ref q3, .ref q4, .ref q7, .int 0, .int 0, .int 0])), (q3, .inl (cA 2, 10, .inr (.inr (.inr (.inr g21))))), (q4, .inr (2, [.ref q5, .ref q6, .int 0])), (q5, .inl (cA 0, 50, .inl (fun _ => 0))), (q6, .inl (cA 0, 50, .inl (fun _ => 0))), (q7, .inr (2, [.ref q8, .ref q9, .int 0])), (q8, .inl (cA 0, 50, .inl (fun _ => 0))), (q9, .inl (cA 0, 50, .inl (fun _ => 0))), (q1, .inl (cA 0, 5, .inl g10)), (q2, .inl (cA 0, 5, .inl g12)), (q14, .inr (3, [.int 0, .int 0, .int 0, .int 0, .int 0, .int 0, .int 0, .int 0])), (q16, .inr (3, [.int 0, .int 0, .int 0, .int 0, .int 0, .int 0, .int 0, .int 0])), (q18, .inr (3, [.int 0, .int 0, .int 0, .int 0, .int 0, .int 0, .int 0, .int 0])), (q20, .inr (3, [.int 0, .int 0, .int 0, .int 0, .int 0, .int 0, .int 0, .int 0]))]) 1 13 rfl rfl rfl rfl (ib_in (by decide)) eg21 rfl dX1_init_85 ?_
  refine A_iinc (v := 4) (L2 := [(1, .int 4), (0, .ref h0)]) dX1_init_86 0 rfl (by decide) (by decide) rfl ?_
  refine A_goto (tgt := 67) dX1_init_89 (by decide) ?_
  refine A_iload_n dX1_init_67 0 rfl ?_
  refine A_bipush (v := 10) dX1_init_68 (by decide) ?_
  refine A_ge_f (by decide) dX1_init_70 (tgt := 92) (by decide) ?_
  refine A_aload_n dX1_init_73 1 rfl ?_
  refine A_get (C0 := RX1) (T := TX1) (k0 := 2) (v := .ref q3) rfl inT_1 rfl fl_X1_20 0 rfl (by decide) rfl dX1_init_74 ?_
  refine A_iload_n dX1_init_77 0 rfl ?_
  refine A_new (ci := 3) (C0 := RX3) (T := TX3) (ty := tyX3) (fs := [.int 0, .int 0, .int 0, .int 0, .int 0, .int 0, .int 0, .int 0]) rfl inT_3 tyX3_ok cl_X1_18 iw_3 in_3 rfl df_3 (by decide) (by decide) dX1_init_78 (fun q22 => ?_)
  refine A_ws (ws2 := [(h0, .inr (1, [.ref q1, .ref q2, .ref q3, .ref q4, .ref q7, .int 0, .int 0, .int 0])), (q3, .inl (cA 2, 10, .inr (.inr (.inr (.inr g21))))), (q4, .inr (2, [.ref q5, .ref q6, .int 0])), (q5, .inl (cA 0, 50, .inl (fun _ => 0))), (q6, .inl (cA 0, 50, .inl (fun _ => 0))), (q7, .inr (2, [.ref q8, .ref q9, .int 0])), (q8, .inl (cA 0, 50, .inl (fun _ => 0))), (q9, .inl (cA 0, 50, .inl (fun _ => 0))), (q1, .inl (cA 0, 5, .inl g10)), (q2, .inl (cA 0, 5, .inl g12)), (q14, .inr (3, [.int 0, .int 0, .int 0, .int 0, .int 0, .int 0, .int 0, .int 0])), (q16, .inr (3, [.int 0, .int 0, .int 0, .int 0, .int 0, .int 0, .int 0, .int 0])), (q18, .inr (3, [.int 0, .int 0, .int 0, .int 0, .int 0, .int 0, .int 0, .int 0])), (q20, .inr (3, [.int 0, .int 0, .int 0, .int 0, .int 0, .int 0, .int 0, .int 0])), (q22, .inr (3, [.int 0, .int 0, .int 0, .int 0, .int 0, .int 0, .int 0, .int 0]))]) rfl ?_
  refine A_dup rfl dX1_init_81 ?_
  refine A_callI (wr := [(h0, .inr (1, [.ref q1, .ref q2, .ref q3, .ref q4, .ref q7, .int 0, .int 0, .int 0])), (q3, .inl (cA 2, 10, .inr (.inr (.inr (.inr g21))))), (q4, .inr (2, [.ref q5, .ref q6, .int 0])), (q5, .inl (cA 0, 50, .inl (fun _ => 0))), (q6, .inl (cA 0, 50, .inl (fun _ => 0))), (q7, .inr (2, [.ref q8, .ref q9, .int 0])), (q8, .inl (cA 0, 50, .inl (fun _ => 0))), (q9, .inl (cA 0, 50, .inl (fun _ => 0))), (q1, .inl (cA 0, 5, .inl g10)), (q2, .inl (cA 0, 5, .inl g12)), (q14, .inr (3, [.int 0, .int 0, .int 0, .int 0, .int 0, .int 0, .int 0, .int 0])), (q16, .inr (3, [.int 0, .int 0, .int 0, .int 0, .int 0, .int 0, .int 0, .int 0])), (q18, .inr (3, [.int 0, .int 0, .int 0, .int 0, .int 0, .int 0, .int 0, .int 0])), (q20, .inr (3, [.int 0, .int 0, .int 0, .int 0, .int 0, .int 0, .int 0, .int 0]))]) (X3_init_made q22) ok_X3_init (Or.inr (by simp [nestA])) (by decide) rfl rfl (Nat.le_of_ble_eq_true rfl) [14] [0, 1, 2, 3, 4, 5, 6, 7, 8, 9, 10, 11, 12, 13] rfl rfl (by decide) (by decide) (by decide) (by decide) (by decide) dX1_init_82 ?_
  rintro w ⟨rfl⟩
  refine A_ws (ws2 := [(h0, .inr (1, [.ref q1, .ref q2, .ref q3, .ref q4, .ref q7, .int 0, .int 0, .int 0])), (q3, .inl (cA 2, 10, .inr (.inr (.inr (.inr g21))))), (q4, .inr (2, [.ref q5, .ref q6, .int 0])), (q5, .inl (cA 0, 50, .inl (fun _ => 0))), (q6, .inl (cA 0, 50, .inl (fun _ => 0))), (q7, .inr (2, [.ref q8, .ref q9, .int 0])), (q8, .inl (cA 0, 50, .inl (fun _ => 0))), (q9, .inl (cA 0, 50, .inl (fun _ => 0))), (q1, .inl (cA 0, 5, .inl g10)), (q2, .inl (cA 0, 5, .inl g12)), (q14, .inr (3, [.int 0, .int 0, .int 0, .int 0, .int 0, .int 0, .int 0, .int 0])), (q16, .inr (3, [.int 0, .int 0, .int 0, .int 0, .int 0, .int 0, .int 0, .int 0])), (q18, .inr (3, [.int 0, .int 0, .int 0, .int 0, .int 0, .int 0, .int 0, .int 0])), (q20, .inr (3, [.int 0, .int 0, .int 0, .int 0, .int 0, .int 0, .int 0, .int 0])), (q22, .inr (3, [.int 0, .int 0, .int 0, .int 0, .int 0, .int 0, .int 0, .int 0]))]) rfl ?_
  obtain ⟨g23, eg23⟩ : ∃ g : Nat → Option Nat, va_up g21 (4 : Int32).toNatClampNeg (some q22) = g := ⟨_, rfl⟩
  refine A_astq (j := 2) (ci := 3) (f2 := g23) (ws2 := [(h0, .inr (1, [.ref q1, .ref q2, .ref q3, .ref q4, .ref q7, .int 0, .int 0, .int 0])), (q3, .inl (cA 2, 10, .inr (.inr (.inr (.inr g23))))), (q4, .inr (2, [.ref q5, .ref q6, .int 0])), (q5, .inl (cA 0, 50, .inl (fun _ => 0))), (q6, .inl (cA 0, 50, .inl (fun _ => 0))), (q7, .inr (2, [.ref q8, .ref q9, .int 0])), (q8, .inl (cA 0, 50, .inl (fun _ => 0))), (q9, .inl (cA 0, 50, .inl (fun _ => 0))), (q1, .inl (cA 0, 5, .inl g10)), (q2, .inl (cA 0, 5, .inl g12)), (q14, .inr (3, [.int 0, .int 0, .int 0, .int 0, .int 0, .int 0, .int 0, .int 0])), (q16, .inr (3, [.int 0, .int 0, .int 0, .int 0, .int 0, .int 0, .int 0, .int 0])), (q18, .inr (3, [.int 0, .int 0, .int 0, .int 0, .int 0, .int 0, .int 0, .int 0])), (q20, .inr (3, [.int 0, .int 0, .int 0, .int 0, .int 0, .int 0, .int 0, .int 0])), (q22, .inr (3, [.int 0, .int 0, .int 0, .int 0, .int 0, .int 0, .int 0, .int 0]))]) 1 14 rfl rfl rfl rfl (ib_in (by decide)) eg23 rfl dX1_init_85 ?_
  refine A_iinc (v := 5) (L2 := [(1, .int 5), (0, .ref h0)]) dX1_init_86 0 rfl (by decide) (by decide) rfl ?_
  refine A_goto (tgt := 67) dX1_init_89 (by decide) ?_
  refine A_iload_n dX1_init_67 0 rfl ?_
  refine A_bipush (v := 10) dX1_init_68 (by decide) ?_
  refine A_ge_f (by decide) dX1_init_70 (tgt := 92) (by decide) ?_
  refine A_aload_n dX1_init_73 1 rfl ?_
  refine A_get (C0 := RX1) (T := TX1) (k0 := 2) (v := .ref q3) rfl inT_1 rfl fl_X1_20 0 rfl (by decide) rfl dX1_init_74 ?_
  refine A_iload_n dX1_init_77 0 rfl ?_
  refine A_new (ci := 3) (C0 := RX3) (T := TX3) (ty := tyX3) (fs := [.int 0, .int 0, .int 0, .int 0, .int 0, .int 0, .int 0, .int 0]) rfl inT_3 tyX3_ok cl_X1_18 iw_3 in_3 rfl df_3 (by decide) (by decide) dX1_init_78 (fun q24 => ?_)
  refine A_ws (ws2 := [(h0, .inr (1, [.ref q1, .ref q2, .ref q3, .ref q4, .ref q7, .int 0, .int 0, .int 0])), (q3, .inl (cA 2, 10, .inr (.inr (.inr (.inr g23))))), (q4, .inr (2, [.ref q5, .ref q6, .int 0])), (q5, .inl (cA 0, 50, .inl (fun _ => 0))), (q6, .inl (cA 0, 50, .inl (fun _ => 0))), (q7, .inr (2, [.ref q8, .ref q9, .int 0])), (q8, .inl (cA 0, 50, .inl (fun _ => 0))), (q9, .inl (cA 0, 50, .inl (fun _ => 0))), (q1, .inl (cA 0, 5, .inl g10)), (q2, .inl (cA 0, 5, .inl g12)), (q14, .inr (3, [.int 0, .int 0, .int 0, .int 0, .int 0, .int 0, .int 0, .int 0])), (q16, .inr (3, [.int 0, .int 0, .int 0, .int 0, .int 0, .int 0, .int 0, .int 0])), (q18, .inr (3, [.int 0, .int 0, .int 0, .int 0, .int 0, .int 0, .int 0, .int 0])), (q20, .inr (3, [.int 0, .int 0, .int 0, .int 0, .int 0, .int 0, .int 0, .int 0])), (q22, .inr (3, [.int 0, .int 0, .int 0, .int 0, .int 0, .int 0, .int 0, .int 0])), (q24, .inr (3, [.int 0, .int 0, .int 0, .int 0, .int 0, .int 0, .int 0, .int 0]))]) rfl ?_
  refine A_dup rfl dX1_init_81 ?_
  refine A_callI (wr := [(h0, .inr (1, [.ref q1, .ref q2, .ref q3, .ref q4, .ref q7, .int 0, .int 0, .int 0])), (q3, .inl (cA 2, 10, .inr (.inr (.inr (.inr g23))))), (q4, .inr (2, [.ref q5, .ref q6, .int 0])), (q5, .inl (cA 0, 50, .inl (fun _ => 0))), (q6, .inl (cA 0, 50, .inl (fun _ => 0))), (q7, .inr (2, [.ref q8, .ref q9, .int 0])), (q8, .inl (cA 0, 50, .inl (fun _ => 0))), (q9, .inl (cA 0, 50, .inl (fun _ => 0))), (q1, .inl (cA 0, 5, .inl g10)), (q2, .inl (cA 0, 5, .inl g12)), (q14, .inr (3, [.int 0, .int 0, .int 0, .int 0, .int 0, .int 0, .int 0, .int 0])), (q16, .inr (3, [.int 0, .int 0, .int 0, .int 0, .int 0, .int 0, .int 0, .int 0])), (q18, .inr (3, [.int 0, .int 0, .int 0, .int 0, .int 0, .int 0, .int 0, .int 0])), (q20, .inr (3, [.int 0, .int 0, .int 0, .int 0, .int 0, .int 0, .int 0, .int 0])), (q22, .inr (3, [.int 0, .int 0, .int 0, .int 0, .int 0, .int 0, .int 0, .int 0]))]) (X3_init_made q24) ok_X3_init (Or.inr (by simp [nestA])) (by decide) rfl rfl (Nat.le_of_ble_eq_true rfl) [15] [0, 1, 2, 3, 4, 5, 6, 7, 8, 9, 10, 11, 12, 13, 14] rfl rfl (by decide) (by decide) (by decide) (by decide) (by decide) dX1_init_82 ?_
  rintro w ⟨rfl⟩
  refine A_ws (ws2 := [(h0, .inr (1, [.ref q1, .ref q2, .ref q3, .ref q4, .ref q7, .int 0, .int 0, .int 0])), (q3, .inl (cA 2, 10, .inr (.inr (.inr (.inr g23))))), (q4, .inr (2, [.ref q5, .ref q6, .int 0])), (q5, .inl (cA 0, 50, .inl (fun _ => 0))), (q6, .inl (cA 0, 50, .inl (fun _ => 0))), (q7, .inr (2, [.ref q8, .ref q9, .int 0])), (q8, .inl (cA 0, 50, .inl (fun _ => 0))), (q9, .inl (cA 0, 50, .inl (fun _ => 0))), (q1, .inl (cA 0, 5, .inl g10)), (q2, .inl (cA 0, 5, .inl g12)), (q14, .inr (3, [.int 0, .int 0, .int 0, .int 0, .int 0, .int 0, .int 0, .int 0])), (q16, .inr (3, [.int 0, .int 0, .int 0, .int 0, .int 0, .int 0, .int 0, .int 0])), (q18, .inr (3, [.int 0, .int 0, .int 0, .int 0, .int 0, .int 0, .int 0, .int 0])), (q20, .inr (3, [.int 0, .int 0, .int 0, .int 0, .int 0, .int 0, .int 0, .int 0])), (q22, .inr (3, [.int 0, .int 0, .int 0, .int 0, .int 0, .int 0, .int 0, .int 0])), (q24, .inr (3, [.int 0, .int 0, .int 0, .int 0, .int 0, .int 0, .int 0, .int 0]))]) rfl ?_
  obtain ⟨g25, eg25⟩ : ∃ g : Nat → Option Nat, va_up g23 (5 : Int32).toNatClampNeg (some q24) = g := ⟨_, rfl⟩
  refine A_astq (j := 2) (ci := 3) (f2 := g25) (ws2 := [(h0, .inr (1, [.ref q1, .ref q2, .ref q3, .ref q4, .ref q7, .int 0, .int 0, .int 0])), (q3, .inl (cA 2, 10, .inr (.inr (.inr (.inr g25))))), (q4, .inr (2, [.ref q5, .ref q6, .int 0])), (q5, .inl (cA 0, 50, .inl (fun _ => 0))), (q6, .inl (cA 0, 50, .inl (fun _ => 0))), (q7, .inr (2, [.ref q8, .ref q9, .int 0])), (q8, .inl (cA 0, 50, .inl (fun _ => 0))), (q9, .inl (cA 0, 50, .inl (fun _ => 0))), (q1, .inl (cA 0, 5, .inl g10)), (q2, .inl (cA 0, 5, .inl g12)), (q14, .inr (3, [.int 0, .int 0, .int 0, .int 0, .int 0, .int 0, .int 0, .int 0])), (q16, .inr (3, [.int 0, .int 0, .int 0, .int 0, .int 0, .int 0, .int 0, .int 0])), (q18, .inr (3, [.int 0, .int 0, .int 0, .int 0, .int 0, .int 0, .int 0, .int 0])), (q20, .inr (3, [.int 0, .int 0, .int 0, .int 0, .int 0, .int 0, .int 0, .int 0])), (q22, .inr (3, [.int 0, .int 0, .int 0, .int 0, .int 0, .int 0, .int 0, .int 0])), (q24, .inr (3, [.int 0, .int 0, .int 0, .int 0, .int 0, .int 0, .int 0, .int 0]))]) 1 15 rfl rfl rfl rfl (ib_in (by decide)) eg25 rfl dX1_init_85 ?_
  refine A_iinc (v := 6) (L2 := [(1, .int 6), (0, .ref h0)]) dX1_init_86 0 rfl (by decide) (by decide) rfl ?_
  refine A_goto (tgt := 67) dX1_init_89 (by decide) ?_
  refine A_iload_n dX1_init_67 0 rfl ?_
  refine A_bipush (v := 10) dX1_init_68 (by decide) ?_
  refine A_ge_f (by decide) dX1_init_70 (tgt := 92) (by decide) ?_
  refine A_aload_n dX1_init_73 1 rfl ?_
  refine A_get (C0 := RX1) (T := TX1) (k0 := 2) (v := .ref q3) rfl inT_1 rfl fl_X1_20 0 rfl (by decide) rfl dX1_init_74 ?_
  refine A_iload_n dX1_init_77 0 rfl ?_
  refine A_new (ci := 3) (C0 := RX3) (T := TX3) (ty := tyX3) (fs := [.int 0, .int 0, .int 0, .int 0, .int 0, .int 0, .int 0, .int 0]) rfl inT_3 tyX3_ok cl_X1_18 iw_3 in_3 rfl df_3 (by decide) (by decide) dX1_init_78 (fun q26 => ?_)
  refine A_ws (ws2 := [(h0, .inr (1, [.ref q1, .ref q2, .ref q3, .ref q4, .ref q7, .int 0, .int 0, .int 0])), (q3, .inl (cA 2, 10, .inr (.inr (.inr (.inr g25))))), (q4, .inr (2, [.ref q5, .ref q6, .int 0])), (q5, .inl (cA 0, 50, .inl (fun _ => 0))), (q6, .inl (cA 0, 50, .inl (fun _ => 0))), (q7, .inr (2, [.ref q8, .ref q9, .int 0])), (q8, .inl (cA 0, 50, .inl (fun _ => 0))), (q9, .inl (cA 0, 50, .inl (fun _ => 0))), (q1, .inl (cA 0, 5, .inl g10)), (q2, .inl (cA 0, 5, .inl g12)), (q14, .inr (3, [.int 0, .int 0, .int 0, .int 0, .int 0, .int 0, .int 0, .int 0])), (q16, .inr (3, [.int 0, .int 0, .int 0, .int 0, .int 0, .int 0, .int 0, .int 0])), (q18, .inr (3, [.int 0, .int 0, .int 0, .int 0, .int 0, .int 0, .int 0, .int 0])), (q20, .inr (3, [.int 0, .int 0, .int 0, .int 0, .int 0, .int 0, .int 0, .int 0])), (q22, .inr (3, [.int 0, .int 0, .int 0, .int 0, .int 0, .int 0, .int 0, .int 0])), (q24, .inr (3, [.int 0, .int 0, .int 0, .int 0, .int 0, .int 0, .int 0, .int 0])), (q26, .inr (3, [.int 0, .int 0, .int 0, .int 0, .int 0, .int 0, .int 0, .int 0]))]) rfl ?_
  refine A_dup rfl dX1_init_81 ?_
  refine A_callI (wr := [(h0, .inr (1, [.ref q1, .ref q2, .ref q3, .ref q4, .ref q7, .int 0, .int 0, .int 0])), (q3, .inl (cA 2, 10, .inr (.inr (.inr (.inr g25))))), (q4, .inr (2, [.ref q5, .ref q6, .int 0])), (q5, .inl (cA 0, 50, .inl (fun _ => 0))), (q6, .inl (cA 0, 50, .inl (fun _ => 0))), (q7, .inr (2, [.ref q8, .ref q9, .int 0])), (q8, .inl (cA 0, 50, .inl (fun _ => 0))), (q9, .inl (cA 0, 50, .inl (fun _ => 0))), (q1, .inl (cA 0, 5, .inl g10)), (q2, .inl (cA 0, 5, .inl g12)), (q14, .inr (3, [.int 0, .int 0, .int 0, .int 0, .int 0, .int 0, .int 0, .int 0])), (q16, .inr (3, [.int 0, .int 0, .int 0, .int 0, .int 0, .int 0, .int 0, .int 0])), (q18, .inr (3, [.int 0, .int 0, .int 0, .int 0, .int 0, .int 0, .int 0, .int 0])), (q20, .inr (3, [.int 0, .int 0, .int 0, .int 0, .int 0, .int 0, .int 0, .int 0])), (q22, .inr (3, [.int 0, .int 0, .int 0, .int 0, .int 0, .int 0, .int 0, .int 0])), (q24, .inr (3, [.int 0, .int 0, .int 0, .int 0, .int 0, .int 0, .int 0, .int 0]))]) (X3_init_made q26) ok_X3_init (Or.inr (by simp [nestA])) (by decide) rfl rfl (Nat.le_of_ble_eq_true rfl) [16] [0, 1, 2, 3, 4, 5, 6, 7, 8, 9, 10, 11, 12, 13, 14, 15] rfl rfl (by decide) (by decide) (by decide) (by decide) (by decide) dX1_init_82 ?_
  rintro w ⟨rfl⟩
  refine A_ws (ws2 := [(h0, .inr (1, [.ref q1, .ref q2, .ref q3, .ref q4, .ref q7, .int 0, .int 0, .int 0])), (q3, .inl (cA 2, 10, .inr (.inr (.inr (.inr g25))))), (q4, .inr (2, [.ref q5, .ref q6, .int 0])), (q5, .inl (cA 0, 50, .inl (fun _ => 0))), (q6, .inl (cA 0, 50, .inl (fun _ => 0))), (q7, .inr (2, [.ref q8, .ref q9, .int 0])), (q8, .inl (cA 0, 50, .inl (fun _ => 0))), (q9, .inl (cA 0, 50, .inl (fun _ => 0))), (q1, .inl (cA 0, 5, .inl g10)), (q2, .inl (cA 0, 5, .inl g12)), (q14, .inr (3, [.int 0, .int 0, .int 0, .int 0, .int 0, .int 0, .int 0, .int 0])), (q16, .inr (3, [.int 0, .int 0, .int 0, .int 0, .int 0, .int 0, .int 0, .int 0])), (q18, .inr (3, [.int 0, .int 0, .int 0, .int 0, .int 0, .int 0, .int 0, .int 0])), (q20, .inr (3, [.int 0, .int 0, .int 0, .int 0, .int 0, .int 0, .int 0, .int 0])), (q22, .inr (3, [.int 0, .int 0, .int 0, .int 0, .int 0, .int 0, .int 0, .int 0])), (q24, .inr (3, [.int 0, .int 0, .int 0, .int 0, .int 0, .int 0, .int 0, .int 0])), (q26, .inr (3, [.int 0, .int 0, .int 0, .int 0, .int 0, .int 0, .int 0, .int 0]))]) rfl ?_
  obtain ⟨g27, eg27⟩ : ∃ g : Nat → Option Nat, va_up g25 (6 : Int32).toNatClampNeg (some q26) = g := ⟨_, rfl⟩
  refine A_astq (j := 2) (ci := 3) (f2 := g27) (ws2 := [(h0, .inr (1, [.ref q1, .ref q2, .ref q3, .ref q4, .ref q7, .int 0, .int 0, .int 0])), (q3, .inl (cA 2, 10, .inr (.inr (.inr (.inr g27))))), (q4, .inr (2, [.ref q5, .ref q6, .int 0])), (q5, .inl (cA 0, 50, .inl (fun _ => 0))), (q6, .inl (cA 0, 50, .inl (fun _ => 0))), (q7, .inr (2, [.ref q8, .ref q9, .int 0])), (q8, .inl (cA 0, 50, .inl (fun _ => 0))), (q9, .inl (cA 0, 50, .inl (fun _ => 0))), (q1, .inl (cA 0, 5, .inl g10)), (q2, .inl (cA 0, 5, .inl g12)), (q14, .inr (3, [.int 0, .int 0, .int 0, .int 0, .int 0, .int 0, .int 0, .int 0])), (q16, .inr (3, [.int 0, .int 0, .int 0, .int 0, .int 0, .int 0, .int 0, .int 0])), (q18, .inr (3, [.int 0, .int 0, .int 0, .int 0, .int 0, .int 0, .int 0, .int 0])), (q20, .inr (3, [.int 0, .int 0, .int 0, .int 0, .int 0, .int 0, .int 0, .int 0])), (q22, .inr (3, [.int 0, .int 0, .int 0, .int 0, .int 0, .int 0, .int 0, .int 0])), (q24, .inr (3, [.int 0, .int 0, .int 0, .int 0, .int 0, .int 0, .int 0, .int 0])), (q26, .inr (3, [.int 0, .int 0, .int 0, .int 0, .int 0, .int 0, .int 0, .int 0]))]) 1 16 rfl rfl rfl rfl (ib_in (by decide)) eg27 rfl dX1_init_85 ?_
  refine A_iinc (v := 7) (L2 := [(1, .int 7), (0, .ref h0)]) dX1_init_86 0 rfl (by decide) (by decide) rfl ?_
  refine A_goto (tgt := 67) dX1_init_89 (by decide) ?_
  refine A_iload_n dX1_init_67 0 rfl ?_
  refine A_bipush (v := 10) dX1_init_68 (by decide) ?_
  refine A_ge_f (by decide) dX1_init_70 (tgt := 92) (by decide) ?_
  refine A_aload_n dX1_init_73 1 rfl ?_
  refine A_get (C0 := RX1) (T := TX1) (k0 := 2) (v := .ref q3) rfl inT_1 rfl fl_X1_20 0 rfl (by decide) rfl dX1_init_74 ?_
  refine A_iload_n dX1_init_77 0 rfl ?_
  refine A_new (ci := 3) (C0 := RX3) (T := TX3) (ty := tyX3) (fs := [.int 0, .int 0, .int 0, .int 0, .int 0, .int 0, .int 0, .int 0]) rfl inT_3 tyX3_ok cl_X1_18 iw_3 in_3 rfl df_3 (by decide) (by decide) dX1_init_78 (fun q28 => ?_)
  refine A_ws (ws2 := [(h0, .inr (1, [.ref q1, .ref q2, .ref q3, .ref q4, .ref q7, .int 0, .int 0, .int 0])), (q3, .inl (cA 2, 10, .inr (.inr (.inr (.inr g27))))), (q4, .inr (2, [.ref q5, .ref q6, .int 0])), (q5, .inl (cA 0, 50, .inl (fun _ => 0))), (q6, .inl (cA 0, 50, .inl (fun _ => 0))), (q7, .inr (2, [.ref q8, .ref q9, .int 0])), (q8, .inl (cA 0, 50, .inl (fun _ => 0))), (q9, .inl (cA 0, 50, .inl (fun _ => 0))), (q1, .inl (cA 0, 5, .inl g10)), (q2, .inl (cA 0, 5, .inl g12)), (q14, .inr (3, [.int 0, .int 0, .int 0, .int 0, .int 0, .int 0, .int 0, .int 0])), (q16, .inr (3, [.int 0, .int 0, .int 0, .int 0, .int 0, .int 0, .int 0, .int 0])), (q18, .inr (3, [.int 0, .int 0, .int 0, .int 0, .int 0, .int 0, .int 0, .int 0])), (q20, .inr (3, [.int 0, .int 0, .int 0, .int 0, .int 0, .int 0, .int 0, .int 0])), (q22, .inr (3, [.int 0, .int 0, .int 0, .int 0, .int 0, .int 0, .int 0, .int 0])), (q24, .inr (3, [.int 0, .int 0, .int 0, .int 0, .int 0, .int 0, .int 0, .int 0])), (q26, .inr (3, [.int 0, .int 0, .int 0, .int 0, .int 0, .int 0, .int 0, .int 0])), (q28, .inr (3, [.int 0, .int 0, .int 0, .int 0, .int 0, .int 0, .int 0, .int 0]))]) rfl ?_
  refine A_dup rfl dX1_init_81 ?_
  refine A_callI (wr := [(h0, .inr (1, [.ref q1, .ref q2, .ref q3, .ref q4, .ref q7, .int 0, .int 0, .int 0])), (q3, .inl (cA 2, 10, .inr (.inr (.inr (.inr g27))))), (q4, .inr (2, [.ref q5, .ref q6, .int 0])), (q5, .inl (cA 0, 50, .inl (fun _ => 0))), (q6, .inl (cA 0, 50, .inl (fun _ => 0))), (q7, .inr (2, [.ref q8, .ref q9, .int 0])), (q8, .inl (cA 0, 50, .inl (fun _ => 0))), (q9, .inl (cA 0, 50, .inl (fun _ => 0))), (q1, .inl (cA 0, 5, .inl g10)), (q2, .inl (cA 0, 5, .inl g12)), (q14, .inr (3, [.int 0, .int 0, .int 0, .int 0, .int 0, .int 0, .int 0, .int 0])), (q16, .inr (3, [.int 0, .int 0, .int 0, .int 0, .int 0, .int 0, .int 0, .int 0])), (q18, .inr (3, [.int 0, .int 0, .int 0, .int 0, .int 0, .int 0, .int 0, .int 0])), (q20, .inr (3, [.int 0, .int 0, .int 0, .int 0, .int 0, .int 0, .int 0, .int 0])), (q22, .inr (3, [.int 0, .int 0, .int 0, .int 0, .int 0, .int 0, .int 0, .int 0])), (q24, .inr (3, [.int 0, .int 0, .int 0, .int 0, .int 0, .int 0, .int 0, .int 0])), (q26, .inr (3, [.int 0, .int 0, .int 0, .int 0, .int 0, .int 0, .int 0, .int 0]))]) (X3_init_made q28) ok_X3_init (Or.inr (by simp [nestA])) (by decide) rfl rfl (Nat.le_of_ble_eq_true rfl) [17] [0, 1, 2, 3, 4, 5, 6, 7, 8, 9, 10, 11, 12, 13, 14, 15, 16] rfl rfl (by decide) (by decide) (by decide) (by decide) (by decide) dX1_init_82 ?_
  rintro w ⟨rfl⟩
  refine A_ws (ws2 := [(h0, .inr (1, [.ref q1, .ref q2, .ref q3, .ref q4, .ref q7, .int 0, .int 0, .int 0])), (q3, .inl (cA 2, 10, .inr (.inr (.inr (.inr g27))))), (q4, .inr (2, [.ref q5, .ref q6, .int 0])), (q5, .inl (cA 0, 50, .inl (fun _ => 0))), (q6, .inl (cA 0, 50, .inl (fun _ => 0))), (q7, .inr (2, [.ref q8, .ref q9, .int 0])), (q8, .inl (cA 0, 50, .inl (fun _ => 0))), (q9, .inl (cA 0, 50, .inl (fun _ => 0))), (q1, .inl (cA 0, 5, .inl g10)), (q2, .inl (cA 0, 5, .inl g12)), (q14, .inr (3, [.int 0, .int 0, .int 0, .int 0, .int 0, .int 0, .int 0, .int 0])), (q16, .inr (3, [.int 0, .int 0, .int 0, .int 0, .int 0, .int 0, .int 0, .int 0])), (q18, .inr (3, [.int 0, .int 0, .int 0, .int 0, .int 0, .int 0, .int 0, .int 0])), (q20, .inr (3, [.int 0, .int 0, .int 0, .int 0, .int 0, .int 0, .int 0, .int 0])), (q22, .inr (3, [.int 0, .int 0, .int 0, .int 0, .int 0, .int 0, .int 0, .int 0])), (q24, .inr (3, [.int 0, .int 0, .int 0, .int 0, .int 0, .int 0, .int 0, .int 0])), (q26, .inr (3, [.int 0, .int 0, .int 0, .int 0, .int 0, .int 0, .int 0, .int 0])), (q28, .inr (3, [.int 0, .int 0, .int 0, .int 0, .int 0, .int 0, .int 0, .int 0]))]) rfl ?_
  obtain ⟨g29, eg29⟩ : ∃ g : Nat → Option Nat, va_up g27 (7 : Int32).toNatClampNeg (some q28) = g := ⟨_, rfl⟩
  refine A_astq (j := 2) (ci := 3) (f2 := g29) (ws2 := [(h0, .inr (1, [.ref q1, .ref q2, .ref q3, .ref q4, .ref q7, .int 0, .int 0, .int 0])), (q3, .inl (cA 2, 10, .inr (.inr (.inr (.inr g29))))), (q4, .inr (2, [.ref q5, .ref q6, .int 0])), (q5, .inl (cA 0, 50, .inl (fun _ => 0))), (q6, .inl (cA 0, 50, .inl (fun _ => 0))), (q7, .inr (2, [.ref q8, .ref q9, .int 0])), (q8, .inl (cA 0, 50, .inl (fun _ => 0))), (q9, .inl (cA 0, 50, .inl (fun _ => 0))), (q1, .inl (cA 0, 5, .inl g10)), (q2, .inl (cA 0, 5, .inl g12)), (q14, .inr (3, [.int 0, .int 0, .int 0, .int 0, .int 0, .int 0, .int 0, .int 0])), (q16, .inr (3, [.int 0, .int 0, .int 0, .int 0, .int 0, .int 0, .int 0, .int 0])), (q18, .inr (3, [.int 0, .int 0, .int 0, .int 0, .int 0, .int 0, .int 0, .int 0])), (q20, .inr (3, [.int 0, .int 0, .int 0, .int 0, .int 0, .int 0, .int 0, .int 0])), (q22, .inr (3, [.int 0, .int 0, .int 0, .int 0, .int 0, .int 0, .int 0, .int 0])), (q24, .inr (3, [.int 0, .int 0, .int 0, .int 0, .int 0, .int 0, .int 0, .int 0])), (q26, .inr (3, [.int 0, .int 0, .int 0, .int 0, .int 0, .int 0, .int 0, .int 0])), (q28, .inr (3, [.int 0, .int 0, .int 0, .int 0, .int 0, .int 0, .int 0, .int 0]))]) 1 17 rfl rfl rfl rfl (ib_in (by decide)) eg29 rfl dX1_init_85 ?_
  refine A_iinc (v := 8) (L2 := [(1, .int 8), (0, .ref h0)]) dX1_init_86 0 rfl (by decide) (by decide) rfl ?_
  refine A_goto (tgt := 67) dX1_init_89 (by decide) ?_
  refine A_iload_n dX1_init_67 0 rfl ?_
  refine A_bipush (v := 10) dX1_init_68 (by decide) ?_
  refine A_ge_f (by decide) dX1_init_70 (tgt := 92) (by decide) ?_
  refine A_aload_n dX1_init_73 1 rfl ?_
  refine A_get (C0 := RX1) (T := TX1) (k0 := 2) (v := .ref q3) rfl inT_1 rfl fl_X1_20 0 rfl (by decide) rfl dX1_init_74 ?_
  refine A_iload_n dX1_init_77 0 rfl ?_
  refine A_new (ci := 3) (C0 := RX3) (T := TX3) (ty := tyX3) (fs := [.int 0, .int 0, .int 0, .int 0, .int 0, .int 0, .int 0, .int 0]) rfl inT_3 tyX3_ok cl_X1_18 iw_3 in_3 rfl df_3 (by decide) (by decide) dX1_init_78 (fun q30 => ?_)
  refine A_ws (ws2 := [(h0, .inr (1, [.ref q1, .ref q2, .ref q3, .ref q4, .ref q7, .int 0, .int 0, .int 0])), (q3, .inl (cA 2, 10, .inr (.inr (.inr (.inr g29))))), (q4, .inr (2, [.ref q5, .ref q6, .int 0])), (q5, .inl (cA 0, 50, .inl (fun _ => 0))), (q6, .inl (cA 0, 50, .inl (fun _ => 0))), (q7, .inr (2, [.ref q8, .ref q9, .int 0])), (q8, .inl (cA 0, 50, .inl (fun _ => 0))), (q9, .inl (cA 0, 50, .inl (fun _ => 0))), (q1, .inl (cA 0, 5, .inl g10)), (q2, .inl (cA 0, 5, .inl g12)), (q14, .inr (3, [.int 0, .int 0, .int 0, .int 0, .int 0, .int 0, .int 0, .int 0])), (q16, .inr (3, [.int 0, .int 0, .int 0, .int 0, .int 0, .int 0, .int 0, .int 0])), (q18, .inr (3, [.int 0, .int 0, .int 0, .int 0, .int 0, .int 0, .int 0, .int 0])), (q20, .inr (3, [.int 0, .int 0, .int 0, .int 0, .int 0, .int 0, .int 0, .int 0])), (q22, .inr (3, [.int 0, .int 0, .int 0, .int 0, .int 0, .int 0, .int 0, .int 0])), (q24, .inr (3, [.int 0, .int 0, .int 0, .int 0, .int 0, .int 0, .int 0, .int 0])), (q26, .inr (3, [.int 0, .int 0, .int 0, .int 0, .int 0, .int 0, .int 0, .int 0])), (q28, .inr (3, [.int 0, .int 0, .int 0, .int 0, .int 0, .int 0, .int 0, .int 0])), (q30, .inr (3, [.int 0, .int 0, .int 0, .int 0, .int 0, .int 0, .int 0, .int 0]))]) rfl ?_
  refine A_dup rfl dX1_init_81 ?_
  refine A_callI (wr := [(h0, .inr (1, [.ref q1, .ref q2, .ref q3, .ref q4, .ref q7, .int 0, .int 0, .int 0])), (q3, .inl (cA 2, 10, .inr (.inr (.inr (.inr g29))))), (q4, .inr (2, [.ref q5, .ref q6, .int 0])), (q5, .inl (cA 0, 50, .inl (fun _ => 0))), (q6, .inl (cA 0, 50, .inl (fun _ => 0))), (q7, .inr (2, [.ref q8, .ref q9, .int 0])), (q8, .inl (cA 0, 50, .inl (fun _ => 0))), (q9, .inl (cA 0, 50, .inl (fun _ => 0))), (q1, .inl (cA 0, 5, .inl g10)), (q2, .inl (cA 0, 5, .inl g12)), (q14, .inr (3, [.int 0, .int 0, .int 0, .int 0, .int 0, .int 0, .int 0, .int 0])), (q16, .inr (3, [.int 0, .int 0, .int 0, .int 0, .int 0, .int 0, .int 0, .int 0])), (q18, .inr (3, [.int 0, .int 0, .int 0, .int 0, .int 0, .int 0, .int 0, .int 0])), (q20, .inr (3, [.int 0, .int 0, .int 0, .int 0, .int 0, .int 0, .int 0, .int 0])), (q22, .inr (3, [.int 0, .int 0, .int 0, .int 0, .int 0, .int 0, .int 0, .int 0])), (q24, .inr (3, [.int 0, .int 0, .int 0, .int 0, .int 0, .int 0, .int 0, .int 0])), (q26, .inr (3, [.int 0, .int 0, .int 0, .int 0, .int 0, .int 0, .int 0, .int 0])), (q28, .inr (3, [.int 0, .int 0, .int 0, .int 0, .int 0, .int 0, .int 0, .int 0]))]) (X3_init_made q30) ok_X3_init (Or.inr (by simp [nestA])) (by decide) rfl rfl (Nat.le_of_ble_eq_true rfl) [18] [0, 1, 2, 3, 4, 5, 6, 7, 8, 9, 10, 11, 12, 13, 14, 15, 16, 17] rfl rfl (by decide) (by decide) (by decide) (by decide) (by decide) dX1_init_82 ?_
  rintro w ⟨rfl⟩
  refine A_ws (ws2 := [(h0, .inr (1, [.ref q1, .ref q2, .ref q3, .ref q4, .ref q7, .int 0, .int 0, .int 0])), (q3, .inl (cA 2, 10, .inr (.inr (.inr (.inr g29))))), (q4, .inr (2, [.ref q5, .ref q6, .int 0])), (q5, .inl (cA 0, 50, .inl (fun _ => 0))), (q6, .inl (cA 0, 50, .inl (fun _ => 0))), (q7, .inr (2, [.ref q8, .ref q9, .int 0])), (q8, .inl (cA 0, 50, .inl (fun _ => 0))), (q9, .inl (cA 0, 50, .inl (fun _ => 0))), (q1, .inl (cA 0, 5, .inl g10)), (q2, .inl (cA 0, 5, .inl g12)), (q14, .inr (3, [.int 0, .int 0, .int 0, .int 0, .int 0, .int 0, .int 0, .int 0])), (q16, .inr (3, [.int 0, .int 0, .int 0, .int 0, .int 0, .int 0, .int 0, .int 0])), (q18, .inr (3, [.int 0, .int 0, .int 0, .int 0, .int 0, .int 0, .int 0, .int 0])), (q20, .inr (3, [.int 0, .int 0, .int 0, .int 0, .int 0, .int 0, .int 0, .int 0])), (q22, .inr (3, [.int 0, .int 0, .int 0, .int 0, .int 0, .int 0, .int 0, .int 0])), (q24, .inr (3, [.int 0, .int 0, .int 0, .int 0, .int 0, .int 0, .int 0, .int 0])), (q26, .inr (3, [.int 0, .int 0, .int 0, .int 0, .int 0, .int 0, .int 0, .int 0])), (q28, .inr (3, [.int 0, .int 0, .int 0, .int 0, .int 0, .int 0, .int 0, .int 0])), (q30, .inr (3, [.int 0, .int 0, .int 0, .int 0, .int 0, .int 0, .int 0, .int 0]))]) rfl ?_
  obtain ⟨g31, eg31⟩ : ∃ g : Nat → Option Nat, va_up g29 (8 : Int32).toNatClampNeg (some q30) = g := ⟨_, rfl⟩
  refine A_astq (j := 2) (ci := 3) (f2 := g31) (ws2 := [(h0, .inr (1, [.ref q1, .ref q2, .ref q3, .ref q4, .ref q7, .int 0, .int 0, .int 0])), (q3, .inl (cA 2, 10, .inr (.inr (.inr (.inr g31))))), (q4, .inr (2, [.ref q5, .ref q6, .int 0])), (q5, .inl (cA 0, 50, .inl (fun _ => 0))), (q6, .inl (cA 0, 50, .inl (fun _ => 0))), (q7, .inr (2, [.ref q8, .ref q9, .int 0])), (q8, .inl (cA 0, 50, .inl (fun _ => 0))), (q9, .inl (cA 0, 50, .inl (fun _ => 0))), (q1, .inl (cA 0, 5, .inl g10)), (q2, .inl (cA 0, 5, .inl g12)), (q14, .inr (3, [.int 0, .int 0, .int 0, .int 0, .int 0, .int 0, .int 0, .int 0])), (q16, .inr (3, [.int 0, .int 0, .int 0, .int 0, .int 0, .int 0, .int 0, .int 0])), (q18, .inr (3, [.int 0, .int 0, .int 0, .int 0, .int 0, .int 0, .int 0, .int 0])), (q20, .inr (3, [.int 0, .int 0, .int 0, .int 0, .int 0, .int 0, .int 0, .int 0])), (q22, .inr (3, [.int 0, .int 0, .int 0, .int 0, .int 0, .int 0, .int 0, .int 0])), (q24, .inr (3, [.int 0, .int 0, .int 0, .int 0, .int 0, .int 0, .int 0, .int 0])), (q26, .inr (3, [.int 0, .int 0, .int 0, .int 0, .int 0, .int 0, .int 0, .int 0])), (q28, .inr (3, [.int 0, .int 0, .int 0, .int 0, .int 0, .int 0, .int 0, .int 0])), (q30, .inr (3, [.int 0, .int 0, .int 0, .int 0, .int 0, .int 0, .int 0, .int 0]))]) 1 18 rfl rfl rfl rfl (ib_in (by decide)) eg31 rfl dX1_init_85 ?_
  refine A_iinc (v := 9) (L2 := [(1, .int 9), (0, .ref h0)]) dX1_init_86 0 rfl (by decide) (by decide) rfl ?_
  refine A_goto (tgt := 67) dX1_init_89 (by decide) ?_
  refine A_iload_n dX1_init_67 0 rfl ?_
  refine A_bipush (v := 10) dX1_init_68 (by decide) ?_
  refine A_ge_f (by decide) dX1_init_70 (tgt := 92) (by decide) ?_
  refine A_aload_n dX1_init_73 1 rfl ?_
  refine A_get (C0 := RX1) (T := TX1) (k0 := 2) (v := .ref q3) rfl inT_1 rfl fl_X1_20 0 rfl (by decide) rfl dX1_init_74 ?_
  refine A_iload_n dX1_init_77 0 rfl ?_
  refine A_new (ci := 3) (C0 := RX3) (T := TX3) (ty := tyX3) (fs := [.int 0, .int 0, .int 0, .int 0, .int 0, .int 0, .int 0, .int 0]) rfl inT_3 tyX3_ok cl_X1_18 iw_3 in_3 rfl df_3 (by decide) (by decide) dX1_init_78 (fun q32 => ?_)
  refine A_ws (ws2 := [(h0, .inr (1, [.ref q1, .ref q2, .ref q3, .ref q4, .ref q7, .int 0, .int 0, .int 0])), (q3, .inl (cA 2, 10, .inr (.inr (.inr (.inr g31))))), (q4, .inr (2, [.ref q5, .ref q6, .int 0])), (q5, .inl (cA 0, 50, .inl (fun _ => 0))), (q6, .inl (cA 0, 50, .inl (fun _ => 0))), (q7, .inr (2, [.ref q8, .ref q9, .int 0])), (q8, .inl (cA 0, 50, .inl (fun _ => 0))), (q9, .inl (cA 0, 50, .inl (fun _ => 0))), (q1, .inl (cA 0, 5, .inl g10)), (q2, .inl (cA 0, 5, .inl g12)), (q14, .inr (3, [.int 0, .int 0, .int 0, .int 0, .int 0, .int 0, .int 0, .int 0])), (q16, .inr (3, [.int 0, .int 0, .int 0, .int 0, .int 0, .int 0, .int 0, .int 0])), (q18, .inr (3, [.int 0, .int 0, .int 0, .int 0, .int 0, .int 0, .int 0, .int 0])), (q20, .inr (3, [.int 0, .int 0, .int 0, .int 0, .int 0, .int 0, .int 0, .int 0])), (q22, .inr (3, [.int 0, .int 0, .int 0, .int 0, .int 0, .int 0, .int 0, .int 0])), (q24, .inr (3, [.int 0, .int 0, .int 0, .int 0, .int 0, .int 0, .int 0, .int 0])), (q26, .inr (3, [.int 0, .int 0, .int 0, .int 0, .int 0, .int 0, .int 0, .int 0])), (q28, .inr (3, [.int 0, .int 0, .int 0, .int 0, .int 0, .int 0, .int 0, .int 0])), (q30, .inr (3, [.int 0, .int 0, .int 0, .int 0, .int 0, .int 0, .int 0, .int 0])), (q32, .inr (3, [.int 0, .int 0, .int 0, .int 0, .int 0, .int 0, .int 0, .int 0]))]) rfl ?_
  refine A_dup rfl dX1_init_81 ?_
  refine A_callI (wr := [(h0, .inr (1, [.ref q1, .ref q2, .ref q3, .ref q4, .ref q7, .int 0, .int 0, .int 0])), (q3, .inl (cA 2, 10, .inr (.inr (.inr (.inr g31))))), (q4, .inr (2, [.ref q5, .ref q6, .int 0])), (q5, .inl (cA 0, 50, .inl (fun _ => 0))), (q6, .inl (cA 0, 50, .inl (fun _ => 0))), (q7, .inr (2, [.ref q8, .ref q9, .int 0])), (q8, .inl (cA 0, 50, .inl (fun _ => 0))), (q9, .inl (cA 0, 50, .inl (fun _ => 0))), (q1, .inl (cA 0, 5, .inl g10)), (q2, .inl (cA 0, 5, .inl g12)), (q14, .inr (3, [.int 0, .int 0, .int 0, .int 0, .int 0, .int 0, .int 0, .int 0])), (q16, .inr (3, [.int 0, .int 0, .int 0, .int 0, .int 0, .int 0, .int 0, .int 0])), (q18, .inr (3, [.int 0, .int 0, .int 0, .int 0, .int 0, .int 0, .int 0, .int 0])), (q20, .inr (3, [.int 0, .int 0, .int 0, .int 0, .int 0, .int 0, .int 0, .int 0])), (q22, .inr (3, [.int 0, .int 0, .int 0, .int 0, .int 0, .int 0, .int 0, .int 0])), (q24, .inr (3, [.int 0, .int 0, .int 0, .int 0, .int 0, .int 0, .int 0, .int 0])), (q26, .inr (3, [.int 0, .int 0, .int 0, .int 0, .int 0, .int 0, .int 0, .int 0])), (q28, .inr (3, [.int 0, .int 0, .int 0, .int 0, .int 0, .int 0, .int 0, .int 0])), (q30, .inr (3, [.int 0, .int 0, .int 0, .int 0, .int 0, .int 0, .int 0, .int 0]))]) (X3_init_made q32) ok_X3_init (Or.inr (by simp [nestA])) (by decide) rfl rfl (Nat.le_of_ble_eq_true rfl) [19] [0, 1, 2, 3, 4, 5, 6, 7, 8, 9, 10, 11, 12, 13, 14, 15, 16, 17, 18] rfl rfl (by decide) (by decide) (by decide) (by decide) (by decide) dX1_init_82 ?_
  rintro w ⟨rfl⟩
  refine A_ws (ws2 := [(h0, .inr (1, [.ref q1, .ref q2, .ref q3, .ref q4, .ref q7, .int 0, .int 0, .int 0])), (q3, .inl (cA 2, 10, .inr (.inr (.inr (.inr g31))))), (q4, .inr (2, [.ref q5, .ref q6, .int 0])), (q5, .inl (cA 0, 50, .inl (fun _ => 0))), (q6, .inl (cA 0, 50, .inl (fun _ => 0))), (q7, .inr (2, [.ref q8, .ref q9, .int 0])), (q8, .inl (cA 0, 50, .inl (fun _ => 0))), (q9, .inl (cA 0, 50, .inl (fun _ => 0))), (q1, .inl (cA 0, 5, .inl g10)), (q2, .inl (cA 0, 5, .inl g12)), (q14, .inr (3, [.int 0, .int 0, .int 0, .int 0, .int 0, .int 0, .int 0, .int 0])), (q16, .inr (3, [.int 0, .int 0, .int 0, .int 0, .int 0, .int 0, .int 0, .int 0])), (q18, .inr (3, [.int 0, .int 0, .int 0, .int 0, .int 0, .int 0, .int 0, .int 0])), (q20, .inr (3, [.int 0, .int 0, .int 0, .int 0, .int 0, .int 0, .int 0, .int 0])), (q22, .inr (3, [.int 0, .int 0, .int 0, .int 0, .int 0, .int 0, .int 0, .int 0])), (q24, .inr (3, [.int 0, .int 0, .int 0, .int 0, .int 0, .int 0, .int 0, .int 0])), (q26, .inr (3, [.int 0, .int 0, .int 0, .int 0, .int 0, .int 0, .int 0, .int 0])), (q28, .inr (3, [.int 0, .int 0, .int 0, .int 0, .int 0, .int 0, .int 0, .int 0])), (q30, .inr (3, [.int 0, .int 0, .int 0, .int 0, .int 0, .int 0, .int 0, .int 0])), (q32, .inr (3, [.int 0, .int 0, .int 0, .int 0, .int 0, .int 0, .int 0, .int 0]))]) rfl ?_
  obtain ⟨g33, eg33⟩ : ∃ g : Nat → Option Nat, va_up g31 (9 : Int32).toNatClampNeg (some q32) = g := ⟨_, rfl⟩
  refine A_astq (j := 2) (ci := 3) (f2 := g33) (ws2 := [(h0, .inr (1, [.ref q1, .ref q2, .ref q3, .ref q4, .ref q7, .int 0, .int 0, .int 0])), (q3, .inl (cA 2, 10, .inr (.inr (.inr (.inr g33))))), (q4, .inr (2, [.ref q5, .ref q6, .int 0])), (q5, .inl (cA 0, 50, .inl (fun _ => 0))), (q6, .inl (cA 0, 50, .inl (fun _ => 0))), (q7, .inr (2, [.ref q8, .ref q9, .int 0])), (q8, .inl (cA 0, 50, .inl (fun _ => 0))), (q9, .inl (cA 0, 50, .inl (fun _ => 0))), (q1, .inl (cA 0, 5, .inl g10)), (q2, .inl (cA 0, 5, .inl g12)), (q14, .inr (3, [.int 0, .int 0, .int 0, .int 0, .int 0, .int 0, .int 0, .int 0])), (q16, .inr (3, [.int 0, .int 0, .int 0, .int 0, .int 0, .int 0, .int 0, .int 0])), (q18, .inr (3, [.int 0, .int 0, .int 0, .int 0, .int 0, .int 0, .int 0, .int 0])), (q20, .inr (3, [.int 0, .int 0, .int 0, .int 0, .int 0, .int 0, .int 0, .int 0])), (q22, .inr (3, [.int 0, .int 0, .int 0, .int 0, .int 0, .int 0, .int 0, .int 0])), (q24, .inr (3, [.int 0, .int 0, .int 0, .int 0, .int 0, .int 0, .int 0, .int 0])), (q26, .inr (3, [.int 0, .int 0, .int 0, .int 0, .int 0, .int 0, .int 0, .int 0])), (q28, .inr (3, [.int 0, .int 0, .int 0, .int 0, .int 0, .int 0, .int 0, .int 0])), (q30, .inr (3, [.int 0, .int 0, .int 0, .int 0, .int 0, .int 0, .int 0, .int 0])), (q32, .inr (3, [.int 0, .int 0, .int 0, .int 0, .int 0, .int 0, .int 0, .int 0]))]) 1 19 rfl rfl rfl rfl (ib_in (by decide)) eg33 rfl dX1_init_85 ?_
  refine A_iinc (v := 10) (L2 := [(1, .int 10), (0, .ref h0)]) dX1_init_86 0 rfl (by decide) (by decide) rfl ?_
  refine A_goto (tgt := 67) dX1_init_89 (by decide) ?_
  refine A_iload_n dX1_init_67 0 rfl ?_
  refine A_bipush (v := 10) dX1_init_68 (by decide) ?_
  refine A_ge_t (by decide) dX1_init_70 (tgt := 92) (by decide) ?_
  refine A_ret dX1_init_92 ?_ rfl rfl
  refine ⟨_, _, _, _, _, _, _, _, _, _, _, _, _, _, _, _, _, _, _, _, _, _, ?_, h11, h13, rfl⟩
  subst eg33 eg31 eg29 eg27 eg25 eg23 eg21 eg19 eg17 eg15
  exact ⟨rfl, rfl, rfl, rfl, rfl, rfl, rfl, rfl, rfl, rfl⟩
set_option maxRecDepth 100000 in
theorem mo_X7_1 : Cond.methodLink RX7 1 Lib.objectInit ∈ TB := tbm 19 (by decide +kernel) rfl
set_option maxRecDepth 100000 in
theorem cl_X7_7 : Cond.classLink RX7 7 RX1 ∈ TB := tbm 22 (by decide +kernel) rfl
set_option maxRecDepth 100000 in
theorem mi_X7_9 : Cond.methodLink RX7 9 yX1_init ∈ TB := tbm 24 (by decide +kernel) rfl
set_option maxRecDepth 100000 in
theorem fl_X7_10 : Cond.fieldLink RX7 10 (TX7 0).1 (TX7 0).2.1 (TX7 0).2.2.1 ∈ TB := tbm 222 (by decide +kernel) rfl
set_option maxRecDepth 100000 in
theorem fl_X7_16 : Cond.fieldLink RX7 16 (TX7 1).1 (TX7 1).2.1 (TX7 1).2.2.1 ∈ TB := tbm 223 (by decide +kernel) rfl
set_option maxRecDepth 100000 in
theorem fl_X7_19 : Cond.fieldLink RX7 19 (TX7 2).1 (TX7 2).2.1 (TX7 2).2.2.1 ∈ TB := tbm 224 (by decide +kernel) rfl
set_option maxRecDepth 100000 in
theorem cl_X7_22 : Cond.classLink RX7 22 RX0 ∈ TB := tbm 125 (by decide +kernel) rfl
set_option maxRecDepth 100000 in
theorem fl_X7_25 : Cond.fieldLink RX7 25 (TX7 3).1 (TX7 3).2.1 (TX7 3).2.2.1 ∈ TB := tbm 225 (by decide +kernel) rfl
set_option maxRecDepth 100000 in
theorem fl_X7_29 : Cond.fieldLink RX7 29 (TX7 4).1 (TX7 4).2.1 (TX7 4).2.2.1 ∈ TB := tbm 226 (by decide +kernel) rfl
set_option maxRecDepth 100000 in
theorem cl_X7_32 : Cond.classLink RX7 32 RX4 ∈ TB := tbm 155 (by decide +kernel) rfl
set_option maxRecDepth 100000 in
theorem mi_X7_34 : Cond.methodLink RX7 34 yX4_init ∈ TB := tbm 157 (by decide +kernel) rfl
set_option maxRecDepth 100000 in
theorem fl_X7_37 : Cond.fieldLink RX7 37 (TX7 5).1 (TX7 5).2.1 (TX7 5).2.2.1 ∈ TB := tbm 227 (by decide +kernel) rfl
set_option maxRecDepth 100000 in
theorem cl_X7_41 : Cond.classLink RX7 41 RX6 ∈ TB := tbm 178 (by decide +kernel) rfl
set_option maxRecDepth 100000 in
theorem fl_X7_44 : Cond.fieldLink RX7 44 (TX7 6).1 (TX7 6).2.1 (TX7 6).2.2.1 ∈ TB := tbm 228 (by decide +kernel) rfl
set_option maxRecDepth 100000 in
theorem cl_X7_48 : Cond.classLink RX7 48 RX5 ∈ TB := tbm 202 (by decide +kernel) rfl
set_option maxRecDepth 100000 in
theorem fl_X7_50 : Cond.fieldLink RX7 50 (TX7 7).1 (TX7 7).2.1 (TX7 7).2.2.1 ∈ TB := tbm 229 (by decide +kernel) rfl
set_option maxRecDepth 100000 in
theorem fl_X7_54 : Cond.fieldLink RX7 54 (TX7 8).1 (TX7 8).2.1 (TX7 8).2.2.1 ∈ TB := tbm 230 (by decide +kernel) rfl
set_option maxRecDepth 100000 in
set_option maxHeartbeats 8000000 in
theorem X7_init_made (h0 : Nat) : SpecA mt_X7_init 3 82 1426 [.ref h0] (fun cA => [(h0, .inr (7, [.null, .null, .null, .null, .null, .null, .null, .null, .null, .int 0]))]) (fun cA w => ∃ a1 a2 a3 a4 a5 a6 a7 a8 a9 a10 a11 a12 a13 a14 a15 a16 a17 a18 a19 a20 a21 a22 a23 a24 a25 a26 a27 a28 a29 a30 a31 a32 a33 a34 a35 a36 a37 a38 a39 a40 a41 a42 a43 a44 a45 a46 a47 a48 a49 a50 a51 a52 a53 a54 a55 a56 a57 a58 a59 a60 a61 a62 a63 a64 a65 a66 a67 a68 a69 a70 a71 a72 a73 a74 a75 a76 a77 a78 a79 a80 a81 a82 : Nat, ∃ f1 : Nat → Option Nat, ∃ f2 : Nat → Int32, ∃ f3 : Nat → Int32, ∃ f4 : Nat → Option Nat, ∃ f5 : Nat → Int32, ∃ f6 : Nat → Int32, ∃ f7 : Nat → Option Nat, ∃ f8 : Nat → Int32, ∃ f9 : Nat → Int32, ∃ f10 : Nat → Option Nat, (f1 0 = some a11 ∧ f1 1 = some a12 ∧ f1 2 = some a13 ∧ f1 3 = some a14 ∧ f1 4 = some a15 ∧ f1 5 = some a16 ∧ f1 6 = some a17 ∧ f1 7 = some a18 ∧ f1 8 = some a19 ∧ f1 9 = some a20) ∧ (∀ j, j < 5 → f2 j = 2) ∧ (∀ j, j < 5 → f3 j = 5) ∧ (f4 0 = some a31 ∧ f4 1 = some a32 ∧ f4 2 = some a33 ∧ f4 3 = some a34 ∧ f4 4 = some a35 ∧ f4 5 = some a36 ∧ f4 6 = some a37 ∧ f4 7 = some a38 ∧ f4 8 = some a39 ∧ f4 9 = some a40) ∧ (∀ j, j < 5 → f5 j = 2) ∧ (∀ j, j < 5 → f6 j = 5) ∧ (f7 0 = some a51 ∧ f7 1 = some a52 ∧ f7 2 = some a53 ∧ f7 3 = some a54 ∧ f7 4 = some a55 ∧ f7 5 = some a56 ∧ f7 6 = some a57 ∧ f7 7 = some a58 ∧ f7 8 = some a59 ∧ f7 9 = some a60) ∧ (∀ j, j < 5 → f8 j = 2) ∧ (∀ j, j < 5 → f9 j = 5) ∧ (f10 0 = some a75 ∧ f10 1 = some a77 ∧ f10 2 = some a79 ∧ f10 3 = some a81) ∧ w = [(h0, .inr (7, [.ref a1, .ref a21, .ref a41, .ref a61, .ref a64, .ref a67, .ref a71, .ref a73, .ref a74, .int 0])), (a1, .inr (1, [.ref a9, .ref a10, .ref a2, .ref a3, .ref a6, .int 0, .int 0, .int 0])), (a2, .inl (cA 2, 10, .inr (.inr (.inr (.inr f1))))), (a3, .inr (2, [.ref a4, .ref a5, .int 0])), (a4, .inl (cA 0, 50, .inl (fun _ => 0))), (a5, .inl (cA 0, 50, .inl (fun _ => 0))), (a6, .inr (2, [.ref a7, .ref a8, .int 0])), (a7, .inl (cA 0, 50, .inl (fun _ => 0))), (a8, .inl (cA 0, 50, .inl (fun _ => 0))), (a9, .inl (cA 0, 5, .inl f2)), (a10, .inl (cA 0, 5, .inl f3)), (a11, .inr (3, [.int 0, .int 0, .int 0, .int 0, .int 0, .int 0, .int 0, .int 0])), (a12, .inr (3, [.int 0, .int 0, .int 0, .int 0, .int 0, .int 0, .int 0, .int 0])), (a13, .inr (3, [.int 0, .int 0, .int 0, .int 0, .int 0, .int 0, .int 0, .int 0])), (a14, .inr (3, [.int 0, .int 0, .int 0, .int 0, .int 0, .int 0, .int 0, .int 0])), (a15, .inr (3, [.int 0, .int 0, .int 0, .int 0, .int 0, .int 0, .int 0, .int 0])), (a16, .inr (3, [.int 0, .int 0, .int 0, .int 0, .int 0, .int 0, .int 0, .int 0])), (a17, .inr (3, [.int 0, .int 0, .int 0, .int 0, .int 0, .int 0, .int 0, .int 0])), (a18, .inr (3, [.int 0, .int 0, .int 0, .int 0, .int 0, .int 0, .int 0, .int 0])), (a19, .inr (3, [.int 0, .int 0, .int 0, .int 0, .int 0, .int 0, .int 0, .int 0])), (a20, .inr (3, [.int 0, .int 0, .int 0, .int 0, .int 0, .int 0, .int 0, .int 0])), (a21, .inr (1, [.ref a29, .ref a30, .ref a22, .ref a23, .ref a26, .int 0, .int 0, .int 0])), (a22, .inl (cA 2, 10, .inr (.inr (.inr (.inr f4))))), (a23, .inr (2, [.ref a24, .ref a25, .int 0])), (a24, .inl (cA 0, 50, .inl (fun _ => 0))), (a25, .inl (cA 0, 50, .inl (fun _ => 0))), (a26, .inr (2, [.ref a27, .ref a28, .int 0])), (a27, .inl (cA 0, 50, .inl (fun _ => 0))), (a28, .inl (cA 0, 50, .inl (fun _ => 0))), (a29, .inl (cA 0, 5, .inl f5)), (a30, .inl (cA 0, 5, .inl f6)), (a31, .inr (3, [.int 0, .int 0, .int 0, .int 0, .int 0, .int 0, .int 0, .int 0])), (a32, .inr (3, [.int 0, .int 0, .int 0, .int 0, .int 0, .int 0, .int 0, .int 0])), (a33, .inr (3, [.int 0, .int 0, .int 0, .int 0, .int 0, .int 0, .int 0, .int 0])), (a34, .inr (3, [.int 0, .int 0, .int 0, .int 0, .int 0, .int 0, .int 0, .int 0])), (a35, .inr (3, [.int 0, .int 0, .int 0, .int 0, .int 0, .int 0, .int 0, .int 0])), (a36, .inr (3, [.int 0, .int 0, .int 0, .int 0, .int 0, .int 0, .int 0, .int 0])), (a37, .inr (3, [.int 0, .int 0, .int 0, .int 0, .int 0, .int 0, .int 0, .int 0])), (a38, .inr (3, [.int 0, .int 0, .int 0, .int 0, .int 0, .int 0, .int 0, .int 0])), (a39, .inr (3, [.int 0, .int 0, .int 0, .int 0, .int 0, .int 0, .int 0, .int 0])), (a40, .inr (3, [.int 0, .int 0, .int 0, .int 0, .int 0, .int 0, .int 0, .int 0])), (a41, .inr (1, [.ref a49, .ref a50, .ref a42, .ref a43, .ref a46, .int 0, .int 0, .int 0])), (a42, .inl (cA 2, 10, .inr (.inr (.inr (.inr f7))))), (a43, .inr (2, [.ref a44, .ref a45, .int 0])), (a44, .inl (cA 0, 50, .inl (fun _ => 0))), (a45, .inl (cA 0, 50, .inl (fun _ => 0))), (a46, .inr (2, [.ref a47, .ref a48, .int 0])), (a47, .inl (cA 0, 50, .inl (fun _ => 0))), (a48, .inl (cA 0, 50, .inl (fun _ => 0))), (a49, .inl (cA 0, 5, .inl f8)), (a50, .inl (cA 0, 5, .inl f9)), (a51, .inr (3, [.int 0, .int 0, .int 0, .int 0, .int 0, .int 0, .int 0, .int 0])), (a52, .inr (3, [.int 0, .int 0, .int 0, .int 0, .int 0, .int 0, .int 0, .int 0])), (a53, .inr (3, [.int 0, .int 0, .int 0, .int 0, .int 0, .int 0, .int 0, .int 0])), (a54, .inr (3, [.int 0, .int 0, .int 0, .int 0, .int 0, .int 0, .int 0, .int 0])), (a55, .inr (3, [.int 0, .int 0, .int 0, .int 0, .int 0, .int 0, .int 0, .int 0])), (a56, .inr (3, [.int 0, .int 0, .int 0, .int 0, .int 0, .int 0, .int 0, .int 0])), (a57, .inr (3, [.int 0, .int 0, .int 0, .int 0, .int 0, .int 0, .int 0, .int 0])), (a58, .inr (3, [.int 0, .int 0, .int 0, .int 0, .int 0, .int 0, .int 0, .int 0])), (a59, .inr (3, [.int 0, .int 0, .int 0, .int 0, .int 0, .int 0, .int 0, .int 0])), (a60, .inr (3, [.int 0, .int 0, .int 0, .int 0, .int 0, .int 0, .int 0, .int 0])), (a61, .inr (0, [.ref a62, .ref a63, .int 0, .int 0, .int 1])), (a62, .inl (cA 1, 50, .inl (fun _ => 0))), (a63, .inl (cA 0, 20, .inl (fun _ => 0))), (a64, .inr (0, [.ref a65, .ref a66, .int 0, .int 0, .int 1])), (a65, .inl (cA 1, 50, .inl (fun _ => 0))), (a66, .inl (cA 0, 20, .inl (fun _ => 0))), (a67, .inr (4, [.ref a68, .ref a61, .int 0, .int 0])), (a68, .inr (2, [.ref a69, .ref a70, .int 0])), (a69, .inl (cA 0, 50, .inl (fun _ => 0))), (a70, .inl (cA 0, 50, .inl (fun _ => 0))), (a71, .inr (6, [.ref a72, .int 0, .int 0, .int 0, .int 0])), (a72, .inl (cA 0, 40, .inl (fun _ => 0))), (a73, .inl (cA 3, 4, .inr (.inr (.inr (.inr f10))))), (a74, .inl (cA 0, 6, .inl (fun _ => 0))), (a75, .inr (5, [.ref a76, .int 0, .int 0])), (a76, .inl (cA 0, 40, .inl (fun _ => 0))), (a77, .inr (5, [.ref a78, .int 0, .int 0])), (a78, .inl (cA 0, 40, .inl (fun _ => 0))), (a79, .inr (5, [.ref a80, .int 0, .int 0])), (a80, .inl (cA 0, 40, .inl (fun _ => 0))), (a81, .inr (5, [.ref a82, .int 0, .int 0])), (a82, .inl (cA 0, 40, .inl (fun _ => 0)))]) := by
  refine SpecA_of (L := [(0, .ref h0)]) (by decide) rfl rfl (Nat.le_of_ble_eq_true rfl) rfl (fun cA => ?_)
  refine A_aload_n dX7_init_0 0 rfl ?_
  refine A_obj mo_X7_1 oi_i oi_c (by decide) (by decide) dX7_init_1 ?_
  refine A_aload_n dX7_init_4 0 rfl ?_
  refine A_new (ci := 1) (C0 := RX1) (T := TX1) (ty := tyX1) (fs := [.null, .null, .null, .null, .null, .int 0, .int 0, .int 0]) rfl inT_1 tyX1_ok cl_X7_7 iw_1 in_1 rfl df_1 (by decide) (by decide) dX7_init_5 (fun q1 => ?_)
  refine A_ws (ws2 := [(h0, .inr (7, [.null, .null, .null, .null, .null, .null, .null, .null, .null, .int 0])), (q1, .inr (1, [.null, .null, .null, .null, .null, .int 0, .int 0, .int 0]))]) rfl ?_
  refine A_dup rfl dX7_init_8 ?_
  refine A_callI (wr := [(h0, .inr (7, [.null, .null, .null, .null, .null, .null, .null, .null, .null, .int 0]))]) (X1_init_made q1) ok_X1_init (Or.inl mi_X7_9) (by decide) rfl rfl (Nat.le_of_ble_eq_true rfl) [1] [0] rfl rfl (by decide) (by decide) (by decide) (by decide) (by decide) dX7_init_9 ?_
  rintro w ⟨q2, q3, q4, q5, q6, q7, q8, q9, q10, q11, q12, q13, q14, q15, q16, q17, q18, q19, q20, g21, g22, g23, h24, h25, h26, rfl⟩
  refine A_ws (ws2 := [(h0, .inr (7, [.null, .null, .null, .null, .null, .null, .null, .null, .null, .int 0])), (q1, .inr (1, [.ref q9, .ref q10, .ref q2, .ref q3, .ref q6, .int 0, .int 0, .int 0])), (q2, .inl (cA 2, 10, .inr (.inr (.inr (.inr g21))))), (q3, .inr (2, [.ref q4, .ref q5, .int 0])), (q4, .inl (cA 0, 50, .inl (fun _ => 0))), (q5, .inl (cA 0, 50, .inl (fun _ => 0))), (q6, .inr (2, [.ref q7, .ref q8, .int 0])), (q7, .inl (cA 0, 50, .inl (fun _ => 0))), (q8, .inl (cA 0, 50, .inl (fun _ => 0))), (q9, .inl (cA 0, 5, .inl g22)), (q10, .inl (cA 0, 5, .inl g23)), (q11, .inr (3, [.int 0, .int 0, .int 0, .int 0, .int 0, .int 0, .int 0, .int 0])), (q12, .inr (3, [.int 0, .int 0, .int 0, .int 0, .int 0, .int 0, .int 0, .int 0])), (q13, .inr (3, [.int 0, .int 0, .int 0, .int 0, .int 0, .int 0, .int 0, .int 0])), (q14, .inr (3, [.int 0, .int 0, .int 0, .int 0, .int 0, .int 0, .int 0, .int 0])), (q15, .inr (3, [.int 0, .int 0, .int 0, .int 0, .int 0, .int 0, .int 0, .int 0])), (q16, .inr (3, [.int 0, .int 0, .int 0, .int 0, .int 0, .int 0, .int 0, .int 0])), (q17, .inr (3, [.int 0, .int 0, .int 0, .int 0, .int 0, .int 0, .int 0, .int 0])), (q18, .inr (3, [.int 0, .int 0, .int 0, .int 0, .int 0, .int 0, .int 0, .int 0])), (q19, .inr (3, [.int 0, .int 0, .int 0, .int 0, .int 0, .int 0, .int 0, .int 0])), (q20, .inr (3, [.int 0, .int 0, .int 0, .int 0, .int 0, .int 0, .int 0, .int 0]))]) rfl ?_
  refine A_putF (C0 := RX7) (T := TX7) (ty := tyX7) (k0 := 0) (ws2 := [(h0, .inr (7, [.ref q1, .null, .null, .null, .null, .null, .null, .null, .null, .int 0])), (q1, .inr (1, [.ref q9, .ref q10, .ref q2, .ref q3, .ref q6, .int 0, .int 0, .int 0])), (q2, .inl (cA 2, 10, .inr (.inr (.inr (.inr g21))))), (q3, .inr (2, [.ref q4, .ref q5, .int 0])), (q4, .inl (cA 0, 50, .inl (fun _ => 0))), (q5, .inl (cA 0, 50, .inl (fun _ => 0))), (q6, .inr (2, [.ref q7, .ref q8, .int 0])), (q7, .inl (cA 0, 50, .inl (fun _ => 0))), (q8, .inl (cA 0, 50, .inl (fun _ => 0))), (q9, .inl (cA 0, 5, .inl g22)), (q10, .inl (cA 0, 5, .inl g23)), (q11, .inr (3, [.int 0, .int 0, .int 0, .int 0, .int 0, .int 0, .int 0, .int 0])), (q12, .inr (3, [.int 0, .int 0, .int 0, .int 0, .int 0, .int 0, .int 0, .int 0])), (q13, .inr (3, [.int 0, .int 0, .int 0, .int 0, .int 0, .int 0, .int 0, .int 0])), (q14, .inr (3, [.int 0, .int 0, .int 0, .int 0, .int 0, .int 0, .int 0, .int 0])), (q15, .inr (3, [.int 0, .int 0, .int 0, .int 0, .int 0, .int 0, .int 0, .int 0])), (q16, .inr (3, [.int 0, .int 0, .int 0, .int 0, .int 0, .int 0, .int 0, .int 0])), (q17, .inr (3, [.int 0, .int 0, .int 0, .int 0, .int 0, .int 0, .int 0, .int 0])), (q18, .inr (3, [.int 0, .int 0, .int 0, .int 0, .int 0, .int 0, .int 0, .int 0])), (q19, .inr (3, [.int 0, .int 0, .int 0, .int 0, .int 0, .int 0, .int 0, .int 0])), (q20, .inr (3, [.int 0, .int 0, .int 0, .int 0, .int 0, .int 0, .int 0, .int 0]))]) rfl rfl inT_7 tyX7_ok nmX7 rfl fl_X7_10 0 rfl (by decide) rfl rfl rfl rfl (Nat.le_of_ble_eq_true rfl) rfl dX7_init_12 ?_
  refine A_aload_n dX7_init_15 0 rfl ?_
  refine A_new (ci := 1) (C0 := RX1) (T := TX1) (ty := tyX1) (fs := [.null, .null, .null, .null, .null, .int 0, .int 0, .int 0]) rfl inT_1 tyX1_ok cl_X7_7 iw_1 in_1 rfl df_1 (by decide) (by decide) dX7_init_16 (fun q27 => ?_)
  refine A_ws (ws2 := [(h0, .inr (7, [.ref q1, .null, .null, .null, .null, .null, .null, .null, .null, .int 0])), (q1, .inr (1, [.ref q9, .ref q10, .ref q2, .ref q3, .ref q6, .int 0, .int 0, .int 0])), (q2, .inl (cA 2, 10, .inr (.inr (.inr (.inr g21))))), (q3, .inr (2, [.ref q4, .ref q5, .int 0])), (q4, .inl (cA 0, 50, .inl (fun _ => 0))), (q5, .inl (cA 0, 50, .inl (fun _ => 0))), (q6, .inr (2, [.ref q7, .ref q8, .int 0])), (q7, .inl (cA 0, 50, .inl (fun _ => 0))), (q8, .inl (cA 0, 50, .inl (fun _ => 0))), (q9, .inl (cA 0, 5, .inl g22)), (q10, .inl (cA 0, 5, .inl g23)), (q11, .inr (3, [.int 0, .int 0, .int 0, .int 0, .int 0, .int 0, .int 0, .int 0])), (q12, .inr (3, [.int 0, .int 0, .int 0, .int 0, .int 0, .int 0, .int 0, .int 0])), (q13, .inr (3, [.int 0, .int 0, .int 0, .int 0, .int 0, .int 0, .int 0, .int 0])), (q14, .inr (3, [.int 0, .int 0, .int 0, .int 0, .int 0, .int 0, .int 0, .int 0])), (q15, .inr (3, [.int 0, .int 0, .int 0, .int 0, .int 0, .int 0, .int 0, .int 0])), (q16, .inr (3, [.int 0, .int 0, .int 0, .int 0, .int 0, .int 0, .int 0, .int 0])), (q17, .inr (3, [.int 0, .int 0, .int 0, .int 0, .int 0, .int 0, .int 0, .int 0])), (q18, .inr (3, [.int 0, .int 0, .int 0, .int 0, .int 0, .int 0, .int 0, .int 0])), (q19, .inr (3, [.int 0, .int 0, .int 0, .int 0, .int 0, .int 0, .int 0, .int 0])), (q20, .inr (3, [.int 0, .int 0, .int 0, .int 0, .int 0, .int 0, .int 0, .int 0])), (q27, .inr (1, [.null, .null, .null, .null, .null, .int 0, .int 0, .int 0]))]) rfl ?_
  refine A_dup rfl dX7_init_19 ?_
  refine A_callI (wr := [(h0, .inr (7, [.ref q1, .null, .null, .null, .null, .null, .null, .null, .null, .int 0])), (q1, .inr (1, [.ref q9, .ref q10, .ref q2, .ref q3, .ref q6, .int 0, .int 0, .int 0])), (q2, .inl (cA 2, 10, .inr (.inr (.inr (.inr g21))))), (q3, .inr (2, [.ref q4, .ref q5, .int 0])), (q4, .inl (cA 0, 50, .inl (fun _ => 0))), (q5, .inl (cA 0, 50, .inl (fun _ => 0))), (q6, .inr (2, [.ref q7, .ref q8, .int 0])), (q7, .inl (cA 0, 50, .inl (fun _ => 0))), (q8, .inl (cA 0, 50, .inl (fun _ => 0))), (q9, .inl (cA 0, 5, .inl g22)), (q10, .inl (cA 0, 5, .inl g23)), (q11, .inr (3, [.int 0, .int 0, .int 0, .int 0, .int 0, .int 0, .int 0, .int 0])), (q12, .inr (3, [.int 0, .int 0, .int 0, .int 0, .int 0, .int 0, .int 0, .int 0])), (q13, .inr (3, [.int 0, .int 0, .int 0, .int 0, .int 0, .int 0, .int 0, .int 0])), (q14, .inr (3, [.int 0, .int 0, .int 0, .int 0, .int 0, .int 0, .int 0, .int 0])), (q15, .inr (3, [.int 0, .int 0, .int 0, .int 0, .int 0, .int 0, .int 0, .int 0])), (q16, .inr (3, [.int 0, .int 0, .int 0, .int 0, .int 0, .int 0, .int 0, .int 0])), (q17, .inr (3, [.int 0, .int 0, .int 0, .int 0, .int 0, .int 0, .int 0, .int 0])), (q18, .inr (3, [.int 0, .int 0, .int 0, .int 0, .int 0, .int 0, .int 0, .int 0])), (q19, .inr (3, [.int 0, .int 0, .int 0, .int 0, .int 0, .int 0, .int 0, .int 0])), (q20, .inr (3, [.int 0, .int 0, .int 0, .int 0, .int 0, .int 0, .int 0, .int 0]))]) (X1_init_made q27) ok_X1_init (Or.inl mi_X7_9) (by decide) rfl rfl (Nat.le_of_ble_eq_true rfl) [21] [0, 1, 2, 3, 4, 5, 6, 7, 8, 9, 10, 11, 12, 13, 14, 15, 16, 17, 18, 19, 20] rfl rfl (by decide) (by decide) (by decide) (by decide) (by decide) dX7_init_20 ?_
  rintro w ⟨q28, q29, q30, q31, q32, q33, q34, q35, q36, q37, q38, q39, q40, q41, q42, q43, q44, q45, q46, g47, g48, g49, h50, h51, h52, rfl⟩
  refine A_ws (ws2 := [(h0, .inr (7, [.ref q1, .null, .null, .null, .null, .null, .null, .null, .null, .int 0])), (q1, .inr (1, [.ref q9, .ref q10, .ref q2, .ref q3, .ref q6, .int 0, .int 0, .int 0])), (q2, .inl (cA 2, 10, .inr (.inr (.inr (.inr g21))))), (q3, .inr (2, [.ref q4, .ref q5, .int 0])), (q4, .inl (cA 0, 50, .inl (fun _ => 0))), (q5, .inl (cA 0, 50, .inl (fun _ => 0))), (q6, .inr (2, [.ref q7, .ref q8, .int 0])), (q7, .inl (cA 0, 50, .inl (fun _ => 0))), (q8, .inl (cA 0, 50, .inl (fun _ => 0))), (q9, .inl (cA 0, 5, .inl g22)), (q10, .inl (cA 0, 5, .inl g23)), (q11, .inr (3, [.int 0, .int 0, .int 0, .int 0, .int 0, .int 0, .int 0, .int 0])), (q12, .inr (3, [.int 0, .int 0, .int 0, .int 0, .int 0, .int 0, .int 0, .int 0])), (q13, .inr (3, [.int 0, .int 0, .int 0, .int 0, .int 0, .int 0, .int 0, .int 0])), (q14, .inr (3, [.int 0, .int 0, .int 0, .int 0, .int 0, .int 0, .int 0, .int 0])), (q15, .inr (3, [.int 0, .int 0, .int 0, .int 0, .int 0, .int 0, .int 0, .int 0])), (q16, .inr (3, [.int 0, .int 0, .int 0, .int 0, .int 0, .int 0, .int 0, .int 0])), (q17, .inr (3, [.int 0, .int 0, .int 0, .int 0, .int 0, .int 0, .int 0, .int 0])), (q18, .inr (3, [.int 0, .int 0, .int 0, .int 0, .int 0, .int 0, .int 0, .int 0])), (q19, .inr (3, [.int 0, .int 0, .int 0, .int 0, .int 0, .int 0, .int 0, .int 0])), (q20, .inr (3, [.int 0, .int 0, .int 0, .int 0, .int 0, .int 0, .int 0, .int 0])), (q27, .inr (1, [.ref q35, .ref q36, .ref q28, .ref q29, .ref q32, .int 0, .int 0, .int 0])), (q28, .inl (cA 2, 10, .inr (.inr (.inr (.inr g47))))), (q29, .inr (2, [.ref q30, .ref q31, .int 0])), (q30, .inl (cA 0, 50, .inl (fun _ => 0))), (q31, .inl (cA 0, 50, .inl (fun _ => 0))), (q32, .inr (2, [.ref q33, .ref q34, .int 0])), (q33, .inl (cA 0, 50, .inl (fun _ => 0))), (q34, .inl (cA 0, 50, .inl (fun _ => 0))), (q35, .inl (cA 0, 5, .inl g48)), (q36, .inl (cA 0, 5, .inl g49)), (q37, .inr (3, [.int 0, .int 0, .int 0, .int 0, .int 0, .int 0, .int 0, .int 0])), (q38, .inr (3, [.int 0, .int 0, .int 0, .int 0, .int 0, .int 0, .int 0, .int 0])), (q39, .inr (3, [.int 0, .int 0, .int 0, .int 0, .int 0, .int 0, .int 0, .int 0])), (q40, .inr (3, [.int 0, .int 0, .int 0, .int 0, .int 0, .int 0, .int 0, .int 0])), (q41, .inr (3, [.int 0, .int 0, .int 0, .int 0, .int 0, .int 0, .int 0, .int 0])), (q42, .inr (3, [.int 0, .int 0, .int 0, .int 0, .int 0, .int 0, .int 0, .int 0])), (q43, .inr (3, [.int 0, .int 0, .int 0, .int 0, .int 0, .int 0, .int 0, .int 0])), (q44, .inr (3, [.int 0, .int 0, .int 0, .int 0, .int 0, .int 0, .int 0, .int 0])), (q45, .inr (3, [.int 0, .int 0, .int 0, .int 0, .int 0, .int 0, .int 0, .int 0])), (q46, .inr (3, [.int 0, .int 0, .int 0, .int 0, .int 0, .int 0, .int 0, .int 0]))]) rfl ?_
  refine A_putF (C0 := RX7) (T := TX7) (ty := tyX7) (k0 := 1) (ws2 := [(h0, .inr (7, [.ref q1, .ref q27, .null, .null, .null, .null, .null, .null, .null, .int 0])), (q1, .inr (1, [.ref q9, .ref q10, .ref q2, .ref q3, .ref q6, .int 0, .int 0, .int 0])), (q2, .inl (cA 2, 10, .inr (.inr (.inr (.inr g21))))), (q3, .inr (2, [.ref q4, .ref q5, .int 0])), (q4, .inl (cA 0, 50, .inl (fun _ => 0))), (q5, .inl (cA 0, 50, .inl (fun _ => 0))), (q6, .inr (2, [.ref q7, .ref q8, .int 0])), (q7, .inl (cA 0, 50, .inl (fun _ => 0))), (q8, .inl (cA 0, 50, .inl (fun _ => 0))), (q9, .inl (cA 0, 5, .inl g22)), (q10, .inl (cA 0, 5, .inl g23)), (q11, .inr (3, [.int 0, .int 0, .int 0, .int 0, .int 0, .int 0, .int 0, .int 0])), (q12, .inr (3, [.int 0, .int 0, .int 0, .int 0, .int 0, .int 0, .int 0, .int 0])), (q13, .inr (3, [.int 0, .int 0, .int 0, .int 0, .int 0, .int 0, .int 0, .int 0])), (q14, .inr (3, [.int 0, .int 0, .int 0, .int 0, .int 0, .int 0, .int 0, .int 0])), (q15, .inr (3, [.int 0, .int 0, .int 0, .int 0, .int 0, .int 0, .int 0, .int 0])), (q16, .inr (3, [.int 0, .int 0, .int 0, .int 0, .int 0, .int 0, .int 0, .int 0])), (q17, .inr (3, [.int 0, .int 0, .int 0, .int 0, .int 0, .int 0, .int 0, .int 0])), (q18, .inr (3, [.int 0, .int 0, .int 0, .int 0, .int 0, .int 0, .int 0, .int 0])), (q19, .inr (3, [.int 0, .int 0, .int 0, .int 0, .int 0, .int 0, .int 0, .int 0])), (q20, .inr (3, [.int 0, .int 0, .int 0, .int 0, .int 0, .int 0, .int 0, .int 0])), (q27, .inr (1, [.ref q35, .ref q36, .ref q28, .ref q29, .ref q32, .int 0, .int 0, .int 0])), (q28, .inl (cA 2, 10, .inr (.inr (.inr (.inr g47))))), (q29, .inr (2, [.ref q30, .ref q31, .int 0])), (q30, .inl (cA 0, 50, .inl (fun _ => 0))), (q31, .inl (cA 0, 50, .inl (fun _ => 0))), (q32, .inr (2, [.ref q33, .ref q34, .int 0])), (q33, .inl (cA 0, 50, .inl (fun _ => 0))), (q34, .inl (cA 0, 50, .inl (fun _ => 0))), (q35, .inl (cA 0, 5, .inl g48)), (q36, .inl (cA 0, 5, .inl g49)), (q37, .inr (3, [.int 0, .int 0, .int 0, .int 0, .int 0, .int 0, .int 0, .int 0])), (q38, .inr (3, [.int 0, .int 0, .int 0, .int 0, .int 0, .int 0, .int 0, .int 0])), (q39, .inr (3, [.int 0, .int 0, .int 0, .int 0, .int 0, .int 0, .int 0, .int 0])), (q40, .inr (3, [.int 0, .int 0, .int 0, .int 0, .int 0, .int 0, .int 0, .int 0])), (q41, .inr (3, [.int 0, .int 0, .int 0, .int 0, .int 0, .int 0, .int 0, .int 0])), (q42, .inr (3, [.int 0, .int 0, .int 0, .int 0, .int 0, .int 0, .int 0, .int 0])), (q43, .inr (3, [.int 0, .int 0, .int 0, .int 0, .int 0, .int 0, .int 0, .int 0])), (q44, .inr (3, [.int 0, .int 0, .int 0, .int 0, .int 0, .int 0, .int 0, .int 0])), (q45, .inr (3, [.int 0, .int 0, .int 0, .int 0, .int 0, .int 0, .int 0, .int 0])), (q46, .inr (3, [.int 0, .int 0, .int 0, .int 0, .int 0, .int 0, .int 0, .int 0]))]) rfl rfl inT_7 tyX7_ok nmX7 rfl fl_X7_16 0 rfl (by decide) rfl rfl rfl rfl (Nat.le_of_ble_eq_true rfl) rfl dX7_init_23 ?_
  refine A_aload_n dX7_init_26 0 rfl ?_
  refine A_new (ci := 1) (C0 := RX1) (T := TX1) (ty := tyX1) (fs := [.null, .null, .null, .null, .null, .int 0, .int 0, .int 0]) rfl inT_1 tyX1_ok cl_X7_7 iw_1 in_1 rfl df_1 (by decide) (by decide) dX7_init_27 (fun q53 => ?_)
  refine A_ws (ws2 := [(h0, .inr (7, [.ref q1, .ref q27, .null, .null, .null, .null, .null, .null, .null, .int 0])), (q1, .inr (1, [.ref q9, .ref q10, .ref q2, .ref q3, .ref q6, .int 0, .int 0, .int 0])), (q2, .inl (cA 2, 10, .inr (.inr (.inr (.inr g21))))), (q3, .inr (2, [.ref q4, .ref q5, .int 0])), (q4, .inl (cA 0, 50, .inl (fun _ => 0))), (q5, .inl (cA 0, 50, .inl (fun _ => 0))), (q6, .inr (2, [.ref q7, .ref q8, .int 0])), (q7, .inl (cA 0, 50, .inl (fun _ => 0))), (q8, .inl (cA 0, 50, .inl (fun _ => 0))), (q9, .inl (cA 0, 5, .inl g22)), (q10, .inl (cA 0, 5, .inl g23)), (q11, .inr (3, [.int 0, .int 0, .int 0, .int 0, .int 0, .int 0, .int 0, .int 0])), (q12, .inr (3, [.int 0, .int 0, .int 0, .int 0, .int 0, .int 0, .int 0, .int 0])), (q13, .inr (3, [.int 0, .int 0, .int 0, .int 0, .int 0, .int 0, .int 0, .int 0])), (q14, .inr (3, [.int 0, .int 0, .int 0, .int 0, .int 0, .int 0, .int 0, .int 0])), (q15, .inr (3, [.int 0, .int 0, .int 0, .int 0, .int 0, .int 0, .int 0, .int 0])), (q16, .inr (3, [.int 0, .int 0, .int 0, .int 0, .int 0, .int 0, .int 0, .int 0])), (q17, .inr (3, [.int 0, .int 0, .int 0, .int 0, .int 0, .int 0, .int 0, .int 0])), (q18, .inr (3, [.int 0, .int 0, .int 0, .int 0, .int 0, .int 0, .int 0, .int 0])), (q19, .inr (3, [.int 0, .int 0, .int 0, .int 0, .int 0, .int 0, .int 0, .int 0])), (q20, .inr (3, [.int 0, .int 0, .int 0, .int 0, .int 0, .int 0, .int 0, .int 0])), (q27, .inr (1, [.ref q35, .ref q36, .ref q28, .ref q29, .ref q32, .int 0, .int 0, .int 0])), (q28, .inl (cA 2, 10, .inr (.inr (.inr (.inr g47))))), (q29, .inr (2, [.ref q30, .ref q31, .int 0])), (q30, .inl (cA 0, 50, .inl (fun _ => 0))), (q31, .inl (cA 0, 50, .inl (fun _ => 0))), (q32, .inr (2, [.ref q33, .ref q34, .int 0])), (q33, .inl (cA 0, 50, .inl (fun _ => 0))), (q34, .inl (cA 0, 50, .inl (fun _ => 0))), (q35, .inl (cA 0, 5, .inl g48)), (q36, .inl (cA 0, 5, .inl g49)), (q37, .inr (3, [.int 0, .int 0, .int 0, .int 0, .int 0, .int 0, .int 0, .int 0])), (q38, .inr (3, [.int 0, .int 0, .int 0, .int 0, .int 0, .int 0, .int 0, .int 0])), (q39, .inr (3, [.int 0, .int 0, .int 0, .int 0, .int 0, .int 0, .int 0, .int 0])), (q40, .inr (3, [.int 0, .int 0, .int 0, .int 0, .int 0, .int 0, .int 0, .int 0])), (q41, .inr (3, [.int 0, .int 0, .int 0, .int 0, .int 0, .int 0, .int 0, .int 0])), (q42, .inr (3, [.int 0, .int 0, .int 0, .int 0, .int 0, .int 0, .int 0, .int 0])), (q43, .inr (3, [.int 0, .int 0, .int 0, .int 0, .int 0, .int 0, .int 0, .int 0])), (q44, .inr (3, [.int 0, .int 0, .int 0, .int 0, .int 0, .int 0, .int 0, .int 0])), (q45, .inr (3, [.int 0, .int 0, .int 0, .int 0, .int 0, .int 0, .int 0, .int 0])), (q46, .inr (3, [.int 0, .int 0, .int 0, .int 0, .int 0, .int 0, .int 0, .int 0])), (q53, .inr (1, [.null, .null, .null, .null, .null, .int 0, .int 0, .int 0]))]) rfl ?_
  refine A_dup rfl dX7_init_30 ?_
  refine A_callI (wr := [(h0, .inr (7, [.ref q1, .ref q27, .null, .null, .null, .null, .null, .null, .null, .int 0])), (q1, .inr (1, [.ref q9, .ref q10, .ref q2, .ref q3, .ref q6, .int 0, .int 0, .int 0])), (q2, .inl (cA 2, 10, .inr (.inr (.inr (.inr g21))))), (q3, .inr (2, [.ref q4, .ref q5, .int 0])), (q4, .inl (cA 0, 50, .inl (fun _ => 0))), (q5, .inl (cA 0, 50, .inl (fun _ => 0))), (q6, .inr (2, [.ref q7, .ref q8, .int 0])), (q7, .inl (cA 0, 50, .inl (fun _ => 0))), (q8, .inl (cA 0, 50, .inl (fun _ => 0))), (q9, .inl (cA 0, 5, .inl g22)), (q10, .inl (cA 0, 5, .inl g23)), (q11, .inr (3, [.int 0, .int 0, .int 0, .int 0, .int 0, .int 0, .int 0, .int 0])), (q12, .inr (3, [.int 0, .int 0, .int 0, .int 0, .int 0, .int 0, .int 0, .int 0])), (q13, .inr (3, [.int 0, .int 0, .int 0, .int 0, .int 0, .int 0, .int 0, .int 0])), (q14, .inr (3, [.int 0, .int 0, .int 0, .int 0, .int 0, .int 0, .int 0, .int 0])), (q15, .inr (3, [.int 0, .int 0, .int 0, .int 0, .int 0, .int 0, .int 0, .int 0])), (q16, .inr (3, [.int 0, .int 0, .int 0, .int 0, .int 0, .int 0, .int 0, .int 0])), (q17, .inr (3, [.int 0, .int 0, .int 0, .int 0, .int 0, .int 0, .int 0, .int 0])), (q18, .inr (3, [.int 0, .int 0, .int 0, .int 0, .int 0, .int 0, .int 0, .int 0])), (q19, .inr (3, [.int 0, .int 0, .int 0, .int 0, .int 0, .int 0, .int 0, .int 0])), (q20, .inr (3, [.int 0, .int 0, .int 0, .int 0, .int 0, .int 0, .int 0, .int 0])), (q27, .inr (1, [.ref q35, .ref q36, .ref q28, .ref q29, .ref q32, .int 0, .int 0, .int 0])), (q28, .inl (cA 2, 10, .inr (.inr (.inr (.inr g47))))), (q29, .inr (2, [.ref q30, .ref q31, .int 0])), (q30, .inl (cA 0, 50, .inl (fun _ => 0))), (q31, .inl (cA 0, 50, .inl (fun _ => 0))), (q32, .inr (2, [.ref q33, .ref q34, .int 0])), (q33, .inl (cA 0, 50, .inl (fun _ => 0))), (q34, .inl (cA 0, 50, .inl (fun _ => 0))), (q35, .inl (cA 0, 5, .inl g48)), (q36, .inl (cA 0, 5, .inl g49)), (q37, .inr (3, [.int 0, .int 0, .int 0, .int 0, .int 0, .int 0, .int 0, .int 0])), (q38, .inr (3, [.int 0, .int 0, .int 0, .int 0, .int 0, .int 0, .int 0, .int 0])), (q39, .inr (3, [.int 0, .int 0, .int 0, .int 0, .int 0, .int 0, .int 0, .int 0])), (q40, .inr (3, [.int 0, .int 0, .int 0, .int 0, .int 0, .int 0, .int 0, .int 0])), (q41, .inr (3, [.int 0, .int 0, .int 0, .int 0, .int 0, .int 0, .int 0, .int 0])), (q42, .inr (3, [.int 0, .int 0, .int 0, .int 0, .int 0, .int 0, .int 0, .int 0])), (q43, .inr (3, [.int 0, .int 0, .int 0, .int 0, .int 0, .int 0, .int 0, .int 0])), (q44, .inr (3, [.int 0, .int 0, .int 0, .int 0, .int 0, .int 0, .int 0, .int 0])), (q45, .inr (3, [.int 0, .int 0, .int 0, .int 0, .int 0, .int 0, .int 0, .int 0])), (q46, .inr (3, [.int 0, .int 0, .int 0, .int 0, .int 0, .int 0, .int 0, .int 0]))]) (X1_init_made q53) ok_X1_init (Or.inl mi_X7_9) (by decide) rfl rfl (Nat.le_of_ble_eq_true rfl) [41] [0, 1, 2, 3, 4, 5, 6, 7, 8, 9, 10, 11, 12, 13, 14, 15, 16, 17, 18, 19, 20, 21, 22, 23, 24, 25, 26, 27, 28, 29, 30, 31, 32, 33, 34, 35, 36, 37, 38, 39, 40] rfl rfl (by decide) (by decide) (by decide) (by decide) (by decide) dX7_init_31 ?_
  rintro w ⟨q54, q55, q56, q57, q58, q59, q60, q61, q62, q63, q64, q65, q66, q67, q68, q69, q70, q71, q72, g73, g74, g75, h76, h77, h78, rfl⟩
  refine A_ws (ws2 := [(h0, .inr (7, [.ref q1, .ref q27, .null, .null, .null, .null, .null, .null, .null, .int 0])), (q1, .inr (1, [.ref q9, .ref q10, .ref q2, .ref q3, .ref q6, .int 0, .int 0, .int 0])), (q2, .inl (cA 2, 10, .inr (.inr (.inr (.inr g21))))), (q3, .inr (2, [.ref q4, .ref q5, .int 0])), (q4, .inl (cA 0, 50, .inl (fun _ => 0))), (q5, .inl (cA 0, 50, .inl (fun _ => 0))), (q6, .inr (2, [.ref q7, .ref q8, .int 0])), (q7, .inl (cA 0, 50, .inl (fun _ => 0))), (q8, .inl (cA 0, 50, .inl (fun _ => 0))), (q9, .inl (cA 0, 5, .inl g22)), (q10, .inl (cA 0, 5, .inl g23)), (q11, .inr (3, [.int 0, .int 0, .int 0, .int 0, .int 0, .int 0, .int 0, .int 0])), (q12, .inr (3, [.int 0, .int 0, .int 0, .int 0, .int 0, .int 0, .int 0, .int 0])), (q13, .inr (3, [.int 0, .int 0, .int 0, .int 0, .int 0, .int 0, .int 0, .int 0])), (q14, .inr (3, [.int 0, .int 0, .int 0, .int 0, .int 0, .int 0, .int 0, .int 0])), (q15, .inr (3, [.int 0, .int 0, .int 0, .int 0, .int 0, .int 0, .int 0, .int 0])), (q16, .inr (3, [.int 0, .int 0, .int 0, .int 0, .int 0, .int 0, .int 0, .int 0])), (q17, .inr (3, [.int 0, .int 0, .int 0, .int 0, .int 0, .int 0, .int 0, .int 0])), (q18, .inr (3, [.int 0, .int 0, .int 0, .int 0, .int 0, .int 0, .int 0, .int 0])), (q19, .inr (3, [.int 0, .int 0, .int 0, .int 0, .int 0, .int 0, .int 0, .int 0])), (q20, .inr (3, [.int 0, .int 0, .int 0, .int 0, .int 0, .int 0, .int 0, .int 0])), (q27, .inr (1, [.ref q35, .ref q36, .ref q28, .ref q29, .ref q32, .int 0, .int 0, .int 0])), (q28, .inl (cA 2, 10, .inr (.inr (.inr (.inr g47))))), (q29, .inr (2, [.ref q30, .ref q31, .int 0])), (q30, .inl (cA 0, 50, .inl (fun _ => 0))), (q31, .inl (cA 0, 50, .inl (fun _ => 0))), (q32, .inr (2, [.ref q33, .ref q34, .int 0])), (q33, .inl (cA 0, 50, .inl (fun _ => 0))), (q34, .inl (cA 0, 50, .inl (fun _ => 0))), (q35, .inl (cA 0, 5, .inl g48)), (q36, .inl (cA 0, 5, .inl g49)), (q37, .inr (3, [.int 0, .int 0, .int 0, .int 0, .int 0, .int 0, .int 0, .int 0])), (q38, .inr (3, [.int 0, .int 0, .int 0, .int 0, .int 0, .int 0, .int 0, .int 0])), (q39, .inr (3, [.int 0, .int 0, .int 0, .int 0, .int 0, .int 0, .int 0, .int 0])), (q40, .inr (3, [.int 0, .int 0, .int 0, .int 0, .int 0, .int 0, .int 0, .int 0])), (q41, .inr (3, [.int 0, .int 0, .int 0, .int 0, .int 0, .int 0, .int 0, .int 0])), (q42, .inr (3, [.int 0, .int 0, .int 0, .int 0, .int 0, .int 0, .int 0, .int 0])), (q43, .inr (3, [.int 0, .int 0, .int 0, .int 0, .int 0, .int 0, .int 0, .int 0])), (q44, .inr (3, [.int 0, .int 0, .int 0, .int 0, .int 0, .int 0, .int 0, .int 0])), (q45, .inr (3, [.int 0, .int 0, .int 0, .int 0, .int 0, .int 0, .int 0, .int 0])), (q46, .inr (3, [.int 0, .int 0, .int 0, .int 0, .int 0, .int 0, .int 0, .int 0])), (q53, .inr (1, [.ref q61, .ref q62, .ref q54, .ref q55, .ref q58, .int 0, .int 0, .int 0])), (q54, .inl (cA 2, 10, .inr (.inr (.inr (.inr g73))))), (q55, .inr (2, [.ref q56, .ref q57, .int 0])), (q56, .inl (cA 0, 50, .inl (fun _ => 0))), (q57, .inl (cA 0, 50, .inl (fun _ => 0))), (q58, .inr (2, [.ref q59, .ref q60, .int 0])), (q59, .inl (cA 0, 50, .inl (fun _ => 0))), (q60, .inl (cA 0, 50, .inl (fun _ => 0))), (q61, .inl (cA 0, 5, .inl g74)), (q62, .inl (cA 0, 5, .inl g75)), (q63, .inr (3, [.int 0, .int 0, .int 0, .int 0, .int 0, .int 0, .int 0, .int 0])), (q64, .inr (3, [.int 0, .int 0, .int 0, .int 0, .int 0, .int 0, .int 0, .int 0])), (q65, .inr (3, [.int 0, .int 0, .int 0, .int 0, .int 0, .int 0, .int 0, .int 0])), (q66, .inr (3, [.int 0, .int 0, .int 0, .int 0, .int 0, .int 0, .int 0, .int 0])), (q67, .inr (3, [.int 0, .int 0, .int 0, .int 0, .int 0, .int 0, .int 0, .int 0])), (q68, .inr (3, [.int 0, .int 0, .int 0, .int 0, .int 0, .int 0, .int 0, .int 0])), (q69, .inr (3, [.int 0, .int 0, .int 0, .int 0, .int 0, .int 0, .int 0, .int 0])), (q70, .inr (3, [.int 0, .int 0, .int 0, .int 0, .int 0, .int 0, .int 0, .int 0])), (q71, .inr (3, [.int 0, .int 0, .int 0, .int 0, .int 0, .int 0, .int 0, .int 0])), (q72, .inr (3, [.int 0, .int 0, .int 0, .int 0, .int 0, .int 0, .int 0, .int 0]))]) rfl ?_
  refine A_putF (C0 := RX7) (T := TX7) (ty := tyX7) (k0 := 2) (ws2 := [(h0, .inr (7, [.ref q1, .ref q27, .ref q53, .null, .null, .null, .null, .null, .null, .int 0])), (q1, .inr (1, [.ref q9, .ref q10, .ref q2, .ref q3, .ref q6, .int 0, .int 0, .int 0])), (q2, .inl (cA 2, 10, .inr (.inr (.inr (.inr g21))))), (q3, .inr (2, [.ref q4, .ref q5, .int 0])), (q4, .inl (cA 0, 50, .inl (fun _ => 0))), (q5, .inl (cA 0, 50, .inl (fun _ => 0))), (q6, .inr (2, [.ref q7, .ref q8, .int 0])), (q7, .inl (cA 0, 50, .inl (fun _ => 0))), (q8, .inl (cA 0, 50, .inl (fun _ => 0))), (q9, .inl (cA 0, 5, .inl g22)), (q10, .inl (cA 0, 5, .inl g23)), (q11, .inr (3, [.int 0, .int 0, .int 0, .int 0, .int 0, .int 0, .int 0, .int 0])), (q12, .inr (3, [.int 0, .int 0, .int 0, .int 0, .int 0, .int 0, .int 0, .int 0])), (q13, .inr (3, [.int 0, .int 0, .int 0, .int 0, .int 0, .int 0, .int 0, .int 0])), (q14, .inr (3, [.int 0, .int 0, .int 0, .int 0, .int 0, .int 0, .int 0, .int 0])), (q15, .inr (3, [.int 0, .int 0, .int 0, .int 0, .int 0, .int 0, .int 0, .int 0])), (q16, .inr (3, [.int 0, .int 0, .int 0, .int 0, .int 0, .int 0, .int 0, .int 0])), (q17, .inr (3, [.int 0, .int 0, .int 0, .int 0, .int 0, .int 0, .int 0, .int 0])), (q18, .inr (3, [.int 0, .int 0, .int 0, .int 0, .int 0, .int 0, .int 0, .int 0])), (q19, .inr (3, [.int 0, .int 0, .int 0, .int 0, .int 0, .int 0, .int 0, .int 0])), (q20, .inr (3, [.int 0, .int 0, .int 0, .int 0, .int 0, .int 0, .int 0, .int 0])), (q27, .inr (1, [.ref q35, .ref q36, .ref q28, .ref q29, .ref q32, .int 0, .int 0, .int 0])), (q28, .inl (cA 2, 10, .inr (.inr (.inr (.inr g47))))), (q29, .inr (2, [.ref q30, .ref q31, .int 0])), (q30, .inl (cA 0, 50, .inl (fun _ => 0))), (q31, .inl (cA 0, 50, .inl (fun _ => 0))), (q32, .inr (2, [.ref q33, .ref q34, .int 0])), (q33, .inl (cA 0, 50, .inl (fun _ => 0))), (q34, .inl (cA 0, 50, .inl (fun _ => 0))), (q35, .inl (cA 0, 5, .inl g48)), (q36, .inl (cA 0, 5, .inl g49)), (q37, .inr (3, [.int 0, .int 0, .int 0, .int 0, .int 0, .int 0, .int 0, .int 0])), (q38, .inr (3, [.int 0, .int 0, .int 0, .int 0, .int 0, .int 0, .int 0, .int 0])), (q39, .inr (3, [.int 0, .int 0, .int 0, .int 0, .int 0, .int 0, .int 0, .int 0])), (q40, .inr (3, [.int 0, .int 0, .int 0, .int 0, .int 0, .int 0, .int 0, .int 0])), (q41, .inr (3, [.int 0, .int 0, .int 0, .int 0, .int 0, .int 0, .int 0, .int 0])), (q42, .inr (3, [.int 0, .int 0, .int 0, .int 0, .int 0, .int 0, .int 0, .int 0])), (q43, .inr (3, [.int 0, .int 0, .int 0, .int 0, .int 0, .int 0, .int 0, .int 0])), (q44, .inr (3, [.int 0, .int 0, .int 0, .int 0, .int 0, .int 0, .int 0, .int 0])), (q45, .inr (3, [.int 0, .int 0, .int 0, .int 0, .int 0, .int 0, .int 0, .int 0])), (q46, .inr (3, [.int 0, .int 0, .int 0, .int 0, .int 0, .int 0, .int 0, .int 0])), (q53, .inr (1, [.ref q61, .ref q62, .ref q54, .ref q55, .ref q58, .int 0, .int 0, .int 0])), (q54, .inl (cA 2, 10, .inr (.inr (.inr (.inr g73))))), (q55, .inr (2, [.ref q56, .ref q57, .int 0])), (q56, .inl (cA 0, 50, .inl (fun _ => 0))), (q57, .inl (cA 0, 50, .inl (fun _ => 0))), (q58, .inr (2, [.ref q59, .ref q60, .int 0])), (q59, .inl (cA 0, 50, .inl (fun _ => 0))), (q60, .inl (cA 0, 50, .inl (fun _ => 0))), (q61, .inl (cA 0, 5, .inl g74)), (q62, .inl (cA 0, 5, .inl g75)), (q63, .inr (3, [.int 0, .int 0, .int 0, .int 0, .int 0, .int 0, .int 0, .int 0])), (q64, .inr (3, [.int 0, .int 0, .int 0, .int 0, .int 0, .int 0, .int 0, .int 0])), (q65, .inr (3, [.int 0, .int 0, .int 0, .int 0, .int 0, .int 0, .int 0, .int 0])), (q66, .inr (3, [.int 0, .int 0, .int 0, .int 0, .int 0, .int 0, .int 0, .int 0])), (q67, .inr (3, [.int 0, .int 0, .int 0, .int 0, .int 0, .int 0, .int 0, .int 0])), (q68, .inr (3, [.int 0, .int 0, .int 0, .int 0, .int 0, .int 0, .int 0, .int 0])), (q69, .inr (3, [.int 0, .int 0, .int 0, .int 0, .int 0, .int 0, .int 0, .int 0])), (q70, .inr (3, [.int 0, .int 0, .int 0, .int 0, .int 0, .int 0, .int 0, .int 0])), (q71, .inr (3, [.int 0, .int 0, .int 0, .int 0, .int 0, .int 0, .int 0, .int 0])), (q72, .inr (3, [.int 0, .int 0, .int 0, .int 0, .int 0, .int 0, .int 0, .int 0]))]) rfl rfl inT_7 tyX7_ok nmX7 rfl fl_X7_19 0 rfl (by decide) rfl rfl rfl rfl (Nat.le_of_ble_eq_true rfl) rfl dX7_init_34 ?_
  refine A_aload_n dX7_init_37 0 rfl ?_
  refine A_new (ci := 0) (C0 := RX0) (T := TX0) (ty := tyX0) (fs := [.null, .null, .int 0, .int 0, .int 0]) rfl inT_0 tyX0_ok cl_X7_22 iw_0 in_0 rfl df_0 (by decide) (by decide) dX7_init_38 (fun q79 => ?_)
  refine A_ws (ws2 := [(h0, .inr (7, [.ref q1, .ref q27, .ref q53, .null, .null, .null, .null, .null, .null, .int 0])), (q1, .inr (1, [.ref q9, .ref q10, .ref q2, .ref q3, .ref q6, .int 0, .int 0, .int 0])), (q2, .inl (cA 2, 10, .inr (.inr (.inr (.inr g21))))), (q3, .inr (2, [.ref q4, .ref q5, .int 0])), (q4, .inl (cA 0, 50, .inl (fun _ => 0))), (q5, .inl (cA 0, 50, .inl (fun _ => 0))), (q6, .inr (2, [.ref q7, .ref q8, .int 0])), (q7, .inl (cA 0, 50, .inl (fun _ => 0))), (q8, .inl (cA 0, 50, .inl (fun _ => 0))), (q9, .inl (cA 0, 5, .inl g22)), (q10, .inl (cA 0, 5, .inl g23)), (q11, .inr (3, [.int 0, .int 0, .int 0, .int 0, .int 0, .int 0, .int 0, .int 0])), (q12, .inr (3, [.int 0, .int 0, .int 0, .int 0, .int 0, .int 0, .int 0, .int 0])), (q13, .inr (3, [.int 0, .int 0, .int 0, .int 0, .int 0, .int 0, .int 0, .int 0])), (q14, .inr (3, [.int 0, .int 0, .int 0, .int 0, .int 0, .int 0, .int 0, .int 0])), (q15, .inr (3, [.int 0, .int 0, .int 0, .int 0, .int 0, .int 0, .int 0, .int 0])), (q16, .inr (3, [.int 0, .int 0, .int 0, .int 0, .int 0, .int 0, .int 0, .int 0])), (q17, .inr (3, [.int 0, .int 0, .int 0, .int 0, .int 0, .int 0, .int 0, .int 0])), (q18, .inr (3, [.int 0, .int 0, .int 0, .int 0, .int 0, .int 0, .int 0, .int 0])), (q19, .inr (3, [.int 0, .int 0, .int 0, .int 0, .int 0, .int 0, .int 0, .int 0])), (q20, .inr (3, [.int 0, .int 0, .int 0, .int 0, .int 0, .int 0, .int 0, .int 0])), (q27, .inr (1, [.ref q35, .ref q36, .ref q28, .ref q29, .ref q32, .int 0, .int 0, .int 0])), (q28, .inl (cA 2, 10, .inr (.inr (.inr (.inr g47))))), (q29, .inr (2, [.ref q30, .ref q31, .int 0])), (q30, .inl (cA 0, 50, .inl (fun _ => 0))), (q31, .inl (cA 0, 50, .inl (fun _ => 0))), (q32, .inr (2, [.ref q33, .ref q34, .int 0])), (q33, .inl (cA 0, 50, .inl (fun _ => 0))), (q34, .inl (cA 0, 50, .inl (fun _ => 0))), (q35, .inl (cA 0, 5, .inl g48)), (q36, .inl (cA 0, 5, .inl g49)), (q37, .inr (3, [.int 0, .int 0, .int 0, .int 0, .int 0, .int 0, .int 0, .int 0])), (q38, .inr (3, [.int 0, .int 0, .int 0, .int 0, .int 0, .int 0, .int 0, .int 0])), (q39, .inr (3, [.int 0, .int 0, .int 0, .int 0, .int 0, .int 0, .int 0, .int 0])), (q40, .inr (3, [.int 0, .int 0, .int 0, .int 0, .int 0, .int 0, .int 0, .int 0])), (q41, .inr (3, [.int 0, .int 0, .int 0, .int 0, .int 0, .int 0, .int 0, .int 0])), (q42, .inr (3, [.int 0, .int 0, .int 0, .int 0, .int 0, .int 0, .int 0, .int 0])), (q43, .inr (3, [.int 0, .int 0, .int 0, .int 0, .int 0, .int 0, .int 0, .int 0])), (q44, .inr (3, [.int 0, .int 0, .int 0, .int 0, .int 0, .int 0, .int 0, .int 0])), (q45, .inr (3, [.int 0, .int 0, .int 0, .int 0, .int 0, .int 0, .int 0, .int 0])), (q46, .inr (3, [.int 0, .int 0, .int 0, .int 0, .int 0, .int 0, .int 0, .int 0])), (q53, .inr (1, [.ref q61, .ref q62, .ref q54, .ref q55, .ref q58, .int 0, .int 0, .int 0])), (q54, .inl (cA 2, 10, .inr (.inr (.inr (.inr g73))))), (q55, .inr (2, [.ref q56, .ref q57, .int 0])), (q56, .inl (cA 0, 50, .inl (fun _ => 0))), (q57, .inl (cA 0, 50, .inl (fun _ => 0))), (q58, .inr (2, [.ref q59, .ref q60, .int 0])), (q59, .inl (cA 0, 50, .inl (fun _ => 0))), (q60, .inl (cA 0, 50, .inl (fun _ => 0))), (q61, .inl (cA 0, 5, .inl g74)), (q62, .inl (cA 0, 5, .inl g75)), (q63, .inr (3, [.int 0, .int 0, .int 0, .int 0, .int 0, .int 0, .int 0, .int 0])), (q64, .inr (3, [.int 0, .int 0, .int 0, .int 0, .int 0, .int 0, .int 0, .int 0])), (q65, .inr (3, [.int 0, .int 0, .int 0, .int 0, .int 0, .int 0, .int 0, .int 0])), (q66, .inr (3, [.int 0, .int 0, .int 0, .int 0, .int 0, .int 0, .int 0, .int 0])), (q67, .inr (3, [.int 0, .int 0, .int 0, .int 0, .int 0, .int 0, .int 0, .int 0])), (q68, .inr (3, [.int 0, .int 0, .int 0, .int 0, .int 0, .int 0, .int 0, .int 0])), (q69, .inr (3, [.int 0, .int 0, .int 0, .int 0, .int 0, .int 0, .int 0, .int 0])), (q70, .inr (3, [.int 0, .int 0, .int 0, .int 0, .int 0, .int 0, .int 0, .int 0])), (q71, .inr (3, [.int 0, .int 0, .int 0, .int 0, .int 0, .int 0, .int 0, .int 0])), (q72, .inr (3, [.int 0, .int 0, .int 0, .int 0, .int 0, .int 0, .int 0, .int 0])), (q79, .inr (0, [.null, .null, .int 0, .int 0, .int 0]))]) rfl ?_
  refine A_dup rfl dX7_init_41 ?_
  refine A_callI (wr := [(h0, .inr (7, [.ref q1, .ref q27, .ref q53, .null, .null, .null, .null, .null, .null, .int 0])), (q1, .inr (1, [.ref q9, .ref q10, .ref q2, .ref q3, .ref q6, .int 0, .int 0, .int 0])), (q2, .inl (cA 2, 10, .inr (.inr (.inr (.inr g21))))), (q3, .inr (2, [.ref q4, .ref q5, .int 0])), (q4, .inl (cA 0, 50, .inl (fun _ => 0))), (q5, .inl (cA 0, 50, .inl (fun _ => 0))), (q6, .inr (2, [.ref q7, .ref q8, .int 0])), (q7, .inl (cA 0, 50, .inl (fun _ => 0))), (q8, .inl (cA 0, 50, .inl (fun _ => 0))), (q9, .inl (cA 0, 5, .inl g22)), (q10, .inl (cA 0, 5, .inl g23)), (q11, .inr (3, [.int 0, .int 0, .int 0, .int 0, .int 0, .int 0, .int 0, .int 0])), (q12, .inr (3, [.int 0, .int 0, .int 0, .int 0, .int 0, .int 0, .int 0, .int 0])), (q13, .inr (3, [.int 0, .int 0, .int 0, .int 0, .int 0, .int 0, .int 0, .int 0])), (q14, .inr (3, [.int 0, .int 0, .int 0, .int 0, .int 0, .int 0, .int 0, .int 0])), (q15, .inr (3, [.int 0, .int 0, .int 0, .int 0, .int 0, .int 0, .int 0, .int 0])), (q16, .inr (3, [.int 0, .int 0, .int 0, .int 0, .int 0, .int 0, .int 0, .int 0])), (q17, .inr (3, [.int 0, .int 0, .int 0, .int 0, .int 0, .int 0, .int 0, .int 0])), (q18, .inr (3, [.int 0, .int 0, .int 0, .int 0, .int 0, .int 0, .int 0, .int 0])), (q19, .inr (3, [.int 0, .int 0, .int 0, .int 0, .int 0, .int 0, .int 0, .int 0])), (q20, .inr (3, [.int 0, .int 0, .int 0, .int 0, .int 0, .int 0, .int 0, .int 0])), (q27, .inr (1, [.ref q35, .ref q36, .ref q28, .ref q29, .ref q32, .int 0, .int 0, .int 0])), (q28, .inl (cA 2, 10, .inr (.inr (.inr (.inr g47))))), (q29, .inr (2, [.ref q30, .ref q31, .int 0])), (q30, .inl (cA 0, 50, .inl (fun _ => 0))), (q31, .inl (cA 0, 50, .inl (fun _ => 0))), (q32, .inr (2, [.ref q33, .ref q34, .int 0])), (q33, .inl (cA 0, 50, .inl (fun _ => 0))), (q34, .inl (cA 0, 50, .inl (fun _ => 0))), (q35, .inl (cA 0, 5, .inl g48)), (q36, .inl (cA 0, 5, .inl g49)), (q37, .inr (3, [.int 0, .int 0, .int 0, .int 0, .int 0, .int 0, .int 0, .int 0])), (q38, .inr (3, [.int 0, .int 0, .int 0, .int 0, .int 0, .int 0, .int 0, .int 0])), (q39, .inr (3, [.int 0, .int 0, .int 0, .int 0, .int 0, .int 0, .int 0, .int 0])), (q40, .inr (3, [.int 0, .int 0, .int 0, .int 0, .int 0, .int 0, .int 0, .int 0])), (q41, .inr (3, [.int 0, .int 0, .int 0, .int 0, .int 0, .int 0, .int 0, .int 0])), (q42, .inr (3, [.int 0, .int 0, .int 0, .int 0, .int 0, .int 0, .int 0, .int 0])), (q43, .inr (3, [.int 0, .int 0, .int 0, .int 0, .int 0, .int 0, .int 0, .int 0])), (q44, .inr (3, [.int 0, .int 0, .int 0, .int 0, .int 0, .int 0, .int 0, .int 0])), (q45, .inr (3, [.int 0, .int 0, .int 0, .int 0, .int 0, .int 0, .int 0, .int 0])), (q46, .inr (3, [.int 0, .int 0, .int 0, .int 0, .int 0, .int 0, .int 0, .int 0])), (q53, .inr (1, [.ref q61, .ref q62, .ref q54, .ref q55, .ref q58, .int 0, .int 0, .int 0])), (q54, .inl (cA 2, 10, .inr (.inr (.inr (.inr g73))))), (q55, .inr (2, [.ref q56, .ref q57, .int 0])), (q56, .inl (cA 0, 50, .inl (fun _ => 0))), (q57, .inl (cA 0, 50, .inl (fun _ => 0))), (q58, .inr (2, [.ref q59, .ref q60, .int 0])), (q59, .inl (cA 0, 50, .inl (fun _ => 0))), (q60, .inl (cA 0, 50, .inl (fun _ => 0))), (q61, .inl (cA 0, 5, .inl g74)), (q62, .inl (cA 0, 5, .inl g75)), (q63, .inr (3, [.int 0, .int 0, .int 0, .int 0, .int 0, .int 0, .int 0, .int 0])), (q64, .inr (3, [.int 0, .int 0, .int 0, .int 0, .int 0, .int 0, .int 0, .int 0])), (q65, .inr (3, [.int 0, .int 0, .int 0, .int 0, .int 0, .int 0, .int 0, .int 0])), (q66, .inr (3, [.int 0, .int 0, .int 0, .int 0, .int 0, .int 0, .int 0, .int 0])), (q67, .inr (3, [.int 0, .int 0, .int 0, .int 0, .int 0, .int 0, .int 0, .int 0])), (q68, .inr (3, [.int 0, .int 0, .int 0, .int 0, .int 0, .int 0, .int 0, .int 0])), (q69, .inr (3, [.int 0, .int 0, .int 0, .int 0, .int 0, .int 0, .int 0, .int 0])), (q70, .inr (3, [.int 0, .int 0, .int 0, .int 0, .int 0, .int 0, .int 0, .int 0])), (q71, .inr (3, [.int 0, .int 0, .int 0, .int 0, .int 0, .int 0, .int 0, .int 0])), (q72, .inr (3, [.int 0, .int 0, .int 0, .int 0, .int 0, .int 0, .int 0, .int 0]))]) (X0_init_made q79) ok_X0_init (Or.inr (by simp [nestA])) (by decide) rfl rfl (Nat.le_of_ble_eq_true rfl) [61] [0, 1, 2, 3, 4, 5, 6, 7, 8, 9, 10, 11, 12, 13, 14, 15, 16, 17, 18, 19, 20, 21, 22, 23, 24, 25, 26, 27, 28, 29, 30, 31, 32, 33, 34, 35, 36, 37, 38, 39, 40, 41, 42, 43, 44, 45, 46, 47, 48, 49, 50, 51, 52, 53, 54, 55, 56, 57, 58, 59, 60] rfl rfl (by decide) (by decide) (by decide) (by decide) (by decide) dX7_init_42 ?_
  rintro w ⟨q80, q81, rfl⟩
  refine A_ws (ws2 := [(h0, .inr (7, [.ref q1, .ref q27, .ref q53, .null, .null, .null, .null, .null, .null, .int 0])), (q1, .inr (1, [.ref q9, .ref q10, .ref q2, .ref q3, .ref q6, .int 0, .int 0, .int 0])), (q2, .inl (cA 2, 10, .inr (.inr (.inr (.inr g21))))), (q3, .inr (2, [.ref q4, .ref q5, .int 0])), (q4, .inl (cA 0, 50, .inl (fun _ => 0))), (q5, .inl (cA 0, 50, .inl (fun _ => 0))), (q6, .inr (2, [.ref q7, .ref q8, .int 0])), (q7, .inl (cA 0, 50, .inl (fun _ => 0))), (q8, .inl (cA 0, 50, .inl (fun _ => 0))), (q9, .inl (cA 0, 5, .inl g22)), (q10, .inl (cA 0, 5, .inl g23)), (q11, .inr (3, [.int 0, .int 0, .int 0, .int 0, .int 0, .int 0, .int 0, .int 0])), (q12, .inr (3, [.int 0, .int 0, .int 0, .int 0, .int 0, .int 0, .int 0, .int 0])), (q13, .inr (3, [.int 0, .int 0, .int 0, .int 0, .int 0, .int 0, .int 0, .int 0])), (q14, .inr (3, [.int 0, .int 0, .int 0, .int 0, .int 0, .int 0, .int 0, .int 0])), (q15, .inr (3, [.int 0, .int 0, .int 0, .int 0, .int 0, .int 0, .int 0, .int 0])), (q16, .inr (3, [.int 0, .int 0, .int 0, .int 0, .int 0, .int 0, .int 0, .int 0])), (q17, .inr (3, [.int 0, .int 0, .int 0, .int 0, .int 0, .int 0, .int 0, .int 0])), (q18, .inr (3, [.int 0, .int 0, .int 0, .int 0, .int 0, .int 0, .int 0, .int 0])), (q19, .inr (3, [.int 0, .int 0, .int 0, .int 0, .int 0, .int 0, .int 0, .int 0])), (q20, .inr (3, [.int 0, .int 0, .int 0, .int 0, .int 0, .int 0, .int 0, .int 0])), (q27, .inr (1, [.ref q35, .ref q36, .ref q28, .ref q29, .ref q32, .int 0, .int 0, .int 0])), (q28, .inl (cA 2, 10, .inr (.inr (.inr (.inr g47))))), (q29, .inr (2, [.ref q30, .ref q31, .int 0])), (q30, .inl (cA 0, 50, .inl (fun _ => 0))), (q31, .inl (cA 0, 50, .inl (fun _ => 0))), (q32, .inr (2, [.ref q33, .ref q34, .int 0])), (q33, .inl (cA 0, 50, .inl (fun _ => 0))), (q34, .inl (cA 0, 50, .inl (fun _ => 0))), (q35, .inl (cA 0, 5, .inl g48)), (q36, .inl (cA 0, 5, .inl g49)), (q37, .inr (3, [.int 0, .int 0, .int 0, .int 0, .int 0, .int 0, .int 0, .int 0])), (q38, .inr (3, [.int 0, .int 0, .int 0, .int 0, .int 0, .int 0, .int 0, .int 0])), (q39, .inr (3, [.int 0, .int 0, .int 0, .int 0, .int 0, .int 0, .int 0, .int 0])), (q40, .inr (3, [.int 0, .int 0, .int 0, .int 0, .int 0, .int 0, .int 0, .int 0])), (q41, .inr (3, [.int 0, .int 0, .int 0, .int 0, .int 0, .int 0, .int 0, .int 0])), (q42, .inr (3, [.int 0, .int 0, .int 0, .int 0, .int 0, .int 0, .int 0, .int 0])), (q43, .inr (3, [.int 0, .int 0, .int 0, .int 0, .int 0, .int 0, .int 0, .int 0])), (q44, .inr (3, [.int 0, .int 0, .int 0, .int 0, .int 0, .int 0, .int 0, .int 0])), (q45, .inr (3, [.int 0, .int 0, .int 0, .int 0, .int 0, .int 0, .int 0, .int 0])), (q46, .inr (3, [.int 0, .int 0, .int 0, .int 0, .int 0, .int 0, .int 0, .int 0])), (q53, .inr (1, [.ref q61, .ref q62, .ref q54, .ref q55, .ref q58, .int 0, .int 0, .int 0])), (q54, .inl (cA 2, 10, .inr (.inr (.inr (.inr g73))))), (q55, .inr (2, [.ref q56, .ref q57, .int 0])), (q56, .inl (cA 0, 50, .inl (fun _ => 0))), (q57, .inl (cA 0, 50, .inl (fun _ => 0))), (q58, .inr (2, [.ref q59, .ref q60, .int 0])), (q59, .inl (cA 0, 50, .inl (fun _ => 0))), (q60, .inl (cA 0, 50, .inl (fun _ => 0))), (q61, .inl (cA 0, 5, .inl g74)), (q62, .inl (cA 0, 5, .inl g75)), (q63, .inr (3, [.int 0, .int 0, .int 0, .int 0, .int 0, .int 0, .int 0, .int 0])), (q64, .inr (3, [.int 0, .int 0, .int 0, .int 0, .int 0, .int 0, .int 0, .int 0])), (q65, .inr (3, [.int 0, .int 0, .int 0, .int 0, .int 0, .int 0, .int 0, .int 0])), (q66, .inr (3, [.int 0, .int 0, .int 0, .int 0, .int 0, .int 0, .int 0, .int 0])), (q67, .inr (3, [.int 0, .int 0, .int 0, .int 0, .int 0, .int 0, .int 0, .int 0])), (q68, .inr (3, [.int 0, .int 0, .int 0, .int 0, .int 0, .int 0, .int 0, .int 0])), (q69, .inr (3, [.int 0, .int 0, .int 0, .int 0, .int 0, .int 0, .int 0, .int 0])), (q70, .inr (3, [.int 0, .int 0, .int 0, .int 0, .int 0, .int 0, .int 0, .int 0])), (q71, .inr (3, [.int 0, .int 0, .int 0, .int 0, .int 0, .int 0, .int 0, .int 0])), (q72, .inr (3, [.int 0, .int 0, .int 0, .int 0, .int 0, .int 0, .int 0, .int 0])), (q79, .inr (0, [.ref q80, .ref q81, .int 0, .int 0, .int 1])), (q80, .inl (cA 1, 50, .inl (fun _ => 0))), (q81, .inl (cA 0, 20, .inl (fun _ => 0)))]) rfl ?_
  refine A_putF (C0 := RX7) (T := TX7) (ty := tyX7) (k0 := 3) (ws2 := [(h0, .inr (7, [.ref q1, .ref q27, .ref q53, .ref q79, .null, .null, .null, .null, .null, .int 0])), (q1, .inr (1, [.ref q9, .ref q10, .ref q2, .ref q3, .ref q6, .int 0, .int 0, .int 0])), (q2, .inl (cA 2, 10, .inr (.inr (.inr (.inr g21))))), (q3, .inr (2, [.ref q4, .ref q5, .int 0])), (q4, .inl (cA 0, 50, .inl (fun _ => 0))), (q5, .inl (cA 0, 50, .inl (fun _ => 0))), (q6, .inr (2, [.ref q7, .ref q8, .int 0])), (q7, .inl (cA 0, 50, .inl (fun _ => 0))), (q8, .inl (cA 0, 50, .inl (fun _ => 0))), (q9, .inl (cA 0, 5, .inl g22)), (q10, .inl (cA 0, 5, .inl g23)), (q11, .inr (3, [.int 0, .int 0, .int 0, .int 0, .int 0, .int 0, .int 0, .int 0])), (q12, .inr (3, [.int 0, .int 0, .int 0, .int 0, .int 0, .int 0, .int 0, .int 0])), (q13, .inr (3, [.int 0, .int 0, .int 0, .int 0, .int 0, .int 0, .int 0, .int 0])), (q14, .inr (3, [.int 0, .int 0, .int 0, .int 0, .int 0, .int 0, .int 0, .int 0])), (q15, .inr (3, [.int 0, .int 0, .int 0, .int 0, .int 0, .int 0, .int 0, .int 0])), (q16, .inr (3, [.int 0, .int 0, .int 0, .int 0, .int 0, .int 0, .int 0, .int 0])), (q17, .inr (3, [.int 0, .int 0, .int 0, .int 0, .int 0, .int 0, .int 0, .int 0])), (q18, .inr (3, [.int 0, .int 0, .int 0, .int 0, .int 0, .int 0, .int 0, .int 0])), (q19, .inr (3, [.int 0, .int 0, .int 0, .int 0, .int 0, .int 0, .int 0, .int 0])), (q20, .inr (3, [.int 0, .int 0, .int 0, .int 0, .int 0, .int 0, .int 0, .int 0])), (q27, .inr (1, [.ref q35, .ref q36, .ref q28, .ref q29, .ref q32, .int 0, .int 0, .int 0])), (q28, .inl (cA 2, 10, .inr (.inr (.inr (.inr g47))))), (q29, .inr (2, [.ref q30, .ref q31, .int 0])), (q30, .inl (cA 0, 50, .inl (fun _ => 0))), (q31, .inl (cA 0, 50, .inl (fun _ => 0))), (q32, .inr (2, [.ref q33, .ref q34, .int 0])), (q33, .inl (cA 0, 50, .inl (fun _ => 0))), (q34, .inl (cA 0, 50, .inl (fun _ => 0))), (q35, .inl (cA 0, 5, .inl g48)), (q36, .inl (cA 0, 5, .inl g49)), (q37, .inr (3, [.int 0, .int 0, .int 0, .int 0, .int 0, .int 0, .int 0, .int 0])), (q38, .inr (3, [.int 0, .int 0, .int 0, .int 0, .int 0, .int 0, .int 0, .int 0])), (q39, .inr (3, [.int 0, .int 0, .int 0, .int 0, .int 0, .int 0, .int 0, .int 0])), (q40, .inr (3, [.int 0, .int 0, .int 0, .int 0, .int 0, .int 0, .int 0, .int 0])), (q41, .inr (3, [.int 0, .int 0, .int 0, .int 0, .int 0, .int 0, .int 0, .int 0])), (q42, .inr (3, [.int 0, .int 0, .int 0, .int 0, .int 0, .int 0, .int 0, .int 0])), (q43, .inr (3, [.int 0, .int 0, .int 0, .int 0, .int 0, .int 0, .int 0, .int 0])), (q44, .inr (3, [.int 0, .int 0, .int 0, .int 0, .int 0, .int 0, .int 0, .int 0])), (q45, .inr (3, [.int 0, .int 0, .int 0, .int 0, .int 0, .int 0, .int 0, .int 0])), (q46, .inr (3, [.int 0, .int 0, .int 0, .int 0, .int 0, .int 0, .int 0, .int 0])), (q53, .inr (1, [.ref q61, .ref q62, .ref q54, .ref q55, .ref q58, .int 0, .int 0, .int 0])), (q54, .inl (cA 2, 10, .inr (.inr (.inr (.inr g73))))), (q55, .inr (2, [.ref q56, .ref q57, .int 0])), (q56, .inl (cA 0, 50, .inl (fun _ => 0))), (q57, .inl (cA 0, 50, .inl (fun _ => 0))), (q58, .inr (2, [.ref q59, .ref q60, .int 0])), (q59, .inl (cA 0, 50, .inl (fun _ => 0))), (q60, .inl (cA 0, 50, .inl (fun _ => 0))), (q61, .inl (cA 0, 5, .inl g74)), (q62, .inl (cA 0, 5, .inl g75)), (q63, .inr (3, [.int 0, .int 0, .int 0, .int 0, .int 0, .int 0, .int 0, .int 0])), (q64, .inr (3, [.int 0, .int 0, .int 0, .int 0, .int 0, .int 0, .int 0, .int 0])), (q65, .inr (3, [.int 0, .int 0, .int 0, .int 0, .int 0, .int 0, .int 0, .int 0])), (q66, .inr (3, [.int 0, .int 0, .int 0, .int 0, .int 0, .int 0, .int 0, .int 0])), (q67, .inr (3, [.int 0, .int 0, .int 0, .int 0, .int 0, .int 0, .int 0, .int 0])), (q68, .inr (3, [.int 0, .int 0, .int 0, .int 0, .int 0, .int 0, .int 0, .int 0])), (q69, .inr (3, [.int 0, .int 0, .int 0, .int 0, .int 0, .int 0, .int 0, .int 0])), (q70, .inr (3, [.int 0, .int 0, .int 0, .int 0, .int 0, .int 0, .int 0, .int 0])), (q71, .inr (3, [.int 0, .int 0, .int 0, .int 0, .int 0, .int 0, .int 0, .int 0])), (q72, .inr (3, [.int 0, .int 0, .int 0, .int 0, .int 0, .int 0, .int 0, .int 0])), (q79, .inr (0, [.ref q80, .ref q81, .int 0, .int 0, .int 1])), (q80, .inl (cA 1, 50, .inl (fun _ => 0))), (q81, .inl (cA 0, 20, .inl (fun _ => 0)))]) rfl rfl inT_7 tyX7_ok nmX7 rfl fl_X7_25 0 rfl (by decide) rfl rfl rfl rfl (Nat.le_of_ble_eq_true rfl) rfl dX7_init_45 ?_
  refine A_aload_n dX7_init_48 0 rfl ?_
  refine A_new (ci := 0) (C0 := RX0) (T := TX0) (ty := tyX0) (fs := [.null, .null, .int 0, .int 0, .int 0]) rfl inT_0 tyX0_ok cl_X7_22 iw_0 in_0 rfl df_0 (by decide) (by decide) dX7_init_49 (fun q82 => ?_)
  refine A_ws (ws2 := [(h0, .inr (7, [.ref q1, .ref q27, .ref q53, .ref q79, .null, .null, .null, .null, .null, .int 0])), (q1, .inr (1, [.ref q9, .ref q10, .ref q2, .ref q3, .ref q6, .int 0, .int 0, .int 0])), (q2, .inl (cA 2, 10, .inr (.inr (.inr (.inr g21))))), (q3, .inr (2, [.ref q4, .ref q5, .int 0])), (q4, .inl (cA 0, 50, .inl (fun _ => 0))), (q5, .inl (cA 0, 50, .inl (fun _ => 0))), (q6, .inr (2, [.ref q7, .ref q8, .int 0])), (q7, .inl (cA 0, 50, .inl (fun _ => 0))), (q8, .inl (cA 0, 50, .inl (fun _ => 0))), (q9, .inl (cA 0, 5, .inl g22)), (q10, .inl (cA 0, 5, .inl g23)), (q11, .inr (3, [.int 0, .int 0, .int 0, .int 0, .int 0, .int 0, .int 0, .int 0])), (q12, .inr (3, [.int 0, .int 0, .int 0, .int 0, .int 0, .int 0, .int 0, .int 0])), (q13, .inr (3, [.int 0, .int 0, .int 0, .int 0, .int 0, .int 0, .int 0, .int 0])), (q14, .inr (3, [.int 0, .int 0, .int 0, .int 0, .int 0, .int 0, .int 0, .int 0])), (q15, .inr (3, [.int 0, .int 0, .int 0, .int 0, .int 0, .int 0, .int 0, .int 0])), (q16, .inr (3, [.int 0, .int 0, .int 0, .int 0, .int 0, .int 0, .int 0, .int 0])), (q17, .inr (3, [.int 0, .int 0, .int 0, .int 0, .int 0, .int 0, .int 0, .int 0])), (q18, .inr (3, [.int 0, .int 0, .int 0, .int 0, .int 0, .int 0, .int 0, .int 0])), (q19, .inr (3, [.int 0, .int 0, .int 0, .int 0, .int 0, .int 0, .int 0, .int 0])), (q20, .inr (3, [.int 0, .int 0, .int 0, .int 0, .int 0, .int 0, .int 0, .int 0])), (q27, .inr (1, [.ref q35, .ref q36, .ref q28, .ref q29, .ref q32, .int 0, .int 0, .int 0])), (q28, .inl (cA 2, 10, .inr (.inr (.inr (.inr g47))))), (q29, .inr (2, [.ref q30, .ref q31, .int 0])), (q30, .inl (cA 0, 50, .inl (fun _ => 0))), (q31, .inl (cA 0, 50, .inl (fun _ => 0))), (q32, .inr (2, [.ref q33, .ref q34, .int 0])), (q33, .inl (cA 0, 50, .inl (fun _ => 0))), (q34, .inl (cA 0, 50, .inl (fun _ => 0))), (q35, .inl (cA 0, 5, .inl g48)), (q36, .inl (cA 0, 5, .inl g49)), (q37, .inr (3, [.int 0, .int 0, .int 0, .int 0, .int 0, .int 0, .int 0, .int 0])), (q38, .inr (3, [.int 0, .int 0, .int 0, .int 0, .int 0, .int 0, .int 0, .int 0])), (q39, .inr (3, [.int 0, .int 0, .int 0, .int 0, .int 0, .int 0, .int 0, .int 0])), (q40, .inr (3, [.int 0, .int 0, .int 0, .int 0, .int 0, .int 0, .int 0, .int 0])), (q41, .inr (3, [.int 0, .int 0, .int 0, .int 0, .int 0, .int 0, .int 0, .int 0])), (q42, .inr (3, [.int 0, .int 0, .int 0, .int 0, .int 0, .int 0, .int 0, .int 0])), (q43, .inr (3, [.int 0, .int 0, .int 0, .int 0, .int 0, .int 0, .int 0, .int 0])), (q44, .inr (3, [.int 0, .int 0, .int 0, .int 0, .int 0, .int 0, .int 0, .int 0])), (q45, .inr (3, [.int 0, .int 0, .int 0, .int 0, .int 0, .int 0, .int 0, .int 0])), (q46, .inr (3, [.int 0, .int 0, .int 0, .int 0, .int 0, .int 0, .int 0, .int 0])), (q53, .inr (1, [.ref q61, .ref q62, .ref q54, .ref q55, .ref q58, .int 0, .int 0, .int 0])), (q54, .inl (cA 2, 10, .inr (.inr (.inr (.inr g73))))), (q55, .inr (2, [.ref q56, .ref q57, .int 0])), (q56, .inl (cA 0, 50, .inl (fun _ => 0))), (q57, .inl (cA 0, 50, .inl (fun _ => 0))), (q58, .inr (2, [.ref q59, .ref q60, .int 0])), (q59, .inl (cA 0, 50, .inl (fun _ => 0))), (q60, .inl (cA 0, 50, .inl (fun _ => 0))), (q61, .inl (cA 0, 5, .inl g74)), (q62, .inl (cA 0, 5, .inl g75)), (q63, .inr (3, [.int 0, .int 0, .int 0, .int 0, .int 0, .int 0, .int 0, .int 0])), (q64, .inr (3, [.int 0, .int 0, .int 0, .int 0, .int 0, .int 0, .int 0, .int 0])), (q65, .inr (3, [.int 0, .int 0, .int 0, .int 0, .int 0, .int 0, .int 0, .int 0])), (q66, .inr (3, [.int 0, .int 0, .int 0, .int 0, .int 0, .int 0, .int 0, .int 0])), (q67, .inr (3, [.int 0, .int 0, .int 0, .int 0, .int 0, .int 0, .int 0, .int 0])), (q68, .inr (3, [.int 0, .int 0, .int 0, .int 0, .int 0, .int 0, .int 0, .int 0])), (q69, .inr (3, [.int 0, .int 0, .int 0, .int 0, .int 0, .int 0, .int 0, .int 0])), (q70, .inr (3, [.int 0, .int 0, .int 0, .int 0, .int 0, .int 0, .int 0, .int 0])), (q71, .inr (3, [.int 0, .int 0, .int 0, .int 0, .int 0, .int 0, .int 0, .int 0])), (q72, .inr (3, [.int 0, .int 0, .int 0, .int 0, .int 0, .int 0, .int 0, .int 0])), (q79, .inr (0, [.ref q80, .ref q81, .int 0, .int 0, .int 1])), (q80, .inl (cA 1, 50, .inl (fun _ => 0))), (q81, .inl (cA 0, 20, .inl (fun _ => 0))), (q82, .inr (0, [.null, .null, .int 0, .int 0, .int 0]))]) rfl ?_
  refine A_dup rfl dX7_init_52 ?_
  refine A_callI (wr := [(h0, .inr (7, [.ref q1, .ref q27, .ref q53, .ref q79, .null, .null, .null, .null, .null, .int 0])), (q1, .inr (1, [.ref q9, .ref q10, .ref q2, .ref q3, .ref q6, .int 0, .int 0, .int 0])), (q2, .inl (cA 2, 10, .inr (.inr (.inr (.inr g21))))), (q3, .inr (2, [.ref q4, .ref q5, .int 0])), (q4, .inl (cA 0, 50, .inl (fun _ => 0))), (q5, .inl (cA 0, 50, .inl (fun _ => 0))), (q6, .inr (2, [.ref q7, .ref q8, .int 0])), (q7, .inl (cA 0, 50, .inl (fun _ => 0))), (q8, .inl (cA 0, 50, .inl (fun _ => 0))), (q9, .inl (cA 0, 5, .inl g22)), (q10, .inl (cA 0, 5, .inl g23)), (q11, .inr (3, [.int 0, .int 0, .int 0, .int 0, .int 0, .int 0, .int 0, .int 0])), (q12, .inr (3, [.int 0, .int 0, .int 0, .int 0, .int 0, .int 0, .int 0, .int 0])), (q13, .inr (3, [.int 0, .int 0, .int 0, .int 0, .int 0, .int 0, .int 0, .int 0])), (q14, .inr (3, [.int 0, .int 0, .int 0, .int 0, .int 0, .int 0, .int 0, .int 0])), (q15, .inr (3, [.int 0, .int 0, .int 0, .int 0, .int 0, .int 0, .int 0, .int 0])), (q16, .inr (3, [.int 0, .int 0, .int 0, .int 0, .int 0, .int 0, .int 0, .int 0])), (q17, .inr (3, [.int 0, .int 0, .int 0, .int 0, .int 0, .int 0, .int 0, .int 0])), (q18, .inr (3, [.int 0, .int 0, .int 0, .int 0, .int 0, .int 0, .int 0, .int 0])), (q19, .inr (3, [.int 0, .int 0, .int 0, .int 0, .int 0, .int 0, .int 0, .int 0])), (q20, .inr (3, [.int 0, .int 0, .int 0, .int 0, .int 0, .int 0, .int 0, .int 0])), (q27, .inr (1, [.ref q35, .ref q36, .ref q28, .ref q29, .ref q32, .int 0, .int 0, .int 0])), (q28, .inl (cA 2, 10, .inr (.inr (.inr (.inr g47))))), (q29, .inr (2, [.ref q30, .ref q31, .int 0])), (q30, .inl (cA 0, 50, .inl (fun _ => 0))), (q31, .inl (cA 0, 50, .inl (fun _ => 0))), (q32, .inr (2, [.ref q33, .ref q34, .int 0])), (q33, .inl (cA 0, 50, .inl (fun _ => 0))), (q34, .inl (cA 0, 50, .inl (fun _ => 0))), (q35, .inl (cA 0, 5, .inl g48)), (q36, .inl (cA 0, 5, .inl g49)), (q37, .inr (3, [.int 0, .int 0, .int 0, .int 0, .int 0, .int 0, .int 0, .int 0])), (q38, .inr (3, [.int 0, .int 0, .int 0, .int 0, .int 0, .int 0, .int 0, .int 0])), (q39, .inr (3, [.int 0, .int 0, .int 0, .int 0, .int 0, .int 0, .int 0, .int 0])), (q40, .inr (3, [.int 0, .int 0, .int 0, .int 0, .int 0, .int 0, .int 0, .int 0])), (q41, .inr (3, [.int 0, .int 0, .int 0, .int 0, .int 0, .int 0, .int 0, .int 0])), (q42, .inr (3, [.int 0, .int 0, .int 0, .int 0, .int 0, .int 0, .int 0, .int 0])), (q43, .inr (3, [.int 0, .int 0, .int 0, .int 0, .int 0, .int 0, .int 0, .int 0])), (q44, .inr (3, [.int 0, .int 0, .int 0, .int 0, .int 0, .int 0, .int 0, .int 0])), (q45, .inr (3, [.int 0, .int 0, .int 0, .int 0, .int 0, .int 0, .int 0, .int 0])), (q46, .inr (3, [.int 0, .int 0, .int 0, .int 0, .int 0, .int 0, .int 0, .int 0])), (q53, .inr (1, [.ref q61, .ref q62, .ref q54, .ref q55, .ref q58, .int 0, .int 0, .int 0])), (q54, .inl (cA 2, 10, .inr (.inr (.inr (.inr g73))))), (q55, .inr (2, [.ref q56, .ref q57, .int 0])), (q56, .inl (cA 0, 50, .inl (fun _ => 0))), (q57, .inl (cA 0, 50, .inl (fun _ => 0))), (q58, .inr (2, [.ref q59, .ref q60, .int 0])), (q59, .inl (cA 0, 50, .inl (fun _ => 0))), (q60, .inl (cA 0, 50, .inl (fun _ => 0))), (q61, .inl (cA 0, 5, .inl g74)), (q62, .inl (cA 0, 5, .inl g75)), (q63, .inr (3, [.int 0, .int 0, .int 0, .int 0, .int 0, .int 0, .int 0, .int 0])), (q64, .inr (3, [.int 0, .int 0, .int 0, .int 0, .int 0, .int 0, .int 0, .int 0])), (q65, .inr (3, [.int 0, .int 0, .int 0, .int 0, .int 0, .int 0, .int 0, .int 0])), (q66, .inr (3, [.int 0, .int 0, .int 0, .int 0, .int 0, .int 0, .int 0, .int 0])), (q67, .inr (3, [.int 0, .int 0, .int 0, .int 0, .int 0, .int 0, .int 0, .int 0])), (q68, .inr (3, [.int 0, .int 0, .int 0, .int 0, .int 0, .int 0, .int 0, .int 0])), (q69, .inr (3, [.int 0, .int 0, .int 0, .int 0, .int 0, .int 0, .int 0, .int 0])), (q70, .inr (3, [.int 0, .int 0, .int 0, .int 0, .int 0, .int 0, .int 0, .int 0])), (q71, .inr (3, [.int 0, .int 0, .int 0, .int 0, .int 0, .int 0, .int 0, .int 0])), (q72, .inr (3, [.int 0, .int 0, .int 0, .int 0, .int 0, .int 0, .int 0, .int 0])), (q79, .inr (0, [.ref q80, .ref q81, .int 0, .int 0, .int 1])), (q80, .inl (cA 1, 50, .inl (fun _ => 0))), (q81, .inl (cA 0, 20, .inl (fun _ => 0)))]) (X0_init_made q82) ok_X0_init (Or.inr (by simp [nestA])) (by decide) rfl rfl (Nat.le_of_ble_eq_true rfl) [64] [0, 1, 2, 3, 4, 5, 6, 7, 8, 9, 10, 11, 12, 13, 14, 15, 16, 17, 18, 19, 20, 21, 22, 23, 24, 25, 26, 27, 28, 29, 30, 31, 32, 33, 34, 35, 36, 37, 38, 39, 40, 41, 42, 43, 44, 45, 46, 47, 48, 49, 50, 51, 52, 53, 54, 55, 56, 57, 58, 59, 60, 61, 62, 63] rfl rfl (by decide) (by decide) (by decide) (by decide) (by decide) dX7_init_53 ?_
  rintro w ⟨q83, q84, rfl⟩
  refine A_ws (ws2 := [(h0, .inr (7, [.ref q1, .ref q27, .ref q53, .ref q79, .null, .null, .null, .null, .null, .int 0])), (q1, .inr (1, [.ref q9, .ref q10, .ref q2, .ref q3, .ref q6, .int 0, .int 0, .int 0])), (q2, .inl (cA 2, 10, .inr (.inr (.inr (.inr g21))))), (q3, .inr (2, [.ref q4, .ref q5, .int 0])), (q4, .inl (cA 0, 50, .inl (fun _ => 0))), (q5, .inl (cA 0, 50, .inl (fun _ => 0))), (q6, .inr (2, [.ref q7, .ref q8, .int 0])), (q7, .inl (cA 0, 50, .inl (fun _ => 0))), (q8, .inl (cA 0, 50, .inl (fun _ => 0))), (q9, .inl (cA 0, 5, .inl g22)), (q10, .inl (cA 0, 5, .inl g23)), (q11, .inr (3, [.int 0, .int 0, .int 0, .int 0, .int 0, .int 0, .int 0, .int 0])), (q12, .inr (3, [.int 0, .int 0, .int 0, .int 0, .int 0, .int 0, .int 0, .int 0])), (q13, .inr (3, [.int 0, .int 0, .int 0, .int 0, .int 0, .int 0, .int 0, .int 0])), (q14, .inr (3, [.int 0, .int 0, .int 0, .int 0, .int 0, .int 0, .int 0, .int 0])), (q15, .inr (3, [.int 0, .int 0, .int 0, .int 0, .int 0, .int 0, .int 0, .int 0])), (q16, .inr (3, [.int 0, .int 0, .int 0, .int 0, .int 0, .int 0, .int 0, .int 0])), (q17, .inr (3, [.int 0, .int 0, .int 0, .int 0, .int 0, .int 0, .int 0, .int 0])), (q18, .inr (3, [.int 0, .int 0, .int 0, .int 0, .int 0, .int 0, .int 0, .int 0])), (q19, .inr (3, [.int 0, .int 0, .int 0, .int 0, .int 0, .int 0, .int 0, .int 0])), (q20, .inr (3, [.int 0, .int 0, .int 0, .int 0, .int 0, .int 0, .int 0, .int 0])), (q27, .inr (1, [.ref q35, .ref q36, .ref q28, .ref q29, .ref q32, .int 0, .int 0, .int 0])), (q28, .inl (cA 2, 10, .inr (.inr (.inr (.inr g47))))), (q29, .inr (2, [.ref q30, .ref q31, .int 0])), (q30, .inl (cA 0, 50, .inl (fun _ => 0))), (q31, .inl (cA 0, 50, .inl (fun _ => 0))), (q32, .inr (2, [.ref q33, .ref q34, .int 0])), (q33, .inl (cA 0, 50, .inl (fun _ => 0))), (q34, .inl (cA 0, 50, .inl (fun _ => 0))), (q35, .inl (cA 0, 5, .inl g48)), (q36, .inl (cA 0, 5, .inl g49)), (q37, .inr (3, [.int 0, .int 0, .int 0, .int 0, .int 0, .int 0, .int 0, .int 0])), (q38, .inr (3, [.int 0, .int 0, .int 0, .int 0, .int 0, .int 0, .int 0, .int 0])), (q39, .inr (3, [.int 0, .int 0, .int 0, .int 0, .int 0, .int 0, .int 0, .int 0])), (q40, .inr (3, [.int 0, .int 0, .int 0, .int 0, .int 0, .int 0, .int 0, .int 0])), (q41, .inr (3, [.int 0, .int 0, .int 0, .int 0, .int 0, .int 0, .int 0, .int 0])), (q42, .inr (3, [.int 0, .int 0, .int 0, .int 0, .int 0, .int 0, .int 0, .int 0])), (q43, .inr (3, [.int 0, .int 0, .int 0, .int 0, .int 0, .int 0, .int 0, .int 0])), (q44, .inr (3, [.int 0, .int 0, .int 0, .int 0, .int 0, .int 0, .int 0, .int 0])), (q45, .inr (3, [.int 0, .int 0, .int 0, .int 0, .int 0, .int 0, .int 0, .int 0])), (q46, .inr (3, [.int 0, .int 0, .int 0, .int 0, .int 0, .int 0, .int 0, .int 0])), (q53, .inr (1, [.ref q61, .ref q62, .ref q54, .ref q55, .ref q58, .int 0, .int 0, .int 0])), (q54, .inl (cA 2, 10, .inr (.inr (.inr (.inr g73))))), (q55, .inr (2, [.ref q56, .ref q57, .int 0])), (q56, .inl (cA 0, 50, .inl (fun _ => 0))), (q57, .inl (cA 0, 50, .inl (fun _ => 0))), (q58, .inr (2, [.ref q59, .ref q60, .int 0])), (q59, .inl (cA 0, 50, .inl (fun _ => 0))), (q60, .inl (cA 0, 50, .inl (fun _ => 0))), (q61, .inl (cA 0, 5, .inl g74)), (q62, .inl (cA 0, 5, .inl g75)), (q63, .inr (3, [.int 0, .int 0, .int 0, .int 0, .int 0, .int 0, .int 0, .int 0])), (q64, .inr (3, [.int 0, .int 0, .int 0, .int 0, .int 0, .int 0, .int 0, .int 0])), (q65, .inr (3, [.int 0, .int 0, .int 0, .int 0, .int 0, .int 0, .int 0, .int 0])), (q66, .inr (3, [.int 0, .int 0, .int 0, .int 0, .int 0, .int 0, .int 0, .int 0])), (q67, .inr (3, [.int 0, .int 0, .int 0, .int 0, .int 0, .int 0, .int 0, .int 0])), (q68, .inr (3, [.int 0, .int 0, .int 0, .int 0, .int 0, .int 0, .int 0, .int 0])), (q69, .inr (3, [.int 0, .int 0, .int 0, .int 0, .int 0, .int 0, .int 0, .int 0])), (q70, .inr (3, [.int 0, .int 0, .int 0, .int 0, .int 0, .int 0, .int 0, .int 0])), (q71, .inr (3, [.int 0, .int 0, .int 0, .int 0, .int 0, .int 0, .int 0, .int 0])), (q72, .inr (3, [.int 0, .int 0, .int 0, .int 0, .int 0, .int 0, .int 0, .int 0])), (q79, .inr (0, [.ref q80, .ref q81, .int 0, .int 0, .int 1])), (q80, .inl (cA 1, 50, .inl (fun _ => 0))), (q81, .inl (cA 0, 20, .inl (fun _ => 0))), (q82, .inr (0, [.ref q83, .ref q84, .int 0, .int 0, .int 1])), (q83, .inl (cA 1, 50, .inl (fun _ => 0))), (q84, .inl (cA 0, 20, .inl (fun _ => 0)))]) rfl ?_
  refine A_putF (C0 := RX7) (T := TX7) (ty := tyX7) (k0 := 4) (ws2 := [(h0, .inr (7, [.ref q1, .ref q27, .ref q53, .ref q79, .ref q82, .null, .null, .null, .null, .int 0])), (q1, .inr (1, [.ref q9, .ref q10, .ref q2, .ref q3, .ref q6, .int 0, .int 0, .int 0])), (q2, .inl (cA 2, 10, .inr (.inr (.inr (.inr g21))))), (q3, .inr (2, [.ref q4, .ref q5, .int 0])), (q4, .inl (cA 0, 50, .inl (fun _ => 0))), (q5, .inl (cA 0, 50, .inl (fun _ => 0))), (q6, .inr (2, [.ref q7, .ref q8, .int 0])), (q7, .inl (cA 0, 50, .inl (fun _ => 0))), (q8, .inl (cA 0, 50, .inl (fun _ => 0))), (q9, .inl (cA 0, 5, .inl g22)), (q10, .inl (cA 0, 5, .inl g23)), (q11, .inr (3, [.int 0, .int 0, .int 0, .int 0, .int 0, .int 0, .int 0, .int 0])), (q12, .inr (3, [.int 0, .int 0, .int 0, .int 0, .int 0, .int 0, .int 0, .int 0])), (q13, .inr (3, [.int 0, .int 0, .int 0, .int 0, .int 0, .int 0, .int 0, .int 0])), (q14, .inr (3, [.int 0, .int 0, .int 0, .int 0, .int 0, .int 0, .int 0, .int 0])), (q15, .inr (3, [.int 0, .int 0, .int 0, .int 0, .int 0, .int 0, .int 0, .int 0])), (q16, .inr (3, [.int 0, .int 0, .int 0, .int 0, .int 0, .int 0, .int 0, .int 0])), (q17, .inr (3, [.int 0, .int 0, .int 0, .int 0, .int 0, .int 0, .int 0, .int 0])), (q18, .inr (3, [.int 0, .int 0, .int 0, .int 0, .int 0, .int 0, .int 0, .int 0])), (q19, .inr (3, [.int 0, .int 0, .int 0, .int 0, .int 0, .int 0, .int 0, .int 0])), (q20, .inr (3, [.int 0, .int 0, .int 0, .int 0, .int 0, .int 0, .int 0, .int 0])), (q27, .inr (1, [.ref q35, .ref q36, .ref q28, .ref q29, .ref q32, .int 0, .int 0, .int 0])), (q28, .inl (cA 2, 10, .inr (.inr (.inr (.inr g47))))), (q29, .inr (2, [.ref q30, .ref q31, .int 0])), (q30, .inl (cA 0, 50, .inl (fun _ => 0))), (q31, .inl (cA 0, 50, .inl (fun _ => 0))), (q32, .inr (2, [.ref q33, .ref q34, .int 0])), (q33, .inl (cA 0, 50, .inl (fun _ => 0))), (q34, .inl (cA 0, 50, .inl (fun _ => 0))), (q35, .inl (cA 0, 5, .inl g48)), (q36, .inl (cA 0, 5, .inl g49)), (q37, .inr (3, [.int 0, .int 0, .int 0, .int 0, .int 0, .int 0, .int 0, .int 0])), (q38, .inr (3, [.int 0, .int 0, .int 0, .int 0, .int 0, .int 0, .int 0, .int 0])), (q39, .inr (3, [.int 0, .int 0, .int 0, .int 0, .int 0, .int 0, .int 0, .int 0])), (q40, .inr (3, [.int 0, .int 0, .int 0, .int 0, .int 0, .int 0, .int 0, .int 0])), (q41, .inr (3, [.int 0, .int 0, .int 0, .int 0, .int 0, .int 0, .int 0, .int 0])), (q42, .inr (3, [.int 0, .int 0, .int 0, .int 0, .int 0, .int 0, .int 0, .int 0])), (q43, .inr (3, [.int 0, .int 0, .int 0, .int 0, .int 0, .int 0, .int 0, .int 0])), (q44, .inr (3, [.int 0, .int 0, .int 0, .int 0, .int 0, .int 0, .int 0, .int 0])), (q45, .inr (3, [.int 0, .int 0, .int 0, .int 0, .int 0, .int 0, .int 0, .int 0])), (q46, .inr (3, [.int 0, .int 0, .int 0, .int 0, .int 0, .int 0, .int 0, .int 0])), (q53, .inr (1, [.ref q61, .ref q62, .ref q54, .ref q55, .ref q58, .int 0, .int 0, .int 0])), (q54, .inl (cA 2, 10, .inr (.inr (.inr (.inr g73))))), (q55, .inr (2, [.ref q56, .ref q57, .int 0])), (q56, .inl (cA 0, 50, .inl (fun _ => 0))), (q57, .inl (cA 0, 50, .inl (fun _ => 0))), (q58, .inr (2, [.ref q59, .ref q60, .int 0])), (q59, .inl (cA 0, 50, .inl (fun _ => 0))), (q60, .inl (cA 0, 50, .inl (fun _ => 0))), (q61, .inl (cA 0, 5, .inl g74)), (q62, .inl (cA 0, 5, .inl g75)), (q63, .inr (3, [.int 0, .int 0, .int 0, .int 0, .int 0, .int 0, .int 0, .int 0])), (q64, .inr (3, [.int 0, .int 0, .int 0, .int 0, .int 0, .int 0, .int 0, .int 0])), (q65, .inr (3, [.int 0, .int 0, .int 0, .int 0, .int 0, .int 0, .int 0, .int 0])), (q66, .inr (3, [.int 0, .int 0, .int 0, .int 0, .int 0, .int 0, .int 0, .int 0])), (q67, .inr (3, [.int 0, .int 0, .int 0, .int 0, .int 0, .int 0, .int 0, .int 0])), (q68, .inr (3, [.int 0, .int 0, .int 0, .int 0, .int 0, .int 0, .int 0, .int 0])), (q69, .inr (3, [.int 0, .int 0, .int 0, .int 0, .int 0, .int 0, .int 0, .int 0])), (q70, .inr (3, [.int 0, .int 0, .int 0, .int 0, .int 0, .int 0, .int 0, .int 0])), (q71, .inr (3, [.int 0, .int 0, .int 0, .int 0, .int 0, .int 0, .int 0, .int 0])), (q72, .inr (3, [.int 0, .int 0, .int 0, .int 0, .int 0, .int 0, .int 0, .int 0])), (q79, .inr (0, [.ref q80, .ref q81, .int 0, .int 0, .int 1])), (q80, .inl (cA 1, 50, .inl (fun _ => 0))), (q81, .inl (cA 0, 20, .inl (fun _ => 0))), (q82, .inr (0, [.ref q83, .ref q84, .int 0, .int 0, .int 1])), (q83, .inl (cA 1, 50, .inl (fun _ => 0))), (q84, .inl (cA 0, 20, .inl (fun _ => 0)))]) rfl rfl inT_7 tyX7_ok nmX7 rfl fl_X7_29 0 rfl (by decide) rfl rfl rfl rfl (Nat.le_of_ble_eq_true rfl) rfl dX7_init_56 ?_
  refine A_aload_n dX7_init_59 0 rfl ?_
  refine A_new (ci := 4) (C0 := RX4) (T := TX4) (ty := tyX4) (fs := [.null, .null, .int 0, .int 0]) rfl inT_4 tyX4_ok cl_X7_32 iw_4 in_4 rfl df_4 (by decide) (by decide) dX7_init_60 (fun q85 => ?_)
  refine A_ws (ws2 := [(h0, .inr (7, [.ref q1, .ref q27, .ref q53, .ref q79, .ref q82, .null, .null, .null, .null, .int 0])), (q1, .inr (1, [.ref q9, .ref q10, .ref q2, .ref q3, .ref q6, .int 0, .int 0, .int 0])), (q2, .inl (cA 2, 10, .inr (.inr (.inr (.inr g21))))), (q3, .inr (2, [.ref q4, .ref q5, .int 0])), (q4, .inl (cA 0, 50, .inl (fun _ => 0))), (q5, .inl (cA 0, 50, .inl (fun _ => 0))), (q6, .inr (2, [.ref q7, .ref q8, .int 0])), (q7, .inl (cA 0, 50, .inl (fun _ => 0))), (q8, .inl (cA 0, 50, .inl (fun _ => 0))), (q9, .inl (cA 0, 5, .inl g22)), (q10, .inl (cA 0, 5, .inl g23)), (q11, .inr (3, [.int 0, .int 0, .int 0, .int 0, .int 0, .int 0, .int 0, .int 0])), (q12, .inr (3, [.int 0, .int 0, .int 0, .int 0, .int 0, .int 0, .int 0, .int 0])), (q13, .inr (3, [.int 0, .int 0, .int 0, .int 0, .int 0, .int 0, .int 0, .int 0])), (q14, .inr (3, [.int 0, .int 0, .int 0, .int 0, .int 0, .int 0, .int 0, .int 0])), (q15, .inr (3, [.int 0, .int 0, .int 0, .int 0, .int 0, .int 0, .int 0, .int 0])), (q16, .inr (3, [.int 0, .int 0, .int 0, .int 0, .int 0, .int 0, .int 0, .int 0])), (q17, .inr (3, [.int 0, .int 0, .int 0, .int 0, .int 0, .int 0, .int 0, .int 0])), (q18, .inr (3, [.int 0, .int 0, .int 0, .int 0, .int 0, .int 0, .int 0, .int 0])), (q19, .inr (3, [.int 0, .int 0, .int 0, .int 0, .int 0, .int 0, .int 0, .int 0])), (q20, .inr (3, [.int 0, .int 0, .int 0, .int 0, .int 0, .int 0, .int 0, .int 0])), (q27, .inr (1, [.ref q35, .ref q36, .ref q28, .ref q29, .ref q32, .int 0, .int 0, .int 0])), (q28, .inl (cA 2, 10, .inr (.inr (.inr (.inr g47))))), (q29, .inr (2, [.ref q30, .ref q31, .int 0])), (q30, .inl (cA 0, 50, .inl (fun _ => 0))), (q31, .inl (cA 0, 50, .inl (fun _ => 0))), (q32, .inr (2, [.ref q33, .ref q34, .int 0])), (q33, .inl (cA 0, 50, .inl (fun _ => 0))), (q34, .inl (cA 0, 50, .inl (fun _ => 0))), (q35, .inl (cA 0, 5, .inl g48)), (q36, .inl (cA 0, 5, .inl g49)), (q37, .inr (3, [.int 0, .int 0, .int 0, .int 0, .int 0, .int 0, .int 0, .int 0])), (q38, .inr (3, [.int 0, .int 0, .int 0, .int 0, .int 0, .int 0, .int 0, .int 0])), (q39, .inr (3, [.int 0, .int 0, .int 0, .int 0, .int 0, .int 0, .int 0, .int 0])), (q40, .inr (3, [.int 0, .int 0, .int 0, .int 0, .int 0, .int 0, .int 0, .int 0])), (q41, .inr (3, [.int 0, .int 0, .int 0, .int 0, .int 0, .int 0, .int 0, .int 0])), (q42, .inr (3, [.int 0, .int 0, .int 0, .int 0, .int 0, .int 0, .int 0, .int 0])), (q43, .inr (3, [.int 0, .int 0, .int 0, .int 0, .int 0, .int 0, .int 0, .int 0])), (q44, .inr (3, [.int 0, .int 0, .int 0, .int 0, .int 0, .int 0, .int 0, .int 0])), (q45, .inr (3, [.int 0, .int 0, .int 0, .int 0, .int 0, .int 0, .int 0, .int 0])), (q46, .inr (3, [.int 0, .int 0, .int 0, .int 0, .int 0, .int 0, .int 0, .int 0])), (q53, .inr (1, [.ref q61, .ref q62, .ref q54, .ref q55, .ref q58, .int 0, .int 0, .int 0])), (q54, .inl (cA 2, 10, .inr (.inr (.inr (.inr g73))))), (q55, .inr (2, [.ref q56, .ref q57, .int 0])), (q56, .inl (cA 0, 50, .inl (fun _ => 0))), (q57, .inl (cA 0, 50, .inl (fun _ => 0))), (q58, .inr (2, [.ref q59, .ref q60, .int 0])), (q59, .inl (cA 0, 50, .inl (fun _ => 0))), (q60, .inl (cA 0, 50, .inl (fun _ => 0))), (q61, .inl (cA 0, 5, .inl g74)), (q62, .inl (cA 0, 5, .inl g75)), (q63, .inr (3, [.int 0, .int 0, .int 0, .int 0, .int 0, .int 0, .int 0, .int 0])), (q64, .inr (3, [.int 0, .int 0, .int 0, .int 0, .int 0, .int 0, .int 0, .int 0])), (q65, .inr (3, [.int 0, .int 0, .int 0, .int 0, .int 0, .int 0, .int 0, .int 0])), (q66, .inr (3, [.int 0, .int 0, .int 0, .int 0, .int 0, .int 0, .int 0, .int 0])), (q67, .inr (3, [.int 0, .int 0, .int 0, .int 0, .int 0, .int 0, .int 0, .int 0])), (q68, .inr (3, [.int 0, .int 0, .int 0, .int 0, .int 0, .int 0, .int 0, .int 0])), (q69, .inr (3, [.int 0, .int 0, .int 0, .int 0, .int 0, .int 0, .int 0, .int 0])), (q70, .inr (3, [.int 0, .int 0, .int 0, .int 0, .int 0, .int 0, .int 0, .int 0])), (q71, .inr (3, [.int 0, .int 0, .int 0, .int 0, .int 0, .int 0, .int 0, .int 0])), (q72, .inr (3, [.int 0, .int 0, .int 0, .int 0, .int 0, .int 0, .int 0, .int 0])), (q79, .inr (0, [.ref q80, .ref q81, .int 0, .int 0, .int 1])), (q80, .inl (cA 1, 50, .inl (fun _ => 0))), (q81, .inl (cA 0, 20, .inl (fun _ => 0))), (q82, .inr (0, [.ref q83, .ref q84, .int 0, .int 0, .int 1])), (q83, .inl (cA 1, 50, .inl (fun _ => 0))), (q84, .inl (cA 0, 20, .inl (fun _ => 0))), (q85, .inr (4, [.null, .null, .int 0, .int 0]))]) rfl ?_
  refine A_dup rfl dX7_init_63 ?_
  refine A_aload_n dX7_init_64 0 rfl ?_
  refine A_get (C0 := RX7) (T := TX7) (k0 := 3) (v := .ref q79) rfl inT_7 rfl fl_X7_25 0 rfl (by decide) rfl dX7_init_65 ?_
  refine A_callI (wr := [(h0, .inr (7, [.ref q1, .ref q27, .ref q53, .ref q79, .ref q82, .null, .null, .null, .null, .int 0])), (q1, .inr (1, [.ref q9, .ref q10, .ref q2, .ref q3, .ref q6, .int 0, .int 0, .int 0])), (q2, .inl (cA 2, 10, .inr (.inr (.inr (.inr g21))))), (q3, .inr (2, [.ref q4, .ref q5, .int 0])), (q4, .inl (cA 0, 50, .inl (fun _ => 0))), (q5, .inl (cA 0, 50, .inl (fun _ => 0))), (q6, .inr (2, [.ref q7, .ref q8, .int 0])), (q7, .inl (cA 0, 50, .inl (fun _ => 0))), (q8, .inl (cA 0, 50, .inl (fun _ => 0))), (q9, .inl (cA 0, 5, .inl g22)), (q10, .inl (cA 0, 5, .inl g23)), (q11, .inr (3, [.int 0, .int 0, .int 0, .int 0, .int 0, .int 0, .int 0, .int 0])), (q12, .inr (3, [.int 0, .int 0, .int 0, .int 0, .int 0, .int 0, .int 0, .int 0])), (q13, .inr (3, [.int 0, .int 0, .int 0, .int 0, .int 0, .int 0, .int 0, .int 0])), (q14, .inr (3, [.int 0, .int 0, .int 0, .int 0, .int 0, .int 0, .int 0, .int 0])), (q15, .inr (3, [.int 0, .int 0, .int 0, .int 0, .int 0, .int 0, .int 0, .int 0])), (q16, .inr (3, [.int 0, .int 0, .int 0, .int 0, .int 0, .int 0, .int 0, .int 0])), (q17, .inr (3, [.int 0, .int 0, .int 0, .int 0, .int 0, .int 0, .int 0, .int 0])), (q18, .inr (3, [.int 0, .int 0, .int 0, .int 0, .int 0, .int 0, .int 0, .int 0])), (q19, .inr (3, [.int 0, .int 0, .int 0, .int 0, .int 0, .int 0, .int 0, .int 0])), (q20, .inr (3, [.int 0, .int 0, .int 0, .int 0, .int 0, .int 0, .int 0, .int 0])), (q27, .inr (1, [.ref q35, .ref q36, .ref q28, .ref q29, .ref q32, .int 0, .int 0, .int 0])), (q28, .inl (cA 2, 10, .inr (.inr (.inr (.inr g47))))), (q29, .inr (2, [.ref q30, .ref q31, .int 0])), (q30, .inl (cA 0, 50, .inl (fun _ => 0))), (q31, .inl (cA 0, 50, .inl (fun _ => 0))), (q32, .inr (2, [.ref q33, .ref q34, .int 0])), (q33, .inl (cA 0, 50, .inl (fun _ => 0))), (q34, .inl (cA 0, 50, .inl (fun _ => 0))), (q35, .inl (cA 0, 5, .inl g48)), (q36, .inl (cA 0, 5, .inl g49)), (q37, .inr (3, [.int 0, .int 0, .int 0, .int 0, .int 0, .int 0, .int 0, .int 0])), (q38, .inr (3, [.int 0, .int 0, .int 0, .int 0, .int 0, .int 0, .int 0, .int 0])), (q39, .inr (3, [.int 0, .int 0, .int 0, .int 0, .int 0, .int 0, .int 0, .int 0])), (q40, .inr (3, [.int 0, .int 0, .int 0, .int 0, .int 0, .int 0, .int 0, .int 0])), (q41, .inr (3, [.int 0, .int 0, .int 0, .int 0, .int 0, .int 0, .int 0, .int 0])), (q42, .inr (3, [.int 0, .int 0, .int 0, .int 0, .int 0, .int 0, .int 0, .int 0])), (q43, .inr (3, [.int 0, .int 0, .int 0, .int 0, .int 0, .int 0, .int 0, .int 0])), (q44, .inr (3, [.int 0, .int 0, .int 0, .int 0, .int 0, .int 0, .int 0, .int 0])), (q45, .inr (3, [.int 0, .int 0, .int 0, .int 0, .int 0, .int 0, .int 0, .int 0])), (q46, .inr (3, [.int 0, .int 0, .int 0, .int 0, .int 0, .int 0, .int 0, .int 0])), (q53, .inr (1, [.ref q61, .ref q62, .ref q54, .ref q55, .ref q58, .int 0, .int 0, .int 0])), (q54, .inl (cA 2, 10, .inr (.inr (.inr (.inr g73))))), (q55, .inr (2, [.ref q56, .ref q57, .int 0])), (q56, .inl (cA 0, 50, .inl (fun _ => 0))), (q57, .inl (cA 0, 50, .inl (fun _ => 0))), (q58, .inr (2, [.ref q59, .ref q60, .int 0])), (q59, .inl (cA 0, 50, .inl (fun _ => 0))), (q60, .inl (cA 0, 50, .inl (fun _ => 0))), (q61, .inl (cA 0, 5, .inl g74)), (q62, .inl (cA 0, 5, .inl g75)), (q63, .inr (3, [.int 0, .int 0, .int 0, .int 0, .int 0, .int 0, .int 0, .int 0])), (q64, .inr (3, [.int 0, .int 0, .int 0, .int 0, .int 0, .int 0, .int 0, .int 0])), (q65, .inr (3, [.int 0, .int 0, .int 0, .int 0, .int 0, .int 0, .int 0, .int 0])), (q66, .inr (3, [.int 0, .int 0, .int 0, .int 0, .int 0, .int 0, .int 0, .int 0])), (q67, .inr (3, [.int 0, .int 0, .int 0, .int 0, .int 0, .int 0, .int 0, .int 0])), (q68, .inr (3, [.int 0, .int 0, .int 0, .int 0, .int 0, .int 0, .int 0, .int 0])), (q69, .inr (3, [.int 0, .int 0, .int 0, .int 0, .int 0, .int 0, .int 0, .int 0])), (q70, .inr (3, [.int 0, .int 0, .int 0, .int 0, .int 0, .int 0, .int 0, .int 0])), (q71, .inr (3, [.int 0, .int 0, .int 0, .int 0, .int 0, .int 0, .int 0, .int 0])), (q72, .inr (3, [.int 0, .int 0, .int 0, .int 0, .int 0, .int 0, .int 0, .int 0])), (q79, .inr (0, [.ref q80, .ref q81, .int 0, .int 0, .int 1])), (q80, .inl (cA 1, 50, .inl (fun _ => 0))), (q81, .inl (cA 0, 20, .inl (fun _ => 0))), (q82, .inr (0, [.ref q83, .ref q84, .int 0, .int 0, .int 1])), (q83, .inl (cA 1, 50, .inl (fun _ => 0))), (q84, .inl (cA 0, 20, .inl (fun _ => 0)))]) (X4_init_made q85 q79) ok_X4_init (Or.inl mi_X7_34) (by decide) rfl rfl (Nat.le_of_ble_eq_true rfl) [67] [0, 1, 2, 3, 4, 5, 6, 7, 8, 9, 10, 11, 12, 13, 14, 15, 16, 17, 18, 19, 20, 21, 22, 23, 24, 25, 26, 27, 28, 29, 30, 31, 32, 33, 34, 35, 36, 37, 38, 39, 40, 41, 42, 43, 44, 45, 46, 47, 48, 49, 50, 51, 52, 53, 54, 55, 56, 57, 58, 59, 60, 61, 62, 63, 64, 65, 66] rfl rfl (by decide) (by decide) (by decide) (by decide) (by decide) dX7_init_68 ?_
  rintro w ⟨q86, q87, q88, rfl⟩
  refine A_ws (ws2 := [(h0, .inr (7, [.ref q1, .ref q27, .ref q53, .ref q79, .ref q82, .null, .null, .null, .null, .int 0])), (q1, .inr (1, [.ref q9, .ref q10, .ref q2, .ref q3, .ref q6, .int 0, .int 0, .int 0])), (q2, .inl (cA 2, 10, .inr (.inr (.inr (.inr g21))))), (q3, .inr (2, [.ref q4, .ref q5, .int 0])), (q4, .inl (cA 0, 50, .inl (fun _ => 0))), (q5, .inl (cA 0, 50, .inl (fun _ => 0))), (q6, .inr (2, [.ref q7, .ref q8, .int 0])), (q7, .inl (cA 0, 50, .inl (fun _ => 0))), (q8, .inl (cA 0, 50, .inl (fun _ => 0))), (q9, .inl (cA 0, 5, .inl g22)), (q10, .inl (cA 0, 5, .inl g23)), (q11, .inr (3, [.int 0, .int 0, .int 0, .int 0, .int 0, .int 0, .int 0, .int 0])), (q12, .inr (3, [.int 0, .int 0, .int 0, .int 0, .int 0, .int 0, .int 0, .int 0])), (q13, .inr (3, [.int 0, .int 0, .int 0, .int 0, .int 0, .int 0, .int 0, .int 0])), (q14, .inr (3, [.int 0, .int 0, .int 0, .int 0, .int 0, .int 0, .int 0, .int 0])), (q15, .inr (3, [.int 0, .int 0, .int 0, .int 0, .int 0, .int 0, .int 0, .int 0])), (q16, .inr (3, [.int 0, .int 0, .int 0, .int 0, .int 0, .int 0, .int 0, .int 0])), (q17, .inr (3, [.int 0, .int 0, .int 0, .int 0, .int 0, .int 0, .int 0, .int 0])), (q18, .inr (3, [.int 0, .int 0, .int 0, .int 0, .int 0, .int 0, .int 0, .int 0])), (q19, .inr (3, [.int 0, .int 0, .int 0, .int 0, .int 0, .int 0, .int 0, .int 0])), (q20, .inr (3, [.int 0, .int 0, .int 0, .int 0, .int 0, .int 0, .int 0, .int 0])), (q27, .inr (1, [.ref q35, .ref q36, .ref q28, .ref q29, .ref q32, .int 0, .int 0, .int 0])), (q28, .inl (cA 2, 10, .inr (.inr (.inr (.inr g47))))), (q29, .inr (2, [.ref q30, .ref q31, .int 0])), (q30, .inl (cA 0, 50, .inl (fun _ => 0))), (q31, .inl (cA 0, 50, .inl (fun _ => 0))), (q32, .inr (2, [.ref q33, .ref q34, .int 0])), (q33, .inl (cA 0, 50, .inl (fun _ => 0))), (q34, .inl (cA 0, 50, .inl (fun _ => 0))), (q35, .inl (cA 0, 5, .inl g48)), (q36, .inl (cA 0, 5, .inl g49)), (q37, .inr (3, [.int 0, .int 0, .int 0, .int 0, .int 0, .int 0, .int 0, .int 0])), (q38, .inr (3, [.int 0, .int 0, .int 0, .int 0, .int 0, .int 0, .int 0, .int 0])), (q39, .inr (3, [.int 0, .int 0, .int 0, .int 0, .int 0, .int 0, .int 0, .int 0])), (q40, .inr (3, [.int 0, .int 0, .int 0, .int 0, .int 0, .int 0, .int 0, .int 0])), (q41, .inr (3, [.int 0, .int 0, .int 0, .int 0, .int 0, .int 0, .int 0, .int 0])), (q42, .inr (3, [.int 0, .int 0, .int 0, .int 0, .int 0, .int 0, .int 0, .int 0])), (q43, .inr (3, [.int 0, .int 0, .int 0, .int 0, .int 0, .int 0, .int 0, .int 0])), (q44, .inr (3, [.int 0, .int 0, .int 0, .int 0, .int 0, .int 0, .int 0, .int 0])), (q45, .inr (3, [.int 0, .int 0, .int 0, .int 0, .int 0, .int 0, .int 0, .int 0])), (q46, .inr (3, [.int 0, .int 0, .int 0, .int 0, .int 0, .int 0, .int 0, .int 0])), (q53, .inr (1, [.ref q61, .ref q62, .ref q54, .ref q55, .ref q58, .int 0, .int 0, .int 0])), (q54, .inl (cA 2, 10, .inr (.inr (.inr (.inr g73))))), (q55, .inr (2, [.ref q56, .ref q57, .int 0])), (q56, .inl (cA 0, 50, .inl (fun _ => 0))), (q57, .inl (cA 0, 50, .inl (fun _ => 0))), (q58, .inr (2, [.ref q59, .ref q60, .int 0])), (q59, .inl (cA 0, 50, .inl (fun _ => 0))), (q60, .inl (cA 0, 50, .inl (fun _ => 0))), (q61, .inl (cA 0, 5, .inl g74)), (q62, .inl (cA 0, 5, .inl g75)), (q63, .inr (3, [.int 0, .int 0, .int 0, .int 0, .int 0, .int 0, .int 0, .int 0])), (q64, .inr (3, [.int 0, .int 0, .int 0, .int 0, .int 0, .int 0, .int 0, .int 0])), (q65, .inr (3, [.int 0, .int 0, .int 0, .int 0, .int 0, .int 0, .int 0, .int 0])), (q66, .inr (3, [.int 0, .int 0, .int 0, .int 0, .int 0, .int 0, .int 0, .int 0])), (q67, .inr (3, [.int 0, .int 0, .int 0, .int 0, .int 0, .int 0, .int 0, .int 0])), (q68, .inr (3, [.int 0, .int 0, .int 0, .int 0, .int 0, .int 0, .int 0, .int 0])), (q69, .inr (3, [.int 0, .int 0, .int 0, .int 0, .int 0, .int 0, .int 0, .int 0])), (q70, .inr (3, [.int 0, .int 0, .int 0, .int 0, .int 0, .int 0, .int 0, .int 0])), (q71, .inr (3, [.int 0, .int 0, .int 0, .int 0, .int 0, .int 0, .int 0, .int 0])), (q72, .inr (3, [.int 0, .int 0, .int 0, .int 0, .int 0, .int 0, .int 0, .int 0])), (q79, .inr (0, [.ref q80, .ref q81, .int 0, .int 0, .int 1])), (q80, .inl (cA 1, 50, .inl (fun _ => 0))), (q81, .inl (cA 0, 20, .inl (fun _ => 0))), (q82, .inr (0, [.ref q83, .ref q84, .int 0, .int 0, .int 1])), (q83, .inl (cA 1, 50, .inl (fun _ => 0))), (q84, .inl (cA 0, 20, .inl (fun _ => 0))), (q85, .inr (4, [.ref q86, .ref q79, .int 0, .int 0])), (q86, .inr (2, [.ref q87, .ref q88, .int 0])), (q87, .inl (cA 0, 50, .inl (fun _ => 0))), (q88, .inl (cA 0, 50, .inl (fun _ => 0)))]) rfl ?_
  refine A_putF (C0 := RX7) (T := TX7) (ty := tyX7) (k0 := 5) (ws2 := [(h0, .inr (7, [.ref q1, .ref q27, .ref q53, .ref q79, .ref q82, .ref q85, .null, .null, .null, .int 0])), (q1, .inr (1, [.ref q9, .ref q10, .ref q2, .ref q3, .ref q6, .int 0, .int 0, .int 0])), (q2, .inl (cA 2, 10, .inr (.inr (.inr (.inr g21))))), (q3, .inr (2, [.ref q4, .ref q5, .int 0])), (q4, .inl (cA 0, 50, .inl (fun _ => 0))), (q5, .inl (cA 0, 50, .inl (fun _ => 0))), (q6, .inr (2, [.ref q7, .ref q8, .int 0])), (q7, .inl (cA 0, 50, .inl (fun _ => 0))), (q8, .inl (cA 0, 50, .inl (fun _ => 0))), (q9, .inl (cA 0, 5, .inl g22)), (q10, .inl (cA 0, 5, .inl g23)), (q11, .inr (3, [.int 0, .int 0, .int 0, .int 0, .int 0, .int 0, .int 0, .int 0])), (q12, .inr (3, [.int 0, .int 0, .int 0, .int 0, .int 0, .int 0, .int 0, .int 0])), (q13, .inr (3, [.int 0, .int 0, .int 0, .int 0, .int 0, .int 0, .int 0, .int 0])), (q14, .inr (3, [.int 0, .int 0, .int 0, .int 0, .int 0, .int 0, .int 0, .int 0])), (q15, .inr (3, [.int 0, .int 0, .int 0, .int 0, .int 0, .int 0, .int 0, .int 0])), (q16, .inr (3, [.int 0, .int 0, .int 0, .int 0, .int 0, .int 0, .int 0, .int 0])), (q17, .inr (3, [.int 0, .int 0, .int 0, .int 0, .int 0, .int 0, .int 0, .int 0])), (q18, .inr (3, [.int 0, .int 0, .int 0, .int 0, .int 0, .int 0, .int 0, .int 0])), (q19, .inr (3, [.int 0, .int 0, .int 0, .int 0, .int 0, .int 0, .int 0, .int 0])), (q20, .inr (3, [.int 0, .int 0, .int 0, .int 0, .int 0, .int 0, .int 0, .int 0])), (q27, .inr (1, [.ref q35, .ref q36, .ref q28, .ref q29, .ref q32, .int 0, .int 0, .int 0])), (q28, .inl (cA 2, 10, .inr (.inr (.inr (.inr g47))))), (q29, .inr (2, [.ref q30, .ref q31, .int 0])), (q30, .inl (cA 0, 50, .inl (fun _ => 0))), (q31, .inl (cA 0, 50, .inl (fun _ => 0))), (q32, .inr (2, [.ref q33, .ref q34, .int 0])), (q33, .inl (cA 0, 50, .inl (fun _ => 0))), (q34, .inl (cA 0, 50, .inl (fun _ => 0))), (q35, .inl (cA 0, 5, .inl g48)), (q36, .inl (cA 0, 5, .inl g49)), (q37, .inr (3, [.int 0, .int 0, .int 0, .int 0, .int 0, .int 0, .int 0, .int 0])), (q38, .inr (3, [.int 0, .int 0, .int 0, .int 0, .int 0, .int 0, .int 0, .int 0])), (q39, .inr (3, [.int 0, .int 0, .int 0, .int 0, .int 0, .int 0, .int 0, .int 0])), (q40, .inr (3, [.int 0, .int 0, .int 0, .int 0, .int 0, .int 0, .int 0, .int 0])), (q41, .inr (3, [.int 0, .int 0, .int 0, .int 0, .int 0, .int 0, .int 0, .int 0])), (q42, .inr (3, [.int 0, .int 0, .int 0, .int 0, .int 0, .int 0, .int 0, .int 0])), (q43, .inr (3, [.int 0, .int 0, .int 0, .int 0, .int 0, .int 0, .int 0, .int 0])), (q44, .inr (3, [.int 0, .int 0, .int 0, .int 0, .int 0, .int 0, .int 0, .int 0])), (q45, .inr (3, [.int 0, .int 0, .int 0, .int 0, .int 0, .int 0, .int 0, .int 0])), (q46, .inr (3, [.int 0, .int 0, .int 0, .int 0, .int 0, .int 0, .int 0, .int 0])), (q53, .inr (1, [.ref q61, .ref q62, .ref q54, .ref q55, .ref q58, .int 0, .int 0, .int 0])), (q54, .inl (cA 2, 10, .inr (.inr (.inr (.inr g73))))), (q55, .inr (2, [.ref q56, .ref q57, .int 0])), (q56, .inl (cA 0, 50, .inl (fun _ => 0))), (q57, .inl (cA 0, 50, .inl (fun _ => 0))), (q58, .inr (2, [.ref q59, .ref q60, .int 0])), (q59, .inl (cA 0, 50, .inl (fun _ => 0))), (q60, .inl (cA 0, 50, .inl (fun _ => 0))), (q61, .inl (cA 0, 5, .inl g74)), (q62, .inl (cA 0, 5, .inl g75)), (q63, .inr (3, [.int 0, .int 0, .int 0, .int 0, .int 0, .int 0, .int 0, .int 0])), (q64, .inr (3, [.int 0, .int 0, .int 0, .int 0, .int 0, .int 0, .int 0, .int 0])), (q65, .inr (3, [.int 0, .int 0, .int 0, .int 0, .int 0, .int 0, .int 0, .int 0])), (q66, .inr (3, [.int 0, .int 0, .int 0, .int 0, .int 0, .int 0, .int 0, .int 0])), (q67, .inr (3, [.int 0, .int 0, .int 0, .int 0, .int 0, .int 0, .int 0, .int 0])), (q68, .inr (3, [.int 0, .int 0, .int 0, .int 0, .int 0, .int 0, .int 0, .int 0])), (q69, .inr (3, [.int 0, .int 0, .int 0, .int 0, .int 0, .int 0, .int 0, .int 0])), (q70, .inr (3, [.int 0, .int 0, .int 0, .int 0, .int 0, .int 0, .int 0, .int 0])), (q71, .inr (3, [.int 0, .int 0, .int 0, .int 0, .int 0, .int 0, .int 0, .int 0])), (q72, .inr (3, [.int 0, .int 0, .int 0, .int 0, .int 0, .int 0, .int 0, .int 0])), (q79, .inr (0, [.ref q80, .ref q81, .int 0, .int 0, .int 1])), (q80, .inl (cA 1, 50, .inl (fun _ => 0))), (q81, .inl (cA 0, 20, .inl (fun _ => 0))), (q82, .inr (0, [.ref q83, .ref q84, .int 0, .int 0, .int 1])), (q83, .inl (cA 1, 50, .inl (fun _ => 0))), (q84, .inl (cA 0, 20, .inl (fun _ => 0))), (q85, .inr (4, [.ref q86, .ref q79, .int 0, .int 0])), (q86, .inr (2, [.ref q87, .ref q88, .int 0])), (q87, .inl (cA 0, 50, .inl (fun _ => 0))), (q88, .inl (cA 0, 50, .inl (fun _ => 0)))]) rfl rfl inT_7 tyX7_ok nmX7 rfl fl_X7_37 0 rfl (by decide) rfl rfl rfl rfl (Nat.le_of_ble_eq_true rfl) rfl dX7_init_71 ?_
  refine A_aload_n dX7_init_74 0 rfl ?_
  refine A_new (ci := 6) (C0 := RX6) (T := TX6) (ty := tyX6) (fs := [.null, .int 0, .int 0, .int 0, .int 0]) rfl inT_6 tyX6_ok cl_X7_41 iw_6 in_6 rfl df_6 (by decide) (by decide) dX7_init_75 (fun q89 => ?_)
  refine A_ws (ws2 := [(h0, .inr (7, [.ref q1, .ref q27, .ref q53, .ref q79, .ref q82, .ref q85, .null, .null, .null, .int 0])), (q1, .inr (1, [.ref q9, .ref q10, .ref q2, .ref q3, .ref q6, .int 0, .int 0, .int 0])), (q2, .inl (cA 2, 10, .inr (.inr (.inr (.inr g21))))), (q3, .inr (2, [.ref q4, .ref q5, .int 0])), (q4, .inl (cA 0, 50, .inl (fun _ => 0))), (q5, .inl (cA 0, 50, .inl (fun _ => 0))), (q6, .inr (2, [.ref q7, .ref q8, .int 0])), (q7, .inl (cA 0, 50, .inl (fun _ => 0))), (q8, .inl (cA 0, 50, .inl (fun _ => 0))), (q9, .inl (cA 0, 5, .inl g22)), (q10, .inl (cA 0, 5, .inl g23)), (q11, .inr (3, [.int 0, .int 0, .int 0, .int 0, .int 0, .int 0, .int 0, .int 0])), (q12, .inr (3, [.int 0, .int 0, .int 0, .int 0, .int 0, .int 0, .int 0, .int 0])), (q13, .inr (3, [.int 0, .int 0, .int 0, .int 0, .int 0, .int 0, .int 0, .int 0])), (q14, .inr (3, [.int 0, .int 0, .int 0, .int 0, .int 0, .int 0, .int 0, .int 0])), (q15, .inr (3, [.int 0, .int 0, .int 0, .int 0, .int 0, .int 0, .int 0, .int 0])), (q16, .inr (3, [.int 0, .int 0, .int 0, .int 0, .int 0, .int 0, .int 0, .int 0])), (q17, .inr (3, [.int 0, .int 0, .int 0, .int 0, .int 0, .int 0, .int 0, .int 0])), (q18, .inr (3, [.int 0, .int 0, .int 0, .int 0, .int 0, .int 0, .int 0, .int 0])), (q19, .inr (3, [.int 0, .int 0, .int 0, .int 0, .int 0, .int 0, .int 0, .int 0])), (q20, .inr (3, [.int 0, .int 0, .int 0, .int 0, .int 0, .int 0, .int 0, .int 0])), (q27, .inr (1, [.ref q35, .ref q36, .ref q28, .ref q29, .ref q32, .int 0, .int 0, .int 0])), (q28, .inl (cA 2, 10, .inr (.inr (.inr (.inr g47))))), (q29, .inr (2, [.ref q30, .ref q31, .int 0])), (q30, .inl (cA 0, 50, .inl (fun _ => 0))), (q31, .inl (cA 0, 50, .inl (fun _ => 0))), (q32, .inr (2, [.ref q33, .ref q34, .int 0])), (q33, .inl (cA 0, 50, .inl (fun _ => 0))), (q34, .inl (cA 0, 50, .inl (fun _ => 0))), (q35, .inl (cA 0, 5, .inl g48)), (q36, .inl (cA 0, 5, .inl g49)), (q37, .inr (3, [.int 0, .int 0, .int 0, .int 0, .int 0, .int 0, .int 0, .int 0])), (q38, .inr (3, [.int 0, .int 0, .int 0, .int 0, .int 0, .int 0, .int 0, .int 0])), (q39, .inr (3, [.int 0, .int 0, .int 0, .int 0, .int 0, .int 0, .int 0, .int 0])), (q40, .inr (3, [.int 0, .int 0, .int 0, .int 0, .int 0, .int 0, .int 0, .int 0])), (q41, .inr (3, [.int 0, .int 0, .int 0, .int 0, .int 0, .int 0, .int 0, .int 0])), (q42, .inr (3, [.int 0, .int 0, .int 0, .int 0, .int 0, .int 0, .int 0, .int 0])), (q43, .inr (3, [.int 0, .int 0, .int 0, .int 0, .int 0, .int 0, .int 0, .int 0])), (q44, .inr (3, [.int 0, .int 0, .int 0, .int 0, .int 0, .int 0, .int 0, .int 0])), (q45, .inr (3, [.int 0, .int 0, .int 0, .int 0, .int 0, .int 0, .int 0, .int 0])), (q46, .inr (3, [.int 0, .int 0, .int 0, .int 0, .int 0, .int 0, .int 0, .int 0])), (q53, .inr (1, [.ref q61, .ref q62, .ref q54, .ref q55, .ref q58, .int 0, .int 0, .int 0])), (q54, .inl (cA 2, 10, .inr (.inr (.inr (.inr g73))))), (q55, .inr (2, [.ref q56, .ref q57, .int 0])), (q56, .inl (cA 0, 50, .inl (fun _ => 0))), (q57, .inl (cA 0, 50, .inl (fun _ => 0))), (q58, .inr (2, [.ref q59, .ref q60, .int 0])), (q59, .inl (cA 0, 50, .inl (fun _ => 0))), (q60, .inl (cA 0, 50, .inl (fun _ => 0))), (q61, .inl (cA 0, 5, .inl g74)), (q62, .inl (cA 0, 5, .inl g75)), (q63, .inr (3, [.int 0, .int 0, .int 0, .int 0, .int 0, .int 0, .int 0, .int 0])), (q64, .inr (3, [.int 0, .int 0, .int 0, .int 0, .int 0, .int 0, .int 0, .int 0])), (q65, .inr (3, [.int 0, .int 0, .int 0, .int 0, .int 0, .int 0, .int 0, .int 0])), (q66, .inr (3, [.int 0, .int 0, .int 0, .int 0, .int 0, .int 0, .int 0, .int 0])), (q67, .inr (3, [.int 0, .int 0, .int 0, .int 0, .int 0, .int 0, .int 0, .int 0])), (q68, .inr (3, [.int 0, .int 0, .int 0, .int 0, .int 0, .int 0, .int 0, .int 0])), (q69, .inr (3, [.int 0, .int 0, .int 0, .int 0, .int 0, .int 0, .int 0, .int 0])), (q70, .inr (3, [.int 0, .int 0, .int 0, .int 0, .int 0, .int 0, .int 0, .int 0])), (q71, .inr (3, [.int 0, .int 0, .int 0, .int 0, .int 0, .int 0, .int 0, .int 0])), (q72, .inr (3, [.int 0, .int 0, .int 0, .int 0, .int 0, .int 0, .int 0, .int 0])), (q79, .inr (0, [.ref q80, .ref q81, .int 0, .int 0, .int 1])), (q80, .inl (cA 1, 50, .inl (fun _ => 0))), (q81, .inl (cA 0, 20, .inl (fun _ => 0))), (q82, .inr (0, [.ref q83, .ref q84, .int 0, .int 0, .int 1])), (q83, .inl (cA 1, 50, .inl (fun _ => 0))), (q84, .inl (cA 0, 20, .inl (fun _ => 0))), (q85, .inr (4, [.ref q86, .ref q79, .int 0, .int 0])), (q86, .inr (2, [.ref q87, .ref q88, .int 0])), (q87, .inl (cA 0, 50, .inl (fun _ => 0))), (q88, .inl (cA 0, 50, .inl (fun _ => 0))), (q89, .inr (6, [.null, .int 0, .int 0, .int 0, .int 0]))]) rfl ?_
  refine A_dup rfl dX7_init_78 ?_
  refine A_callI (wr := [(h0, .inr (7, [.ref q1, .ref q27, .ref q53, .ref q79, .ref q82, .ref q85, .null, .null, .null, .int 0])), (q1, .inr (1, [.ref q9, .ref q10, .ref q2, .ref q3, .ref q6, .int 0, .int 0, .int 0])), (q2, .inl (cA 2, 10, .inr (.inr (.inr (.inr g21))))), (q3, .inr (2, [.ref q4, .ref q5, .int 0])), (q4, .inl (cA 0, 50, .inl (fun _ => 0))), (q5, .inl (cA 0, 50, .inl (fun _ => 0))), (q6, .inr (2, [.ref q7, .ref q8, .int 0])), (q7, .inl (cA 0, 50, .inl (fun _ => 0))), (q8, .inl (cA 0, 50, .inl (fun _ => 0))), (q9, .inl (cA 0, 5, .inl g22)), (q10, .inl (cA 0, 5, .inl g23)), (q11, .inr (3, [.int 0, .int 0, .int 0, .int 0, .int 0, .int 0, .int 0, .int 0])), (q12, .inr (3, [.int 0, .int 0, .int 0, .int 0, .int 0, .int 0, .int 0, .int 0])), (q13, .inr (3, [.int 0, .int 0, .int 0, .int 0, .int 0, .int 0, .int 0, .int 0])), (q14, .inr (3, [.int 0, .int 0, .int 0, .int 0, .int 0, .int 0, .int 0, .int 0])), (q15, .inr (3, [.int 0, .int 0, .int 0, .int 0, .int 0, .int 0, .int 0, .int 0])), (q16, .inr (3, [.int 0, .int 0, .int 0, .int 0, .int 0, .int 0, .int 0, .int 0])), (q17, .inr (3, [.int 0, .int 0, .int 0, .int 0, .int 0, .int 0, .int 0, .int 0])), (q18, .inr (3, [.int 0, .int 0, .int 0, .int 0, .int 0, .int 0, .int 0, .int 0])), (q19, .inr (3, [.int 0, .int 0, .int 0, .int 0, .int 0, .int 0, .int 0, .int 0])), (q20, .inr (3, [.int 0, .int 0, .int 0, .int 0, .int 0, .int 0, .int 0, .int 0])), (q27, .inr (1, [.ref q35, .ref q36, .ref q28, .ref q29, .ref q32, .int 0, .int 0, .int 0])), (q28, .inl (cA 2, 10, .inr (.inr (.inr (.inr g47))))), (q29, .inr (2, [.ref q30, .ref q31, .int 0])), (q30, .inl (cA 0, 50, .inl (fun _ => 0))), (q31, .inl (cA 0, 50, .inl (fun _ => 0))), (q32, .inr (2, [.ref q33, .ref q34, .int 0])), (q33, .inl (cA 0, 50, .inl (fun _ => 0))), (q34, .inl (cA 0, 50, .inl (fun _ => 0))), (q35, .inl (cA 0, 5, .inl g48)), (q36, .inl (cA 0, 5, .inl g49)), (q37, .inr (3, [.int 0, .int 0, .int 0, .int 0, .int 0, .int 0, .int 0, .int 0])), (q38, .inr (3, [.int 0, .int 0, .int 0, .int 0, .int 0, .int 0, .int 0, .int 0])), (q39, .inr (3, [.int 0, .int 0, .int 0, .int 0, .int 0, .int 0, .int 0, .int 0])), (q40, .inr (3, [.int 0, .int 0, .int 0, .int 0, .int 0, .int 0, .int 0, .int 0])), (q41, .inr (3, [.int 0, .int 0, .int 0, .int 0, .int 0, .int 0, .int 0, .int 0])), (q42, .inr (3, [.int 0, .int 0, .int 0, .int 0, .int 0, .int 0, .int 0, .int 0])), (q43, .inr (3, [.int 0, .int 0, .int 0, .int 0, .int 0, .int 0, .int 0, .int 0])), (q44, .inr (3, [.int 0, .int 0, .int 0, .int 0, .int 0, .int 0, .int 0, .int 0])), (q45, .inr (3, [.int 0, .int 0, .int 0, .int 0, .int 0, .int 0, .int 0, .int 0])), (q46, .inr (3, [.int 0, .int 0, .int 0, .int 0, .int 0, .int 0, .int 0, .int 0])), (q53, .inr (1, [.ref q61, .ref q62, .ref q54, .ref q55, .ref q58, .int 0, .int 0, .int 0])), (q54, .inl (cA 2, 10, .inr (.inr (.inr (.inr g73))))), (q55, .inr (2, [.ref q56, .ref q57, .int 0])), (q56, .inl (cA 0, 50, .inl (fun _ => 0))), (q57, .inl (cA 0, 50, .inl (fun _ => 0))), (q58, .inr (2, [.ref q59, .ref q60, .int 0])), (q59, .inl (cA 0, 50, .inl (fun _ => 0))), (q60, .inl (cA 0, 50, .inl (fun _ => 0))), (q61, .inl (cA 0, 5, .inl g74)), (q62, .inl (cA 0, 5, .inl g75)), (q63, .inr (3, [.int 0, .int 0, .int 0, .int 0, .int 0, .int 0, .int 0, .int 0])), (q64, .inr (3, [.int 0, .int 0, .int 0, .int 0, .int 0, .int 0, .int 0, .int 0])), (q65, .inr (3, [.int 0, .int 0, .int 0, .int 0, .int 0, .int 0, .int 0, .int 0])), (q66, .inr (3, [.int 0, .int 0, .int 0, .int 0, .int 0, .int 0, .int 0, .int 0])), (q67, .inr (3, [.int 0, .int 0, .int 0, .int 0, .int 0, .int 0, .int 0, .int 0])), (q68, .inr (3, [.int 0, .int 0, .int 0, .int 0, .int 0, .int 0, .int 0, .int 0])), (q69, .inr (3, [.int 0, .int 0, .int 0, .int 0, .int 0, .int 0, .int 0, .int 0])), (q70, .inr (3, [.int 0, .int 0, .int 0, .int 0, .int 0, .int 0, .int 0, .int 0])), (q71, .inr (3, [.int 0, .int 0, .int 0, .int 0, .int 0, .int 0, .int 0, .int 0])), (q72, .inr (3, [.int 0, .int 0, .int 0, .int 0, .int 0, .int 0, .int 0, .int 0])), (q79, .inr (0, [.ref q80, .ref q81, .int 0, .int 0, .int 1])), (q80, .inl (cA 1, 50, .inl (fun _ => 0))), (q81, .inl (cA 0, 20, .inl (fun _ => 0))), (q82, .inr (0, [.ref q83, .ref q84, .int 0, .int 0, .int 1])), (q83, .inl (cA 1, 50, .inl (fun _ => 0))), (q84, .inl (cA 0, 20, .inl (fun _ => 0))), (q85, .inr (4, [.ref q86, .ref q79, .int 0, .int 0])), (q86, .inr (2, [.ref q87, .ref q88, .int 0])), (q87, .inl (cA 0, 50, .inl (fun _ => 0))), (q88, .inl (cA 0, 50, .inl (fun _ => 0)))]) (X6_init_made q89) ok_X6_init (Or.inr (by simp [nestA])) (by decide) rfl rfl (Nat.le_of_ble_eq_true rfl) [71] [0, 1, 2, 3, 4, 5, 6, 7, 8, 9, 10, 11, 12, 13, 14, 15, 16, 17, 18, 19, 20, 21, 22, 23, 24, 25, 26, 27, 28, 29, 30, 31, 32, 33, 34, 35, 36, 37, 38, 39, 40, 41, 42, 43, 44, 45, 46, 47, 48, 49, 50, 51, 52, 53, 54, 55, 56, 57, 58, 59, 60, 61, 62, 63, 64, 65, 66, 67, 68, 69, 70] rfl rfl (by decide) (by decide) (by decide) (by decide) (by decide) dX7_init_79 ?_
  rintro w ⟨q90, rfl⟩
  refine A_ws (ws2 := [(h0, .inr (7, [.ref q1, .ref q27, .ref q53, .ref q79, .ref q82, .ref q85, .null, .null, .null, .int 0])), (q1, .inr (1, [.ref q9, .ref q10, .ref q2, .ref q3, .ref q6, .int 0, .int 0, .int 0])), (q2, .inl (cA 2, 10, .inr (.inr (.inr (.inr g21))))), (q3, .inr (2, [.ref q4, .ref q5, .int 0])), (q4, .inl (cA 0, 50, .inl (fun _ => 0))), (q5, .inl (cA 0, 50, .inl (fun _ => 0))), (q6, .inr (2, [.ref q7, .ref q8, .int 0])), (q7, .inl (cA 0, 50, .inl (fun _ => 0))), (q8, .inl (cA 0, 50, .inl (fun _ => 0))), (q9, .inl (cA 0, 5, .inl g22)), (q10, .inl (cA 0, 5, .inl g23)), (q11, .inr (3, [.int 0, .int 0, .int 0, .int 0, .int 0, .int 0, .int 0, .int 0])), (q12, .inr (3, [.int 0, .int 0, .int 0, .int 0, .int 0, .int 0, .int 0, .int 0])), (q13, .inr (3, [.int 0, .int 0, .int 0, .int 0, .int 0, .int 0, .int 0, .int 0])), (q14, .inr (3, [.int 0, .int 0, .int 0, .int 0, .int 0, .int 0, .int 0, .int 0])), (q15, .inr (3, [.int 0, .int 0, .int 0, .int 0, .int 0, .int 0, .int 0, .int 0])), (q16, .inr (3, [.int 0, .int 0, .int 0, .int 0, .int 0, .int 0, .int 0, .int 0])), (q17, .inr (3, [.int 0, .int 0, .int 0, .int 0, .int 0, .int 0, .int 0, .int 0])), (q18, .inr (3, [.int 0, .int 0, .int 0, .int 0, .int 0, .int 0, .int 0, .int 0])), (q19, .inr (3, [.int 0, .int 0, .int 0, .int 0, .int 0, .int 0, .int 0, .int 0])), (q20, .inr (3, [.int 0, .int 0, .int 0, .int 0, .int 0, .int 0, .int 0, .int 0])), (q27, .inr (1, [.ref q35, .ref q36, .ref q28, .ref q29, .ref q32, .int 0, .int 0, .int 0])), (q28, .inl (cA 2, 10, .inr (.inr (.inr (.inr g47))))), (q29, .inr (2, [.ref q30, .ref q31, .int 0])), (q30, .inl (cA 0, 50, .inl (fun _ => 0))), (q31, .inl (cA 0, 50, .inl (fun _ => 0))), (q32, .inr (2, [.ref q33, .ref q34, .int 0])), (q33, .inl (cA 0, 50, .inl (fun _ => 0))), (q34, .inl (cA 0, 50, .inl (fun _ => 0))), (q35, .inl (cA 0, 5, .inl g48)), (q36, .inl (cA 0, 5, .inl g49)), (q37, .inr (3, [.int 0, .int 0, .int 0, .int 0, .int 0, .int 0, .int 0, .int 0])), (q38, .inr (3, [.int 0, .int 0, .int 0, .int 0, .int 0, .int 0, .int 0, .int 0])), (q39, .inr (3, [.int 0, .int 0, .int 0, .int 0, .int 0, .int 0, .int 0, .int 0])), (q40, .inr (3, [.int 0, .int 0, .int 0, .int 0, .int 0, .int 0, .int 0, .int 0])), (q41, .inr (3, [.int 0, .int 0, .int 0, .int 0, .int 0, .int 0, .int 0, .int 0])), (q42, .inr (3, [.int 0, .int 0, .int 0, .int 0, .int 0, .int 0, .int 0, .int 0])), (q43, .inr (3, [.int 0, .int 0, .int 0, .int 0, .int 0, .int 0, .int 0, .int 0])), (q44, .inr (3, [.int 0, .int 0, .int 0, .int 0, .int 0, .int 0, .int 0, .int 0])), (q45, .inr (3, [.int 0, .int 0, .int 0, .int 0, .int 0, .int 0, .int 0, .int 0])), (q46, .inr (3, [.int 0, .int 0, .int 0, .int 0, .int 0, .int 0, .int 0, .int 0])), (q53, .inr (1, [.ref q61, .ref q62, .ref q54, .ref q55, .ref q58, .int 0, .int 0, .int 0])), (q54, .inl (cA 2, 10, .inr (.inr (.inr (.inr g73))))), (q55, .inr (2, [.ref q56, .ref q57, .int 0])), (q56, .inl (cA 0, 50, .inl (fun _ => 0))), (q57, .inl (cA 0, 50, .inl (fun _ => 0))), (q58, .inr (2, [.ref q59, .ref q60, .int 0])), (q59, .inl (cA 0, 50, .inl (fun _ => 0))), (q60, .inl (cA 0, 50, .inl (fun _ => 0))), (q61, .inl (cA 0, 5, .inl g74)), (q62, .inl (cA 0, 5, .inl g75)), (q63, .inr (3, [.int 0, .int 0, .int 0, .int 0, .int 0, .int 0, .int 0, .int 0])), (q64, .inr (3, [.int 0, .int 0, .int 0, .int 0, .int 0, .int 0, .int 0, .int 0])), (q65, .inr (3, [.int 0, .int 0, .int 0, .int 0, .int 0, .int 0, .int 0, .int 0])), (q66, .inr (3, [.int 0, .int 0, .int 0, .int 0, .int 0, .int 0, .int 0, .int 0])), (q67, .inr (3, [.int 0, .int 0, .int 0, .int 0, .int 0, .int 0, .int 0, .int 0])), (q68, .inr (3, [.int 0, .int 0, .int 0, .int 0, .int 0, .int 0, .int 0, .int 0])), (q69, .inr (3, [.int 0, .int 0, .int 0, .int 0, .int 0, .int 0, .int 0, .int 0])), (q70, .inr (3, [.int 0, .int 0, .int 0, .int 0, .int 0, .int 0, .int 0, .int 0])), (q71, .inr (3, [.int 0, .int 0, .int 0, .int 0, .int 0, .int 0, .int 0, .int 0])), (q72, .inr (3, [.int 0, .int 0, .int 0, .int 0, .int 0, .int 0, .int 0, .int 0])), (q79, .inr (0, [.ref q80, .ref q81, .int 0, .int 0, .int 1])), (q80, .inl (cA 1, 50, .inl (fun _ => 0))), (q81, .inl (cA 0, 20, .inl (fun _ => 0))), (q82, .inr (0, [.ref q83, .ref q84, .int 0, .int 0, .int 1])), (q83, .inl (cA 1, 50, .inl (fun _ => 0))), (q84, .inl (cA 0, 20, .inl (fun _ => 0))), (q85, .inr (4, [.ref q86, .ref q79, .int 0, .int 0])), (q86, .inr (2, [.ref q87, .ref q88, .int 0])), (q87, .inl (cA 0, 50, .inl (fun _ => 0))), (q88, .inl (cA 0, 50, .inl (fun _ => 0))), (q89, .inr (6, [.ref q90, .int 0, .int 0, .int 0, .int 0])), (q90, .inl (cA 0, 40, .inl (fun _ => 0)))]) rfl ?_
  refine A_putF (C0 := RX7) (T := TX7) (ty := tyX7) (k0 := 6) (ws2 := [(h0, .inr (7, [.ref q1, .ref q27, .ref q53, .ref q79, .ref q82, .ref q85, .ref q89, .null, .null, .int 0])), (q1, .inr (1, [.ref q9, .ref q10, .ref q2, .ref q3, .ref q6, .int 0, .int 0, .int 0])), (q2, .inl (cA 2, 10, .inr (.inr (.inr (.inr g21))))), (q3, .inr (2, [.ref q4, .ref q5, .int 0])), (q4, .inl (cA 0, 50, .inl (fun _ => 0))), (q5, .inl (cA 0, 50, .inl (fun _ => 0))), (q6, .inr (2, [.ref q7, .ref q8, .int 0])), (q7, .inl (cA 0, 50, .inl (fun _ => 0))), (q8, .inl (cA 0, 50, .inl (fun _ => 0))), (q9, .inl (cA 0, 5, .inl g22)), (q10, .inl (cA 0, 5, .inl g23)), (q11, .inr (3, [.int 0, .int 0, .int 0, .int 0, .int 0, .int 0, .int 0, .int 0])), (q12, .inr (3, [.int 0, .int 0, .int 0, .int 0, .int 0, .int 0, .int 0, .int 0])), (q13, .inr (3, [.int 0, .int 0, .int 0, .int 0, .int 0, .int 0, .int 0, .int 0])), (q14, .inr (3, [.int 0, .int 0, .int 0, .int 0, .int 0, .int 0, .int 0, .int 0])), (q15, .inr (3, [.int 0, .int 0, .int 0, .int 0, .int 0, .int 0, .int 0, .int 0])), (q16, .inr (3, [.int 0, .int 0, .int 0, .int 0, .int 0, .int 0, .int 0, .int 0])), (q17, .inr (3, [.int 0, .int 0, .int 0, .int 0, .int 0, .int 0, .int 0, .int 0])), (q18, .inr (3, [.int 0, .int 0, .int 0, .int 0, .int 0, .int 0, .int 0, .int 0])), (q19, .inr (3, [.int 0, .int 0, .int 0, .int 0, .int 0, .int 0, .int 0, .int 0])), (q20, .inr (3, [.int 0, .int 0, .int 0, .int 0, .int 0, .int 0, .int 0, .int 0])), (q27, .inr (1, [.ref q35, .ref q36, .ref q28, .ref q29, .ref q32, .int 0, .int 0, .int 0])), (q28, .inl (cA 2, 10, .inr (.inr (.inr (.inr g47))))), (q29, .inr (2, [.ref q30, .ref q31, .int 0])), (q30, .inl (cA 0, 50, .inl (fun _ => 0))), (q31, .inl (cA 0, 50, .inl (fun _ => 0))), (q32, .inr (2, [.ref q33, .ref q34, .int 0])), (q33, .inl (cA 0, 50, .inl (fun _ => 0))), (q34, .inl (cA 0, 50, .inl (fun _ => 0))), (q35, .inl (cA 0, 5, .inl g48)), (q36, .inl (cA 0, 5, .inl g49)), (q37, .inr (3, [.int 0, .int 0, .int 0, .int 0, .int 0, .int 0, .int 0, .int 0])), (q38, .inr (3, [.int 0, .int 0, .int 0, .int 0, .int 0, .int 0, .int 0, .int 0])), (q39, .inr (3, [.int 0, .int 0, .int 0, .int 0, .int 0, .int 0, .int 0, .int 0])), (q40, .inr (3, [.int 0, .int 0, .int 0, .int 0, .int 0, .int 0, .int 0, .int 0])), (q41, .inr (3, [.int 0, .int 0, .int 0, .int 0, .int 0, .int 0, .int 0, .int 0])), (q42, .inr (3, [.int 0, .int 0, .int 0, .int 0, .int 0, .int 0, .int 0, .int 0])), (q43, .inr (3, [.int 0, .int 0, .int 0, .int 0, .int 0, .int 0, .int 0, .int 0])), (q44, .inr (3, [.int 0, .int 0, .int 0, .int 0, .int 0, .int 0, .int 0, .int 0])), (q45, .inr (3, [.int 0, .int 0, .int 0, .int 0, .int 0, .int 0, .int 0, .int 0])), (q46, .inr (3, [.int 0, .int 0, .int 0, .int 0, .int 0, .int 0, .int 0, .int 0])), (q53, .inr (1, [.ref q61, .ref q62, .ref q54, .ref q55, .ref q58, .int 0, .int 0, .int 0])), (q54, .inl (cA 2, 10, .inr (.inr (.inr (.inr g73))))), (q55, .inr (2, [.ref q56, .ref q57, .int 0])), (q56, .inl (cA 0, 50, .inl (fun _ => 0))), (q57, .inl (cA 0, 50, .inl (fun _ => 0))), (q58, .inr (2, [.ref q59, .ref q60, .int 0])), (q59, .inl (cA 0, 50, .inl (fun _ => 0))), (q60, .inl (cA 0, 50, .inl (fun _ => 0))), (q61, .inl (cA 0, 5, .inl g74)), (q62, .inl (cA 0, 5, .inl g75)), (q63, .inr (3, [.int 0, .int 0, .int 0, .int 0, .int 0, .int 0, .int 0, .int 0])), (q64, .inr (3, [.int 0, .int 0, .int 0, .int 0, .int 0, .int 0, .int 0, .int 0])), (q65, .inr (3, [.int 0, .int 0, .int 0, .int 0, .int 0, .int 0, .int 0, .int 0])), (q66, .inr (3, [.int 0, .int 0, .int 0, .int 0, .int 0, .int 0, .int 0, .int 0])), (q67, .inr (3, [.int 0, .int 0, .int 0, .int 0, .int 0, .int 0, .int 0, .int 0])), (q68, .inr (3, [.int 0, .int 0, .int 0, .int 0, .int 0, .int 0, .int 0, .int 0])), (q69, .inr (3, [.int 0, .int 0, .int 0, .int 0, .int 0, .int 0, .int 0, .int 0])), (q70, .inr (3, [.int 0, .int 0, .int 0, .int 0, .int 0, .int 0, .int 0, .int 0])), (q71, .inr (3, [.int 0, .int 0, .int 0, .int 0, .int 0, .int 0, .int 0, .int 0])), (q72, .inr (3, [.int 0, .int 0, .int 0, .int 0, .int 0, .int 0, .int 0, .int 0])), (q79, .inr (0, [.ref q80, .ref q81, .int 0, .int 0, .int 1])), (q80, .inl (cA 1, 50, .inl (fun _ => 0))), (q81, .inl (cA 0, 20, .inl (fun _ => 0))), (q82, .inr (0, [.ref q83, .ref q84, .int 0, .int 0, .int 1])), (q83, .inl (cA 1, 50, .inl (fun _ => 0))), (q84, .inl (cA 0, 20, .inl (fun _ => 0))), (q85, .inr (4, [.ref q86, .ref q79, .int 0, .int 0])), (q86, .inr (2, [.ref q87, .ref q88, .int 0])), (q87, .inl (cA 0, 50, .inl (fun _ => 0))), (q88, .inl (cA 0, 50, .inl (fun _ => 0))), (q89, .inr (6, [.ref q90, .int 0, .int 0, .int 0, .int 0])), (q90, .inl (cA 0, 40, .inl (fun _ => 0)))]) rfl rfl inT_7 tyX7_ok nmX7 rfl fl_X7_44 0 rfl (by decide) rfl rfl rfl rfl (Nat.le_of_ble_eq_true rfl) rfl dX7_init_82 ?_
  refine A_aload_n dX7_init_85 0 rfl ?_
  refine A_iconst (v := 4) dX7_init_86 (by decide) ?_
  refine A_newq (C0 := RX5) (N' := 4) (j := 3) rfl (Or.inr ⟨rfl, rfl⟩) cl_X7_48 (by decide) (by decide) (by decide) (by decide) (by decide) dX7_init_87 (fun q91 => ?_)
  refine A_ws (ws2 := [(h0, .inr (7, [.ref q1, .ref q27, .ref q53, .ref q79, .ref q82, .ref q85, .ref q89, .null, .null, .int 0])), (q1, .inr (1, [.ref q9, .ref q10, .ref q2, .ref q3, .ref q6, .int 0, .int 0, .int 0])), (q2, .inl (cA 2, 10, .inr (.inr (.inr (.inr g21))))), (q3, .inr (2, [.ref q4, .ref q5, .int 0])), (q4, .inl (cA 0, 50, .inl (fun _ => 0))), (q5, .inl (cA 0, 50, .inl (fun _ => 0))), (q6, .inr (2, [.ref q7, .ref q8, .int 0])), (q7, .inl (cA 0, 50, .inl (fun _ => 0))), (q8, .inl (cA 0, 50, .inl (fun _ => 0))), (q9, .inl (cA 0, 5, .inl g22)), (q10, .inl (cA 0, 5, .inl g23)), (q11, .inr (3, [.int 0, .int 0, .int 0, .int 0, .int 0, .int 0, .int 0, .int 0])), (q12, .inr (3, [.int 0, .int 0, .int 0, .int 0, .int 0, .int 0, .int 0, .int 0])), (q13, .inr (3, [.int 0, .int 0, .int 0, .int 0, .int 0, .int 0, .int 0, .int 0])), (q14, .inr (3, [.int 0, .int 0, .int 0, .int 0, .int 0, .int 0, .int 0, .int 0])), (q15, .inr (3, [.int 0, .int 0, .int 0, .int 0, .int 0, .int 0, .int 0, .int 0])), (q16, .inr (3, [.int 0, .int 0, .int 0, .int 0, .int 0, .int 0, .int 0, .int 0])), (q17, .inr (3, [.int 0, .int 0, .int 0, .int 0, .int 0, .int 0, .int 0, .int 0])), (q18, .inr (3, [.int 0, .int 0, .int 0, .int 0, .int 0, .int 0, .int 0, .int 0])), (q19, .inr (3, [.int 0, .int 0, .int 0, .int 0, .int 0, .int 0, .int 0, .int 0])), (q20, .inr (3, [.int 0, .int 0, .int 0, .int 0, .int 0, .int 0, .int 0, .int 0])), (q27, .inr (1, [.ref q35, .ref q36, .ref q28, .ref q29, .ref q32, .int 0, .int 0, .int 0])), (q28, .inl (cA 2, 10, .inr (.inr (.inr (.inr g47))))), (q29, .inr (2, [.ref q30, .ref q31, .int 0])), (q30, .inl (cA 0, 50, .inl (fun _ => 0))), (q31, .inl (cA 0, 50, .inl (fun _ => 0))), (q32, .inr (2, [.ref q33, .ref q34, .int 0])), (q33, .inl (cA 0, 50, .inl (fun _ => 0))), (q34, .inl (cA 0, 50, .inl (fun _ => 0))), (q35, .inl (cA 0, 5, .inl g48)), (q36, .inl (cA 0, 5, .inl g49)), (q37, .inr (3, [.int 0, .int 0, .int 0, .int 0, .int 0, .int 0, .int 0, .int 0])), (q38, .inr (3, [.int 0, .int 0, .int 0, .int 0, .int 0, .int 0, .int 0, .int 0])), (q39, .inr (3, [.int 0, .int 0, .int 0, .int 0, .int 0, .int 0, .int 0, .int 0])), (q40, .inr (3, [.int 0, .int 0, .int 0, .int 0, .int 0, .int 0, .int 0, .int 0])), (q41, .inr (3, [.int 0, .int 0, .int 0, .int 0, .int 0, .int 0, .int 0, .int 0])), (q42, .inr (3, [.int 0, .int 0, .int 0, .int 0, .int 0, .int 0, .int 0, .int 0])), (q43, .inr (3, [.int 0, .int 0, .int 0, .int 0, .int 0, .int 0, .int 0, .int 0])), (q44, .inr (3, [.int 0, .int 0, .int 0, .int 0, .int 0, .int 0, .int 0, .int 0])), (q45, .inr (3, [.int 0, .int 0, .int 0, .int 0, .int 0, .int 0, .int 0, .int 0])), (q46, .inr (3, [.int 0, .int 0, .int 0, .int 0, .int 0, .int 0, .int 0, .int 0])), (q53, .inr (1, [.ref q61, .ref q62, .ref q54, .ref q55, .ref q58, .int 0, .int 0, .int 0])), (q54, .inl (cA 2, 10, .inr (.inr (.inr (.inr g73))))), (q55, .inr (2, [.ref q56, .ref q57, .int 0])), (q56, .inl (cA 0, 50, .inl (fun _ => 0))), (q57, .inl (cA 0, 50, .inl (fun _ => 0))), (q58, .inr (2, [.ref q59, .ref q60, .int 0])), (q59, .inl (cA 0, 50, .inl (fun _ => 0))), (q60, .inl (cA 0, 50, .inl (fun _ => 0))), (q61, .inl (cA 0, 5, .inl g74)), (q62, .inl (cA 0, 5, .inl g75)), (q63, .inr (3, [.int 0, .int 0, .int 0, .int 0, .int 0, .int 0, .int 0, .int 0])), (q64, .inr (3, [.int 0, .int 0, .int 0, .int 0, .int 0, .int 0, .int 0, .int 0])), (q65, .inr (3, [.int 0, .int 0, .int 0, .int 0, .int 0, .int 0, .int 0, .int 0])), (q66, .inr (3, [.int 0, .int 0, .int 0, .int 0, .int 0, .int 0, .int 0, .int 0])), (q67, .inr (3, [.int 0, .int 0, .int 0, .int 0, .int 0, .int 0, .int 0, .int 0])), (q68, .inr (3, [.int 0, .int 0, .int 0, .int 0, .int 0, .int 0, .int 0, .int 0])), (q69, .inr (3, [.int 0, .int 0, .int 0, .int 0, .int 0, .int 0, .int 0, .int 0])), (q70, .inr (3, [.int 0, .int 0, .int 0, .int 0, .int 0, .int 0, .int 0, .int 0])), (q71, .inr (3, [.int 0, .int 0, .int 0, .int 0, .int 0, .int 0, .int 0, .int 0])), (q72, .inr (3, [.int 0, .int 0, .int 0, .int 0, .int 0, .int 0, .int 0, .int 0])), (q79, .inr (0, [.ref q80, .ref q81, .int 0, .int 0, .int 1])), (q80, .inl (cA 1, 50, .inl (fun _ => 0))), (q81, .inl (cA 0, 20, .inl (fun _ => 0))), (q82, .inr (0, [.ref q83, .ref q84, .int 0, .int 0, .int 1])), (q83, .inl (cA 1, 50, .inl (fun _ => 0))), (q84, .inl (cA 0, 20, .inl (fun _ => 0))), (q85, .inr (4, [.ref q86, .ref q79, .int 0, .int 0])), (q86, .inr (2, [.ref q87, .ref q88, .int 0])), (q87, .inl (cA 0, 50, .inl (fun _ => 0))), (q88, .inl (cA 0, 50, .inl (fun _ => 0))), (q89, .inr (6, [.ref q90, .int 0, .int 0, .int 0, .int 0])), (q90, .inl (cA 0, 40, .inl (fun _ => 0))), (q91, .inl (cA 3, 4, .inr (.inr (.inr (.inr (fun _ => none))))))]) rfl ?_
  refine A_putF (C0 := RX7) (T := TX7) (ty := tyX7) (k0 := 7) (ws2 := [(h0, .inr (7, [.ref q1, .ref q27, .ref q53, .ref q79, .ref q82, .ref q85, .ref q89, .ref q91, .null, .int 0])), (q1, .inr (1, [.ref q9, .ref q10, .ref q2, .ref q3, .ref q6, .int 0, .int 0, .int 0])), (q2, .inl (cA 2, 10, .inr (.inr (.inr (.inr g21))))), (q3, .inr (2, [.ref q4, .ref q5, .int 0])), (q4, .inl (cA 0, 50, .inl (fun _ => 0))), (q5, .inl (cA 0, 50, .inl (fun _ => 0))), (q6, .inr (2, [.ref q7, .ref q8, .int 0])), (q7, .inl (cA 0, 50, .inl (fun _ => 0))), (q8, .inl (cA 0, 50, .inl (fun _ => 0))), (q9, .inl (cA 0, 5, .inl g22)), (q10, .inl (cA 0, 5, .inl g23)), (q11, .inr (3, [.int 0, .int 0, .int 0, .int 0, .int 0, .int 0, .int 0, .int 0])), (q12, .inr (3, [.int 0, .int 0, .int 0, .int 0, .int 0, .int 0, .int 0, .int 0])), (q13, .inr (3, [.int 0, .int 0, .int 0, .int 0, .int 0, .int 0, .int 0, .int 0])), (q14, .inr (3, [.int 0, .int 0, .int 0, .int 0, .int 0, .int 0, .int 0, .int 0])), (q15, .inr (3, [.int 0, .int 0, .int 0, .int 0, .int 0, .int 0, .int 0, .int 0])), (q16, .inr (3, [.int 0, .int 0, .int 0, .int 0, .int 0, .int 0, .int 0, .int 0])), (q17, .inr (3, [.int 0, .int 0, .int 0, .int 0, .int 0, .int 0, .int 0, .int 0])), (q18, .inr (3, [.int 0, .int 0, .int 0, .int 0, .int 0, .int 0, .int 0, .int 0])), (q19, .inr (3, [.int 0, .int 0, .int 0, .int 0, .int 0, .int 0, .int 0, .int 0])), (q20, .inr (3, [.int 0, .int 0, .int 0, .int 0, .int 0, .int 0, .int 0, .int 0])), (q27, .inr (1, [.ref q35, .ref q36, .ref q28, .ref q29, .ref q32, .int 0, .int 0, .int 0])), (q28, .inl (cA 2, 10, .inr (.inr (.inr (.inr g47))))), (q29, .inr (2, [.ref q30, .ref q31, .int 0])), (q30, .inl (cA 0, 50, .inl (fun _ => 0))), (q31, .inl (cA 0, 50, .inl (fun _ => 0))), (q32, .inr (2, [.ref q33, .ref q34, .int 0])), (q33, .inl (cA 0, 50, .inl (fun _ => 0))), (q34, .inl (cA 0, 50, .inl (fun _ => 0))), (q35, .inl (cA 0, 5, .inl g48)), (q36, .inl (cA 0, 5, .inl g49)), (q37, .inr (3, [.int 0, .int 0, .int 0, .int 0, .int 0, .int 0, .int 0, .int 0])), (q38, .inr (3, [.int 0, .int 0, .int 0, .int 0, .int 0, .int 0, .int 0, .int 0])), (q39, .inr (3, [.int 0, .int 0, .int 0, .int 0, .int 0, .int 0, .int 0, .int 0])), (q40, .inr (3, [.int 0, .int 0, .int 0, .int 0, .int 0, .int 0, .int 0, .int 0])), (q41, .inr (3, [.int 0, .int 0, .int 0, .int 0, .int 0, .int 0, .int 0, .int 0])), (q42, .inr (3, [.int 0, .int 0, .int 0, .int 0, .int 0, .int 0, .int 0, .int 0])), (q43, .inr (3, [.int 0, .int 0, .int 0, .int 0, .int 0, .int 0, .int 0, .int 0])), (q44, .inr (3, [.int 0, .int 0, .int 0, .int 0, .int 0, .int 0, .int 0, .int 0])), (q45, .inr (3, [.int 0, .int 0, .int 0, .int 0, .int 0, .int 0, .int 0, .int 0])), (q46, .inr (3, [.int 0, .int 0, .int 0, .int 0, .int 0, .int 0, .int 0, .int 0])), (q53, .inr (1, [.ref q61, .ref q62, .ref q54, .ref q55, .ref q58, .int 0, .int 0, .int 0])), (q54, .inl (cA 2, 10, .inr (.inr (.inr (.inr g73))))), (q55, .inr (2, [.ref q56, .ref q57, .int 0])), (q56, .inl (cA 0, 50, .inl (fun _ => 0))), (q57, .inl (cA 0, 50, .inl (fun _ => 0))), (q58, .inr (2, [.ref q59, .ref q60, .int 0])), (q59, .inl (cA 0, 50, .inl (fun _ => 0))), (q60, .inl (cA 0, 50, .inl (fun _ => 0))), (q61, .inl (cA 0, 5, .inl g74)), (q62, .inl (cA 0, 5, .inl g75)), (q63, .inr (3, [.int 0, .int 0, .int 0, .int 0, .int 0, .int 0, .int 0, .int 0])), (q64, .inr (3, [.int 0, .int 0, .int 0, .int 0, .int 0, .int 0, .int 0, .int 0])), (q65, .inr (3, [.int 0, .int 0, .int 0, .int 0, .int 0, .int 0, .int 0, .int 0])), (q66, .inr (3, [.int 0, .int 0, .int 0, .int 0, .int 0, .int 0, .int 0, .int 0])), (q67, .inr (3, [.int 0, .int 0, .int 0, .int 0, .int 0, .int 0, .int 0, .int 0])), (q68, .inr (3, [.int 0, .int 0, .int 0, .int 0, .int 0, .int 0, .int 0, .int 0])), (q69, .inr (3, [.int 0, .int 0, .int 0, .int 0, .int 0, .int 0, .int 0, .int 0])), (q70, .inr (3, [.int 0, .int 0, .int 0, .int 0, .int 0, .int 0, .int 0, .int 0])), (q71, .inr (3, [.int 0, .int 0, .int 0, .int 0, .int 0, .int 0, .int 0, .int 0])), (q72, .inr (3, [.int 0, .int 0, .int 0, .int 0, .int 0, .int 0, .int 0, .int 0])), (q79, .inr (0, [.ref q80, .ref q81, .int 0, .int 0, .int 1])), (q80, .inl (cA 1, 50, .inl (fun _ => 0))), (q81, .inl (cA 0, 20, .inl (fun _ => 0))), (q82, .inr (0, [.ref q83, .ref q84, .int 0, .int 0, .int 1])), (q83, .inl (cA 1, 50, .inl (fun _ => 0))), (q84, .inl (cA 0, 20, .inl (fun _ => 0))), (q85, .inr (4, [.ref q86, .ref q79, .int 0, .int 0])), (q86, .inr (2, [.ref q87, .ref q88, .int 0])), (q87, .inl (cA 0, 50, .inl (fun _ => 0))), (q88, .inl (cA 0, 50, .inl (fun _ => 0))), (q89, .inr (6, [.ref q90, .int 0, .int 0, .int 0, .int 0])), (q90, .inl (cA 0, 40, .inl (fun _ => 0))), (q91, .inl (cA 3, 4, .inr (.inr (.inr (.inr (fun _ => none))))))]) rfl rfl inT_7 tyX7_ok nmX7 rfl fl_X7_50 0 rfl (by decide) rfl rfl rfl rfl (Nat.le_of_ble_eq_true rfl) rfl dX7_init_90 ?_
  refine A_aload_n dX7_init_93 0 rfl ?_
  refine A_bipush (v := 6) dX7_init_94 (by decide) ?_
  refine A_newi (N' := 6) ar_int (by decide) (by decide) (by decide) (by decide) (by decide) dX7_init_96 (fun q92 => ?_)
  refine A_ws (ws2 := [(h0, .inr (7, [.ref q1, .ref q27, .ref q53, .ref q79, .ref q82, .ref q85, .ref q89, .ref q91, .null, .int 0])), (q1, .inr (1, [.ref q9, .ref q10, .ref q2, .ref q3, .ref q6, .int 0, .int 0, .int 0])), (q2, .inl (cA 2, 10, .inr (.inr (.inr (.inr g21))))), (q3, .inr (2, [.ref q4, .ref q5, .int 0])), (q4, .inl (cA 0, 50, .inl (fun _ => 0))), (q5, .inl (cA 0, 50, .inl (fun _ => 0))), (q6, .inr (2, [.ref q7, .ref q8, .int 0])), (q7, .inl (cA 0, 50, .inl (fun _ => 0))), (q8, .inl (cA 0, 50, .inl (fun _ => 0))), (q9, .inl (cA 0, 5, .inl g22)), (q10, .inl (cA 0, 5, .inl g23)), (q11, .inr (3, [.int 0, .int 0, .int 0, .int 0, .int 0, .int 0, .int 0, .int 0])), (q12, .inr (3, [.int 0, .int 0, .int 0, .int 0, .int 0, .int 0, .int 0, .int 0])), (q13, .inr (3, [.int 0, .int 0, .int 0, .int 0, .int 0, .int 0, .int 0, .int 0])), (q14, .inr (3, [.int 0, .int 0, .int 0, .int 0, .int 0, .int 0, .int 0, .int 0])), (q15, .inr (3, [.int 0, .int 0, .int 0, .int 0, .int 0, .int 0, .int 0, .int 0])), (q16, .inr (3, [.int 0, .int 0, .int 0, .int 0, .int 0, .int 0, .int 0, .int 0])), (q17, .inr (3, [.int 0, .int 0, .int 0, .int 0, .int 0, .int 0, .int 0, .int 0])), (q18, .inr (3, [.int 0, .int 0, .int 0, .int 0, .int 0, .int 0, .int 0, .int 0])), (q19, .inr (3, [.int 0, .int 0, .int 0, .int 0, .int 0, .int 0, .int 0, .int 0])), (q20, .inr (3, [.int 0, .int 0, .int 0, .int 0, .int 0, .int 0, .int 0, .int 0])), (q27, .inr (1, [.ref q35, .ref q36, .ref q28, .ref q29, .ref q32, .int 0, .int 0, .int 0])), (q28, .inl (cA 2, 10, .inr (.inr (.inr (.inr g47))))), (q29, .inr (2, [.ref q30, .ref q31, .int 0])), (q30, .inl (cA 0, 50, .inl (fun _ => 0))), (q31, .inl (cA 0, 50, .inl (fun _ => 0))), (q32, .inr (2, [.ref q33, .ref q34, .int 0])), (q33, .inl (cA 0, 50, .inl (fun _ => 0))), (q34, .inl (cA 0, 50, .inl (fun _ => 0))), (q35, .inl (cA 0, 5, .inl g48)), (q36, .inl (cA 0, 5, .inl g49)), (q37, .inr (3, [.int 0, .int 0, .int 0, .int 0, .int 0, .int 0, .int 0, .int 0])), (q38, .inr (3, [.int 0, .int 0, .int 0, .int 0, .int 0, .int 0, .int 0, .int 0])), (q39, .inr (3, [.int 0, .int 0, .int 0, .int 0, .int 0, .int 0, .int 0, .int 0])), (q40, .inr (3, [.int 0, .int 0, .int 0, .int 0, .int 0, .int 0, .int 0, .int 0])), (q41, .inr (3, [.int 0, .int 0, .int 0, .int 0, .int 0, .int 0, .int 0, .int 0])), (q42, .inr (3, [.int 0, .int 0, .int 0, .int 0, .int 0, .int 0, .int 0, .int 0])), (q43, .inr (3, [.int 0, .int 0, .int 0, .int 0, .int 0, .int 0, .int 0, .int 0])), (q44, .inr (3, [.int 0, .int 0, .int 0, .int 0, .int 0, .int 0, .int 0, .int 0])), (q45, .inr (3, [.int 0, .int 0, .int 0, .int 0, .int 0, .int 0, .int 0, .int 0])), (q46, .inr (3, [.int 0, .int 0, .int 0, .int 0, .int 0, .int 0, .int 0, .int 0])), (q53, .inr (1, [.ref q61, .ref q62, .ref q54, .ref q55, .ref q58, .int 0, .int 0, .int 0])), (q54, .inl (cA 2, 10, .inr (.inr (.inr (.inr g73))))), (q55, .inr (2, [.ref q56, .ref q57, .int 0])), (q56, .inl (cA 0, 50, .inl (fun _ => 0))), (q57, .inl (cA 0, 50, .inl (fun _ => 0))), (q58, .inr (2, [.ref q59, .ref q60, .int 0])), (q59, .inl (cA 0, 50, .inl (fun _ => 0))), (q60, .inl (cA 0, 50, .inl (fun _ => 0))), (q61, .inl (cA 0, 5, .inl g74)), (q62, .inl (cA 0, 5, .inl g75)), (q63, .inr (3, [.int 0, .int 0, .int 0, .int 0, .int 0, .int 0, .int 0, .int 0])), (q64, .inr (3, [.int 0, .int 0, .int 0, .int 0, .int 0, .int 0, .int 0, .int 0])), (q65, .inr (3, [.int 0, .int 0, .int 0, .int 0, .int 0, .int 0, .int 0, .int 0])), (q66, .inr (3, [.int 0, .int 0, .int 0, .int 0, .int 0, .int 0, .int 0, .int 0])), (q67, .inr (3, [.int 0, .int 0, .int 0, .int 0, .int 0, .int 0, .int 0, .int 0])), (q68, .inr (3, [.int 0, .int 0, .int 0, .int 0, .int 0, .int 0, .int 0, .int 0])), (q69, .inr (3, [.int 0, .int 0, .int 0, .int 0, .int 0, .int 0, .int 0, .int 0])), (q70, .inr (3, [.int 0, .int 0, .int 0, .int 0, .int 0, .int 0, .int 0, .int 0])), (q71, .inr (3, [.int 0, .int 0, .int 0, .int 0, .int 0, .int 0, .int 0, .int 0])), (q72, .inr (3, [.int 0, .int 0, .int 0, .int 0, .int 0, .int 0, .int 0, .int 0])), (q79, .inr (0, [.ref q80, .ref q81, .int 0, .int 0, .int 1])), (q80, .inl (cA 1, 50, .inl (fun _ => 0))), (q81, .inl (cA 0, 20, .inl (fun _ => 0))), (q82, .inr (0, [.ref q83, .ref q84, .int 0, .int 0, .int 1])), (q83, .inl (cA 1, 50, .inl (fun _ => 0))), (q84, .inl (cA 0, 20, .inl (fun _ => 0))), (q85, .inr (4, [.ref q86, .ref q79, .int 0, .int 0])), (q86, .inr (2, [.ref q87, .ref q88, .int 0])), (q87, .inl (cA 0, 50, .inl (fun _ => 0))), (q88, .inl (cA 0, 50, .inl (fun _ => 0))), (q89, .inr (6, [.ref q90, .int 0, .int 0, .int 0, .int 0])), (q90, .inl (cA 0, 40, .inl (fun _ => 0))), (q91, .inl (cA 3, 4, .inr (.inr (.inr (.inr (fun _ => none)))))), (q92, .inl (cA 0, 6, .inl (fun _ => 0)))]) rfl ?_
  refine A_putF (C0 := RX7) (T := TX7) (ty := tyX7) (k0 := 8) (ws2 := [(h0, .inr (7, [.ref q1, .ref q27, .ref q53, .ref q79, .ref q82, .ref q85, .ref q89, .ref q91, .ref q92, .int 0])), (q1, .inr (1, [.ref q9, .ref q10, .ref q2, .ref q3, .ref q6, .int 0, .int 0, .int 0])), (q2, .inl (cA 2, 10, .inr (.inr (.inr (.inr g21))))), (q3, .inr (2, [.ref q4, .ref q5, .int 0])), (q4, .inl (cA 0, 50, .inl (fun _ => 0))), (q5, .inl (cA 0, 50, .inl (fun _ => 0))), (q6, .inr (2, [.ref q7, .ref q8, .int 0])), (q7, .inl (cA 0, 50, .inl (fun _ => 0))), (q8, .inl (cA 0, 50, .inl (fun _ => 0))), (q9, .inl (cA 0, 5, .inl g22)), (q10, .inl (cA 0, 5, .inl g23)), (q11, .inr (3, [.int 0, .int 0, .int 0, .int 0, .int 0, .int 0, .int 0, .int 0])), (q12, .inr (3, [.int 0, .int 0, .int 0, .int 0, .int 0, .int 0, .int 0, .int 0])), (q13, .inr (3, [.int 0, .int 0, .int 0, .int 0, .int 0, .int 0, .int 0, .int 0])), (q14, .inr (3, [.int 0, .int 0, .int 0, .int 0, .int 0, .int 0, .int 0, .int 0])), (q15, .inr (3, [.int 0, .int 0, .int 0, .int 0, .int 0, .int 0, .int 0, .int 0])), (q16, .inr (3, [.int 0, .int 0, .int 0, .int 0, .int 0, .int 0, .int 0, .int 0])), (q17, .inr (3, [.int 0, .int 0, .int 0, .int 0, .int 0, .int 0, .int 0, .int 0])), (q18, .inr (3, [.int 0, .int 0, .int 0, .int 0, .int 0, .int 0, .int 0, .int 0])), (q19, .inr (3, [.int 0, .int 0, .int 0, .int 0, .int 0, .int 0, .int 0, .int 0])), (q20, .inr (3, [.int 0, .int 0, .int 0, .int 0, .int 0, .int 0, .int 0, .int 0])), (q27, .inr (1, [.ref q35, .ref q36, .ref q28, .ref q29, .ref q32, .int 0, .int 0, .int 0])), (q28, .inl (cA 2, 10, .inr (.inr (.inr (.inr g47))))), (q29, .inr (2, [.ref q30, .ref q31, .int 0])), (q30, .inl (cA 0, 50, .inl (fun _ => 0))), (q31, .inl (cA 0, 50, .inl (fun _ => 0))), (q32, .inr (2, [.ref q33, .ref q34, .int 0])), (q33, .inl (cA 0, 50, .inl (fun _ => 0))), (q34, .inl (cA 0, 50, .inl (fun _ => 0))), (q35, .inl (cA 0, 5, .inl g48)), (q36, .inl (cA 0, 5, .inl g49)), (q37, .inr (3, [.int 0, .int 0, .int 0, .int 0, .int 0, .int 0, .int 0, .int 0])), (q38, .inr (3, [.int 0, .int 0, .int 0, .int 0, .int 0, .int 0, .int 0, .int 0])), (q39, .inr (3, [.int 0, .int 0, .int 0, .int 0, .int 0, .int 0, .int 0, .int 0])), (q40, .inr (3, [.int 0, .int 0, .int 0, .int 0, .int 0, .int 0, .int 0, .int 0])), (q41, .inr (3, [.int 0, .int 0, .int 0, .int 0, .int 0, .int 0, .int 0, .int 0])), (q42, .inr (3, [.int 0, .int 0, .int 0, .int 0, .int 0, .int 0, .int 0, .int 0])), (q43, .inr (3, [.int 0, .int 0, .int 0, .int 0, .int 0, .int 0, .int 0, .int 0])), (q44, .inr (3, [.int 0, .int 0, .int 0, .int 0, .int 0, .int 0, .int 0, .int 0])), (q45, .inr (3, [.int 0, .int 0, .int 0, .int 0, .int 0, .int 0, .int 0, .int 0])), (q46, .inr (3, [.int 0, .int 0, .int 0, .int 0, .int 0, .int 0, .int 0, .int 0])), (q53, .inr (1, [.ref q61, .ref q62, .ref q54, .ref q55, .ref q58, .int 0, .int 0, .int 0])), (q54, .inl (cA 2, 10, .inr (.inr (.inr (.inr g73))))), (q55, .inr (2, [.ref q56, .ref q57, .int 0])), (q56, .inl (cA 0, 50, .inl (fun _ => 0))), (q57, .inl (cA 0, 50, .inl (fun _ => 0))), (q58, .inr (2, [.ref q59, .ref q60, .int 0])), (q59, .inl (cA 0, 50, .inl (fun _ => 0))), (q60, .inl (cA 0, 50, .inl (fun _ => 0))), (q61, .inl (cA 0, 5, .inl g74)), (q62, .inl (cA 0, 5, .inl g75)), (q63, .inr (3, [.int 0, .int 0, .int 0, .int 0, .int 0, .int 0, .int 0, .int 0])), (q64, .inr (3, [.int 0, .int 0, .int 0, .int 0, .int 0, .int 0, .int 0, .int 0])), (q65, .inr (3, [.int 0, .int 0, .int 0, .int 0, .int 0, .int 0, .int 0, .int 0])), (q66, .inr (3, [.int 0, .int 0, .int 0, .int 0, .int 0, .int 0, .int 0, .int 0])), (q67, .inr (3, [.int 0, .int 0, .int 0, .int 0, .int 0, .int 0, .int 0, .int 0])), (q68, .inr (3, [.int 0, .int 0, .int 0, .int 0, .int 0, .int 0, .int 0, .int 0])), (q69, .inr (3, [.int 0, .int 0, .int 0, .int 0, .int 0, .int 0, .int 0, .int 0])), (q70, .inr (3, [.int 0, .int 0, .int 0, .int 0, .int 0, .int 0, .int 0, .int 0])), (q71, .inr (3, [.int 0, .int 0, .int 0, .int 0, .int 0, .int 0, .int 0, .int 0])), (q72, .inr (3, [.int 0, .int 0, .int 0, .int 0, .int 0, .int 0, .int 0, .int 0])), (q79, .inr (0, [.ref q80, .ref q81, .int 0, .int 0, .int 1])), (q80, .inl (cA 1, 50, .inl (fun _ => 0))), (q81, .inl (cA 0, 20, .inl (fun _ => 0))), (q82, .inr (0, [.ref q83, .ref q84, .int 0, .int 0, .int 1])), (q83, .inl (cA 1, 50, .inl (fun _ => 0))), (q84, .inl (cA 0, 20, .inl (fun _ => 0))), (q85, .inr (4, [.ref q86, .ref q79, .int 0, .int 0])), (q86, .inr (2, [.ref q87, .ref q88, .int 0])), (q87, .inl (cA 0, 50, .inl (fun _ => 0))), (q88, .inl (cA 0, 50, .inl (fun _ => 0))), (q89, .inr (6, [.ref q90, .int 0, .int 0, .int 0, .int 0])), (q90, .inl (cA 0, 40, .inl (fun _ => 0))), (q91, .inl (cA 3, 4, .inr (.inr (.inr (.inr (fun _ => none)))))), (q92, .inl (cA 0, 6, .inl (fun _ => 0)))]) rfl rfl inT_7 tyX7_ok nmX7 rfl fl_X7_54 0 rfl (by decide) rfl rfl rfl rfl (Nat.le_of_ble_eq_true rfl) rfl dX7_init_98 ?_
  refine A_iconst (v := 0) dX7_init_101 (by decide) ?_
  refine A_istore_n (L2 := [(1, .int 0), (0, .ref h0)]) dX7_init_102 (by decide) rfl ?_
  refine A_iload_n dX7_init_103 0 rfl ?_
  refine A_iconst (v := 4) dX7_init_104 (by decide) ?_
  refine A_ge_f (by decide) dX7_init_105 (tgt := 127) (by decide) ?_
  refine A_aload_n dX7_init_108 1 rfl ?_
  refine A_get (C0 := RX7) (T := TX7) (k0 := 7) (v := .ref q91) rfl inT_7 rfl fl_X7_50 0 rfl (by decide) rfl dX7_init_109 ?_
  refine A_iload_n dX7_init_112 0 rfl ?_
  refine A_new (ci := 5) (C0 := RX5) (T := TX5) (ty := tyX5) (fs := [.null, .int 0, .int 0]) rfl inT_5 tyX5_ok cl_X7_48 iw_5 in_5 rfl df_5 (by decide) (by decide) dX7_init_113 (fun q93 => ?_)
  refine A_ws (ws2 := [(h0, .inr (7, [.ref q1, .ref q27, .ref q53, .ref q79, .ref q82, .ref q85, .ref q89, .ref q91, .ref q92, .int 0])), (q1, .inr (1, [.ref q9, .ref q10, .ref q2, .ref q3, .ref q6, .int 0, .int 0, .int 0])), (q2, .inl (cA 2, 10, .inr (.inr (.inr (.inr g21))))), (q3, .inr (2, [.ref q4, .ref q5, .int 0])), (q4, .inl (cA 0, 50, .inl (fun _ => 0))), (q5, .inl (cA 0, 50, .inl (fun _ => 0))), (q6, .inr (2, [.ref q7, .ref q8, .int 0])), (q7, .inl (cA 0, 50, .inl (fun _ => 0))), (q8, .inl (cA 0, 50, .inl (fun _ => 0))), (q9, .inl (cA 0, 5, .inl g22)), (q10, .inl (cA 0, 5, .inl g23)), (q11, .inr (3, [.int 0, .int 0, .int 0, .int 0, .int 0, .int 0, .int 0, .int 0])), (q12, .inr (3, [.int 0, .int 0, .int 0, .int 0, .int 0, .int 0, .int 0, .int 0])), (q13, .inr (3, [.int 0, .int 0, .int 0, .int 0, .int 0, .int 0, .int 0, .int 0])), (q14, .inr (3, [.int 0, .int 0, .int 0, .int 0, .int 0, .int 0, .int 0, .int 0])), (q15, .inr (3, [.int 0, .int 0, .int 0, .int 0, .int 0, .int 0, .int 0, .int 0])), (q16, .inr (3, [.int 0, .int 0, .int 0, .int 0, .int 0, .int 0, .int 0, .int 0])), (q17, .inr (3, [.int 0, .int 0, .int 0, .int 0, .int 0, .int 0, .int 0, .int 0])), (q18, .inr (3, [.int 0, .int 0, .int 0, .int 0, .int 0, .int 0, .int 0, .int 0])), (q19, .inr (3, [.int 0, .int 0, .int 0, .int 0, .int 0, .int 0, .int 0, .int 0])), (q20, .inr (3, [.int 0, .int 0, .int 0, .int 0, .int 0, .int 0, .int 0, .int 0])), (q27, .inr (1, [.ref q35, .ref q36, .ref q28, .ref q29, .ref q32, .int 0, .int 0, .int 0])), (q28, .inl (cA 2, 10, .inr (.inr (.inr (.inr g47))))), (q29, .inr (2, [.ref q30, .ref q31, .int 0])), (q30, .inl (cA 0, 50, .inl (fun _ => 0))), (q31, .inl (cA 0, 50, .inl (fun _ => 0))), (q32, .inr (2, [.ref q33, .ref q34, .int 0])), (q33, .inl (cA 0, 50, .inl (fun _ => 0))), (q34, .inl (cA 0, 50, .inl (fun _ => 0))), (q35, .inl (cA 0, 5, .inl g48)), (q36, .inl (cA 0, 5, .inl g49)), (q37, .inr (3, [.int 0, .int 0, .int 0, .int 0, .int 0, .int 0, .int 0, .int 0])), (q38, .inr (3, [.int 0, .int 0, .int 0, .int 0, .int 0, .int 0, .int 0, .int 0])), (q39, .inr (3, [.int 0, .int 0, .int 0, .int 0, .int 0, .int 0, .int 0, .int 0])), (q40, .inr (3, [.int 0, .int 0, .int 0, .int 0, .int 0, .int 0, .int 0, .int 0])), (q41, .inr (3, [.int 0, .int 0, .int 0, .int 0, .int 0, .int 0, .int 0, .int 0])), (q42, .inr (3, [.int 0, .int 0, .int 0, .int 0, .int 0, .int 0, .int 0, .int 0])), (q43, .inr (3, [.int 0, .int 0, .int 0, .int 0, .int 0, .int 0, .int 0, .int 0])), (q44, .inr (3, [.int 0, .int 0, .int 0, .int 0, .int 0, .int 0, .int 0, .int 0])), (q45, .inr (3, [.int 0, .int 0, .int 0, .int 0, .int 0, .int 0, .int 0, .int 0])), (q46, .inr (3, [.int 0, .int 0, .int 0, .int 0, .int 0, .int 0, .int 0, .int 0])), (q53, .inr (1, [.ref q61, .ref q62, .ref q54, .ref q55, .ref q58, .int 0, .int 0, .int 0])), (q54, .inl (cA 2, 10, .inr (.inr (.inr (.inr g73))))), (q55, .inr (2, [.ref q56, .ref q57, .int 0])), (q56, .inl (cA 0, 50, .inl (fun _ => 0))), (q57, .inl (cA 0, 50, .inl (fun _ => 0))), (q58, .inr (2, [.ref q59, .ref q60, .int 0])), (q59, .inl (cA 0, 50, .inl (fun _ => 0))), (q60, .inl (cA 0, 50, .inl (fun _ => 0))), (q61, .inl (cA 0, 5, .inl g74)), (q62, .inl (cA 0, 5, .inl g75)), (q63, .inr (3, [.int 0, .int 0, .int 0, .int 0, .int 0, .int 0, .int 0, .int 0])), (q64, .inr (3, [.int 0, .int 0, .int 0, .int 0, .int 0, .int 0, .int 0, .int 0])), (q65, .inr (3, [.int 0, .int 0, .int 0, .int 0, .int 0, .int 0, .int 0, .int 0])), (q66, .inr (3, [.int 0, .int 0, .int 0, .int 0, .int 0, .int 0, .int 0, .int 0])), (q67, .inr (3, [.int 0, .int 0, .int 0, .int 0, .int 0, .int 0, .int 0, .int 0])), (q68, .inr (3, [.int 0, .int 0, .int 0, .int 0, .int 0, .int 0, .int 0, .int 0])), (q69, .inr (3, [.int 0, .int 0, .int 0, .int 0, .int 0, .int 0, .int 0, .int 0])), (q70, .inr (3, [.int 0, .int 0, .int 0, .int 0, .int 0, .int 0, .int 0, .int 0])), (q71, .inr (3, [.int 0, .int 0, .int 0, .int 0, .int 0, .int 0, .int 0, .int 0])), (q72, .inr (3, [.int 0, .int 0, .int 0, .int 0, .int 0, .int 0, .int 0, .int 0])), (q79, .inr (0, [.ref q80, .ref q81, .int 0, .int 0, .int 1])), (q80, .inl (cA 1, 50, .inl (fun _ => 0))), (q81, .inl (cA 0, 20, .inl (fun _ => 0))), (q82, .inr (0, [.ref q83, .ref q84, .int 0, .int 0, .int 1])), (q83, .inl (cA 1, 50, .inl (fun _ => 0))), (q84, .inl (cA 0, 20, .inl (fun _ => 0))), (q85, .inr (4, [.ref q86, .ref q79, .int 0, .int 0])), (q86, .inr (2, [.ref q87, .ref q88, .int 0])), (q87, .inl (cA 0, 50, .inl (fun _ => 0))), (q88, .inl (cA 0, 50, .inl (fun _ => 0))), (q89, .inr (6, [.ref q90, .int 0, .int 0, .int 0, .int 0])), (q90, .inl (cA 0, 40, .inl (fun _ => 0))), (q91, .inl (cA 3, 4, .inr (.inr (.inr (.inr (fun _ => none)))))), (q92, .inl (cA 0, 6, .inl (fun _ => 0))), (q93, .inr (5, [.null, .int 0, .int 0]))]) rfl ?_
  refine A_dup rfl dX7_init_116 ?_
  refine A_callI (wr := [(h0, .inr (7, [.ref q1, .ref q27, .ref q53, .ref q79, .ref q82, .ref q85, .ref q89, .ref q91, .ref q92, .int 0])), (q1, .inr (1, [.ref q9, .ref q10, .ref q2, .ref q3, .ref q6, .int 0, .int 0, .int 0])), (q2, .inl (cA 2, 10, .inr (.inr (.inr (.inr g21))))), (q3, .inr (2, [.ref q4, .ref q5, .int 0])), (q4, .inl (cA 0, 50, .inl (fun _ => 0))), (q5, .inl (cA 0, 50, .inl (fun _ => 0))), (q6, .inr (2, [.ref q7, .ref q8, .int 0])), (q7, .inl (cA 0, 50, .inl (fun _ => 0))), (q8, .inl (cA 0, 50, .inl (fun _ => 0))), (q9, .inl (cA 0, 5, .inl g22)), (q10, .inl (cA 0, 5, .inl g23)), (q11, .inr (3, [.int 0, .int 0, .int 0, .int 0, .int 0, .int 0, .int 0, .int 0])), (q12, .inr (3, [.int 0, .int 0, .int 0, .int 0, .int 0, .int 0, .int 0, .int 0])), (q13, .inr (3, [.int 0, .int 0, .int 0, .int 0, .int 0, .int 0, .int 0, .int 0])), (q14, .inr (3, [.int 0, .int 0, .int 0, .int 0, .int 0, .int 0, .int 0, .int 0])), (q15, .inr (3, [.int 0, .int 0, .int 0, .int 0, .int 0, .int 0, .int 0, .int 0])), (q16, .inr (3, [.int 0, .int 0, .int 0, .int 0, .int 0, .int 0, .int 0, .int 0])), (q17, .inr (3, [.int 0, .int 0, .int 0, .int 0, .int 0, .int 0, .int 0, .int 0])), (q18, .inr (3, [.int 0, .int 0, .int 0, .int 0, .int 0, .int 0, .int 0, .int 0])), (q19, .inr (3, [.int 0, .int 0, .int 0, .int 0, .int 0, .int 0, .int 0, .int 0])), (q20, .inr (3, [.int 0, .int 0, .int 0, .int 0, .int 0, .int 0, .int 0, .int 0])), (q27, .inr (1, [.ref q35, .ref q36, .ref q28, .ref q29, .ref q32, .int 0, .int 0, .int 0])), (q28, .inl (cA 2, 10, .inr (.inr (.inr (.inr g47))))), (q29, .inr (2, [.ref q30, .ref q31, .int 0])), (q30, .inl (cA 0, 50, .inl (fun _ => 0))), (q31, .inl (cA 0, 50, .inl (fun _ => 0))), (q32, .inr (2, [.ref q33, .ref q34, .int 0])), (q33, .inl (cA 0, 50, .inl (fun _ => 0))), (q34, .inl (cA 0, 50, .inl (fun _ => 0))), (q35, .inl (cA 0, 5, .inl g48)), (q36, .inl (cA 0, 5, .inl g49)), (q37, .inr (3, [.int 0, .int 0, .int 0, .int 0, .int 0, .int 0, .int 0, .int 0])), (q38, .inr (3, [.int 0, .int 0, .int 0, .int 0, .int 0, .int 0, .int 0, .int 0])), (q39, .inr (3, [.int 0, .int 0, .int 0, .int 0, .int 0, .int 0, .int 0, .int 0])), (q40, .inr (3, [.int 0, .int 0, .int 0, .int 0, .int 0, .int 0, .int 0, .int 0])), (q41, .inr (3, [.int 0, .int 0, .int 0, .int 0, .int 0, .int 0, .int 0, .int 0])), (q42, .inr (3, [.int 0, .int 0, .int 0, .int 0, .int 0, .int 0, .int 0, .int 0])), (q43, .inr (3, [.int 0, .int 0, .int 0, .int 0, .int 0, .int 0, .int 0, .int 0])), (q44, .inr (3, [.int 0, .int 0, .int 0, .int 0, .int 0, .int 0, .int 0, .int 0])), (q45, .inr (3, [.int 0, .int 0, .int 0, .int 0, .int 0, .int 0, .int 0, .int 0])), (q46, .inr (3, [.int 0, .int 0, .int 0, .int 0, .int 0, .int 0, .int 0, .int 0])), (q53, .inr (1, [.ref q61, .ref q62, .ref q54, .ref q55, .ref q58, .int 0, .int 0, .int 0])), (q54, .inl (cA 2, 10, .inr (.inr (.inr (.inr g73))))), (q55, .inr (2, [.ref q56, .ref q57, .int 0])), (q56, .inl (cA 0, 50, .inl (fun _ => 0))), (q57, .inl (cA 0, 50, .inl (fun _ => 0))), (q58, .inr (2, [.ref q59, .ref q60, .int 0])), (q59, .inl (cA 0, 50, .inl (fun _ => 0))), (q60, .inl (cA 0, 50, .inl (fun _ => 0))), (q61, .inl (cA 0, 5, .inl g74)), (q62, .inl (cA 0, 5, .inl g75)), (q63, .inr (3, [.int 0, .int 0, .int 0, .int 0, .int 0, .int 0, .int 0, .int 0])), (q64, .inr (3, [.int 0, .int 0, .int 0, .int 0, .int 0, .int 0, .int 0, .int 0])), (q65, .inr (3, [.int 0, .int 0, .int 0, .int 0, .int 0, .int 0, .int 0, .int 0])), (q66, .inr (3, [.int 0, .int 0, .int 0, .int 0, .int 0, .int 0, .int 0, .int 0])), (q67, .inr (3, [.int 0, .int 0, .int 0, .int 0, .int 0, .int 0, .int 0, .int 0])), (q68, .inr (3, [.int 0, .int 0, .int 0, .int 0, .int 0, .int 0, .int 0, .int 0])), (q69, .inr (3, [.int 0, .int 0, .int 0, .int 0, .int 0, .int 0, .int 0, .int 0])), (q70, .inr (3, [.int 0, .int 0, .int 0, .int 0, .int 0, .int 0, .int 0, .int 0])), (q71, .inr (3, [.int 0, .int 0, .int 0, .int 0, .int 0, .int 0, .int 0, .int 0])), (q72, .inr (3, [.int 0, .int 0, .int 0, .int 0, .int 0, .int 0, .int 0, .int 0])), (q79, .inr (0, [.ref q80, .ref q81, .int 0, .int 0, .int 1])), (q80, .inl (cA 1, 50, .inl (fun _ => 0))), (q81, .inl (cA 0, 20, .inl (fun _ => 0))), (q82, .inr (0, [.ref q83, .ref q84, .int 0, .int 0, .int 1])), (q83, .inl (cA 1, 50, .inl (fun _ => 0))), (q84, .inl (cA 0, 20, .inl (fun _ => 0))), (q85, .inr (4, [.ref q86, .ref q79, .int 0, .int 0])), (q86, .inr (2, [.ref q87, .ref q88, .int 0])), (q87, .inl (cA 0, 50, .inl (fun _ => 0))), (q88, .inl (cA 0, 50, .inl (fun _ => 0))), (q89, .inr (6, [.ref q90, .int 0, .int 0, .int 0, .int 0])), (q90, .inl (cA 0, 40, .inl (fun _ => 0))), (q91, .inl (cA 3, 4, .inr (.inr (.inr (.inr (fun _ => none)))))), (q92, .inl (cA 0, 6, .inl (fun _ => 0)))]) (X5_init_made q93) ok_X5_init (Or.inr (by simp [nestA])) (by decide) rfl rfl (Nat.le_of_ble_eq_true rfl) [75] [0, 1, 2, 3, 4, 5, 6, 7, 8, 9, 10, 11, 12, 13, 14, 15, 16, 17, 18, 19, 20, 21, 22, 23, 24, 25, 26, 27, 28, 29, 30, 31, 32, 33, 34, 35, 36, 37, 38, 39, 40, 41, 42, 43, 44, 45, 46, 47, 48, 49, 50, 51, 52, 53, 54, 55, 56, 57, 58, 59, 60, 61, 62, 63, 64, 65, 66, 67, 68, 69, 70, 71, 72, 73, 74] rfl rfl (by decide) (by decide) (by decide) (by decide) (by decide) dX7_init_117 ?_
  rintro w ⟨q94, rfl⟩
  refine A_ws (ws2 := [(h0, .inr (7, [.ref q1, .ref q27, .ref q53, .ref q79, .ref q82, .ref q85, .ref q89, .ref q91, .ref q92, .int 0])), (q1, .inr (1, [.ref q9, .ref q10, .ref q2, .ref q3, .ref q6, .int 0, .int 0, .int 0])), (q2, .inl (cA 2, 10, .inr (.inr (.inr (.inr g21))))), (q3, .inr (2, [.ref q4, .ref q5, .int 0])), (q4, .inl (cA 0, 50, .inl (fun _ => 0))), (q5, .inl (cA 0, 50, .inl (fun _ => 0))), (q6, .inr (2, [.ref q7, .ref q8, .int 0])), (q7, .inl (cA 0, 50, .inl (fun _ => 0))), (q8, .inl (cA 0, 50, .inl (fun _ => 0))), (q9, .inl (cA 0, 5, .inl g22)), (q10, .inl (cA 0, 5, .inl g23)), (q11, .inr (3, [.int 0, .int 0, .int 0, .int 0, .int 0, .int 0, .int 0, .int 0])), (q12, .inr (3, [.int 0, .int 0, .int 0, .int 0, .int 0, .int 0, .int 0, .int 0])), (q13, .inr (3, [.int 0, .int 0, .int 0, .int 0, .int 0, .int 0, .int 0, .int 0])), (q14, .inr (3, [.int 0, .int 0, .int 0, .int 0, .int 0, .int 0, .int 0, .int 0])), (q15, .inr (3, [.int 0, .int 0, .int 0, .int 0, .int 0, .int 0, .int 0, .int 0])), (q16, .inr (3, [.int 0, .int 0, .int 0, .int 0, .int 0, .int 0, .int 0, .int 0])), (q17, .inr (3, [.int 0, .int 0, .int 0, .int 0, .int 0, .int 0, .int 0, .int 0])), (q18, .inr (3, [.int 0, .int 0, .int 0, .int 0, .int 0, .int 0, .int 0, .int 0])), (q19, .inr (3, [.int 0, .int 0, .int 0, .int 0, .int 0, .int 0, .int 0, .int 0])), (q20, .inr (3, [.int 0, .int 0, .int 0, .int 0, .int 0, .int 0, .int 0, .int 0])), (q27, .inr (1, [.ref q35, .ref q36, .ref q28, .ref q29, .ref q32, .int 0, .int 0, .int 0])), (q28, .inl (cA 2, 10, .inr (.inr (.inr (.inr g47))))), (q29, .inr (2, [.ref q30, .ref q31, .int 0])), (q30, .inl (cA 0, 50, .inl (fun _ => 0))), (q31, .inl (cA 0, 50, .inl (fun _ => 0))), (q32, .inr (2, [.ref q33, .ref q34, .int 0])), (q33, .inl (cA 0, 50, .inl (fun _ => 0))), (q34, .inl (cA 0, 50, .inl (fun _ => 0))), (q35, .inl (cA 0, 5, .inl g48)), (q36, .inl (cA 0, 5, .inl g49)), (q37, .inr (3, [.int 0, .int 0, .int 0, .int 0, .int 0, .int 0, .int 0, .int 0])), (q38, .inr (3, [.int 0, .int 0, .int 0, .int 0, .int 0, .int 0, .int 0, .int 0])), (q39, .inr (3, [.int 0, .int 0, .int 0, .int 0, .int 0, .int 0, .int 0, .int 0])), (q40, .inr (3, [.int 0, .int 0, .int 0, .int 0, .int 0, .int 0, .int 0, .int 0])), (q41, .inr (3, [.int 0, .int 0, .int 0, .int 0, .int 0, .int 0, .int 0, .int 0])), (q42, .inr (3, [.int 0, .int 0, .int 0, .int 0, .int 0, .int 0, .int 0, .int 0])), (q43, .inr (3, [.int 0, .int 0, .int 0, .int 0, .int 0, .int 0, .int 0, .int 0])), (q44, .inr (3, [.int 0, .int 0, .int 0, .int 0, .int 0, .int 0, .int 0, .int 0])), (q45, .inr (3, [.int 0, .int 0, .int 0, .int 0, .int 0, .int 0, .int 0, .int 0])), (q46, .inr (3, [.int 0, .int 0, .int 0, .int 0, .int 0, .int 0, .int 0, .int 0])), (q53, .inr (1, [.ref q61, .ref q62, .ref q54, .ref q55, .ref q58, .int 0, .int 0, .int 0])), (q54, .inl (cA 2, 10, .inr (.inr (.inr (.inr g73))))), (q55, .inr (2, [.ref q56, .ref q57, .int 0])), (q56, .inl (cA 0, 50, .inl (fun _ => 0))), (q57, .inl (cA 0, 50, .inl (fun _ => 0))), (q58, .inr (2, [.ref q59, .ref q60, .int 0])), (q59, .inl (cA 0, 50, .inl (fun _ => 0))), (q60, .inl (cA 0, 50, .inl (fun _ => 0))), (q61, .inl (cA 0, 5, .inl g74)), (q62, .inl (cA 0, 5, .inl g75)), (q63, .inr (3, [.int 0, .int 0, .int 0, .int 0, .int 0, .int 0, .int 0, .int 0])), (q64, .inr (3, [.int 0, .int 0, .int 0, .int 0, .int 0, .int 0, .int 0, .int 0])), (q65, .inr (3, [.int 0, .int 0, .int 0, .int 0, .int 0, .int 0, .int 0, .int 0])), (q66, .inr (3, [.int 0, .int 0, .int 0, .int 0, .int 0, .int 0, .int 0, .int 0])), (q67, .inr (3, [.int 0, .int 0, .int 0, .int 0, .int 0, .int 0, .int 0, .int 0])), (q68, .inr (3, [.int 0, .int 0, .int 0, .int 0, .int 0, .int 0, .int 0, .int 0])), (q69, .inr (3, [.int 0, .int 0, .int 0, .int 0, .int 0, .int 0, .int 0, .int 0])), (q70, .inr (3, [.int 0, .int 0, .int 0, .int 0, .int 0, .int 0, .int 0, .int 0])), (q71, .inr (3, [.int 0, .int 0, .int 0, .int 0, .int 0, .int 0, .int 0, .int 0])), (q72, .inr (3, [.int 0, .int 0, .int 0, .int 0, .int 0, .int 0, .int 0, .int 0])), (q79, .inr (0, [.ref q80, .ref q81, .int 0, .int 0, .int 1])), (q80, .inl (cA 1, 50, .inl (fun _ => 0))), (q81, .inl (cA 0, 20, .inl (fun _ => 0))), (q82, .inr (0, [.ref q83, .ref q84, .int 0, .int 0, .int 1])), (q83, .inl (cA 1, 50, .inl (fun _ => 0))), (q84, .inl (cA 0, 20, .inl (fun _ => 0))), (q85, .inr (4, [.ref q86, .ref q79, .int 0, .int 0])), (q86, .inr (2, [.ref q87, .ref q88, .int 0])), (q87, .inl (cA 0, 50, .inl (fun _ => 0))), (q88, .inl (cA 0, 50, .inl (fun _ => 0))), (q89, .inr (6, [.ref q90, .int 0, .int 0, .int 0, .int 0])), (q90, .inl (cA 0, 40, .inl (fun _ => 0))), (q91, .inl (cA 3, 4, .inr (.inr (.inr (.inr (fun _ => none)))))), (q92, .inl (cA 0, 6, .inl (fun _ => 0))), (q93, .inr (5, [.ref q94, .int 0, .int 0])), (q94, .inl (cA 0, 40, .inl (fun _ => 0)))]) rfl ?_
  obtain ⟨g95, eg95⟩ : ∃ g : Nat → Option Nat, va_up (fun _ => none) (0 : Int32).toNatClampNeg (some q93) = g := ⟨_, rfl⟩
  refine A_astq (j := 3) (ci := 5) (f2 := g95) (ws2 := [(h0, .inr (7, [.ref q1, .ref q27, .ref q53, .ref q79, .ref q82, .ref q85, .ref q89, .ref q91, .ref q92, .int 0])), (q1, .inr (1, [.ref q9, .ref q10, .ref q2, .ref q3, .ref q6, .int 0, .int 0, .int 0])), (q2, .inl (cA 2, 10, .inr (.inr (.inr (.inr g21))))), (q3, .inr (2, [.ref q4, .ref q5, .int 0])), (q4, .inl (cA 0, 50, .inl (fun _ => 0))), (q5, .inl (cA 0, 50, .inl (fun _ => 0))), (q6, .inr (2, [.ref q7, .ref q8, .int 0])), (q7, .inl (cA 0, 50, .inl (fun _ => 0))), (q8, .inl (cA 0, 50, .inl (fun _ => 0))), (q9, .inl (cA 0, 5, .inl g22)), (q10, .inl (cA 0, 5, .inl g23)), (q11, .inr (3, [.int 0, .int 0, .int 0, .int 0, .int 0, .int 0, .int 0, .int 0])), (q12, .inr (3, [.int 0, .int 0, .int 0, .int 0, .int 0, .int 0, .int 0, .int 0])), (q13, .inr (3, [.int 0, .int 0, .int 0, .int 0, .int 0, .int 0, .int 0, .int 0])), (q14, .inr (3, [.int 0, .int 0, .int 0, .int 0, .int 0, .int 0, .int 0, .int 0])), (q15, .inr (3, [.int 0, .int 0, .int 0, .int 0, .int 0, .int 0, .int 0, .int 0])), (q16, .inr (3, [.int 0, .int 0, .int 0, .int 0, .int 0, .int 0, .int 0, .int 0])), (q17, .inr (3, [.int 0, .int 0, .int 0, .int 0, .int 0, .int 0, .int 0, .int 0])), (q18, .inr (3, [.int 0, .int 0, .int 0, .int 0, .int 0, .int 0, .int 0, .int 0])), (q19, .inr (3, [.int 0, .int 0, .int 0, .int 0, .int 0, .int 0, .int 0, .int 0])), (q20, .inr (3, [.int 0, .int 0, .int 0, .int 0, .int 0, .int 0, .int 0, .int 0])), (q27, .inr (1, [.ref q35, .ref q36, .ref q28, .ref q29, .ref q32, .int 0, .int 0, .int 0])), (q28, .inl (cA 2, 10, .inr (.inr (.inr (.inr g47))))), (q29, .inr (2, [.ref q30, .ref q31, .int 0])), (q30, .inl (cA 0, 50, .inl (fun _ => 0))), (q31, .inl (cA 0, 50, .inl (fun _ => 0))), (q32, .inr (2, [.ref q33, .ref q34, .int 0])), (q33, .inl (cA 0, 50, .inl (fun _ => 0))), (q34, .inl (cA 0, 50, .inl (fun _ => 0))), (q35, .inl (cA 0, 5, .inl g48)), (q36, .inl (cA 0, 5, .inl g49)), (q37, .inr (3, [.int 0, .int 0, .int 0, .int 0, .int 0, .int 0, .int 0, .int 0])), (q38, .inr (3, [.int 0, .int 0, .int 0, .int 0, .int 0, .int 0, .int 0, .int 0])), (q39, .inr (3, [.int 0, .int 0, .int 0, .int 0, .int 0, .int 0, .int 0, .int 0])), (q40, .inr (3, [.int 0, .int 0, .int 0, .int 0, .int 0, .int 0, .int 0, .int 0])), (q41, .inr (3, [.int 0, .int 0, .int 0, .int 0, .int 0, .int 0, .int 0, .int 0])), (q42, .inr (3, [.int 0, .int 0, .int 0, .int 0, .int 0, .int 0, .int 0, .int 0])), (q43, .inr (3, [.int 0, .int 0, .int 0, .int 0, .int 0, .int 0, .int 0, .int 0])), (q44, .inr (3, [.int 0, .int 0, .int 0, .int 0, .int 0, .int 0, .int 0, .int 0])), (q45, .inr (3, [.int 0, .int 0, .int 0, .int 0, .int 0, .int 0, .int 0, .int 0])), (q46, .inr (3, [.int 0, .int 0, .int 0, .int 0, .int 0, .int 0, .int 0, .int 0])), (q53, .inr (1, [.ref q61, .ref q62, .ref q54, .ref q55, .ref q58, .int 0, .int 0, .int 0])), (q54, .inl (cA 2, 10, .inr (.inr (.inr (.inr g73))))), (q55, .inr (2, [.ref q56, .ref q57, .int 0])), (q56, .inl (cA 0, 50, .inl (fun _ => 0))), (q57, .inl (cA 0, 50, .inl (fun _ => 0))), (q58, .inr (2, [.ref q59, .ref q60, .int 0])), (q59, .inl (cA 0, 50, .inl (fun _ => 0))), (q60, .inl (cA 0, 50, .inl (fun _ => 0))), (q61, .inl (cA 0, 5, .inl g74)), (q62, .inl (cA 0, 5, .inl g75)), (q63, .inr (3, [.int 0, .int 0, .int 0, .int 0, .int 0, .int 0, .int 0, .int 0])), (q64, .inr (3, [.int 0, .int 0, .int 0, .int 0, .int 0, .int 0, .int 0, .int 0])), (q65, .inr (3, [.int 0, .int 0, .int 0, .int 0, .int 0, .int 0, .int 0, .int 0])), (q66, .inr (3, [.int 0, .int 0, .int 0, .int 0, .int 0, .int 0, .int 0, .int 0])), (q67, .inr (3, [.int 0, .int 0, .int 0, .int 0, .int 0, .int 0, .int 0, .int 0])), (q68, .inr (3, [.int 0, .int 0, .int 0, .int 0, .int 0, .int 0, .int 0, .int 0])), (q69, .inr (3, [.int 0, .int 0, .int 0, .int 0, .int 0, .int 0, .int 0, .int 0])), (q70, .inr (3, [.int 0, .int 0, .int 0, .int 0, .int 0, .int 0, .int 0, .int 0])), (q71, .inr (3, [.int 0, .int 0, .int 0, .int 0, .int 0, .int 0, .int 0, .int 0])), (q72, .inr (3, [.int 0, .int 0, .int 0, .int 0, .int 0, .int 0, .int 0, .int 0])), (q79, .inr (0, [.ref q80, .ref q81, .int 0, .int 0, .int 1])), (q80, .inl (cA 1, 50, .inl (fun _ => 0))), (q81, .inl (cA 0, 20, .inl (fun _ => 0))), (q82, .inr (0, [.ref q83, .ref q84, .int 0, .int 0, .int 1])), (q83, .inl (cA 1, 50, .inl (fun _ => 0))), (q84, .inl (cA 0, 20, .inl (fun _ => 0))), (q85, .inr (4, [.ref q86, .ref q79, .int 0, .int 0])), (q86, .inr (2, [.ref q87, .ref q88, .int 0])), (q87, .inl (cA 0, 50, .inl (fun _ => 0))), (q88, .inl (cA 0, 50, .inl (fun _ => 0))), (q89, .inr (6, [.ref q90, .int 0, .int 0, .int 0, .int 0])), (q90, .inl (cA 0, 40, .inl (fun _ => 0))), (q91, .inl (cA 3, 4, .inr (.inr (.inr (.inr g95))))), (q92, .inl (cA 0, 6, .inl (fun _ => 0))), (q93, .inr (5, [.ref q94, .int 0, .int 0])), (q94, .inl (cA 0, 40, .inl (fun _ => 0)))]) 73 75 rfl rfl rfl rfl (ib_in (by decide)) eg95 rfl dX7_init_120 ?_
  refine A_iinc (v := 1) (L2 := [(1, .int 1), (0, .ref h0)]) dX7_init_121 0 rfl (by decide) (by decide) rfl ?_
  refine A_goto (tgt := 103) dX7_init_124 (by decide) ?_
  refine A_iload_n dX7_init_103 0 rfl ?_
  refine A_iconst (v := 4) dX7_init_104 (by decide) ?_
  refine A_ge_f (by decide) dX7_init_105 (tgt := 127) (by decide) ?_
  refine A_aload_n dX7_init_108 1 rfl ?_
  refine A_get (C0 := RX7) (T := TX7) (k0 := 7) (v := .ref q91) rfl inT_7 rfl fl_X7_50 0 rfl (by decide) rfl dX7_init_109 ?_
  refine A_iload_n dX7_init_112 0 rfl ?_
  refine A_new (ci := 5) (C0 := RX5) (T := TX5) (ty := tyX5) (fs := [.null, .int 0, .int 0]) rfl inT_5 tyX5_ok cl_X7_48 iw_5 in_5 rfl df_5 (by decide) (by decide) dX7_init_113 (fun q96 => ?_)
  refine A_ws (ws2 := [(h0, .inr (7, [.ref q1, .ref q27, .ref q53, .ref q79, .ref q82, .ref q85, .ref q89, .ref q91, .ref q92, .int 0])), (q1, .inr (1, [.ref q9, .ref q10, .ref q2, .ref q3, .ref q6, .int 0, .int 0, .int 0])), (q2, .inl (cA 2, 10, .inr (.inr (.inr (.inr g21))))), (q3, .inr (2, [.ref q4, .ref q5, .int 0])), (q4, .inl (cA 0, 50, .inl (fun _ => 0))), (q5, .inl (cA 0, 50, .inl (fun _ => 0))), (q6, .inr (2, [.ref q7, .ref q8, .int 0])), (q7, .inl (cA 0, 50, .inl (fun _ => 0))), (q8, .inl (cA 0, 50, .inl (fun _ => 0))), (q9, .inl (cA 0, 5, .inl g22)), (q10, .inl (cA 0, 5, .inl g23)), (q11, .inr (3, [.int 0, .int 0, .int 0, .int 0, .int 0, .int 0, .int 0, .int 0])), (q12, .inr (3, [.int 0, .int 0, .int 0, .int 0, .int 0, .int 0, .int 0, .int 0])), (q13, .inr (3, [.int 0, .int 0, .int 0, .int 0, .int 0, .int 0, .int 0, .int 0])), (q14, .inr (3, [.int 0, .int 0, .int 0, .int 0, .int 0, .int 0, .int 0, .int 0])), (q15, .inr (3, [.int 0, .int 0, .int 0, .int 0, .int 0, .int 0, .int 0, .int 0])), (q16, .inr (3, [.int 0, .int 0, .int 0, .int 0, .int 0, .int 0, .int 0, .int 0])), (q17, .inr (3, [.int 0, .int 0, .int 0, .int 0, .int 0, .int 0, .int 0, .int 0])), (q18, .inr (3, [.int 0, .int 0, .int 0, .int 0, .int 0, .int 0, .int 0, .int 0])), (q19, .inr (3, [.int 0, .int 0, .int 0, .int 0, .int 0, .int 0, .int 0, .int 0])), (q20, .inr (3, [.int 0, .int 0, .int 0, .int 0, .int 0, .int 0, .int 0, .int 0])), (q27, .inr (1, [.ref q35, .ref q36, .ref q28, .ref q29, .ref q32, .int 0, .int 0, .int 0])), (q28, .inl (cA 2, 10, .inr (.inr (.inr (.inr g47))))), (q29, .inr (2, [.ref q30, .ref q31, .int 0])), (q30, .inl (cA 0, 50, .inl (fun _ => 0))), (q31, .inl (cA 0, 50, .inl (fun _ => 0))), (q32, .inr (2, [.ref q33, .ref q34, .int 0])), (q33, .inl (cA 0, 50, .inl (fun _ => 0))), (q34, .inl (cA 0, 50, .inl (fun _ => 0))), (q35, .inl (cA 0, 5, .inl g48)), (q36, .inl (cA 0, 5, .inl g49)), (q37, .inr (3, [.int 0, .int 0, .int 0, .int 0, .int 0, .int 0, .int 0, .int 0])), (q38, .inr (3, [.int 0, .int 0, .int 0, .int 0, .int 0, .int 0, .int 0, .int 0])), (q39, .inr (3, [.int 0, .int 0, .int 0, .int 0, .int 0, .int 0, .int 0, .int 0])), (q40, .inr (3, [.int 0, .int 0, .int 0, .int 0, .int 0, .int 0, .int 0, .int 0])), (q41, .inr (3, [.int 0, .int 0, .int 0, .int 0, .int 0, .int 0, .int 0, .int 0])), (q42, .inr (3, [.int 0, .int 0, .int 0, .int 0, .int 0, .int 0, .int 0, .int 0])), (q43, .inr (3, [.int 0, .int 0, .int 0, .int 0, .int 0, .int 0, .int 0, .int 0])), (q44, .inr (3, [.int 0, .int 0, .int 0, .int 0, .int 0, .int 0, .int 0, .int 0])), (q45, .inr (3, [.int 0, .int 0, .int 0, .int 0, .int 0, .int 0, .int 0, .int 0])), (q46, .inr (3, [.int 0, .int 0, .int 0, .int 0, .int 0, .int 0, .int 0, .int 0])), (q53, .inr (1, [.ref q61, .ref q62, .ref q54, .ref q55, .ref q58, .int 0, .int 0, .int 0])), (q54, .inl (cA 2, 10, .inr (.inr (.inr (.inr g73))))), (q55, .inr (2, [.ref q56, .ref q57, .int 0])), (q56, .inl (cA 0, 50, .inl (fun _ => 0))), (q57, .inl (cA 0, 50, .inl (fun _ => 0))), (q58, .inr (2, [.ref q59, .ref q60, .int 0])), (q59, .inl (cA 0, 50, .inl (fun _ => 0))), (q60, .inl (cA 0, 50, .inl (fun _ => 0))), (q61, .inl (cA 0, 5, .inl g74)), (q62, .inl (cA 0, 5, .inl g75)), (q63, .inr (3, [.int 0, .int 0, .int 0, .int 0, .int 0, .int 0, .int 0, .int 0])), (q64, .inr (3, [.int 0, .int 0, .int 0, .int 0, .int 0, .int 0, .int 0, .int 0])), (q65, .inr (3, [.int 0, .int 0, .int 0, .int 0, .int 0, .int 0, .int 0, .int 0])), (q66, .inr (3, [.int 0, .int 0, .int 0, .int 0, .int 0, .int 0, .int 0, .int 0])), (q67, .inr (3, [.int 0, .int 0, .int 0, .int 0, .int 0, .int 0, .int 0, .int 0])), (q68, .inr (3, [.int 0, .int 0, .int 0, .int 0, .int 0, .int 0, .int 0, .int 0])), (q69, .inr (3, [.int 0, .int 0, .int 0, .int 0, .int 0, .int 0, .int 0, .int 0])), (q70, .inr (3, [.int 0, .int 0, .int 0, .int 0, .int 0, .int 0, .int 0, .int 0])), (q71, .inr (3, [.int 0, .int 0, .int 0, .int 0, .int 0, .int 0, .int 0, .int 0])), (q72, .inr (3, [.int 0, .int 0, .int 0, .int 0, .int 0, .int 0, .int 0, .int 0])), (q79, .inr (0, [.ref q80, .ref q81, .int 0, .int 0, .int 1])), (q80, .inl (cA 1, 50, .inl (fun _ => 0))), (q81, .inl (cA 0, 20, .inl (fun _ => 0))), (q82, .inr (0, [.ref q83, .ref q84, .int 0, .int 0, .int 1])), (q83, .inl (cA 1, 50, .inl (fun _ => 0))), (q84, .inl (cA 0, 20, .inl (fun _ => 0))), (q85, .inr (4, [.ref q86, .ref q79, .int 0, .int 0])), (q86, .inr (2, [.ref q87, .ref q88, .int 0])), (q87, .inl (cA 0, 50, .inl (fun _ => 0))), (q88, .inl (cA 0, 50, .inl (fun _ => 0))), (q89, .inr (6, [.ref q90, .int 0, .int 0, .int 0, .int 0])), (q90, .inl (cA 0, 40, .inl (fun _ => 0))), (q91, .inl (cA 3, 4, .inr (.inr (.inr (.inr g95))))), (q92, .inl (cA 0, 6, .inl (fun _ => 0))), (q93, .inr (5, [.ref q94, .int 0, .int 0])), (q94, .inl (cA 0, 40, .inl (fun _ => 0))), (q96, .inr (5, [.null, .int 0, .int 0]))]) rfl ?_
  refine A_dup rfl dX7_init_116 ?_
  refine A_callI (wr := [(h0, .inr (7, [.ref q1, .ref q27, .ref q53, .ref q79, .ref q82, .ref q85, .ref q89, .ref q91, .ref q92, .int 0])), (q1, .inr (1, [.ref q9, .ref q10, .ref q2, .ref q3, .ref q6, .int 0, .int 0, .int 0])), (q2, .inl (cA 2, 10, .inr (.inr (.inr (.inr g21))))), (q3, .inr (2, [.ref q4, .ref q5, .int 0])), (q4, .inl (cA 0, 50, .inl (fun _ => 0))), (q5, .inl (cA 0, 50, .inl (fun _ => 0))), (q6, .inr (2, [.ref q7, .ref q8, .int 0])), (q7, .inl (cA 0, 50, .inl (fun _ => 0))), (q8, .inl (cA 0, 50, .inl (fun _ => 0))), (q9, .inl (cA 0, 5, .inl g22)), (q10, .inl (cA 0, 5, .inl g23)), (q11, .inr (3, [.int 0, .int 0, .int 0, .int 0, .int 0, .int 0, .int 0, .int 0])), (q12, .inr (3, [.int 0, .int 0, .int 0, .int 0, .int 0, .int 0, .int 0, .int 0])), (q13, .inr (3, [.int 0, .int 0, .int 0, .int 0, .int 0, .int 0, .int 0, .int 0])), (q14, .inr (3, [.int 0, .int 0, .int 0, .int 0, .int 0, .int 0, .int 0, .int 0])), (q15, .inr (3, [.int 0, .int 0, .int 0, .int 0, .int 0, .int 0, .int 0, .int 0])), (q16, .inr (3, [.int 0, .int 0, .int 0, .int 0, .int 0, .int 0, .int 0, .int 0])), (q17, .inr (3, [.int 0, .int 0, .int 0, .int 0, .int 0, .int 0, .int 0, .int 0])), (q18, .inr (3, [.int 0, .int 0, .int 0, .int 0, .int 0, .int 0, .int 0, .int 0])), (q19, .inr (3, [.int 0, .int 0, .int 0, .int 0, .int 0, .int 0, .int 0, .int 0])), (q20, .inr (3, [.int 0, .int 0, .int 0, .int 0, .int 0, .int 0, .int 0, .int 0])), (q27, .inr (1, [.ref q35, .ref q36, .ref q28, .ref q29, .ref q32, .int 0, .int 0, .int 0])), (q28, .inl (cA 2, 10, .inr (.inr (.inr (.inr g47))))), (q29, .inr (2, [.ref q30, .ref q31, .int 0])), (q30, .inl (cA 0, 50, .inl (fun _ => 0))), (q31, .inl (cA 0, 50, .inl (fun _ => 0))), (q32, .inr (2, [.ref q33, .ref q34, .int 0])), (q33, .inl (cA 0, 50, .inl (fun _ => 0))), (q34, .inl (cA 0, 50, .inl (fun _ => 0))), (q35, .inl (cA 0, 5, .inl g48)), (q36, .inl (cA 0, 5, .inl g49)), (q37, .inr (3, [.int 0, .int 0, .int 0, .int 0, .int 0, .int 0, .int 0, .int 0])), (q38, .inr (3, [.int 0, .int 0, .int 0, .int 0, .int 0, .int 0, .int 0, .int 0])), (q39, .inr (3, [.int 0, .int 0, .int 0, .int 0, .int 0, .int 0, .int 0, .int 0])), (q40, .inr (3, [.int 0, .int 0, .int 0, .int 0, .int 0, .int 0, .int 0, .int 0])), (q41, .inr (3, [.int 0, .int 0, .int 0, .int 0, .int 0, .int 0, .int 0, .int 0])), (q42, .inr (3, [.int 0, .int 0, .int 0, .int 0, .int 0, .int 0, .int 0, .int 0])), (q43, .inr (3, [.int 0, .int 0, .int 0, .int 0, .int 0, .int 0, .int 0, .int 0])), (q44, .inr (3, [.int 0, .int 0, .int 0, .int 0, .int 0, .int 0, .int 0, .int 0])), (q45, .inr (3, [.int 0, .int 0, .int 0, .int 0, .int 0, .int 0, .int 0, .int 0])), (q46, .inr (3, [.int 0, .int 0, .int 0, .int 0, .int 0, .int 0, .int 0, .int 0])), (q53, .inr (1, [.ref q61, .ref q62, .ref q54, .ref q55, .ref q58, .int 0, .int 0, .int 0])), (q54, .inl (cA 2, 10, .inr (.inr (.inr (.inr g73))))), (q55, .inr (2, [.ref q56, .ref q57, .int 0])), (q56, .inl (cA 0, 50, .inl (fun _ => 0))), (q57, .inl (cA 0, 50, .inl (fun _ => 0))), (q58, .inr (2, [.ref q59, .ref q60, .int 0])), (q59, .inl (cA 0, 50, .inl (fun _ => 0))), (q60, .inl (cA 0, 50, .inl (fun _ => 0))), (q61, .inl (cA 0, 5, .inl g74)), (q62, .inl (cA 0, 5, .inl g75)), (q63, .inr (3, [.int 0, .int 0, .int 0, .int 0, .int 0, .int 0, .int 0, .int 0])), (q64, .inr (3, [.int 0, .int 0, .int 0, .int 0, .int 0, .int 0, .int 0, .int 0])), (q65, .inr (3, [.int 0, .int 0, .int 0, .int 0, .int 0, .int 0, .int 0, .int 0])), (q66, .inr (3, [.int 0, .int 0, .int 0, .int 0, .int 0, .int 0, .int 0, .int 0])), (q67, .inr (3, [.int 0, .int 0, .int 0, .int 0, .int 0, .int 0, .int 0, .int 0])), (q68, .inr (3, [.int 0, .int 0, .int 0, .int 0, .int 0, .int 0, .int 0, .int 0])), (q69, .inr (3, [.int 0, .int 0, .int 0, .int 0, .int 0, .int 0, .int 0, .int 0])), (q70, .inr (3, [.int 0, .int 0, .int 0, .int 0, .int 0, .int 0, .int 0, .int 0])), (q71, .inr (3, [.int 0, .int 0, .int 0, .int 0, .int 0, .int 0, .int 0, .int 0])), (q72, .inr (3, [.int 0, .int 0, .int 0, .int 0, .int 0, .int 0, .int 0, .int 0])), (q79, .inr (0, [.ref q80, .ref q81, .int 0, .int 0, .int 1])), (q80, .inl (cA 1, 50, .inl (fun _ => 0))), (q81, .inl (cA 0, 20, .inl (fun _ => 0))), (q82, .inr (0, [.ref q83, .ref q84, .int 0, .int 0, .int 1])), (q83, .inl (cA 1, 50, .inl (fun _ => 0))), (q84, .inl (cA 0, 20, .inl (fun _ => 0))), (q85, .inr (4, [.ref q86, .ref q79, .int 0, .int 0])), (q86, .inr (2, [.ref q87, .ref q88, .int 0])), (q87, .inl (cA 0, 50, .inl (fun _ => 0))), (q88, .inl (cA 0, 50, .inl (fun _ => 0))), (q89, .inr (6, [.ref q90, .int 0, .int 0, .int 0, .int 0])), (q90, .inl (cA 0, 40, .inl (fun _ => 0))), (q91, .inl (cA 3, 4, .inr (.inr (.inr (.inr g95))))), (q92, .inl (cA 0, 6, .inl (fun _ => 0))), (q93, .inr (5, [.ref q94, .int 0, .int 0])), (q94, .inl (cA 0, 40, .inl (fun _ => 0)))]) (X5_init_made q96) ok_X5_init (Or.inr (by simp [nestA])) (by decide) rfl rfl (Nat.le_of_ble_eq_true rfl) [77] [0, 1, 2, 3, 4, 5, 6, 7, 8, 9, 10, 11, 12, 13, 14, 15, 16, 17, 18, 19, 20, 21, 22, 23, 24, 25, 26, 27, 28, 29, 30, 31, 32, 33, 34, 35, 36, 37, 38, 39, 40, 41, 42, 43, 44, 45, 46, 47, 48, 49, 50, 51, 52, 53, 54, 55, 56, 57, 58, 59, 60, 61, 62, 63, 64, 65, 66, 67, 68, 69, 70, 71, 72, 73, 74, 75, 76] rfl rfl (by decide) (by decide) (by decide) (by decide) (by decide) dX7_init_117 ?_
  rintro w ⟨q97, rfl⟩
  refine A_ws (ws2 := [(h0, .inr (7, [.ref q1, .ref q27, .ref q53, .ref q79, .ref q82, .ref q85, .ref q89, .ref q91, .ref q92, .int 0])), (q1, .inr (1, [.ref q9, .ref q10, .ref q2, .ref q3, .ref q6, .int 0, .int 0, .int 0])), (q2, .inl (cA 2, 10, .inr (.inr (.inr (.inr g21))))), (q3, .inr (2, [.ref q4, .ref q5, .int 0])), (q4, .inl (cA 0, 50, .inl (fun _ => 0))), (q5, .inl (cA 0, 50, .inl (fun _ => 0))), (q6, .inr (2, [.ref q7, .ref q8, .int 0])), (q7, .inl (cA 0, 50, .inl (fun _ => 0))), (q8, .inl (cA 0, 50, .inl (fun _ => 0))), (q9, .inl (cA 0, 5, .inl g22)), (q10, .inl (cA 0, 5, .inl g23)), (q11, .inr (3, [.int 0, .int 0, .int 0, .int 0, .int 0, .int 0, .int 0, .int 0])), (q12, .inr (3, [.int 0, .int 0, .int 0, .int 0, .int 0, .int 0, .int 0, .int 0])), (q13, .inr (3, [.int 0, .int 0, .int 0, .int 0, .int 0, .int 0, .int 0, .int 0])), (q14, .inr (3, [.int 0, .int 0, .int 0, .int 0, .int 0, .int 0, .int 0, .int 0])), (q15, .inr (3, [.int 0, .int 0, .int 0, .int 0, .int 0, .int 0, .int 0, .int 0])), (q16, .inr (3, [.int 0, .int 0, .int 0, .int 0, .int 0, .int 0, .int 0, .int 0])), (q17, .inr (3, [.int 0, .int 0, .int 0, .int 0, .int 0, .int 0, .int 0, .int 0])), (q18, .inr (3, [.int 0, .int 0, .int 0, .int 0, .int 0, .int 0, .int 0, .int 0])), (q19, .inr (3, [.int 0, .int 0, .int 0, .int 0, .int 0, .int 0, .int 0, .int 0])), (q20, .inr (3, [.int 0, .int 0, .int 0, .int 0, .int 0, .int 0, .int 0, .int 0])), (q27, .inr (1, [.ref q35, .ref q36, .ref q28, .ref q29, .ref q32, .int 0, .int 0, .int 0])), (q28, .inl (cA 2, 10, .inr (.inr (.inr (.inr g47))))), (q29, .inr (2, [.ref q30, .ref q31, .int 0])), (q30, .inl (cA 0, 50, .inl (fun _ => 0))), (q31, .inl (cA 0, 50, .inl (fun _ => 0))), (q32, .inr (2, [.ref q33, .ref q34, .int 0])), (q33, .inl (cA 0, 50, .inl (fun _ => 0))), (q34, .inl (cA 0, 50, .inl (fun _ => 0))), (q35, .inl (cA 0, 5, .inl g48)), (q36, .inl (cA 0, 5, .inl g49)), (q37, .inr (3, [.int 0, .int 0, .int 0, .int 0, .int 0, .int 0, .int 0, .int 0])), (q38, .inr (3, [.int 0, .int 0, .int 0, .int 0, .int 0, .int 0, .int 0, .int 0])), (q39, .inr (3, [.int 0, .int 0, .int 0, .int 0, .int 0, .int 0, .int 0, .int 0])), (q40, .inr (3, [.int 0, .int 0, .int 0, .int 0, .int 0, .int 0, .int 0, .int 0])), (q41, .inr (3, [.int 0, .int 0, .int 0, .int 0, .int 0, .int 0, .int 0, .int 0])), (q42, .inr (3, [.int 0, .int 0, .int 0, .int 0, .int 0, .int 0, .int 0, .int 0])), (q43, .inr (3, [.int 0, .int 0, .int 0, .int 0, .int 0, .int 0, .int 0, .int 0])), (q44, .inr (3, [.int 0, .int 0, .int 0, .int 0, .int 0, .int 0, .int 0, .int 0])), (q45, .inr (3, [.int 0, .int 0, .int 0, .int 0, .int 0, .int 0, .int 0, .int 0])), (q46, .inr (3, [.int 0, .int 0, .int 0, .int 0, .int 0, .int 0, .int 0, .int 0])), (q53, .inr (1, [.ref q61, .ref q62, .ref q54, .ref q55, .ref q58, .int 0, .int 0, .int 0])), (q54, .inl (cA 2, 10, .inr (.inr (.inr (.inr g73))))), (q55, .inr (2, [.ref q56, .ref q57, .int 0])), (q56, .inl (cA 0, 50, .inl (fun _ => 0))), (q57, .inl (cA 0, 50, .inl (fun _ => 0))), (q58, .inr (2, [.ref q59, .ref q60, .int 0])), (q59, .inl (cA 0, 50, .inl (fun _ => 0))), (q60, .inl (cA 0, 50, .inl (fun _ => 0))), (q61, .inl (cA 0, 5, .inl g74)), (q62, .inl (cA 0, 5, .inl g75)), (q63, .inr (3, [.int 0, .int 0, .int 0, .int 0, .int 0, .int 0, .int 0, .int 0])), (q64, .inr (3, [.int 0, .int 0, .int 0, .int 0, .int 0, .int 0, .int 0, .int 0])), (q65, .inr (3, [.int 0, .int 0, .int 0, .int 0, .int 0, .int 0, .int 0, .int 0])), (q66, .inr (3, [.int 0, .int 0, .int 0, .int 0, .int 0, .int 0, .int 0, .int 0])), (q67, .inr (3, [.int 0, .int 0, .int 0, .int 0, .int 0, .int 0, .int 0, .int 0])), (q68, .inr (3, [.int 0, .int 0, .int 0, .int 0, .int 0, .int 0, .int 0, .int 0])), (q69, .inr (3, [.int 0, .int 0, .int 0, .int 0, .int 0, .int 0, .int 0, .int 0])), (q70, .inr (3, [.int 0, .int 0, .int 0, .int 0, .int 0, .int 0, .int 0, .int 0])), (q71, .inr (3, [.int 0, .int 0, .int 0, .int 0, .int 0, .int 0, .int 0, .int 0])), (q72, .inr (3, [.int 0, .int 0, .int 0, .int 0, .int 0, .int 0, .int 0, .int 0])), (q79, .inr (0, [.ref q80, .ref q81, .int 0, .int 0, .int 1])), (q80, .inl (cA 1, 50, .inl (fun _ => 0))), (q81, .inl (cA 0, 20, .inl (fun _ => 0))), (q82, .inr (0, [.ref q83, .ref q84, .int 0, .int 0, .int 1])), (q83, .inl (cA 1, 50, .inl (fun _ => 0))), (q84, .inl (cA 0, 20, .inl (fun _ => 0))), (q85, .inr (4, [.ref q86, .ref q79, .int 0, .int 0])), (q86, .inr (2, [.ref q87, .ref q88, .int 0])), (q87, .inl (cA 0, 50, .inl (fun _ => 0))), (q88, .inl (cA 0, 50, .inl (fun _ => 0))), (q89, .inr (6, [.ref q90, .int 0, .int 0, .int 0, .int 0])), (q90, .inl (cA 0, 40, .inl (fun _ => 0))), (q91, .inl (cA 3, 4, .inr (.inr (.inr (.inr g95))))), (q92, .inl (cA 0, 6, .inl (fun _ => 0))), (q93, .inr (5, [.ref q94, .int 0, .int 0])), (q94, .inl (cA 0, 40, .inl (fun _ => 0))), (q96, .inr (5, [.ref q97, .int 0, .int 0])), (q97, .inl (cA 0, 40, .inl (fun _ => 0)))]) rfl ?_
  obtain ⟨g98, eg98⟩ : ∃ g : Nat → Option Nat, va_up g95 (1 : Int32).toNatClampNeg (some q96) = g := ⟨_, rfl⟩
  refine A_astq (j := 3) (ci := 5) (f2 := g98) (ws2 := [(h0, .inr (7, [.ref q1, .ref q27, .ref q53, .ref q79, .ref q82, .ref q85, .ref q89, .ref q91, .ref q92, .int 0])), (q1, .inr (1, [.ref q9, .ref q10, .ref q2, .ref q3, .ref q6, .int 0, .int 0, .int 0])), (q2, .inl (cA 2, 10, .inr (.inr (.inr (.inr g21))))), (q3, .inr (2, [.ref q4, .ref q5, .int 0])), (q4, .inl (cA 0, 50, .inl (fun _ => 0))), (q5, .inl (cA 0, 50, .inl (fun _ => 0))), (q6, .inr (2, [.ref q7, .ref q8, .int 0])), (q7, .inl (cA 0, 50, .inl (fun _ => 0))), (q8, .inl (cA 0, 50, .inl (fun _ => 0))), (q9, .inl (cA 0, 5, .inl g22)), (q10, .inl (cA 0, 5, .inl g23)), (q11, .inr (3, [.int 0, .int 0, .int 0, .int 0, .int 0, .int 0, .int 0, .int 0])), (q12, .inr (3, [.int 0, .int 0, .int 0, .int 0, .int 0, .int 0, .int 0, .int 0])), (q13, .inr (3, [.int 0, .int 0, .int 0, .int 0, .int 0, .int 0, .int 0, .int 0])), (q14, .inr (3, [.int 0, .int 0, .int 0, .int 0, .int 0, .int 0, .int 0, .int 0])), (q15, .inr (3, [.int 0, .int 0, .int 0, .int 0, .int 0, .int 0, .int 0, .int 0])), (q16, .inr (3, [.int 0, .int 0, .int 0, .int 0, .int 0, .int 0, .int 0, .int 0])), (q17, .inr (3, [.int 0, .int 0, .int 0, .int 0, .int 0, .int 0, .int 0, .int 0])), (q18, .inr (3, [.int 0, .int 0, .int 0, .int 0, .int 0, .int 0, .int 0, .int 0])), (q19, .inr (3, [.int 0, .int 0, .int 0, .int 0, .int 0, .int 0, .int 0, .int 0])), (q20, .inr (3, [.int 0, .int 0, .int 0, .int 0, .int 0, .int 0, .int 0, .int 0])), (q27, .inr (1, [.ref q35, .ref q36, .ref q28, .ref q29, .ref q32, .int 0, .int 0, .int 0])), (q28, .inl (cA 2, 10, .inr (.inr (.inr (.inr g47))))), (q29, .inr (2, [.ref q30, .ref q31, .int 0])), (q30, .inl (cA 0, 50, .inl (fun _ => 0))), (q31, .inl (cA 0, 50, .inl (fun _ => 0))), (q32, .inr (2, [.ref q33, .ref q34, .int 0])), (q33, .inl (cA 0, 50, .inl (fun _ => 0))), (q34, .inl (cA 0, 50, .inl (fun _ => 0))), (q35, .inl (cA 0, 5, .inl g48)), (q36, .inl (cA 0, 5, .inl g49)), (q37, .inr (3, [.int 0, .int 0, .int 0, .int 0, .int 0, .int 0, .int 0, .int 0])), (q38, .inr (3, [.int 0, .int 0, .int 0, .int 0, .int 0, .int 0, .int 0, .int 0])), (q39, .inr (3, [.int 0, .int 0, .int 0, .int 0, .int 0, .int 0, .int 0, .int 0])), (q40, .inr (3, [.int 0, .int 0, .int 0, .int 0, .int 0, .int 0, .int 0, .int 0])), (q41, .inr (3, [.int 0, .int 0, .int 0, .int 0, .int 0, .int 0, .int 0, .int 0])), (q42, .inr (3, [.int 0, .int 0, .int 0, .int 0, .int 0, .int 0, .int 0, .int 0])), (q43, .inr (3, [.int 0, .int 0, .int 0, .int 0, .int 0, .int 0, .int 0, .int 0])), (q44, .inr (3, [.int 0, .int 0, .int 0, .int 0, .int 0, .int 0, .int 0, .int 0])), (q45, .inr (3, [.int 0, .int 0, .int 0, .int 0, .int 0, .int 0, .int 0, .int 0])), (q46, .inr (3, [.int 0, .int 0, .int 0, .int 0, .int 0, .int 0, .int 0, .int 0])), (q53, .inr (1, [.ref q61, .ref q62, .ref q54, .ref q55, .ref q58, .int 0, .int 0, .int 0])), (q54, .inl (cA 2, 10, .inr (.inr (.inr (.inr g73))))), (q55, .inr (2, [.ref q56, .ref q57, .int 0])), (q56, .inl (cA 0, 50, .inl (fun _ => 0))), (q57, .inl (cA 0, 50, .inl (fun _ => 0))), (q58, .inr (2, [.ref q59, .ref q60, .int 0])), (q59, .inl (cA 0, 50, .inl (fun _ => 0))), (q60, .inl (cA 0, 50, .inl (fun _ => 0))), (q61, .inl (cA 0, 5, .inl g74)), (q62, .inl (cA 0, 5, .inl g75)), (q63, .inr (3, [.int 0, .int 0, .int 0, .int 0, .int 0, .int 0, .int 0, .int 0])), (q64, .inr (3, [.int 0, .int 0, .int 0, .int 0, .int 0, .int 0, .int 0, .int 0])), (q65, .inr (3, [.int 0, .int 0, .int 0, .int 0, .int 0, .int 0, .int 0, .int 0])), (q66, .inr (3, [.int 0, .int 0, .int 0, .int 0, .int 0, .int 0, .int 0, .int 0])), (q67, .inr (3, [.int 0, .int 0, .int 0, .int 0, .int 0, .int 0, .int 0, .int 0])), (q68, .inr (3, [.int 0, .int 0, .int 0, .int 0, .int 0, .int 0, .int 0, .int 0])), (q69, .inr (3, [.int 0, .int 0, .int 0, .int 0, .int 0, .int 0, .int 0, .int 0])), (q70, .inr (3, [.int 0, .int 0, .int 0, .int 0, .int 0, .int 0, .int 0, .int 0])), (q71, .inr (3, [.int 0, .int 0, .int 0, .int 0, .int 0, .int 0, .int 0, .int 0])), (q72, .inr (3, [.int 0, .int 0, .int 0, .int 0, .int 0, .int 0, .int 0, .int 0])), (q79, .inr (0, [.ref q80, .ref q81, .int 0, .int 0, .int 1])), (q80, .inl (cA 1, 50, .inl (fun _ => 0))), (q81, .inl (cA 0, 20, .inl (fun _ => 0))), (q82, .inr (0, [.ref q83, .ref q84, .int 0, .int 0, .int 1])), (q83, .inl (cA 1, 50, .inl (fun _ => 0))), (q84, .inl (cA 0, 20, .inl (fun _ => 0))), (q85, .inr (4, [.ref q86, .ref q79, .int 0, .int 0])), (q86, .inr (2, [.ref q87, .ref q88, .int 0])), (q87, .inl (cA 0, 50, .inl (fun _ => 0))), (q88, .inl (cA 0, 50, .inl (fun _ => 0))), (q89, .inr (6, [.ref q90, .int 0, .int 0, .int 0, .int 0])), (q90, .inl (cA 0, 40, .inl (fun _ => 0))), (q91, .inl (cA 3, 4, .inr (.inr (.inr (.inr g98))))), (q92, .inl (cA 0, 6, .inl (fun _ => 0))), (q93, .inr (5, [.ref q94, .int 0, .int 0])), (q94, .inl (cA 0, 40, .inl (fun _ => 0))), (q96, .inr (5, [.ref q97, .int 0, .int 0])), (q97, .inl (cA 0, 40, .inl (fun _ => 0)))]) 73 77 rfl rfl rfl rfl (ib_in (by decide)) eg98 rfl dX7_init_120 ?_
  refine A_iinc (v := 2) (L2 := [(1, .int 2), (0, .ref h0)]) dX7_init_121 0 rfl (by decide) (by decide) rfl ?_
  refine A_goto (tgt := 103) dX7_init_124 (by decide) ?_
  refine A_iload_n dX7_init_103 0 rfl ?_
  refine A_iconst (v := 4) dX7_init_104 (by decide) ?_
  refine A_ge_f (by decide) dX7_init_105 (tgt := 127) (by decide) ?_
  refine A_aload_n dX7_init_108 1 rfl ?_
  refine A_get (C0 := RX7) (T := TX7) (k0 := 7) (v := .ref q91) rfl inT_7 rfl fl_X7_50 0 rfl (by decide) rfl dX7_init_109 ?_
  refine A_iload_n dX7_init_112 0 rfl ?_
  refine A_new (ci := 5) (C0 := RX5) (T := TX5) (ty := tyX5) (fs := [.null, .int 0, .int 0]) rfl inT_5 tyX5_ok cl_X7_48 iw_5 in_5 rfl df_5 (by decide) (by decide) dX7_init_113 (fun q99 => ?_)
  refine A_ws (ws2 := [(h0, .inr (7, [.ref q1, .ref q27, .ref q53, .ref q79, .ref q82, .ref q85, .ref q89, .ref q91, .ref q92, .int 0])), (q1, .inr (1, [.ref q9, .ref q10, .ref q2, .ref q3, .ref q6, .int 0, .int 0, .int 0])), (q2, .inl (cA 2, 10, .inr (.inr (.inr (.inr g21))))), (q3, .inr (2, [.ref q4, .ref q5, .int 0])), (q4, .inl (cA 0, 50, .inl (fun _ => 0))), (q5, .inl (cA 0, 50, .inl (fun _ => 0))), (q6, .inr (2, [.ref q7, .ref q8, .int 0])), (q7, .inl (cA 0, 50, .inl (fun _ => 0))), (q8, .inl (cA 0, 50, .inl (fun _ => 0))), (q9, .inl (cA 0, 5, .inl g22)), (q10, .inl (cA 0, 5, .inl g23)), (q11, .inr (3, [.int 0, .int 0, .int 0, .int 0, .int 0, .int 0, .int 0, .int 0])), (q12, .inr (3, [.int 0, .int 0, .int 0, .int 0, .int 0, .int 0, .int 0, .int 0])), (q13, .inr (3, [.int 0, .int 0, .int 0, .int 0, .int 0, .int 0, .int 0, .int 0])), (q14, .inr (3, [.int 0, .int 0, .int 0, .int 0, .int 0, .int 0, .int 0, .int 0])), (q15, .inr (3, [.int 0, .int 0, .int 0, .int 0, .int 0, .int 0, .int 0, .int 0])), (q16, .inr (3, [.int 0, .int 0, .int 0, .int 0, .int 0, .int 0, .int 0, .int 0])), (q17, .inr (3, [.int 0, .int 0, .int 0, .int 0, .int 0, .int 0, .int 0, .int 0])), (q18, .inr (3, [.int 0, .int 0, .int 0, .int 0, .int 0, .int 0, .int 0, .int 0])), (q19, .inr (3, [.int 0, .int 0, .int 0, .int 0, .int 0, .int 0, .int 0, .int 0])), (q20, .inr (3, [.int 0, .int 0, .int 0, .int 0, .int 0, .int 0, .int 0, .int 0])), (q27, .inr (1, [.ref q35, .ref q36, .ref q28, .ref q29, .ref q32, .int 0, .int 0, .int 0])), (q28, .inl (cA 2, 10, .inr (.inr (.inr (.inr g47))))), (q29, .inr (2, [.ref q30, .ref q31, .int 0])), (q30, .inl (cA 0, 50, .inl (fun _ => 0))), (q31, .inl (cA 0, 50, .inl (fun _ => 0))), (q32, .inr (2, [.ref q33, .ref q34, .int 0])), (q33, .inl (cA 0, 50, .inl (fun _ => 0))), (q34, .inl (cA 0, 50, .inl (fun _ => 0))), (q35, .inl (cA 0, 5, .inl g48)), (q36, .inl (cA 0, 5, .inl g49)), (q37, .inr (3, [.int 0, .int 0, .int 0, .int 0, .int 0, .int 0, .int 0, .int 0])), (q38, .inr (3, [.int 0, .int 0, .int 0, .int 0, .int 0, .int 0, .int 0, .int 0])), (q39, .inr (3, [.int 0, .int 0, .int 0, .int 0, .int 0, .int 0, .int 0, .int 0])), (q40, .inr (3, [.int 0, .int 0, .int 0, .int 0, .int 0, .int 0, .int 0, .int 0])), (q41, .inr (3, [.int 0, .int 0, .int 0, .int 0, .int 0, .int 0, .int 0, .int 0])), (q42, .inr (3, [.int 0, .int 0, .int 0, .int 0, .int 0, .int 0, .int 0, .int 0])), (q43, .inr (3, [.int 0, .int 0, .int 0, .int 0, .int 0, .int 0, .int 0, .int 0])), (q44, .inr (3, [.int 0, .int 0, .int 0, .int 0, .int 0, .int 0, .int 0, .int 0])), (q45, .inr (3, [.int 0, .int 0, .int 0, .int 0, .int 0, .int 0, .int 0, .int 0])), (q46, .inr (3, [.int 0, .int 0, .int 0, .int 0, .int 0, .int 0, .int 0, .int 0])), (q53, .inr (1, [.ref q61, .ref q62, .ref q54, .ref q55, .ref q58, .int 0, .int 0, .int 0])), (q54, .inl (cA 2, 10, .inr (.inr (.inr (.inr g73))))), (q55, .inr (2, [.ref q56, .ref q57, .int 0])), (q56, .inl (cA 0, 50, .inl (fun _ => 0))), (q57, .inl (cA 0, 50, .inl (fun _ => 0))), (q58, .inr (2, [.ref q59, .ref q60, .int 0])), (q59, .inl (cA 0, 50, .inl (fun _ => 0))), (q60, .inl (cA 0, 50, .inl (fun _ => 0))), (q61, .inl (cA 0, 5, .inl g74)), (q62, .inl (cA 0, 5, .inl g75)), (q63, .inr (3, [.int 0, .int 0, .int 0, .int 0, .int 0, .int 0, .int 0, .int 0])), (q64, .inr (3, [.int 0, .int 0, .int 0, .int 0, .int 0, .int 0, .int 0, .int 0])), (q65, .inr (3, [.int 0, .int 0, .int 0, .int 0, .int 0, .int 0, .int 0, .int 0])), (q66, .inr (3, [.int 0, .int 0, .int 0, .int 0, .int 0, .int 0, .int 0, .int 0])), (q67, .inr (3, [.int 0, .int 0, .int 0, .int 0, .int 0, .int 0, .int 0, .int 0])), (q68, .inr (3, [.int 0, .int 0, .int 0, .int 0, .int 0, .int 0, .int 0, .int 0])), (q69, .inr (3, [.int 0, .int 0, .int 0, .int 0, .int 0, .int 0, .int 0, .int 0])), (q70, .inr (3, [.int 0, .int 0, .int 0, .int 0, .int 0, .int 0, .int 0, .int 0])), (q71, .inr (3, [.int 0, .int 0, .int 0, .int 0, .int 0, .int 0, .int 0, .int 0])), (q72, .inr (3, [.int 0, .int 0, .int 0, .int 0, .int 0, .int 0, .int 0, .int 0])), (q79, .inr (0, [.ref q80, .ref q81, .int 0, .int 0, .int 1])), (q80, .inl (cA 1, 50, .inl (fun _ => 0))), (q81, .inl (cA 0, 20, .inl (fun _ => 0))), (q82, .inr (0, [.ref q83, .ref q84, .int 0, .int 0, .int 1])), (q83, .inl (cA 1, 50, .inl (fun _ => 0))), (q84, .inl (cA 0, 20, .inl (fun _ => 0))), (q85, .inr (4, [.ref q86, .ref q79, .int 0, .int 0])), (q86, .inr (2, [.ref q87, .ref q88, .int 0])), (q87, .inl (cA 0, 50, .inl (fun _ => 0))), (q88, .inl (cA 0, 50, .inl (fun _ => 0))), (q89, .inr (6, [.ref q90, .int 0, .int 0, .int 0, .int 0])), (q90, .inl (cA 0, 40, .inl (fun _ => 0))), (q91, .inl (cA 3, 4, .inr (.inr (.inr (.inr g98))))), (q92, .inl (cA 0, 6, .inl (fun _ => 0))), (q93, .inr (5, [.ref q94, .int 0, .int 0])), (q94, .inl (cA 0, 40, .inl (fun _ => 0))), (q96, .inr (5, [.ref q97, .int 0, .int 0])), (q97, .inl (cA 0, 40, .inl (fun _ => 0))), (q99, .inr (5, [.null, .int 0, .int 0]))]) rfl ?_
  refine A_dup rfl dX7_init_116 ?_
  refine A_callI (wr := [(h0, .inr (7, [.ref q1, .ref q27, .ref q53, .ref q79, .ref q82, .ref q85, .ref q89, .ref q91, .ref q92, .int 0])), (q1, .inr (1, [.ref q9, .ref q10, .ref q2, .ref q3, .ref q6, .int 0, .int 0, .int 0])), (q2, .inl (cA 2, 10, .inr (.inr (.inr (.inr g21))))), (q3, .inr (2, [.ref q4, .ref q5, .int 0])), (q4, .inl (cA 0, 50, .inl (fun _ => 0))), (q5, .inl (cA 0, 50, .inl (fun _ => 0))), (q6, .inr (2, [.ref q7, .ref q8, .int 0])), (q7, .inl (cA 0, 50, .inl (fun _ => 0))), (q8, .inl (cA 0, 50, .inl (fun _ => 0))), (q9, .inl (cA 0, 5, .inl g22)), (q10, .inl (cA 0, 5, .inl g23)), (q11, .inr (3, [.int 0, .int 0, .int 0, .int 0, .int 0, .int 0, .int 0, .int 0])), (q12, .inr (3, [.int 0, .int 0, .int 0, .int 0, .int 0, .int 0, .int 0, .int 0])), (q13, .inr (3, [.int 0, .int 0, .int 0, .int 0, .int 0, .int 0, .int 0, .int 0])), (q14, .inr (3, [.int 0, .int 0, .int 0, .int 0, .int 0, .int 0, .int 0, .int 0])), (q15, .inr (3, [.int 0, .int 0, .int 0, .int 0, .int 0, .int 0, .int 0, .int 0])), (q16, .inr (3, [.int 0, .int 0, .int 0, .int 0, .int 0, .int 0, .int 0, .int 0])), (q17, .inr (3, [.int 0, .int 0, .int 0, .int 0, .int 0, .int 0, .int 0, .int 0])), (q18, .inr (3, [.int 0, .int 0, .int 0, .int 0, .int 0, .int 0, .int 0, .int 0])), (q19, .inr (3, [.int 0, .int 0, .int 0, .int 0, .int 0, .int 0, .int 0, .int 0])), (q20, .inr (3, [.int 0, .int 0, .int 0, .int 0, .int 0, .int 0, .int 0, .int 0])), (q27, .inr (1, [.ref q35, .ref q36, .ref q28, .ref q29, .ref q32, .int 0, .int 0, .int 0])), (q28, .inl (cA 2, 10, .inr (.inr (.inr (.inr g47))))), (q29, .inr (2, [.ref q30, .ref q31, .int 0])), (q30, .inl (cA 0, 50, .inl (fun _ => 0))), (q31, .inl (cA 0, 50, .inl (fun _ => 0))), (q32, .inr (2, [.ref q33, .ref q34, .int 0])), (q33, .inl (cA 0, 50, .inl (fun _ => 0))), (q34, .inl (cA 0, 50, .inl (fun _ => 0))), (q35, .inl (cA 0, 5, .inl g48)), (q36, .inl (cA 0, 5, .inl g49)), (q37, .inr (3, [.int 0, .int 0, .int 0, .int 0, .int 0, .int 0, .int 0, .int 0])), (q38, .inr (3, [.int 0, .int 0, .int 0, .int 0, .int 0, .int 0, .int 0, .int 0])), (q39, .inr (3, [.int 0, .int 0, .int 0, .int 0, .int 0, .int 0, .int 0, .int 0])), (q40, .inr (3, [.int 0, .int 0, .int 0, .int 0, .int 0, .int 0, .int 0, .int 0])), (q41, .inr (3, [.int 0, .int 0, .int 0, .int 0, .int 0, .int 0, .int 0, .int 0])), (q42, .inr (3, [.int 0, .int 0, .int 0, .int 0, .int 0, .int 0, .int 0, .int 0])), (q43, .inr (3, [.int 0, .int 0, .int 0, .int 0, .int 0, .int 0, .int 0, .int 0])), (q44, .inr (3, [.int 0, .int 0, .int 0, .int 0, .int 0, .int 0, .int 0, .int 0])), (q45, .inr (3, [.int 0, .int 0, .int 0, .int 0, .int 0, .int 0, .int 0, .int 0])), (q46, .inr (3, [.int 0, .int 0, .int 0, .int 0, .int 0, .int 0, .int 0, .int 0])), (q53, .inr (1, [.ref q61, .ref q62, .ref q54, .ref q55, .ref q58, .int 0, .int 0, .int 0])), (q54, .inl (cA 2, 10, .inr (.inr (.inr (.inr g73))))), (q55, .inr (2, [.ref q56, .ref q57, .int 0])), (q56, .inl (cA 0, 50, .inl (fun _ => 0))), (q57, .inl (cA 0, 50, .inl (fun _ => 0))), (q58, .inr (2, [.ref q59, .ref q60, .int 0])), (q59, .inl (cA 0, 50, .inl (fun _ => 0))), (q60, .inl (cA 0, 50, .inl (fun _ => 0))), (q61, .inl (cA 0, 5, .inl g74)), (q62, .inl (cA 0, 5, .inl g75)), (q63, .inr (3, [.int 0, .int 0, .int 0, .int 0, .int 0, .int 0, .int 0, .int 0])), (q64, .inr (3, [.int 0, .int 0, .int 0, .int 0, .int 0, .int 0, .int 0, .int 0])), (q65, .inr (3, [.int 0, .int 0, .int 0, .int 0, .int 0, .int 0, .int 0, .int 0])), (q66, .inr (3, [.int 0, .int 0, .int 0, .int 0, .int 0, .int 0, .int 0, .int 0])), (q67, .inr (3, [.int 0, .int 0, .int 0, .int 0, .int 0, .int 0, .int 0, .int 0])), (q68, .inr (3, [.int 0, .int 0, .int 0, .int 0, .int 0, .int 0, .int 0, .int 0])), (q69, .inr (3, [.int 0, .int 0, .int 0, .int 0, .int 0, .int 0, .int 0, .int 0])), (q70, .inr (3, [.int 0, .int 0, .int 0, .int 0, .int 0, .int 0, .int 0, .int 0])), (q71, .inr (3, [.int 0, .int 0, .int 0, .int 0, .int 0, .int 0, .int 0, .int 0])), (q72, .inr (3, [.int 0, .int 0, .int 0, .int 0, .int 0, .int 0, .int 0, .int 0])), (q79, .inr (0, [.ref q80, .ref q81, .int 0, .int 0, .int 1])), (q80, .inl (cA 1, 50, .inl (fun _ => 0))), (q81, .inl (cA 0, 20, .inl (fun _ => 0))), (q82, .inr (0, [.ref q83, .ref q84, .int 0, .int 0, .int 1])), (q83, .inl (cA 1, 50, .inl (fun _ => 0))), (q84, .inl (cA 0, 20, .inl (fun _ => 0))), (q85, .inr (4, [.ref q86, .ref q79, .int 0, .int 0])), (q86, .inr (2, [.ref q87, .ref q88, .int 0])), (q87, .inl (cA 0, 50, .inl (fun _ => 0))), (q88, .inl (cA 0, 50, .inl (fun _ => 0))), (q89, .inr (6, [.ref q90, .int 0, .int 0, .int 0, .int 0])), (q90, .inl (cA 0, 40, .inl (fun _ => 0))), (q91, .inl (cA 3, 4, .inr (.inr (.inr (.inr g98))))), (q92, .inl (cA 0, 6, .inl (fun _ => 0))), (q93, .inr (5, [.ref q94, .int 0, .int 0])), (q94, .inl (cA 0, 40, .inl (fun _ => 0))), (q96, .inr (5, [.ref q97, .int 0, .int 0])), (q97, .inl (cA 0, 40, .inl (fun _ => 0)))]) (X5_init_made q99) ok_X5_init (Or.inr (by simp [nestA])) (by decide) rfl rfl (Nat.le_of_ble_eq_true rfl) [79] [0, 1, 2, 3, 4, 5, 6, 7, 8, 9, 10, 11, 12, 13, 14, 15, 16, 17, 18, 19, 20, 21, 22, 23, 24, 25, 26, 27, 28, 29, 30, 31, 32, 33, 34, 35, 36, 37, 38, 39, 40, 41, 42, 43, 44, 45, 46, 47, 48, 49, 50, 51, 52, 53, 54, 55, 56, 57, 58, 59, 60, 61, 62, 63, 64, 65, 66, 67, 68, 69, 70, 71, 72, 73, 74, 75, 76, 77, 78] rfl rfl (by decide) (by decide) (by decide) (by decide) (by decide) dX7_init_117 ?_
  rintro w ⟨q100, rfl⟩
  refine A_ws (ws2 := [(h0, .inr (7, [.ref q1, .ref q27, .ref q53, .ref q79, .ref q82, .ref q85, .ref q89, .ref q91, .ref q92, .int 0])), (q1, .inr (1, [.ref q9, .ref q10, .ref q2, .ref q3, .ref q6, .int 0, .int 0, .int 0])), (q2, .inl (cA 2, 10, .inr (.inr (.inr (.inr g21))))), (q3, .inr (2, [.ref q4, .ref q5, .int 0])), (q4, .inl (cA 0, 50, .inl (fun _ => 0))), (q5, .inl (cA 0, 50, .inl (fun _ => 0))), (q6, .inr (2, [.ref q7, .ref q8, .int 0])), (q7, .inl (cA 0, 50, .inl (fun _ => 0))), (q8, .inl (cA 0, 50, .inl (fun _ => 0))), (q9, .inl (cA 0, 5, .inl g22)), (q10, .inl (cA 0, 5, .inl g23)), (q11, .inr (3, [.int 0, .int 0, .int 0, .int 0, .int 0, .int 0, .int 0, .int 0])), (q12, .inr (3, [.int 0, .int 0, .int 0, .int 0, .int 0, .int 0, .int 0, .int 0])), (q13, .inr (3, [.int 0, .int 0, .int 0, .int 0, .int 0, .int 0, .int 0, .int 0])), (q14, .inr (3, [.int 0, .int 0, .int 0, .int 0, .int 0, .int 0, .int 0, .int 0])), (q15, .inr (3, [.int 0, .int 0, .int 0, .int 0, .int 0, .int 0, .int 0, .int 0])), (q16, .inr (3, [.int 0, .int 0, .int 0, .int 0, .int 0, .int 0, .int 0, .int 0])), (q17, .inr (3, [.int 0, .int 0, .int 0, .int 0, .int 0, .int 0, .int 0, .int 0])), (q18, .inr (3, [.int 0, .int 0, .int 0, .int 0, .int 0, .int 0, .int 0, .int 0])), (q19, .inr (3, [.int 0, .int 0, .int 0, .int 0, .int 0, .int 0, .int 0, .int 0])), (q20, .inr (3, [.int 0, .int 0, .int 0, .int 0, .int 0, .int 0, .int 0, .int 0])), (q27, .inr (1, [.ref q35, .ref q36, .ref q28, .ref q29, .ref q32, .int 0, .int 0, .int 0])), (q28, .inl (cA 2, 10, .inr (.inr (.inr (.inr g47))))), (q29, .inr (2, [.ref q30, .ref q31, .int 0])), (q30, .inl (cA 0, 50, .inl (fun _ => 0))), (q31, .inl (cA 0, 50, .inl (fun _ => 0))), (q32, .inr (2, [.ref q33, .ref q34, .int 0])), (q33, .inl (cA 0, 50, .inl (fun _ => 0))), (q34, .inl (cA 0, 50, .inl (fun _ => 0))), (q35, .inl (cA 0, 5, .inl g48)), (q36, .inl (cA 0, 5, .inl g49)), (q37, .inr (3, [.int 0, .int 0, .int 0, .int 0, .int 0, .int 0, .int 0, .int 0])), (q38, .inr (3, [.int 0, .int 0, .int 0, .int 0, .int 0, .int 0, .int 0, .int 0])), (q39, .inr (3, [.int 0, .int 0, .int 0, .int 0, .int 0, .int 0, .int 0, .int 0])), (q40, .inr (3, [.int 0, .int 0, .int 0, .int 0, .int 0, .int 0, .int 0, .int 0])), (q41, .inr (3, [.int 0, .int 0, .int 0, .int 0, .int 0, .int 0, .int 0, .int 0])), (q42, .inr (3, [.int 0, .int 0, .int 0, .int 0, .int 0, .int 0, .int 0, .int 0])), (q43, .inr (3, [.int 0, .int 0, .int 0, .int 0, .int 0, .int 0, .int 0, .int 0])), (q44, .inr (3, [.int 0, .int 0, .int 0, .int 0, .int 0, .int 0, .int 0, .int 0])), (q45, .inr (3, [.int 0, .int 0, .int 0, .int 0, .int 0, .int 0, .int 0, .int 0])), (q46, .inr (3, [.int 0, .int 0, .int 0, .int 0, .int 0, .int 0, .int 0, .int 0])), (q53, .inr (1, [.ref q61, .ref q62, .ref q54, .ref q55, .ref q58, .int 0, .int 0, .int 0])), (q54, .inl (cA 2, 10, .inr (.inr (.inr (.inr g73))))), (q55, .inr (2, [.ref q56, .ref q57, .int 0])), (q56, .inl (cA 0, 50, .inl (fun _ => 0))), (q57, .inl (cA 0, 50, .inl (fun _ => 0))), (q58, .inr (2, [.ref q59, .ref q60, .int 0])), (q59, .inl (cA 0, 50, .inl (fun _ => 0))), (q60, .inl (cA 0, 50, .inl (fun _ => 0))), (q61, .inl (cA 0, 5, .inl g74)), (q62, .inl (cA 0, 5, .inl g75)), (q63, .inr (3, [.int 0, .int 0, .int 0, .int 0, .int 0, .int 0, .int 0, .int 0])), (q64, .inr (3, [.int 0, .int 0, .int 0, .int 0, .int 0, .int 0, .int 0, .int 0])), (q65, .inr (3, [.int 0, .int 0, .int 0, .int 0, .int 0, .int 0, .int 0, .int 0])), (q66, .inr (3, [.int 0, .int 0, .int 0, .int 0, .int 0, .int 0, .int 0, .int 0])), (q67, .inr (3, [.int 0, .int 0, .int 0, .int 0, .int 0, .int 0, .int 0, .int 0])), (q68, .inr (3, [.int 0, .int 0, .int 0, .int 0, .int 0, .int 0, .int 0, .int 0])), (q69, .inr (3, [.int 0, .int 0, .int 0, .int 0, .int 0, .int 0, .int 0, .int 0])), (q70, .inr (3, [.int 0, .int 0, .int 0, .int 0, .int 0, .int 0, .int 0, .int 0])), (q71, .inr (3, [.int 0, .int 0, .int 0, .int 0, .int 0, .int 0, .int 0, .int 0])), (q72, .inr (3, [.int 0, .int 0, .int 0, .int 0, .int 0, .int 0, .int 0, .int 0])), (q79, .inr (0, [.ref q80, .ref q81, .int 0, .int 0, .int 1])), (q80, .inl (cA 1, 50, .inl (fun _ => 0))), (q81, .inl (cA 0, 20, .inl (fun _ => 0))), (q82, .inr (0, [.ref q83, .ref q84, .int 0, .int 0, .int 1])), (q83, .inl (cA 1, 50, .inl (fun _ => 0))), (q84, .inl (cA 0, 20, .inl (fun _ => 0))), (q85, .inr (4, [.ref q86, .ref q79, .int 0, .int 0])), (q86, .inr (2, [.ref q87, .ref q88, .int 0])), (q87, .inl (cA 0, 50, .inl (fun _ => 0))), (q88, .inl (cA 0, 50, .inl (fun _ => 0))), (q89, .inr (6, [.ref q90, .int 0, .int 0, .int 0, .int 0])), (q90, .inl (cA 0, 40, .inl (fun _ => 0))), (q91, .inl (cA 3, 4, .inr (.inr (.inr (.inr g98))))), (q92, .inl (cA 0, 6, .inl (fun _ => 0))), (q93, .inr (5, [.ref q94, .int 0, .int 0])), (q94, .inl (cA 0, 40, .inl (fun _ => 0))), (q96, .inr (5, [.ref q97, .int 0, .int 0])), (q97, .inl (cA 0, 40, .inl (fun _ => 0))), (q99, .inr (5, [.ref q100, .int 0, .int 0])), (q100, .inl (cA 0, 40, .inl (fun _ => 0)))]) rfl ?_
  obtain ⟨g101, eg101⟩ : ∃ g : Nat → Option Nat, va_up g98 (2 : Int32).toNatClampNeg (some q99) = g := ⟨_, rfl⟩
  refine A_astq (j := 3) (ci := 5) (f2 := g101) (ws2 := [(h0, .inr (7, [.ref q1, .ref q27, .ref q53, .ref q79, .ref q82, .ref q85, .ref q89, .ref q91, .ref q92, .int 0])), (q1, .inr (1, [.ref q9, .ref q10, .ref q2, .ref q3, .ref q6, .int 0, .int 0, .int 0])), (q2, .inl (cA 2, 10, .inr (.inr (.inr (.inr g21))))), (q3, .inr (2, [.ref q4, .ref q5, .int 0])), (q4, .inl (cA 0, 50, .inl (fun _ => 0))), (q5, .inl (cA 0, 50, .inl (fun _ => 0))), (q6, .inr (2, [.ref q7, .ref q8, .int 0])), (q7, .inl (cA 0, 50, .inl (fun _ => 0))), (q8, .inl (cA 0, 50, .inl (fun _ => 0))), (q9, .inl (cA 0, 5, .inl g22)), (q10, .inl (cA 0, 5, .inl g23)), (q11, .inr (3, [.int 0, .int 0, .int 0, .int 0, .int 0, .int 0, .int 0, .int 0])), (q12, .inr (3, [.int 0, .int 0, .int 0, .int 0, .int 0, .int 0, .int 0, .int 0])), (q13, .inr (3, [.int 0, .int 0, .int 0, .int 0, .int 0, .int 0, .int 0, .int 0])), (q14, .inr (3, [.int 0, .int 0, .int 0, .int 0, .int 0, .int 0, .int 0, .int 0])), (q15, .inr (3, [.int 0, .int 0, .int 0, .int 0, .int 0, .int 0, .int 0, .int 0])), (q16, .inr (3, [.int 0, .int 0, .int 0, .int 0, .int 0, .int 0, .int 0, .int 0])), (q17, .inr (3, [.int 0, .int 0, .int 0, .int 0, .int 0, .int 0, .int 0, .int 0])), (q18, .inr (3, [.int 0, .int 0, .int 0, .int 0, .int 0, .int 0, .int 0, .int 0])), (q19, .inr (3, [.int 0, .int 0, .int 0, .int 0, .int 0, .int 0, .int 0, .int 0])), (q20, .inr (3, [.int 0, .int 0, .int 0, .int 0, .int 0, .int 0, .int 0, .int 0])), (q27, .inr (1, [.ref q35, .ref q36, .ref q28, .ref q29, .ref q32, .int 0, .int 0, .int 0])), (q28, .inl (cA 2, 10, .inr (.inr (.inr (.inr g47))))), (q29, .inr (2, [.ref q30, .ref q31, .int 0])), (q30, .inl (cA 0, 50, .inl (fun _ => 0))), (q31, .inl (cA 0, 50, .inl (fun _ => 0))), (q32, .inr (2, [.ref q33, .ref q34, .int 0])), (q33, .inl (cA 0, 50, .inl (fun _ => 0))), (q34, .inl (cA 0, 50, .inl (fun _ => 0))), (q35, .inl (cA 0, 5, .inl g48)), (q36, .inl (cA 0, 5, .inl g49)), (q37, .inr (3, [.int 0, .int 0, .int 0, .int 0, .int 0, .int 0, .int 0, .int 0])), (q38, .inr (3, [.int 0, .int 0, .int 0, .int 0, .int 0, .int 0, .int 0, .int 0])), (q39, .inr (3, [.int 0, .int 0, .int 0, .int 0, .int 0, .int 0, .int 0, .int 0])), (q40, .inr (3, [.int 0, .int 0, .int 0, .int 0, .int 0, .int 0, .int 0, .int 0])), (q41, .inr (3, [.int 0, .int 0, .int 0, .int 0, .int 0, .int 0, .int 0, .int 0])), (q42, .inr (3, [.int 0, .int 0, .int 0, .int 0, .int 0, .int 0, .int 0, .int 0])), (q43, .inr (3, [.int 0, .int 0, .int 0, .int 0, .int 0, .int 0, .int 0, .int 0])), (q44, .inr (3, [.int 0, .int 0, .int 0, .int 0, .int 0, .int 0, .int 0, .int 0])), (q45, .inr (3, [.int 0, .int 0, .int 0, .int 0, .int 0, .int 0, .int 0, .int 0])), (q46, .inr (3, [.int 0, .int 0, .int 0, .int 0, .int 0, .int 0, .int 0, .int 0])), (q53, .inr (1, [.ref q61, .ref q62, .ref q54, .ref q55, .ref q58, .int 0, .int 0, .int 0])), (q54, .inl (cA 2, 10, .inr (.inr (.inr (.inr g73))))), (q55, .inr (2, [.ref q56, .ref q57, .int 0])), (q56, .inl (cA 0, 50, .inl (fun _ => 0))), (q57, .inl (cA 0, 50, .inl (fun _ => 0))), (q58, .inr (2, [.ref q59, .ref q60, .int 0])), (q59, .inl (cA 0, 50, .inl (fun _ => 0))), (q60, .inl (cA 0, 50, .inl (fun _ => 0))), (q61, .inl (cA 0, 5, .inl g74)), (q62, .inl (cA 0, 5, .inl g75)), (q63, .inr (3, [.int 0, .int 0, .int 0, .int 0, .int 0, .int 0, .int 0, .int 0])), (q64, .inr (3, [.int 0, .int 0, .int 0, .int 0, .int 0, .int 0, .int 0, .int 0])), (q65, .inr (3, [.int 0, .int 0, .int 0, .int 0, .int 0, .int 0, .int 0, .int 0])), (q66, .inr (3, [.int 0, .int 0, .int 0, .int 0, .int 0, .int 0, .int 0, .int 0])), (q67, .inr (3, [.int 0, .int 0, .int 0, .int 0, .int 0, .int 0, .int 0, .int 0])), (q68, .inr (3, [.int 0, .int 0, .int 0, .int 0, .int 0, .int 0, .int 0, .int 0])), (q69, .inr (3, [.int 0, .int 0, .int 0, .int 0, .int 0, .int 0, .int 0, .int 0])), (q70, .inr (3, [.int 0, .int 0, .int 0, .int 0, .int 0, .int 0, .int 0, .int 0])), (q71, .inr (3, [.int 0, .int 0, .int 0, .int 0, .int 0, .int 0, .int 0, .int 0])), (q72, .inr (3, [.int 0, .int 0, .int 0, .int 0, .int 0, .int 0, .int 0, .int 0])), (q79, .inr (0, [.ref q80, .ref q81, .int 0, .int 0, .int 1])), (q80, .inl (cA 1, 50, .inl (fun _ => 0))), (q81, .inl (cA 0, 20, .inl (fun _ => 0))), (q82, .inr (0, [.ref q83, .ref q84, .int 0, .int 0, .int 1])), (q83, .inl (cA 1, 50, .inl (fun _ => 0))), (q84, .inl (cA 0, 20, .inl (fun _ => 0))), (q85, .inr (4, [.ref q86, .ref q79, .int 0, .int 0])), (q86, .inr (2, [.ref q87, .ref q88, .int 0])), (q87, .inl (cA 0, 50, .inl (fun _ => 0))), (q88, .inl (cA 0, 50, .inl (fun _ => 0))), (q89, .inr (6, [.ref q90, .int 0, .int 0, .int 0, .int 0])), (q90, .inl (cA 0, 40, .inl (fun _ => 0))), (q91, .inl (cA 3, 4, .inr (.inr (.inr (.inr g101))))), (q92, .inl (cA 0, 6, .inl (fun _ => 0))), (q93, .inr (5, [.ref q94, .int 0, .int 0])), (q94, .inl (cA 0, 40, .inl (fun _ => 0))), (q96, .inr (5, [.ref q97, .int 0, .int 0])), (q97, .inl (cA 0, 40, .inl (fun _ => 0))), (q99, .inr (5, [.ref q100, .int 0, .int 0])), (q100, .inl (cA 0, 40, .inl (fun _ => 0)))]) 73 79 rfl rfl rfl rfl (ib_in (by decide)) eg101 rfl dX7_init_120 ?_
  refine A_iinc (v := 3) (L2 := [(1, .int 3), (0, .ref h0)]) dX7_init_121 0 rfl (by decide) (by decide) rfl ?_
  refine A_goto (tgt := 103) dX7_init_124 (by decide) ?_
  refine A_iload_n dX7_init_103 0 rfl ?_
  refine A_iconst (v := 4) dX7_init_104 (by decide) ?_
  refine A_ge_f (by decide) dX7_init_105 (tgt := 127) (by decide) ?_
  refine A_aload_n dX7_init_108 1 rfl ?_
  refine A_get (C0 := RX7) (T := TX7) (k0 := 7) (v := .ref q91) rfl inT_7 rfl fl_X7_50 0 rfl (by decide) rfl dX7_init_109 ?_
  refine A_iload_n dX7_init_112 0 rfl ?_
  refine A_new (ci := 5) (C0 := RX5) (T := TX5) (ty := tyX5) (fs := [.null, .int 0, .int 0]) rfl inT_5 tyX5_ok cl_X7_48 iw_5 in_5 rfl df_5 (by decide) (by decide) dX7_init_113 (fun q102 => ?_)
  refine A_ws (ws2 := [(h0, .inr (7, [.ref q1, .ref q27, .ref q53, .ref q79, .ref q82, .ref q85, .ref q89, .ref q91, .ref q92, .int 0])), (q1, .inr (1, [.ref q9, .ref q10, .ref q2, .ref q3, .ref q6, .int 0, .int 0, .int 0])), (q2, .inl (cA 2, 10, .inr (.inr (.inr (.inr g21))))), (q3, .inr (2, [.ref q4, .ref q5, .int 0])), (q4, .inl (cA 0, 50, .inl (fun _ => 0))), (q5, .inl (cA 0, 50, .inl (fun _ => 0))), (q6, .inr (2, [.ref q7, .ref q8, .int 0])), (q7, .inl (cA 0, 50, .inl (fun _ => 0))), (q8, .inl (cA 0, 50, .inl (fun _ => 0))), (q9, .inl (cA 0, 5, .inl g22)), (q10, .inl (cA 0, 5, .inl g23)), (q11, .inr (3, [.int 0, .int 0, .int 0, .int 0, .int 0, .int 0, .int 0, .int 0])), (q12, .inr (3, [.int 0, .int 0, .int 0, .int 0, .int 0, .int 0, .int 0, .int 0])), (q13, .inr (3, [.int 0, .int 0, .int 0, .int 0, .int 0, .int 0, .int 0, .int 0])), (q14, .inr (3, [.int 0, .int 0, .int 0, .int 0, .int 0, .int 0, .int 0, .int 0])), (q15, .inr (3, [.int 0, .int 0, .int 0, .int 0, .int 0, .int 0, .int 0, .int 0])), (q16, .inr (3, [.int 0, .int 0, .int 0, .int 0, .int 0, .int 0, .int 0, .int 0])), (q17, .inr (3, [.int 0, .int 0, .int 0, .int 0, .int 0, .int 0, .int 0, .int 0])), (q18, .inr (3, [.int 0, .int 0, .int 0, .int 0, .int 0, .int 0, .int 0, .int 0])), (q19, .inr (3, [.int 0, .int 0, .int 0, .int 0, .int 0, .int 0, .int 0, .int 0])), (q20, .inr (3, [.int 0, .int 0, .int 0, .int 0, .int 0, .int 0, .int 0, .int 0])), (q27, .inr (1, [.ref q35, .ref q36, .ref q28, .ref q29, .ref q32, .int 0, .int 0, .int 0])), (q28, .inl (cA 2, 10, .inr (.inr (.inr (.inr g47))))), (q29, .inr (2, [.ref q30, .ref q31, .int 0])), (q30, .inl (cA 0, 50, .inl (fun _ => 0))), (q31, .inl (cA 0, 50, .inl (fun _ => 0))), (q32, .inr (2, [.ref q33, .ref q34, .int 0])), (q33, .inl (cA 0, 50, .inl (fun _ => 0))), (q34, .inl (cA 0, 50, .inl (fun _ => 0))), (q35, .inl (cA 0, 5, .inl g48)), (q36, .inl (cA 0, 5, .inl g49)), (q37, .inr (3, [.int 0, .int 0, .int 0, .int 0, .int 0, .int 0, .int 0, .int 0])), (q38, .inr (3, [.int 0, .int 0, .int 0, .int 0, .int 0, .int 0, .int 0, .int 0])), (q39, .inr (3, [.int 0, .int 0, .int 0, .int 0, .int 0, .int 0, .int 0, .int 0])), (q40, .inr (3, [.int 0, .int 0, .int 0, .int 0, .int 0, .int 0, .int 0, .int 0])), (q41, .inr (3, [.int 0, .int 0, .int 0, .int 0, .int 0, .int 0, .int 0, .int 0])), (q42, .inr (3, [.int 0, .int 0, .int 0, .int 0, .int 0, .int 0, .int 0, .int 0])), (q43, .inr (3, [.int 0, .int 0, .int 0, .int 0, .int 0, .int 0, .int 0, .int 0])), (q44, .inr (3, [.int 0, .int 0, .int 0, .int 0, .int 0, .int 0, .int 0, .int 0])), (q45, .inr (3, [.int 0, .int 0, .int 0, .int 0, .int 0, .int 0, .int 0, .int 0])), (q46, .inr (3, [.int 0, .int 0, .int 0, .int 0, .int 0, .int 0, .int 0, .int 0])), (q53, .inr (1, [.ref q61, .ref q62, .ref q54, .ref q55, .ref q58, .int 0, .int 0, .int 0])), (q54, .inl (cA 2, 10, .inr (.inr (.inr (.inr g73))))), (q55, .inr (2, [.ref q56, .ref q57, .int 0])), (q56, .inl (cA 0, 50, .inl (fun _ => 0))), (q57, .inl (cA 0, 50, .inl (fun _ => 0))), (q58, .inr (2, [.ref q59, .ref q60, .int 0])), (q59, .inl (cA 0, 50, .inl (fun _ => 0))), (q60, .inl (cA 0, 50, .inl (fun _ => 0))), (q61, .inl (cA 0, 5, .inl g74)), (q62, .inl (cA 0, 5, .inl g75)), (q63, .inr (3, [.int 0, .int 0, .int 0, .int 0, .int 0, .int 0, .int 0, .int 0])), (q64, .inr (3, [.int 0, .int 0, .int 0, .int 0, .int 0, .int 0, .int 0, .int 0])), (q65, .inr (3, [.int 0, .int 0, .int 0, .int 0, .int 0, .int 0, .int 0, .int 0])), (q66, .inr (3, [.int 0, .int 0, .int 0, .int 0, .int 0, .int 0, .int 0, .int 0])), (q67, .inr (3, [.int 0, .int 0, .int 0, .int 0, .int 0, .int 0, .int 0, .int 0])), (q68, .inr (3, [.int 0, .int 0, .int 0, .int 0, .int 0, .int 0, .int 0, .int 0])), (q69, .inr (3, [.int 0, .int 0, .int 0, .int 0, .int 0, .int 0, .int 0, .int 0])), (q70, .inr (3, [.int 0, .int 0, .int 0, .int 0, .int 0, .int 0, .int 0, .int 0])), (q71, .inr (3, [.int 0, .int 0, .int 0, .int 0, .int 0, .int 0, .int 0, .int 0])), (q72, .inr (3, [.int 0, .int 0, .int 0, .int 0, .int 0, .int 0, .int 0, .int 0])), (q79, .inr (0, [.ref q80, .ref q81, .int 0, .int 0, .int 1])), (q80, .inl (cA 1, 50, .inl (fun _ => 0))), (q81, .inl (cA 0, 20, .inl (fun _ => 0))), (q82, .inr (0, [.ref q83, .ref q84, .int 0, .int 0, .int 1])), (q83, .inl (cA 1, 50, .inl (fun _ => 0))), (q84, .inl (cA 0, 20, .inl (fun _ => 0))), (q85, .inr (4, [.ref q86, .ref q79, .int 0, .int 0])), (q86, .inr (2, [.ref q87, .ref q88, .int 0])), (q87, .inl (cA 0, 50, .inl (fun _ => 0))), (q88, .inl (cA 0, 50, .inl (fun _ => 0))), (q89, .inr (6, [.ref q90, .int 0, .int 0, .int 0, .int 0])), (q90, .inl (cA 0, 40, .inl (fun _ => 0))), (q91, .inl (cA 3, 4, .inr (.inr (.inr (.inr g101))))), (q92, .inl (cA 0, 6, .inl (fun _ => 0))), (q93, .inr (5, [.ref q94, .int 0, .int 0])), (q94, .inl (cA 0, 40, .inl (fun _ => 0))), (q96, .inr (5, [.ref q97, .int 0, .int 0])), (q97, .inl (cA 0, 40, .inl (fun _ => 0))), (q99, .inr (5, [.ref q100, .int 0, .int 0])), (q100, .inl (cA 0, 40, .inl (fun _ => 0))), (q102, .inr (5, [.null, .int 0, .int 0]))]) rfl ?_
  refine A_dup rfl dX7_init_116 ?_
  refine A_callI (wr := [(h0, .inr (7, [.ref q1, .ref q27, .ref q53, .ref q79, .ref q82, .ref q85, .ref q89, .ref q91, .ref q92, .int 0])), (q1, .inr (1, [.ref q9, .ref q10, .ref q2, .ref q3, .ref q6, .int 0, .int 0, .int 0])), (q2, .inl (cA 2, 10, .inr (.inr (.inr (.inr g21))))), (q3, .inr (2, [.ref q4, .ref q5, .int 0])), (q4, .inl (cA 0, 50, .inl (fun _ => 0))), (q5, .inl (cA 0, 50, .inl (fun _ => 0))), (q6, .inr (2, [.ref q7, .ref q8, .int 0])), (q7, .inl (cA 0, 50, .inl (fun _ => 0))), (q8, .inl (cA 0, 50, .inl (fun _ => 0))), (q9, .inl (cA 0, 5, .inl g22)), (q10, .inl (cA 0, 5, .inl g23)), (q11, .inr (3, [.int 0, .int 0, .int 0, .int 0, .int 0, .int 0, .int 0, .int 0])), (q12, .inr (3, [.int 0, .int 0, .int 0, .int 0, .int 0, .int 0, .int 0, .int 0])), (q13, .inr (3, [.int 0, .int 0, .int 0, .int 0, .int 0, .int 0, .int 0, .int 0])), (q14, .inr (3, [.int 0, .int 0, .int 0, .int 0, .int 0, .int 0, .int 0, .int 0])), (q15, .inr (3, [.int 0, .int 0, .int 0, .int 0, .int 0, .int 0, .int 0, .int 0])), (q16, .inr (3, [.int 0, .int 0, .int 0, .int 0, .int 0, .int 0, .int 0, .int 0])), (q17, .inr (3, [.int 0, .int 0, .int 0, .int 0, .int 0, .int 0, .int 0, .int 0])), (q18, .inr (3, [.int 0, .int 0, .int 0, .int 0, .int 0, .int 0, .int 0, .int 0])), (q19, .inr (3, [.int 0, .int 0, .int 0, .int 0, .int 0, .int 0, .int 0, .int 0])), (q20, .inr (3, [.int 0, .int 0, .int 0, .int 0, .int 0, .int 0, .int 0, .int 0])), (q27, .inr (1, [.ref q35, .ref q36, .ref q28, .ref q29, .ref q32, .int 0, .int 0, .int 0])), (q28, .inl (cA 2, 10, .inr (.inr (.inr (.inr g47))))), (q29, .inr (2, [.ref q30, .ref q31, .int 0])), (q30, .inl (cA 0, 50, .inl (fun _ => 0))), (q31, .inl (cA 0, 50, .inl (fun _ => 0))), (q32, .inr (2, [.ref q33, .ref q34, .int 0])), (q33, .inl (cA 0, 50, .inl (fun _ => 0))), (q34, .inl (cA 0, 50, .inl (fun _ => 0))), (q35, .inl (cA 0, 5, .inl g48)), (q36, .inl (cA 0, 5, .inl g49)), (q37, .inr (3, [.int 0, .int 0, .int 0, .int 0, .int 0, .int 0, .int 0, .int 0])), (q38, .inr (3, [.int 0, .int 0, .int 0, .int 0, .int 0, .int 0, .int 0, .int 0])), (q39, .inr (3, [.int 0, .int 0, .int 0, .int 0, .int 0, .int 0, .int 0, .int 0])), (q40, .inr (3, [.int 0, .int 0, .int 0, .int 0, .int 0, .int 0, .int 0, .int 0])), (q41, .inr (3, [.int 0, .int 0, .int 0, .int 0, .int 0, .int 0, .int 0, .int 0])), (q42, .inr (3, [.int 0, .int 0, .int 0, .int 0, .int 0, .int 0, .int 0, .int 0])), (q43, .inr (3, [.int 0, .int 0, .int 0, .int 0, .int 0, .int 0, .int 0, .int 0])), (q44, .inr (3, [.int 0, .int 0, .int 0, .int 0, .int 0, .int 0, .int 0, .int 0])), (q45, .inr (3, [.int 0, .int 0, .int 0, .int 0, .int 0, .int 0, .int 0, .int 0])), (q46, .inr (3, [.int 0, .int 0, .int 0, .int 0, .int 0, .int 0, .int 0, .int 0])), (q53, .inr (1, [.ref q61, .ref q62, .ref q54, .ref q55, .ref q58, .int 0, .int 0, .int 0])), (q54, .inl (cA 2, 10, .inr (.inr (.inr (.inr g73))))), (q55, .inr (2, [.ref q56, .ref q57, .int 0])), (q56, .inl (cA 0, 50, .inl (fun _ => 0))), (q57, .inl (cA 0, 50, .inl (fun _ => 0))), (q58, .inr (2, [.ref q59, .ref q60, .int 0])), (q59, .inl (cA 0, 50, .inl (fun _ => 0))), (q60, .inl (cA 0, 50, .inl (fun _ => 0))), (q61, .inl (cA 0, 5, .inl g74)), (q62, .inl (cA 0, 5, .inl g75)), (q63, .inr (3, [.int 0, .int 0, .int 0, .int 0, .int 0, .int 0, .int 0, .int 0])), (q64, .inr (3, [.int 0, .int 0, .int 0, .int 0, .int 0, .int 0, .int 0, .int 0])), (q65, .inr (3, [.int 0, .int 0, .int 0, .int 0, .int 0, .int 0, .int 0, .int 0])), (q66, .inr (3, [.int 0, .int 0, .int 0, .int 0, .int 0, .int 0, .int 0, .int 0])), (q67, .inr (3, [.int 0, .int 0, .int 0, .int 0, .int 0, .int 0, .int 0, .int 0])), (q68, .inr (3, [.int 0, .int 0, .int 0, .int 0, .int 0, .int 0, .int 0, .int 0])), (q69, .inr (3, [.int 0, .int 0, .int 0, .int 0, .int 0, .int 0, .int 0, .int 0])), (q70, .inr (3, [.int 0, .int 0, .int 0, .int 0, .int 0, .int 0, .int 0, .int 0])), (q71, .inr (3, [.int 0, .int 0, .int 0, .int 0, .int 0, .int 0, .int 0, .int 0])), (q72, .inr (3, [.int 0, .int 0, .int 0, .int 0, .int 0, .int 0, .int 0, .int 0])), (q79, .inr (0, [.ref q80, .ref q81, .int 0, .int 0, .int 1])), (q80, .inl (cA 1, 50, .inl (fun _ => 0))), (q81, .inl (cA 0, 20, .inl (fun _ => 0))), (q82, .inr (0, [.ref q83, .ref q84, .int 0, .int 0, .int 1])), (q83, .inl (cA 1, 50, .inl (fun _ => 0))), (q84, .inl (cA 0, 20, .inl (fun _ => 0))), (q85, .inr (4, [.ref q86, .ref q79, .int 0, .int 0])), (q86, .inr (2, [.ref q87, .ref q88, .int 0])), (q87, .inl (cA 0, 50, .inl (fun _ => 0))), (q88, .inl (cA 0, 50, .inl (fun _ => 0))), (q89, .inr (6, [.ref q90, .int 0, .int 0, .int 0, .int 0])), (q90, .inl (cA 0, 40, .inl (fun _ => 0))), (q91, .inl (cA 3, 4, .inr (.inr (.inr (.inr g101))))), (q92, .inl (cA 0, 6, .inl (fun _ => 0))), (q93, .inr (5, [.ref q94, .int 0, .int 0])), (q94, .inl (cA 0, 40, .inl (fun _ => 0))), (q96, .inr (5, [.ref q97, .int 0, .int 0])), (q97, .inl (cA 0, 40, .inl (fun _ => 0))), (q99, .inr (5, [.ref q100, .int 0, .int 0])), (q100, .inl (cA 0, 40, .inl (fun _ => 0)))]) (X5_init_made q102) ok_X5_init (Or.inr (by simp [nestA])) (by decide) rfl rfl (Nat.le_of_ble_eq_true rfl) [81] [0, 1, 2, 3, 4, 5, 6, 7, 8, 9, 10, 11, 12, 13, 14, 15, 16, 17, 18, 19, 20, 21, 22, 23, 24, 25, 26, 27, 28, 29, 30, 31, 32, 33, 34, 35, 36, 37, 38, 39, 40, 41, 42, 43, 44, 45, 46, 47, 48, 49, 50, 51, 52, 53, 54, 55, 56, 57, 58, 59, 60, 61, 62, 63, 64, 65, 66, 67, 68, 69, 70, 71, 72, 73, 74, 75, 76, 77, 78, 79, 80] rfl rfl (by decide) (by decide) (by decide) (by decide) (by decide) dX7_init_117 ?_
  rintro w ⟨q103, rfl⟩
  refine A_ws (ws2 := [(h0, .inr (7, [.ref q1, .ref q27, .ref q53, .ref q79, .ref q82, .ref q85, .ref q89, .ref q91, .ref q92, .int 0])), (q1, .inr (1, [.ref q9, .ref q10, .ref q2, .ref q3, .ref q6, .int 0, .int 0, .int 0])), (q2, .inl (cA 2, 10, .inr (.inr (.inr (.inr g21))))), (q3, .inr (2, [.ref q4, .ref q5, .int 0])), (q4, .inl (cA 0, 50, .inl (fun _ => 0))), (q5, .inl (cA 0, 50, .inl (fun _ => 0))), (q6, .inr (2, [.ref q7, .ref q8, .int 0])), (q7, .inl (cA 0, 50, .inl (fun _ => 0))), (q8, .inl (cA 0, 50, .inl (fun _ => 0))), (q9, .inl (cA 0, 5, .inl g22)), (q10, .inl (cA 0, 5, .inl g23)), (q11, .inr (3, [.int 0, .int 0, .int 0, .int 0, .int 0, .int 0, .int 0, .int 0])), (q12, .inr (3, [.int 0, .int 0, .int 0, .int 0, .int 0, .int 0, .int 0, .int 0])), (q13, .inr (3, [.int 0, .int 0, .int 0, .int 0, .int 0, .int 0, .int 0, .int 0])), (q14, .inr (3, [.int 0, .int 0, .int 0, .int 0, .int 0, .int 0, .int 0, .int 0])), (q15, .inr (3, [.int 0, .int 0, .int 0, .int 0, .int 0, .int 0, .int 0, .int 0])), (q16, .inr (3, [.int 0, .int 0, .int 0, .int 0, .int 0, .int 0, .int 0, .int 0])), (q17, .inr (3, [.int 0, .int 0, .int 0, .int 0, .int 0, .int 0, .int 0, .int 0])), (q18, .inr (3, [.int 0, .int 0, .int 0, .int 0, .int 0, .int 0, .int 0, .int 0])), (q19, .inr (3, [.int 0, .int 0, .int 0, .int 0, .int 0, .int 0, .int 0, .int 0])), (q20, .inr (3, [.int 0, .int 0, .int 0, .int 0, .int 0, .int 0, .int 0, .int 0])), (q27, .inr (1, [.ref q35, .ref q36, .ref q28, .ref q29, .ref q32, .int 0, .int 0, .int 0])), (q28, .inl (cA 2, 10, .inr (.inr (.inr (.inr g47))))), (q29, .inr (2, [.ref q30, .ref q31, .int 0])), (q30, .inl (cA 0, 50, .inl (fun _ => 0))), (q31, .inl (cA 0, 50, .inl (fun _ => 0))), (q32, .inr (2, [.ref q33, .ref q34, .int 0])), (q33, .inl (cA 0, 50, .inl (fun _ => 0))), (q34, .inl (cA 0, 50, .inl (fun _ => 0))), (q35, .inl (cA 0, 5, .inl g48)), (q36, .inl (cA 0, 5, .inl g49)), (q37, .inr (3, [.int 0, .int 0, .int 0, .int 0, .int 0, .int 0, .int 0, .int 0])), (q38, .inr (3, [.int 0, .int 0, .int 0, .int 0, .int 0, .int 0, .int 0, .int 0])), (q39, .inr (3, [.int 0, .int 0, .int 0, .int 0, .int 0, .int 0, .int 0, .int 0])), (q40, .inr (3, [.int 0, .int 0, .int 0, .int 0, .int 0, .int 0, .int 0, .int 0])), (q41, .inr (3, [.int 0, .int 0, .int 0, .int 0, .int 0, .int 0, .int 0, .int 0])), (q42, .inr (3, [.int 0, .int 0, .int 0, .int 0, .int 0, .int 0, .int 0, .int 0])), (q43, .inr (3, [.int 0, .int 0, .int 0, .int 0, .int 0, .int 0, .int 0, .int 0])), (q44, .inr (3, [.int 0, .int 0, .int 0, .int 0, .int 0, .int 0, .int 0, .int 0])), (q45, .inr (3, [.int 0, .int 0, .int 0, .int 0, .int 0, .int 0, .int 0, .int 0])), (q46, .inr (3, [.int 0, .int 0, .int 0, .int 0, .int 0, .int 0, .int 0, .int 0])), (q53, .inr (1, [.ref q61, .ref q62, .ref q54, .ref q55, .ref q58, .int 0, .int 0, .int 0])), (q54, .inl (cA 2, 10, .inr (.inr (.inr (.inr g73))))), (q55, .inr (2, [.ref q56, .ref q57, .int 0])), (q56, .inl (cA 0, 50, .inl (fun _ => 0))), (q57, .inl (cA 0, 50, .inl (fun _ => 0))), (q58, .inr (2, [.ref q59, .ref q60, .int 0])), (q59, .inl (cA 0, 50, .inl (fun _ => 0))), (q60, .inl (cA 0, 50, .inl (fun _ => 0))), (q61, .inl (cA 0, 5, .inl g74)), (q62, .inl (cA 0, 5, .inl g75)), (q63, .inr (3, [.int 0, .int 0, .int 0, .int 0, .int 0, .int 0, .int 0, .int 0])), (q64, .inr (3, [.int 0, .int 0, .int 0, .int 0, .int 0, .int 0, .int 0, .int 0])), (q65, .inr (3, [.int 0, .int 0, .int 0, .int 0, .int 0, .int 0, .int 0, .int 0])), (q66, .inr (3, [.int 0, .int 0, .int 0, .int 0, .int 0, .int 0, .int 0, .int 0])), (q67, .inr (3, [.int 0, .int 0, .int 0, .int 0, .int 0, .int 0, .int 0, .int 0])), (q68, .inr (3, [.int 0, .int 0, .int 0, .int 0, .int 0, .int 0, .int 0, .int 0])), (q69, .inr (3, [.int 0, .int 0, .int 0, .int 0, .int 0, .int 0, .int 0, .int 0])), (q70, .inr (3, [.int 0, .int 0, .int 0, .int 0, .int 0, .int 0, .int 0, .int 0])), (q71, .inr (3, [.int 0, .int 0, .int 0, .int 0, .int 0, .int 0, .int 0, .int 0])), (q72, .inr (3, [.int 0, .int 0, .int 0, .int 0, .int 0, .int 0, .int 0, .int 0])), (q79, .inr (0, [.ref q80, .ref q81, .int 0, .int 0, .int 1])), (q80, .inl (cA 1, 50, .inl (fun _ => 0))), (q81, .inl (cA 0, 20, .inl (fun _ => 0))), (q82, .inr (0, [.ref q83, .ref q84, .int 0, .int 0, .int 1])), (q83, .inl (cA 1, 50, .inl (fun _ => 0))), (q84, .inl (cA 0, 20, .inl (fun _ => 0))), (q85, .inr (4, [.ref q86, .ref q79, .int 0, .int 0])), (q86, .inr (2, [.ref q87, .ref q88, .int 0])), (q87, .inl (cA 0, 50, .inl (fun _ => 0))), (q88, .inl (cA 0, 50, .inl (fun _ => 0))), (q89, .inr (6, [.ref q90, .int 0, .int 0, .int 0, .int 0])), (q90, .inl (cA 0, 40, .inl (fun _ => 0))), (q91, .inl (cA 3, 4, .inr (.inr (.inr (.inr g101))))), (q92, .inl (cA 0, 6, .inl (fun _ => 0))), (q93, .inr (5, [.ref q94, .int 0, .int 0])), (q94, .inl (cA 0, 40, .inl (fun _ => 0))), (q96, .inr (5, [.ref q97, .int 0, .int 0])), (q97, .inl (cA 0, 40, .inl (fun _ => 0))), (q99, .inr (5, [.ref q100, .int 0, .int 0])), (q100, .inl (cA 0, 40, .inl (fun _ => 0))), (q102, .inr (5, [.ref q103, .int 0, .int 0])), (q103, .inl (cA 0, 40, .inl (fun _ => 0)))]) rfl ?_
  obtain ⟨g104, eg104⟩ : ∃ g : Nat → Option Nat, va_up g101 (3 : Int32).toNatClampNeg (some q102) = g := ⟨_, rfl⟩
  refine A_astq (j := 3) (ci := 5) (f2 := g104) (ws2 := [(h0, .inr (7, [.ref q1, .ref q27, .ref q53, .ref q79, .ref q82, .ref q85, .ref q89, .ref q91, .ref q92, .int 0])), (q1, .inr (1, [.ref q9, .ref q10, .ref q2, .ref q3, .ref q6, .int 0, .int 0, .int 0])), (q2, .inl (cA 2, 10, .inr (.inr (.inr (.inr g21))))), (q3, .inr (2, [.ref q4, .ref q5, .int 0])), (q4, .inl (cA 0, 50, .inl (fun _ => 0))), (q5, .inl (cA 0, 50, .inl (fun _ => 0))), (q6, .inr (2, [.ref q7, .ref q8, .int 0])), (q7, .inl (cA 0, 50, .inl (fun _ => 0))), (q8, .inl (cA 0, 50, .inl (fun _ => 0))), (q9, .inl (cA 0, 5, .inl g22)), (q10, .inl (cA 0, 5, .inl g23)), (q11, .inr (3, [.int 0, .int 0, .int 0, .int 0, .int 0, .int 0, .int 0, .int 0])), (q12, .inr (3, [.int 0, .int 0, .int 0, .int 0, .int 0, .int 0, .int 0, .int 0])), (q13, .inr (3, [.int 0, .int 0, .int 0, .int 0, .int 0, .int 0, .int 0, .int 0])), (q14, .inr (3, [.int 0, .int 0, .int 0, .int 0, .int 0, .int 0, .int 0, .int 0])), (q15, .inr (3, [.int 0, .int 0, .int 0, .int 0, .int 0, .int 0, .int 0, .int 0])), (q16, .inr (3, [.int 0, .int 0, .int 0, .int 0, .int 0, .int 0, .int 0, .int 0])), (q17, .inr (3, [.int 0, .int 0, .int 0, .int 0, .int 0, .int 0, .int 0, .int 0])), (q18, .inr (3, [.int 0, .int 0, .int 0, .int 0, .int 0, .int 0, .int 0, .int 0])), (q19, .inr (3, [.int 0, .int 0, .int 0, .int 0, .int 0, .int 0, .int 0, .int 0])), (q20, .inr (3, [.int 0, .int 0, .int 0, .int 0, .int 0, .int 0, .int 0, .int 0])), (q27, .inr (1, [.ref q35, .ref q36, .ref q28, .ref q29, .ref q32, .int 0, .int 0, .int 0])), (q28, .inl (cA 2, 10, .inr (.inr (.inr (.inr g47))))), (q29, .inr (2, [.ref q30, .ref q31, .int 0])), (q30, .inl (cA 0, 50, .inl (fun _ => 0))), (q31, .inl (cA 0, 50, .inl (fun _ => 0))), (q32, .inr (2, [.ref q33, .ref q34, .int 0])), (q33, .inl (cA 0, 50, .inl (fun _ => 0))), (q34, .inl (cA 0, 50, .inl (fun _ => 0))), (q35, .inl (cA 0, 5, .inl g48)), (q36, .inl (cA 0, 5, .inl g49)), (q37, .inr (3, [.int 0, .int 0, .int 0, .int 0, .int 0, .int 0, .int 0, .int 0])), (q38, .inr (3, [.int 0, .int 0, .int 0, .int 0, .int 0, .int 0, .int 0, .int 0])), (q39, .inr (3, [.int 0, .int 0, .int 0, .int 0, .int 0, .int 0, .int 0, .int 0])), (q40, .inr (3, [.int 0, .int 0, .int 0, .int 0, .int 0, .int 0, .int 0, .int 0])), (q41, .inr (3, [.int 0, .int 0, .int 0, .int 0, .int 0, .int 0, .int 0, .int 0])), (q42, .inr (3, [.int 0, .int 0, .int 0, .int 0, .int 0, .int 0, .int 0, .int 0])), (q43, .inr (3, [.int 0, .int 0, .int 0, .int 0, .int 0, .int 0, .int 0, .int 0])), (q44, .inr (3, [.int 0, .int 0, .int 0, .int 0, .int 0, .int 0, .int 0, .int 0])), (q45, .inr (3, [.int 0, .int 0, .int 0, .int 0, .int 0, .int 0, .int 0, .int 0])), (q46, .inr (3, [.int 0, .int 0, .int 0, .int 0, .int 0, .int 0, .int 0, .int 0])), (q53, .inr (1, [.ref q61, .ref q62, .ref q54, .ref q55, .ref q58, .int 0, .int 0, .int 0])), (q54, .inl (cA 2, 10, .inr (.inr (.inr (.inr g73))))), (q55, .inr (2, [.ref q56, .ref q57, .int 0])), (q56, .inl (cA 0, 50, .inl (fun _ => 0))), (q57, .inl (cA 0, 50, .inl (fun _ => 0))), (q58, .inr (2, [.ref q59, .ref q60, .int 0])), (q59, .inl (cA 0, 50, .inl (fun _ => 0))), (q60, .inl (cA 0, 50, .inl (fun _ => 0))), (q61, .inl (cA 0, 5, .inl g74)), (q62, .inl (cA 0, 5, .inl g75)), (q63, .inr (3, [.int 0, .int 0, .int 0, .int 0, .int 0, .int 0, .int 0, .int 0])), (q64, .inr (3, [.int 0, .int 0, .int 0, .int 0, .int 0, .int 0, .int 0, .int 0])), (q65, .inr (3, [.int 0, .int 0, .int 0, .int 0, .int 0, .int 0, .int 0, .int 0])), (q66, .inr (3, [.int 0, .int 0, .int 0, .int 0, .int 0, .int 0, .int 0, .int 0])), (q67, .inr (3, [.int 0, .int 0, .int 0, .int 0, .int 0, .int 0, .int 0, .int 0])), (q68, .inr (3, [.int 0, .int 0, .int 0, .int 0, .int 0, .int 0, .int 0, .int 0])), (q69, .inr (3, [.int 0, .int 0, .int 0, .int 0, .int 0, .int 0, .int 0, .int 0])), (q70, .inr (3, [.int 0, .int 0, .int 0, .int 0, .int 0, .int 0, .int 0, .int 0])), (q71, .inr (3, [.int 0, .int 0, .int 0, .int 0, .int 0, .int 0, .int 0, .int 0])), (q72, .inr (3, [.int 0, .int 0, .int 0, .int 0, .int 0, .int 0, .int 0, .int 0])), (q79, .inr (0, [.ref q80, .ref q81, .int 0, .int 0, .int 1])), (q80, .inl (cA 1, 50, .inl (fun _ => 0))), (q81, .inl (cA 0, 20, .inl (fun _ => 0))), (q82, .inr (0, [.ref q83, .ref q84, .int 0, .int 0, .int 1])), (q83, .inl (cA 1, 50, .inl (fun _ => 0))), (q84, .inl (cA 0, 20, .inl (fun _ => 0))), (q85, .inr (4, [.ref q86, .ref q79, .int 0, .int 0])), (q86, .inr (2, [.ref q87, .ref q88, .int 0])), (q87, .inl (cA 0, 50, .inl (fun _ => 0))), (q88, .inl (cA 0, 50, .inl (fun _ => 0))), (q89, .inr (6, [.ref q90, .int 0, .int 0, .int 0, .int 0])), (q90, .inl (cA 0, 40, .inl (fun _ => 0))), (q91, .inl (cA 3, 4, .inr (.inr (.inr (.inr g104))))), (q92, .inl (cA 0, 6, .inl (fun _ => 0))), (q93, .inr (5, [.ref q94, .int 0, .int 0])), (q94, .inl (cA 0, 40, .inl (fun _ => 0))), (q96, .inr (5, [.ref q97, .int 0, .int 0])), (q97, .inl (cA 0, 40, .inl (fun _ => 0))), (q99, .inr (5, [.ref q100, .int 0, .int 0])), (q100, .inl (cA 0, 40, .inl (fun _ => 0))), (q102, .inr (5, [.ref q103, .int 0, .int 0])), (q103, .inl (cA 0, 40, .inl (fun _ => 0)))]) 73 81 rfl rfl rfl rfl (ib_in (by decide)) eg104 rfl dX7_init_120 ?_
  refine A_iinc (v := 4) (L2 := [(1, .int 4), (0, .ref h0)]) dX7_init_121 0 rfl (by decide) (by decide) rfl ?_
  refine A_goto (tgt := 103) dX7_init_124 (by decide) ?_
  refine A_iload_n dX7_init_103 0 rfl ?_
  refine A_iconst (v := 4) dX7_init_104 (by decide) ?_
  refine A_ge_t (by decide) dX7_init_105 (tgt := 127) (by decide) ?_
  refine A_ret dX7_init_127 ?_ rfl rfl
  refine ⟨_, _, _, _, _, _, _, _, _, _, _, _, _, _, _, _, _, _, _, _, _, _, _, _, _, _, _, _, _, _, _, _, _, _, _, _, _, _, _, _, _, _, _, _, _, _, _, _, _, _, _, _, _, _, _, _, _, _, _, _, _, _, _, _, _, _, _, _, _, _, _, _, _, _, _, _, _, _, _, _, _, _, _, _, _, _, _, _, _, _, _, _, h24, h25, h26, h50, h51, h52, h76, h77, h78, ?_, rfl⟩
  subst eg104 eg101 eg98 eg95
  exact ⟨rfl, rfl, rfl, rfl⟩
def dInit (j : Nat) : Int32 := if j = 3 then 1 else if 6 ≤ j ∧ j < 16 then (if j % 2 = 0 then 2 else 5) else 0
set_option maxRecDepth 100000 in
theorem mo_X8_1 : Cond.methodLink RX8 1 Lib.objectInit ∈ TB := tbm 684 (by decide +kernel) rfl
set_option maxRecDepth 100000 in
theorem fl_X8_7 : Cond.fieldLink RX8 7 (TX8 0).1 (TX8 0).2.1 (TX8 0).2.2.1 ∈ TB := tbm 685 (by decide +kernel) rfl
set_option maxRecDepth 100000 in
theorem fl_X8_13 : Cond.fieldLink RX8 13 (TX8 1).1 (TX8 1).2.1 (TX8 1).2.2.1 ∈ TB := tbm 686 (by decide +kernel) rfl
set_option maxRecDepth 100000 in
theorem fl_X8_16 : Cond.fieldLink RX8 16 (TX8 2).1 (TX8 2).2.1 (TX8 2).2.2.1 ∈ TB := tbm 687 (by decide +kernel) rfl
set_option maxRecDepth 100000 in
theorem fl_X8_19 : Cond.fieldLink RX8 19 (TX8 4).1 (TX8 4).2.1 (TX8 4).2.2.1 ∈ TB := tbm 689 (by decide +kernel) rfl
set_option maxRecDepth 100000 in
theorem fl_X8_22 : Cond.fieldLink RX8 22 (TX8 11).1 (TX8 11).2.1 (TX8 11).2.2.1 ∈ TB := tbm 696 (by decide +kernel) rfl
set_option maxRecDepth 100000 in
theorem fl_X8_25 : Cond.fieldLink RX8 25 (TX8 12).1 (TX8 12).2.1 (TX8 12).2.2.1 ∈ TB := tbm 697 (by decide +kernel) rfl
set_option maxRecDepth 100000 in
theorem fl_X8_28 : Cond.fieldLink RX8 28 (TX8 14).1 (TX8 14).2.1 (TX8 14).2.2.1 ∈ TB := tbm 699 (by decide +kernel) rfl
set_option maxRecDepth 100000 in
theorem fl_X8_31 : Cond.fieldLink RX8 31 (TX8 15).1 (TX8 15).2.1 (TX8 15).2.2.1 ∈ TB := tbm 700 (by decide +kernel) rfl
set_option maxRecDepth 100000 in
theorem fl_X8_34 : Cond.fieldLink RX8 34 (TX8 18).1 (TX8 18).2.1 (TX8 18).2.2.1 ∈ TB := tbm 703 (by decide +kernel) rfl
set_option maxRecDepth 100000 in
theorem fl_X8_37 : Cond.fieldLink RX8 37 (TX8 19).1 (TX8 19).2.1 (TX8 19).2.2.1 ∈ TB := tbm 704 (by decide +kernel) rfl
set_option maxRecDepth 100000 in
theorem fl_X8_40 : Cond.fieldLink RX8 40 (TX8 20).1 (TX8 20).2.1 (TX8 20).2.2.1 ∈ TB := tbm 705 (by decide +kernel) rfl
set_option maxRecDepth 100000 in
theorem fl_X8_43 : Cond.fieldLink RX8 43 (TX8 21).1 (TX8 21).2.1 (TX8 21).2.2.1 ∈ TB := tbm 706 (by decide +kernel) rfl
set_option maxRecDepth 100000 in
set_option maxHeartbeats 8000000 in
theorem X8_init_made (h0 : Nat) : SpecA mt_X8_init 1 12 1009 [.ref h0] (fun cA => [(h0, .inr (8, [.null, .null, .null, .int 0, .null, .int 0, .int 0, .int 0, .int 0, .int 0, .int 0, .null, .null, .int 0, .null, .null, .int 0, .int 0, .null, .null, .null, .null]))]) (fun cA w => ∃ a1 a2 a3 a4 a5 a6 a7 a8 a9 a10 a11 a12 : Nat, ∃ f1 : Nat → Int32, (∀ j, f1 j = dInit j) ∧ w = [(h0, .inr (8, [.ref a1, .ref a2, .ref a3, .int 0, .ref a4, .int 0, .int 0, .int 0, .int 0, .int 0, .int 0, .ref a5, .ref a6, .int 0, .ref a7, .ref a8, .int 0, .int 0, .ref a9, .ref a10, .ref a11, .ref a12])), (a1, .inl (cA 0, 268, .inl f1)), (a2, .inl (cA 0, 268, .inl (fun _ => 0))), (a3, .inl (cA 0, 96, .inl (fun _ => 0))), (a4, .inl (cA 0, 6, .inl (fun _ => 0))), (a5, .inl (cA 0, 3, .inl (fun _ => 0))), (a6, .inl (cA 0, 60, .inl (fun _ => 0))), (a7, .inl (cA 0, 60, .inl (fun _ => 0))), (a8, .inl (cA 0, 40, .inl (fun _ => 0))), (a9, .inl (cA 0, 4, .inl (fun _ => 0))), (a10, .inl (cA 0, 4, .inl (fun _ => 0))), (a11, .inl (cA 0, 160, .inl (fun _ => 0))), (a12, .inl (cA 0, 40, .inl (fun _ => 0)))]) := by
  refine SpecA_of (L := [(0, .ref h0)]) (by decide) rfl rfl (Nat.le_of_ble_eq_true rfl) rfl (fun cA => ?_)
  refine A_aload_n dX8_init_0 0 rfl ?_
  refine A_obj mo_X8_1 oi_i oi_c (by decide) (by decide) dX8_init_1 ?_
  refine A_aload_n dX8_init_4 0 rfl ?_
  refine A_sipush (v := 268) dX8_init_5 (by decide) ?_
  refine A_newi (N' := 268) ar_int (by decide) (by decide) (by decide) (by decide) (by decide) dX8_init_8 (fun q1 => ?_)
  refine A_ws (ws2 := [(h0, .inr (8, [.null, .null, .null, .int 0, .null, .int 0, .int 0, .int 0, .int 0, .int 0, .int 0, .null, .null, .int 0, .null, .null, .int 0, .int 0, .null, .null, .null, .null])), (q1, .inl (cA 0, 268, .inl (fun _ => 0)))]) rfl ?_
  refine A_putF (C0 := RX8) (T := TX8) (ty := tyX8) (k0 := 0) (ws2 := [(h0, .inr (8, [.ref q1, .null, .null, .int 0, .null, .int 0, .int 0, .int 0, .int 0, .int 0, .int 0, .null, .null, .int 0, .null, .null, .int 0, .int 0, .null, .null, .null, .null])), (q1, .inl (cA 0, 268, .inl (fun _ => 0)))]) rfl rfl inT_8 tyX8_ok nmX8 rfl fl_X8_7 0 rfl (by decide) rfl rfl rfl rfl (Nat.le_of_ble_eq_true rfl) rfl dX8_init_10 ?_
  refine A_aload_n dX8_init_13 0 rfl ?_
  refine A_sipush (v := 268) dX8_init_14 (by decide) ?_
  refine A_newi (N' := 268) ar_int (by decide) (by decide) (by decide) (by decide) (by decide) dX8_init_17 (fun q2 => ?_)
  refine A_ws (ws2 := [(h0, .inr (8, [.ref q1, .null, .null, .int 0, .null, .int 0, .int 0, .int 0, .int 0, .int 0, .int 0, .null, .null, .int 0, .null, .null, .int 0, .int 0, .null, .null, .null, .null])), (q1, .inl (cA 0, 268, .inl (fun _ => 0))), (q2, .inl (cA 0, 268, .inl (fun _ => 0)))]) rfl ?_
  refine A_putF (C0 := RX8) (T := TX8) (ty := tyX8) (k0 := 1) (ws2 := [(h0, .inr (8, [.ref q1, .ref q2, .null, .int 0, .null, .int 0, .int 0, .int 0, .int 0, .int 0, .int 0, .null, .null, .int 0, .null, .null, .int 0, .int 0, .null, .null, .null, .null])), (q1, .inl (cA 0, 268, .inl (fun _ => 0))), (q2, .inl (cA 0, 268, .inl (fun _ => 0)))]) rfl rfl inT_8 tyX8_ok nmX8 rfl fl_X8_13 0 rfl (by decide) rfl rfl rfl rfl (Nat.le_of_ble_eq_true rfl) rfl dX8_init_19 ?_
  refine A_aload_n dX8_init_22 0 rfl ?_
  refine A_bipush (v := 96) dX8_init_23 (by decide) ?_
  refine A_newi (N' := 96) ar_int (by decide) (by decide) (by decide) (by decide) (by decide) dX8_init_25 (fun q3 => ?_)
  refine A_ws (ws2 := [(h0, .inr (8, [.ref q1, .ref q2, .null, .int 0, .null, .int 0, .int 0, .int 0, .int 0, .int 0, .int 0, .null, .null, .int 0, .null, .null, .int 0, .int 0, .null, .null, .null, .null])), (q1, .inl (cA 0, 268, .inl (fun _ => 0))), (q2, .inl (cA 0, 268, .inl (fun _ => 0))), (q3, .inl (cA 0, 96, .inl (fun _ => 0)))]) rfl ?_
  refine A_putF (C0 := RX8) (T := TX8) (ty := tyX8) (k0 := 2) (ws2 := [(h0, .inr (8, [.ref q1, .ref q2, .ref q3, .int 0, .null, .int 0, .int 0, .int 0, .int 0, .int 0, .int 0, .null, .null, .int 0, .null, .null, .int 0, .int 0, .null, .null, .null, .null])), (q1, .inl (cA 0, 268, .inl (fun _ => 0))), (q2, .inl (cA 0, 268, .inl (fun _ => 0))), (q3, .inl (cA 0, 96, .inl (fun _ => 0)))]) rfl rfl inT_8 tyX8_ok nmX8 rfl fl_X8_16 0 rfl (by decide) rfl rfl rfl rfl (Nat.le_of_ble_eq_true rfl) rfl dX8_init_27 ?_
  refine A_aload_n dX8_init_30 0 rfl ?_
  refine A_bipush (v := 6) dX8_init_31 (by decide) ?_
  refine A_newi (N' := 6) ar_int (by decide) (by decide) (by decide) (by decide) (by decide) dX8_init_33 (fun q4 => ?_)
  refine A_ws (ws2 := [(h0, .inr (8, [.ref q1, .ref q2, .ref q3, .int 0, .null, .int 0, .int 0, .int 0, .int 0, .int 0, .int 0, .null, .null, .int 0, .null, .null, .int 0, .int 0, .null, .null, .null, .null])), (q1, .inl (cA 0, 268, .inl (fun _ => 0))), (q2, .inl (cA 0, 268, .inl (fun _ => 0))), (q3, .inl (cA 0, 96, .inl (fun _ => 0))), (q4, .inl (cA 0, 6, .inl (fun _ => 0)))]) rfl ?_
  refine A_putF (C0 := RX8) (T := TX8) (ty := tyX8) (k0 := 4) (ws2 := [(h0, .inr (8, [.ref q1, .ref q2, .ref q3, .int 0, .ref q4, .int 0, .int 0, .int 0, .int 0, .int 0, .int 0, .null, .null, .int 0, .null, .null, .int 0, .int 0, .null, .null, .null, .null])), (q1, .inl (cA 0, 268, .inl (fun _ => 0))), (q2, .inl (cA 0, 268, .inl (fun _ => 0))), (q3, .inl (cA 0, 96, .inl (fun _ => 0))), (q4, .inl (cA 0, 6, .inl (fun _ => 0)))]) rfl rfl inT_8 tyX8_ok nmX8 rfl fl_X8_19 0 rfl (by decide) rfl rfl rfl rfl (Nat.le_of_ble_eq_true rfl) rfl dX8_init_35 ?_
  refine A_aload_n dX8_init_38 0 rfl ?_
  refine A_iconst (v := 3) dX8_init_39 (by decide) ?_
  refine A_newi (N' := 3) ar_int (by decide) (by decide) (by decide) (by decide) (by decide) dX8_init_40 (fun q5 => ?_)
  refine A_ws (ws2 := [(h0, .inr (8, [.ref q1, .ref q2, .ref q3, .int 0, .ref q4, .int 0, .int 0, .int 0, .int 0, .int 0, .int 0, .null, .null, .int 0, .null, .null, .int 0, .int 0, .null, .null, .null, .null])), (q1, .inl (cA 0, 268, .inl (fun _ => 0))), (q2, .inl (cA 0, 268, .inl (fun _ => 0))), (q3, .inl (cA 0, 96, .inl (fun _ => 0))), (q4, .inl (cA 0, 6, .inl (fun _ => 0))), (q5, .inl (cA 0, 3, .inl (fun _ => 0)))]) rfl ?_
  refine A_putF (C0 := RX8) (T := TX8) (ty := tyX8) (k0 := 11) (ws2 := [(h0, .inr (8, [.ref q1, .ref q2, .ref q3, .int 0, .ref q4, .int 0, .int 0, .int 0, .int 0, .int 0, .int 0, .ref q5, .null, .int 0, .null, .null, .int 0, .int 0, .null, .null, .null, .null])), (q1, .inl (cA 0, 268, .inl (fun _ => 0))), (q2, .inl (cA 0, 268, .inl (fun _ => 0))), (q3, .inl (cA 0, 96, .inl (fun _ => 0))), (q4, .inl (cA 0, 6, .inl (fun _ => 0))), (q5, .inl (cA 0, 3, .inl (fun _ => 0)))]) rfl rfl inT_8 tyX8_ok nmX8 rfl fl_X8_22 0 rfl (by decide) rfl rfl rfl rfl (Nat.le_of_ble_eq_true rfl) rfl dX8_init_42 ?_
  refine A_aload_n dX8_init_45 0 rfl ?_
  refine A_bipush (v := 60) dX8_init_46 (by decide) ?_
  refine A_newi (N' := 60) ar_int (by decide) (by decide) (by decide) (by decide) (by decide) dX8_init_48 (fun q6 => ?_)
  refine A_ws (ws2 := [(h0, .inr (8, [.ref q1, .ref q2, .ref q3, .int 0, .ref q4, .int 0, .int 0, .int 0, .int 0, .int 0, .int 0, .ref q5, .null, .int 0, .null, .null, .int 0, .int 0, .null, .null, .null, .null])), (q1, .inl (cA 0, 268, .inl (fun _ => 0))), (q2, .inl (cA 0, 268, .inl (fun _ => 0))), (q3, .inl (cA 0, 96, .inl (fun _ => 0))), (q4, .inl (cA 0, 6, .inl (fun _ => 0))), (q5, .inl (cA 0, 3, .inl (fun _ => 0))), (q6, .inl (cA 0, 60, .inl (fun _ => 0)))]) rfl ?_
  refine A_putF (C0 := RX8) (T := TX8) (ty := tyX8) (k0 := 12) (ws2 := [(h0, .inr (8, [.ref q1, .ref q2, .ref q3, .int 0, .ref q4, .int 0, .int 0, .int 0, .int 0, .int 0, .int 0, .ref q5, .ref q6, .int 0, .null, .null, .int 0, .int 0, .null, .null, .null, .null])), (q1, .inl (cA 0, 268, .inl (fun _ => 0))), (q2, .inl (cA 0, 268, .inl (fun _ => 0))), (q3, .inl (cA 0, 96, .inl (fun _ => 0))), (q4, .inl (cA 0, 6, .inl (fun _ => 0))), (q5, .inl (cA 0, 3, .inl (fun _ => 0))), (q6, .inl (cA 0, 60, .inl (fun _ => 0)))]) rfl rfl inT_8 tyX8_ok nmX8 rfl fl_X8_25 0 rfl (by decide) rfl rfl rfl rfl (Nat.le_of_ble_eq_true rfl) rfl dX8_init_50 ?_
  refine A_aload_n dX8_init_53 0 rfl ?_
  refine A_bipush (v := 60) dX8_init_54 (by decide) ?_
  refine A_newi (N' := 60) ar_int (by decide) (by decide) (by decide) (by decide) (by decide) dX8_init_56 (fun q7 => ?_)
  refine A_ws (ws2 := [(h0, .inr (8, [.ref q1, .ref q2, .ref q3, .int 0, .ref q4, .int 0, .int 0, .int 0, .int 0, .int 0, .int 0, .ref q5, .ref q6, .int 0, .null, .null, .int 0, .int 0, .null, .null, .null, .null])), (q1, .inl (cA 0, 268, .inl (fun _ => 0))), (q2, .inl (cA 0, 268, .inl (fun _ => 0))), (q3, .inl (cA 0, 96, .inl (fun _ => 0))), (q4, .inl (cA 0, 6, .inl (fun _ => 0))), (q5, .inl (cA 0, 3, .inl (fun _ => 0))), (q6, .inl (cA 0, 60, .inl (fun _ => 0))), (q7, .inl (cA 0, 60, .inl (fun _ => 0)))]) rfl ?_
  refine A_putF (C0 := RX8) (T := TX8) (ty := tyX8) (k0 := 14) (ws2 := [(h0, .inr (8, [.ref q1, .ref q2, .ref q3, .int 0, .ref q4, .int 0, .int 0, .int 0, .int 0, .int 0, .int 0, .ref q5, .ref q6, .int 0, .ref q7, .null, .int 0, .int 0, .null, .null, .null, .null])), (q1, .inl (cA 0, 268, .inl (fun _ => 0))), (q2, .inl (cA 0, 268, .inl (fun _ => 0))), (q3, .inl (cA 0, 96, .inl (fun _ => 0))), (q4, .inl (cA 0, 6, .inl (fun _ => 0))), (q5, .inl (cA 0, 3, .inl (fun _ => 0))), (q6, .inl (cA 0, 60, .inl (fun _ => 0))), (q7, .inl (cA 0, 60, .inl (fun _ => 0)))]) rfl rfl inT_8 tyX8_ok nmX8 rfl fl_X8_28 0 rfl (by decide) rfl rfl rfl rfl (Nat.le_of_ble_eq_true rfl) rfl dX8_init_58 ?_
  refine A_aload_n dX8_init_61 0 rfl ?_
  refine A_bipush (v := 40) dX8_init_62 (by decide) ?_
  refine A_newi (N' := 40) ar_int (by decide) (by decide) (by decide) (by decide) (by decide) dX8_init_64 (fun q8 => ?_)
  refine A_ws (ws2 := [(h0, .inr (8, [.ref q1, .ref q2, .ref q3, .int 0, .ref q4, .int 0, .int 0, .int 0, .int 0, .int 0, .int 0, .ref q5, .ref q6, .int 0, .ref q7, .null, .int 0, .int 0, .null, .null, .null, .null])), (q1, .inl (cA 0, 268, .inl (fun _ => 0))), (q2, .inl (cA 0, 268, .inl (fun _ => 0))), (q3, .inl (cA 0, 96, .inl (fun _ => 0))), (q4, .inl (cA 0, 6, .inl (fun _ => 0))), (q5, .inl (cA 0, 3, .inl (fun _ => 0))), (q6, .inl (cA 0, 60, .inl (fun _ => 0))), (q7, .inl (cA 0, 60, .inl (fun _ => 0))), (q8, .inl (cA 0, 40, .inl (fun _ => 0)))]) rfl ?_
  refine A_putF (C0 := RX8) (T := TX8) (ty := tyX8) (k0 := 15) (ws2 := [(h0, .inr (8, [.ref q1, .ref q2, .ref q3, .int 0, .ref q4, .int 0, .int 0, .int 0, .int 0, .int 0, .int 0, .ref q5, .ref q6, .int 0, .ref q7, .ref q8, .int 0, .int 0, .null, .null, .null, .null])), (q1, .inl (cA 0, 268, .inl (fun _ => 0))), (q2, .inl (cA 0, 268, .inl (fun _ => 0))), (q3, .inl (cA 0, 96, .inl (fun _ => 0))), (q4, .inl (cA 0, 6, .inl (fun _ => 0))), (q5, .inl (cA 0, 3, .inl (fun _ => 0))), (q6, .inl (cA 0, 60, .inl (fun _ => 0))), (q7, .inl (cA 0, 60, .inl (fun _ => 0))), (q8, .inl (cA 0, 40, .inl (fun _ => 0)))]) rfl rfl inT_8 tyX8_ok nmX8 rfl fl_X8_31 0 rfl (by decide) rfl rfl rfl rfl (Nat.le_of_ble_eq_true rfl) rfl dX8_init_66 ?_
  refine A_aload_n dX8_init_69 0 rfl ?_
  refine A_iconst (v := 4) dX8_init_70 (by decide) ?_
  refine A_newi (N' := 4) ar_int (by decide) (by decide) (by decide) (by decide) (by decide) dX8_init_71 (fun q9 => ?_)
  refine A_ws (ws2 := [(h0, .inr (8, [.ref q1, .ref q2, .ref q3, .int 0, .ref q4, .int 0, .int 0, .int 0, .int 0, .int 0, .int 0, .ref q5, .ref q6, .int 0, .ref q7, .ref q8, .int 0, .int 0, .null, .null, .null, .null])), (q1, .inl (cA 0, 268, .inl (fun _ => 0))), (q2, .inl (cA 0, 268, .inl (fun _ => 0))), (q3, .inl (cA 0, 96, .inl (fun _ => 0))), (q4, .inl (cA 0, 6, .inl (fun _ => 0))), (q5, .inl (cA 0, 3, .inl (fun _ => 0))), (q6, .inl (cA 0, 60, .inl (fun _ => 0))), (q7, .inl (cA 0, 60, .inl (fun _ => 0))), (q8, .inl (cA 0, 40, .inl (fun _ => 0))), (q9, .inl (cA 0, 4, .inl (fun _ => 0)))]) rfl ?_
  refine A_putF (C0 := RX8) (T := TX8) (ty := tyX8) (k0 := 18) (ws2 := [(h0, .inr (8, [.ref q1, .ref q2, .ref q3, .int 0, .ref q4, .int 0, .int 0, .int 0, .int 0, .int 0, .int 0, .ref q5, .ref q6, .int 0, .ref q7, .ref q8, .int 0, .int 0, .ref q9, .null, .null, .null])), (q1, .inl (cA 0, 268, .inl (fun _ => 0))), (q2, .inl (cA 0, 268, .inl (fun _ => 0))), (q3, .inl (cA 0, 96, .inl (fun _ => 0))), (q4, .inl (cA 0, 6, .inl (fun _ => 0))), (q5, .inl (cA 0, 3, .inl (fun _ => 0))), (q6, .inl (cA 0, 60, .inl (fun _ => 0))), (q7, .inl (cA 0, 60, .inl (fun _ => 0))), (q8, .inl (cA 0, 40, .inl (fun _ => 0))), (q9, .inl (cA 0, 4, .inl (fun _ => 0)))]) rfl rfl inT_8 tyX8_ok nmX8 rfl fl_X8_34 0 rfl (by decide) rfl rfl rfl rfl (Nat.le_of_ble_eq_true rfl) rfl dX8_init_73 ?_
  refine A_aload_n dX8_init_76 0 rfl ?_
  refine A_iconst (v := 4) dX8_init_77 (by decide) ?_
  refine A_newi (N' := 4) ar_int (by decide) (by decide) (by decide) (by decide) (by decide) dX8_init_78 (fun q10 => ?_)
  refine A_ws (ws2 := [(h0, .inr (8, [.ref q1, .ref q2, .ref q3, .int 0, .ref q4, .int 0, .int 0, .int 0, .int 0, .int 0, .int 0, .ref q5, .ref q6, .int 0, .ref q7, .ref q8, .int 0, .int 0, .ref q9, .null, .null, .null])), (q1, .inl (cA 0, 268, .inl (fun _ => 0))), (q2, .inl (cA 0, 268, .inl (fun _ => 0))), (q3, .inl (cA 0, 96, .inl (fun _ => 0))), (q4, .inl (cA 0, 6, .inl (fun _ => 0))), (q5, .inl (cA 0, 3, .inl (fun _ => 0))), (q6, .inl (cA 0, 60, .inl (fun _ => 0))), (q7, .inl (cA 0, 60, .inl (fun _ => 0))), (q8, .inl (cA 0, 40, .inl (fun _ => 0))), (q9, .inl (cA 0, 4, .inl (fun _ => 0))), (q10, .inl (cA 0, 4, .inl (fun _ => 0)))]) rfl ?_
  refine A_putF (C0 := RX8) (T := TX8) (ty := tyX8) (k0 := 19) (ws2 := [(h0, .inr (8, [.ref q1, .ref q2, .ref q3, .int 0, .ref q4, .int 0, .int 0, .int 0, .int 0, .int 0, .int 0, .ref q5, .ref q6, .int 0, .ref q7, .ref q8, .int 0, .int 0, .ref q9, .ref q10, .null, .null])), (q1, .inl (cA 0, 268, .inl (fun _ => 0))), (q2, .inl (cA 0, 268, .inl (fun _ => 0))), (q3, .inl (cA 0, 96, .inl (fun _ => 0))), (q4, .inl (cA 0, 6, .inl (fun _ => 0))), (q5, .inl (cA 0, 3, .inl (fun _ => 0))), (q6, .inl (cA 0, 60, .inl (fun _ => 0))), (q7, .inl (cA 0, 60, .inl (fun _ => 0))), (q8, .inl (cA 0, 40, .inl (fun _ => 0))), (q9, .inl (cA 0, 4, .inl (fun _ => 0))), (q10, .inl (cA 0, 4, .inl (fun _ => 0)))]) rfl rfl inT_8 tyX8_ok nmX8 rfl fl_X8_37 0 rfl (by decide) rfl rfl rfl rfl (Nat.le_of_ble_eq_true rfl) rfl dX8_init_80 ?_
  refine A_aload_n dX8_init_83 0 rfl ?_
  refine A_sipush (v := 160) dX8_init_84 (by decide) ?_
  refine A_newi (N' := 160) ar_int (by decide) (by decide) (by decide) (by decide) (by decide) dX8_init_87 (fun q11 => ?_)
  refine A_ws (ws2 := [(h0, .inr (8, [.ref q1, .ref q2, .ref q3, .int 0, .ref q4, .int 0, .int 0, .int 0, .int 0, .int 0, .int 0, .ref q5, .ref q6, .int 0, .ref q7, .ref q8, .int 0, .int 0, .ref q9, .ref q10, .null, .null])), (q1, .inl (cA 0, 268, .inl (fun _ => 0))), (q2, .inl (cA 0, 268, .inl (fun _ => 0))), (q3, .inl (cA 0, 96, .inl (fun _ => 0))), (q4, .inl (cA 0, 6, .inl (fun _ => 0))), (q5, .inl (cA 0, 3, .inl (fun _ => 0))), (q6, .inl (cA 0, 60, .inl (fun _ => 0))), (q7, .inl (cA 0, 60, .inl (fun _ => 0))), (q8, .inl (cA 0, 40, .inl (fun _ => 0))), (q9, .inl (cA 0, 4, .inl (fun _ => 0))), (q10, .inl (cA 0, 4, .inl (fun _ => 0))), (q11, .inl (cA 0, 160, .inl (fun _ => 0)))]) rfl ?_
  refine A_putF (C0 := RX8) (T := TX8) (ty := tyX8) (k0 := 20) (ws2 := [(h0, .inr (8, [.ref q1, .ref q2, .ref q3, .int 0, .ref q4, .int 0, .int 0, .int 0, .int 0, .int 0, .int 0, .ref q5, .ref q6, .int 0, .ref q7, .ref q8, .int 0, .int 0, .ref q9, .ref q10, .ref q11, .null])), (q1, .inl (cA 0, 268, .inl (fun _ => 0))), (q2, .inl (cA 0, 268, .inl (fun _ => 0))), (q3, .inl (cA 0, 96, .inl (fun _ => 0))), (q4, .inl (cA 0, 6, .inl (fun _ => 0))), (q5, .inl (cA 0, 3, .inl (fun _ => 0))), (q6, .inl (cA 0, 60, .inl (fun _ => 0))), (q7, .inl (cA 0, 60, .inl (fun _ => 0))), (q8, .inl (cA 0, 40, .inl (fun _ => 0))), (q9, .inl (cA 0, 4, .inl (fun _ => 0))), (q10, .inl (cA 0, 4, .inl (fun _ => 0))), (q11, .inl (cA 0, 160, .inl (fun _ => 0)))]) rfl rfl inT_8 tyX8_ok nmX8 rfl fl_X8_40 0 rfl (by decide) rfl rfl rfl rfl (Nat.le_of_ble_eq_true rfl) rfl dX8_init_89 ?_
  refine A_aload_n dX8_init_92 0 rfl ?_
  refine A_bipush (v := 40) dX8_init_93 (by decide) ?_
  refine A_newi (N' := 40) ar_int (by decide) (by decide) (by decide) (by decide) (by decide) dX8_init_95 (fun q12 => ?_)
  refine A_ws (ws2 := [(h0, .inr (8, [.ref q1, .ref q2, .ref q3, .int 0, .ref q4, .int 0, .int 0, .int 0, .int 0, .int 0, .int 0, .ref q5, .ref q6, .int 0, .ref q7, .ref q8, .int 0, .int 0, .ref q9, .ref q10, .ref q11, .null])), (q1, .inl (cA 0, 268, .inl (fun _ => 0))), (q2, .inl (cA 0, 268, .inl (fun _ => 0))), (q3, .inl (cA 0, 96, .inl (fun _ => 0))), (q4, .inl (cA 0, 6, .inl (fun _ => 0))), (q5, .inl (cA 0, 3, .inl (fun _ => 0))), (q6, .inl (cA 0, 60, .inl (fun _ => 0))), (q7, .inl (cA 0, 60, .inl (fun _ => 0))), (q8, .inl (cA 0, 40, .inl (fun _ => 0))), (q9, .inl (cA 0, 4, .inl (fun _ => 0))), (q10, .inl (cA 0, 4, .inl (fun _ => 0))), (q11, .inl (cA 0, 160, .inl (fun _ => 0))), (q12, .inl (cA 0, 40, .inl (fun _ => 0)))]) rfl ?_
  refine A_putF (C0 := RX8) (T := TX8) (ty := tyX8) (k0 := 21) (ws2 := [(h0, .inr (8, [.ref q1, .ref q2, .ref q3, .int 0, .ref q4, .int 0, .int 0, .int 0, .int 0, .int 0, .int 0, .ref q5, .ref q6, .int 0, .ref q7, .ref q8, .int 0, .int 0, .ref q9, .ref q10, .ref q11, .ref q12])), (q1, .inl (cA 0, 268, .inl (fun _ => 0))), (q2, .inl (cA 0, 268, .inl (fun _ => 0))), (q3, .inl (cA 0, 96, .inl (fun _ => 0))), (q4, .inl (cA 0, 6, .inl (fun _ => 0))), (q5, .inl (cA 0, 3, .inl (fun _ => 0))), (q6, .inl (cA 0, 60, .inl (fun _ => 0))), (q7, .inl (cA 0, 60, .inl (fun _ => 0))), (q8, .inl (cA 0, 40, .inl (fun _ => 0))), (q9, .inl (cA 0, 4, .inl (fun _ => 0))), (q10, .inl (cA 0, 4, .inl (fun _ => 0))), (q11, .inl (cA 0, 160, .inl (fun _ => 0))), (q12, .inl (cA 0, 40, .inl (fun _ => 0)))]) rfl rfl inT_8 tyX8_ok nmX8 rfl fl_X8_43 0 rfl (by decide) rfl rfl rfl rfl (Nat.le_of_ble_eq_true rfl) rfl dX8_init_97 ?_
  refine A_iconst (v := 0) dX8_init_100 (by decide) ?_
  refine A_istore_n (L2 := [(1, .int 0), (0, .ref h0)]) dX8_init_101 (by decide) rfl ?_
  refine A_iload_n dX8_init_102 0 rfl ?_
  refine A_iconst (v := 5) dX8_init_103 (by decide) ?_
  refine A_ge_f (by decide) dX8_init_104 (tgt := 139) (by decide) ?_
  refine A_aload_n dX8_init_107 1 rfl ?_
  refine A_get (C0 := RX8) (T := TX8) (k0 := 0) (v := .ref q1) rfl inT_8 rfl fl_X8_7 0 rfl (by decide) rfl dX8_init_108 ?_
  refine A_bipush (v := 6) dX8_init_111 (by decide) ?_
  refine A_iconst (v := 2) dX8_init_113 (by decide) ?_
  refine A_iload_n dX8_init_114 0 rfl ?_
  refine A_imul (v := 0) (by decide) dX8_init_115 ?_
  refine A_iadd (v := 6) (by decide) dX8_init_116 ?_
  refine A_iconst (v := 2) dX8_init_117 (by decide) ?_
  obtain ⟨g13, eg13⟩ : ∃ g : Nat → Int32, upd (fun _ => 0) (6 : Int32).toNatClampNeg 2 = g := ⟨_, rfl⟩
  refine A_iast (f2 := g13) (ws2 := [(h0, .inr (8, [.ref q1, .ref q2, .ref q3, .int 0, .ref q4, .int 0, .int 0, .int 0, .int 0, .int 0, .int 0, .ref q5, .ref q6, .int 0, .ref q7, .ref q8, .int 0, .int 0, .ref q9, .ref q10, .ref q11, .ref q12])), (q1, .inl (cA 0, 268, .inl g13)), (q2, .inl (cA 0, 268, .inl (fun _ => 0))), (q3, .inl (cA 0, 96, .inl (fun _ => 0))), (q4, .inl (cA 0, 6, .inl (fun _ => 0))), (q5, .inl (cA 0, 3, .inl (fun _ => 0))), (q6, .inl (cA 0, 60, .inl (fun _ => 0))), (q7, .inl (cA 0, 60, .inl (fun _ => 0))), (q8, .inl (cA 0, 40, .inl (fun _ => 0))), (q9, .inl (cA 0, 4, .inl (fun _ => 0))), (q10, .inl (cA 0, 4, .inl (fun _ => 0))), (q11, .inl (cA 0, 160, .inl (fun _ => 0))), (q12, .inl (cA 0, 40, .inl (fun _ => 0)))]) 1 rfl (ib_in (by decide)) eg13 rfl dX8_init_118 ?_
  refine A_aload_n dX8_init_119 1 rfl ?_
  refine A_get (C0 := RX8) (T := TX8) (k0 := 0) (v := .ref q1) rfl inT_8 rfl fl_X8_7 0 rfl (by decide) rfl dX8_init_120 ?_
  refine A_bipush (v := 6) dX8_init_123 (by decide) ?_
  refine A_iconst (v := 2) dX8_init_125 (by decide) ?_
  refine A_iload_n dX8_init_126 0 rfl ?_
  refine A_imul (v := 0) (by decide) dX8_init_127 ?_
  refine A_iadd (v := 6) (by decide) dX8_init_128 ?_
  refine A_iconst (v := 1) dX8_init_129 (by decide) ?_
  refine A_iadd (v := 7) (by decide) dX8_init_130 ?_
  refine A_iconst (v := 5) dX8_init_131 (by decide) ?_
  obtain ⟨g14, eg14⟩ : ∃ g : Nat → Int32, upd g13 (7 : Int32).toNatClampNeg 5 = g := ⟨_, rfl⟩
  refine A_iast (f2 := g14) (ws2 := [(h0, .inr (8, [.ref q1, .ref q2, .ref q3, .int 0, .ref q4, .int 0, .int 0, .int 0, .int 0, .int 0, .int 0, .ref q5, .ref q6, .int 0, .ref q7, .ref q8, .int 0, .int 0, .ref q9, .ref q10, .ref q11, .ref q12])), (q1, .inl (cA 0, 268, .inl g14)), (q2, .inl (cA 0, 268, .inl (fun _ => 0))), (q3, .inl (cA 0, 96, .inl (fun _ => 0))), (q4, .inl (cA 0, 6, .inl (fun _ => 0))), (q5, .inl (cA 0, 3, .inl (fun _ => 0))), (q6, .inl (cA 0, 60, .inl (fun _ => 0))), (q7, .inl (cA 0, 60, .inl (fun _ => 0))), (q8, .inl (cA 0, 40, .inl (fun _ => 0))), (q9, .inl (cA 0, 4, .inl (fun _ => 0))), (q10, .inl (cA 0, 4, .inl (fun _ => 0))), (q11, .inl (cA 0, 160, .inl (fun _ => 0))), (q12, .inl (cA 0, 40, .inl (fun _ => 0)))]) 1 rfl (ib_in (by decide)) eg14 rfl dX8_init_132 ?_
  refine A_iinc (v := 1) (L2 := [(1, .int 1), (0, .ref h0)]) dX8_init_133 0 rfl (by decide) (by decide) rfl ?_
  refine A_goto (tgt := 102) dX8_init_136 (by decide) ?_
  refine A_iload_n dX8_init_102 0 rfl ?_
  refine A_iconst (v := 5) dX8_init_103 (by decide) ?_
  refine A_ge_f (by decide) dX8_init_104 (tgt := 139) (by decide) ?_
  refine A_aload_n dX8_init_107 1 rfl ?_
  refine A_get (C0 := RX8) (T := TX8) (k0 := 0) (v := .ref q1) rfl inT_8 rfl fl_X8_7 0 rfl (by decide) rfl dX8_init_108 ?_
  refine A_bipush (v := 6) dX8_init_111 (by decide) ?_
  refine A_iconst (v := 2) dX8_init_113 (by decide) ?_
  refine A_iload_n dX8_init_114 0 rfl ?_
  refine A_imul (v := 2) (by decide) dX8_init_115 ?_
  refine A_iadd (v := 8) (by decide) dX8_init_116 ?_
  refine A_iconst (v := 2) dX8_init_117 (by decide) ?_
  obtain ⟨g15, eg15⟩ : ∃ g : Nat → Int32, upd g14 (8 : Int32).toNatClampNeg 2 = g := ⟨_, rfl⟩
  refine A_iast (f2 := g15) (ws2 := [(h0, .inr (8, [.ref q1, .ref q2, .ref q3, .int 0, .ref q4, .int 0, .int 0, .int 0, .int 0, .int 0, .int 0, .ref q5, .ref q6, .int 0, .ref q7, .ref q8, .int 0, .int 0, .ref q9, .ref q10, .ref q11, .ref q12])), (q1, .inl (cA 0, 268, .inl g15)), (q2, .inl (cA 0, 268, .inl (fun _ => 0))), (q3, .inl (cA 0, 96, .inl (fun _ => 0))), (q4, .inl (cA 0, 6, .inl (fun _ => 0))), (q5, .inl (cA 0, 3, .inl (fun _ => 0))), (q6, .inl (cA 0, 60, .inl (fun _ => 0))), (q7, .inl (cA 0, 60, .inl (fun _ => 0))), (q8, .inl (cA 0, 40, .inl (fun _ => 0))), (q9, .inl (cA 0, 4, .inl (fun _ => 0))), (q10, .inl (cA 0, 4, .inl (fun _ => 0))), (q11, .inl (cA 0, 160, .inl (fun _ => 0))), (q12, .inl (cA 0, 40, .inl (fun _ => 0)))]) 1 rfl (ib_in (by decide)) eg15 rfl dX8_init_118 ?_
  refine A_aload_n dX8_init_119 1 rfl ?_
  refine A_get (C0 := RX8) (T := TX8) (k0 := 0) (v := .ref q1) rfl inT_8 rfl fl_X8_7 0 rfl (by decide) rfl dX8_init_120 ?_
  refine A_bipush (v := 6) dX8_init_123 (by decide) ?_
  refine A_iconst (v := 2) dX8_init_125 (by decide) ?_
  refine A_iload_n dX8_init_126 0 rfl ?_
  refine A_imul (v := 2) (by decide) dX8_init_127 ?_
  refine A_iadd (v := 8) (by decide) dX8_init_128 ?_
  refine A_iconst (v := 1) dX8_init_129 (by decide) ?_
  refine A_iadd (v := 9) (by decide) dX8_init_130 ?_
  refine A_iconst (v := 5) dX8_init_131 (by decide) ?_
  obtain ⟨g16, eg16⟩ : ∃ g : Nat → Int32, upd g15 (9 : Int32).toNatClampNeg 5 = g := ⟨_, rfl⟩
  refine A_iast (f2 := g16) (ws2 := [(h0, .inr (8, [.ref q1, .ref q2, .ref q3, .int 0, .ref q4, .int 0, .int 0, .int 0, .int 0, .int 0, .int 0, .ref q5, .ref q6, .int 0, .ref q7, .ref q8, .int 0, .int 0, .ref q9, .ref q10, .ref q11, .ref q12])), (q1, .inl (cA 0, 268, .inl g16)), (q2, .inl (cA 0, 268, .inl (fun _ => 0))), (q3, .inl (cA 0, 96, .inl (fun _ => 0))), (q4, .inl (cA 0, 6, .inl (fun _ => 0))), (q5, .inl (cA 0, 3, .inl (fun _ => 0))), (q6, .inl (cA 0, 60, .inl (fun _ => 0))), (q7, .inl (cA 0, 60, .inl (fun _ => 0))), (q8, .inl (cA 0, 40, .inl (fun _ => 0))), (q9, .inl (cA 0, 4, .inl (fun _ => 0))), (q10, .inl (cA 0, 4, .inl (fun _ => 0))), (q11, .inl (cA 0, 160, .inl (fun _ => 0))), (q12, .inl (cA 0, 40, .inl (fun _ => 0)))]) 1 rfl (ib_in (by decide)) eg16 rfl dX8_init_132 ?_
  refine A_iinc (v := 2) (L2 := [(1, .int 2), (0, .ref h0)]) dX8_init_133 0 rfl (by decide) (by decide) rfl ?_
  refine A_goto (tgt := 102) dX8_init_136 (by decide) ?_
  refine A_iload_n dX8_init_102 0 rfl ?_
  refine A_iconst (v := 5) dX8_init_103 (by decide) ?_
  refine A_ge_f (by decide) dX8_init_104 (tgt := 139) (by decide) ?_
  refine A_aload_n dX8_init_107 1 rfl ?_
  refine A_get (C0 := RX8) (T := TX8) (k0 := 0) (v := .ref q1) rfl inT_8 rfl fl_X8_7 0 rfl (by decide) rfl dX8_init_108 ?_
  refine A_bipush (v := 6) dX8_init_111 (by decide) ?_
  refine A_iconst (v := 2) dX8_init_113 (by decide) ?_
  refine A_iload_n dX8_init_114 0 rfl ?_
  refine A_imul (v := 4) (by decide) dX8_init_115 ?_
  refine A_iadd (v := 10) (by decide) dX8_init_116 ?_
  refine A_iconst (v := 2) dX8_init_117 (by decide) ?_
  obtain ⟨g17, eg17⟩ : ∃ g : Nat → Int32, upd g16 (10 : Int32).toNatClampNeg 2 = g := ⟨_, rfl⟩
  refine A_iast (f2 := g17) (ws2 := [(h0, .inr (8, [.ref q1, .ref q2, .ref q3, .int 0, .ref q4, .int 0, .int 0, .int 0, .int 0, .int 0, .int 0, .ref q5, .ref q6, .int 0, .ref q7, .ref q8, .int 0, .int 0, .ref q9, .ref q10, .ref q11, .ref q12])), (q1, .inl (cA 0, 268, .inl g17)), (q2, .inl (cA 0, 268, .inl (fun _ => 0))), (q3, .inl (cA 0, 96, .inl (fun _ => 0))), (q4, .inl (cA 0, 6, .inl (fun _ => 0))), (q5, .inl (cA 0, 3, .inl (fun _ => 0))), (q6, .inl (cA 0, 60, .inl (fun _ => 0))), (q7, .inl (cA 0, 60, .inl (fun _ => 0))), (q8, .inl (cA 0, 40, .inl (fun _ => 0))), (q9, .inl (cA 0, 4, .inl (fun _ => 0))), (q10, .inl (cA 0, 4, .inl (fun _ => 0))), (q11, .inl (cA 0, 160, .inl (fun _ => 0))), (q12, .inl (cA 0, 40, .inl (fun _ => 0)))]) 1 rfl (ib_in (by decide)) eg17 rfl dX8_init_118 ?_
  refine A_aload_n dX8_init_119 1 rfl ?_
  refine A_get (C0 := RX8) (T := TX8) (k0 := 0) (v := .ref q1) rfl inT_8 rfl fl_X8_7 0 rfl (by decide) rfl dX8_init_120 ?_
  refine A_bipush (v := 6) dX8_init_123 (by decide) ?_
  refine A_iconst (v := 2) dX8_init_125 (by decide) ?_
  refine A_iload_n dX8_init_126 0 rfl ?_
  refine A_imul (v := 4) (by decide) dX8_init_127 ?_
  refine A_iadd (v := 10) (by decide) dX8_init_128 ?_
  refine A_iconst (v := 1) dX8_init_129 (by decide) ?_
  refine A_iadd (v := 11) (by decide) dX8_init_130 ?_
  refine A_iconst (v := 5) dX8_init_131 (by decide) ?_
  obtain ⟨g18, eg18⟩ : ∃ g : Nat → Int32, upd g17 (11 : Int32).toNatClampNeg 5 = g := ⟨_, rfl⟩
  refine A_iast (f2 := g18) (ws2 := [(h0, .inr (8, [.ref q1, .ref q2, .ref q3, .int 0, .ref q4, .int 0, .int 0, .int 0, .int 0, .int 0, .int 0, .ref q5, .ref q6, .int 0, .ref q7, .ref q8, .int 0, .int 0, .ref q9, .ref q10, .ref q11, .ref q12])), (q1, .inl (cA 0, 268, .inl g18)), (q2, .inl (cA 0, 268, .inl (fun _ => 0))), (q3, .inl (cA 0, 96, .inl (fun _ => 0))), (q4, .inl (cA 0, 6, .inl (fun _ => 0))), (q5, .inl (cA 0, 3, .inl (fun _ => 0))), (q6, .inl (cA 0, 60, .inl (fun _ => 0))), (q7, .inl (cA 0, 60, .inl (fun _ => 0))), (q8, .inl (cA 0, 40, .inl (fun _ => 0))), (q9, .inl (cA 0, 4, .inl (fun _ => 0))), (q10, .inl (cA 0, 4, .inl (fun _ => 0))), (q11, .inl (cA 0, 160, .inl (fun _ => 0))), (q12, .inl (cA 0, 40, .inl (fun _ => 0)))]) 1 rfl (ib_in (by decide)) eg18 rfl dX8_init_132 ?_
  refine A_iinc (v := 3) (L2 := [(1, .int 3), (0, .ref h0)]) dX8_init_133 0 rfl (by decide) (by decide) rfl ?_
  refine A_goto (tgt := 102) dX8_init_136 (by decide) ?_
  refine A_iload_n dX8_init_102 0 rfl ?_
  refine A_iconst (v := 5) dX8_init_103 (by decide) ?_
  refine A_ge_f (by decide) dX8_init_104 (tgt := 139) (by decide) ?_
  refine A_aload_n dX8_init_107 1 rfl ?_
  refine A_get (C0 := RX8) (T := TX8) (k0 := 0) (v := .ref q1) rfl inT_8 rfl fl_X8_7 0 rfl (by decide) rfl dX8_init_108 ?_
  refine A_bipush (v := 6) dX8_init_111 (by decide) ?_
  refine A_iconst (v := 2) dX8_init_113 (by decide) ?_
  refine A_iload_n dX8_init_114 0 rfl ?_
  refine A_imul (v := 6) (by decide) dX8_init_115 ?_
  refine A_iadd (v := 12) (by decide) dX8_init_116 ?_
  refine A_iconst (v := 2) dX8_init_117 (by decide) ?_
  obtain ⟨g19, eg19⟩ : ∃ g : Nat → Int32, upd g18 (12 : Int32).toNatClampNeg 2 = g := ⟨_, rfl⟩
  refine A_iast (f2 := g19) (ws2 := [(h0, .inr (8, [.ref q1, .ref q2, .ref q3, .int 0, .ref q4, .int 0, .int 0, .int 0, .int 0, .int 0, .int 0, .ref q5, .ref q6, .int 0, .ref q7, .ref q8, .int 0, .int 0, .ref q9, .ref q10, .ref q11, .ref q12])), (q1, .inl (cA 0, 268, .inl g19)), (q2, .inl (cA 0, 268, .inl (fun _ => 0))), (q3, .inl (cA 0, 96, .inl (fun _ => 0))), (q4, .inl (cA 0, 6, .inl (fun _ => 0))), (q5, .inl (cA 0, 3, .inl (fun _ => 0))), (q6, .inl (cA 0, 60, .inl (fun _ => 0))), (q7, .inl (cA 0, 60, .inl (fun _ => 0))), (q8, .inl (cA 0, 40, .inl (fun _ => 0))), (q9, .inl (cA 0, 4, .inl (fun _ => 0))), (q10, .inl (cA 0, 4, .inl (fun _ => 0))), (q11, .inl (cA 0, 160, .inl (fun _ => 0))), (q12, .inl (cA 0, 40, .inl (fun _ => 0)))]) 1 rfl (ib_in (by decide)) eg19 rfl dX8_init_118 ?_
  refine A_aload_n dX8_init_119 1 rfl ?_
  refine A_get (C0 := RX8) (T := TX8) (k0 := 0) (v := .ref q1) rfl inT_8 rfl fl_X8_7 0 rfl (by decide) rfl dX8_init_120 ?_
  refine A_bipush (v := 6) dX8_init_123 (by decide) ?_
  refine A_iconst (v := 2) dX8_init_125 (by decide) ?_
  refine A_iload_n dX8_init_126 0 rfl ?_
  refine A_imul (v := 6) (by decide) dX8_init_127 ?_
  refine A_iadd (v := 12) (by decide) dX8_init_128 ?_
  refine A_iconst (v := 1) dX8_init_129 (by decide) ?_
  refine A_iadd (v := 13) (by decide) dX8_init_130 ?_
  refine A_iconst (v := 5) dX8_init_131 (by decide) ?_
  obtain ⟨g20, eg20⟩ : ∃ g : Nat → Int32, upd g19 (13 : Int32).toNatClampNeg 5 = g := ⟨_, rfl⟩
  refine A_iast (f2 := g20) (ws2 := [(h0, .inr (8, [.ref q1, .ref q2, .ref q3, .int 0, .ref q4, .int 0, .int 0, .int 0, .int 0, .int 0, .int 0, .ref q5, .ref q6, .int 0, .ref q7, .ref q8, .int 0, .int 0, .ref q9, .ref q10, .ref q11, .ref q12])), (q1, .inl (cA 0, 268, .inl g20)), (q2, .inl (cA 0, 268, .inl (fun _ => 0))), (q3, .inl (cA 0, 96, .inl (fun _ => 0))), (q4, .inl (cA 0, 6, .inl (fun _ => 0))), (q5, .inl (cA 0, 3, .inl (fun _ => 0))), (q6, .inl (cA 0, 60, .inl (fun _ => 0))), (q7, .inl (cA 0, 60, .inl (fun _ => 0))), (q8, .inl (cA 0, 40, .inl (fun _ => 0))), (q9, .inl (cA 0, 4, .inl (fun _ => 0))), (q10, .inl (cA 0, 4, .inl (fun _ => 0))), (q11, .inl (cA 0, 160, .inl (fun _ => 0))), (q12, .inl (cA 0, 40, .inl (fun _ => 0)))]) 1 rfl (ib_in (by decide)) eg20 rfl dX8_init_132 ?_
  refine A_iinc (v := 4) (L2 := [(1, .int 4), (0, .ref h0)]) dX8_init_133 0 rfl (by decide) (by decide) rfl ?_
  refine A_goto (tgt := 102) dX8_init_136 (by decide) ?_
  refine A_iload_n dX8_init_102 0 rfl ?_
  refine A_iconst (v := 5) dX8_init_103 (by decide) ?_
  refine A_ge_f (by decide) dX8_init_104 (tgt := 139) (by decide) ?_
  refine A_aload_n dX8_init_107 1 rfl ?_
  refine A_get (C0 := RX8) (T := TX8) (k0 := 0) (v := .ref q1) rfl inT_8 rfl fl_X8_7 0 rfl (by decide) rfl dX8_init_108 ?_
  refine A_bipush (v := 6) dX8_init_111 (by decide) ?_
  refine A_iconst (v := 2) dX8_init_113 (by decide) ?_
  refine A_iload_n dX8_init_114 0 rfl ?_
  refine A_imul (v := 8) (by decide) dX8_init_115 ?_
  refine A_iadd (v := 14) (by decide) dX8_init_116 ?_
  refine A_iconst (v := 2) dX8_init_117 (by decide) ?_
  obtain ⟨g21, eg21⟩ : ∃ g : Nat → Int32, upd g20 (14 : Int32).toNatClampNeg 2 = g := ⟨_, rfl⟩
  refine A_iast (f2 := g21) (ws2 := [(h0, .inr (8, [.ref q1, .ref q2, .ref q3, .int 0, .ref q4, .int 0, .int 0, .int 0, .int 0, .int 0, .int 0, .ref q5, .ref q6, .int 0, .ref q7, .ref q8, .int 0, .int 0, .ref q9, .ref q10, .ref q11, .ref q12])), (q1, .inl (cA 0, 268, .inl g21)), (q2, .inl (cA 0, 268, .inl (fun _ => 0))), (q3, .inl (cA 0, 96, .inl (fun _ => 0))), (q4, .inl (cA 0, 6, .inl (fun _ => 0))), (q5, .inl (cA 0, 3, .inl (fun _ => 0))), (q6, .inl (cA 0, 60, .inl (fun _ => 0))), (q7, .inl (cA 0, 60, .inl (fun _ => 0))), (q8, .inl (cA 0, 40, .inl (fun _ => 0))), (q9, .inl (cA 0, 4, .inl (fun _ => 0))), (q10, .inl (cA 0, 4, .inl (fun _ => 0))), (q11, .inl (cA 0, 160, .inl (fun _ => 0))), (q12, .inl (cA 0, 40, .inl (fun _ => 0)))]) 1 rfl (ib_in (by decide)) eg21 rfl dX8_init_118 ?_
  refine A_aload_n dX8_init_119 1 rfl ?_
  refine A_get (C0 := RX8) (T := TX8) (k0 := 0) (v := .ref q1) rfl inT_8 rfl fl_X8_7 0 rfl (by decide) rfl dX8_init_120 ?_
  refine A_bipush (v := 6) dX8_init_123 (by decide) ?_
  refine A_iconst (v := 2) dX8_init_125 (by decide) ?_
  refine A_iload_n dX8_init_126 0 rfl ?_
  refine A_imul (v := 8) (by decide) dX8_init_127 ?_
  refine A_iadd (v := 14) (by decide) dX8_init_128 ?_
  refine A_iconst (v := 1) dX8_init_129 (by decide) ?_
  refine A_iadd (v := 15) (by decide) dX8_init_130 ?_
  refine A_iconst (v := 5) dX8_init_131 (by decide) ?_
  obtain ⟨g22, eg22⟩ : ∃ g : Nat → Int32, upd g21 (15 : Int32).toNatClampNeg 5 = g := ⟨_, rfl⟩
  refine A_iast (f2 := g22) (ws2 := [(h0, .inr (8, [.ref q1, .ref q2, .ref q3, .int 0, .ref q4, .int 0, .int 0, .int 0, .int 0, .int 0, .int 0, .ref q5, .ref q6, .int 0, .ref q7, .ref q8, .int 0, .int 0, .ref q9, .ref q10, .ref q11, .ref q12])), (q1, .inl (cA 0, 268, .inl g22)), (q2, .inl (cA 0, 268, .inl (fun _ => 0))), (q3, .inl (cA 0, 96, .inl (fun _ => 0))), (q4, .inl (cA 0, 6, .inl (fun _ => 0))), (q5, .inl (cA 0, 3, .inl (fun _ => 0))), (q6, .inl (cA 0, 60, .inl (fun _ => 0))), (q7, .inl (cA 0, 60, .inl (fun _ => 0))), (q8, .inl (cA 0, 40, .inl (fun _ => 0))), (q9, .inl (cA 0, 4, .inl (fun _ => 0))), (q10, .inl (cA 0, 4, .inl (fun _ => 0))), (q11, .inl (cA 0, 160, .inl (fun _ => 0))), (q12, .inl (cA 0, 40, .inl (fun _ => 0)))]) 1 rfl (ib_in (by decide)) eg22 rfl dX8_init_132 ?_
  refine A_iinc (v := 5) (L2 := [(1, .int 5), (0, .ref h0)]) dX8_init_133 0 rfl (by decide) (by decide) rfl ?_
  refine A_goto (tgt := 102) dX8_init_136 (by decide) ?_
  refine A_iload_n dX8_init_102 0 rfl ?_
  refine A_iconst (v := 5) dX8_init_103 (by decide) ?_
  refine A_ge_t (by decide) dX8_init_104 (tgt := 139) (by decide) ?_
  refine A_aload_n dX8_init_139 1 rfl ?_
  refine A_get (C0 := RX8) (T := TX8) (k0 := 0) (v := .ref q1) rfl inT_8 rfl fl_X8_7 0 rfl (by decide) rfl dX8_init_140 ?_
  refine A_iconst (v := 3) dX8_init_143 (by decide) ?_
  refine A_iconst (v := 1) dX8_init_144 (by decide) ?_
  obtain ⟨g23, eg23⟩ : ∃ g : Nat → Int32, upd g22 (3 : Int32).toNatClampNeg 1 = g := ⟨_, rfl⟩
  refine A_iast (f2 := g23) (ws2 := [(h0, .inr (8, [.ref q1, .ref q2, .ref q3, .int 0, .ref q4, .int 0, .int 0, .int 0, .int 0, .int 0, .int 0, .ref q5, .ref q6, .int 0, .ref q7, .ref q8, .int 0, .int 0, .ref q9, .ref q10, .ref q11, .ref q12])), (q1, .inl (cA 0, 268, .inl g23)), (q2, .inl (cA 0, 268, .inl (fun _ => 0))), (q3, .inl (cA 0, 96, .inl (fun _ => 0))), (q4, .inl (cA 0, 6, .inl (fun _ => 0))), (q5, .inl (cA 0, 3, .inl (fun _ => 0))), (q6, .inl (cA 0, 60, .inl (fun _ => 0))), (q7, .inl (cA 0, 60, .inl (fun _ => 0))), (q8, .inl (cA 0, 40, .inl (fun _ => 0))), (q9, .inl (cA 0, 4, .inl (fun _ => 0))), (q10, .inl (cA 0, 4, .inl (fun _ => 0))), (q11, .inl (cA 0, 160, .inl (fun _ => 0))), (q12, .inl (cA 0, 40, .inl (fun _ => 0)))]) 1 rfl (ib_in (by decide)) eg23 rfl dX8_init_145 ?_
  refine A_ret dX8_init_146 ?_ rfl rfl
  refine ⟨_, _, _, _, _, _, _, _, _, _, _, _, _, ?_, rfl⟩
  intro j
  subst eg23 eg22 eg21 eg20 eg19 eg18 eg17 eg16 eg15 eg14 eg13
  by_cases hj : j < 16
  · rcases (show j = 0 ∨ j = 1 ∨ j = 2 ∨ j = 3 ∨ j = 4 ∨ j = 5 ∨ j = 6 ∨ j = 7 ∨ j = 8 ∨ j = 9 ∨ j = 10 ∨ j = 11 ∨ j = 12 ∨ j = 13 ∨ j = 14 ∨ j = 15 by omega) with rfl | rfl | rfl | rfl | rfl | rfl | rfl | rfl | rfl | rfl | rfl | rfl | rfl | rfl | rfl | rfl <;> rfl
  · have hx : ∀ n : Nat, n < 16 → ¬ j = n := fun n h e => hj (by omega)
    unfold dInit
    rw [if_neg (hx 3 (by omega)), if_neg (by omega)]
    simp only [upd]
    skip
    simp [show (6 : Int32).toNatClampNeg = 6 from rfl, show (6 : Int32).toNatClampNeg = 6 from rfl, show (7 : Int32).toNatClampNeg = 7 from rfl, show (8 : Int32).toNatClampNeg = 8 from rfl, show (9 : Int32).toNatClampNeg = 9 from rfl, show (10 : Int32).toNatClampNeg = 10 from rfl, show (11 : Int32).toNatClampNeg = 11 from rfl, show (12 : Int32).toNatClampNeg = 12 from rfl, show (13 : Int32).toNatClampNeg = 13 from rfl, show (14 : Int32).toNatClampNeg = 14 from rfl, show (15 : Int32).toNatClampNeg = 15 from rfl, show (3 : Int32).toNatClampNeg = 3 from rfl, hx 6 (by omega), hx 7 (by omega), hx 8 (by omega), hx 9 (by omega), hx 10 (by omega), hx 11 (by omega), hx 12 (by omega), hx 13 (by omega), hx 14 (by omega), hx 15 (by omega), hx 3 (by omega)]
end
section
/-- the start: all as at first -/
def C0 : Mem := fun f _ k => if f = 10 then 2 else if f = 11 then 5 else if f = 0 ∧ k = 4 then 1 else 0
def R0 : Mem := fun f _ k => if f = 20 then dInit k else 0
/-- two cells that hold the same -/
def eqE (e e' : va_E) : Prop := e = e' ∨ (∃ (c : ClassId) (n : Nat) (f g : Nat → Int32), e = .inl (c, n, .inl f) ∧ e' = .inl (c, n, .inl g) ∧ ∀ j, j < n → f j = g j) ∨ (∃ (c : ClassId) (n : Nat) (f g : Nat → Option Nat), e = .inl (c, n, .inr (.inr (.inr (.inr f)))) ∧ e' = .inl (c, n, .inr (.inr (.inr (.inr g)))) ∧ ∀ j, j < n → f j = g j)
theorem arrV_cg {c : ClassId} {n : Nat} {f g : Nat → Value} (h : ∀ j, j < n → f j = g j) : arrV c n f = arrV c n g := by
  unfold arrV
  congr 2
  funext j
  exact h j.1 j.2
theorem eqE_at {D : va_G} {cl : List vw_C} {a : Nat} {e e' : va_E} {H : Heap} (he : eqE e e') (h : va_at D cl (a, e) H) : va_at D cl (a, e') H := by
  rcases he with rfl | ⟨c, n, f, g, rfl, rfl, hj⟩ | ⟨c, n, f, g, rfl, rfl, hj⟩
  · exact h
  · show H[a]? = some (vp_cell c (n, .inl g))
    rw [vp_cell_i, ← arrV_cg (fun j hj2 => congrArg Value.int (hj j hj2))]
    exact h
  · show H[a]? = some (vp_cell c (n, .inr (.inr (.inr (.inr g)))))
    rw [vp_cell_q, ← arrV_cg (fun j hj2 => congrArg va_rf (hj j hj2))]
    exact h
def relW : List (Nat × va_E) → List (Nat × va_E) → Prop
  | [], [] => True
  | x :: xs, y :: ys => (x.1 = y.1 ∧ eqE x.2 y.2) ∧ relW xs ys
  | _, _ => False
theorem relW_get : ∀ (ws ws' : List (Nat × va_E)), relW ws ws' → ∀ (k : Nat) (q : Nat × va_E), ws'[k]? = some q → ∃ q2 : Nat × va_E, ws[k]? = some q2 ∧ q2.1 = q.1 ∧ eqE q2.2 q.2
  | [], [], _, k, q, h => by simp at h
  | [], _ :: _, hr, _, _, _ => hr.elim
  | _ :: _, [], hr, _, _, _ => hr.elim
  | x :: xs, y :: ys, hr, k, q, h => by
    cases k with
    | zero =>
      rw [List.getElem?_cons_zero] at h
      cases h
      exact ⟨x, rfl, hr.1.1, hr.1.2⟩
    | succ k =>
      rw [List.getElem?_cons_succ] at h
      obtain ⟨q2, g1, g2, g3⟩ := relW_get xs ys hr.2 k q h
      exact ⟨q2, by rw [List.getElem?_cons_succ]; exact g1, g2, g3⟩
theorem relW_P {D : va_G} {cl : List vw_C} {ws ws' : va_W} {H : Heap} (h : relW ws ws') (hP : va_P D cl ws H) : va_P D cl ws' H := by
  intro k q hq
  obtain ⟨q2, g1, g2, g3⟩ := relW_get ws ws' h k q hq
  obtain ⟨a, e⟩ := q
  obtain ⟨a2, e2⟩ := q2
  have := hP k _ g1
  cases g2
  exact eqE_at g3 this
theorem relW_D {A : Nat → Prop} {ws ws' : va_W} (h : relW ws ws') (hD : va_D A ws) : va_D A ws' := by
  refine ⟨fun i j p q hp hq hpq => ?_, fun k q hq => ?_⟩
  · obtain ⟨p2, g1, g2, -⟩ := relW_get ws ws' h i p hp
    obtain ⟨q2, g3, g4, -⟩ := relW_get ws ws' h j q hq
    exact hD.1 i j p2 q2 g1 g3 (by rw [g2, g4, hpq])
  · obtain ⟨q2, g3, g4, -⟩ := relW_get ws ws' h k q hq
    rw [← g4]
    exact hD.2 k q2 g3
/-- where each cell of the world lies -/
def adL (b : Nat) (as : List Nat) : Nat → Nat → Nat := fun f i => if f = 99 then b else as.getD (fOff f + i) 0
set_option maxRecDepth 100000 in
set_option maxHeartbeats 16000000 in
theorem start_rel (b : Nat) (cA : Nat → ClassId) {q0 x1 x2 x3 x4 x5 x6 x7 x8 x9 x10 x11 x12 x13 x14 x15 x16 x17 x18 x19 x20 x21 x22 x23 x24 x25 x26 x27 x28 x29 x30 x31 x32 x33 x34 x35 x36 x37 x38 x39 x40 x41 x42 x43 x44 x45 x46 x47 x48 x49 x50 x51 x52 x53 x54 x55 x56 x57 x58 x59 x60 x61 x62 x63 x64 x65 x66 x67 x68 x69 x70 x71 x72 x73 x74 x75 x76 x77 x78 x79 x80 x81 x82 q1 y1 y2 y3 y4 y5 y6 y7 y8 y9 y10 y11 y12 : Nat} {f1 : Nat → Option Nat} {f2 : Nat → Int32} {f3 : Nat → Int32} {f4 : Nat → Option Nat} {f5 : Nat → Int32} {f6 : Nat → Int32} {f7 : Nat → Option Nat} {f8 : Nat → Int32} {f9 : Nat → Int32} {f10 : Nat → Option Nat} {g1 : Nat → Int32} (hf0 : (f1 0 = some x11 ∧ f1 1 = some x12 ∧ f1 2 = some x13 ∧ f1 3 = some x14 ∧ f1 4 = some x15 ∧ f1 5 = some x16 ∧ f1 6 = some x17 ∧ f1 7 = some x18 ∧ f1 8 = some x19 ∧ f1 9 = some x20)) (hf1 : (∀ j, j < 5 → f2 j = 2)) (hf2 : (∀ j, j < 5 → f3 j = 5)) (hf3 : (f4 0 = some x31 ∧ f4 1 = some x32 ∧ f4 2 = some x33 ∧ f4 3 = some x34 ∧ f4 4 = some x35 ∧ f4 5 = some x36 ∧ f4 6 = some x37 ∧ f4 7 = some x38 ∧ f4 8 = some x39 ∧ f4 9 = some x40)) (hf4 : (∀ j, j < 5 → f5 j = 2)) (hf5 : (∀ j, j < 5 → f6 j = 5)) (hf6 : (f7 0 = some x51 ∧ f7 1 = some x52 ∧ f7 2 = some x53 ∧ f7 3 = some x54 ∧ f7 4 = some x55 ∧ f7 5 = some x56 ∧ f7 6 = some x57 ∧ f7 7 = some x58 ∧ f7 8 = some x59 ∧ f7 9 = some x60)) (hf7 : (∀ j, j < 5 → f8 j = 2)) (hf8 : (∀ j, j < 5 → f9 j = 5)) (hf9 : (f10 0 = some x75 ∧ f10 1 = some x77 ∧ f10 2 = some x79 ∧ f10 3 = some x81)) (hg : ∀ j, g1 j = dInit j) : relW [(x61, .inr (0, [.ref x62, .ref x63, .int 0, .int 0, .int 1])), (x64, .inr (0, [.ref x65, .ref x66, .int 0, .int 0, .int 1])), (x1, .inr (1, [.ref x9, .ref x10, .ref x2, .ref x3, .ref x6, .int 0, .int 0, .int 0])), (x21, .inr (1, [.ref x29, .ref x30, .ref x22, .ref x23, .ref x26, .int 0, .int 0, .int 0])), (x41, .inr (1, [.ref x49, .ref x50, .ref x42, .ref x43, .ref x46, .int 0, .int 0, .int 0])), (x3, .inr (2, [.ref x4, .ref x5, .int 0])), (x6, .inr (2, [.ref x7, .ref x8, .int 0])), (x23, .inr (2, [.ref x24, .ref x25, .int 0])), (x26, .inr (2, [.ref x27, .ref x28, .int 0])), (x43, .inr (2, [.ref x44, .ref x45, .int 0])), (x46, .inr (2, [.ref x47, .ref x48, .int 0])), (x68, .inr (2, [.ref x69, .ref x70, .int 0])), (x11, .inr (3, [.int 0, .int 0, .int 0, .int 0, .int 0, .int 0, .int 0, .int 0])), (x12, .inr (3, [.int 0, .int 0, .int 0, .int 0, .int 0, .int 0, .int 0, .int 0])), (x13, .inr (3, [.int 0, .int 0, .int 0, .int 0, .int 0, .int 0, .int 0, .int 0])), (x14, .inr (3, [.int 0, .int 0, .int 0, .int 0, .int 0, .int 0, .int 0, .int 0])), (x15, .inr (3, [.int 0, .int 0, .int 0, .int 0, .int 0, .int 0, .int 0, .int 0])), (x16, .inr (3, [.int 0, .int 0, .int 0, .int 0, .int 0, .int 0, .int 0, .int 0])), (x17, .inr (3, [.int 0, .int 0, .int 0, .int 0, .int 0, .int 0, .int 0, .int 0])), (x18, .inr (3, [.int 0, .int 0, .int 0, .int 0, .int 0, .int 0, .int 0, .int 0])), (x19, .inr (3, [.int 0, .int 0, .int 0, .int 0, .int 0, .int 0, .int 0, .int 0])), (x20, .inr (3, [.int 0, .int 0, .int 0, .int 0, .int 0, .int 0, .int 0, .int 0])), (x31, .inr (3, [.int 0, .int 0, .int 0, .int 0, .int 0, .int 0, .int 0, .int 0])), (x32, .inr (3, [.int 0, .int 0, .int 0, .int 0, .int 0, .int 0, .int 0, .int 0])), (x33, .inr (3, [.int 0, .int 0, .int 0, .int 0, .int 0, .int 0, .int 0, .int 0])), (x34, .inr (3, [.int 0, .int 0, .int 0, .int 0, .int 0, .int 0, .int 0, .int 0])), (x35, .inr (3, [.int 0, .int 0, .int 0, .int 0, .int 0, .int 0, .int 0, .int 0])), (x36, .inr (3, [.int 0, .int 0, .int 0, .int 0, .int 0, .int 0, .int 0, .int 0])), (x37, .inr (3, [.int 0, .int 0, .int 0, .int 0, .int 0, .int 0, .int 0, .int 0])), (x38, .inr (3, [.int 0, .int 0, .int 0, .int 0, .int 0, .int 0, .int 0, .int 0])), (x39, .inr (3, [.int 0, .int 0, .int 0, .int 0, .int 0, .int 0, .int 0, .int 0])), (x40, .inr (3, [.int 0, .int 0, .int 0, .int 0, .int 0, .int 0, .int 0, .int 0])), (x51, .inr (3, [.int 0, .int 0, .int 0, .int 0, .int 0, .int 0, .int 0, .int 0])), (x52, .inr (3, [.int 0, .int 0, .int 0, .int 0, .int 0, .int 0, .int 0, .int 0])), (x53, .inr (3, [.int 0, .int 0, .int 0, .int 0, .int 0, .int 0, .int 0, .int 0])), (x54, .inr (3, [.int 0, .int 0, .int 0, .int 0, .int 0, .int 0, .int 0, .int 0])), (x55, .inr (3, [.int 0, .int 0, .int 0, .int 0, .int 0, .int 0, .int 0, .int 0])), (x56, .inr (3, [.int 0, .int 0, .int 0, .int 0, .int 0, .int 0, .int 0, .int 0])), (x57, .inr (3, [.int 0, .int 0, .int 0, .int 0, .int 0, .int 0, .int 0, .int 0])), (x58, .inr (3, [.int 0, .int 0, .int 0, .int 0, .int 0, .int 0, .int 0, .int 0])), (x59, .inr (3, [.int 0, .int 0, .int 0, .int 0, .int 0, .int 0, .int 0, .int 0])), (x60, .inr (3, [.int 0, .int 0, .int 0, .int 0, .int 0, .int 0, .int 0, .int 0])), (x67, .inr (4, [.ref x68, .ref x61, .int 0, .int 0])), (x75, .inr (5, [.ref x76, .int 0, .int 0])), (x77, .inr (5, [.ref x78, .int 0, .int 0])), (x79, .inr (5, [.ref x80, .int 0, .int 0])), (x81, .inr (5, [.ref x82, .int 0, .int 0])), (x71, .inr (6, [.ref x72, .int 0, .int 0, .int 0, .int 0])), (q0, .inr (7, [.ref x1, .ref x21, .ref x41, .ref x61, .ref x64, .ref x67, .ref x71, .ref x73, .ref x74, .int 0])), (x62, .inl (cA 1, 50, .inl (fun _ => 0))), (x65, .inl (cA 1, 50, .inl (fun _ => 0))), (x63, .inl (cA 0, 20, .inl (fun _ => 0))), (x66, .inl (cA 0, 20, .inl (fun _ => 0))), (x9, .inl (cA 0, 5, .inl f2)), (x29, .inl (cA 0, 5, .inl f5)), (x49, .inl (cA 0, 5, .inl f8)), (x10, .inl (cA 0, 5, .inl f3)), (x30, .inl (cA 0, 5, .inl f6)), (x50, .inl (cA 0, 5, .inl f9)), (x2, .inl (cA 2, 10, .inr (.inr (.inr (.inr f1))))), (x22, .inl (cA 2, 10, .inr (.inr (.inr (.inr f4))))), (x42, .inl (cA 2, 10, .inr (.inr (.inr (.inr f7))))), (x4, .inl (cA 0, 50, .inl (fun _ => 0))), (x7, .inl (cA 0, 50, .inl (fun _ => 0))), (x24, .inl (cA 0, 50, .inl (fun _ => 0))), (x27, .inl (cA 0, 50, .inl (fun _ => 0))), (x44, .inl (cA 0, 50, .inl (fun _ => 0))), (x47, .inl (cA 0, 50, .inl (fun _ => 0))), (x69, .inl (cA 0, 50, .inl (fun _ => 0))), (x5, .inl (cA 0, 50, .inl (fun _ => 0))), (x8, .inl (cA 0, 50, .inl (fun _ => 0))), (x25, .inl (cA 0, 50, .inl (fun _ => 0))), (x28, .inl (cA 0, 50, .inl (fun _ => 0))), (x45, .inl (cA 0, 50, .inl (fun _ => 0))), (x48, .inl (cA 0, 50, .inl (fun _ => 0))), (x70, .inl (cA 0, 50, .inl (fun _ => 0))), (x76, .inl (cA 0, 40, .inl (fun _ => 0))), (x78, .inl (cA 0, 40, .inl (fun _ => 0))), (x80, .inl (cA 0, 40, .inl (fun _ => 0))), (x82, .inl (cA 0, 40, .inl (fun _ => 0))), (x72, .inl (cA 0, 40, .inl (fun _ => 0))), (x73, .inl (cA 3, 4, .inr (.inr (.inr (.inr f10))))), (x74, .inl (cA 0, 6, .inl (fun _ => 0))), (q1, .inr (8, [.ref y1, .ref y2, .ref y3, .int 0, .ref y4, .int 0, .int 0, .int 0, .int 0, .int 0, .int 0, .ref y5, .ref y6, .int 0, .ref y7, .ref y8, .int 0, .int 0, .ref y9, .ref y10, .ref y11, .ref y12])), (y1, .inl (cA 0, 268, .inl g1)), (y2, .inl (cA 0, 268, .inl (fun _ => 0))), (y3, .inl (cA 0, 96, .inl (fun _ => 0))), (y4, .inl (cA 0, 6, .inl (fun _ => 0))), (y5, .inl (cA 0, 3, .inl (fun _ => 0))), (y6, .inl (cA 0, 60, .inl (fun _ => 0))), (y7, .inl (cA 0, 60, .inl (fun _ => 0))), (y8, .inl (cA 0, 40, .inl (fun _ => 0))), (y9, .inl (cA 0, 4, .inl (fun _ => 0))), (y10, .inl (cA 0, 4, .inl (fun _ => 0))), (y11, .inl (cA 0, 160, .inl (fun _ => 0))), (y12, .inl (cA 0, 40, .inl (fun _ => 0)))] (world (adL b [x61, x64, x1, x21, x41, x3, x6, x23, x26, x43, x46, x68, x11, x12, x13, x14, x15, x16, x17, x18, x19, x20, x31, x32, x33, x34, x35, x36, x37, x38, x39, x40, x51, x52, x53, x54, x55, x56, x57, x58, x59, x60, x67, x75, x77, x79, x81, x71, q0, x62, x65, x63, x66, x9, x29, x49, x10, x30, x50, x2, x22, x42, x4, x7, x24, x27, x44, x47, x69, x5, x8, x25, x28, x45, x48, x70, x76, x78, x80, x82, x72, x73, x74, q1, y1, y2, y3, y4, y5, y6, y7, y8, y9, y10, y11, y12]) cA (C0, R0)) := by
  show relW _ (allC.map _)
  rw [show allC = [(0, 0), (0, 1), (1, 0), (1, 1), (1, 2), (2, 0), (2, 1), (2, 2), (2, 3), (2, 4), (2, 5), (2, 6), (3, 0), (3, 1), (3, 2), (3, 3), (3, 4), (3, 5), (3, 6), (3, 7), (3, 8), (3, 9), (3, 10), (3, 11), (3, 12), (3, 13), (3, 14), (3, 15), (3, 16), (3, 17), (3, 18), (3, 19), (3, 20), (3, 21), (3, 22), (3, 23), (3, 24), (3, 25), (3, 26), (3, 27), (3, 28), (3, 29), (4, 0), (5, 0), (5, 1), (5, 2), (5, 3), (6, 0), (7, 0), (8, 0), (8, 1), (9, 0), (9, 1), (10, 0), (10, 1), (10, 2), (11, 0), (11, 1), (11, 2), (12, 0), (12, 1), (12, 2), (13, 0), (13, 1), (13, 2), (13, 3), (13, 4), (13, 5), (13, 6), (14, 0), (14, 1), (14, 2), (14, 3), (14, 4), (14, 5), (14, 6), (15, 0), (15, 1), (15, 2), (15, 3), (16, 0), (17, 0), (18, 0), (19, 0), (20, 0), (21, 0), (22, 0), (23, 0), (24, 0), (25, 0), (26, 0), (27, 0), (28, 0), (29, 0), (30, 0), (31, 0)] from by decide +kernel]
  refine ⟨⟨rfl, Or.inl rfl⟩, ?_⟩
  refine ⟨⟨rfl, Or.inl rfl⟩, ?_⟩
  refine ⟨⟨rfl, Or.inl rfl⟩, ?_⟩
  refine ⟨⟨rfl, Or.inl rfl⟩, ?_⟩
  refine ⟨⟨rfl, Or.inl rfl⟩, ?_⟩
  refine ⟨⟨rfl, Or.inl rfl⟩, ?_⟩
  refine ⟨⟨rfl, Or.inl rfl⟩, ?_⟩
  refine ⟨⟨rfl, Or.inl rfl⟩, ?_⟩
  refine ⟨⟨rfl, Or.inl rfl⟩, ?_⟩
  refine ⟨⟨rfl, Or.inl rfl⟩, ?_⟩
  refine ⟨⟨rfl, Or.inl rfl⟩, ?_⟩
  refine ⟨⟨rfl, Or.inl rfl⟩, ?_⟩
  refine ⟨⟨rfl, Or.inl rfl⟩, ?_⟩
  refine ⟨⟨rfl, Or.inl rfl⟩, ?_⟩
  refine ⟨⟨rfl, Or.inl rfl⟩, ?_⟩
  refine ⟨⟨rfl, Or.inl rfl⟩, ?_⟩
  refine ⟨⟨rfl, Or.inl rfl⟩, ?_⟩
  refine ⟨⟨rfl, Or.inl rfl⟩, ?_⟩
  refine ⟨⟨rfl, Or.inl rfl⟩, ?_⟩
  refine ⟨⟨rfl, Or.inl rfl⟩, ?_⟩
  refine ⟨⟨rfl, Or.inl rfl⟩, ?_⟩
  refine ⟨⟨rfl, Or.inl rfl⟩, ?_⟩
  refine ⟨⟨rfl, Or.inl rfl⟩, ?_⟩
  refine ⟨⟨rfl, Or.inl rfl⟩, ?_⟩
  refine ⟨⟨rfl, Or.inl rfl⟩, ?_⟩
  refine ⟨⟨rfl, Or.inl rfl⟩, ?_⟩
  refine ⟨⟨rfl, Or.inl rfl⟩, ?_⟩
  refine ⟨⟨rfl, Or.inl rfl⟩, ?_⟩
  refine ⟨⟨rfl, Or.inl rfl⟩, ?_⟩
  refine ⟨⟨rfl, Or.inl rfl⟩, ?_⟩
  refine ⟨⟨rfl, Or.inl rfl⟩, ?_⟩
  refine ⟨⟨rfl, Or.inl rfl⟩, ?_⟩
  refine ⟨⟨rfl, Or.inl rfl⟩, ?_⟩
  refine ⟨⟨rfl, Or.inl rfl⟩, ?_⟩
  refine ⟨⟨rfl, Or.inl rfl⟩, ?_⟩
  refine ⟨⟨rfl, Or.inl rfl⟩, ?_⟩
  refine ⟨⟨rfl, Or.inl rfl⟩, ?_⟩
  refine ⟨⟨rfl, Or.inl rfl⟩, ?_⟩
  refine ⟨⟨rfl, Or.inl rfl⟩, ?_⟩
  refine ⟨⟨rfl, Or.inl rfl⟩, ?_⟩
  refine ⟨⟨rfl, Or.inl rfl⟩, ?_⟩
  refine ⟨⟨rfl, Or.inl rfl⟩, ?_⟩
  refine ⟨⟨rfl, Or.inl rfl⟩, ?_⟩
  refine ⟨⟨rfl, Or.inl rfl⟩, ?_⟩
  refine ⟨⟨rfl, Or.inl rfl⟩, ?_⟩
  refine ⟨⟨rfl, Or.inl rfl⟩, ?_⟩
  refine ⟨⟨rfl, Or.inl rfl⟩, ?_⟩
  refine ⟨⟨rfl, Or.inl rfl⟩, ?_⟩
  refine ⟨⟨rfl, Or.inl rfl⟩, ?_⟩
  refine ⟨⟨rfl, Or.inr (Or.inl ⟨_, _, _, _, rfl, rfl, fun j _ => rfl⟩)⟩, ?_⟩
  refine ⟨⟨rfl, Or.inr (Or.inl ⟨_, _, _, _, rfl, rfl, fun j _ => rfl⟩)⟩, ?_⟩
  refine ⟨⟨rfl, Or.inr (Or.inl ⟨_, _, _, _, rfl, rfl, fun j _ => rfl⟩)⟩, ?_⟩
  refine ⟨⟨rfl, Or.inr (Or.inl ⟨_, _, _, _, rfl, rfl, fun j _ => rfl⟩)⟩, ?_⟩
  refine ⟨⟨rfl, Or.inr (Or.inl ⟨_, _, _, _, rfl, rfl, fun j hj => hf1 j hj⟩)⟩, ?_⟩
  refine ⟨⟨rfl, Or.inr (Or.inl ⟨_, _, _, _, rfl, rfl, fun j hj => hf4 j hj⟩)⟩, ?_⟩
  refine ⟨⟨rfl, Or.inr (Or.inl ⟨_, _, _, _, rfl, rfl, fun j hj => hf7 j hj⟩)⟩, ?_⟩
  refine ⟨⟨rfl, Or.inr (Or.inl ⟨_, _, _, _, rfl, rfl, fun j hj => hf2 j hj⟩)⟩, ?_⟩
  refine ⟨⟨rfl, Or.inr (Or.inl ⟨_, _, _, _, rfl, rfl, fun j hj => hf5 j hj⟩)⟩, ?_⟩
  refine ⟨⟨rfl, Or.inr (Or.inl ⟨_, _, _, _, rfl, rfl, fun j hj => hf8 j hj⟩)⟩, ?_⟩
  refine ⟨⟨rfl, Or.inr (Or.inr ⟨_, _, _, _, rfl, rfl, fun j hj => (by rcases (show j = 0 ∨ j = 1 ∨ j = 2 ∨ j = 3 ∨ j = 4 ∨ j = 5 ∨ j = 6 ∨ j = 7 ∨ j = 8 ∨ j = 9 by omega) with rfl | rfl | rfl | rfl | rfl | rfl | rfl | rfl | rfl | rfl <;> first | exact hf0.1 | exact hf0.2.1 | exact hf0.2.2.1 | exact hf0.2.2.2.1 | exact hf0.2.2.2.2.1 | exact hf0.2.2.2.2.2.1 | exact hf0.2.2.2.2.2.2.1 | exact hf0.2.2.2.2.2.2.2.1 | exact hf0.2.2.2.2.2.2.2.2.1 | exact hf0.2.2.2.2.2.2.2.2.2 )⟩)⟩, ?_⟩
  refine ⟨⟨rfl, Or.inr (Or.inr ⟨_, _, _, _, rfl, rfl, fun j hj => (by rcases (show j = 0 ∨ j = 1 ∨ j = 2 ∨ j = 3 ∨ j = 4 ∨ j = 5 ∨ j = 6 ∨ j = 7 ∨ j = 8 ∨ j = 9 by omega) with rfl | rfl | rfl | rfl | rfl | rfl | rfl | rfl | rfl | rfl <;> first | exact hf3.1 | exact hf3.2.1 | exact hf3.2.2.1 | exact hf3.2.2.2.1 | exact hf3.2.2.2.2.1 | exact hf3.2.2.2.2.2.1 | exact hf3.2.2.2.2.2.2.1 | exact hf3.2.2.2.2.2.2.2.1 | exact hf3.2.2.2.2.2.2.2.2.1 | exact hf3.2.2.2.2.2.2.2.2.2 )⟩)⟩, ?_⟩
  refine ⟨⟨rfl, Or.inr (Or.inr ⟨_, _, _, _, rfl, rfl, fun j hj => (by rcases (show j = 0 ∨ j = 1 ∨ j = 2 ∨ j = 3 ∨ j = 4 ∨ j = 5 ∨ j = 6 ∨ j = 7 ∨ j = 8 ∨ j = 9 by omega) with rfl | rfl | rfl | rfl | rfl | rfl | rfl | rfl | rfl | rfl <;> first | exact hf6.1 | exact hf6.2.1 | exact hf6.2.2.1 | exact hf6.2.2.2.1 | exact hf6.2.2.2.2.1 | exact hf6.2.2.2.2.2.1 | exact hf6.2.2.2.2.2.2.1 | exact hf6.2.2.2.2.2.2.2.1 | exact hf6.2.2.2.2.2.2.2.2.1 | exact hf6.2.2.2.2.2.2.2.2.2 )⟩)⟩, ?_⟩
  refine ⟨⟨rfl, Or.inr (Or.inl ⟨_, _, _, _, rfl, rfl, fun j _ => rfl⟩)⟩, ?_⟩
  refine ⟨⟨rfl, Or.inr (Or.inl ⟨_, _, _, _, rfl, rfl, fun j _ => rfl⟩)⟩, ?_⟩
  refine ⟨⟨rfl, Or.inr (Or.inl ⟨_, _, _, _, rfl, rfl, fun j _ => rfl⟩)⟩, ?_⟩
  refine ⟨⟨rfl, Or.inr (Or.inl ⟨_, _, _, _, rfl, rfl, fun j _ => rfl⟩)⟩, ?_⟩
  refine ⟨⟨rfl, Or.inr (Or.inl ⟨_, _, _, _, rfl, rfl, fun j _ => rfl⟩)⟩, ?_⟩
  refine ⟨⟨rfl, Or.inr (Or.inl ⟨_, _, _, _, rfl, rfl, fun j _ => rfl⟩)⟩, ?_⟩
  refine ⟨⟨rfl, Or.inr (Or.inl ⟨_, _, _, _, rfl, rfl, fun j _ => rfl⟩)⟩, ?_⟩
  refine ⟨⟨rfl, Or.inr (Or.inl ⟨_, _, _, _, rfl, rfl, fun j _ => rfl⟩)⟩, ?_⟩
  refine ⟨⟨rfl, Or.inr (Or.inl ⟨_, _, _, _, rfl, rfl, fun j _ => rfl⟩)⟩, ?_⟩
  refine ⟨⟨rfl, Or.inr (Or.inl ⟨_, _, _, _, rfl, rfl, fun j _ => rfl⟩)⟩, ?_⟩
  refine ⟨⟨rfl, Or.inr (Or.inl ⟨_, _, _, _, rfl, rfl, fun j _ => rfl⟩)⟩, ?_⟩
  refine ⟨⟨rfl, Or.inr (Or.inl ⟨_, _, _, _, rfl, rfl, fun j _ => rfl⟩)⟩, ?_⟩
  refine ⟨⟨rfl, Or.inr (Or.inl ⟨_, _, _, _, rfl, rfl, fun j _ => rfl⟩)⟩, ?_⟩
  refine ⟨⟨rfl, Or.inr (Or.inl ⟨_, _, _, _, rfl, rfl, fun j _ => rfl⟩)⟩, ?_⟩
  refine ⟨⟨rfl, Or.inr (Or.inl ⟨_, _, _, _, rfl, rfl, fun j _ => rfl⟩)⟩, ?_⟩
  refine ⟨⟨rfl, Or.inr (Or.inl ⟨_, _, _, _, rfl, rfl, fun j _ => rfl⟩)⟩, ?_⟩
  refine ⟨⟨rfl, Or.inr (Or.inl ⟨_, _, _, _, rfl, rfl, fun j _ => rfl⟩)⟩, ?_⟩
  refine ⟨⟨rfl, Or.inr (Or.inl ⟨_, _, _, _, rfl, rfl, fun j _ => rfl⟩)⟩, ?_⟩
  refine ⟨⟨rfl, Or.inr (Or.inl ⟨_, _, _, _, rfl, rfl, fun j _ => rfl⟩)⟩, ?_⟩
  refine ⟨⟨rfl, Or.inr (Or.inr ⟨_, _, _, _, rfl, rfl, fun j hj => (by rcases (show j = 0 ∨ j = 1 ∨ j = 2 ∨ j = 3 by omega) with rfl | rfl | rfl | rfl <;> first | exact hf9.1 | exact hf9.2.1 | exact hf9.2.2.1 | exact hf9.2.2.2 )⟩)⟩, ?_⟩
  refine ⟨⟨rfl, Or.inr (Or.inl ⟨_, _, _, _, rfl, rfl, fun j _ => rfl⟩)⟩, ?_⟩
  refine ⟨⟨rfl, Or.inl rfl⟩, ?_⟩
  refine ⟨⟨rfl, Or.inr (Or.inl ⟨_, _, _, _, rfl, rfl, fun j _ => hg j⟩)⟩, ?_⟩
  refine ⟨⟨rfl, Or.inr (Or.inl ⟨_, _, _, _, rfl, rfl, fun j _ => rfl⟩)⟩, ?_⟩
  refine ⟨⟨rfl, Or.inr (Or.inl ⟨_, _, _, _, rfl, rfl, fun j _ => rfl⟩)⟩, ?_⟩
  refine ⟨⟨rfl, Or.inr (Or.inl ⟨_, _, _, _, rfl, rfl, fun j _ => rfl⟩)⟩, ?_⟩
  refine ⟨⟨rfl, Or.inr (Or.inl ⟨_, _, _, _, rfl, rfl, fun j _ => rfl⟩)⟩, ?_⟩
  refine ⟨⟨rfl, Or.inr (Or.inl ⟨_, _, _, _, rfl, rfl, fun j _ => rfl⟩)⟩, ?_⟩
  refine ⟨⟨rfl, Or.inr (Or.inl ⟨_, _, _, _, rfl, rfl, fun j _ => rfl⟩)⟩, ?_⟩
  refine ⟨⟨rfl, Or.inr (Or.inl ⟨_, _, _, _, rfl, rfl, fun j _ => rfl⟩)⟩, ?_⟩
  refine ⟨⟨rfl, Or.inr (Or.inl ⟨_, _, _, _, rfl, rfl, fun j _ => rfl⟩)⟩, ?_⟩
  refine ⟨⟨rfl, Or.inr (Or.inl ⟨_, _, _, _, rfl, rfl, fun j _ => rfl⟩)⟩, ?_⟩
  refine ⟨⟨rfl, Or.inr (Or.inl ⟨_, _, _, _, rfl, rfl, fun j _ => rfl⟩)⟩, ?_⟩
  refine ⟨⟨rfl, Or.inr (Or.inl ⟨_, _, _, _, rfl, rfl, fun j _ => rfl⟩)⟩, trivial⟩
end
