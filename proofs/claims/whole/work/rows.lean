section
-- ===== PART A: goes FIRST, ahead of the names: the tables' words, and 'selects' of the private methods out of them =====
/-- a private method of a class that the tables say can be made, by its rows of tables_1 -/
def lw_okq (q : MethodName × Nat) : Prop := (q.1.cls ≠ "java/lang/invoke/MethodHandle" ∧ q.1.cls ≠ "java/lang/invoke/VarHandle") ∧ Cond.instantiable q.1.cls q.2 ∈ tables_1 ∧ Cond.privateMethod q.1 ∈ tables_1 ∧ Cond.instanceMethod q.1 ∈ tables_1
theorem lw_p0 : lw_okq (⟨"PotHandles", "fail", "(I)I"⟩, 10) := ⟨⟨by decide +kernel, by decide +kernel⟩, List.mem_of_getElem? (i := 15) (by decide +kernel), List.mem_of_getElem? (i := 264) (by decide +kernel), List.mem_of_getElem? (i := 265) (by decide +kernel)⟩
theorem lw_p1 : lw_okq (⟨"PotHandles$Reader", "readLevel", "(II)Z"⟩, 4) := ⟨⟨by decide +kernel, by decide +kernel⟩, List.mem_of_getElem? (i := 156) (by decide +kernel), List.mem_of_getElem? (i := 358) (by decide +kernel), List.mem_of_getElem? (i := 359) (by decide +kernel)⟩
theorem lw_p2 : lw_okq (⟨"PotHandles$Reader", "readLast", "(I)Z"⟩, 4) := ⟨⟨by decide +kernel, by decide +kernel⟩, List.mem_of_getElem? (i := 156) (by decide +kernel), List.mem_of_getElem? (i := 362) (by decide +kernel), List.mem_of_getElem? (i := 363) (by decide +kernel)⟩
theorem lw_p3 : lw_okq (⟨"PotHandles$Reader", "next", "()I"⟩, 4) := ⟨⟨by decide +kernel, by decide +kernel⟩, List.mem_of_getElem? (i := 156) (by decide +kernel), List.mem_of_getElem? (i := 366) (by decide +kernel), List.mem_of_getElem? (i := 367) (by decide +kernel)⟩
theorem lw_p4 : lw_okq (⟨"PotHandles$Reader", "readNumber", "()V"⟩, 4) := ⟨⟨by decide +kernel, by decide +kernel⟩, List.mem_of_getElem? (i := 156) (by decide +kernel), List.mem_of_getElem? (i := 373) (by decide +kernel), List.mem_of_getElem? (i := 374) (by decide +kernel)⟩
theorem lw_p5 : lw_okq (⟨"PotHandles$Reader", "nameOf", "(I)I"⟩, 4) := ⟨⟨by decide +kernel, by decide +kernel⟩, List.mem_of_getElem? (i := 156) (by decide +kernel), List.mem_of_getElem? (i := 381) (by decide +kernel), List.mem_of_getElem? (i := 382) (by decide +kernel)⟩
theorem lw_p6 : lw_okq (⟨"PotHandles$District", "passYearOf", "(LPotHandles$Pot;I)V"⟩, 8) := ⟨⟨by decide +kernel, by decide +kernel⟩, List.mem_of_getElem? (i := 23) (by decide +kernel), List.mem_of_getElem? (i := 437) (by decide +kernel), List.mem_of_getElem? (i := 438) (by decide +kernel)⟩
theorem lw_p7 : lw_okq (⟨"PotHandles", "behind", "(I)LPotHandles$District;"⟩, 10) := ⟨⟨by decide +kernel, by decide +kernel⟩, List.mem_of_getElem? (i := 15) (by decide +kernel), List.mem_of_getElem? (i := 478) (by decide +kernel), List.mem_of_getElem? (i := 479) (by decide +kernel)⟩
theorem lw_p8 : lw_okq (⟨"PotHandles", "whenMoved", "(III)LPotHandles$Pot;"⟩, 10) := ⟨⟨by decide +kernel, by decide +kernel⟩, List.mem_of_getElem? (i := 15) (by decide +kernel), List.mem_of_getElem? (i := 508) (by decide +kernel), List.mem_of_getElem? (i := 509) (by decide +kernel)⟩
theorem lw_p9 : lw_okq (⟨"PotHandles", "haveHandlesIfCaredFor", "(III)Z"⟩, 10) := ⟨⟨by decide +kernel, by decide +kernel⟩, List.mem_of_getElem? (i := 15) (by decide +kernel), List.mem_of_getElem? (i := 525) (by decide +kernel), List.mem_of_getElem? (i := 526) (by decide +kernel)⟩
theorem lw_p10 : lw_okq (⟨"PotHandles", "isLikedAsTold", "(LPotHandles$Sheet;II)Z"⟩, 10) := ⟨⟨by decide +kernel, by decide +kernel⟩, List.mem_of_getElem? (i := 15) (by decide +kernel), List.mem_of_getElem? (i := 540) (by decide +kernel), List.mem_of_getElem? (i := 541) (by decide +kernel)⟩
theorem lw_p11 : lw_okq (⟨"PotHandles", "handlesIfStuck", "(II)I"⟩, 10) := ⟨⟨by decide +kernel, by decide +kernel⟩, List.mem_of_getElem? (i := 15) (by decide +kernel), List.mem_of_getElem? (i := 565) (by decide +kernel), List.mem_of_getElem? (i := 566) (by decide +kernel)⟩
theorem lw_p12 : lw_okq (⟨"PotHandles", "whenBeing", "(III)LPotHandles$Pot;"⟩, 10) := ⟨⟨by decide +kernel, by decide +kernel⟩, List.mem_of_getElem? (i := 15) (by decide +kernel), List.mem_of_getElem? (i := 573) (by decide +kernel), List.mem_of_getElem? (i := 574) (by decide +kernel)⟩
theorem lw_p13 : lw_okq (⟨"PotHandles$Voices", "say", "(IIII)I"⟩, 5) := ⟨⟨by decide +kernel, by decide +kernel⟩, List.mem_of_getElem? (i := 179) (by decide +kernel), List.mem_of_getElem? (i := 589) (by decide +kernel), List.mem_of_getElem? (i := 590) (by decide +kernel)⟩
theorem lw_p14 : lw_okq (⟨"PotHandles$Voices", "begin", "(I)V"⟩, 5) := ⟨⟨by decide +kernel, by decide +kernel⟩, List.mem_of_getElem? (i := 179) (by decide +kernel), List.mem_of_getElem? (i := 596) (by decide +kernel), List.mem_of_getElem? (i := 597) (by decide +kernel)⟩
theorem lw_p15 : lw_okq (⟨"PotHandles$Voices", "sayBody", "(III)I"⟩, 5) := ⟨⟨by decide +kernel, by decide +kernel⟩, List.mem_of_getElem? (i := 179) (by decide +kernel), List.mem_of_getElem? (i := 600) (by decide +kernel), List.mem_of_getElem? (i := 601) (by decide +kernel)⟩
def lw_privs_1 : List (MethodName × Nat) := [(⟨"PotHandles", "fail", "(I)I"⟩, 10), (⟨"PotHandles$Reader", "readLevel", "(II)Z"⟩, 4), (⟨"PotHandles$Reader", "readLast", "(I)Z"⟩, 4), (⟨"PotHandles$Reader", "next", "()I"⟩, 4), (⟨"PotHandles$Reader", "readNumber", "()V"⟩, 4), (⟨"PotHandles$Reader", "nameOf", "(I)I"⟩, 4), (⟨"PotHandles$District", "passYearOf", "(LPotHandles$Pot;I)V"⟩, 8), (⟨"PotHandles", "behind", "(I)LPotHandles$District;"⟩, 10), (⟨"PotHandles", "whenMoved", "(III)LPotHandles$Pot;"⟩, 10), (⟨"PotHandles", "haveHandlesIfCaredFor", "(III)Z"⟩, 10), (⟨"PotHandles", "isLikedAsTold", "(LPotHandles$Sheet;II)Z"⟩, 10), (⟨"PotHandles", "handlesIfStuck", "(II)I"⟩, 10), (⟨"PotHandles", "whenBeing", "(III)LPotHandles$Pot;"⟩, 10), (⟨"PotHandles$Voices", "say", "(IIII)I"⟩, 5), (⟨"PotHandles$Voices", "begin", "(I)V"⟩, 5), (⟨"PotHandles$Voices", "sayBody", "(III)I"⟩, 5)]
theorem lw_r1 : ∀ q ∈ lw_privs_1, lw_okq q := List.forall_mem_cons.mpr ⟨lw_p0, List.forall_mem_cons.mpr ⟨lw_p1, List.forall_mem_cons.mpr ⟨lw_p2, List.forall_mem_cons.mpr ⟨lw_p3, List.forall_mem_cons.mpr ⟨lw_p4, List.forall_mem_cons.mpr ⟨lw_p5, List.forall_mem_cons.mpr ⟨lw_p6, List.forall_mem_cons.mpr ⟨lw_p7, List.forall_mem_cons.mpr ⟨lw_p8, List.forall_mem_cons.mpr ⟨lw_p9, List.forall_mem_cons.mpr ⟨lw_p10, List.forall_mem_cons.mpr ⟨lw_p11, List.forall_mem_cons.mpr ⟨lw_p12, List.forall_mem_cons.mpr ⟨lw_p13, List.forall_mem_cons.mpr ⟨lw_p14, List.forall_mem_cons.mpr ⟨lw_p15, fun _ h => absurd h List.not_mem_nil⟩⟩⟩⟩⟩⟩⟩⟩⟩⟩⟩⟩⟩⟩⟩⟩
theorem lw_p16 : lw_okq (⟨"PotHandles$Voices", "sayAbove", "(IIII)I"⟩, 5) := ⟨⟨by decide +kernel, by decide +kernel⟩, List.mem_of_getElem? (i := 179) (by decide +kernel), List.mem_of_getElem? (i := 604) (by decide +kernel), List.mem_of_getElem? (i := 605) (by decide +kernel)⟩
theorem lw_p17 : lw_okq (⟨"PotHandlesModel", "finds", "(I)I"⟩, 22) := ⟨⟨by decide +kernel, by decide +kernel⟩, List.mem_of_getElem? (i := 680) (by decide +kernel), List.mem_of_getElem? (i := 761) (by decide +kernel), List.mem_of_getElem? (i := 762) (by decide +kernel)⟩
theorem lw_p18 : lw_okq (⟨"PotHandlesModel", "reads", "(III)V"⟩, 22) := ⟨⟨by decide +kernel, by decide +kernel⟩, List.mem_of_getElem? (i := 680) (by decide +kernel), List.mem_of_getElem? (i := 771) (by decide +kernel), List.mem_of_getElem? (i := 772) (by decide +kernel)⟩
theorem lw_p19 : lw_okq (⟨"PotHandlesModel", "either", "()V"⟩, 22) := ⟨⟨by decide +kernel, by decide +kernel⟩, List.mem_of_getElem? (i := 680) (by decide +kernel), List.mem_of_getElem? (i := 775) (by decide +kernel), List.mem_of_getElem? (i := 776) (by decide +kernel)⟩
theorem lw_p20 : lw_okq (⟨"PotHandlesModel", "both", "()V"⟩, 22) := ⟨⟨by decide +kernel, by decide +kernel⟩, List.mem_of_getElem? (i := 680) (by decide +kernel), List.mem_of_getElem? (i := 779) (by decide +kernel), List.mem_of_getElem? (i := 780) (by decide +kernel)⟩
theorem lw_p21 : lw_okq (⟨"PotHandlesModel", "compared", "()V"⟩, 22) := ⟨⟨by decide +kernel, by decide +kernel⟩, List.mem_of_getElem? (i := 680) (by decide +kernel), List.mem_of_getElem? (i := 783) (by decide +kernel), List.mem_of_getElem? (i := 784) (by decide +kernel)⟩
theorem lw_p22 : lw_okq (⟨"PotHandlesModel", "sum", "()V"⟩, 22) := ⟨⟨by decide +kernel, by decide +kernel⟩, List.mem_of_getElem? (i := 680) (by decide +kernel), List.mem_of_getElem? (i := 787) (by decide +kernel), List.mem_of_getElem? (i := 788) (by decide +kernel)⟩
theorem lw_p23 : lw_okq (⟨"PotHandlesModel", "product", "()V"⟩, 22) := ⟨⟨by decide +kernel, by decide +kernel⟩, List.mem_of_getElem? (i := 680) (by decide +kernel), List.mem_of_getElem? (i := 791) (by decide +kernel), List.mem_of_getElem? (i := 792) (by decide +kernel)⟩
theorem lw_p24 : lw_okq (⟨"PotHandlesModel", "unit", "()V"⟩, 22) := ⟨⟨by decide +kernel, by decide +kernel⟩, List.mem_of_getElem? (i := 680) (by decide +kernel), List.mem_of_getElem? (i := 795) (by decide +kernel), List.mem_of_getElem? (i := 796) (by decide +kernel)⟩
theorem lw_p25 : lw_okq (⟨"PotHandlesModel", "here", "()I"⟩, 22) := ⟨⟨by decide +kernel, by decide +kernel⟩, List.mem_of_getElem? (i := 680) (by decide +kernel), List.mem_of_getElem? (i := 799) (by decide +kernel), List.mem_of_getElem? (i := 800) (by decide +kernel)⟩
theorem lw_p26 : lw_okq (⟨"PotHandlesModel", "opens", "(I)V"⟩, 22) := ⟨⟨by decide +kernel, by decide +kernel⟩, List.mem_of_getElem? (i := 680) (by decide +kernel), List.mem_of_getElem? (i := 803) (by decide +kernel), List.mem_of_getElem? (i := 804) (by decide +kernel)⟩
theorem lw_p27 : lw_okq (⟨"PotHandlesModel", "wrong", "()V"⟩, 22) := ⟨⟨by decide +kernel, by decide +kernel⟩, List.mem_of_getElem? (i := 680) (by decide +kernel), List.mem_of_getElem? (i := 807) (by decide +kernel), List.mem_of_getElem? (i := 808) (by decide +kernel)⟩
theorem lw_p28 : lw_okq (⟨"PotHandlesModel", "lay", "(I)V"⟩, 22) := ⟨⟨by decide +kernel, by decide +kernel⟩, List.mem_of_getElem? (i := 680) (by decide +kernel), List.mem_of_getElem? (i := 811) (by decide +kernel), List.mem_of_getElem? (i := 812) (by decide +kernel)⟩
theorem lw_p29 : lw_okq (⟨"PotHandlesModel", "takes", "(I)Z"⟩, 22) := ⟨⟨by decide +kernel, by decide +kernel⟩, List.mem_of_getElem? (i := 680) (by decide +kernel), List.mem_of_getElem? (i := 815) (by decide +kernel), List.mem_of_getElem? (i := 816) (by decide +kernel)⟩
theorem lw_p30 : lw_okq (⟨"PotHandlesModel", "nameOf", "(I)I"⟩, 22) := ⟨⟨by decide +kernel, by decide +kernel⟩, List.mem_of_getElem? (i := 680) (by decide +kernel), List.mem_of_getElem? (i := 819) (by decide +kernel), List.mem_of_getElem? (i := 820) (by decide +kernel)⟩
theorem lw_p31 : lw_okq (⟨"PotHandlesModel", "textGives", "(IIII)I"⟩, 22) := ⟨⟨by decide +kernel, by decide +kernel⟩, List.mem_of_getElem? (i := 680) (by decide +kernel), List.mem_of_getElem? (i := 829) (by decide +kernel), List.mem_of_getElem? (i := 830) (by decide +kernel)⟩
def lw_privs_2 : List (MethodName × Nat) := [(⟨"PotHandles$Voices", "sayAbove", "(IIII)I"⟩, 5), (⟨"PotHandlesModel", "finds", "(I)I"⟩, 22), (⟨"PotHandlesModel", "reads", "(III)V"⟩, 22), (⟨"PotHandlesModel", "either", "()V"⟩, 22), (⟨"PotHandlesModel", "both", "()V"⟩, 22), (⟨"PotHandlesModel", "compared", "()V"⟩, 22), (⟨"PotHandlesModel", "sum", "()V"⟩, 22), (⟨"PotHandlesModel", "product", "()V"⟩, 22), (⟨"PotHandlesModel", "unit", "()V"⟩, 22), (⟨"PotHandlesModel", "here", "()I"⟩, 22), (⟨"PotHandlesModel", "opens", "(I)V"⟩, 22), (⟨"PotHandlesModel", "wrong", "()V"⟩, 22), (⟨"PotHandlesModel", "lay", "(I)V"⟩, 22), (⟨"PotHandlesModel", "takes", "(I)Z"⟩, 22), (⟨"PotHandlesModel", "nameOf", "(I)I"⟩, 22), (⟨"PotHandlesModel", "textGives", "(IIII)I"⟩, 22)]
theorem lw_r2 : ∀ q ∈ lw_privs_2, lw_okq q := List.forall_mem_cons.mpr ⟨lw_p16, List.forall_mem_cons.mpr ⟨lw_p17, List.forall_mem_cons.mpr ⟨lw_p18, List.forall_mem_cons.mpr ⟨lw_p19, List.forall_mem_cons.mpr ⟨lw_p20, List.forall_mem_cons.mpr ⟨lw_p21, List.forall_mem_cons.mpr ⟨lw_p22, List.forall_mem_cons.mpr ⟨lw_p23, List.forall_mem_cons.mpr ⟨lw_p24, List.forall_mem_cons.mpr ⟨lw_p25, List.forall_mem_cons.mpr ⟨lw_p26, List.forall_mem_cons.mpr ⟨lw_p27, List.forall_mem_cons.mpr ⟨lw_p28, List.forall_mem_cons.mpr ⟨lw_p29, List.forall_mem_cons.mpr ⟨lw_p30, List.forall_mem_cons.mpr ⟨lw_p31, fun _ h => absurd h List.not_mem_nil⟩⟩⟩⟩⟩⟩⟩⟩⟩⟩⟩⟩⟩⟩⟩⟩
theorem lw_p32 : lw_okq (⟨"PotHandlesModel", "worked", "(II)I"⟩, 22) := ⟨⟨by decide +kernel, by decide +kernel⟩, List.mem_of_getElem? (i := 680) (by decide +kernel), List.mem_of_getElem? (i := 833) (by decide +kernel), List.mem_of_getElem? (i := 834) (by decide +kernel)⟩
theorem lw_p33 : lw_okq (⟨"PotHandlesModel", "setOf", "(I)I"⟩, 22) := ⟨⟨by decide +kernel, by decide +kernel⟩, List.mem_of_getElem? (i := 680) (by decide +kernel), List.mem_of_getElem? (i := 857) (by decide +kernel), List.mem_of_getElem? (i := 858) (by decide +kernel)⟩
theorem lw_p34 : lw_okq (⟨"PotHandlesModel", "of", "(II)I"⟩, 22) := ⟨⟨by decide +kernel, by decide +kernel⟩, List.mem_of_getElem? (i := 680) (by decide +kernel), List.mem_of_getElem? (i := 861) (by decide +kernel), List.mem_of_getElem? (i := 862) (by decide +kernel)⟩
theorem lw_p35 : lw_okq (⟨"PotHandlesModel", "isBroken", "(I)Z"⟩, 22) := ⟨⟨by decide +kernel, by decide +kernel⟩, List.mem_of_getElem? (i := 680) (by decide +kernel), List.mem_of_getElem? (i := 865) (by decide +kernel), List.mem_of_getElem? (i := 866) (by decide +kernel)⟩
theorem lw_p36 : lw_okq (⟨"PotHandlesModel", "sets", "(III)V"⟩, 22) := ⟨⟨by decide +kernel, by decide +kernel⟩, List.mem_of_getElem? (i := 680) (by decide +kernel), List.mem_of_getElem? (i := 874) (by decide +kernel), List.mem_of_getElem? (i := 875) (by decide +kernel)⟩
theorem lw_p37 : lw_okq (⟨"PotHandlesModel", "isPot", "(I)Z"⟩, 22) := ⟨⟨by decide +kernel, by decide +kernel⟩, List.mem_of_getElem? (i := 680) (by decide +kernel), List.mem_of_getElem? (i := 882) (by decide +kernel), List.mem_of_getElem? (i := 883) (by decide +kernel)⟩
theorem lw_p38 : lw_okq (⟨"PotHandlesModel", "wants", "(I)I"⟩, 22) := ⟨⟨by decide +kernel, by decide +kernel⟩, List.mem_of_getElem? (i := 680) (by decide +kernel), List.mem_of_getElem? (i := 886) (by decide +kernel), List.mem_of_getElem? (i := 887) (by decide +kernel)⟩
theorem lw_p39 : lw_okq (⟨"PotHandlesModel", "bears", "(I)I"⟩, 22) := ⟨⟨by decide +kernel, by decide +kernel⟩, List.mem_of_getElem? (i := 680) (by decide +kernel), List.mem_of_getElem? (i := 890) (by decide +kernel), List.mem_of_getElem? (i := 891) (by decide +kernel)⟩
theorem lw_p40 : lw_okq (⟨"PotHandlesModel", "moves", "(II)V"⟩, 22) := ⟨⟨by decide +kernel, by decide +kernel⟩, List.mem_of_getElem? (i := 680) (by decide +kernel), List.mem_of_getElem? (i := 903) (by decide +kernel), List.mem_of_getElem? (i := 904) (by decide +kernel)⟩
theorem lw_p41 : lw_okq (⟨"PotHandlesModel", "yearsGo", "(I)V"⟩, 22) := ⟨⟨by decide +kernel, by decide +kernel⟩, List.mem_of_getElem? (i := 680) (by decide +kernel), List.mem_of_getElem? (i := 928) (by decide +kernel), List.mem_of_getElem? (i := 929) (by decide +kernel)⟩
theorem lw_p42 : lw_okq (⟨"PotHandlesModel", "potGoes", "(I)V"⟩, 22) := ⟨⟨by decide +kernel, by decide +kernel⟩, List.mem_of_getElem? (i := 680) (by decide +kernel), List.mem_of_getElem? (i := 932) (by decide +kernel), List.mem_of_getElem? (i := 933) (by decide +kernel)⟩
theorem lw_p43 : lw_okq (⟨"PotHandlesModel", "warms", "(I)I"⟩, 22) := ⟨⟨by decide +kernel, by decide +kernel⟩, List.mem_of_getElem? (i := 680) (by decide +kernel), List.mem_of_getElem? (i := 936) (by decide +kernel), List.mem_of_getElem? (i := 937) (by decide +kernel)⟩
theorem lw_p44 : lw_okq (⟨"PotHandlesModel", "manyIn", "(I)I"⟩, 22) := ⟨⟨by decide +kernel, by decide +kernel⟩, List.mem_of_getElem? (i := 680) (by decide +kernel), List.mem_of_getElem? (i := 940) (by decide +kernel), List.mem_of_getElem? (i := 941) (by decide +kernel)⟩
theorem lw_p45 : lw_okq (⟨"PotHandlesModel", "handles", "()I"⟩, 22) := ⟨⟨by decide +kernel, by decide +kernel⟩, List.mem_of_getElem? (i := 680) (by decide +kernel), List.mem_of_getElem? (i := 944) (by decide +kernel), List.mem_of_getElem? (i := 945) (by decide +kernel)⟩
theorem lw_p46 : lw_okq (⟨"PotHandlesModel", "drawn", "()I"⟩, 22) := ⟨⟨by decide +kernel, by decide +kernel⟩, List.mem_of_getElem? (i := 680) (by decide +kernel), List.mem_of_getElem? (i := 953) (by decide +kernel), List.mem_of_getElem? (i := 954) (by decide +kernel)⟩
theorem lw_p47 : lw_okq (⟨"PotHandlesModel", "keepAside", "()V"⟩, 22) := ⟨⟨by decide +kernel, by decide +kernel⟩, List.mem_of_getElem? (i := 680) (by decide +kernel), List.mem_of_getElem? (i := 962) (by decide +kernel), List.mem_of_getElem? (i := 963) (by decide +kernel)⟩
def lw_privs_3 : List (MethodName × Nat) := [(⟨"PotHandlesModel", "worked", "(II)I"⟩, 22), (⟨"PotHandlesModel", "setOf", "(I)I"⟩, 22), (⟨"PotHandlesModel", "of", "(II)I"⟩, 22), (⟨"PotHandlesModel", "isBroken", "(I)Z"⟩, 22), (⟨"PotHandlesModel", "sets", "(III)V"⟩, 22), (⟨"PotHandlesModel", "isPot", "(I)Z"⟩, 22), (⟨"PotHandlesModel", "wants", "(I)I"⟩, 22), (⟨"PotHandlesModel", "bears", "(I)I"⟩, 22), (⟨"PotHandlesModel", "moves", "(II)V"⟩, 22), (⟨"PotHandlesModel", "yearsGo", "(I)V"⟩, 22), (⟨"PotHandlesModel", "potGoes", "(I)V"⟩, 22), (⟨"PotHandlesModel", "warms", "(I)I"⟩, 22), (⟨"PotHandlesModel", "manyIn", "(I)I"⟩, 22), (⟨"PotHandlesModel", "handles", "()I"⟩, 22), (⟨"PotHandlesModel", "drawn", "()I"⟩, 22), (⟨"PotHandlesModel", "keepAside", "()V"⟩, 22)]
theorem lw_r3 : ∀ q ∈ lw_privs_3, lw_okq q := List.forall_mem_cons.mpr ⟨lw_p32, List.forall_mem_cons.mpr ⟨lw_p33, List.forall_mem_cons.mpr ⟨lw_p34, List.forall_mem_cons.mpr ⟨lw_p35, List.forall_mem_cons.mpr ⟨lw_p36, List.forall_mem_cons.mpr ⟨lw_p37, List.forall_mem_cons.mpr ⟨lw_p38, List.forall_mem_cons.mpr ⟨lw_p39, List.forall_mem_cons.mpr ⟨lw_p40, List.forall_mem_cons.mpr ⟨lw_p41, List.forall_mem_cons.mpr ⟨lw_p42, List.forall_mem_cons.mpr ⟨lw_p43, List.forall_mem_cons.mpr ⟨lw_p44, List.forall_mem_cons.mpr ⟨lw_p45, List.forall_mem_cons.mpr ⟨lw_p46, List.forall_mem_cons.mpr ⟨lw_p47, fun _ h => absurd h List.not_mem_nil⟩⟩⟩⟩⟩⟩⟩⟩⟩⟩⟩⟩⟩⟩⟩⟩
theorem lw_p48 : lw_okq (⟨"PotHandlesModel", "putBack", "()V"⟩, 22) := ⟨⟨by decide +kernel, by decide +kernel⟩, List.mem_of_getElem? (i := 680) (by decide +kernel), List.mem_of_getElem? (i := 966) (by decide +kernel), List.mem_of_getElem? (i := 967) (by decide +kernel)⟩
theorem lw_p49 : lw_okq (⟨"PotHandlesModel", "holdsBy", "(II)I"⟩, 22) := ⟨⟨by decide +kernel, by decide +kernel⟩, List.mem_of_getElem? (i := 680) (by decide +kernel), List.mem_of_getElem? (i := 1034) (by decide +kernel), List.mem_of_getElem? (i := 1035) (by decide +kernel)⟩
theorem lw_p50 : lw_okq (⟨"PotHandlesModel", "ran", "(I)V"⟩, 22) := ⟨⟨by decide +kernel, by decide +kernel⟩, List.mem_of_getElem? (i := 680) (by decide +kernel), List.mem_of_getElem? (i := 1038) (by decide +kernel), List.mem_of_getElem? (i := 1039) (by decide +kernel)⟩
theorem lw_p51 : lw_okq (⟨"PotHandlesModel", "warmsBy", "(II)I"⟩, 22) := ⟨⟨by decide +kernel, by decide +kernel⟩, List.mem_of_getElem? (i := 680) (by decide +kernel), List.mem_of_getElem? (i := 1042) (by decide +kernel), List.mem_of_getElem? (i := 1043) (by decide +kernel)⟩
theorem lw_p52 : lw_okq (⟨"PotHandlesModel", "growsBy", "(II)I"⟩, 22) := ⟨⟨by decide +kernel, by decide +kernel⟩, List.mem_of_getElem? (i := 680) (by decide +kernel), List.mem_of_getElem? (i := 1046) (by decide +kernel), List.mem_of_getElem? (i := 1047) (by decide +kernel)⟩
theorem lw_p53 : lw_okq (⟨"PotHandlesModel", "tellsBy", "(II)I"⟩, 22) := ⟨⟨by decide +kernel, by decide +kernel⟩, List.mem_of_getElem? (i := 680) (by decide +kernel), List.mem_of_getElem? (i := 1050) (by decide +kernel), List.mem_of_getElem? (i := 1051) (by decide +kernel)⟩
def lw_privs_4 : List (MethodName × Nat) := [(⟨"PotHandlesModel", "putBack", "()V"⟩, 22), (⟨"PotHandlesModel", "holdsBy", "(II)I"⟩, 22), (⟨"PotHandlesModel", "ran", "(I)V"⟩, 22), (⟨"PotHandlesModel", "warmsBy", "(II)I"⟩, 22), (⟨"PotHandlesModel", "growsBy", "(II)I"⟩, 22), (⟨"PotHandlesModel", "tellsBy", "(II)I"⟩, 22)]
theorem lw_r4 : ∀ q ∈ lw_privs_4, lw_okq q := List.forall_mem_cons.mpr ⟨lw_p48, List.forall_mem_cons.mpr ⟨lw_p49, List.forall_mem_cons.mpr ⟨lw_p50, List.forall_mem_cons.mpr ⟨lw_p51, List.forall_mem_cons.mpr ⟨lw_p52, List.forall_mem_cons.mpr ⟨lw_p53, fun _ h => absurd h List.not_mem_nil⟩⟩⟩⟩⟩⟩
def lw_privs : List (MethodName × Nat) := lw_privs_1 ++ (lw_privs_2 ++ (lw_privs_3 ++ (lw_privs_4)))
def lw_tbl : List Cond := k2_sels lw_privs ++ tables_1
theorem lw_privs_ok : ∀ q ∈ lw_privs, lw_okq q := by
  show ∀ q ∈ lw_privs_1 ++ (lw_privs_2 ++ (lw_privs_3 ++ (lw_privs_4))), lw_okq q
  exact List.forall_mem_append.mpr ⟨lw_r1, List.forall_mem_append.mpr ⟨lw_r2, List.forall_mem_append.mpr ⟨lw_r3, lw_r4⟩⟩⟩
def RX0 : String := "PotHandles$Desk"
def TX0 : u_T := fun k => match k with
  | 0 => ("PotHandles$Desk", "tape", "[B", true)
  | 1 => ("PotHandles$Desk", "waiting", "[I", true)
  | 2 => ("PotHandles$Desk", "taped", "I", false)
  | 3 => ("PotHandles$Desk", "waits", "I", false)
  | _ => ("PotHandles$Desk", "z", "I", false)
def tyX0 : Nat → FieldType := fun k => match k with
  | 0 => .array .byte
  | 1 => .array .int
  | 2 => .int
  | 3 => .int
  | _ => .int
abbrev wsX00 : List Cond := u_ws RX0 TX0 5
theorem nmX0 : ∀ a, a < 5 → ∀ b, b < 5 → a ≠ b → (TX0 a).2.1 ≠ (TX0 b).2.1 := by decide +kernel
theorem tyX0_ok : ∀ k, k < 5 → parseFieldDescriptor (TX0 k).2.2.1 = some (tyX0 k) := by decide +kernel
abbrev cX0_init : ByteArray := prog_2_method_1_code
def yX0_init : MethodName := ⟨RX0, "<init>", "()V"⟩
abbrev cX0_copy : ByteArray := prog_2_method_2_code
def yX0_copy : MethodName := ⟨RX0, "copy", "(LPotHandles$Desk;)V"⟩
abbrev cX0_draw : ByteArray := prog_2_method_3_code
def yX0_draw : MethodName := ⟨RX0, "draw", "()I"⟩
def RX1 : String := "PotHandles$District"
def TX1 : u_T := fun k => match k with
  | 0 => ("PotHandles$District", "hands", "[I", true)
  | 1 => ("PotHandles$District", "care", "[I", true)
  | 2 => ("PotHandles$District", "row", "[LPotHandles$Pot;", true)
  | 3 => ("PotHandles$District", "warmth", "LPotHandles$Law;", true)
  | 4 => ("PotHandles$District", "breaking", "LPotHandles$Law;", true)
  | 5 => ("PotHandles$District", "pots", "I", false)
  | 6 => ("PotHandles$District", "year", "I", false)
  | _ => ("PotHandles$District", "broken", "I", false)
def tyX1 : Nat → FieldType := fun k => match k with
  | 0 => .array .int
  | 1 => .array .int
  | 2 => .array (.object "PotHandles$Pot")
  | 3 => .object "PotHandles$Law"
  | 4 => .object "PotHandles$Law"
  | 5 => .int
  | 6 => .int
  | _ => .int
abbrev wsX10 : List Cond := u_ws RX1 TX1 8
theorem nmX1 : ∀ a, a < 8 → ∀ b, b < 8 → a ≠ b → (TX1 a).2.1 ≠ (TX1 b).2.1 := by decide +kernel
theorem tyX1_ok : ∀ k, k < 8 → parseFieldDescriptor (TX1 k).2.2.1 = some (tyX1 k) := by decide +kernel
abbrev cX1_init : ByteArray := prog_3_method_1_code
def yX1_init : MethodName := ⟨RX1, "<init>", "()V"⟩
abbrev cX1_copy : ByteArray := prog_3_method_2_code
def yX1_copy : MethodName := ⟨RX1, "copy", "(LPotHandles$District;)V"⟩
abbrev cX1_has : ByteArray := prog_3_method_3_code
def yX1_has : MethodName := ⟨RX1, "has", "(I)Z"⟩
abbrev cX1_lawOf : ByteArray := prog_3_method_4_code
def yX1_lawOf : MethodName := ⟨RX1, "lawOf", "(I)LPotHandles$Law;"⟩
abbrev cX1_given : ByteArray := prog_3_method_5_code
def yX1_given : MethodName := ⟨RX1, "given", "(IIII)I"⟩
abbrev cX1_passYears : ByteArray := prog_3_method_6_code
def yX1_passYears : MethodName := ⟨RX1, "passYears", "(I)V"⟩
abbrev cX1_passYearOf : ByteArray := prog_3_method_7_code
def yX1_passYearOf : MethodName := ⟨RX1, "passYearOf", "(LPotHandles$Pot;I)V"⟩
abbrev cX1_potsIn : ByteArray := prog_3_method_8_code
def yX1_potsIn : MethodName := ⟨RX1, "potsIn", "(I)I"⟩
abbrev cX1_potsWithHandle : ByteArray := prog_3_method_9_code
def yX1_potsWithHandle : MethodName := ⟨RX1, "potsWithHandle", "()I"⟩
abbrev cX1_falsePots : ByteArray := prog_3_method_10_code
def yX1_falsePots : MethodName := ⟨RX1, "falsePots", "()I"⟩
abbrev cX1_allPots : ByteArray := prog_3_method_11_code
def yX1_allPots : MethodName := ⟨RX1, "allPots", "()I"⟩
abbrev cX1_allHandles : ByteArray := prog_3_method_12_code
def yX1_allHandles : MethodName := ⟨RX1, "allHandles", "()I"⟩
abbrev cX1_handlesIn : ByteArray := prog_3_method_13_code
def yX1_handlesIn : MethodName := ⟨RX1, "handlesIn", "(I)I"⟩
def RX2 : String := "PotHandles$Law"
def TX2 : u_T := fun k => match k with
  | 0 => ("PotHandles$Law", "signs", "[I", true)
  | 1 => ("PotHandles$Law", "stack", "[I", true)
  | _ => ("PotHandles$Law", "length", "I", false)
def tyX2 : Nat → FieldType := fun k => match k with
  | 0 => .array .int
  | 1 => .array .int
  | _ => .int
abbrev wsX20 : List Cond := u_ws RX2 TX2 3
theorem nmX2 : ∀ a, a < 3 → ∀ b, b < 3 → a ≠ b → (TX2 a).2.1 ≠ (TX2 b).2.1 := by decide +kernel
theorem tyX2_ok : ∀ k, k < 3 → parseFieldDescriptor (TX2 k).2.2.1 = some (tyX2 k) := by decide +kernel
abbrev cX2_init : ByteArray := prog_4_method_1_code
def yX2_init : MethodName := ⟨RX2, "<init>", "()V"⟩
abbrev cX2_stands : ByteArray := prog_4_method_2_code
def yX2_stands : MethodName := ⟨RX2, "stands", "()Z"⟩
abbrev cX2_clear : ByteArray := prog_4_method_3_code
def yX2_clear : MethodName := ⟨RX2, "clear", "()V"⟩
abbrev cX2_add : ByteArray := prog_4_method_4_code
def yX2_add : MethodName := ⟨RX2, "add", "(I)V"⟩
abbrev cX2_copy : ByteArray := prog_4_method_5_code
def yX2_copy : MethodName := ⟨RX2, "copy", "(LPotHandles$Law;)V"⟩
abbrev cX2_workedOut : ByteArray := prog_4_method_6_code
def yX2_workedOut : MethodName := ⟨RX2, "workedOut", "(III)I"⟩
abbrev cX2_namedOrNumber : ByteArray := prog_4_method_7_code
def yX2_namedOrNumber : MethodName := ⟨RX2, "namedOrNumber", "(IIII)I"⟩
abbrev cX2_joined : ByteArray := prog_4_method_8_code
def yX2_joined : MethodName := ⟨RX2, "joined", "(III)I"⟩
def RX3 : String := "PotHandles$Pot"
def TX3 : u_T := fun k => match k with
  | 0 => ("PotHandles$Pot", "kind", "I", false)
  | 1 => ("PotHandles$Pot", "m", "I", false)
  | 2 => ("PotHandles$Pot", "home", "I", false)
  | 3 => ("PotHandles$Pot", "used", "I", false)
  | 4 => ("PotHandles$Pot", "liked", "I", false)
  | 5 => ("PotHandles$Pot", "years", "I", false)
  | 6 => ("PotHandles$Pot", "handles", "I", false)
  | _ => ("PotHandles$Pot", "isFalse", "Z", false)
def tyX3 : Nat → FieldType := fun k => match k with
  | 0 => .int
  | 1 => .int
  | 2 => .int
  | 3 => .int
  | 4 => .int
  | 5 => .int
  | 6 => .int
  | _ => .boolean
abbrev wsX30 : List Cond := u_ws RX3 TX3 8
theorem nmX3 : ∀ a, a < 8 → ∀ b, b < 8 → a ≠ b → (TX3 a).2.1 ≠ (TX3 b).2.1 := by decide +kernel
theorem tyX3_ok : ∀ k, k < 8 → parseFieldDescriptor (TX3 k).2.2.1 = some (tyX3 k) := by decide +kernel
abbrev cX3_init : ByteArray := prog_5_method_1_code
def yX3_init : MethodName := ⟨RX3, "<init>", "()V"⟩
abbrev cX3_begin : ByteArray := prog_5_method_2_code
def yX3_begin : MethodName := ⟨RX3, "begin", "(III)V"⟩
abbrev cX3_copy : ByteArray := prog_5_method_3_code
def yX3_copy : MethodName := ⟨RX3, "copy", "(LPotHandles$Pot;)V"⟩
abbrev cX3_warmedBy : ByteArray := prog_5_method_4_code
def yX3_warmedBy : MethodName := ⟨RX3, "warmedBy", "(I)I"⟩
abbrev cX3_wants : ByteArray := prog_5_method_5_code
def yX3_wants : MethodName := ⟨RX3, "wants", "()I"⟩
abbrev cX3_bears : ByteArray := prog_5_method_6_code
def yX3_bears : MethodName := ⟨RX3, "bears", "()I"⟩
abbrev cX3_liveYear : ByteArray := prog_5_method_7_code
def yX3_liveYear : MethodName := ⟨RX3, "liveYear", "(I)V"⟩
abbrev cX3_goTo : ByteArray := prog_5_method_8_code
def yX3_goTo : MethodName := ⟨RX3, "goTo", "(I)V"⟩
abbrev cX3_canTakeFalseHandle : ByteArray := prog_5_method_9_code
def yX3_canTakeFalseHandle : MethodName := ⟨RX3, "canTakeFalseHandle", "()Z"⟩
abbrev cX3_takeFalseHandle : ByteArray := prog_5_method_10_code
def yX3_takeFalseHandle : MethodName := ⟨RX3, "takeFalseHandle", "()V"⟩
def RX4 : String := "PotHandles$Reader"
def TX4 : u_T := fun k => match k with
  | 0 => ("PotHandles$Reader", "law", "LPotHandles$Law;", true)
  | 1 => ("PotHandles$Reader", "desk", "LPotHandles$Desk;", true)
  | 2 => ("PotHandles$Reader", "use", "I", false)
  | _ => ("PotHandles$Reader", "at", "I", false)
def tyX4 : Nat → FieldType := fun k => match k with
  | 0 => .object "PotHandles$Law"
  | 1 => .object "PotHandles$Desk"
  | 2 => .int
  | _ => .int
abbrev wsX40 : List Cond := u_ws RX4 TX4 4
theorem nmX4 : ∀ a, a < 4 → ∀ b, b < 4 → a ≠ b → (TX4 a).2.1 ≠ (TX4 b).2.1 := by decide +kernel
theorem tyX4_ok : ∀ k, k < 4 → parseFieldDescriptor (TX4 k).2.2.1 = some (tyX4 k) := by decide +kernel
abbrev cX4_init : ByteArray := prog_6_method_1_code
def yX4_init : MethodName := ⟨RX4, "<init>", "(LPotHandles$Desk;)V"⟩
abbrev cX4_readTape : ByteArray := prog_6_method_2_code
def yX4_readTape : MethodName := ⟨RX4, "readTape", "(I)Z"⟩
abbrev cX4_next : ByteArray := prog_6_method_3_code
def yX4_next : MethodName := ⟨RX4, "next", "()I"⟩
abbrev cX4_readLevel : ByteArray := prog_6_method_4_code
def yX4_readLevel : MethodName := ⟨RX4, "readLevel", "(II)Z"⟩
abbrev cX4_levelOf : ByteArray := prog_6_method_5_code
def yX4_levelOf : MethodName := ⟨RX4, "levelOf", "(I)I"⟩
abbrev cX4_readLast : ByteArray := prog_6_method_6_code
def yX4_readLast : MethodName := ⟨RX4, "readLast", "(I)Z"⟩
abbrev cX4_readNumber : ByteArray := prog_6_method_7_code
def yX4_readNumber : MethodName := ⟨RX4, "readNumber", "()V"⟩
abbrev cX4_isDigit : ByteArray := prog_6_method_8_code
def yX4_isDigit : MethodName := ⟨RX4, "isDigit", "(I)Z"⟩
abbrev cX4_nameOf : ByteArray := prog_6_method_9_code
def yX4_nameOf : MethodName := ⟨RX4, "nameOf", "(I)I"⟩
def RX5 : String := "PotHandles$Sheet"
def TX5 : u_T := fun k => match k with
  | 0 => ("PotHandles$Sheet", "row", "[I", true)
  | 1 => ("PotHandles$Sheet", "bits", "I", false)
  | _ => ("PotHandles$Sheet", "count", "I", false)
def tyX5 : Nat → FieldType := fun k => match k with
  | 0 => .array .int
  | 1 => .int
  | _ => .int
abbrev wsX50 : List Cond := u_ws RX5 TX5 3
theorem nmX5 : ∀ a, a < 3 → ∀ b, b < 3 → a ≠ b → (TX5 a).2.1 ≠ (TX5 b).2.1 := by decide +kernel
theorem tyX5_ok : ∀ k, k < 3 → parseFieldDescriptor (TX5 k).2.2.1 = some (tyX5 k) := by decide +kernel
abbrev cX5_init : ByteArray := prog_7_method_1_code
def yX5_init : MethodName := ⟨RX5, "<init>", "()V"⟩
abbrev cX5_isMissing : ByteArray := prog_7_method_2_code
def yX5_isMissing : MethodName := ⟨RX5, "isMissing", "()Z"⟩
abbrev cX5_lay : ByteArray := prog_7_method_3_code
def yX5_lay : MethodName := ⟨RX5, "lay", "(II)V"⟩
abbrev cX5_lowestBits : ByteArray := prog_7_method_4_code
def yX5_lowestBits : MethodName := ⟨RX5, "lowestBits", "(I)I"⟩
abbrev cX5_holds : ByteArray := prog_7_method_5_code
def yX5_holds : MethodName := ⟨RX5, "holds", "(II)Z"⟩
def RX6 : String := "PotHandles$Voices"
def TX6 : u_T := fun k => match k with
  | 0 => ("PotHandles$Voices", "trace", "[I", true)
  | 1 => ("PotHandles$Voices", "traced", "I", false)
  | 2 => ("PotHandles$Voices", "kind", "I", false)
  | 3 => ("PotHandles$Voices", "n", "I", false)
  | _ => ("PotHandles$Voices", "m", "I", false)
def tyX6 : Nat → FieldType := fun k => match k with
  | 0 => .array .int
  | 1 => .int
  | 2 => .int
  | 3 => .int
  | _ => .int
abbrev wsX60 : List Cond := u_ws RX6 TX6 5
theorem nmX6 : ∀ a, a < 5 → ∀ b, b < 5 → a ≠ b → (TX6 a).2.1 ≠ (TX6 b).2.1 := by decide +kernel
theorem tyX6_ok : ∀ k, k < 5 → parseFieldDescriptor (TX6 k).2.2.1 = some (tyX6 k) := by decide +kernel
abbrev cX6_init : ByteArray := prog_8_method_1_code
def yX6_init : MethodName := ⟨RX6, "<init>", "()V"⟩
abbrev cX6_speak : ByteArray := prog_8_method_2_code
def yX6_speak : MethodName := ⟨RX6, "speak", "(LPotHandles$Pot;III)I"⟩
abbrev cX6_say : ByteArray := prog_8_method_3_code
def yX6_say : MethodName := ⟨RX6, "say", "(IIII)I"⟩
abbrev cX6_begin : ByteArray := prog_8_method_4_code
def yX6_begin : MethodName := ⟨RX6, "begin", "(I)V"⟩
abbrev cX6_bodyOf : ByteArray := prog_8_method_5_code
def yX6_bodyOf : MethodName := ⟨RX6, "bodyOf", "(II)I"⟩
abbrev cX6_sayBody : ByteArray := prog_8_method_6_code
def yX6_sayBody : MethodName := ⟨RX6, "sayBody", "(III)I"⟩
abbrev cX6_sayAbove : ByteArray := prog_8_method_7_code
def yX6_sayAbove : MethodName := ⟨RX6, "sayAbove", "(IIII)I"⟩
def RX7 : String := "PotHandles"
def TX7 : u_T := fun k => match k with
  | 0 => ("PotHandles", "now", "LPotHandles$District;", true)
  | 1 => ("PotHandles", "thought", "LPotHandles$District;", true)
  | 2 => ("PotHandles", "kept", "LPotHandles$District;", true)
  | 3 => ("PotHandles", "desk", "LPotHandles$Desk;", true)
  | 4 => ("PotHandles", "keptDesk", "LPotHandles$Desk;", true)
  | 5 => ("PotHandles", "reader", "LPotHandles$Reader;", true)
  | 6 => ("PotHandles", "voices", "LPotHandles$Voices;", true)
  | 7 => ("PotHandles", "sheets", "[LPotHandles$Sheet;", true)
  | 8 => ("PotHandles", "errors", "[I", true)
  | _ => ("PotHandles", "images", "I", false)
def tyX7 : Nat → FieldType := fun k => match k with
  | 0 => .object "PotHandles$District"
  | 1 => .object "PotHandles$District"
  | 2 => .object "PotHandles$District"
  | 3 => .object "PotHandles$Desk"
  | 4 => .object "PotHandles$Desk"
  | 5 => .object "PotHandles$Reader"
  | 6 => .object "PotHandles$Voices"
  | 7 => .array (.object "PotHandles$Sheet")
  | 8 => .array .int
  | _ => .int
abbrev wsX70 : List Cond := u_ws RX7 TX7 10
theorem nmX7 : ∀ a, a < 10 → ∀ b, b < 10 → a ≠ b → (TX7 a).2.1 ≠ (TX7 b).2.1 := by decide +kernel
theorem tyX7_ok : ∀ k, k < 10 → parseFieldDescriptor (TX7 k).2.2.1 = some (tyX7 k) := by decide +kernel
abbrev cX7_init : ByteArray := prog_1_method_1_code
def yX7_init : MethodName := ⟨RX7, "<init>", "()V"⟩
abbrev cX7_house : ByteArray := prog_1_method_2_code
def yX7_house : MethodName := ⟨RX7, "house", "(III)I"⟩
abbrev cX7_ofHouse : ByteArray := prog_1_method_3_code
def yX7_ofHouse : MethodName := ⟨RX7, "ofHouse", "(II)I"⟩
abbrev cX7_pot : ByteArray := prog_1_method_4_code
def yX7_pot : MethodName := ⟨RX7, "pot", "(III)I"⟩
abbrev cX7_ofPot : ByteArray := prog_1_method_5_code
def yX7_ofPot : MethodName := ⟨RX7, "ofPot", "(II)I"⟩
abbrev cX7_change : ByteArray := prog_1_method_6_code
def yX7_change : MethodName := ⟨RX7, "change", "(III)I"⟩
abbrev cX7_shift : ByteArray := prog_1_method_7_code
def yX7_shift : MethodName := ⟨RX7, "shift", "(II)I"⟩
abbrev cX7_stick : ByteArray := prog_1_method_8_code
def yX7_stick : MethodName := ⟨RX7, "stick", "(I)I"⟩
abbrev cX7_become : ByteArray := prog_1_method_9_code
def yX7_become : MethodName := ⟨RX7, "become", "(II)I"⟩
abbrev cX7_as : ByteArray := prog_1_method_10_code
def yX7_as : MethodName := ⟨RX7, "as", "(II)I"⟩
abbrev cX7_feed : ByteArray := prog_1_method_11_code
def yX7_feed : MethodName := ⟨RX7, "feed", "(JI)I"⟩
abbrev cX7_text : ByteArray := prog_1_method_12_code
def yX7_text : MethodName := ⟨RX7, "text", "(I)I"⟩
abbrev cX7_law : ByteArray := prog_1_method_13_code
def yX7_law : MethodName := ⟨RX7, "law", "(IIII)I"⟩
abbrev cX7_years : ByteArray := prog_1_method_14_code
def yX7_years : MethodName := ⟨RX7, "years", "(I)I"⟩
abbrev cX7_loose : ByteArray := prog_1_method_15_code
def yX7_loose : MethodName := ⟨RX7, "loose", "(I)I"⟩
abbrev cX7_then : ByteArray := prog_1_method_16_code
def yX7_then : MethodName := ⟨RX7, "then", "(III)I"⟩
abbrev cX7_when : ByteArray := prog_1_method_17_code
def yX7_when : MethodName := ⟨RX7, "when", "(I)I"⟩
abbrev cX7_shelf : ByteArray := prog_1_method_18_code
def yX7_shelf : MethodName := ⟨RX7, "shelf", "(II)I"⟩
abbrev cX7_place : ByteArray := prog_1_method_19_code
def yX7_place : MethodName := ⟨RX7, "place", "(III)I"⟩
abbrev cX7_use : ByteArray := prog_1_method_20_code
def yX7_use : MethodName := ⟨RX7, "use", "(II)I"⟩
abbrev cX7_needed : ByteArray := prog_1_method_21_code
def yX7_needed : MethodName := ⟨RX7, "needed", "(II)I"⟩
abbrev cX7_whose : ByteArray := prog_1_method_22_code
def yX7_whose : MethodName := ⟨RX7, "whose", "(III)I"⟩
abbrev cX7_carry : ByteArray := prog_1_method_23_code
def yX7_carry : MethodName := ⟨RX7, "carry", "(I)I"⟩
abbrev cX7_richest : ByteArray := prog_1_method_24_code
def yX7_richest : MethodName := ⟨RX7, "richest", "(II)I"⟩
abbrev cX7_breaks : ByteArray := prog_1_method_25_code
def yX7_breaks : MethodName := ⟨RX7, "breaks", "(I)I"⟩
abbrev cX7_dealer : ByteArray := prog_1_method_26_code
def yX7_dealer : MethodName := ⟨RX7, "dealer", "(I)I"⟩
abbrev cX7_odds : ByteArray := prog_1_method_27_code
def yX7_odds : MethodName := ⟨RX7, "odds", "(III)I"⟩
abbrev cX7_seed : ByteArray := prog_1_method_28_code
def yX7_seed : MethodName := ⟨RX7, "seed", "(I)I"⟩
abbrev cX7_voice : ByteArray := prog_1_method_29_code
def yX7_voice : MethodName := ⟨RX7, "voice", "(III)I"⟩
abbrev cX7_trace : ByteArray := prog_1_method_30_code
def yX7_trace : MethodName := ⟨RX7, "trace", "(I)I"⟩
abbrev cX7_sheet : ByteArray := prog_1_method_31_code
def yX7_sheet : MethodName := ⟨RX7, "sheet", "(III)I"⟩
abbrev cX7_put : ByteArray := prog_1_method_32_code
def yX7_put : MethodName := ⟨RX7, "put", "(III)I"⟩
abbrev cX7_move : ByteArray := prog_1_method_33_code
def yX7_move : MethodName := ⟨RX7, "move", "(IIIII)I"⟩
abbrev cX7_uses : ByteArray := prog_1_method_34_code
def yX7_uses : MethodName := ⟨RX7, "uses", "(I)I"⟩
abbrev cX7_judge : ByteArray := prog_1_method_35_code
def yX7_judge : MethodName := ⟨RX7, "judge", "(I)I"⟩
abbrev cX7_image : ByteArray := prog_1_method_36_code
def yX7_image : MethodName := ⟨RX7, "image", "()I"⟩
abbrev cX7_restore : ByteArray := prog_1_method_37_code
def yX7_restore : MethodName := ⟨RX7, "restore", "()I"⟩
abbrev cX7_tell : ByteArray := prog_1_method_38_code
def yX7_tell : MethodName := ⟨RX7, "tell", "(I)I"⟩
abbrev cX7_check : ByteArray := prog_1_method_39_code
def yX7_check : MethodName := ⟨RX7, "check", "()I"⟩
abbrev cX7_count : ByteArray := prog_1_method_40_code
def yX7_count : MethodName := ⟨RX7, "count", "(I)I"⟩
abbrev cX7_told : ByteArray := prog_1_method_41_code
def yX7_told : MethodName := ⟨RX7, "told", "(I)I"⟩
abbrev cX7_fail : ByteArray := prog_1_method_42_code
def yX7_fail : MethodName := ⟨RX7, "fail", "(I)I"⟩
abbrev cX7_isWithin : ByteArray := prog_1_method_43_code
def yX7_isWithin : MethodName := ⟨RX7, "isWithin", "(II)Z"⟩
abbrev cX7_isHouse : ByteArray := prog_1_method_44_code
def yX7_isHouse : MethodName := ⟨RX7, "isHouse", "(I)Z"⟩
abbrev cX7_isSheet : ByteArray := prog_1_method_45_code
def yX7_isSheet : MethodName := ⟨RX7, "isSheet", "(I)Z"⟩
abbrev cX7_isKindWithNumber : ByteArray := prog_1_method_46_code
def yX7_isKindWithNumber : MethodName := ⟨RX7, "isKindWithNumber", "(I)Z"⟩
abbrev cX7_kindAbove : ByteArray := prog_1_method_47_code
def yX7_kindAbove : MethodName := ⟨RX7, "kindAbove", "(I)I"⟩
abbrev cX7_isUnder : ByteArray := prog_1_method_48_code
def yX7_isUnder : MethodName := ⟨RX7, "isUnder", "(II)Z"⟩
abbrev cX7_behind : ByteArray := prog_1_method_49_code
def yX7_behind : MethodName := ⟨RX7, "behind", "(I)LPotHandles$District;"⟩
abbrev cX7_whenMoved : ByteArray := prog_1_method_50_code
def yX7_whenMoved : MethodName := ⟨RX7, "whenMoved", "(III)LPotHandles$Pot;"⟩
abbrev cX7_whenBeing : ByteArray := prog_1_method_51_code
def yX7_whenBeing : MethodName := ⟨RX7, "whenBeing", "(III)LPotHandles$Pot;"⟩
abbrev cX7_haveHandlesIfCaredFor : ByteArray := prog_1_method_52_code
def yX7_haveHandlesIfCaredFor : MethodName := ⟨RX7, "haveHandlesIfCaredFor", "(III)Z"⟩
abbrev cX7_isLikedAsTold : ByteArray := prog_1_method_53_code
def yX7_isLikedAsTold : MethodName := ⟨RX7, "isLikedAsTold", "(LPotHandles$Sheet;II)Z"⟩
abbrev cX7_handlesIfStuck : ByteArray := prog_1_method_54_code
def yX7_handlesIfStuck : MethodName := ⟨RX7, "handlesIfStuck", "(II)I"⟩
def RX8 : String := "PotHandlesModel"
def TX8 : u_T := fun k => match k with
  | 0 => ("PotHandlesModel", "d", "[I", true)
  | 1 => ("PotHandlesModel", "kept", "[I", true)
  | 2 => ("PotHandlesModel", "aside", "[I", true)
  | 3 => ("PotHandlesModel", "images", "I", false)
  | 4 => ("PotHandlesModel", "found", "[I", true)
  | 5 => ("PotHandlesModel", "base", "I", false)
  | 6 => ("PotHandlesModel", "at", "I", false)
  | 7 => ("PotHandlesModel", "size", "I", false)
  | 8 => ("PotHandlesModel", "fault", "I", false)
  | 9 => ("PotHandlesModel", "opened", "I", false)
  | 10 => ("PotHandlesModel", "isBreaks", "Z", false)
  | 11 => ("PotHandlesModel", "names", "[I", true)
  | 12 => ("PotHandlesModel", "code", "[I", true)
  | 13 => ("PotHandlesModel", "coded", "I", false)
  | 14 => ("PotHandlesModel", "pile", "[I", true)
  | 15 => ("PotHandlesModel", "traced", "[I", true)
  | 16 => ("PotHandlesModel", "traceMany", "I", false)
  | 17 => ("PotHandlesModel", "who", "I", false)
  | 18 => ("PotHandlesModel", "bitsOf", "[I", true)
  | 19 => ("PotHandlesModel", "sizeOf", "[I", true)
  | 20 => ("PotHandlesModel", "number", "[I", true)
  | _ => ("PotHandlesModel", "lifted", "[I", true)
def tyX8 : Nat → FieldType := fun k => match k with
  | 0 => .array .int
  | 1 => .array .int
  | 2 => .array .int
  | 3 => .int
  | 4 => .array .int
  | 5 => .int
  | 6 => .int
  | 7 => .int
  | 8 => .int
  | 9 => .int
  | 10 => .boolean
  | 11 => .array .int
  | 12 => .array .int
  | 13 => .int
  | 14 => .array .int
  | 15 => .array .int
  | 16 => .int
  | 17 => .int
  | 18 => .array .int
  | 19 => .array .int
  | 20 => .array .int
  | _ => .array .int
abbrev wsX80 : List Cond := u_ws RX8 TX8 22
theorem nmX8 : ∀ a, a < 22 → ∀ b, b < 22 → a ≠ b → (TX8 a).2.1 ≠ (TX8 b).2.1 := by decide +kernel
theorem tyX8_ok : ∀ k, k < 22 → parseFieldDescriptor (TX8 k).2.2.1 = some (tyX8 k) := by decide +kernel
abbrev cX8_init : ByteArray := prog_10_method_1_code
def yX8_init : MethodName := ⟨RX8, "<init>", "()V"⟩
abbrev cX8_finds : ByteArray := prog_10_method_3_code
def yX8_finds : MethodName := ⟨RX8, "finds", "(I)I"⟩
abbrev cX8_in : ByteArray := prog_10_method_4_code
def yX8_in : MethodName := ⟨RX8, "in", "(JJJ)Z"⟩
abbrev cX8_held : ByteArray := prog_10_method_5_code
def yX8_held : MethodName := ⟨RX8, "held", "(III)I"⟩
abbrev cX8_isPot : ByteArray := prog_10_method_6_code
def yX8_isPot : MethodName := ⟨RX8, "isPot", "(I)Z"⟩
abbrev cX8_isHouse : ByteArray := prog_10_method_7_code
def yX8_isHouse : MethodName := ⟨RX8, "isHouse", "(I)Z"⟩
abbrev cX8_of : ByteArray := prog_10_method_8_code
def yX8_of : MethodName := ⟨RX8, "of", "(II)I"⟩
abbrev cX8_sets : ByteArray := prog_10_method_9_code
def yX8_sets : MethodName := ⟨RX8, "sets", "(III)V"⟩
abbrev cX8_above : ByteArray := prog_10_method_10_code
def yX8_above : MethodName := ⟨RX8, "above", "(I)I"⟩
abbrev cX8_isBroken : ByteArray := prog_10_method_11_code
def yX8_isBroken : MethodName := ⟨RX8, "isBroken", "(I)Z"⟩
abbrev cX8_keepAside : ByteArray := prog_10_method_12_code
def yX8_keepAside : MethodName := ⟨RX8, "keepAside", "()V"⟩
abbrev cX8_putBack : ByteArray := prog_10_method_13_code
def yX8_putBack : MethodName := ⟨RX8, "putBack", "()V"⟩
abbrev cX8_here : ByteArray := prog_10_method_14_code
def yX8_here : MethodName := ⟨RX8, "here", "()I"⟩
abbrev cX8_wrong : ByteArray := prog_10_method_15_code
def yX8_wrong : MethodName := ⟨RX8, "wrong", "()V"⟩
abbrev cX8_takes : ByteArray := prog_10_method_16_code
def yX8_takes : MethodName := ⟨RX8, "takes", "(I)Z"⟩
abbrev cX8_nameOf : ByteArray := prog_10_method_17_code
def yX8_nameOf : MethodName := ⟨RX8, "nameOf", "(I)I"⟩
abbrev cX8_lay : ByteArray := prog_10_method_18_code
def yX8_lay : MethodName := ⟨RX8, "lay", "(I)V"⟩
abbrev cX8_either : ByteArray := prog_10_method_19_code
def yX8_either : MethodName := ⟨RX8, "either", "()V"⟩
abbrev cX8_both : ByteArray := prog_10_method_20_code
def yX8_both : MethodName := ⟨RX8, "both", "()V"⟩
abbrev cX8_compared : ByteArray := prog_10_method_21_code
def yX8_compared : MethodName := ⟨RX8, "compared", "()V"⟩
abbrev cX8_sum : ByteArray := prog_10_method_22_code
def yX8_sum : MethodName := ⟨RX8, "sum", "()V"⟩
abbrev cX8_product : ByteArray := prog_10_method_23_code
def yX8_product : MethodName := ⟨RX8, "product", "()V"⟩
abbrev cX8_opens : ByteArray := prog_10_method_24_code
def yX8_opens : MethodName := ⟨RX8, "opens", "(I)V"⟩
abbrev cX8_unit : ByteArray := prog_10_method_25_code
def yX8_unit : MethodName := ⟨RX8, "unit", "()V"⟩
abbrev cX8_reads : ByteArray := prog_10_method_26_code
def yX8_reads : MethodName := ⟨RX8, "reads", "(III)V"⟩
abbrev cX8_done : ByteArray := prog_10_method_27_code
def yX8_done : MethodName := ⟨RX8, "done", "(III)I"⟩
abbrev cX8_worked : ByteArray := prog_10_method_28_code
def yX8_worked : MethodName := ⟨RX8, "worked", "(II)I"⟩
abbrev cX8_feed : ByteArray := prog_10_method_29_code
def yX8_feed : MethodName := ⟨RX8, "feed", "(JI)I"⟩
abbrev cX8_text : ByteArray := prog_10_method_30_code
def yX8_text : MethodName := ⟨RX8, "text", "(I)I"⟩
abbrev cX8_textGives : ByteArray := prog_10_method_31_code
def yX8_textGives : MethodName := ⟨RX8, "textGives", "(IIII)I"⟩
abbrev cX8_law : ByteArray := prog_10_method_32_code
def yX8_law : MethodName := ⟨RX8, "law", "(IIII)I"⟩
abbrev cX8_warms : ByteArray := prog_10_method_33_code
def yX8_warms : MethodName := ⟨RX8, "warms", "(I)I"⟩
abbrev cX8_wants : ByteArray := prog_10_method_34_code
def yX8_wants : MethodName := ⟨RX8, "wants", "(I)I"⟩
abbrev cX8_bears : ByteArray := prog_10_method_35_code
def yX8_bears : MethodName := ⟨RX8, "bears", "(I)I"⟩
abbrev cX8_manyIn : ByteArray := prog_10_method_36_code
def yX8_manyIn : MethodName := ⟨RX8, "manyIn", "(I)I"⟩
abbrev cX8_handles : ByteArray := prog_10_method_37_code
def yX8_handles : MethodName := ⟨RX8, "handles", "()I"⟩
abbrev cX8_moves : ByteArray := prog_10_method_38_code
def yX8_moves : MethodName := ⟨RX8, "moves", "(II)V"⟩
abbrev cX8_potGoes : ByteArray := prog_10_method_39_code
def yX8_potGoes : MethodName := ⟨RX8, "potGoes", "(I)V"⟩
abbrev cX8_yearsGo : ByteArray := prog_10_method_40_code
def yX8_yearsGo : MethodName := ⟨RX8, "yearsGo", "(I)V"⟩
abbrev cX8_setOf : ByteArray := prog_10_method_41_code
def yX8_setOf : MethodName := ⟨RX8, "setOf", "(I)I"⟩
abbrev cX8_bits : ByteArray := prog_10_method_42_code
def yX8_bits : MethodName := ⟨RX8, "bits", "(I)I"⟩
abbrev cX8_house : ByteArray := prog_10_method_43_code
def yX8_house : MethodName := ⟨RX8, "house", "(III)I"⟩
abbrev cX8_ofHouse : ByteArray := prog_10_method_44_code
def yX8_ofHouse : MethodName := ⟨RX8, "ofHouse", "(II)I"⟩
abbrev cX8_pot : ByteArray := prog_10_method_45_code
def yX8_pot : MethodName := ⟨RX8, "pot", "(III)I"⟩
abbrev cX8_ofPot : ByteArray := prog_10_method_46_code
def yX8_ofPot : MethodName := ⟨RX8, "ofPot", "(II)I"⟩
abbrev cX8_change : ByteArray := prog_10_method_47_code
def yX8_change : MethodName := ⟨RX8, "change", "(III)I"⟩
abbrev cX8_shift : ByteArray := prog_10_method_48_code
def yX8_shift : MethodName := ⟨RX8, "shift", "(II)I"⟩
abbrev cX8_stick : ByteArray := prog_10_method_49_code
def yX8_stick : MethodName := ⟨RX8, "stick", "(I)I"⟩
abbrev cX8_become : ByteArray := prog_10_method_50_code
def yX8_become : MethodName := ⟨RX8, "become", "(II)I"⟩
abbrev cX8_as : ByteArray := prog_10_method_51_code
def yX8_as : MethodName := ⟨RX8, "as", "(II)I"⟩
abbrev cX8_years : ByteArray := prog_10_method_52_code
def yX8_years : MethodName := ⟨RX8, "years", "(I)I"⟩
abbrev cX8_drawn : ByteArray := prog_10_method_53_code
def yX8_drawn : MethodName := ⟨RX8, "drawn", "()I"⟩
abbrev cX8_loose : ByteArray := prog_10_method_54_code
def yX8_loose : MethodName := ⟨RX8, "loose", "(I)I"⟩
abbrev cX8_then : ByteArray := prog_10_method_55_code
def yX8_then : MethodName := ⟨RX8, "then", "(III)I"⟩
abbrev cX8_when : ByteArray := prog_10_method_56_code
def yX8_when : MethodName := ⟨RX8, "when", "(I)I"⟩
abbrev cX8_shelf : ByteArray := prog_10_method_57_code
def yX8_shelf : MethodName := ⟨RX8, "shelf", "(II)I"⟩
abbrev cX8_place : ByteArray := prog_10_method_58_code
def yX8_place : MethodName := ⟨RX8, "place", "(III)I"⟩
abbrev cX8_use : ByteArray := prog_10_method_59_code
def yX8_use : MethodName := ⟨RX8, "use", "(II)I"⟩
abbrev cX8_needed : ByteArray := prog_10_method_60_code
def yX8_needed : MethodName := ⟨RX8, "needed", "(II)I"⟩
abbrev cX8_whose : ByteArray := prog_10_method_61_code
def yX8_whose : MethodName := ⟨RX8, "whose", "(III)I"⟩
abbrev cX8_carry : ByteArray := prog_10_method_62_code
def yX8_carry : MethodName := ⟨RX8, "carry", "(I)I"⟩
abbrev cX8_richest : ByteArray := prog_10_method_63_code
def yX8_richest : MethodName := ⟨RX8, "richest", "(II)I"⟩
abbrev cX8_breaks : ByteArray := prog_10_method_64_code
def yX8_breaks : MethodName := ⟨RX8, "breaks", "(I)I"⟩
abbrev cX8_dealer : ByteArray := prog_10_method_65_code
def yX8_dealer : MethodName := ⟨RX8, "dealer", "(I)I"⟩
abbrev cX8_common : ByteArray := prog_10_method_66_code
def yX8_common : MethodName := ⟨RX8, "common", "(II)I"⟩
abbrev cX8_odds : ByteArray := prog_10_method_67_code
def yX8_odds : MethodName := ⟨RX8, "odds", "(III)I"⟩
abbrev cX8_seed : ByteArray := prog_10_method_68_code
def yX8_seed : MethodName := ⟨RX8, "seed", "(I)I"⟩
abbrev cX8_ran : ByteArray := prog_10_method_69_code
def yX8_ran : MethodName := ⟨RX8, "ran", "(I)V"⟩
abbrev cX8_holdsBy : ByteArray := prog_10_method_70_code
def yX8_holdsBy : MethodName := ⟨RX8, "holdsBy", "(II)I"⟩
abbrev cX8_warmsBy : ByteArray := prog_10_method_71_code
def yX8_warmsBy : MethodName := ⟨RX8, "warmsBy", "(II)I"⟩
abbrev cX8_growsBy : ByteArray := prog_10_method_72_code
def yX8_growsBy : MethodName := ⟨RX8, "growsBy", "(II)I"⟩
abbrev cX8_tellsBy : ByteArray := prog_10_method_73_code
def yX8_tellsBy : MethodName := ⟨RX8, "tellsBy", "(II)I"⟩
abbrev cX8_voice : ByteArray := prog_10_method_74_code
def yX8_voice : MethodName := ⟨RX8, "voice", "(III)I"⟩
abbrev cX8_trace : ByteArray := prog_10_method_75_code
def yX8_trace : MethodName := ⟨RX8, "trace", "(I)I"⟩
abbrev cX8_isSheet : ByteArray := prog_10_method_76_code
def yX8_isSheet : MethodName := ⟨RX8, "isSheet", "(I)Z"⟩
abbrev cX8_sheet : ByteArray := prog_10_method_77_code
def yX8_sheet : MethodName := ⟨RX8, "sheet", "(III)I"⟩
abbrev cX8_put : ByteArray := prog_10_method_78_code
def yX8_put : MethodName := ⟨RX8, "put", "(III)I"⟩
abbrev cX8_move : ByteArray := prog_10_method_79_code
def yX8_move : MethodName := ⟨RX8, "move", "(IIIII)I"⟩
abbrev cX8_uses : ByteArray := prog_10_method_80_code
def yX8_uses : MethodName := ⟨RX8, "uses", "(I)I"⟩
abbrev cX8_judge : ByteArray := prog_10_method_81_code
def yX8_judge : MethodName := ⟨RX8, "judge", "(I)I"⟩
abbrev cX8_image : ByteArray := prog_10_method_82_code
def yX8_image : MethodName := ⟨RX8, "image", "()I"⟩
abbrev cX8_restore : ByteArray := prog_10_method_83_code
def yX8_restore : MethodName := ⟨RX8, "restore", "()I"⟩
abbrev cX8_tell : ByteArray := prog_10_method_84_code
def yX8_tell : MethodName := ⟨RX8, "tell", "(I)I"⟩
abbrev cX8_check : ByteArray := prog_10_method_85_code
def yX8_check : MethodName := ⟨RX8, "check", "()I"⟩
abbrev cX8_count : ByteArray := prog_10_method_86_code
def yX8_count : MethodName := ⟨RX8, "count", "(I)I"⟩
abbrev cX8_told : ByteArray := prog_10_method_87_code
def yX8_told : MethodName := ⟨RX8, "told", "(I)I"⟩
def RJ6 : String := "java/lang/Integer"
abbrev cJ6_bitCount_0f7a4 : ByteArray := prog_11_method_49_code
def yJ6_bitCount_0f7a4 : MethodName := ⟨RJ6, "bitCount", "(I)I"⟩
def RJ9 : String := "java/lang/Math"
abbrev cJ9_max_7cf53 : ByteArray := prog_12_method_65_code
def yJ9_max_7cf53 : MethodName := ⟨RJ9, "max", "(II)I"⟩
abbrev cJ9_min_7cf53 : ByteArray := prog_12_method_69_code
def yJ9_min_7cf53 : MethodName := ⟨RJ9, "min", "(II)I"⟩
def RJ10 : String := "java/lang/System"
def RJ7 : String := "java/util/Arrays"
abbrev cJ7_fill_53178 : ByteArray := prog_14_method_103_code
def yJ7_fill_53178 : MethodName := ⟨RJ7, "fill", "([II)V"⟩
def RL : String := "PotHandlesLaw"
abbrev cL_law : ByteArray := code
def yL_law : MethodName := ⟨RL, "law", "([I)Z"⟩
abbrev vwCl : List vw_C := [(RX0, TX0, 5), (RX1, TX1, 8), (RX2, TX2, 3), (RX3, TX3, 8), (RX4, TX4, 4), (RX5, TX5, 3), (RX6, TX6, 5), (RX7, TX7, 10), (RX8, TX8, 22)]
end
section
/-! THE WORLD: the cells of both systems, by families; a memory is a pair of number tables (class, reference): family, member, slot.
Families 0 .. 7: objects of class number f of vwCl; 8 .. 18: arrays of the class's objects; 19: the reference's object; 20 .. 31: its arrays. -/
abbrev AV : Type := Int32 ⊕ (Int64 ⊕ (Nat × Nat))
abbrev Mem : Type := Nat → Nat → Nat → Int32
abbrev MM : Type := Mem × Mem
def up3 (M : Mem) (f i k : Nat) (v : Int32) : Mem := fun f' i' k' => if f' = f ∧ k' = k ∧ i' = i then v else M f' i' k'
def cp3 (M : Mem) (f i sp g j dp n : Nat) : Mem := fun f' i' k' => if f' = g ∧ i' = j ∧ dp ≤ k' ∧ k' < dp + n then M f i (sp + (k' - dp)) else M f' i' k'
def rdM (M : MM) (f i k : Nat) : Int32 := if f < 19 then M.1 f i k else M.2 f i k
def wrM (M : MM) (f i k : Nat) (v : Int32) : MM := if f < 19 then (up3 M.1 f i k v, M.2) else (M.1, up3 M.2 f i k v)
def nbB (x : Int32) : Int32 := x.toInt8.toInt32
def nbZ (x : Int32) : Int32 := if x = 0 then 0 else 1
/-- how many members a family has -/
def fCnt (f : Nat) : Nat := ([2, 3, 7, 30, 1, 4, 1, 1, 2, 2, 3, 3, 3, 7, 7, 4, 1, 1, 1, 1, 1, 1, 1, 1, 1, 1, 1, 1, 1, 1, 1, 1] : List Nat).getD f 0
def fOff (f : Nat) : Nat := ([0, 2, 5, 12, 42, 43, 47, 48, 49, 51, 53, 56, 59, 62, 69, 76, 80, 81, 82, 83, 84, 85, 86, 87, 88, 89, 90, 91, 92, 93, 94, 95] : List Nat).getD f 0
/-- its class number in vwCl (9: it is of arrays) -/
def fCls (f : Nat) : Nat := ([0, 1, 2, 3, 4, 5, 6, 7, 9, 9, 9, 9, 9, 9, 9, 9, 9, 9, 9, 8, 9, 9, 9, 9, 9, 9, 9, 9, 9, 9, 9, 9] : List Nat).getD f 9
/-- what its arrays hold: 0 ints, 1 bytes, 2 POTS, 3 SHEETS -/
def fElt (f : Nat) : Nat := ([0, 0, 0, 0, 0, 0, 0, 0, 1, 0, 0, 0, 2, 0, 0, 0, 0, 3, 0, 0, 0, 0, 0, 0, 0, 0, 0, 0, 0, 0, 0, 0] : List Nat).getD f 0
def fLen (f : Nat) : Nat := ([0, 0, 0, 0, 0, 0, 0, 0, 50, 20, 5, 5, 10, 50, 50, 40, 40, 4, 6, 0, 268, 268, 96, 6, 3, 60, 60, 40, 4, 4, 160, 40] : List Nat).getD f 0
/-- fields of a class -/
def fNum (c : Nat) : Nat := ([5, 8, 3, 8, 4, 3, 5, 10, 22] : List Nat).getD c 0
/-- fields that are references: where they lead -/
def fRef (f k : Nat) : Option (Nat → Nat × Nat) := (([
  [some fun i => (8, i), some fun i => (9, i)],
  [some fun i => (10, i), some fun i => (11, i), some fun i => (12, i), some fun i => (2, 2 * i), some fun i => (2, 2 * i + 1)],
  [some fun i => (13, i), some fun i => (14, i)],
  [],
  [some fun _ => (2, 6), some fun _ => (0, 0)],
  [some fun i => (15, i)],
  [some fun i => (16, i)],
  [some fun _ => (1, 0), some fun _ => (1, 1), some fun _ => (1, 2), some fun _ => (0, 0), some fun _ => (0, 1), some fun _ => (4, 0), some fun _ => (6, 0), some fun _ => (17, 0), some fun _ => (18, 0)],
  [], [], [], [], [], [], [], [], [], [], [],
  [some fun _ => (20, 0), some fun _ => (21, 0), some fun _ => (22, 0), none, some fun _ => (23, 0), none, none, none, none, none, none, some fun _ => (24, 0), some fun _ => (25, 0), none, some fun _ => (26, 0), some fun _ => (27, 0), none, none, some fun _ => (28, 0), some fun _ => (29, 0), some fun _ => (30, 0), some fun _ => (31, 0)]
  ] : List (List (Option (Nat → Nat × Nat)))).getD f []).getD k none
/-- is a field a truth value -/
def fZ (f k : Nat) : Bool := (f == 3 && k == 7) || (f == 19 && k == 10)
def cv (ad : Nat → Nat → Nat) (v : AV) : Value := match v with
  | .inl x => .int x
  | .inr (.inl y) => .long y
  | .inr (.inr q) => .ref (ad q.1 q.2)
/-- what a field holds -/
def fldV (f i k : Nat) (M : MM) : AV := match fRef f k with
  | some g => .inr (.inr (g i))
  | none => .inl (if fZ f k then nbZ (rdM M f i k) else rdM M f i k)
def arrF (ad : Nat → Nat → Nat) (M : MM) (f i : Nat) : (Nat → Int32) ⊕ (Nat → Int64) ⊕ (Nat → UInt32) ⊕ (Nat → UInt64) ⊕ (Nat → Option Nat) := match fElt f with
  | 0 => .inl (fun j => rdM M f i j)
  | 1 => .inl (fun j => nbB (rdM M f i j))
  | 2 => .inr (.inr (.inr (.inr (fun j => some (ad 3 (10 * i + j))))))
  | _ => .inr (.inr (.inr (.inr (fun j => some (ad 5 j)))))
def cellE (ad : Nat → Nat → Nat) (cA : Nat → ClassId) (M : MM) (f i : Nat) : va_E :=
  if fCls f < 9 then .inr (fCls f, (List.range (fNum (fCls f))).map (fun k => cv ad (fldV f i k M)))
  else .inl (cA (fElt f), fLen f, arrF ad M f i)
def allC : List (Nat × Nat) := (List.range 32).flatMap (fun f => (List.range (fCnt f)).map (fun i => (f, i)))
def world (ad : Nat → Nat → Nat) (cA : Nat → ClassId) (M : MM) : va_W := allC.map (fun q => (ad q.1 q.2, cellE ad cA M q.1 q.2))
def tysA (cA : Nat → ClassId) : List (ClassId × FieldType) := [(cA 0, .int), (cA 1, .byte), (cA 2, .object "PotHandles$Pot"), (cA 3, .object "PotHandles$Sheet")]
set_option maxRecDepth 100000 in
theorem allC_at : ∀ f, f < 32 → ∀ i, i < fCnt f → allC[fOff f + i]? = some (f, i) := by decide +kernel
set_option maxRecDepth 100000 in
theorem allC_in : ∀ k, k < 96 → (allC[k]?).all (fun q => decide (q.1 < 32) && decide (q.2 < fCnt q.1) && decide (fOff q.1 + q.2 = k)) = true := by decide +kernel
set_option maxRecDepth 100000 in
theorem allC_len : allC.length = 96 := by decide +kernel
theorem world_at {ad : Nat → Nat → Nat} {cA : Nat → ClassId} {M : MM} {f i : Nat} (hf : f < 32) (hi : i < fCnt f) : (world ad cA M)[fOff f + i]? = some (ad f i, cellE ad cA M f i) := by
  unfold world
  rw [List.getElem?_map, allC_at f hf i hi]
  rfl
theorem allC_inv {k f i : Nat} (h : allC[k]? = some (f, i)) : f < 32 ∧ i < fCnt f ∧ fOff f + i = k := by
  have hk : k < 96 := by
    rw [← allC_len]
    exact (List.getElem?_eq_some_iff.mp h).1
  have h1 := allC_in k hk
  rw [h] at h1
  simp only [Option.all_some, Bool.and_eq_true, decide_eq_true_eq] at h1
  exact ⟨h1.1.1, h1.1.2, h1.2⟩
theorem rd_wr_ne {M : MM} {f i k f' i' j : Nat} {v : Int32} (h : ¬ (f' = f ∧ i' = i)) : rdM (wrM M f i k v) f' i' j = rdM M f' i' j := by
  have h2 : ¬ (f' = f ∧ j = k ∧ i' = i) := fun e => h ⟨e.1, e.2.2⟩
  unfold rdM wrM
  by_cases h1 : f < 19 <;> by_cases h3 : f' < 19 <;> simp [h1, h3, up3, h2]
theorem rd_wr_eq {M : MM} {f i k j : Nat} {v : Int32} : rdM (wrM M f i k v) f i j = if j = k then v else rdM M f i j := by
  unfold rdM wrM
  by_cases h1 : f < 19 <;> by_cases h3 : j = k <;> simp [h1, h3, up3]
theorem cellE_congr {ad : Nat → Nat → Nat} {cA : Nat → ClassId} {M M' : MM} {f i : Nat} (h : ∀ j, rdM M' f i j = rdM M f i j) : cellE ad cA M' f i = cellE ad cA M f i := by
  have h1 : ∀ k, fldV f i k M' = fldV f i k M := fun k => by unfold fldV; rw [h]
  have h2 : arrF ad M' f i = arrF ad M f i := by unfold arrF; simp only [h]
  unfold cellE
  simp only [h1, h2]
theorem list_set_map {C : List (Nat × Nat)} {E E' : Nat × Nat → Nat × va_E} {n0 : Nat} {q0 : Nat × Nat} (h0 : C[n0]? = some q0) (hu : ∀ k, C[k]? = some q0 → n0 = k) (h : ∀ q, q ≠ q0 → E' q = E q) : (C.map E).set n0 (E' q0) = C.map E' := by
  apply List.ext_getElem?
  intro n
  rw [List.getElem?_set, List.getElem?_map, List.getElem?_map, List.length_map]
  have hlt : n0 < C.length := (List.getElem?_eq_some_iff.mp h0).1
  by_cases hn : n0 = n
  · subst hn
    rw [if_pos rfl, if_pos hlt, h0]
    rfl
  · rw [if_neg hn]
    cases hq : C[n]? with
    | none => rfl
    | some q =>
      have hne : q ≠ q0 := by
        intro e
        rw [e] at hq
        exact hn (hu n hq)
      show some (E q) = some (E' q)
      rw [h q hne]
theorem world_set {ad : Nat → Nat → Nat} {cA : Nat → ClassId} {M M' : MM} {f i : Nat} (hf : f < 32) (hi : i < fCnt f) (h : ∀ f' i', ¬ (f' = f ∧ i' = i) → ∀ j, rdM M' f' i' j = rdM M f' i' j) : (world ad cA M).set (fOff f + i) (ad f i, cellE ad cA M' f i) = world ad cA M' := by
  refine list_set_map (C := allC) (E := fun q => (ad q.1 q.2, cellE ad cA M q.1 q.2)) (E' := fun q => (ad q.1 q.2, cellE ad cA M' q.1 q.2)) (n0 := fOff f + i) (q0 := (f, i)) (allC_at f hf i hi) (fun k hk => (allC_inv hk).2.2) (fun q hq => ?_)
  obtain ⟨f', i'⟩ := q
  have hne : ¬ (f' = f ∧ i' = i) := by
    rintro ⟨rfl, rfl⟩
    exact hq rfl
  show (ad f' i', cellE ad cA M' f' i') = (ad f' i', cellE ad cA M f' i')
  rw [cellE_congr (h f' i' hne)]
theorem map_keys {C : List (Nat × Nat)} {E E' : Nat × Nat → Nat × va_E} (h : ∀ q, (E' q).1 = (E q).1) {k : Nat} {q : Nat × va_E} (hq : (C.map E')[k]? = some q) : ∃ q2 : Nat × va_E, (C.map E)[k]? = some q2 ∧ q2.1 = q.1 := by
  rw [List.getElem?_map] at hq ⊢
  cases h1 : C[k]? with
  | none => rw [h1] at hq; cases hq
  | some z =>
    rw [h1] at hq
    cases hq
    exact ⟨_, rfl, (h z).symm⟩
theorem va_D_world {ad : Nat → Nat → Nat} {cA : Nat → ClassId} {A : Nat → Prop} {M M' : MM} (h : va_D A (world ad cA M)) : va_D A (world ad cA M') := by
  have e : ∀ (k : Nat) (q : Nat × va_E), (world ad cA M' : List (Nat × va_E))[k]? = some q → ∃ q2 : Nat × va_E, (world ad cA M : List (Nat × va_E))[k]? = some q2 ∧ q2.1 = q.1 :=
    fun k q hq => map_keys (C := allC) (E := fun q => (ad q.1 q.2, cellE ad cA M q.1 q.2)) (E' := fun q => (ad q.1 q.2, cellE ad cA M' q.1 q.2)) (fun _ => rfl) hq
  refine ⟨fun i j p q hp hq hpq => ?_, fun k q hq => ?_⟩
  · obtain ⟨p2, g1, g2⟩ := e i p hp
    obtain ⟨q2, g3, g4⟩ := e j q hq
    exact h.1 i j p2 q2 g1 g3 (by rw [g2, g4, hpq])
  · obtain ⟨q2, g3, g4⟩ := e k q hq
    rw [← g4]
    exact h.2 k q2 g3
end
section
def nestL : List Cond := [.methodLinkNest RX1 88 ⟨"PotHandles", "isHouse", "(I)Z"⟩ "PotHandles", .methodLinkNest RX6 48 ⟨"PotHandles", "kindAbove", "(I)I"⟩ "PotHandles"]
def TB : List Cond := lw_tbl.filter goodWord
/-- a method: its class, its name, its bytes, its locals, what it returns -/
abbrev MT : Type := String × MethodName × ByteArray × Nat × Option FieldType
def wsM (t : MT) : List Cond := Cond.code t.2.1 t.2.2.1 t.2.2.2.1 t.2.2.2.2 :: TB
def roomD (d : Nat) : Room := { frames := d, cells := 0, slots := 0, locals := 64 * d }
def CtxG (t : MT) (d : Nat) (p : Program) (R : Room) (s : State) (m : MethodId) (args : Array Value) (c : Code) (cells slots : Nat) (A : Nat → Prop) (H0 : Heap) (ad : Nat → Nat → Nat) (cA : Nat → ClassId) (D : va_G) : Prop :=
  p.tables.exec = Jvm.exec ∧ c.code = t.2.2.1 ∧ c.maxLocals = t.2.2.2.1 ∧ s.vm.findClass t.1 = some m.cls ∧ (∀ w ∈ TB, w.before args s = true) ∧ (∀ w ∈ nestL, va_Nw w s) ∧ va_K D vwCl (tysA cA) s ∧ d ≤ R.frames ∧ 64 * d ≤ R.locals ∧ cells ≤ R.cells ∧ slots ≤ R.slots ∧ (∀ q : Nat, H0.size ≤ q → A q) ∧ (∀ M, va_D A (world ad cA M))
def retI (r : Option AV) : Instr := match r with
  | none => .return_
  | some (.inl _) => .ireturn
  | some (.inr (.inl _)) => .lreturn
  | some (.inr (.inr _)) => .areturn
def retOK (ret : Option FieldType) (r : Option AV) : Prop := match ret, r with
  | none, none => True
  | some .int, some (.inl _) => True
  | some .boolean, some (.inl v) => v = 0 ∨ v = 1
  | some (.object _), some (.inr (.inr _)) => True
  | _, _ => False
def FinG (t : MT) (p : Program) (l : Launch) (e : Env) (R : Room) (s : State) (m : MethodId) (args : Array Value) (below : List Frame) (meth : Method) (c : Code) (cells slots : Nat) (A : Nat → Prop) (H0 : Heap) (ad : Nat → Nat → Nat) (cA : Nat → ClassId) (D : va_G) (Q : State → Prop) (r : Option AV) (M' : MM) : Prop :=
  ∀ (H : Heap) (locs : List Loc) (ls : Array Slot) (pc : Nat), va_P D vwCl (world ad cA M') H → va_S A H0 H locs → decode t.2.2.1 pc = .ok (retI r, 1) → retOK t.2.2.2.2 r →
    W p l e R s m args below meth c H locs cells slots Q (F0 m pc ls (r.toList.map (cv ad)))
/-- at a place of a method, with these locals, this stack, this memory: it comes to its end, with this answer and this memory -/
def G (t : MT) (d : Nat) (r : Option AV) (M' : MM) (pc : Nat) (L : List (Nat × AV)) (st : List AV) (M : MM) : Prop :=
  ∀ (p : Program) (l : Launch) (e : Env) (R : Room) (s : State) (m : MethodId) (args : Array Value) (below : List Frame) (meth : Method) (c : Code) (cells slots : Nat) (A : Nat → Prop) (H0 : Heap) (ad : Nat → Nat → Nat) (cA : Nat → ClassId) (D : va_G) (Q : State → Prop),
    CtxG t d p R s m args c cells slots A H0 ad cA D → FinG t p l e R s m args below meth c cells slots A H0 ad cA D Q r M' →
    ∀ (H : Heap) (locs : List Loc) (ls : Array Slot), lv_has ls t.2.2.2.1 (L.map fun q => (q.1, cv ad q.2)) → va_P D vwCl (world ad cA M) H → va_S A H0 H locs →
      W p l e R s m args below meth c H locs cells slots Q (F0 m pc ls (st.map (cv ad)))
def av2 (v : AV) : Bool := match v with
  | .inr (.inl _) => true
  | _ => false
def lset (i : Nat) (v : AV) (L : List (Nat × AV)) : List (Nat × AV) := (i, v) :: L.filter (fun q => !(q.1 == i) && !(q.1 + 1 == i && av2 q.2))
theorem lget {ad : Nat → Nat → Nat} {ls : Array Slot} {n : Nat} {L : List (Nat × AV)} (h : lv_has ls n (L.map fun q => (q.1, cv ad q.2))) {i : Nat} {v : AV} (hv : L.lookup i = some v) : ls[i]? = some (.val (cv ad v)) := by
  have hm : (i, v) ∈ L := by
    induction L with
    | nil => simp at hv
    | cons a L ih =>
      obtain ⟨j, w⟩ := a
      rw [List.lookup_cons] at hv
      by_cases hij : (i == j) = true
      · rw [hij] at hv
        simp only [Option.some.injEq] at hv
        have := eq_of_beq hij
        subst this; subst hv
        exact List.mem_cons_self
      · rw [Bool.not_eq_true] at hij
        rw [hij] at hv
        refine List.mem_cons_of_mem _ (ih ⟨h.1, h.2.1, fun q hq => h.2.2 q ?_⟩ hv)
        exact List.mem_cons_of_mem _ hq
  exact h.2.2 (i, cv ad v) (List.mem_map.mpr ⟨(i, v), hm, rfl⟩)
theorem av2_cat {ad : Nat → Nat → Nat} (v : AV) : ((cv ad v).category == 2) = av2 v := by
  rcases v with x | y | q <;> rfl
theorem lset_map {ad : Nat → Nat → Nat} (i : Nat) (v : AV) (L : List (Nat × AV)) : (i, cv ad v) :: (L.map fun q => (q.1, cv ad q.2)).filter (fun q => !(q.1 == i) && !(q.1 + 1 == i && q.2.category == 2)) = (lset i v L).map (fun q => (q.1, cv ad q.2)) := by
  unfold lset
  rw [List.map_cons, List.filter_map]
  congr 2
  apply List.filter_congr
  intro q _
  show (!(q.1 == i) && !(q.1 + 1 == i && ((cv ad q.2).category == 2))) = _
  rw [av2_cat]
/-- fewer locals, or in another order -/
theorem G_sub {t : MT} {d : Nat} {r : Option AV} {M' : MM} {pc : Nat} {L : List (Nat × AV)} {st : List AV} {M : MM} (L2 : List (Nat × AV)) (ks : List Nat) (h : ks.filterMap (fun k => L[k]?) = L2) (k : G t d r M' pc L2 st M) : G t d r M' pc L st M := by
  intro p l e R s m args below meth c cells slots A H0 ad cA D Q C F H locs ls hl hP hS
  refine k p l e R s m args below meth c cells slots A H0 ad cA D Q C F H locs ls (lv_sub hl ks ?_) hP hS
  subst h
  unfold lv_pick
  rw [List.map_filterMap]
  congr 1
  funext j
  rw [List.getElem?_map]
section ONE
variable {t : MT} {d : Nat} {r : Option AV} {M' : MM} {pc : Nat} {L L2 : List (Nat × AV)} {st : List AV} {M : MM}
theorem G_iconst {n : Int} {v : Int32} (hdg : decode t.2.2.1 pc = .ok (.iconst n, 1)) (hv : Int32.ofInt n = v) (k : G t d r M' (pc + 1) L (.inl v :: st) M) : G t d r M' pc L st M := by
  intro p l e R s m args below meth c cells slots A H0 ad cA D Q C F H locs ls hl hP hS
  exact lv_iconst C.1 C.2.1 hdg hv (k p l e R s m args below meth c cells slots A H0 ad cA D Q C F H locs ls hl hP hS)
theorem G_bipush {n : Int} {v : Int32} (hdg : decode t.2.2.1 pc = .ok (.bipush n, 2)) (hv : (Int8.ofInt n).toInt32 = v) (k : G t d r M' (pc + 2) L (.inl v :: st) M) : G t d r M' pc L st M := by
  intro p l e R s m args below meth c cells slots A H0 ad cA D Q C F H locs ls hl hP hS
  exact lv_bipush C.1 C.2.1 hdg hv (k p l e R s m args below meth c cells slots A H0 ad cA D Q C F H locs ls hl hP hS)
theorem G_sipush {n : Int} {v : Int32} (hdg : decode t.2.2.1 pc = .ok (.sipush n, 3)) (hv : (Int16.ofInt n).toInt32 = v) (k : G t d r M' (pc + 3) L (.inl v :: st) M) : G t d r M' pc L st M := by
  intro p l e R s m args below meth c cells slots A H0 ad cA D Q C F H locs ls hl hP hS
  exact lv_sipush C.1 C.2.1 hdg hv (k p l e R s m args below meth c cells slots A H0 ad cA D Q C F H locs ls hl hP hS)
theorem G_lconst {n : Fin 2} {v : Int64} (hdg : decode t.2.2.1 pc = .ok (.lconst n, 1)) (hv : Int64.ofNat (n : Nat) = v) (k : G t d r M' (pc + 1) L (.inr (.inl v) :: st) M) : G t d r M' pc L st M := by
  intro p l e R s m args below meth c cells slots A H0 ad cA D Q C F H locs ls hl hP hS
  exact lv_lconst C.1 C.2.1 hdg hv (k p l e R s m args below meth c cells slots A H0 ad cA D Q C F H locs ls hl hP hS)
theorem G_ldc {i : Nat} {v : Int32} (hw : Cond.constant t.1 i v ∈ TB) (hdg : decode t.2.2.1 pc = .ok (.ldc i, 2)) (k : G t d r M' (pc + 2) L (.inl v :: st) M) : G t d r M' pc L st M := by
  intro p l e R s m args below meth c cells slots A H0 ad cA D Q C F H locs ls hl hP hS
  exact lv_ldc C.1 C.2.1 C.2.2.2.1 (C.2.2.2.2.1 _ hw) hdg (k p l e R s m args below meth c cells slots A H0 ad cA D Q C F H locs ls hl hP hS)
theorem G_ldcw {i : Nat} {v : Int32} (hw : Cond.constant t.1 i v ∈ TB) (hdg : decode t.2.2.1 pc = .ok (.ldc_w i, 3)) (k : G t d r M' (pc + 3) L (.inl v :: st) M) : G t d r M' pc L st M := by
  intro p l e R s m args below meth c cells slots A H0 ad cA D Q C F H locs ls hl hP hS
  exact lv_ldcw C.1 C.2.1 C.2.2.2.1 (C.2.2.2.2.1 _ hw) hdg (k p l e R s m args below meth c cells slots A H0 ad cA D Q C F H locs ls hl hP hS)
theorem G_ldc2 {i : Nat} {v : Int64} (hw : Cond.constantLong t.1 i v ∈ TB) (hdg : decode t.2.2.1 pc = .ok (.ldc2_w i, 3)) (k : G t d r M' (pc + 3) L (.inr (.inl v) :: st) M) : G t d r M' pc L st M := by
  intro p l e R s m args below meth c cells slots A H0 ad cA D Q C F H locs ls hl hP hS
  exact lv_ldc2 C.1 C.2.1 C.2.2.2.1 (C.2.2.2.2.1 _ hw) hdg (k p l e R s m args below meth c cells slots A H0 ad cA D Q C F H locs ls hl hP hS)
theorem G_iload_n {k0 : Fin 4} {x : Int32} (hdg : decode t.2.2.1 pc = .ok (.iload_n k0, 1)) (hx : L.lookup (k0 : Nat) = some (.inl x)) (k : G t d r M' (pc + 1) L (.inl x :: st) M) : G t d r M' pc L st M := by
  intro p l e R s m args below meth c cells slots A H0 ad cA D Q C F H locs ls hl hP hS
  exact lv_iload_n C.1 C.2.1 hdg rfl (lget hl hx) (k p l e R s m args below meth c cells slots A H0 ad cA D Q C F H locs ls hl hP hS)
theorem G_iload {i : Nat} {x : Int32} (hdg : decode t.2.2.1 pc = .ok (.iload i, 2)) (hx : L.lookup i = some (.inl x)) (k : G t d r M' (pc + 2) L (.inl x :: st) M) : G t d r M' pc L st M := by
  intro p l e R s m args below meth c cells slots A H0 ad cA D Q C F H locs ls hl hP hS
  exact lv_iload C.1 C.2.1 hdg (lget hl hx) (k p l e R s m args below meth c cells slots A H0 ad cA D Q C F H locs ls hl hP hS)
theorem G_lload_n {k0 : Fin 4} {x : Int64} (hdg : decode t.2.2.1 pc = .ok (.lload_n k0, 1)) (hx : L.lookup (k0 : Nat) = some (.inr (.inl x))) (k : G t d r M' (pc + 1) L (.inr (.inl x) :: st) M) : G t d r M' pc L st M := by
  intro p l e R s m args below meth c cells slots A H0 ad cA D Q C F H locs ls hl hP hS
  exact lv_lload_n C.1 C.2.1 hdg rfl (lget hl hx) (k p l e R s m args below meth c cells slots A H0 ad cA D Q C F H locs ls hl hP hS)
theorem G_lload {i : Nat} {x : Int64} (hdg : decode t.2.2.1 pc = .ok (.lload i, 2)) (hx : L.lookup i = some (.inr (.inl x))) (k : G t d r M' (pc + 2) L (.inr (.inl x) :: st) M) : G t d r M' pc L st M := by
  intro p l e R s m args below meth c cells slots A H0 ad cA D Q C F H locs ls hl hP hS
  exact lv_lload C.1 C.2.1 hdg (lget hl hx) (k p l e R s m args below meth c cells slots A H0 ad cA D Q C F H locs ls hl hP hS)
theorem G_aload_n {k0 : Fin 4} {q : Nat × Nat} (hdg : decode t.2.2.1 pc = .ok (.aload_n k0, 1)) (hx : L.lookup (k0 : Nat) = some (.inr (.inr q))) (k : G t d r M' (pc + 1) L (.inr (.inr q) :: st) M) : G t d r M' pc L st M := by
  intro p l e R s m args below meth c cells slots A H0 ad cA D Q C F H locs ls hl hP hS
  exact lv_aload_n C.1 C.2.1 hdg rfl (lget hl hx) (k p l e R s m args below meth c cells slots A H0 ad cA D Q C F H locs ls hl hP hS)
theorem G_aload {i : Nat} {q : Nat × Nat} (hdg : decode t.2.2.1 pc = .ok (.aload i, 2)) (hx : L.lookup i = some (.inr (.inr q))) (k : G t d r M' (pc + 2) L (.inr (.inr q) :: st) M) : G t d r M' pc L st M := by
  intro p l e R s m args below meth c cells slots A H0 ad cA D Q C F H locs ls hl hP hS
  exact lv_aload C.1 C.2.1 hdg (lget hl hx) (k p l e R s m args below meth c cells slots A H0 ad cA D Q C F H locs ls hl hP hS)
theorem G_istore_n {k0 : Fin 4} {x : Int32} (hdg : decode t.2.2.1 pc = .ok (.istore_n k0, 1)) (hn : (k0 : Nat) < t.2.2.2.1) (hL : lset (k0 : Nat) (.inl x) L = L2) (k : G t d r M' (pc + 1) L2 st M) : G t d r M' pc L (.inl x :: st) M := by
  intro p l e R s m args below meth c cells slots A H0 ad cA D Q C F H locs ls hl hP hS
  subst hL
  exact lv_istore_n C.1 C.2.1 hdg rfl hl hn (lset_map (ad := ad) _ (.inl x) L) (fun ls hl => k p l e R s m args below meth c cells slots A H0 ad cA D Q C F H locs ls hl hP hS)
theorem G_istore {i : Nat} {x : Int32} (hdg : decode t.2.2.1 pc = .ok (.istore i, 2)) (hn : i < t.2.2.2.1) (hL : lset i (.inl x) L = L2) (k : G t d r M' (pc + 2) L2 st M) : G t d r M' pc L (.inl x :: st) M := by
  intro p l e R s m args below meth c cells slots A H0 ad cA D Q C F H locs ls hl hP hS
  subst hL
  exact lv_istore C.1 C.2.1 hdg hl hn (lset_map (ad := ad) _ (.inl x) L) (fun ls hl => k p l e R s m args below meth c cells slots A H0 ad cA D Q C F H locs ls hl hP hS)
theorem G_astore_n {k0 : Fin 4} {q : Nat × Nat} (hdg : decode t.2.2.1 pc = .ok (.astore_n k0, 1)) (hn : (k0 : Nat) < t.2.2.2.1) (hL : lset (k0 : Nat) (.inr (.inr q)) L = L2) (k : G t d r M' (pc + 1) L2 st M) : G t d r M' pc L (.inr (.inr q) :: st) M := by
  intro p l e R s m args below meth c cells slots A H0 ad cA D Q C F H locs ls hl hP hS
  subst hL
  exact lv_astore_n C.1 C.2.1 hdg rfl hl hn (lset_map (ad := ad) _ (.inr (.inr q)) L) (fun ls hl => k p l e R s m args below meth c cells slots A H0 ad cA D Q C F H locs ls hl hP hS)
theorem G_astore {i : Nat} {q : Nat × Nat} (hdg : decode t.2.2.1 pc = .ok (.astore i, 2)) (hn : i < t.2.2.2.1) (hL : lset i (.inr (.inr q)) L = L2) (k : G t d r M' (pc + 2) L2 st M) : G t d r M' pc L (.inr (.inr q) :: st) M := by
  intro p l e R s m args below meth c cells slots A H0 ad cA D Q C F H locs ls hl hP hS
  subst hL
  exact lv_astore C.1 C.2.1 hdg hl hn (lset_map (ad := ad) _ (.inr (.inr q)) L) (fun ls hl => k p l e R s m args below meth c cells slots A H0 ad cA D Q C F H locs ls hl hP hS)
theorem G_iinc {i : Nat} {n : Int} {x v : Int32} (hdg : decode t.2.2.1 pc = .ok (.iinc i n, 3)) (hx : L.lookup i = some (.inl x)) (hv : x + Int32.ofInt n = v) (hn : i < t.2.2.2.1) (hL : lset i (.inl v) L = L2) (k : G t d r M' (pc + 3) L2 st M) : G t d r M' pc L st M := by
  intro p l e R s m args below meth c cells slots A H0 ad cA D Q C F H locs ls hl hP hS
  subst hL
  have hm : ∃ j : Nat, L[j]? = some (i, (Sum.inl x : AV)) := by
    have h1 := hx
    clear k hl
    induction L with
    | nil => simp at h1
    | cons a L ih =>
      obtain ⟨j, w⟩ := a
      rw [List.lookup_cons] at h1
      by_cases hij : (i == j) = true
      · rw [hij] at h1
        simp only [Option.some.injEq] at h1
        have := eq_of_beq hij
        subst this; subst h1
        exact ⟨0, rfl⟩
      · rw [Bool.not_eq_true] at hij
        rw [hij] at h1
        obtain ⟨j2, h2⟩ := ih h1 h1
        exact ⟨j2 + 1, h2⟩
  obtain ⟨j, hj⟩ := hm
  exact lv_iinc C.1 C.2.1 hdg hl (k := j) (by rw [List.getElem?_map, hj]; rfl) hv hn (lset_map (ad := ad) _ (.inl v) L) (fun ls hl => k p l e R s m args below meth c cells slots A H0 ad cA D Q C F H locs ls hl hP hS)
theorem av1_cat {ad : Nat → Nat → Nat} {v : AV} (h : av2 v = false) : (cv ad v).category = 1 := by
  rcases v with x | y | q
  · rfl
  · cases h
  · rfl
def jrem (x y : Int32) : Int32 := x - x / y * y
theorem G_iadd {x y : Int32} (hdg : decode t.2.2.1 pc = .ok (.iadd, 1)) (k : G t d r M' (pc + 1) L (.inl (x + y) :: st) M) : G t d r M' pc L (.inl y :: .inl x :: st) M := by
  intro p l e R s m args below meth c cells slots A H0 ad cA D Q C F H locs ls hl hP hS
  exact lv_iadd C.1 C.2.1 hdg (k p l e R s m args below meth c cells slots A H0 ad cA D Q C F H locs ls hl hP hS)
theorem G_isub {x y : Int32} (hdg : decode t.2.2.1 pc = .ok (.isub, 1)) (k : G t d r M' (pc + 1) L (.inl (x - y) :: st) M) : G t d r M' pc L (.inl y :: .inl x :: st) M := by
  intro p l e R s m args below meth c cells slots A H0 ad cA D Q C F H locs ls hl hP hS
  exact lv_isub C.1 C.2.1 hdg (k p l e R s m args below meth c cells slots A H0 ad cA D Q C F H locs ls hl hP hS)
theorem G_imul {x y : Int32} (hdg : decode t.2.2.1 pc = .ok (.imul, 1)) (k : G t d r M' (pc + 1) L (.inl (x * y) :: st) M) : G t d r M' pc L (.inl y :: .inl x :: st) M := by
  intro p l e R s m args below meth c cells slots A H0 ad cA D Q C F H locs ls hl hP hS
  exact lv_imul C.1 C.2.1 hdg (k p l e R s m args below meth c cells slots A H0 ad cA D Q C F H locs ls hl hP hS)
theorem G_iand {x y : Int32} (hdg : decode t.2.2.1 pc = .ok (.iand, 1)) (k : G t d r M' (pc + 1) L (.inl (x &&& y) :: st) M) : G t d r M' pc L (.inl y :: .inl x :: st) M := by
  intro p l e R s m args below meth c cells slots A H0 ad cA D Q C F H locs ls hl hP hS
  exact lv_iand C.1 C.2.1 hdg (k p l e R s m args below meth c cells slots A H0 ad cA D Q C F H locs ls hl hP hS)
theorem G_ior {x y : Int32} (hdg : decode t.2.2.1 pc = .ok (.ior, 1)) (k : G t d r M' (pc + 1) L (.inl (x ||| y) :: st) M) : G t d r M' pc L (.inl y :: .inl x :: st) M := by
  intro p l e R s m args below meth c cells slots A H0 ad cA D Q C F H locs ls hl hP hS
  exact lv_ior C.1 C.2.1 hdg (k p l e R s m args below meth c cells slots A H0 ad cA D Q C F H locs ls hl hP hS)
theorem G_ixor {x y : Int32} (hdg : decode t.2.2.1 pc = .ok (.ixor, 1)) (k : G t d r M' (pc + 1) L (.inl (x ^^^ y) :: st) M) : G t d r M' pc L (.inl y :: .inl x :: st) M := by
  intro p l e R s m args below meth c cells slots A H0 ad cA D Q C F H locs ls hl hP hS
  exact lv_ixor C.1 C.2.1 hdg (k p l e R s m args below meth c cells slots A H0 ad cA D Q C F H locs ls hl hP hS)
theorem G_ishl {x y : Int32} (hdg : decode t.2.2.1 pc = .ok (.ishl, 1)) (k : G t d r M' (pc + 1) L (.inl (x <<< (y &&& 31)) :: st) M) : G t d r M' pc L (.inl y :: .inl x :: st) M := by
  intro p l e R s m args below meth c cells slots A H0 ad cA D Q C F H locs ls hl hP hS
  exact lv_ishl C.1 C.2.1 hdg (k p l e R s m args below meth c cells slots A H0 ad cA D Q C F H locs ls hl hP hS)
theorem G_ishr {x y : Int32} (hdg : decode t.2.2.1 pc = .ok (.ishr, 1)) (k : G t d r M' (pc + 1) L (.inl (x >>> (y &&& 31)) :: st) M) : G t d r M' pc L (.inl y :: .inl x :: st) M := by
  intro p l e R s m args below meth c cells slots A H0 ad cA D Q C F H locs ls hl hP hS
  exact lv_ishr C.1 C.2.1 hdg (k p l e R s m args below meth c cells slots A H0 ad cA D Q C F H locs ls hl hP hS)
theorem G_idiv {x y : Int32} (hne : ¬ y = 0) (hdg : decode t.2.2.1 pc = .ok (.idiv, 1)) (k : G t d r M' (pc + 1) L (.inl (x / y) :: st) M) : G t d r M' pc L (.inl y :: .inl x :: st) M := by
  intro p l e R s m args below meth c cells slots A H0 ad cA D Q C F H locs ls hl hP hS
  exact lv_idiv C.1 C.2.1 hdg hne (k p l e R s m args below meth c cells slots A H0 ad cA D Q C F H locs ls hl hP hS)
theorem G_irem {x y : Int32} (hne : ¬ y = 0) (hdg : decode t.2.2.1 pc = .ok (.irem, 1)) (k : G t d r M' (pc + 1) L (.inl (jrem x y) :: st) M) : G t d r M' pc L (.inl y :: .inl x :: st) M := by
  intro p l e R s m args below meth c cells slots A H0 ad cA D Q C F H locs ls hl hP hS
  exact lv_irem C.1 C.2.1 hdg hne (k p l e R s m args below meth c cells slots A H0 ad cA D Q C F H locs ls hl hP hS)
def jushr (x y : Int32) : Int32 := (x.toUInt32 >>> (y.toUInt32 &&& Int32.toUInt32 31)).toInt32
def jlushr (x : Int64) (y : Int32) : Int64 := (x.toUInt64 >>> (y.toInt64.toUInt64 &&& Int64.toUInt64 63)).toInt64
theorem G_iushr {x y : Int32} (hdg : decode t.2.2.1 pc = .ok (.iushr, 1)) (k : G t d r M' (pc + 1) L (.inl (jushr x y) :: st) M) : G t d r M' pc L (.inl y :: .inl x :: st) M := by
  intro p l e R s m args below meth c cells slots A H0 ad cA D Q C F H locs ls hl hP hS
  exact lv_iushr C.1 C.2.1 hdg rfl (k p l e R s m args below meth c cells slots A H0 ad cA D Q C F H locs ls hl hP hS)
theorem G_ineg {x : Int32} (hdg : decode t.2.2.1 pc = .ok (.ineg, 1)) (k : G t d r M' (pc + 1) L (.inl (-x) :: st) M) : G t d r M' pc L (.inl x :: st) M := by
  intro p l e R s m args below meth c cells slots A H0 ad cA D Q C F H locs ls hl hP hS
  exact lv_ineg C.1 C.2.1 hdg (k p l e R s m args below meth c cells slots A H0 ad cA D Q C F H locs ls hl hP hS)
theorem G_i2b {x : Int32} (hdg : decode t.2.2.1 pc = .ok (.i2b, 1)) (k : G t d r M' (pc + 1) L (.inl (nbB x) :: st) M) : G t d r M' pc L (.inl x :: st) M := by
  intro p l e R s m args below meth c cells slots A H0 ad cA D Q C F H locs ls hl hP hS
  exact lv_i2b C.1 C.2.1 hdg rfl (k p l e R s m args below meth c cells slots A H0 ad cA D Q C F H locs ls hl hP hS)
theorem G_i2s {x : Int32} (hdg : decode t.2.2.1 pc = .ok (.i2s, 1)) (k : G t d r M' (pc + 1) L (.inl (x.toInt16.toInt32) :: st) M) : G t d r M' pc L (.inl x :: st) M := by
  intro p l e R s m args below meth c cells slots A H0 ad cA D Q C F H locs ls hl hP hS
  exact lv_i2s C.1 C.2.1 hdg rfl (k p l e R s m args below meth c cells slots A H0 ad cA D Q C F H locs ls hl hP hS)
theorem G_i2l {x : Int32} (hdg : decode t.2.2.1 pc = .ok (.i2l, 1)) (k : G t d r M' (pc + 1) L (.inr (.inl (x.toInt64)) :: st) M) : G t d r M' pc L (.inl x :: st) M := by
  intro p l e R s m args below meth c cells slots A H0 ad cA D Q C F H locs ls hl hP hS
  exact lv_i2l C.1 C.2.1 hdg rfl (k p l e R s m args below meth c cells slots A H0 ad cA D Q C F H locs ls hl hP hS)
theorem G_l2i {x : Int64} (hdg : decode t.2.2.1 pc = .ok (.l2i, 1)) (k : G t d r M' (pc + 1) L (.inl (x.toInt32) :: st) M) : G t d r M' pc L (.inr (.inl x) :: st) M := by
  intro p l e R s m args below meth c cells slots A H0 ad cA D Q C F H locs ls hl hP hS
  exact lv_l2i C.1 C.2.1 hdg rfl (k p l e R s m args below meth c cells slots A H0 ad cA D Q C F H locs ls hl hP hS)
theorem G_land {x y : Int64} (hdg : decode t.2.2.1 pc = .ok (.land, 1)) (k : G t d r M' (pc + 1) L (.inr (.inl (x &&& y)) :: st) M) : G t d r M' pc L (.inr (.inl y) :: .inr (.inl x) :: st) M := by
  intro p l e R s m args below meth c cells slots A H0 ad cA D Q C F H locs ls hl hP hS
  exact lv_land C.1 C.2.1 hdg (k p l e R s m args below meth c cells slots A H0 ad cA D Q C F H locs ls hl hP hS)
theorem G_lor {x y : Int64} (hdg : decode t.2.2.1 pc = .ok (.lor, 1)) (k : G t d r M' (pc + 1) L (.inr (.inl (x ||| y)) :: st) M) : G t d r M' pc L (.inr (.inl y) :: .inr (.inl x) :: st) M := by
  intro p l e R s m args below meth c cells slots A H0 ad cA D Q C F H locs ls hl hP hS
  exact lv_lor C.1 C.2.1 hdg (k p l e R s m args below meth c cells slots A H0 ad cA D Q C F H locs ls hl hP hS)
theorem G_lshl {x : Int64} {y : Int32} (hdg : decode t.2.2.1 pc = .ok (.lshl, 1)) (k : G t d r M' (pc + 1) L (.inr (.inl (x <<< (y.toInt64 &&& 63))) :: st) M) : G t d r M' pc L (.inl y :: .inr (.inl x) :: st) M := by
  intro p l e R s m args below meth c cells slots A H0 ad cA D Q C F H locs ls hl hP hS
  exact lv_lshl C.1 C.2.1 hdg rfl (k p l e R s m args below meth c cells slots A H0 ad cA D Q C F H locs ls hl hP hS)
theorem G_lshr {x : Int64} {y : Int32} (hdg : decode t.2.2.1 pc = .ok (.lshr, 1)) (k : G t d r M' (pc + 1) L (.inr (.inl (x >>> (y.toInt64 &&& 63))) :: st) M) : G t d r M' pc L (.inl y :: .inr (.inl x) :: st) M := by
  intro p l e R s m args below meth c cells slots A H0 ad cA D Q C F H locs ls hl hP hS
  exact lv_lshr C.1 C.2.1 hdg rfl (k p l e R s m args below meth c cells slots A H0 ad cA D Q C F H locs ls hl hP hS)
theorem G_lushr {x : Int64} {y : Int32} (hdg : decode t.2.2.1 pc = .ok (.lushr, 1)) (k : G t d r M' (pc + 1) L (.inr (.inl (jlushr x y)) :: st) M) : G t d r M' pc L (.inl y :: .inr (.inl x) :: st) M := by
  intro p l e R s m args below meth c cells slots A H0 ad cA D Q C F H locs ls hl hP hS
  exact lv_lushr C.1 C.2.1 hdg rfl (k p l e R s m args below meth c cells slots A H0 ad cA D Q C F H locs ls hl hP hS)
theorem G_lcmp {x y : Int64} (hdg : decode t.2.2.1 pc = .ok (.lcmp, 1)) (k : G t d r M' (pc + 1) L (.inl (lg_cmp x y) :: st) M) : G t d r M' pc L (.inr (.inl y) :: .inr (.inl x) :: st) M := by
  intro p l e R s m args below meth c cells slots A H0 ad cA D Q C F H locs ls hl hP hS
  exact W.lcmp C.1 C.2.1 hdg (k p l e R s m args below meth c cells slots A H0 ad cA D Q C F H locs ls hl hP hS)
theorem G_dup {v : AV} (h2 : av2 v = false) (hdg : decode t.2.2.1 pc = .ok (.dup, 1)) (k : G t d r M' (pc + 1) L (v :: v :: st) M) : G t d r M' pc L (v :: st) M := by
  intro p l e R s m args below meth c cells slots A H0 ad cA D Q C F H locs ls hl hP hS
  exact lv_dup C.1 C.2.1 hdg (av1_cat h2) (k p l e R s m args below meth c cells slots A H0 ad cA D Q C F H locs ls hl hP hS)
theorem G_dup2 {v w : AV} (h2 : av2 v = false) (h3 : av2 w = false) (hdg : decode t.2.2.1 pc = .ok (.dup2, 1)) (k : G t d r M' (pc + 1) L (v :: w :: v :: w :: st) M) : G t d r M' pc L (v :: w :: st) M := by
  intro p l e R s m args below meth c cells slots A H0 ad cA D Q C F H locs ls hl hP hS
  exact lv_dup2_11 C.1 C.2.1 hdg (av1_cat h2) (av1_cat h3) (k p l e R s m args below meth c cells slots A H0 ad cA D Q C F H locs ls hl hP hS)
theorem G_goto {off : Int} {tgt : Nat} (hdg : decode t.2.2.1 pc = .ok (.goto off, 3)) (ht : (pc : Int) + off = (tgt : Int)) (k : G t d r M' tgt L st M) : G t d r M' pc L st M := by
  intro p l e R s m args below meth c cells slots A H0 ad cA D Q C F H locs ls hl hP hS
  exact lv_goto C.1 C.2.1 hdg ht (k p l e R s m args below meth c cells slots A H0 ad cA D Q C F H locs ls hl hP hS)
theorem G_icmp_eq {x y : Int32} {off : Int} {tgt : Nat} (hdg : decode t.2.2.1 pc = .ok (.if_icmp .eq off, 3)) (ht : (pc : Int) + off = (tgt : Int)) (kt : x = y → G t d r M' tgt L st M) (kf : ¬ x = y → G t d r M' (pc + 3) L st M) : G t d r M' pc L (.inl y :: .inl x :: st) M := by
  intro p l e R s m args below meth c cells slots A H0 ad cA D Q C F H locs ls hl hP hS
  exact lv_icmp_eq C.1 C.2.1 hdg ht (fun h => kt (h) p l e R s m args below meth c cells slots A H0 ad cA D Q C F H locs ls hl hP hS) (fun h => kf (h) p l e R s m args below meth c cells slots A H0 ad cA D Q C F H locs ls hl hP hS)
theorem G_if_eq {x : Int32} {off : Int} {tgt : Nat} (hdg : decode t.2.2.1 pc = .ok (.ifCond .eq off, 3)) (ht : (pc : Int) + off = (tgt : Int)) (kt : x = 0 → G t d r M' tgt L st M) (kf : ¬ x = 0 → G t d r M' (pc + 3) L st M) : G t d r M' pc L (.inl x :: st) M := by
  intro p l e R s m args below meth c cells slots A H0 ad cA D Q C F H locs ls hl hP hS
  exact lv_if_eq C.1 C.2.1 hdg ht (fun h => kt (h) p l e R s m args below meth c cells slots A H0 ad cA D Q C F H locs ls hl hP hS) (fun h => kf (h) p l e R s m args below meth c cells slots A H0 ad cA D Q C F H locs ls hl hP hS)
theorem G_icmp_ne {x y : Int32} {off : Int} {tgt : Nat} (hdg : decode t.2.2.1 pc = .ok (.if_icmp .ne off, 3)) (ht : (pc : Int) + off = (tgt : Int)) (kt : ¬ x = y → G t d r M' tgt L st M) (kf : x = y → G t d r M' (pc + 3) L st M) : G t d r M' pc L (.inl y :: .inl x :: st) M := by
  intro p l e R s m args below meth c cells slots A H0 ad cA D Q C F H locs ls hl hP hS
  exact lv_icmp_ne C.1 C.2.1 hdg ht (fun h => kt (h) p l e R s m args below meth c cells slots A H0 ad cA D Q C F H locs ls hl hP hS) (fun h => kf (h) p l e R s m args below meth c cells slots A H0 ad cA D Q C F H locs ls hl hP hS)
theorem G_if_ne {x : Int32} {off : Int} {tgt : Nat} (hdg : decode t.2.2.1 pc = .ok (.ifCond .ne off, 3)) (ht : (pc : Int) + off = (tgt : Int)) (kt : ¬ x = 0 → G t d r M' tgt L st M) (kf : x = 0 → G t d r M' (pc + 3) L st M) : G t d r M' pc L (.inl x :: st) M := by
  intro p l e R s m args below meth c cells slots A H0 ad cA D Q C F H locs ls hl hP hS
  exact lv_if_ne C.1 C.2.1 hdg ht (fun h => kt (h) p l e R s m args below meth c cells slots A H0 ad cA D Q C F H locs ls hl hP hS) (fun h => kf (h) p l e R s m args below meth c cells slots A H0 ad cA D Q C F H locs ls hl hP hS)
theorem G_icmp_lt {x y : Int32} {off : Int} {tgt : Nat} (hdg : decode t.2.2.1 pc = .ok (.if_icmp .lt off, 3)) (ht : (pc : Int) + off = (tgt : Int)) (kt : x < y → G t d r M' tgt L st M) (kf : ¬ x < y → G t d r M' (pc + 3) L st M) : G t d r M' pc L (.inl y :: .inl x :: st) M := by
  intro p l e R s m args below meth c cells slots A H0 ad cA D Q C F H locs ls hl hP hS
  exact lv_icmp_lt C.1 C.2.1 hdg ht (fun h => kt (h) p l e R s m args below meth c cells slots A H0 ad cA D Q C F H locs ls hl hP hS) (fun h => kf (h) p l e R s m args below meth c cells slots A H0 ad cA D Q C F H locs ls hl hP hS)
theorem G_if_lt {x : Int32} {off : Int} {tgt : Nat} (hdg : decode t.2.2.1 pc = .ok (.ifCond .lt off, 3)) (ht : (pc : Int) + off = (tgt : Int)) (kt : x < 0 → G t d r M' tgt L st M) (kf : ¬ x < 0 → G t d r M' (pc + 3) L st M) : G t d r M' pc L (.inl x :: st) M := by
  intro p l e R s m args below meth c cells slots A H0 ad cA D Q C F H locs ls hl hP hS
  exact lv_if_lt C.1 C.2.1 hdg ht (fun h => kt (h) p l e R s m args below meth c cells slots A H0 ad cA D Q C F H locs ls hl hP hS) (fun h => kf (h) p l e R s m args below meth c cells slots A H0 ad cA D Q C F H locs ls hl hP hS)
theorem G_icmp_ge {x y : Int32} {off : Int} {tgt : Nat} (hdg : decode t.2.2.1 pc = .ok (.if_icmp .ge off, 3)) (ht : (pc : Int) + off = (tgt : Int)) (kt : ¬ x < y → G t d r M' tgt L st M) (kf : x < y → G t d r M' (pc + 3) L st M) : G t d r M' pc L (.inl y :: .inl x :: st) M := by
  intro p l e R s m args below meth c cells slots A H0 ad cA D Q C F H locs ls hl hP hS
  exact lv_icmp_ge C.1 C.2.1 hdg ht (fun h => kt (Int32.not_lt.mpr h) p l e R s m args below meth c cells slots A H0 ad cA D Q C F H locs ls hl hP hS) (fun h => kf (Int32.not_le.mp h) p l e R s m args below meth c cells slots A H0 ad cA D Q C F H locs ls hl hP hS)
theorem G_if_ge {x : Int32} {off : Int} {tgt : Nat} (hdg : decode t.2.2.1 pc = .ok (.ifCond .ge off, 3)) (ht : (pc : Int) + off = (tgt : Int)) (kt : ¬ x < 0 → G t d r M' tgt L st M) (kf : x < 0 → G t d r M' (pc + 3) L st M) : G t d r M' pc L (.inl x :: st) M := by
  intro p l e R s m args below meth c cells slots A H0 ad cA D Q C F H locs ls hl hP hS
  exact lv_if_ge C.1 C.2.1 hdg ht (fun h => kt (Int32.not_lt.mpr h) p l e R s m args below meth c cells slots A H0 ad cA D Q C F H locs ls hl hP hS) (fun h => kf (Int32.not_le.mp h) p l e R s m args below meth c cells slots A H0 ad cA D Q C F H locs ls hl hP hS)
theorem G_icmp_gt {x y : Int32} {off : Int} {tgt : Nat} (hdg : decode t.2.2.1 pc = .ok (.if_icmp .gt off, 3)) (ht : (pc : Int) + off = (tgt : Int)) (kt : y < x → G t d r M' tgt L st M) (kf : ¬ y < x → G t d r M' (pc + 3) L st M) : G t d r M' pc L (.inl y :: .inl x :: st) M := by
  intro p l e R s m args below meth c cells slots A H0 ad cA D Q C F H locs ls hl hP hS
  exact lv_icmp_gt C.1 C.2.1 hdg ht (fun h => kt (h) p l e R s m args below meth c cells slots A H0 ad cA D Q C F H locs ls hl hP hS) (fun h => kf (h) p l e R s m args below meth c cells slots A H0 ad cA D Q C F H locs ls hl hP hS)
theorem G_if_gt {x : Int32} {off : Int} {tgt : Nat} (hdg : decode t.2.2.1 pc = .ok (.ifCond .gt off, 3)) (ht : (pc : Int) + off = (tgt : Int)) (kt : 0 < x → G t d r M' tgt L st M) (kf : ¬ 0 < x → G t d r M' (pc + 3) L st M) : G t d r M' pc L (.inl x :: st) M := by
  intro p l e R s m args below meth c cells slots A H0 ad cA D Q C F H locs ls hl hP hS
  exact lv_if_gt C.1 C.2.1 hdg ht (fun h => kt (h) p l e R s m args below meth c cells slots A H0 ad cA D Q C F H locs ls hl hP hS) (fun h => kf (h) p l e R s m args below meth c cells slots A H0 ad cA D Q C F H locs ls hl hP hS)
theorem G_icmp_le {x y : Int32} {off : Int} {tgt : Nat} (hdg : decode t.2.2.1 pc = .ok (.if_icmp .le off, 3)) (ht : (pc : Int) + off = (tgt : Int)) (kt : ¬ y < x → G t d r M' tgt L st M) (kf : y < x → G t d r M' (pc + 3) L st M) : G t d r M' pc L (.inl y :: .inl x :: st) M := by
  intro p l e R s m args below meth c cells slots A H0 ad cA D Q C F H locs ls hl hP hS
  exact lv_icmp_le C.1 C.2.1 hdg ht (fun h => kt (Int32.not_lt.mpr h) p l e R s m args below meth c cells slots A H0 ad cA D Q C F H locs ls hl hP hS) (fun h => kf (Int32.not_le.mp h) p l e R s m args below meth c cells slots A H0 ad cA D Q C F H locs ls hl hP hS)
theorem G_if_le {x : Int32} {off : Int} {tgt : Nat} (hdg : decode t.2.2.1 pc = .ok (.ifCond .le off, 3)) (ht : (pc : Int) + off = (tgt : Int)) (kt : ¬ 0 < x → G t d r M' tgt L st M) (kf : 0 < x → G t d r M' (pc + 3) L st M) : G t d r M' pc L (.inl x :: st) M := by
  intro p l e R s m args below meth c cells slots A H0 ad cA D Q C F H locs ls hl hP hS
  exact lv_if_le C.1 C.2.1 hdg ht (fun h => kt (Int32.not_lt.mpr h) p l e R s m args below meth c cells slots A H0 ad cA D Q C F H locs ls hl hP hS) (fun h => kf (Int32.not_le.mp h) p l e R s m args below meth c cells slots A H0 ad cA D Q C F H locs ls hl hP hS)
theorem G_tableIn {dflt lo hi : Int} {offs : Array Int} {len : Nat} {x : Int32} {off : Int} {tgt : Nat} (hdg : decode t.2.2.1 pc = .ok (.tableswitch dflt lo hi offs, len)) (h1 : ¬ x.toInt < lo) (h2 : ¬ hi < x.toInt) (ho : offs[(x.toInt - lo).toNat]? = some off) (ht : (pc : Int) + off = (tgt : Int)) (k : G t d r M' tgt L st M) : G t d r M' pc L (.inl x :: st) M := by
  intro p l e R s m args below meth c cells slots A H0 ad cA D Q C F H locs ls hl hP hS
  exact lv_tableIn C.1 C.2.1 hdg h1 h2 ho ht (k p l e R s m args below meth c cells slots A H0 ad cA D Q C F H locs ls hl hP hS)
theorem G_tableOut {dflt lo hi : Int} {offs : Array Int} {len : Nat} {x : Int32} {tgt : Nat} (hdg : decode t.2.2.1 pc = .ok (.tableswitch dflt lo hi offs, len)) (h : x.toInt < lo ∨ hi < x.toInt) (ht : (pc : Int) + dflt = (tgt : Int)) (k : G t d r M' tgt L st M) : G t d r M' pc L (.inl x :: st) M := by
  intro p l e R s m args below meth c cells slots A H0 ad cA D Q C F H locs ls hl hP hS
  exact lv_tableOut C.1 C.2.1 hdg h ht (k p l e R s m args below meth c cells slots A H0 ad cA D Q C F H locs ls hl hP hS)
theorem G_lookup {dflt : Int} {ps : Array (Int × Int)} {len : Nat} {x : Int32} {off : Int} {tgt : Nat} (hdg : decode t.2.2.1 pc = .ok (.lookupswitch dflt ps, len)) (hp : (ps.toList.zip (ps.toList.drop 1)).all (fun (a, next) => a.1 < next.1) = true) (ho : Op.lookupswitch.offset ps.toList dflt x.toInt = off) (ht : (pc : Int) + off = (tgt : Int)) (k : G t d r M' tgt L st M) : G t d r M' pc L (.inl x :: st) M := by
  intro p l e R s m args below meth c cells slots A H0 ad cA D Q C F H locs ls hl hP hS
  exact lv_lookup C.1 C.2.1 hdg hp ho ht (k p l e R s m args below meth c cells slots A H0 ad cA D Q C F H locs ls hl hP hS)
/-- the end of a method -/
theorem G_ret (hdg : decode t.2.2.1 pc = .ok (retI r, 1)) (ho : retOK t.2.2.2.2 r) (hst : st = r.toList) (hM : M = M') : G t d r M' pc L st M := by
  intro p l e R s m args below meth c cells slots A H0 ad cA D Q C F H locs ls hl hP hS
  subst hst; subst hM
  exact F H locs ls pc hP hS hdg ho
theorem cellE_obj {ad : Nat → Nat → Nat} {cA : Nat → ClassId} {M : MM} {f i : Nat} (h : fCls f < 9) : cellE ad cA M f i = .inr (fCls f, (List.range (fNum (fCls f))).map (fun k => cv ad (fldV f i k M))) := by
  unfold cellE
  rw [if_pos h]
theorem cellE_arr {ad : Nat → Nat → Nat} {cA : Nat → ClassId} {M : MM} {f i : Nat} (h : ¬ fCls f < 9) : cellE ad cA M f i = .inl (cA (fElt f), fLen f, arrF ad M f i) := by
  unfold cellE
  rw [if_neg h]
theorem TB_tbl {w : Cond} (h : w ∈ TB) : w ∈ lw_tbl := (List.mem_filter.mp h).1
/-- a field of an object is read -/
theorem G_get {ci idx : Nat} {C : String} {T : u_T} {N : Nat} {f i k0 : Nat} {v : AV} (hws : ∀ w ∈ u_ws C T N, w ∈ TB) (hc : vwCl[ci]? = some (C, T, N)) (hw : Cond.fieldLink t.1 idx (T k0).1 (T k0).2.1 (T k0).2.2.1 ∈ TB) (hf : f < 32) (hi : i < fCnt f) (hcl : fCls f = ci) (hci : ci < 9) (hN : fNum ci = N) (hk : k0 < N) (hv : fldV f i k0 M = v) (hdg : decode t.2.2.1 pc = .ok (.getfield idx, 3)) (k : G t d r M' (pc + 3) L (v :: st) M) : G t d r M' pc L (.inr (.inr (f, i)) :: st) M := by
  intro p l e R s m args below meth c cells slots A H0 ad cA D Q Cx F H locs ls hl hP hS
  subst hcl
  have he : (world ad cA M)[fOff f + i]? = some (ad f i, .inr (fCls f, (List.range (fNum (fCls f))).map (fun k => cv ad (fldV f i k M)))) := by rw [world_at hf hi, cellE_obj hci]
  exact va_get Cx.1 Cx.2.1 Cx.2.2.2.2.1 hws Cx.2.2.2.1 Cx.2.2.2.2.2.2.1 hP (fOff f + i) he hc k0 hk (Cx.2.2.2.2.1 _ hw) (fun _ h => h) (v := cv ad v) (by rw [List.getElem?_map, hN, List.getElem?_range hk, ← hv]; rfl) hdg (k p l e R s m args below meth c cells slots A H0 ad cA D Q Cx F H locs ls hl hP hS)
theorem rd_wr_other {M : MM} {f i k0 : Nat} {v : Int32} : ∀ f' i', ¬ (f' = f ∧ i' = i) → ∀ j, rdM (wrM M f i k0 v) f' i' j = rdM M f' i' j := fun _ _ h _ => rd_wr_ne h
theorem fld_wr {M : MM} {f i k0 j : Nat} {v : Int32} (hr0 : fRef f k0 = none) (hZ : fZ f k0 = true → nbZ v = v) : fldV f i j (wrM M f i k0 v) = if j = k0 then .inl v else fldV f i j M := by
  unfold fldV
  rw [rd_wr_eq]
  by_cases hj : j = k0
  · subst hj
    rw [hr0]
    by_cases hz : fZ f j = true
    · simp [hz, hZ hz]
    · simp [hz]
  · simp [hj]
theorem fields_wr {ad : Nat → Nat → Nat} {M : MM} {f i k0 N : Nat} {v : Int32} (hk : k0 < N) (hr0 : fRef f k0 = none) (hZ : fZ f k0 = true → nbZ v = v) : ((List.range N).map (fun k => cv ad (fldV f i k M))).set k0 (.int v) = (List.range N).map (fun k => cv ad (fldV f i k (wrM M f i k0 v))) := by
  apply List.ext_getElem?
  intro n
  rw [List.getElem?_set, List.getElem?_map, List.getElem?_map, List.length_map, List.length_range]
  by_cases hn : k0 = n
  · subst hn
    rw [if_pos rfl, if_pos hk, List.getElem?_range hk]
    show _ = some (cv ad (fldV f i k0 (wrM M f i k0 v)))
    rw [fld_wr hr0 hZ, if_pos rfl]
    rfl
  · rw [if_neg hn]
    by_cases h2 : n < N
    · rw [List.getElem?_range h2]
      show some (cv ad (fldV f i n M)) = some (cv ad (fldV f i n (wrM M f i k0 v)))
      rw [fld_wr hr0 hZ, if_neg (fun e => hn e.symm)]
    · rw [List.getElem?_eq_none (by rw [List.length_range]; omega)]
      rfl
theorem narrow_nbZ {v : Int32} (h : nbZ v = v) : narrow .boolean (.int v) = .int v ∧ fits .boolean (.int v) = true := by
  unfold nbZ at h
  by_cases h0 : v = 0
  · subst h0; exact ⟨rfl, rfl⟩
  · rw [if_neg h0] at h
    subst h; exact ⟨rfl, rfl⟩
/-- a number field of an object is written -/
theorem G_put {ci idx : Nat} {C : String} {T : u_T} {N : Nat} {ty0 : Nat → FieldType} {f i k0 : Nat} {v : Int32} {M2 : MM} (hws : ∀ w ∈ u_ws C T N, w ∈ TB) (hty : ∀ k, k < N → parseFieldDescriptor (T k).2.2.1 = some (ty0 k)) (hnm : ∀ a, a < N → ∀ b, b < N → a ≠ b → (T a).2.1 ≠ (T b).2.1) (hc : vwCl[ci]? = some (C, T, N)) (hw : Cond.fieldLink t.1 idx (T k0).1 (T k0).2.1 (T k0).2.2.1 ∈ TB) (hf : f < 32) (hi : i < fCnt f) (hcl : fCls f = ci) (hci : ci < 9) (hN : fNum ci = N) (hk : k0 < N) (hfin : (T k0).2.2.2 = false) (htz : (fZ f k0 = false ∧ ty0 k0 = .int) ∨ (nbZ v = v ∧ ty0 k0 = .boolean)) (hr0 : fRef f k0 = none) (hM2 : wrM M f i k0 v = M2) (hdg : decode t.2.2.1 pc = .ok (.putfield idx, 3)) (k : G t d r M' (pc + 3) L st M2) : G t d r M' pc L (.inl v :: .inr (.inr (f, i)) :: st) M := by
  intro p l e R s m args below meth c cells slots A H0 ad cA D Q Cx F H locs ls hl hP hS
  subst hcl; subst hM2
  have he : (world ad cA M)[fOff f + i]? = some (ad f i, .inr (fCls f, (List.range (fNum (fCls f))).map (fun k => cv ad (fldV f i k M)))) := by rw [world_at hf hi, cellE_obj hci]
  have hZ : fZ f k0 = true → nbZ v = v := by
    intro h
    rcases htz with ⟨h1, -⟩ | ⟨h1, -⟩
    · rw [h1] at h; cases h
    · exact h1
  have hn : narrow (ty0 k0) (.int v) = .int v ∧ fits (ty0 k0) (.int v) = true := by
    rcases htz with ⟨-, h2⟩ | ⟨h1, h2⟩
    · rw [h2]; exact ⟨rfl, rfl⟩
    · rw [h2]; exact narrow_nbZ h1
  have e1 : (world ad cA M).set (fOff f + i) (ad f i, .inr (fCls f, ((List.range (fNum (fCls f))).map (fun k => cv ad (fldV f i k M))).set k0 (.int v))) = world ad cA (wrM M f i k0 v) := by
    rw [fields_wr (by rw [hN]; exact hk) hr0 hZ, ← world_set (M := M) hf hi rd_wr_other, cellE_obj hci]
  refine va_put (v := .int v) Cx.1 Cx.2.1 Cx.2.2.2.2.1 hws ty0 hty hnm Cx.2.2.2.1 Cx.2.2.2.2.2.2.1 hP (Cx.2.2.2.2.2.2.2.2.2.2.2.2 M) hS (fOff f + i) he hc k0 hk (Cx.2.2.2.2.1 _ hw) (fun _ h => h) hfin (hty k0 hk) hn.1 hn.2 (by rw [List.length_map, List.length_range, hN]; exact hk) hdg (fun H1 locs1 hP1 hD1 hS1 => ?_)
  rw [e1] at hP1
  exact k p l e R s m args below meth c cells slots A H0 ad cA D Q Cx F H1 locs1 ls hl hP1 hS1
/-- is an index within an array -/
def ib (x : Int32) (n : Nat) : Bool := decide (¬ x < 0 ∧ x.toNatClampNeg < n)
theorem ib_in {x : Int32} {n : Nat} (h : ib x n = true) : vp_in x n := by
  have h1 := of_decide_eq_true h
  rintro (h2 | h2)
  · exact h1.1 h2
  · exact absurd h1.2 (Nat.not_lt.mpr h2)
theorem ib_lt {x : Int32} {n : Nat} (h : ib x n = true) : x.toNatClampNeg < n := (of_decide_eq_true h).2
theorem G_iald {f i : Nat} {x : Int32} (hf : f < 32) (hi : i < fCnt f) (hcl : ¬ fCls f < 9) (he0 : fElt f = 0) (hin : ib x (fLen f) = true) {v : Int32} (hv : rdM M f i x.toNatClampNeg = v) (hdg : decode t.2.2.1 pc = .ok (.iaload, 1)) (k : G t d r M' (pc + 1) L (.inl v :: st) M) : G t d r M' pc L (.inl x :: .inr (.inr (f, i)) :: st) M := by
  intro p l e R s m args below meth c cells slots A H0 ad cA D Q Cx F H locs ls hl hP hS
  subst hv
  have he : (world ad cA M)[fOff f + i]? = some (ad f i, .inl (cA 0, fLen f, .inl (fun j => rdM M f i j))) := by
    rw [world_at hf hi, cellE_arr hcl]
    unfold arrF
    rw [he0]
    rfl
  exact va_iald Cx.1 Cx.2.1 Cx.2.2.2.2.2.2.1 hP (fOff f + i) 0 he rfl (ib_in hin) hdg (k p l e R s m args below meth c cells slots A H0 ad cA D Q Cx F H locs ls hl hP hS)
theorem G_bald {f i : Nat} {x : Int32} (hf : f < 32) (hi : i < fCnt f) (hcl : ¬ fCls f < 9) (he0 : fElt f = 1) (hin : ib x (fLen f) = true) {v : Int32} (hv : nbB (rdM M f i x.toNatClampNeg) = v) (hdg : decode t.2.2.1 pc = .ok (.baload, 1)) (k : G t d r M' (pc + 1) L (.inl v :: st) M) : G t d r M' pc L (.inl x :: .inr (.inr (f, i)) :: st) M := by
  intro p l e R s m args below meth c cells slots A H0 ad cA D Q Cx F H locs ls hl hP hS
  subst hv
  have he : (world ad cA M)[fOff f + i]? = some (ad f i, .inl (cA 1, fLen f, .inl (fun j => nbB (rdM M f i j)))) := by
    rw [world_at hf hi, cellE_arr hcl]
    unfold arrF
    rw [he0]
    rfl
  exact va_bald Cx.1 Cx.2.1 Cx.2.2.2.2.2.2.1 hP (fOff f + i) 1 he rfl (ib_in hin) hdg (k p l e R s m args below meth c cells slots A H0 ad cA D Q Cx F H locs ls hl hP hS)
theorem G_aald3 {f i : Nat} {x : Int32} (hf : f < 32) (hi : i < fCnt f) (hcl : ¬ fCls f < 9) (he0 : fElt f = 2) (hin : ib x (fLen f) = true) (hdg : decode t.2.2.1 pc = .ok (.aaload, 1)) (k : G t d r M' (pc + 1) L (.inr (.inr (3, 10 * i + x.toNatClampNeg)) :: st) M) : G t d r M' pc L (.inl x :: .inr (.inr (f, i)) :: st) M := by
  intro p l e R s m args below meth c cells slots A H0 ad cA D Q Cx F H locs ls hl hP hS
  have he : (world ad cA M)[fOff f + i]? = some (ad f i, .inl (cA 2, fLen f, .inr (.inr (.inr (.inr (fun j => some (ad 3 (10 * i + j)))))))) := by
    rw [world_at hf hi, cellE_arr hcl]
    unfold arrF
    rw [he0]
    rfl
  exact va_aldq Cx.1 Cx.2.1 Cx.2.2.2.2.2.2.1 hP (fOff f + i) 2 he rfl (ib_in hin) hdg (k p l e R s m args below meth c cells slots A H0 ad cA D Q Cx F H locs ls hl hP hS)
theorem G_aald5 {f i : Nat} {x : Int32} (hf : f < 32) (hi : i < fCnt f) (hcl : ¬ fCls f < 9) (he0 : fElt f = 3) (hin : ib x (fLen f) = true) (hdg : decode t.2.2.1 pc = .ok (.aaload, 1)) (k : G t d r M' (pc + 1) L (.inr (.inr (5, x.toNatClampNeg)) :: st) M) : G t d r M' pc L (.inl x :: .inr (.inr (f, i)) :: st) M := by
  intro p l e R s m args below meth c cells slots A H0 ad cA D Q Cx F H locs ls hl hP hS
  have he : (world ad cA M)[fOff f + i]? = some (ad f i, .inl (cA 3, fLen f, .inr (.inr (.inr (.inr (fun j => some (ad 5 j))))))) := by
    rw [world_at hf hi, cellE_arr hcl]
    unfold arrF
    rw [he0]
    rfl
  exact va_aldq Cx.1 Cx.2.1 Cx.2.2.2.2.2.2.1 hP (fOff f + i) 3 he rfl (ib_in hin) hdg (k p l e R s m args below meth c cells slots A H0 ad cA D Q Cx F H locs ls hl hP hS)
theorem arr_wr {M : MM} {f i k0 : Nat} {v : Int32} : upd (fun j => rdM M f i j) k0 v = (fun j => rdM (wrM M f i k0 v) f i j) := by
  funext j
  rw [rd_wr_eq]
  by_cases h : j = k0
  · subst h; simp [upd]
  · simp [upd, h]
theorem G_iast {f i : Nat} {x v : Int32} {M2 : MM} (hf : f < 32) (hi : i < fCnt f) (hcl : ¬ fCls f < 9) (he0 : fElt f = 0) (hin : ib x (fLen f) = true) (hM2 : wrM M f i x.toNatClampNeg v = M2) (hdg : decode t.2.2.1 pc = .ok (.iastore, 1)) (k : G t d r M' (pc + 1) L st M2) : G t d r M' pc L (.inl v :: .inl x :: .inr (.inr (f, i)) :: st) M := by
  intro p l e R s m args below meth c cells slots A H0 ad cA D Q Cx F H locs ls hl hP hS
  subst hM2
  have he : ∀ M : MM, (world ad cA M)[fOff f + i]? = some (ad f i, .inl (cA 0, fLen f, .inl (fun j => rdM M f i j))) := by
    intro M
    rw [world_at hf hi, cellE_arr hcl]
    unfold arrF
    rw [he0]
    rfl
  have e1 : (world ad cA M).set (fOff f + i) (ad f i, .inl (cA 0, fLen f, .inl (upd (fun j => rdM M f i j) x.toNatClampNeg v))) = world ad cA (wrM M f i x.toNatClampNeg v) := by
    rw [arr_wr, ← world_set (M := M) hf hi rd_wr_other, cellE_arr hcl]
    unfold arrF
    rw [he0]
    rfl
  refine va_iast Cx.1 Cx.2.1 Cx.2.2.2.2.2.2.1 hP (Cx.2.2.2.2.2.2.2.2.2.2.2.2 M) hS (fOff f + i) 0 (he M) rfl (ib_in hin) hdg (fun H1 locs1 hP1 hD1 hS1 => ?_)
  rw [e1] at hP1
  exact k p l e R s m args below meth c cells slots A H0 ad cA D Q Cx F H1 locs1 ls hl hP1 hS1
end ONE
end
section
def argL : Nat → List AV → List (Nat × AV)
  | _, [] => []
  | i, v :: vs => (i, v) :: argL (if av2 v = true then i + 2 else i + 1) vs
def argW (as : List AV) : Nat := (as.map fun v => if av2 v = true then 2 else 1).sum
theorem cat_av2 {ad : Nat → Nat → Nat} (v : AV) : (cv ad v).category = 2 ↔ av2 v = true := by
  rcases v with x | y | q
  · exact ⟨fun h => (by cases h), fun h => (by cases h)⟩
  · exact ⟨fun _ => rfl, fun _ => rfl⟩
  · exact ⟨fun h => (by cases h), fun h => (by cases h)⟩
theorem argL_map {ad : Nat → Nat → Nat} (vs : List AV) : ∀ i, lv_args i (vs.map (cv ad)) = (argL i vs).map (fun q => (q.1, cv ad q.2)) := by
  induction vs with
  | nil => intro i; rfl
  | cons v vs ih =>
    intro i
    show (i, cv ad v) :: lv_args _ (vs.map (cv ad)) = (i, cv ad v) :: (argL _ vs).map _
    rw [ih]
    by_cases h : av2 v = true
    · rw [if_pos h, if_pos ((cat_av2 v).mpr h)]
    · rw [if_neg h, if_neg (fun e => h ((cat_av2 v).mp e))]
theorem argW_len {ad : Nat → Nat → Nat} (vs : List AV) : (lg_sl (vs.map (cv ad))).length = argW vs := by
  induction vs with
  | nil => rfl
  | cons v vs ih =>
    have e : lg_sl ((v :: vs).map (cv ad)) = (if (cv ad v).category = 2 then [.val (cv ad v), .second] else [.val (cv ad v)]) ++ lg_sl (vs.map (cv ad)) := rfl
    have e2 : argW (v :: vs) = (if av2 v = true then 2 else 1) + argW vs := rfl
    rw [e, e2, List.length_append, ih]
    by_cases h : av2 v = true
    · rw [if_pos h, if_pos ((cat_av2 v).mpr h)]; rfl
    · rw [if_neg h, if_neg (fun e => h ((cat_av2 v).mp e))]; rfl
def PreG (ad : Nat → Nat → Nat) (cA : Nat → ClassId) (D : va_G) (sz : Nat) (M : MM) : State → Prop := fun U => U.heap.size = sz ∧ va_P D vwCl (world ad cA M) U.heap ∧ va_K D vwCl (tysA cA) U ∧ va_D (fun _ => True) (world ad cA M) ∧ ∀ w ∈ nestL, va_Nw w U
def PostG (ad : Nat → Nat → Nat) (cA : Nat → ClassId) (D : va_G) (A : Nat → Prop) (r : Option AV) (M' : MM) : Array Value → State → Outcome → State → Prop := fun _ st oc t => (oc = .returned (r.map (cv ad)) ∧ va_P D vwCl (world ad cA M') t.heap ∧ va_K D vwCl (tysA cA) t) ∧ va_F A st t
/-- A METHOD'S CONTRACT: called with these values in this memory it returns, with this answer and this memory; d: how deep its calls may go -/
def Spec (t : MT) (d : Nat) (as : List AV) (M : MM) (r : Option AV) (M' : MM) : Prop :=
  ∀ (l : Launch) (ad : Nat → Nat → Nat) (cA : Nat → ClassId) (D : va_G) (sz : Nat), Met l t.2.1 (wsM t) (roomD d) (va_Pc (as.map (cv ad)) (PreG ad cA D sz M)) (PostG ad cA D (va_A (world ad cA M) sz) r M') 0 0 (va_A (world ad cA M) sz)
theorem nest_on : ∀ w ∈ nestL, w.onTables = true := by
  intro w hw
  rcases List.mem_cons.mp hw with rfl | hw
  · rfl
  rcases List.mem_cons.mp hw with rfl | hw
  · rfl
  cases hw
theorem nest_warm {s U : State} (hW : s.WarmedH U.vm) (h : ∀ w ∈ nestL, va_Nw w s) : ∀ w ∈ nestL, va_Nw w U := by
  intro w hw
  have h1 := h w hw
  rcases List.mem_cons.mp hw with rfl | hw
  · exact va_Nw.warmM hW h1
  rcases List.mem_cons.mp hw with rfl | hw
  · exact va_Nw.warmM hW h1
  cases hw
theorem pre_blind {ad : Nat → Nat → Nat} {cA : Nat → ClassId} {D : va_G} {sz : Nat} {M : MM} {av : List Value} : FrameBlind (va_Pc av (PreG ad cA D sz M)) := by
  intro a U g mk q
  obtain ⟨q0, q1, qP, qK, qD, qN⟩ := q
  exact ⟨q0, q1, qP, va_K.moved (u := U) (U := U.calling g mk a) (Vm.Alike.refl U.vm) qK, qD, fun w hw => va_Nw.same (nest_on w hw) (u := U) (U := U.calling g mk a) rfl (qN w hw)⟩
theorem Spec_of_G {t : MT} {d : Nat} {as : List AV} {M M' : MM} {r : Option AV} (hy : plainName t.2.1.cls = true) (hown : t.2.1.cls = t.1) (hn : argW as ≤ t.2.2.2.1) (k : G t d r M' 0 (argL 0 as) [] M) : Spec t d as M r M' := by
  intro l ad cA D sz
  refine Met.ofW (cc := t.2.2.1) (maxL := t.2.2.2.1) (ret := t.2.2.2.2) hy rfl ?_
  intro p e s m args below meth c s₁ B hml hv
  obtain ⟨rfl, hsz, hP, hK, hD0, hN⟩ := hv
  have hx := B.exec
  have hb := B.bytes
  have hr := B.returns
  have hts := atoms_spec (ws := wsM t) B.pre
  have hownc : s.vm.findClass t.1 = some m.cls := by rw [← hown]; exact findClass_of_methodNamed B.named
  have hlocks := B.notSynchronized
  subst hsz
  have hDA : va_D (va_A (world ad cA M) s.heap.size) (world ad cA M) := hD0.self (sz := s.heap.size)
  have hC : CtxG t d p (headSpec (wsM t) (roomD d)).room s m (as.map (cv ad)).toArray c 0 0 (va_A (world ad cA M) s.heap.size) s.heap ad cA D :=
    ⟨hx, hb, hml, hownc, fun w hw => hts w (List.mem_cons_of_mem _ hw), hN, hK, Nat.le_refl _, Nat.le_refl _, Nat.zero_le _, Nat.zero_le _, fun q h => Or.inr h, fun M2 => va_D_world hDA⟩
  have hl := lv_entry (as.map (cv ad)) (n := t.2.2.2.1) (by rw [argW_len]; exact hn)
  rw [argL_map] at hl
  rw [lg_entry_eq]
  refine k p l e _ s m _ below meth c 0 0 _ s.heap ad cA D _ hC ?_ s.heap [] _ hl hP va_S.rf
  intro H locs ls pc hP' hS hdg hro
  have hq : ∀ tt : State, tt.heap = H → s.WarmedH tt.vm → PostG ad cA D (va_A (world ad cA M) s.heap.size) r M' (as.map (cv ad)).toArray s (.returned (r.map (cv ad))) tt :=
    fun tt ht hW => ⟨⟨rfl, by rw [ht]; exact hP', va_K.moved hW.alike hK⟩, hS.F ht⟩
  rcases r with _ | x | y | q
  · cases hret : t.2.2.2.2 with
    | none => exact W.vret hx hb (hr.trans hret) hq hS.2.2 hdg
    | some ty => rw [hret] at hro; cases ty <;> exact hro.elim
  · cases hret : t.2.2.2.2 with
    | none => rw [hret] at hro; exact hro.elim
    | some ty =>
      rw [hret] at hro
      cases ty <;> first
        | exact False.elim hro
        | exact W.iret hx hb (hr.trans hret) hq hS.2.2 hdg
        | (refine W.zret hx hb (hr.trans hret) ?_ hq hS.2.2 hdg
           rcases (show x = 0 ∨ x = 1 from hro) with rfl | rfl <;> rfl)
  · cases hret : t.2.2.2.2 with
    | none => rw [hret] at hro; exact hro.elim
    | some ty => rw [hret] at hro; cases ty <;> exact hro.elim
  · cases hret : t.2.2.2.2 with
    | none => rw [hret] at hro; exact hro.elim
    | some ty =>
      rw [hret] at hro
      cases ty <;> first
        | exact W.aret hx hb (hr.trans hret) (Or.inl ⟨_, rfl⟩) (Or.inr ⟨_, rfl⟩) hq hS.2.2 hdg
        | exact hro.elim
theorem goodTB {ws : List Cond} (h : ∀ w ∈ ws, w ∈ TB) : GoodIn TB ws := fun w hw => ⟨h w hw, good_of_word (List.mem_filter.mp (h w hw)).2⟩
/-- a callee's words: its code, that it stands ready -/
def okM (t2 : MT) (n : Nat) : Prop := (t2.2.1.cls = t2.1 ∧ t2.2.2.2.1 ≤ 45 ∧ plainName t2.2.1.cls = true) ∧ (t2.2.1.cls ≠ "java/lang/invoke/MethodHandle" ∧ t2.2.1.cls ≠ "java/lang/invoke/VarHandle" ∧ (parseMethodDescriptor t2.2.1.desc).map (fun d => d.parameters.length) = some n) ∧ Cond.initialized t2.2.1.cls ∈ TB ∧ Cond.code t2.2.1 t2.2.2.1 t2.2.2.2.1 t2.2.2.2.2 ∈ TB
def okV (t2 : MT) (n : Nat) : Prop := okM t2 n ∧ Cond.instanceMethod t2.2.1 ∈ TB ∧ Cond.selects t2.2.1.cls t2.2.1 t2.2.1 ∈ TB
def okS (t2 : MT) (n : Nat) : Prop := okM t2 n ∧ Cond.static t2.2.1 ∈ TB
section CALL
variable {t t2 : MT} {d d2 idx n : Nat} {r r1 : Option AV} {M' M1 : MM} {pc : Nat} {L : List (Nat × AV)} {st st0 as : List AV} {M : MM}
theorem W_called {p : Program} {l : Launch} {e : Env} {R : Room} {s : State} {m : MethodId} {args : Array Value} {below : List Frame} {meth : Method} {c : Code} {H : Heap} {locs : List Loc} {cells slots : Nat} {Q : State → Prop} {ls : Array Slot} {rest st1 : List Value} {a : Array Value} {A0 A1 : Nat → Prop} {H0 : Heap} {ad : Nat → Nat → Nat} {cA : Nat → ClassId} {D : va_G}
    (hr : va_Run p l e R s m args below meth c H locs cells slots 0 0 (F0 m pc ls st1) rest (PostG ad cA D A1 r1 M1 a) A1) (hS : va_S A0 H0 H locs) (hA : ∀ q, A1 q → A0 q)
    (kk : ∀ (H1 : Heap) (locs1 : List Loc), va_P D vwCl (world ad cA M1) H1 → va_S A0 H0 H1 locs1 → W p l e R s m args below meth c H1 locs1 cells slots Q (F0 m (pc + 3) ls ((r1.map (cv ad)).toList ++ rest))) : W p l e R s m args below meth c H locs cells slots Q (F0 m pc ls st1) := by
  intro T hT X
  obtain ⟨v, st₀, t, T', L, h0, X', hL, e1, e2, ⟨⟨hv, hP1, -⟩, hz, hk⟩, st⟩ := hr T hT X
  cases hv
  rw [h0] at hz hk
  obtain ⟨t2, a1, b1⟩ := kk T'.heap (locs ++ L) (by rw [e1]; exact hP1)
    ⟨Nat.le_trans hS.1 (by rw [e1]; exact hz), fun q h1 h2 => by rw [e1, hk q (Nat.lt_of_lt_of_le h1 hS.1) (fun z => h2 (hA q z))]; exact hS.2.1 q h1 h2, fun q hq => by
      rcases List.mem_append.mp hq with h | h
      · exact hS.2.2 q h
      · exact hA _ (hL q h)⟩ T' rfl X'
  exact ⟨t2, st t2 a1, b1⟩
theorem map_opt {ad : Nat → Nat → Nat} : (r1.map (cv ad)).toList ++ st.map (cv ad) = (r1.toList ++ st).map (cv ad) := by
  cases r1 <;> rfl
theorem cat_sum {ad : Nat → Nat → Nat} (st : List AV) : ((st.map (cv ad)).map fun v => v.category).sum = argW st := by
  induction st with
  | nil => rfl
  | cons v st ih =>
    rw [List.map_cons, List.map_cons, List.sum_cons, ih]
    show (cv ad v).category + _ = (if av2 v = true then 2 else 1) + argW st
    congr 1
    rcases v with x | y | q <;> rfl
theorem free_in {A : Nat → Prop} {H0 H : Heap} {locs : List Loc} {ad : Nat → Nat → Nat} {cA : Nat → ClassId} (hD : va_D A (world ad cA M)) (hS : va_S A H0 H locs) (hA : ∀ q : Nat, H0.size ≤ q → A q) : ∀ q, va_A (world ad cA M) H.size q → A q := by
  intro q h
  rcases h with ⟨k, e, h⟩ | h
  · exact hD.2 k (q, e) h
  · exact hA q (Nat.le_trans hS.1 h)
theorem G_callS (hs : Spec t2 d2 as M r1 M1) (ho : okS t2 n) (hlk : Cond.methodLink t.1 idx t2.2.1 ∈ TB) (hd : d2 + 1 ≤ d) (hn : as.length = n) (hst : st0 = as.reverse ++ st) (hcat : argW st ≤ 8) (hdg : decode t.2.2.1 pc = .ok (.invokestatic idx, 3)) (k : G t d r M' (pc + 3) L (r1.toList ++ st) M1) : G t d r M' pc L st0 M := by
  intro p l e R s m args below meth c cells slots A H0 ad cA D Q Cx F H locs ls hl hP hS
  obtain ⟨⟨⟨h1, h2, h3⟩, h4, h5, h6⟩, h7⟩ := ho
  obtain ⟨hx, hb, hml, hown, hts, hN, hK, hdf, hdl, hc, hsl, hA, hD⟩ := id Cx
  have hF := free_in (hD M) hS hA
  have hT : GoodIn TB (va_wsS t.1 idx t2.2.1 (wsM t2)) := goodTB fun w hw => by
    rcases List.mem_append.mp hw with hw | hw
    · rcases List.mem_cons.mp hw with rfl | hw
      · exact hlk
      rcases List.mem_cons.mp hw with rfl | hw
      · exact h7
      rcases List.mem_cons.mp hw with rfl | hw
      · exact h5
      cases hw
    · rcases List.mem_cons.mp hw with rfl | hw
      · exact h6
      · exact hw
  refine W_called (va_runS (As := as.map (cv ad)) (rest := st.map (cv ad)) (n := n) ⟨hx, hb, hml, hown, hts⟩ (hs l ad cA D H.size) (va_cwS n hts hT rfl rfl rfl h4 ⟨by show d2 + 1 ≤ _; omega, by show 8 + (t2.2.2.2.1 + 11) + 64 * d2 ≤ _; omega⟩) ⟨pre_blind, fun U hU hW => ⟨rfl, by rw [hU], by rw [hU]; exact hP, va_K.moved hW.alike hK, (hD M).weaken (fun _ _ _ _ => trivial), nest_warm hW hN⟩⟩ rfl (by rw [List.length_map, hn]) hl.1 (by rw [hst, List.map_append, List.map_reverse]) (lv_room (by rw [cat_sum]; exact hcat)) hdg ⟨hc, hsl⟩) hS hF (fun H1 locs1 hP1 hS1 => ?_)
  rw [map_opt]
  exact k p l e R s m args below meth c cells slots A H0 ad cA D Q Cx F H1 locs1 ls hl hP1 hS1
theorem G_callSN (hs : Spec t2 d2 as M r1 M1) (ho : okS t2 n) (hlk : Cond.methodLinkNest t.1 idx t2.2.1 "PotHandles" ∈ nestL) (hd : d2 + 1 ≤ d) (hn : as.length = n) (hst : st0 = as.reverse ++ st) (hcat : argW st ≤ 8) (hdg : decode t.2.2.1 pc = .ok (.invokestatic idx, 3)) (k : G t d r M' (pc + 3) L (r1.toList ++ st) M1) : G t d r M' pc L st0 M := by
  intro p l e R s m args below meth c cells slots A H0 ad cA D Q Cx F H locs ls hl hP hS
  obtain ⟨⟨⟨h1, h2, h3⟩, h4, h5, h6⟩, h7⟩ := ho
  obtain ⟨hx, hb, hml, hown, hts, hN, hK, hdf, hdl, hc, hsl, hA, hD⟩ := id Cx
  have hF := free_in (hD M) hS hA
  have hT : GoodIn TB (wsM t2) := goodTB fun w hw => by
    rcases List.mem_cons.mp hw with rfl | hw
    · exact h6
    · exact hw
  refine W_called (va_runSN (As := as.map (cv ad)) (rest := st.map (cv ad)) (n := n) ⟨hx, hb, hml, hown, hts⟩ (hs l ad cA D H.size) ⟨va_cnB n hts hT rfl rfl rfl (hN _ hlk) (hts _ h5) h4 ⟨by show d2 + 1 ≤ _; omega, by show 8 + (t2.2.2.2.1 + 11) + 64 * d2 ≤ _; omega⟩, hts _ h7, trivial⟩ ⟨pre_blind, fun U hU hW => ⟨rfl, by rw [hU], by rw [hU]; exact hP, va_K.moved hW.alike hK, (hD M).weaken (fun _ _ _ _ => trivial), nest_warm hW hN⟩⟩ rfl (by rw [List.length_map, hn]) hl.1 (by rw [hst, List.map_append, List.map_reverse]) (lv_room (by rw [cat_sum]; exact hcat)) hdg ⟨hc, hsl⟩) hS hF (fun H1 locs1 hP1 hS1 => ?_)
  rw [map_opt]
  exact k p l e R s m args below meth c cells slots A H0 ad cA D Q Cx F H1 locs1 ls hl hP1 hS1
theorem G_callV {f i : Nat} {T : u_T} {N : Nat} (hs : Spec t2 d2 (.inr (.inr (f, i)) :: as) M r1 M1) (ho : okV t2 n) (hlk : Cond.methodLink t.1 idx t2.2.1 ∈ TB) (hd : d2 + 1 ≤ d) (hn : as.length = n) (hf : f < 32) (hi : i < fCnt f) (hcl : fCls f < 9) (hvw : vwCl[fCls f]? = some (t2.1, T, N)) (hst : st0 = as.reverse ++ .inr (.inr (f, i)) :: st) (hcat : argW st ≤ 8) (hdg : decode t.2.2.1 pc = .ok (.invokevirtual idx, 3)) (k : G t d r M' (pc + 3) L (r1.toList ++ st) M1) : G t d r M' pc L st0 M := by
  intro p l e R s m args below meth c cells slots A H0 ad cA D Q Cx F H locs ls hl hP hS
  obtain ⟨⟨⟨h1, h2, h3⟩, h4, h5, h6⟩, h7, h8⟩ := ho
  obtain ⟨hx, hb, hml, hown, hts, hN, hK, hdf, hdl, hc, hsl, hA, hD⟩ := id Cx
  have hF := free_in (hD M) hS hA
  have he : (world ad cA M)[fOff f + i]? = some (ad f i, .inr (fCls f, (List.range (fNum (fCls f))).map (fun k => cv ad (fldV f i k M)))) := by rw [world_at hf hi, cellE_obj hcl]
  have hT : GoodIn TB (wsV t.1 idx t2.1 t2.2.1 (wsM t2)) := goodTB fun w hw => by
    rcases List.mem_append.mp hw with hw | hw
    · rcases List.mem_cons.mp hw with rfl | hw
      · exact hlk
      rcases List.mem_cons.mp hw with rfl | hw
      · exact h7
      rcases List.mem_cons.mp hw with rfl | hw
      · rw [← h1]; exact h8
      rcases List.mem_cons.mp hw with rfl | hw
      · rw [← h1]; exact h5
      cases hw
    · rcases List.mem_cons.mp hw with rfl | hw
      · exact h6
      · exact hw
  refine W_called (va_runV (C := t2.1) (b := ad f i) (As := as.map (cv ad)) (rest := st.map (cv ad)) (n := n) ⟨hx, hb, hml, hown, hts⟩ (hs l ad cA D H.size) (cwV n hts hT rfl rfl rfl ⟨h1, h4⟩ ⟨by show d2 + 1 ≤ _; omega, by show 8 + (t2.2.2.2.1 + 11) + 64 * d2 ≤ _; omega⟩) ⟨pre_blind, va_recv (q := (t2.1, T, N)) hK hP hvw he, fun U hU hW => ⟨rfl, by rw [hU], by rw [hU]; exact hP, va_K.moved hW.alike hK, (hD M).weaken (fun _ _ _ _ => trivial), nest_warm hW hN⟩⟩ rfl (by rw [List.length_map, hn]) hl.1 (by rw [hst, List.map_append, List.map_reverse]; rfl) (lv_room (by rw [cat_sum]; exact hcat)) hdg ⟨hc, hsl⟩) hS hF (fun H1 locs1 hP1 hS1 => ?_)
  rw [map_opt]
  exact k p l e R s m args below meth c cells slots A H0 ad cA D Q Cx F H1 locs1 ls hl hP1 hS1
def jmax (x y : Int32) : Int32 := if x < y then y else x
def jmin (x y : Int32) : Int32 := if y < x then y else x
theorem G_max {x y : Int32} (hlk : Cond.methodLink t.1 idx Lib.Math.max.name ∈ TB) (hst : Cond.static Lib.Math.max.name ∈ TB) (hin : Cond.initialized "java/lang/Math" ∈ TB) (hcd : Cond.code Lib.Math.max.name Lib.Math.max.code 2 (some .int) ∈ TB) (hd : 1 ≤ d) (hcat : argW st ≤ 8) (hdg : decode t.2.2.1 pc = .ok (.invokestatic idx, 3)) (k : G t d r M' (pc + 3) L (.inl (jmax x y) :: st) M) : G t d r M' pc L (.inl y :: .inl x :: st) M := by
  intro p l e R s m args below meth c cells slots A H0 ad cA D Q Cx F H locs ls hl hP hS
  obtain ⟨hx, hb, hml, hown, hts, hN, hK, hdf, hdl, hc, hsl, hA, hD⟩ := id Cx
  exact va_mmax hx hb (hml.trans hl.1.symm) hown (hts _ hlk) (hts _ hst) (hts _ hin) (hts _ hcd) (by omega) (by rw [cat_sum]; omega) hc hsl hdg (k p l e R s m args below meth c cells slots A H0 ad cA D Q Cx F H locs ls hl hP hS)
theorem G_min {x y : Int32} (hlk : Cond.methodLink t.1 idx Lib.Math.min.name ∈ TB) (hst : Cond.static Lib.Math.min.name ∈ TB) (hin : Cond.initialized "java/lang/Math" ∈ TB) (hcd : Cond.code Lib.Math.min.name Lib.Math.min.code 2 (some .int) ∈ TB) (hd : 1 ≤ d) (hcat : argW st ≤ 8) (hdg : decode t.2.2.1 pc = .ok (.invokestatic idx, 3)) (k : G t d r M' (pc + 3) L (.inl (jmin x y) :: st) M) : G t d r M' pc L (.inl y :: .inl x :: st) M := by
  intro p l e R s m args below meth c cells slots A H0 ad cA D Q Cx F H locs ls hl hP hS
  obtain ⟨hx, hb, hml, hown, hts, hN, hK, hdf, hdl, hc, hsl, hA, hD⟩ := id Cx
  exact va_mmin hx hb (hml.trans hl.1.symm) hown (hts _ hlk) (hts _ hst) (hts _ hin) (hts _ hcd) (by omega) (by rw [cat_sum]; omega) hc hsl hdg (k p l e R s m args below meth c cells slots A H0 ad cA D Q Cx F H locs ls hl hP hS)
theorem G_bast {f i : Nat} {x v : Int32} {M2 : MM} (hf : f < 32) (hi : i < fCnt f) (hcl : ¬ fCls f < 9) (he0 : fElt f = 1) (hin : ib x (fLen f) = true) (hM2 : wrM M f i x.toNatClampNeg v = M2) (hdg : decode t.2.2.1 pc = .ok (.bastore, 1)) (k : G t d r M' (pc + 1) L st M2) : G t d r M' pc L (.inl v :: .inl x :: .inr (.inr (f, i)) :: st) M := by
  intro p l e R s m args below meth c cells slots A H0 ad cA D Q Cx F H locs ls hl hP hS
  subst hM2
  have he : ∀ M : MM, (world ad cA M)[fOff f + i]? = some (ad f i, .inl (cA 1, fLen f, .inl (fun j => nbB (rdM M f i j)))) := by
    intro M
    rw [world_at hf hi, cellE_arr hcl]
    unfold arrF
    rw [he0]
    rfl
  have e0 : upd (fun j => nbB (rdM M f i j)) x.toNatClampNeg (vp_nar .byte v) = (fun j => nbB (rdM (wrM M f i x.toNatClampNeg v) f i j)) := by
    funext j
    rw [rd_wr_eq]
    by_cases h : j = x.toNatClampNeg
    · subst h; simp [upd]; rfl
    · simp [upd, h]
  have e1 : (world ad cA M).set (fOff f + i) (ad f i, .inl (cA 1, fLen f, .inl (upd (fun j => nbB (rdM M f i j)) x.toNatClampNeg (vp_nar .byte v)))) = world ad cA (wrM M f i x.toNatClampNeg v) := by
    rw [e0, ← world_set (M := M) hf hi rd_wr_other, cellE_arr hcl]
    unfold arrF
    rw [he0]
    rfl
  refine va_bast Cx.1 Cx.2.1 Cx.2.2.2.2.2.2.1 hP (Cx.2.2.2.2.2.2.2.2.2.2.2.2 M) hS (fOff f + i) 1 (he M) rfl (ib_in hin) hdg (fun H1 locs1 hP1 hD1 hS1 => ?_)
  rw [e1] at hP1
  exact k p l e R s m args below meth c cells slots A H0 ad cA D Q Cx F H1 locs1 ls hl hP1 hS1
end CALL
/-- numbers are copied between two rows of the class's -/
def cpM (M : MM) (f i sp g j dp n : Nat) : MM := (cp3 M.1 f i sp g j dp n, M.2)
theorem rd_cp {M : MM} {f i sp g j dp n f' i' k' : Nat} (hf : f < 19) (hg : g < 19) : rdM (cpM M f i sp g j dp n) f' i' k' = if f' = g ∧ i' = j ∧ dp ≤ k' ∧ k' < dp + n then rdM M f i (sp + (k' - dp)) else rdM M f' i' k' := by
  unfold rdM cpM cp3
  by_cases h : f' < 19
  · simp [h, hf]
  · have : ¬ f' = g := by omega
    simp [h, this]
theorem fits_nbB (x : Int32) : fits .byte (.int (nbB x)) = true := by
  have e : (nbB x).toInt = x.toInt8.toInt := Int8.toInt_toInt32 _
  have h1 := Int8.le_toInt x.toInt8
  have h2 := Int8.toInt_lt x.toInt8
  show (decide (-128 ≤ nbB x) && decide (nbB x ≤ 127)) = true
  rw [Bool.and_eq_true, decide_eq_true_eq, decide_eq_true_eq, Int32.le_iff_toInt_le, Int32.le_iff_toInt_le, e]
  exact ⟨h1, by have : (127 : Int32).toInt = 127 := rfl
                omega⟩
section CPY
variable {t : MT} {d idx : Nat} {r : Option AV} {M' : MM} {pc : Nat} {L : List (Nat × AV)} {st : List AV} {M : MM}
/-- what may be copied: both places within -/
def cpok (sp dp n : Int32) (n0 n1 : Nat) : Bool := decide (¬ sp < 0 ∧ ¬ dp < 0 ∧ ¬ n < 0 ∧ sp.toNatClampNeg + n.toNatClampNeg ≤ n0 ∧ dp.toNatClampNeg + n.toNatClampNeg ≤ n1)
theorem G_copy {f i g j : Nat} {sp dp n : Int32} {M2 : MM} (hlk : Cond.methodLink t.1 idx arraycopyName ∈ TB) (hnat : Cond.native arraycopyName ∈ TB) (hsta : Cond.static arraycopyName ∈ TB) (hini : Cond.initialized "java/lang/System" ∈ TB) (hf : f < 19) (hi : i < fCnt f) (hg : g < 19) (hj : j < fCnt g) (hcl : ¬ fCls f < 9) (hclg : ¬ fCls g < 9) (he0 : (fElt f = 0 ∧ fElt g = 0) ∨ (fElt f = 1 ∧ fElt g = 1)) (hin : cpok sp dp n (fLen f) (fLen g) = true) (hd : 1 ≤ d) (hst : st = []) (hM2 : cpM M f i sp.toNatClampNeg g j dp.toNatClampNeg n.toNatClampNeg = M2) (hdg : decode t.2.2.1 pc = .ok (.invokestatic idx, 3)) (k : G t d r M' (pc + 3) L st M2) : G t d r M' pc L (.inl n :: .inl dp :: .inr (.inr (g, j)) :: .inl sp :: .inr (.inr (f, i)) :: st) M := by
  intro p l e R s m args below meth c cells slots A H0 ad cA D Q Cx F H locs ls hl hP hS
  subst hM2; subst hst
  obtain ⟨hx, hb, hml, hown, hts, hN, hK, hdf, hdl, hc, hsl, hA, hD⟩ := id Cx
  obtain ⟨b1, b2, b3, b4, b5⟩ := of_decide_eq_true hin
  have hnf : nativeFrameWords "java/lang/System" "arraycopy" 5 + 11 ≤ 64 := by decide +kernel
  have hw0 : ∀ f' i', ¬ (f' = g ∧ i' = j) → ∀ k', rdM (cpM M f i sp.toNatClampNeg g j dp.toNatClampNeg n.toNatClampNeg) f' i' k' = rdM M f' i' k' := fun f' i' h k' => by
    rw [rd_cp hf hg, if_neg (fun e => h ⟨e.1, e.2.1⟩)]
  rcases he0 with ⟨z1, z2⟩ | ⟨z1, z2⟩
  · have he : ∀ (M : MM) (f i : Nat), f < 19 → i < fCnt f → ¬ fCls f < 9 → fElt f = 0 → (world ad cA M)[fOff f + i]? = some (ad f i, .inl (cA 0, fLen f, .inl (fun j => rdM M f i j))) := by
      intro M f i hf hi hcl he0
      rw [world_at (by omega) hi, cellE_arr hcl]
      unfold arrF
      rw [he0]
      rfl
    have e0 : va_cpy (fun j => rdM M f i j) (fun k => rdM M g j k) sp.toNatClampNeg dp.toNatClampNeg n.toNatClampNeg = (fun k => rdM (cpM M f i sp.toNatClampNeg g j dp.toNatClampNeg n.toNatClampNeg) g j k) := by
      funext k'
      rw [rd_cp hf hg]
      simp [va_cpy]
    have e1 : (world ad cA M).set (fOff g + j) (ad g j, .inl (cA 0, fLen g, .inl (va_cpy (fun j => rdM M f i j) (fun k => rdM M g j k) sp.toNatClampNeg dp.toNatClampNeg n.toNatClampNeg))) = world ad cA (cpM M f i sp.toNatClampNeg g j dp.toNatClampNeg n.toNatClampNeg) := by
      rw [e0, ← world_set (M := M) (by omega) hj hw0, cellE_arr hclg]
      unfold arrF
      rw [z2]
      rfl
    refine va_copyi hx hb (hml.trans hl.1.symm) hown (hts _ hlk) (hts _ hnat) (hts _ hsta) (hts _ hini) hK hP (hD M) hS (fOff f + i) (fOff g + j) 0 0 (he M f i hf hi hcl z1) (he M g j hg hj hclg z2) rfl rfl rfl b1 b2 b3 b4 b5 (fun _ _ => rfl) (by omega) (by show 0 + _ ≤ _; omega) hdg (fun H1 locs1 hP1 hD1 hS1 => ?_)
    rw [e1] at hP1
    exact k p l e R s m args below meth c cells slots A H0 ad cA D Q Cx F H1 locs1 ls hl hP1 hS1
  · have he : ∀ (M : MM) (f i : Nat), f < 19 → i < fCnt f → ¬ fCls f < 9 → fElt f = 1 → (world ad cA M)[fOff f + i]? = some (ad f i, .inl (cA 1, fLen f, .inl (fun j => nbB (rdM M f i j)))) := by
      intro M f i hf hi hcl he0
      rw [world_at (by omega) hi, cellE_arr hcl]
      unfold arrF
      rw [he0]
      rfl
    have e0 : va_cpy (fun j => nbB (rdM M f i j)) (fun k => nbB (rdM M g j k)) sp.toNatClampNeg dp.toNatClampNeg n.toNatClampNeg = (fun k => nbB (rdM (cpM M f i sp.toNatClampNeg g j dp.toNatClampNeg n.toNatClampNeg) g j k)) := by
      funext k'
      rw [rd_cp hf hg]
      by_cases h : dp.toNatClampNeg ≤ k' ∧ k' < dp.toNatClampNeg + n.toNatClampNeg <;> simp [va_cpy, h]
    have e1 : (world ad cA M).set (fOff g + j) (ad g j, .inl (cA 1, fLen g, .inl (va_cpy (fun j => nbB (rdM M f i j)) (fun k => nbB (rdM M g j k)) sp.toNatClampNeg dp.toNatClampNeg n.toNatClampNeg))) = world ad cA (cpM M f i sp.toNatClampNeg g j dp.toNatClampNeg n.toNatClampNeg) := by
      rw [e0, ← world_set (M := M) (by omega) hj hw0, cellE_arr hclg]
      unfold arrF
      rw [z2]
      rfl
    refine va_copyi hx hb (hml.trans hl.1.symm) hown (hts _ hlk) (hts _ hnat) (hts _ hsta) (hts _ hini) hK hP (hD M) hS (fOff f + i) (fOff g + j) 1 1 (he M f i hf hi hcl z1) (he M g j hg hj hclg z2) rfl rfl rfl b1 b2 b3 b4 b5 (fun k _ => ?_) (by omega) (by show 0 + _ ≤ _; omega) hdg (fun H1 locs1 hP1 hD1 hS1 => ?_)
    · exact fits_nbB _
    rw [e1] at hP1
    exact k p l e R s m args below meth c cells slots A H0 ad cA D Q Cx F H1 locs1 ls hl hP1 hS1
end CPY
end
