section
-- ===== PART A: goes FIRST, ahead of the names: the tables' words, and 'selects' of the private methods out of them =====
/-- a private method of a class that the tables say can be made, by its rows of tables_1 -/
def lw_okq (q : MethodName × Nat) : Prop := (q.1.cls ≠ "java/lang/invoke/MethodHandle" ∧ q.1.cls ≠ "java/lang/invoke/VarHandle") ∧ Cond.instantiable q.1.cls q.2 ∈ tables_1 ∧ Cond.privateMethod q.1 ∈ tables_1 ∧ Cond.instanceMethod q.1 ∈ tables_1
theorem lw_p0 : lw_okq (⟨"PotHandles", "fail", "(I)I"⟩, 10) := ⟨⟨by decide +kernel, by decide +kernel⟩, List.mem_of_getElem? (i := 15) (by decide +kernel), List.mem_of_getElem? (i := 264) (by decide +kernel), List.mem_of_getElem? (i := 265) (by decide +kernel)⟩
theorem lw_p1 : lw_okq (⟨"PotHandles$Reader", "readLevel", "(II)Z"⟩, 4) := ⟨⟨by decide +kernel, by decide +kernel⟩, List.mem_of_getElem? (i := 156) (by decide +kernel), List.mem_of_getElem? (i := 358) (by decide +kernel), List.mem_of_getElem? (i := 359) (by decide +kernel)⟩
theorem lw_p2 : lw_okq (⟨"PotHandles$Reader", "readLast", "(I)Z"⟩, 4) := ⟨⟨by decide +kernel, by decide +kernel⟩, List.mem_of_getElem? (i := 156) (by decide +kernel), List.mem_of_getElem? (i := 362) (by decide +kernel), List.mem_of_getElem? (i := 363) (by decide +kernel)⟩
theorem lw_p3 : lw_okq (⟨"PotHandles$Reader", "next", "()I"⟩, 4) := ⟨⟨by decide +kernel, by decide +kernel⟩, List.mem_of_getElem? (i := 156) (by decide +kernel), List.mem_of_getElem? (i := 366) (by decide +kernel), List.mem_of_getElem? (i := 367) (by decide +kernel)⟩
theorem lw_p4 : lw_okq (⟨"PotHandles$Reader", "readNumber", "()V"⟩, 4) := ⟨⟨by decide +kernel, by decide +kernel⟩, List.mem_of_getElem? (i := 156) (by decide +kernel), List.mem_of_getElem? (i := 373) (by decide +kernel), List.mem_of_getElem? (i := 374) (by decide +kernel)⟩
theorem lw_p5 : lw_okq (⟨"PotHandles$Reader", "nameOf", "(I)I"⟩, 4) := ⟨⟨by decide +kernel, by decide +kernel⟩, List.mem_of_getElem? (i := 156) (by decide +kernel), List.mem_of_getElem? (i := 381) (by decide +kernel), List.mem_of_getElem? (i := 382) (by decide +kernel)⟩
theorem lw_p6 : lw_okq (⟨"PotHandles$District", "passYearOf", "(LPotHandles$Pot;I)V"⟩, 8) := ⟨⟨by decide +kernel, by decide +kernel⟩, List.mem_of_getElem? (i := 23) (by decide +kernel), List.mem_of_getElem? (i := 437) (by decide +kernel), List.mem_of_getElem? (i := 438) (by decide +kernel)⟩
theorem lw_p7 : lw_okq (⟨"PotHandles", "behind", "(I)LPotHandles$District;"⟩, 10) := ⟨⟨by decide +kernel, by decide +kernel⟩, List.mem_of_getElem? (i := 15) (by decide +kernel), List.mem_of_getElem? (i := 478) (by decide +kernel), List.mem_of_getElem? (i := 479) (by decide +kernel)⟩
theorem lw_p8 : lw_okq (⟨"PotHandles", "whenMoved", "(III)LPotHandles$Pot;"⟩, 10) := ⟨⟨by decide +kernel, by decide +kernel⟩, List.mem_of_getElem? (i := 15) (by decide +kernel), List.mem_of_getElem? (i := 508) (by decide +kernel), List.mem_of_getElem? (i := 509) (by decide +kernel)⟩
theorem lw_p9 : lw_okq (⟨"PotHandles", "haveHandlesIfCaredFor", "(III)Z"⟩, 10) := ⟨⟨by decide +kernel, by decide +kernel⟩, List.mem_of_getElem? (i := 15) (by decide +kernel), List.mem_of_getElem? (i := 525) (by decide +kernel), List.mem_of_getElem? (i := 526) (by decide +kernel)⟩
theorem lw_p10 : lw_okq (⟨"PotHandles", "isLikedAsTold", "(LPotHandles$Sheet;II)Z"⟩, 10) := ⟨⟨by decide +kernel, by decide +kernel⟩, List.mem_of_getElem? (i := 15) (by decide +kernel), List.mem_of_getElem? (i := 540) (by decide +kernel), List.mem_of_getElem? (i := 541) (by decide +kernel)⟩
theorem lw_p11 : lw_okq (⟨"PotHandles", "handlesIfStuck", "(II)I"⟩, 10) := ⟨⟨by decide +kernel, by decide +kernel⟩, List.mem_of_getElem? (i := 15) (by decide +kernel), List.mem_of_getElem? (i := 565) (by decide +kernel), List.mem_of_getElem? (i := 566) (by decide +kernel)⟩
theorem lw_p12 : lw_okq (⟨"PotHandles", "whenBeing", "(III)LPotHandles$Pot;"⟩, 10) := ⟨⟨by decide +kernel, by decide +kernel⟩, List.mem_of_getElem? (i := 15) (by decide +kernel), List.mem_of_getElem? (i := 573) (by decide +kernel), List.mem_of_getElem? (i := 574) (by decide +kernel)⟩
theorem lw_p13 : lw_okq (⟨"PotHandles$Voices", "say", "(IIII)I"⟩, 5) := ⟨⟨by decide +kernel, by decide +kernel⟩, List.mem_of_getElem? (i := 179) (by decide +kernel), List.mem_of_getElem? (i := 589) (by decide +kernel), List.mem_of_getElem? (i := 590) (by decide +kernel)⟩
theorem lw_p14 : lw_okq (⟨"PotHandles$Voices", "begin", "(I)V"⟩, 5) := ⟨⟨by decide +kernel, by decide +kernel⟩, List.mem_of_getElem? (i := 179) (by decide +kernel), List.mem_of_getElem? (i := 596) (by decide +kernel), List.mem_of_getElem? (i := 597) (by decide +kernel)⟩
theorem lw_p15 : lw_okq (⟨"PotHandles$Voices", "sayBody", "(III)I"⟩, 5) := ⟨⟨by decide +kernel, by decide +kernel⟩, List.mem_of_getElem? (i := 179) (by decide +kernel), List.mem_of_getElem? (i := 600) (by decide +kernel), List.mem_of_getElem? (i := 601) (by decide +kernel)⟩
def lw_privs_1 : List (MethodName × Nat) := [(⟨"PotHandles", "fail", "(I)I"⟩, 10), (⟨"PotHandles$Reader", "readLevel", "(II)Z"⟩, 4), (⟨"PotHandles$Reader", "readLast", "(I)Z"⟩, 4), (⟨"PotHandles$Reader", "next", "()I"⟩, 4), (⟨"PotHandles$Reader", "readNumber", "()V"⟩, 4), (⟨"PotHandles$Reader", "nameOf", "(I)I"⟩, 4), (⟨"PotHandles$District", "passYearOf", "(LPotHandles$Pot;I)V"⟩, 8), (⟨"PotHandles", "behind", "(I)LPotHandles$District;"⟩, 10), (⟨"PotHandles", "whenMoved", "(III)LPotHandles$Pot;"⟩, 10), (⟨"PotHandles", "haveHandlesIfCaredFor", "(III)Z"⟩, 10), (⟨"PotHandles", "isLikedAsTold", "(LPotHandles$Sheet;II)Z"⟩, 10), (⟨"PotHandles", "handlesIfStuck", "(II)I"⟩, 10), (⟨"PotHandles", "whenBeing", "(III)LPotHandles$Pot;"⟩, 10), (⟨"PotHandles$Voices", "say", "(IIII)I"⟩, 5), (⟨"PotHandles$Voices", "begin", "(I)V"⟩, 5), (⟨"PotHandles$Voices", "sayBody", "(III)I"⟩, 5)]
theorem lw_r1 : ∀ q ∈ lw_privs_1, lw_okq q := List.forall_mem_cons.mpr ⟨lw_p0, List.forall_mem_cons.mpr ⟨lw_p1, List.forall_mem_cons.mpr ⟨lw_p2, List.forall_mem_cons.mpr ⟨lw_p3, List.forall_mem_cons.mpr ⟨lw_p4, List.forall_mem_cons.mpr ⟨lw_p5, List.forall_mem_cons.mpr ⟨lw_p6, List.forall_mem_cons.mpr ⟨lw_p7, List.forall_mem_cons.mpr ⟨lw_p8, List.forall_mem_cons.mpr ⟨lw_p9, List.forall_mem_cons.mpr ⟨lw_p10, List.forall_mem_cons.mpr ⟨lw_p11, List.forall_mem_cons.mpr ⟨lw_p12, List.forall_mem_cons.mpr ⟨lw_p13, List.forall_mem_cons.mpr ⟨lw_p14, List.forall_mem_cons.mpr ⟨lw_p15, fun _ h => absurd h List.not_mem_nil⟩⟩⟩⟩⟩⟩⟩⟩⟩⟩⟩⟩⟩⟩⟩⟩
theorem lw_p16 : lw_okq (⟨"PotHandles$Voices", "sayAbove", "(IIII)I"⟩, 5) := ⟨⟨by decide +kernel, by decide +kernel⟩, List.mem_of_getElem? (i := 179) (by decide +kernel), List.mem_of_getElem? (i := 604) (by decide +kernel), List.mem_of_getElem? (i := 605) (by decide +kernel)⟩
theorem lw_p17 : lw_okq (⟨"PotHandlesModel", "finds", "(I)I"⟩, 22) := ⟨⟨by decide +kernel, by decide +kernel⟩, List.mem_of_getElem? (i := 680) (by decide +kernel), List.mem_of_getElem? (i := 761) (by decide +kernel), List.mem_of_getElem? (i := 762) (by decide +kernel)⟩
theorem lw_p18 : lw_okq (⟨"PotHandlesModel", "reads", "(III)V"⟩, 22) := ⟨⟨by decide +kernel, by decide +kernel⟩, List.mem_of_getElem? (i := 680) (by decide +kernel), List.mem_of_getElem? (i := 771) (by decide +kernel), List.mem_of_getElem? (i := 772) (by decide +kernel)⟩
theorem lw_p19 : lw_okq (⟨"PotHandlesModel", "either", "()V"⟩, 22) := ⟨⟨by decide +kernel, by decide +kernel⟩, List.mem_of_getElem? (i := 680) (by decide +kernel), List.mem_of_getElem? (i := 775) (by decide +kernel), List.mem_of_getElem? (i := 776) (by decide +kernel)⟩
theorem lw_p20 : lw_okq (⟨"PotHandlesModel", "both", "()V"⟩, 22) := ⟨⟨by decide +kernel, by decide +kernel⟩, List.mem_of_getElem? (i := 680) (by decide +kernel), List.mem_of_getElem? (i := 779) (by decide +kernel), List.mem_of_getElem? (i := 780) (by decide +kernel)⟩
theorem lw_p21 : lw_okq (⟨"PotHandlesModel", "compared", "()V"⟩, 22) := ⟨⟨by decide +kernel, by decide +kernel⟩, List.mem_of_getElem? (i := 680) (by decide +kernel), List.mem_of_getElem? (i := 783) (by decide +kernel), List.mem_of_getElem? (i := 784) (by decide +kernel)⟩
theorem lw_p22 : lw_okq (⟨"PotHandlesModel", "sum", "()V"⟩, 22) := ⟨⟨by decide +kernel, by decide +kernel⟩, List.mem_of_getElem? (i := 680) (by decide +kernel), List.mem_of_getElem? (i := 787) (by decide +kernel), List.mem_of_getElem? (i := 788) (by decide +kernel)⟩
theorem lw_p23 : lw_okq (⟨"PotHandlesModel", "product", "()V"⟩, 22) := ⟨⟨by decide +kernel, by decide +kernel⟩, List.mem_of_getElem? (i := 680) (by decide +kernel), List.mem_of_getElem? (i := 791) (by decide +kernel), List.mem_of_getElem? (i := 792) (by decide +kernel)⟩
theorem lw_p24 : lw_okq (⟨"PotHandlesModel", "unit", "()V"⟩, 22) := ⟨⟨by decide +kernel, by decide +kernel⟩, List.mem_of_getElem? (i := 680) (by decide +kernel), List.mem_of_getElem? (i := 795) (by decide +kernel), List.mem_of_getElem? (i := 796) (by decide +kernel)⟩
theorem lw_p25 : lw_okq (⟨"PotHandlesModel", "here", "()I"⟩, 22) := ⟨⟨by decide +kernel, by decide +kernel⟩, List.mem_of_getElem? (i := 680) (by decide +kernel), List.mem_of_getElem? (i := 799) (by decide +kernel), List.mem_of_getElem? (i := 800) (by decide +kernel)⟩
theorem lw_p26 : lw_okq (⟨"PotHandlesModel", "opens", "(I)V"⟩, 22) := ⟨⟨by decide +kernel, by decide +kernel⟩, List.mem_of_getElem? (i := 680) (by decide +kernel), List.mem_of_getElem? (i := 803) (by decide +kernel), List.mem_of_getElem? (i := 804) (by decide +kernel)⟩
theorem lw_p27 : lw_okq (⟨"PotHandlesModel", "wrong", "()V"⟩, 22) := ⟨⟨by decide +kernel, by decide +kernel⟩, List.mem_of_getElem? (i := 680) (by decide +kernel), List.mem_of_getElem? (i := 807) (by decide +kernel), List.mem_of_getElem? (i := 808) (by decide +kernel)⟩
theorem lw_p28 : lw_okq (⟨"PotHandlesModel", "lay", "(I)V"⟩, 22) := ⟨⟨by decide +kernel, by decide +kernel⟩, List.mem_of_getElem? (i := 680) (by decide +kernel), List.mem_of_getElem? (i := 811) (by decide +kernel), List.mem_of_getElem? (i := 812) (by decide +kernel)⟩
theorem lw_p29 : lw_okq (⟨"PotHandlesModel", "takes", "(I)Z"⟩, 22) := ⟨⟨by decide +kernel, by decide +kernel⟩, List.mem_of_getElem? (i := 680) (by decide +kernel), List.mem_of_getElem? (i := 815) (by decide +kernel), List.mem_of_getElem? (i := 816) (by decide +kernel)⟩
theorem lw_p30 : lw_okq (⟨"PotHandlesModel", "nameOf", "(I)I"⟩, 22) := ⟨⟨by decide +kernel, by decide +kernel⟩, List.mem_of_getElem? (i := 680) (by decide +kernel), List.mem_of_getElem? (i := 819) (by decide +kernel), List.mem_of_getElem? (i := 820) (by decide +kernel)⟩
theorem lw_p31 : lw_okq (⟨"PotHandlesModel", "textGives", "(IIII)I"⟩, 22) := ⟨⟨by decide +kernel, by decide +kernel⟩, List.mem_of_getElem? (i := 680) (by decide +kernel), List.mem_of_getElem? (i := 829) (by decide +kernel), List.mem_of_getElem? (i := 830) (by decide +kernel)⟩
def lw_privs_2 : List (MethodName × Nat) := [(⟨"PotHandles$Voices", "sayAbove", "(IIII)I"⟩, 5), (⟨"PotHandlesModel", "finds", "(I)I"⟩, 22), (⟨"PotHandlesModel", "reads", "(III)V"⟩, 22), (⟨"PotHandlesModel", "either", "()V"⟩, 22), (⟨"PotHandlesModel", "both", "()V"⟩, 22), (⟨"PotHandlesModel", "compared", "()V"⟩, 22), (⟨"PotHandlesModel", "sum", "()V"⟩, 22), (⟨"PotHandlesModel", "product", "()V"⟩, 22), (⟨"PotHandlesModel", "unit", "()V"⟩, 22), (⟨"PotHandlesModel", "here", "()I"⟩, 22), (⟨"PotHandlesModel", "opens", "(I)V"⟩, 22), (⟨"PotHandlesModel", "wrong", "()V"⟩, 22), (⟨"PotHandlesModel", "lay", "(I)V"⟩, 22), (⟨"PotHandlesModel", "takes", "(I)Z"⟩, 22), (⟨"PotHandlesModel", "nameOf", "(I)I"⟩, 22), (⟨"PotHandlesModel", "textGives", "(IIII)I"⟩, 22)]
theorem lw_r2 : ∀ q ∈ lw_privs_2, lw_okq q := List.forall_mem_cons.mpr ⟨lw_p16, List.forall_mem_cons.mpr ⟨lw_p17, List.forall_mem_cons.mpr ⟨lw_p18, List.forall_mem_cons.mpr ⟨lw_p19, List.forall_mem_cons.mpr ⟨lw_p20, List.forall_mem_cons.mpr ⟨lw_p21, List.forall_mem_cons.mpr ⟨lw_p22, List.forall_mem_cons.mpr ⟨lw_p23, List.forall_mem_cons.mpr ⟨lw_p24, List.forall_mem_cons.mpr ⟨lw_p25, List.forall_mem_cons.mpr ⟨lw_p26, List.forall_mem_cons.mpr ⟨lw_p27, List.forall_mem_cons.mpr ⟨lw_p28, List.forall_mem_cons.mpr ⟨lw_p29, List.forall_mem_cons.mpr ⟨lw_p30, List.forall_mem_cons.mpr ⟨lw_p31, fun _ h => absurd h List.not_mem_nil⟩⟩⟩⟩⟩⟩⟩⟩⟩⟩⟩⟩⟩⟩⟩⟩
theorem lw_p32 : lw_okq (⟨"PotHandlesModel", "worked", "(II)I"⟩, 22) := ⟨⟨by decide +kernel, by decide +kernel⟩, List.mem_of_getElem? (i := 680) (by decide +kernel), List.mem_of_getElem? (i := 833) (by decide +kernel), List.mem_of_getElem? (i := 834) (by decide +kernel)⟩
theorem lw_p33 : lw_okq (⟨"PotHandlesModel", "setOf", "(I)I"⟩, 22) := ⟨⟨by decide +kernel, by decide +kernel⟩, List.mem_of_getElem? (i := 680) (by decide +kernel), List.mem_of_getElem? (i := 857) (by decide +kernel), List.mem_of_getElem? (i := 858) (by decide +kernel)⟩
theorem lw_p34 : lw_okq (⟨"PotHandlesModel", "of", "(II)I"⟩, 22) := ⟨⟨by decide +kernel, by decide +kernel⟩, List.mem_of_getElem? (i := 680) (by decide +kernel), List.mem_of_getElem? (i := 861) (by decide +kernel), List.mem_of_getElem? (i := 862) (by decide +kernel)⟩
theorem lw_p35 : lw_okq (⟨"PotHandlesModel", "isBroken", "(I)Z"⟩, 22) := ⟨⟨by decide +kernel, by decide +kernel⟩, List.mem_of_getElem? (i := 680) (by decide +kernel), List.mem_of_getElem? (i := 865) (by decide +kernel), List.mem_of_getElem? (i := 866) (by decide +kernel)⟩
theorem lw_p36 : lw_okq (⟨"PotHandlesModel", "sets", "(III)V"⟩, 22) := ⟨⟨by decide +kernel, by decide +kernel⟩, List.mem_of_getElem? (i := 680) (by decide +kernel), List.mem_of_getElem? (i := 874) (by decide +kernel), List.mem_of_getElem? (i := 875) (by decide +kernel)⟩
theorem lw_p37 : lw_okq (⟨"PotHandlesModel", "isPot", "(I)Z"⟩, 22) := ⟨⟨by decide +kernel, by decide +kernel⟩, List.mem_of_getElem? (i := 680) (by decide +kernel), List.mem_of_getElem? (i := 882) (by decide +kernel), List.mem_of_getElem? (i := 883) (by decide +kernel)⟩
theorem lw_p38 : lw_okq (⟨"PotHandlesModel", "wants", "(I)I"⟩, 22) := ⟨⟨by decide +kernel, by decide +kernel⟩, List.mem_of_getElem? (i := 680) (by decide +kernel), List.mem_of_getElem? (i := 886) (by decide +kernel), List.mem_of_getElem? (i := 887) (by decide +kernel)⟩
theorem lw_p39 : lw_okq (⟨"PotHandlesModel", "bears", "(I)I"⟩, 22) := ⟨⟨by decide +kernel, by decide +kernel⟩, List.mem_of_getElem? (i := 680) (by decide +kernel), List.mem_of_getElem? (i := 890) (by decide +kernel), List.mem_of_getElem? (i := 891) (by decide +kernel)⟩
theorem lw_p40 : lw_okq (⟨"PotHandlesModel", "moves", "(II)V"⟩, 22) := ⟨⟨by decide +kernel, by decide +kernel⟩, List.mem_of_getElem? (i := 680) (by decide +kernel), List.mem_of_getElem? (i := 903) (by decide +kernel), List.mem_of_getElem? (i := 904) (by decide +kernel)⟩
theorem lw_p41 : lw_okq (⟨"PotHandlesModel", "yearsGo", "(I)V"⟩, 22) := ⟨⟨by decide +kernel, by decide +kernel⟩, List.mem_of_getElem? (i := 680) (by decide +kernel), List.mem_of_getElem? (i := 928) (by decide +kernel), List.mem_of_getElem? (i := 929) (by decide +kernel)⟩
theorem lw_p42 : lw_okq (⟨"PotHandlesModel", "potGoes", "(I)V"⟩, 22) := ⟨⟨by decide +kernel, by decide +kernel⟩, List.mem_of_getElem? (i := 680) (by decide +kernel), List.mem_of_getElem? (i := 932) (by decide +kernel), List.mem_of_getElem? (i := 933) (by decide +kernel)⟩
theorem lw_p43 : lw_okq (⟨"PotHandlesModel", "warms", "(I)I"⟩, 22) := ⟨⟨by decide +kernel, by decide +kernel⟩, List.mem_of_getElem? (i := 680) (by decide +kernel), List.mem_of_getElem? (i := 936) (by decide +kernel), List.mem_of_getElem? (i := 937) (by decide +kernel)⟩
theorem lw_p44 : lw_okq (⟨"PotHandlesModel", "manyIn", "(I)I"⟩, 22) := ⟨⟨by decide +kernel, by decide +kernel⟩, List.mem_of_getElem? (i := 680) (by decide +kernel), List.mem_of_getElem? (i := 940) (by decide +kernel), List.mem_of_getElem? (i := 941) (by decide +kernel)⟩
theorem lw_p45 : lw_okq (⟨"PotHandlesModel", "handles", "()I"⟩, 22) := ⟨⟨by decide +kernel, by decide +kernel⟩, List.mem_of_getElem? (i := 680) (by decide +kernel), List.mem_of_getElem? (i := 944) (by decide +kernel), List.mem_of_getElem? (i := 945) (by decide +kernel)⟩
theorem lw_p46 : lw_okq (⟨"PotHandlesModel", "drawn", "()I"⟩, 22) := ⟨⟨by decide +kernel, by decide +kernel⟩, List.mem_of_getElem? (i := 680) (by decide +kernel), List.mem_of_getElem? (i := 953) (by decide +kernel), List.mem_of_getElem? (i := 954) (by decide +kernel)⟩
theorem lw_p47 : lw_okq (⟨"PotHandlesModel", "keepAside", "()V"⟩, 22) := ⟨⟨by decide +kernel, by decide +kernel⟩, List.mem_of_getElem? (i := 680) (by decide +kernel), List.mem_of_getElem? (i := 962) (by decide +kernel), List.mem_of_getElem? (i := 963) (by decide +kernel)⟩
def lw_privs_3 : List (MethodName × Nat) := [(⟨"PotHandlesModel", "worked", "(II)I"⟩, 22), (⟨"PotHandlesModel", "setOf", "(I)I"⟩, 22), (⟨"PotHandlesModel", "of", "(II)I"⟩, 22), (⟨"PotHandlesModel", "isBroken", "(I)Z"⟩, 22), (⟨"PotHandlesModel", "sets", "(III)V"⟩, 22), (⟨"PotHandlesModel", "isPot", "(I)Z"⟩, 22), (⟨"PotHandlesModel", "wants", "(I)I"⟩, 22), (⟨"PotHandlesModel", "bears", "(I)I"⟩, 22), (⟨"PotHandlesModel", "moves", "(II)V"⟩, 22), (⟨"PotHandlesModel", "yearsGo", "(I)V"⟩, 22), (⟨"PotHandlesModel", "potGoes", "(I)V"⟩, 22), (⟨"PotHandlesModel", "warms", "(I)I"⟩, 22), (⟨"PotHandlesModel", "manyIn", "(I)I"⟩, 22), (⟨"PotHandlesModel", "handles", "()I"⟩, 22), (⟨"PotHandlesModel", "drawn", "()I"⟩, 22), (⟨"PotHandlesModel", "keepAside", "()V"⟩, 22)]
theorem lw_r3 : ∀ q ∈ lw_privs_3, lw_okq q := List.forall_mem_cons.mpr ⟨lw_p32, List.forall_mem_cons.mpr ⟨lw_p33, List.forall_mem_cons.mpr ⟨lw_p34, List.forall_mem_cons.mpr ⟨lw_p35, List.forall_mem_cons.mpr ⟨lw_p36, List.forall_mem_cons.mpr ⟨lw_p37, List.forall_mem_cons.mpr ⟨lw_p38, List.forall_mem_cons.mpr ⟨lw_p39, List.forall_mem_cons.mpr ⟨lw_p40, List.forall_mem_cons.mpr ⟨lw_p41, List.forall_mem_cons.mpr ⟨lw_p42, List.forall_mem_cons.mpr ⟨lw_p43, List.forall_mem_cons.mpr ⟨lw_p44, List.forall_mem_cons.mpr ⟨lw_p45, List.forall_mem_cons.mpr ⟨lw_p46, List.forall_mem_cons.mpr ⟨lw_p47, fun _ h => absurd h List.not_mem_nil⟩⟩⟩⟩⟩⟩⟩⟩⟩⟩⟩⟩⟩⟩⟩⟩
theorem lw_p48 : lw_okq (⟨"PotHandlesModel", "putBack", "()V"⟩, 22) := ⟨⟨by decide +kernel, by decide +kernel⟩, List.mem_of_getElem? (i := 680) (by decide +kernel), List.mem_of_getElem? (i := 966) (by decide +kernel), List.mem_of_getElem? (i := 967) (by decide +kernel)⟩
theorem lw_p49 : lw_okq (⟨"PotHandlesModel", "holdsBy", "(II)I"⟩, 22) := ⟨⟨by decide +kernel, by decide +kernel⟩, List.mem_of_getElem? (i := 680) (by decide +kernel), List.mem_of_getElem? (i := 1034) (by decide +kernel), List.mem_of_getElem? (i := 1035) (by decide +kernel)⟩
theorem lw_p50 : lw_okq (⟨"PotHandlesModel", "ran", "(I)V"⟩, 22) := ⟨⟨by decide +kernel, by decide +kernel⟩, List.mem_of_getElem? (i := 680) (by decide +kernel), List.mem_of_getElem? (i := 1038) (by decide +kernel), List.mem_of_getElem? (i := 1039) (by decide +kernel)⟩
theorem lw_p51 : lw_okq (⟨"PotHandlesModel", "warmsBy", "(II)I"⟩, 22) := ⟨⟨by decide +kernel, by decide +kernel⟩, List.mem_of_getElem? (i := 680) (by decide +kernel), List.mem_of_getElem? (i := 1042) (by decide +kernel), List.mem_of_getElem? (i := 1043) (by decide +kernel)⟩
theorem lw_p52 : lw_okq (⟨"PotHandlesModel", "growsBy", "(II)I"⟩, 22) := ⟨⟨by decide +kernel, by decide +kernel⟩, List.mem_of_getElem? (i := 680) (by decide +kernel), List.mem_of_getElem? (i := 1046) (by decide +kernel), List.mem_of_getElem? (i := 1047) (by decide +kernel)⟩
theorem lw_p53 : lw_okq (⟨"PotHandlesModel", "tellsBy", "(II)I"⟩, 22) := ⟨⟨by decide +kernel, by decide +kernel⟩, List.mem_of_getElem? (i := 680) (by decide +kernel), List.mem_of_getElem? (i := 1050) (by decide +kernel), List.mem_of_getElem? (i := 1051) (by decide +kernel)⟩
def lw_privs_4 : List (MethodName × Nat) := [(⟨"PotHandlesModel", "putBack", "()V"⟩, 22), (⟨"PotHandlesModel", "holdsBy", "(II)I"⟩, 22), (⟨"PotHandlesModel", "ran", "(I)V"⟩, 22), (⟨"PotHandlesModel", "warmsBy", "(II)I"⟩, 22), (⟨"PotHandlesModel", "growsBy", "(II)I"⟩, 22), (⟨"PotHandlesModel", "tellsBy", "(II)I"⟩, 22)]
theorem lw_r4 : ∀ q ∈ lw_privs_4, lw_okq q := List.forall_mem_cons.mpr ⟨lw_p48, List.forall_mem_cons.mpr ⟨lw_p49, List.forall_mem_cons.mpr ⟨lw_p50, List.forall_mem_cons.mpr ⟨lw_p51, List.forall_mem_cons.mpr ⟨lw_p52, List.forall_mem_cons.mpr ⟨lw_p53, fun _ h => absurd h List.not_mem_nil⟩⟩⟩⟩⟩⟩
def lw_privs : List (MethodName × Nat) := lw_privs_1 ++ (lw_privs_2 ++ (lw_privs_3 ++ (lw_privs_4)))
def lw_tbl : List Cond := k2_sels lw_privs ++ tables_1
theorem lw_privs_ok : ∀ q ∈ lw_privs, lw_okq q := by
  show ∀ q ∈ lw_privs_1 ++ (lw_privs_2 ++ (lw_privs_3 ++ (lw_privs_4))), lw_okq q
  exact List.forall_mem_append.mpr ⟨lw_r1, List.forall_mem_append.mpr ⟨lw_r2, List.forall_mem_append.mpr ⟨lw_r3, lw_r4⟩⟩⟩
def RX0 : String := "PotHandles$Desk"
def TX0 : u_T := fun k => match k with
  | 0 => ("PotHandles$Desk", "tape", "[B", true)
  | 1 => ("PotHandles$Desk", "waiting", "[I", true)
  | 2 => ("PotHandles$Desk", "taped", "I", false)
  | 3 => ("PotHandles$Desk", "waits", "I", false)
  | _ => ("PotHandles$Desk", "z", "I", false)
def tyX0 : Nat → FieldType := fun k => match k with
  | 0 => .array .byte
  | 1 => .array .int
  | 2 => .int
  | 3 => .int
  | _ => .int
abbrev wsX00 : List Cond := u_ws RX0 TX0 5
theorem nmX0 : ∀ a, a < 5 → ∀ b, b < 5 → a ≠ b → (TX0 a).2.1 ≠ (TX0 b).2.1 := by decide +kernel
theorem tyX0_ok : ∀ k, k < 5 → parseFieldDescriptor (TX0 k).2.2.1 = some (tyX0 k) := by decide +kernel
abbrev cX0_init : ByteArray := prog_2_method_1_code
def yX0_init : MethodName := ⟨RX0, "<init>", "()V"⟩
abbrev cX0_copy : ByteArray := prog_2_method_2_code
def yX0_copy : MethodName := ⟨RX0, "copy", "(LPotHandles$Desk;)V"⟩
abbrev cX0_draw : ByteArray := prog_2_method_3_code
def yX0_draw : MethodName := ⟨RX0, "draw", "()I"⟩
def RX1 : String := "PotHandles$District"
def TX1 : u_T := fun k => match k with
  | 0 => ("PotHandles$District", "hands", "[I", true)
  | 1 => ("PotHandles$District", "care", "[I", true)
  | 2 => ("PotHandles$District", "row", "[LPotHandles$Pot;", true)
  | 3 => ("PotHandles$District", "warmth", "LPotHandles$Law;", true)
  | 4 => ("PotHandles$District", "breaking", "LPotHandles$Law;", true)
  | 5 => ("PotHandles$District", "pots", "I", false)
  | 6 => ("PotHandles$District", "year", "I", false)
  | _ => ("PotHandles$District", "broken", "I", false)
def tyX1 : Nat → FieldType := fun k => match k with
  | 0 => .array .int
  | 1 => .array .int
  | 2 => .array (.object "PotHandles$Pot")
  | 3 => .object "PotHandles$Law"
  | 4 => .object "PotHandles$Law"
  | 5 => .int
  | 6 => .int
  | _ => .int
abbrev wsX10 : List Cond := u_ws RX1 TX1 8
theorem nmX1 : ∀ a, a < 8 → ∀ b, b < 8 → a ≠ b → (TX1 a).2.1 ≠ (TX1 b).2.1 := by decide +kernel
theorem tyX1_ok : ∀ k, k < 8 → parseFieldDescriptor (TX1 k).2.2.1 = some (tyX1 k) := by decide +kernel
abbrev cX1_init : ByteArray := prog_3_method_1_code
def yX1_init : MethodName := ⟨RX1, "<init>", "()V"⟩
abbrev cX1_copy : ByteArray := prog_3_method_2_code
def yX1_copy : MethodName := ⟨RX1, "copy", "(LPotHandles$District;)V"⟩
abbrev cX1_has : ByteArray := prog_3_method_3_code
def yX1_has : MethodName := ⟨RX1, "has", "(I)Z"⟩
abbrev cX1_lawOf : ByteArray := prog_3_method_4_code
def yX1_lawOf : MethodName := ⟨RX1, "lawOf", "(I)LPotHandles$Law;"⟩
abbrev cX1_given : ByteArray := prog_3_method_5_code
def yX1_given : MethodName := ⟨RX1, "given", "(IIII)I"⟩
abbrev cX1_passYears : ByteArray := prog_3_method_6_code
def yX1_passYears : MethodName := ⟨RX1, "passYears", "(I)V"⟩
abbrev cX1_passYearOf : ByteArray := prog_3_method_7_code
def yX1_passYearOf : MethodName := ⟨RX1, "passYearOf", "(LPotHandles$Pot;I)V"⟩
abbrev cX1_potsIn : ByteArray := prog_3_method_8_code
def yX1_potsIn : MethodName := ⟨RX1, "potsIn", "(I)I"⟩
abbrev cX1_potsWithHandle : ByteArray := prog_3_method_9_code
def yX1_potsWithHandle : MethodName := ⟨RX1, "potsWithHandle", "()I"⟩
abbrev cX1_falsePots : ByteArray := prog_3_method_10_code
def yX1_falsePots : MethodName := ⟨RX1, "falsePots", "()I"⟩
abbrev cX1_allPots : ByteArray := prog_3_method_11_code
def yX1_allPots : MethodName := ⟨RX1, "allPots", "()I"⟩
abbrev cX1_allHandles : ByteArray := prog_3_method_12_code
def yX1_allHandles : MethodName := ⟨RX1, "allHandles", "()I"⟩
abbrev cX1_handlesIn : ByteArray := prog_3_method_13_code
def yX1_handlesIn : MethodName := ⟨RX1, "handlesIn", "(I)I"⟩
def RX2 : String := "PotHandles$Law"
def TX2 : u_T := fun k => match k with
  | 0 => ("PotHandles$Law", "signs", "[I", true)
  | 1 => ("PotHandles$Law", "stack", "[I", true)
  | _ => ("PotHandles$Law", "length", "I", false)
def tyX2 : Nat → FieldType := fun k => match k with
  | 0 => .array .int
  | 1 => .array .int
  | _ => .int
abbrev wsX20 : List Cond := u_ws RX2 TX2 3
theorem nmX2 : ∀ a, a < 3 → ∀ b, b < 3 → a ≠ b → (TX2 a).2.1 ≠ (TX2 b).2.1 := by decide +kernel
theorem tyX2_ok : ∀ k, k < 3 → parseFieldDescriptor (TX2 k).2.2.1 = some (tyX2 k) := by decide +kernel
abbrev cX2_init : ByteArray := prog_4_method_1_code
def yX2_init : MethodName := ⟨RX2, "<init>", "()V"⟩
abbrev cX2_stands : ByteArray := prog_4_method_2_code
def yX2_stands : MethodName := ⟨RX2, "stands", "()Z"⟩
abbrev cX2_clear : ByteArray := prog_4_method_3_code
def yX2_clear : MethodName := ⟨RX2, "clear", "()V"⟩
abbrev cX2_add : ByteArray := prog_4_method_4_code
def yX2_add : MethodName := ⟨RX2, "add", "(I)V"⟩
abbrev cX2_copy : ByteArray := prog_4_method_5_code
def yX2_copy : MethodName := ⟨RX2, "copy", "(LPotHandles$Law;)V"⟩
abbrev cX2_workedOut : ByteArray := prog_4_method_6_code
def yX2_workedOut : MethodName := ⟨RX2, "workedOut", "(III)I"⟩
abbrev cX2_namedOrNumber : ByteArray := prog_4_method_7_code
def yX2_namedOrNumber : MethodName := ⟨RX2, "namedOrNumber", "(IIII)I"⟩
abbrev cX2_joined : ByteArray := prog_4_method_8_code
def yX2_joined : MethodName := ⟨RX2, "joined", "(III)I"⟩
def RX3 : String := "PotHandles$Pot"
def TX3 : u_T := fun k => match k with
  | 0 => ("PotHandles$Pot", "kind", "I", false)
  | 1 => ("PotHandles$Pot", "m", "I", false)
  | 2 => ("PotHandles$Pot", "home", "I", false)
  | 3 => ("PotHandles$Pot", "used", "I", false)
  | 4 => ("PotHandles$Pot", "liked", "I", false)
  | 5 => ("PotHandles$Pot", "years", "I", false)
  | 6 => ("PotHandles$Pot", "handles", "I", false)
  | _ => ("PotHandles$Pot", "isFalse", "Z", false)
def tyX3 : Nat → FieldType := fun k => match k with
  | 0 => .int
  | 1 => .int
  | 2 => .int
  | 3 => .int
  | 4 => .int
  | 5 => .int
  | 6 => .int
  | _ => .boolean
abbrev wsX30 : List Cond := u_ws RX3 TX3 8
theorem nmX3 : ∀ a, a < 8 → ∀ b, b < 8 → a ≠ b → (TX3 a).2.1 ≠ (TX3 b).2.1 := by decide +kernel
theorem tyX3_ok : ∀ k, k < 8 → parseFieldDescriptor (TX3 k).2.2.1 = some (tyX3 k) := by decide +kernel
abbrev cX3_init : ByteArray := prog_5_method_1_code
def yX3_init : MethodName := ⟨RX3, "<init>", "()V"⟩
abbrev cX3_begin : ByteArray := prog_5_method_2_code
def yX3_begin : MethodName := ⟨RX3, "begin", "(III)V"⟩
abbrev cX3_copy : ByteArray := prog_5_method_3_code
def yX3_copy : MethodName := ⟨RX3, "copy", "(LPotHandles$Pot;)V"⟩
abbrev cX3_warmedBy : ByteArray := prog_5_method_4_code
def yX3_warmedBy : MethodName := ⟨RX3, "warmedBy", "(I)I"⟩
abbrev cX3_wants : ByteArray := prog_5_method_5_code
def yX3_wants : MethodName := ⟨RX3, "wants", "()I"⟩
abbrev cX3_bears : ByteArray := prog_5_method_6_code
def yX3_bears : MethodName := ⟨RX3, "bears", "()I"⟩
abbrev cX3_liveYear : ByteArray := prog_5_method_7_code
def yX3_liveYear : MethodName := ⟨RX3, "liveYear", "(I)V"⟩
abbrev cX3_goTo : ByteArray := prog_5_method_8_code
def yX3_goTo : MethodName := ⟨RX3, "goTo", "(I)V"⟩
abbrev cX3_canTakeFalseHandle : ByteArray := prog_5_method_9_code
def yX3_canTakeFalseHandle : MethodName := ⟨RX3, "canTakeFalseHandle", "()Z"⟩
abbrev cX3_takeFalseHandle : ByteArray := prog_5_method_10_code
def yX3_takeFalseHandle : MethodName := ⟨RX3, "takeFalseHandle", "()V"⟩
def RX4 : String := "PotHandles$Reader"
def TX4 : u_T := fun k => match k with
  | 0 => ("PotHandles$Reader", "law", "LPotHandles$Law;", true)
  | 1 => ("PotHandles$Reader", "desk", "LPotHandles$Desk;", true)
  | 2 => ("PotHandles$Reader", "use", "I", false)
  | _ => ("PotHandles$Reader", "at", "I", false)
def tyX4 : Nat → FieldType := fun k => match k with
  | 0 => .object "PotHandles$Law"
  | 1 => .object "PotHandles$Desk"
  | 2 => .int
  | _ => .int
abbrev wsX40 : List Cond := u_ws RX4 TX4 4
theorem nmX4 : ∀ a, a < 4 → ∀ b, b < 4 → a ≠ b → (TX4 a).2.1 ≠ (TX4 b).2.1 := by decide +kernel
theorem tyX4_ok : ∀ k, k < 4 → parseFieldDescriptor (TX4 k).2.2.1 = some (tyX4 k) := by decide +kernel
abbrev cX4_init : ByteArray := prog_6_method_1_code
def yX4_init : MethodName := ⟨RX4, "<init>", "(LPotHandles$Desk;)V"⟩
abbrev cX4_readTape : ByteArray := prog_6_method_2_code
def yX4_readTape : MethodName := ⟨RX4, "readTape", "(I)Z"⟩
abbrev cX4_next : ByteArray := prog_6_method_3_code
def yX4_next : MethodName := ⟨RX4, "next", "()I"⟩
abbrev cX4_readLevel : ByteArray := prog_6_method_4_code
def yX4_readLevel : MethodName := ⟨RX4, "readLevel", "(II)Z"⟩
abbrev cX4_levelOf : ByteArray := prog_6_method_5_code
def yX4_levelOf : MethodName := ⟨RX4, "levelOf", "(I)I"⟩
abbrev cX4_readLast : ByteArray := prog_6_method_6_code
def yX4_readLast : MethodName := ⟨RX4, "readLast", "(I)Z"⟩
abbrev cX4_readNumber : ByteArray := prog_6_method_7_code
def yX4_readNumber : MethodName := ⟨RX4, "readNumber", "()V"⟩
abbrev cX4_isDigit : ByteArray := prog_6_method_8_code
def yX4_isDigit : MethodName := ⟨RX4, "isDigit", "(I)Z"⟩
abbrev cX4_nameOf : ByteArray := prog_6_method_9_code
def yX4_nameOf : MethodName := ⟨RX4, "nameOf", "(I)I"⟩
def RX5 : String := "PotHandles$Sheet"
def TX5 : u_T := fun k => match k with
  | 0 => ("PotHandles$Sheet", "row", "[I", true)
  | 1 => ("PotHandles$Sheet", "bits", "I", false)
  | _ => ("PotHandles$Sheet", "count", "I", false)
def tyX5 : Nat → FieldType := fun k => match k with
  | 0 => .array .int
  | 1 => .int
  | _ => .int
abbrev wsX50 : List Cond := u_ws RX5 TX5 3
theorem nmX5 : ∀ a, a < 3 → ∀ b, b < 3 → a ≠ b → (TX5 a).2.1 ≠ (TX5 b).2.1 := by decide +kernel
theorem tyX5_ok : ∀ k, k < 3 → parseFieldDescriptor (TX5 k).2.2.1 = some (tyX5 k) := by decide +kernel
abbrev cX5_init : ByteArray := prog_7_method_1_code
def yX5_init : MethodName := ⟨RX5, "<init>", "()V"⟩
abbrev cX5_isMissing : ByteArray := prog_7_method_2_code
def yX5_isMissing : MethodName := ⟨RX5, "isMissing", "()Z"⟩
abbrev cX5_lay : ByteArray := prog_7_method_3_code
def yX5_lay : MethodName := ⟨RX5, "lay", "(II)V"⟩
abbrev cX5_lowestBits : ByteArray := prog_7_method_4_code
def yX5_lowestBits : MethodName := ⟨RX5, "lowestBits", "(I)I"⟩
abbrev cX5_holds : ByteArray := prog_7_method_5_code
def yX5_holds : MethodName := ⟨RX5, "holds", "(II)Z"⟩
def RX6 : String := "PotHandles$Voices"
def TX6 : u_T := fun k => match k with
  | 0 => ("PotHandles$Voices", "trace", "[I", true)
  | 1 => ("PotHandles$Voices", "traced", "I", false)
  | 2 => ("PotHandles$Voices", "kind", "I", false)
  | 3 => ("PotHandles$Voices", "n", "I", false)
  | _ => ("PotHandles$Voices", "m", "I", false)
def tyX6 : Nat → FieldType := fun k => match k with
  | 0 => .array .int
  | 1 => .int
  | 2 => .int
  | 3 => .int
  | _ => .int
abbrev wsX60 : List Cond := u_ws RX6 TX6 5
theorem nmX6 : ∀ a, a < 5 → ∀ b, b < 5 → a ≠ b → (TX6 a).2.1 ≠ (TX6 b).2.1 := by decide +kernel
theorem tyX6_ok : ∀ k, k < 5 → parseFieldDescriptor (TX6 k).2.2.1 = some (tyX6 k) := by decide +kernel
abbrev cX6_init : ByteArray := prog_8_method_1_code
def yX6_init : MethodName := ⟨RX6, "<init>", "()V"⟩
abbrev cX6_speak : ByteArray := prog_8_method_2_code
def yX6_speak : MethodName := ⟨RX6, "speak", "(LPotHandles$Pot;III)I"⟩
abbrev cX6_say : ByteArray := prog_8_method_3_code
def yX6_say : MethodName := ⟨RX6, "say", "(IIII)I"⟩
abbrev cX6_begin : ByteArray := prog_8_method_4_code
def yX6_begin : MethodName := ⟨RX6, "begin", "(I)V"⟩
abbrev cX6_bodyOf : ByteArray := prog_8_method_5_code
def yX6_bodyOf : MethodName := ⟨RX6, "bodyOf", "(II)I"⟩
abbrev cX6_sayBody : ByteArray := prog_8_method_6_code
def yX6_sayBody : MethodName := ⟨RX6, "sayBody", "(III)I"⟩
abbrev cX6_sayAbove : ByteArray := prog_8_method_7_code
def yX6_sayAbove : MethodName := ⟨RX6, "sayAbove", "(IIII)I"⟩
def RX7 : String := "PotHandles"
def TX7 : u_T := fun k => match k with
  | 0 => ("PotHandles", "now", "LPotHandles$District;", true)
  | 1 => ("PotHandles", "thought", "LPotHandles$District;", true)
  | 2 => ("PotHandles", "kept", "LPotHandles$District;", true)
  | 3 => ("PotHandles", "desk", "LPotHandles$Desk;", true)
  | 4 => ("PotHandles", "keptDesk", "LPotHandles$Desk;", true)
  | 5 => ("PotHandles", "reader", "LPotHandles$Reader;", true)
  | 6 => ("PotHandles", "voices", "LPotHandles$Voices;", true)
  | 7 => ("PotHandles", "sheets", "[LPotHandles$Sheet;", true)
  | 8 => ("PotHandles", "errors", "[I", true)
  | _ => ("PotHandles", "images", "I", false)
def tyX7 : Nat → FieldType := fun k => match k with
  | 0 => .object "PotHandles$District"
  | 1 => .object "PotHandles$District"
  | 2 => .object "PotHandles$District"
  | 3 => .object "PotHandles$Desk"
  | 4 => .object "PotHandles$Desk"
  | 5 => .object "PotHandles$Reader"
  | 6 => .object "PotHandles$Voices"
  | 7 => .array (.object "PotHandles$Sheet")
  | 8 => .array .int
  | _ => .int
abbrev wsX70 : List Cond := u_ws RX7 TX7 10
theorem nmX7 : ∀ a, a < 10 → ∀ b, b < 10 → a ≠ b → (TX7 a).2.1 ≠ (TX7 b).2.1 := by decide +kernel
theorem tyX7_ok : ∀ k, k < 10 → parseFieldDescriptor (TX7 k).2.2.1 = some (tyX7 k) := by decide +kernel
abbrev cX7_init : ByteArray := prog_1_method_1_code
def yX7_init : MethodName := ⟨RX7, "<init>", "()V"⟩
abbrev cX7_house : ByteArray := prog_1_method_2_code
def yX7_house : MethodName := ⟨RX7, "house", "(III)I"⟩
abbrev cX7_ofHouse : ByteArray := prog_1_method_3_code
def yX7_ofHouse : MethodName := ⟨RX7, "ofHouse", "(II)I"⟩
abbrev cX7_pot : ByteArray := prog_1_method_4_code
def yX7_pot : MethodName := ⟨RX7, "pot", "(III)I"⟩
abbrev cX7_ofPot : ByteArray := prog_1_method_5_code
def yX7_ofPot : MethodName := ⟨RX7, "ofPot", "(II)I"⟩
abbrev cX7_change : ByteArray := prog_1_method_6_code
def yX7_change : MethodName := ⟨RX7, "change", "(III)I"⟩
abbrev cX7_shift : ByteArray := prog_1_method_7_code
def yX7_shift : MethodName := ⟨RX7, "shift", "(II)I"⟩
abbrev cX7_stick : ByteArray := prog_1_method_8_code
def yX7_stick : MethodName := ⟨RX7, "stick", "(I)I"⟩
abbrev cX7_become : ByteArray := prog_1_method_9_code
def yX7_become : MethodName := ⟨RX7, "become", "(II)I"⟩
abbrev cX7_as : ByteArray := prog_1_method_10_code
def yX7_as : MethodName := ⟨RX7, "as", "(II)I"⟩
abbrev cX7_feed : ByteArray := prog_1_method_11_code
def yX7_feed : MethodName := ⟨RX7, "feed", "(JI)I"⟩
abbrev cX7_text : ByteArray := prog_1_method_12_code
def yX7_text : MethodName := ⟨RX7, "text", "(I)I"⟩
abbrev cX7_law : ByteArray := prog_1_method_13_code
def yX7_law : MethodName := ⟨RX7, "law", "(IIII)I"⟩
abbrev cX7_years : ByteArray := prog_1_method_14_code
def yX7_years : MethodName := ⟨RX7, "years", "(I)I"⟩
abbrev cX7_loose : ByteArray := prog_1_method_15_code
def yX7_loose : MethodName := ⟨RX7, "loose", "(I)I"⟩
abbrev cX7_then : ByteArray := prog_1_method_16_code
def yX7_then : MethodName := ⟨RX7, "then", "(III)I"⟩
abbrev cX7_when : ByteArray := prog_1_method_17_code
def yX7_when : MethodName := ⟨RX7, "when", "(I)I"⟩
abbrev cX7_shelf : ByteArray := prog_1_method_18_code
def yX7_shelf : MethodName := ⟨RX7, "shelf", "(II)I"⟩
abbrev cX7_place : ByteArray := prog_1_method_19_code
def yX7_place : MethodName := ⟨RX7, "place", "(III)I"⟩
abbrev cX7_use : ByteArray := prog_1_method_20_code
def yX7_use : MethodName := ⟨RX7, "use", "(II)I"⟩
abbrev cX7_needed : ByteArray := prog_1_method_21_code
def yX7_needed : MethodName := ⟨RX7, "needed", "(II)I"⟩
abbrev cX7_whose : ByteArray := prog_1_method_22_code
def yX7_whose : MethodName := ⟨RX7, "whose", "(III)I"⟩
abbrev cX7_carry : ByteArray := prog_1_method_23_code
def yX7_carry : MethodName := ⟨RX7, "carry", "(I)I"⟩
abbrev cX7_richest : ByteArray := prog_1_method_24_code
def yX7_richest : MethodName := ⟨RX7, "richest", "(II)I"⟩
abbrev cX7_breaks : ByteArray := prog_1_method_25_code
def yX7_breaks : MethodName := ⟨RX7, "breaks", "(I)I"⟩
abbrev cX7_dealer : ByteArray := prog_1_method_26_code
def yX7_dealer : MethodName := ⟨RX7, "dealer", "(I)I"⟩
abbrev cX7_odds : ByteArray := prog_1_method_27_code
def yX7_odds : MethodName := ⟨RX7, "odds", "(III)I"⟩
abbrev cX7_seed : ByteArray := prog_1_method_28_code
def yX7_seed : MethodName := ⟨RX7, "seed", "(I)I"⟩
abbrev cX7_voice : ByteArray := prog_1_method_29_code
def yX7_voice : MethodName := ⟨RX7, "voice", "(III)I"⟩
abbrev cX7_trace : ByteArray := prog_1_method_30_code
def yX7_trace : MethodName := ⟨RX7, "trace", "(I)I"⟩
abbrev cX7_sheet : ByteArray := prog_1_method_31_code
def yX7_sheet : MethodName := ⟨RX7, "sheet", "(III)I"⟩
abbrev cX7_put : ByteArray := prog_1_method_32_code
def yX7_put : MethodName := ⟨RX7, "put", "(III)I"⟩
abbrev cX7_move : ByteArray := prog_1_method_33_code
def yX7_move : MethodName := ⟨RX7, "move", "(IIIII)I"⟩
abbrev cX7_uses : ByteArray := prog_1_method_34_code
def yX7_uses : MethodName := ⟨RX7, "uses", "(I)I"⟩
abbrev cX7_judge : ByteArray := prog_1_method_35_code
def yX7_judge : MethodName := ⟨RX7, "judge", "(I)I"⟩
abbrev cX7_image : ByteArray := prog_1_method_36_code
def yX7_image : MethodName := ⟨RX7, "image", "()I"⟩
abbrev cX7_restore : ByteArray := prog_1_method_37_code
def yX7_restore : MethodName := ⟨RX7, "restore", "()I"⟩
abbrev cX7_tell : ByteArray := prog_1_method_38_code
def yX7_tell : MethodName := ⟨RX7, "tell", "(I)I"⟩
abbrev cX7_check : ByteArray := prog_1_method_39_code
def yX7_check : MethodName := ⟨RX7, "check", "()I"⟩
abbrev cX7_count : ByteArray := prog_1_method_40_code
def yX7_count : MethodName := ⟨RX7, "count", "(I)I"⟩
abbrev cX7_told : ByteArray := prog_1_method_41_code
def yX7_told : MethodName := ⟨RX7, "told", "(I)I"⟩
abbrev cX7_fail : ByteArray := prog_1_method_42_code
def yX7_fail : MethodName := ⟨RX7, "fail", "(I)I"⟩
abbrev cX7_isWithin : ByteArray := prog_1_method_43_code
def yX7_isWithin : MethodName := ⟨RX7, "isWithin", "(II)Z"⟩
abbrev cX7_isHouse : ByteArray := prog_1_method_44_code
def yX7_isHouse : MethodName := ⟨RX7, "isHouse", "(I)Z"⟩
abbrev cX7_isSheet : ByteArray := prog_1_method_45_code
def yX7_isSheet : MethodName := ⟨RX7, "isSheet", "(I)Z"⟩
abbrev cX7_isKindWithNumber : ByteArray := prog_1_method_46_code
def yX7_isKindWithNumber : MethodName := ⟨RX7, "isKindWithNumber", "(I)Z"⟩
abbrev cX7_kindAbove : ByteArray := prog_1_method_47_code
def yX7_kindAbove : MethodName := ⟨RX7, "kindAbove", "(I)I"⟩
abbrev cX7_isUnder : ByteArray := prog_1_method_48_code
def yX7_isUnder : MethodName := ⟨RX7, "isUnder", "(II)Z"⟩
abbrev cX7_behind : ByteArray := prog_1_method_49_code
def yX7_behind : MethodName := ⟨RX7, "behind", "(I)LPotHandles$District;"⟩
abbrev cX7_whenMoved : ByteArray := prog_1_method_50_code
def yX7_whenMoved : MethodName := ⟨RX7, "whenMoved", "(III)LPotHandles$Pot;"⟩
abbrev cX7_whenBeing : ByteArray := prog_1_method_51_code
def yX7_whenBeing : MethodName := ⟨RX7, "whenBeing", "(III)LPotHandles$Pot;"⟩
abbrev cX7_haveHandlesIfCaredFor : ByteArray := prog_1_method_52_code
def yX7_haveHandlesIfCaredFor : MethodName := ⟨RX7, "haveHandlesIfCaredFor", "(III)Z"⟩
abbrev cX7_isLikedAsTold : ByteArray := prog_1_method_53_code
def yX7_isLikedAsTold : MethodName := ⟨RX7, "isLikedAsTold", "(LPotHandles$Sheet;II)Z"⟩
abbrev cX7_handlesIfStuck : ByteArray := prog_1_method_54_code
def yX7_handlesIfStuck : MethodName := ⟨RX7, "handlesIfStuck", "(II)I"⟩
def RX8 : String := "PotHandlesModel"
def TX8 : u_T := fun k => match k with
  | 0 => ("PotHandlesModel", "d", "[I", true)
  | 1 => ("PotHandlesModel", "kept", "[I", true)
  | 2 => ("PotHandlesModel", "aside", "[I", true)
  | 3 => ("PotHandlesModel", "images", "I", false)
  | 4 => ("PotHandlesModel", "found", "[I", true)
  | 5 => ("PotHandlesModel", "base", "I", false)
  | 6 => ("PotHandlesModel", "at", "I", false)
  | 7 => ("PotHandlesModel", "size", "I", false)
  | 8 => ("PotHandlesModel", "fault", "I", false)
  | 9 => ("PotHandlesModel", "opened", "I", false)
  | 10 => ("PotHandlesModel", "isBreaks", "Z", false)
  | 11 => ("PotHandlesModel", "names", "[I", true)
  | 12 => ("PotHandlesModel", "code", "[I", true)
  | 13 => ("PotHandlesModel", "coded", "I", false)
  | 14 => ("PotHandlesModel", "pile", "[I", true)
  | 15 => ("PotHandlesModel", "traced", "[I", true)
  | 16 => ("PotHandlesModel", "traceMany", "I", false)
  | 17 => ("PotHandlesModel", "who", "I", false)
  | 18 => ("PotHandlesModel", "bitsOf", "[I", true)
  | 19 => ("PotHandlesModel", "sizeOf", "[I", true)
  | 20 => ("PotHandlesModel", "number", "[I", true)
  | _ => ("PotHandlesModel", "lifted", "[I", true)
def tyX8 : Nat → FieldType := fun k => match k with
  | 0 => .array .int
  | 1 => .array .int
  | 2 => .array .int
  | 3 => .int
  | 4 => .array .int
  | 5 => .int
  | 6 => .int
  | 7 => .int
  | 8 => .int
  | 9 => .int
  | 10 => .boolean
  | 11 => .array .int
  | 12 => .array .int
  | 13 => .int
  | 14 => .array .int
  | 15 => .array .int
  | 16 => .int
  | 17 => .int
  | 18 => .array .int
  | 19 => .array .int
  | 20 => .array .int
  | _ => .array .int
abbrev wsX80 : List Cond := u_ws RX8 TX8 22
theorem nmX8 : ∀ a, a < 22 → ∀ b, b < 22 → a ≠ b → (TX8 a).2.1 ≠ (TX8 b).2.1 := by decide +kernel
theorem tyX8_ok : ∀ k, k < 22 → parseFieldDescriptor (TX8 k).2.2.1 = some (tyX8 k) := by decide +kernel
abbrev cX8_init : ByteArray := prog_10_method_1_code
def yX8_init : MethodName := ⟨RX8, "<init>", "()V"⟩
abbrev cX8_finds : ByteArray := prog_10_method_3_code
def yX8_finds : MethodName := ⟨RX8, "finds", "(I)I"⟩
abbrev cX8_in : ByteArray := prog_10_method_4_code
def yX8_in : MethodName := ⟨RX8, "in", "(JJJ)Z"⟩
abbrev cX8_held : ByteArray := prog_10_method_5_code
def yX8_held : MethodName := ⟨RX8, "held", "(III)I"⟩
abbrev cX8_isPot : ByteArray := prog_10_method_6_code
def yX8_isPot : MethodName := ⟨RX8, "isPot", "(I)Z"⟩
abbrev cX8_isHouse : ByteArray := prog_10_method_7_code
def yX8_isHouse : MethodName := ⟨RX8, "isHouse", "(I)Z"⟩
abbrev cX8_of : ByteArray := prog_10_method_8_code
def yX8_of : MethodName := ⟨RX8, "of", "(II)I"⟩
abbrev cX8_sets : ByteArray := prog_10_method_9_code
def yX8_sets : MethodName := ⟨RX8, "sets", "(III)V"⟩
abbrev cX8_above : ByteArray := prog_10_method_10_code
def yX8_above : MethodName := ⟨RX8, "above", "(I)I"⟩
abbrev cX8_isBroken : ByteArray := prog_10_method_11_code
def yX8_isBroken : MethodName := ⟨RX8, "isBroken", "(I)Z"⟩
abbrev cX8_keepAside : ByteArray := prog_10_method_12_code
def yX8_keepAside : MethodName := ⟨RX8, "keepAside", "()V"⟩
abbrev cX8_putBack : ByteArray := prog_10_method_13_code
def yX8_putBack : MethodName := ⟨RX8, "putBack", "()V"⟩
abbrev cX8_here : ByteArray := prog_10_method_14_code
def yX8_here : MethodName := ⟨RX8, "here", "()I"⟩
abbrev cX8_wrong : ByteArray := prog_10_method_15_code
def yX8_wrong : MethodName := ⟨RX8, "wrong", "()V"⟩
abbrev cX8_takes : ByteArray := prog_10_method_16_code
def yX8_takes : MethodName := ⟨RX8, "takes", "(I)Z"⟩
abbrev cX8_nameOf : ByteArray := prog_10_method_17_code
def yX8_nameOf : MethodName := ⟨RX8, "nameOf", "(I)I"⟩
abbrev cX8_lay : ByteArray := prog_10_method_18_code
def yX8_lay : MethodName := ⟨RX8, "lay", "(I)V"⟩
abbrev cX8_either : ByteArray := prog_10_method_19_code
def yX8_either : MethodName := ⟨RX8, "either", "()V"⟩
abbrev cX8_both : ByteArray := prog_10_method_20_code
def yX8_both : MethodName := ⟨RX8, "both", "()V"⟩
abbrev cX8_compared : ByteArray := prog_10_method_21_code
def yX8_compared : MethodName := ⟨RX8, "compared", "()V"⟩
abbrev cX8_sum : ByteArray := prog_10_method_22_code
def yX8_sum : MethodName := ⟨RX8, "sum", "()V"⟩
abbrev cX8_product : ByteArray := prog_10_method_23_code
def yX8_product : MethodName := ⟨RX8, "product", "()V"⟩
abbrev cX8_opens : ByteArray := prog_10_method_24_code
def yX8_opens : MethodName := ⟨RX8, "opens", "(I)V"⟩
abbrev cX8_unit : ByteArray := prog_10_method_25_code
def yX8_unit : MethodName := ⟨RX8, "unit", "()V"⟩
abbrev cX8_reads : ByteArray := prog_10_method_26_code
def yX8_reads : MethodName := ⟨RX8, "reads", "(III)V"⟩
abbrev cX8_done : ByteArray := prog_10_method_27_code
def yX8_done : MethodName := ⟨RX8, "done", "(III)I"⟩
abbrev cX8_worked : ByteArray := prog_10_method_28_code
def yX8_worked : MethodName := ⟨RX8, "worked", "(II)I"⟩
abbrev cX8_feed : ByteArray := prog_10_method_29_code
def yX8_feed : MethodName := ⟨RX8, "feed", "(JI)I"⟩
abbrev cX8_text : ByteArray := prog_10_method_30_code
def yX8_text : MethodName := ⟨RX8, "text", "(I)I"⟩
abbrev cX8_textGives : ByteArray := prog_10_method_31_code
def yX8_textGives : MethodName := ⟨RX8, "textGives", "(IIII)I"⟩
abbrev cX8_law : ByteArray := prog_10_method_32_code
def yX8_law : MethodName := ⟨RX8, "law", "(IIII)I"⟩
abbrev cX8_warms : ByteArray := prog_10_method_33_code
def yX8_warms : MethodName := ⟨RX8, "warms", "(I)I"⟩
abbrev cX8_wants : ByteArray := prog_10_method_34_code
def yX8_wants : MethodName := ⟨RX8, "wants", "(I)I"⟩
abbrev cX8_bears : ByteArray := prog_10_method_35_code
def yX8_bears : MethodName := ⟨RX8, "bears", "(I)I"⟩
abbrev cX8_manyIn : ByteArray := prog_10_method_36_code
def yX8_manyIn : MethodName := ⟨RX8, "manyIn", "(I)I"⟩
abbrev cX8_handles : ByteArray := prog_10_method_37_code
def yX8_handles : MethodName := ⟨RX8, "handles", "()I"⟩
abbrev cX8_moves : ByteArray := prog_10_method_38_code
def yX8_moves : MethodName := ⟨RX8, "moves", "(II)V"⟩
abbrev cX8_potGoes : ByteArray := prog_10_method_39_code
def yX8_potGoes : MethodName := ⟨RX8, "potGoes", "(I)V"⟩
abbrev cX8_yearsGo : ByteArray := prog_10_method_40_code
def yX8_yearsGo : MethodName := ⟨RX8, "yearsGo", "(I)V"⟩
abbrev cX8_setOf : ByteArray := prog_10_method_41_code
def yX8_setOf : MethodName := ⟨RX8, "setOf", "(I)I"⟩
abbrev cX8_bits : ByteArray := prog_10_method_42_code
def yX8_bits : MethodName := ⟨RX8, "bits", "(I)I"⟩
abbrev cX8_house : ByteArray := prog_10_method_43_code
def yX8_house : MethodName := ⟨RX8, "house", "(III)I"⟩
abbrev cX8_ofHouse : ByteArray := prog_10_method_44_code
def yX8_ofHouse : MethodName := ⟨RX8, "ofHouse", "(II)I"⟩
abbrev cX8_pot : ByteArray := prog_10_method_45_code
def yX8_pot : MethodName := ⟨RX8, "pot", "(III)I"⟩
abbrev cX8_ofPot : ByteArray := prog_10_method_46_code
def yX8_ofPot : MethodName := ⟨RX8, "ofPot", "(II)I"⟩
abbrev cX8_change : ByteArray := prog_10_method_47_code
def yX8_change : MethodName := ⟨RX8, "change", "(III)I"⟩
abbrev cX8_shift : ByteArray := prog_10_method_48_code
def yX8_shift : MethodName := ⟨RX8, "shift", "(II)I"⟩
abbrev cX8_stick : ByteArray := prog_10_method_49_code
def yX8_stick : MethodName := ⟨RX8, "stick", "(I)I"⟩
abbrev cX8_become : ByteArray := prog_10_method_50_code
def yX8_become : MethodName := ⟨RX8, "become", "(II)I"⟩
abbrev cX8_as : ByteArray := prog_10_method_51_code
def yX8_as : MethodName := ⟨RX8, "as", "(II)I"⟩
abbrev cX8_years : ByteArray := prog_10_method_52_code
def yX8_years : MethodName := ⟨RX8, "years", "(I)I"⟩
abbrev cX8_drawn : ByteArray := prog_10_method_53_code
def yX8_drawn : MethodName := ⟨RX8, "drawn", "()I"⟩
abbrev cX8_loose : ByteArray := prog_10_method_54_code
def yX8_loose : MethodName := ⟨RX8, "loose", "(I)I"⟩
abbrev cX8_then : ByteArray := prog_10_method_55_code
def yX8_then : MethodName := ⟨RX8, "then", "(III)I"⟩
abbrev cX8_when : ByteArray := prog_10_method_56_code
def yX8_when : MethodName := ⟨RX8, "when", "(I)I"⟩
abbrev cX8_shelf : ByteArray := prog_10_method_57_code
def yX8_shelf : MethodName := ⟨RX8, "shelf", "(II)I"⟩
abbrev cX8_place : ByteArray := prog_10_method_58_code
def yX8_place : MethodName := ⟨RX8, "place", "(III)I"⟩
abbrev cX8_use : ByteArray := prog_10_method_59_code
def yX8_use : MethodName := ⟨RX8, "use", "(II)I"⟩
abbrev cX8_needed : ByteArray := prog_10_method_60_code
def yX8_needed : MethodName := ⟨RX8, "needed", "(II)I"⟩
abbrev cX8_whose : ByteArray := prog_10_method_61_code
def yX8_whose : MethodName := ⟨RX8, "whose", "(III)I"⟩
abbrev cX8_carry : ByteArray := prog_10_method_62_code
def yX8_carry : MethodName := ⟨RX8, "carry", "(I)I"⟩
abbrev cX8_richest : ByteArray := prog_10_method_63_code
def yX8_richest : MethodName := ⟨RX8, "richest", "(II)I"⟩
abbrev cX8_breaks : ByteArray := prog_10_method_64_code
def yX8_breaks : MethodName := ⟨RX8, "breaks", "(I)I"⟩
abbrev cX8_dealer : ByteArray := prog_10_method_65_code
def yX8_dealer : MethodName := ⟨RX8, "dealer", "(I)I"⟩
abbrev cX8_common : ByteArray := prog_10_method_66_code
def yX8_common : MethodName := ⟨RX8, "common", "(II)I"⟩
abbrev cX8_odds : ByteArray := prog_10_method_67_code
def yX8_odds : MethodName := ⟨RX8, "odds", "(III)I"⟩
abbrev cX8_seed : ByteArray := prog_10_method_68_code
def yX8_seed : MethodName := ⟨RX8, "seed", "(I)I"⟩
abbrev cX8_ran : ByteArray := prog_10_method_69_code
def yX8_ran : MethodName := ⟨RX8, "ran", "(I)V"⟩
abbrev cX8_holdsBy : ByteArray := prog_10_method_70_code
def yX8_holdsBy : MethodName := ⟨RX8, "holdsBy", "(II)I"⟩
abbrev cX8_warmsBy : ByteArray := prog_10_method_71_code
def yX8_warmsBy : MethodName := ⟨RX8, "warmsBy", "(II)I"⟩
abbrev cX8_growsBy : ByteArray := prog_10_method_72_code
def yX8_growsBy : MethodName := ⟨RX8, "growsBy", "(II)I"⟩
abbrev cX8_tellsBy : ByteArray := prog_10_method_73_code
def yX8_tellsBy : MethodName := ⟨RX8, "tellsBy", "(II)I"⟩
abbrev cX8_voice : ByteArray := prog_10_method_74_code
def yX8_voice : MethodName := ⟨RX8, "voice", "(III)I"⟩
abbrev cX8_trace : ByteArray := prog_10_method_75_code
def yX8_trace : MethodName := ⟨RX8, "trace", "(I)I"⟩
abbrev cX8_isSheet : ByteArray := prog_10_method_76_code
def yX8_isSheet : MethodName := ⟨RX8, "isSheet", "(I)Z"⟩
abbrev cX8_sheet : ByteArray := prog_10_method_77_code
def yX8_sheet : MethodName := ⟨RX8, "sheet", "(III)I"⟩
abbrev cX8_put : ByteArray := prog_10_method_78_code
def yX8_put : MethodName := ⟨RX8, "put", "(III)I"⟩
abbrev cX8_move : ByteArray := prog_10_method_79_code
def yX8_move : MethodName := ⟨RX8, "move", "(IIIII)I"⟩
abbrev cX8_uses : ByteArray := prog_10_method_80_code
def yX8_uses : MethodName := ⟨RX8, "uses", "(I)I"⟩
abbrev cX8_judge : ByteArray := prog_10_method_81_code
def yX8_judge : MethodName := ⟨RX8, "judge", "(I)I"⟩
abbrev cX8_image : ByteArray := prog_10_method_82_code
def yX8_image : MethodName := ⟨RX8, "image", "()I"⟩
abbrev cX8_restore : ByteArray := prog_10_method_83_code
def yX8_restore : MethodName := ⟨RX8, "restore", "()I"⟩
abbrev cX8_tell : ByteArray := prog_10_method_84_code
def yX8_tell : MethodName := ⟨RX8, "tell", "(I)I"⟩
abbrev cX8_check : ByteArray := prog_10_method_85_code
def yX8_check : MethodName := ⟨RX8, "check", "()I"⟩
abbrev cX8_count : ByteArray := prog_10_method_86_code
def yX8_count : MethodName := ⟨RX8, "count", "(I)I"⟩
abbrev cX8_told : ByteArray := prog_10_method_87_code
def yX8_told : MethodName := ⟨RX8, "told", "(I)I"⟩
def RJ6 : String := "java/lang/Integer"
abbrev cJ6_bitCount_0f7a4 : ByteArray := prog_11_method_49_code
def yJ6_bitCount_0f7a4 : MethodName := ⟨RJ6, "bitCount", "(I)I"⟩
def RJ9 : String := "java/lang/Math"
abbrev cJ9_max_7cf53 : ByteArray := prog_12_method_65_code
def yJ9_max_7cf53 : MethodName := ⟨RJ9, "max", "(II)I"⟩
abbrev cJ9_min_7cf53 : ByteArray := prog_12_method_69_code
def yJ9_min_7cf53 : MethodName := ⟨RJ9, "min", "(II)I"⟩
def RJ10 : String := "java/lang/System"
def RJ7 : String := "java/util/Arrays"
abbrev cJ7_fill_53178 : ByteArray := prog_14_method_103_code
def yJ7_fill_53178 : MethodName := ⟨RJ7, "fill", "([II)V"⟩
def RL : String := "PotHandlesLaw"
abbrev cL_law : ByteArray := code
def yL_law : MethodName := ⟨RL, "law", "([I)Z"⟩
abbrev vwCl : List vw_C := [(RX0, TX0, 5), (RX1, TX1, 8), (RX2, TX2, 3), (RX3, TX3, 8), (RX4, TX4, 4), (RX5, TX5, 3), (RX6, TX6, 5), (RX7, TX7, 10), (RX8, TX8, 22)]
end
section
/-! THE WORLD: the cells of both systems, by families; a memory is a pair of number tables (class, reference): family, member, slot.
Families 0 .. 7: objects of class number f of vwCl; 8 .. 18: arrays of the class's objects; 19: the reference's object; 20 .. 31: its arrays. -/
abbrev AV : Type := Int32 ⊕ (Int64 ⊕ (Nat × Nat))
abbrev Mem : Type := Nat → Nat → Nat → Int32
abbrev MM : Type := Mem × Mem
def up3 (M : Mem) (f i k : Nat) (v : Int32) : Mem := fun f' i' k' => if f' = f ∧ k' = k ∧ i' = i then v else M f' i' k'
def cp3 (M : Mem) (f i sp g j dp n : Nat) : Mem := fun f' i' k' => if f' = g ∧ i' = j ∧ dp ≤ k' ∧ k' < dp + n then M f i (sp + (k' - dp)) else M f' i' k'
def rdM (M : MM) (f i k : Nat) : Int32 := if f < 19 then M.1 f i k else M.2 f i k
def wrM (M : MM) (f i k : Nat) (v : Int32) : MM := if f < 19 then (up3 M.1 f i k v, M.2) else (M.1, up3 M.2 f i k v)
def nbB (x : Int32) : Int32 := x.toInt8.toInt32
def nbZ (x : Int32) : Int32 := if x = 0 then 0 else 1
/-- how many members a family has -/
def fCnt (f : Nat) : Nat := ([2, 3, 7, 30, 1, 4, 1, 1, 2, 2, 3, 3, 3, 7, 7, 4, 1, 1, 1, 1, 1, 1, 1, 1, 1, 1, 1, 1, 1, 1, 1, 1] : List Nat).getD f 0
def fOff (f : Nat) : Nat := ([0, 2, 5, 12, 42, 43, 47, 48, 49, 51, 53, 56, 59, 62, 69, 76, 80, 81, 82, 83, 84, 85, 86, 87, 88, 89, 90, 91, 92, 93, 94, 95] : List Nat).getD f 0
/-- its class number in vwCl (9: it is of arrays) -/
def fCls (f : Nat) : Nat := ([0, 1, 2, 3, 4, 5, 6, 7, 9, 9, 9, 9, 9, 9, 9, 9, 9, 9, 9, 8, 9, 9, 9, 9, 9, 9, 9, 9, 9, 9, 9, 9] : List Nat).getD f 9
/-- what its arrays hold: 0 ints, 1 bytes, 2 POTS, 3 SHEETS -/
def fElt (f : Nat) : Nat := ([0, 0, 0, 0, 0, 0, 0, 0, 1, 0, 0, 0, 2, 0, 0, 0, 0, 3, 0, 0, 0, 0, 0, 0, 0, 0, 0, 0, 0, 0, 0, 0] : List Nat).getD f 0
def fLen (f : Nat) : Nat := ([0, 0, 0, 0, 0, 0, 0, 0, 50, 20, 5, 5, 10, 50, 50, 40, 40, 4, 6, 0, 268, 268, 96, 6, 3, 60, 60, 40, 4, 4, 160, 40] : List Nat).getD f 0
/-- fields of a class -/
def fNum (c : Nat) : Nat := ([5, 8, 3, 8, 4, 3, 5, 10, 22] : List Nat).getD c 0
/-- fields that are references: where they lead -/
def fRef (f k : Nat) : Option (Nat → Nat × Nat) := (([
  [some fun i => (8, i), some fun i => (9, i)],
  [some fun i => (10, i), some fun i => (11, i), some fun i => (12, i), some fun i => (2, 2 * i), some fun i => (2, 2 * i + 1)],
  [some fun i => (13, i), some fun i => (14, i)],
  [],
  [some fun _ => (2, 6), some fun _ => (0, 0)],
  [some fun i => (15, i)],
  [some fun i => (16, i)],
  [some fun _ => (1, 0), some fun _ => (1, 1), some fun _ => (1, 2), some fun _ => (0, 0), some fun _ => (0, 1), some fun _ => (4, 0), some fun _ => (6, 0), some fun _ => (17, 0), some fun _ => (18, 0)],
  [], [], [], [], [], [], [], [], [], [], [],
  [some fun _ => (20, 0), some fun _ => (21, 0), some fun _ => (22, 0), none, some fun _ => (23, 0), none, none, none, none, none, none, some fun _ => (24, 0), some fun _ => (25, 0), none, some fun _ => (26, 0), some fun _ => (27, 0), none, none, some fun _ => (28, 0), some fun _ => (29, 0), some fun _ => (30, 0), some fun _ => (31, 0)]
  ] : List (List (Option (Nat → Nat × Nat)))).getD f []).getD k none
/-- is a field a truth value -/
def fZ (f k : Nat) : Bool := (f == 3 && k == 7) || (f == 19 && k == 10)
def cv (ad : Nat → Nat → Nat) (v : AV) : Value := match v with
  | .inl x => .int x
  | .inr (.inl y) => .long y
  | .inr (.inr q) => .ref (ad q.1 q.2)
/-- what a field holds -/
def fldV (f i k : Nat) (M : MM) : AV := match fRef f k with
  | some g => .inr (.inr (g i))
  | none => .inl (if fZ f k then nbZ (rdM M f i k) else rdM M f i k)
def arrF (ad : Nat → Nat → Nat) (M : MM) (f i : Nat) : (Nat → Int32) ⊕ (Nat → Int64) ⊕ (Nat → UInt32) ⊕ (Nat → UInt64) ⊕ (Nat → Option Nat) := match fElt f with
  | 0 => .inl (fun j => rdM M f i j)
  | 1 => .inl (fun j => nbB (rdM M f i j))
  | 2 => .inr (.inr (.inr (.inr (fun j => some (ad 3 (10 * i + j))))))
  | _ => .inr (.inr (.inr (.inr (fun j => some (ad 5 j)))))
def cellE (ad : Nat → Nat → Nat) (cA : Nat → ClassId) (M : MM) (f i : Nat) : va_E :=
  if fCls f < 9 then .inr (fCls f, (List.range (fNum (fCls f))).map (fun k => cv ad (fldV f i k M)))
  else .inl (cA (fElt f), fLen f, arrF ad M f i)
def allC : List (Nat × Nat) := (List.range 32).flatMap (fun f => (List.range (fCnt f)).map (fun i => (f, i)))
def world (ad : Nat → Nat → Nat) (cA : Nat → ClassId) (M : MM) : va_W := allC.map (fun q => (ad q.1 q.2, cellE ad cA M q.1 q.2))
def tysA (cA : Nat → ClassId) : List (ClassId × FieldType) := [(cA 0, .int), (cA 1, .byte), (cA 2, .object "PotHandles$Pot"), (cA 3, .object "PotHandles$Sheet")]
set_option maxRecDepth 100000 in
theorem allC_at : ∀ f, f < 32 → ∀ i, i < fCnt f → allC[fOff f + i]? = some (f, i) := by decide +kernel
set_option maxRecDepth 100000 in
theorem allC_in : ∀ k, k < 96 → (allC[k]?).all (fun q => decide (q.1 < 32) && decide (q.2 < fCnt q.1) && decide (fOff q.1 + q.2 = k)) = true := by decide +kernel
set_option maxRecDepth 100000 in
theorem allC_len : allC.length = 96 := by decide +kernel
theorem world_at {ad : Nat → Nat → Nat} {cA : Nat → ClassId} {M : MM} {f i : Nat} (hf : f < 32) (hi : i < fCnt f) : (world ad cA M)[fOff f + i]? = some (ad f i, cellE ad cA M f i) := by
  unfold world
  rw [List.getElem?_map, allC_at f hf i hi]
  rfl
theorem allC_inv {k f i : Nat} (h : allC[k]? = some (f, i)) : f < 32 ∧ i < fCnt f ∧ fOff f + i = k := by
  have hk : k < 96 := by
    rw [← allC_len]
    exact (List.getElem?_eq_some_iff.mp h).1
  have h1 := allC_in k hk
  rw [h] at h1
  simp only [Option.all_some, Bool.and_eq_true, decide_eq_true_eq] at h1
  exact ⟨h1.1.1, h1.1.2, h1.2⟩
theorem rd_wr_ne {M : MM} {f i k f' i' j : Nat} {v : Int32} (h : ¬ (f' = f ∧ i' = i)) : rdM (wrM M f i k v) f' i' j = rdM M f' i' j := by
  have h2 : ¬ (f' = f ∧ j = k ∧ i' = i) := fun e => h ⟨e.1, e.2.2⟩
  unfold rdM wrM
  by_cases h1 : f < 19 <;> by_cases h3 : f' < 19 <;> simp [h1, h3, up3, h2]
theorem rd_wr_eq {M : MM} {f i k j : Nat} {v : Int32} : rdM (wrM M f i k v) f i j = if j = k then v else rdM M f i j := by
  unfold rdM wrM
  by_cases h1 : f < 19 <;> by_cases h3 : j = k <;> simp [h1, h3, up3]
theorem cellE_congr {ad : Nat → Nat → Nat} {cA : Nat → ClassId} {M M' : MM} {f i : Nat} (h : ∀ j, rdM M' f i j = rdM M f i j) : cellE ad cA M' f i = cellE ad cA M f i := by
  have h1 : ∀ k, fldV f i k M' = fldV f i k M := fun k => by unfold fldV; rw [h]
  have h2 : arrF ad M' f i = arrF ad M f i := by unfold arrF; simp only [h]
  unfold cellE
  simp only [h1, h2]
theorem list_set_map {C : List (Nat × Nat)} {E E' : Nat × Nat → Nat × va_E} {n0 : Nat} {q0 : Nat × Nat} (h0 : C[n0]? = some q0) (hu : ∀ k, C[k]? = some q0 → n0 = k) (h : ∀ q, q ≠ q0 → E' q = E q) : (C.map E).set n0 (E' q0) = C.map E' := by
  apply List.ext_getElem?
  intro n
  rw [List.getElem?_set, List.getElem?_map, List.getElem?_map, List.length_map]
  have hlt : n0 < C.length := (List.getElem?_eq_some_iff.mp h0).1
  by_cases hn : n0 = n
  · subst hn
    rw [if_pos rfl, if_pos hlt, h0]
    rfl
  · rw [if_neg hn]
    cases hq : C[n]? with
    | none => rfl
    | some q =>
      have hne : q ≠ q0 := by
        intro e
        rw [e] at hq
        exact hn (hu n hq)
      show some (E q) = some (E' q)
      rw [h q hne]
theorem world_set {ad : Nat → Nat → Nat} {cA : Nat → ClassId} {M M' : MM} {f i : Nat} (hf : f < 32) (hi : i < fCnt f) (h : ∀ f' i', ¬ (f' = f ∧ i' = i) → ∀ j, rdM M' f' i' j = rdM M f' i' j) : (world ad cA M).set (fOff f + i) (ad f i, cellE ad cA M' f i) = world ad cA M' := by
  refine list_set_map (C := allC) (E := fun q => (ad q.1 q.2, cellE ad cA M q.1 q.2)) (E' := fun q => (ad q.1 q.2, cellE ad cA M' q.1 q.2)) (n0 := fOff f + i) (q0 := (f, i)) (allC_at f hf i hi) (fun k hk => (allC_inv hk).2.2) (fun q hq => ?_)
  obtain ⟨f', i'⟩ := q
  have hne : ¬ (f' = f ∧ i' = i) := by
    rintro ⟨rfl, rfl⟩
    exact hq rfl
  show (ad f' i', cellE ad cA M' f' i') = (ad f' i', cellE ad cA M f' i')
  rw [cellE_congr (h f' i' hne)]
theorem map_keys {C : List (Nat × Nat)} {E E' : Nat × Nat → Nat × va_E} (h : ∀ q, (E' q).1 = (E q).1) {k : Nat} {q : Nat × va_E} (hq : (C.map E')[k]? = some q) : ∃ q2 : Nat × va_E, (C.map E)[k]? = some q2 ∧ q2.1 = q.1 := by
  rw [List.getElem?_map] at hq ⊢
  cases h1 : C[k]? with
  | none => rw [h1] at hq; cases hq
  | some z =>
    rw [h1] at hq
    cases hq
    exact ⟨_, rfl, (h z).symm⟩
theorem va_D_world {ad : Nat → Nat → Nat} {cA : Nat → ClassId} {A : Nat → Prop} {M M' : MM} (h : va_D A (world ad cA M)) : va_D A (world ad cA M') := by
  have e : ∀ (k : Nat) (q : Nat × va_E), (world ad cA M' : List (Nat × va_E))[k]? = some q → ∃ q2 : Nat × va_E, (world ad cA M : List (Nat × va_E))[k]? = some q2 ∧ q2.1 = q.1 :=
    fun k q hq => map_keys (C := allC) (E := fun q => (ad q.1 q.2, cellE ad cA M q.1 q.2)) (E' := fun q => (ad q.1 q.2, cellE ad cA M' q.1 q.2)) (fun _ => rfl) hq
  refine ⟨fun i j p q hp hq hpq => ?_, fun k q hq => ?_⟩
  · obtain ⟨p2, g1, g2⟩ := e i p hp
    obtain ⟨q2, g3, g4⟩ := e j q hq
    exact h.1 i j p2 q2 g1 g3 (by rw [g2, g4, hpq])
  · obtain ⟨q2, g3, g4⟩ := e k q hq
    rw [← g4]
    exact h.2 k q2 g3
end
section
def nestL : List Cond := [.methodLinkNest RX1 88 ⟨"PotHandles", "isHouse", "(I)Z"⟩ "PotHandles", .methodLinkNest RX6 48 ⟨"PotHandles", "kindAbove", "(I)I"⟩ "PotHandles"]
def TB : List Cond := lw_tbl.filter goodWord
/-- a method: its class, its name, its bytes, its locals, what it returns -/
abbrev MT : Type := String × MethodName × ByteArray × Nat × Option FieldType
def wsM (t : MT) : List Cond := Cond.code t.2.1 t.2.2.1 t.2.2.2.1 t.2.2.2.2 :: TB
def roomD (d : Nat) : Room := { frames := d, cells := 0, slots := 0, locals := 64 * d }
def CtxG (t : MT) (d : Nat) (p : Program) (R : Room) (s : State) (m : MethodId) (args : Array Value) (c : Code) (cells slots : Nat) (A : Nat → Prop) (H0 : Heap) (ad : Nat → Nat → Nat) (cA : Nat → ClassId) (D : va_G) : Prop :=
  p.tables.exec = Jvm.exec ∧ c.code = t.2.2.1 ∧ c.maxLocals = t.2.2.2.1 ∧ s.vm.findClass t.1 = some m.cls ∧ (∀ w ∈ TB, w.before args s = true) ∧ (∀ w ∈ nestL, va_Nw w s) ∧ va_K D vwCl (tysA cA) s ∧ d ≤ R.frames ∧ 64 * d ≤ R.locals ∧ cells ≤ R.cells ∧ slots ≤ R.slots ∧ (∀ q : Nat, H0.size ≤ q → A q) ∧ (∀ M, va_D A (world ad cA M))
def retI (r : Option AV) : Instr := match r with
  | none => .return_
  | some (.inl _) => .ireturn
  | some (.inr (.inl _)) => .lreturn
  | some (.inr (.inr _)) => .areturn
def retOK (ret : Option FieldType) (r : Option AV) : Prop := match ret, r with
  | none, none => True
  | some .int, some (.inl _) => True
  | some .boolean, some (.inl v) => v = 0 ∨ v = 1
  | some (.object _), some (.inr (.inr _)) => True
  | _, _ => False
def FinG (t : MT) (p : Program) (l : Launch) (e : Env) (R : Room) (s : State) (m : MethodId) (args : Array Value) (below : List Frame) (meth : Method) (c : Code) (cells slots : Nat) (A : Nat → Prop) (H0 : Heap) (ad : Nat → Nat → Nat) (cA : Nat → ClassId) (D : va_G) (Q : State → Prop) (r : Option AV) (M' : MM) : Prop :=
  ∀ (H : Heap) (locs : List Loc) (ls : Array Slot) (pc : Nat), va_P D vwCl (world ad cA M') H → va_S A H0 H locs → decode t.2.2.1 pc = .ok (retI r, 1) → retOK t.2.2.2.2 r →
    W p l e R s m args below meth c H locs cells slots Q (F0 m pc ls (r.toList.map (cv ad)))
/-- at a place of a method, with these locals, this stack, this memory: it comes to its end, with this answer and this memory -/
def G (t : MT) (d : Nat) (r : Option AV) (M' : MM) (pc : Nat) (L : List (Nat × AV)) (st : List AV) (M : MM) : Prop :=
  ∀ (p : Program) (l : Launch) (e : Env) (R : Room) (s : State) (m : MethodId) (args : Array Value) (below : List Frame) (meth : Method) (c : Code) (cells slots : Nat) (A : Nat → Prop) (H0 : Heap) (ad : Nat → Nat → Nat) (cA : Nat → ClassId) (D : va_G) (Q : State → Prop),
    CtxG t d p R s m args c cells slots A H0 ad cA D → FinG t p l e R s m args below meth c cells slots A H0 ad cA D Q r M' →
    ∀ (H : Heap) (locs : List Loc) (ls : Array Slot), lv_has ls t.2.2.2.1 (L.map fun q => (q.1, cv ad q.2)) → va_P D vwCl (world ad cA M) H → va_S A H0 H locs →
      W p l e R s m args below meth c H locs cells slots Q (F0 m pc ls (st.map (cv ad)))
def av2 (v : AV) : Bool := match v with
  | .inr (.inl _) => true
  | _ => false
def lset (i : Nat) (v : AV) (L : List (Nat × AV)) : List (Nat × AV) := (i, v) :: L.filter (fun q => !(q.1 == i) && !(q.1 + 1 == i && av2 q.2))
theorem lget {ad : Nat → Nat → Nat} {ls : Array Slot} {n : Nat} {L : List (Nat × AV)} (h : lv_has ls n (L.map fun q => (q.1, cv ad q.2))) {i : Nat} {v : AV} (hv : L.lookup i = some v) : ls[i]? = some (.val (cv ad v)) := by
  have hm : (i, v) ∈ L := by
    induction L with
    | nil => simp at hv
    | cons a L ih =>
      obtain ⟨j, w⟩ := a
      rw [List.lookup_cons] at hv
      by_cases hij : (i == j) = true
      · rw [hij] at hv
        simp only [Option.some.injEq] at hv
        have := eq_of_beq hij
        subst this; subst hv
        exact List.mem_cons_self
      · rw [Bool.not_eq_true] at hij
        rw [hij] at hv
        refine List.mem_cons_of_mem _ (ih ⟨h.1, h.2.1, fun q hq => h.2.2 q ?_⟩ hv)
        exact List.mem_cons_of_mem _ hq
  exact h.2.2 (i, cv ad v) (List.mem_map.mpr ⟨(i, v), hm, rfl⟩)
theorem av2_cat {ad : Nat → Nat → Nat} (v : AV) : ((cv ad v).category == 2) = av2 v := by
  rcases v with x | y | q <;> rfl
theorem lset_map {ad : Nat → Nat → Nat} (i : Nat) (v : AV) (L : List (Nat × AV)) : (i, cv ad v) :: (L.map fun q => (q.1, cv ad q.2)).filter (fun q => !(q.1 == i) && !(q.1 + 1 == i && q.2.category == 2)) = (lset i v L).map (fun q => (q.1, cv ad q.2)) := by
  unfold lset
  rw [List.map_cons, List.filter_map]
  congr 2
  apply List.filter_congr
  intro q _
  show (!(q.1 == i) && !(q.1 + 1 == i && ((cv ad q.2).category == 2))) = _
  rw [av2_cat]
/-- fewer locals, or in another order -/
theorem G_sub {t : MT} {d : Nat} {r : Option AV} {M' : MM} {pc : Nat} {L : List (Nat × AV)} {st : List AV} {M : MM} (L2 : List (Nat × AV)) (ks : List Nat) (h : ks.filterMap (fun k => L[k]?) = L2) (k : G t d r M' pc L2 st M) : G t d r M' pc L st M := by
  intro p l e R s m args below meth c cells slots A H0 ad cA D Q C F H locs ls hl hP hS
  refine k p l e R s m args below meth c cells slots A H0 ad cA D Q C F H locs ls (lv_sub hl ks ?_) hP hS
  subst h
  unfold lv_pick
  rw [List.map_filterMap]
  congr 1
  funext j
  rw [List.getElem?_map]
section ONE
variable {t : MT} {d : Nat} {r : Option AV} {M' : MM} {pc : Nat} {L L2 : List (Nat × AV)} {st : List AV} {M : MM}
theorem G_iconst {n : Int} {v : Int32} (hdg : decode t.2.2.1 pc = .ok (.iconst n, 1)) (hv : Int32.ofInt n = v) (k : G t d r M' (pc + 1) L (.inl v :: st) M) : G t d r M' pc L st M := by
  intro p l e R s m args below meth c cells slots A H0 ad cA D Q C F H locs ls hl hP hS
  exact lv_iconst C.1 C.2.1 hdg hv (k p l e R s m args below meth c cells slots A H0 ad cA D Q C F H locs ls hl hP hS)
theorem G_bipush {n : Int} {v : Int32} (hdg : decode t.2.2.1 pc = .ok (.bipush n, 2)) (hv : (Int8.ofInt n).toInt32 = v) (k : G t d r M' (pc + 2) L (.inl v :: st) M) : G t d r M' pc L st M := by
  intro p l e R s m args below meth c cells slots A H0 ad cA D Q C F H locs ls hl hP hS
  exact lv_bipush C.1 C.2.1 hdg hv (k p l e R s m args below meth c cells slots A H0 ad cA D Q C F H locs ls hl hP hS)
theorem G_sipush {n : Int} {v : Int32} (hdg : decode t.2.2.1 pc = .ok (.sipush n, 3)) (hv : (Int16.ofInt n).toInt32 = v) (k : G t d r M' (pc + 3) L (.inl v :: st) M) : G t d r M' pc L st M := by
  intro p l e R s m args below meth c cells slots A H0 ad cA D Q C F H locs ls hl hP hS
  exact lv_sipush C.1 C.2.1 hdg hv (k p l e R s m args below meth c cells slots A H0 ad cA D Q C F H locs ls hl hP hS)
theorem G_lconst {n : Fin 2} {v : Int64} (hdg : decode t.2.2.1 pc = .ok (.lconst n, 1)) (hv : Int64.ofNat (n : Nat) = v) (k : G t d r M' (pc + 1) L (.inr (.inl v) :: st) M) : G t d r M' pc L st M := by
  intro p l e R s m args below meth c cells slots A H0 ad cA D Q C F H locs ls hl hP hS
  exact lv_lconst C.1 C.2.1 hdg hv (k p l e R s m args below meth c cells slots A H0 ad cA D Q C F H locs ls hl hP hS)
theorem G_ldc {i : Nat} {v : Int32} (hw : Cond.constant t.1 i v ∈ TB) (hdg : decode t.2.2.1 pc = .ok (.ldc i, 2)) (k : G t d r M' (pc + 2) L (.inl v :: st) M) : G t d r M' pc L st M := by
  intro p l e R s m args below meth c cells slots A H0 ad cA D Q C F H locs ls hl hP hS
  exact lv_ldc C.1 C.2.1 C.2.2.2.1 (C.2.2.2.2.1 _ hw) hdg (k p l e R s m args below meth c cells slots A H0 ad cA D Q C F H locs ls hl hP hS)
theorem G_ldcw {i : Nat} {v : Int32} (hw : Cond.constant t.1 i v ∈ TB) (hdg : decode t.2.2.1 pc = .ok (.ldc_w i, 3)) (k : G t d r M' (pc + 3) L (.inl v :: st) M) : G t d r M' pc L st M := by
  intro p l e R s m args below meth c cells slots A H0 ad cA D Q C F H locs ls hl hP hS
  exact lv_ldcw C.1 C.2.1 C.2.2.2.1 (C.2.2.2.2.1 _ hw) hdg (k p l e R s m args below meth c cells slots A H0 ad cA D Q C F H locs ls hl hP hS)
theorem G_ldc2 {i : Nat} {v : Int64} (hw : Cond.constantLong t.1 i v ∈ TB) (hdg : decode t.2.2.1 pc = .ok (.ldc2_w i, 3)) (k : G t d r M' (pc + 3) L (.inr (.inl v) :: st) M) : G t d r M' pc L st M := by
  intro p l e R s m args below meth c cells slots A H0 ad cA D Q C F H locs ls hl hP hS
  exact lv_ldc2 C.1 C.2.1 C.2.2.2.1 (C.2.2.2.2.1 _ hw) hdg (k p l e R s m args below meth c cells slots A H0 ad cA D Q C F H locs ls hl hP hS)
theorem G_iload_n {k0 : Fin 4} {x : Int32} (hdg : decode t.2.2.1 pc = .ok (.iload_n k0, 1)) (hx : L.lookup (k0 : Nat) = some (.inl x)) (k : G t d r M' (pc + 1) L (.inl x :: st) M) : G t d r M' pc L st M := by
  intro p l e R s m args below meth c cells slots A H0 ad cA D Q C F H locs ls hl hP hS
  exact lv_iload_n C.1 C.2.1 hdg rfl (lget hl hx) (k p l e R s m args below meth c cells slots A H0 ad cA D Q C F H locs ls hl hP hS)
theorem G_iload {i : Nat} {x : Int32} (hdg : decode t.2.2.1 pc = .ok (.iload i, 2)) (hx : L.lookup i = some (.inl x)) (k : G t d r M' (pc + 2) L (.inl x :: st) M) : G t d r M' pc L st M := by
  intro p l e R s m args below meth c cells slots A H0 ad cA D Q C F H locs ls hl hP hS
  exact lv_iload C.1 C.2.1 hdg (lget hl hx) (k p l e R s m args below meth c cells slots A H0 ad cA D Q C F H locs ls hl hP hS)
theorem G_lload_n {k0 : Fin 4} {x : Int64} (hdg : decode t.2.2.1 pc = .ok (.lload_n k0, 1)) (hx : L.lookup (k0 : Nat) = some (.inr (.inl x))) (k : G t d r M' (pc + 1) L (.inr (.inl x) :: st) M) : G t d r M' pc L st M := by
  intro p l e R s m args below meth c cells slots A H0 ad cA D Q C F H locs ls hl hP hS
  exact lv_lload_n C.1 C.2.1 hdg rfl (lget hl hx) (k p l e R s m args below meth c cells slots A H0 ad cA D Q C F H locs ls hl hP hS)
theorem G_lload {i : Nat} {x : Int64} (hdg : decode t.2.2.1 pc = .ok (.lload i, 2)) (hx : L.lookup i = some (.inr (.inl x))) (k : G t d r M' (pc + 2) L (.inr (.inl x) :: st) M) : G t d r M' pc L st M := by
  intro p l e R s m args below meth c cells slots A H0 ad cA D Q C F H locs ls hl hP hS
  exact lv_lload C.1 C.2.1 hdg (lget hl hx) (k p l e R s m args below meth c cells slots A H0 ad cA D Q C F H locs ls hl hP hS)
theorem G_aload_n {k0 : Fin 4} {q : Nat × Nat} (hdg : decode t.2.2.1 pc = .ok (.aload_n k0, 1)) (hx : L.lookup (k0 : Nat) = some (.inr (.inr q))) (k : G t d r M' (pc + 1) L (.inr (.inr q) :: st) M) : G t d r M' pc L st M := by
  intro p l e R s m args below meth c cells slots A H0 ad cA D Q C F H locs ls hl hP hS
  exact lv_aload_n C.1 C.2.1 hdg rfl (lget hl hx) (k p l e R s m args below meth c cells slots A H0 ad cA D Q C F H locs ls hl hP hS)
theorem G_aload {i : Nat} {q : Nat × Nat} (hdg : decode t.2.2.1 pc = .ok (.aload i, 2)) (hx : L.lookup i = some (.inr (.inr q))) (k : G t d r M' (pc + 2) L (.inr (.inr q) :: st) M) : G t d r M' pc L st M := by
  intro p l e R s m args below meth c cells slots A H0 ad cA D Q C F H locs ls hl hP hS
  exact lv_aload C.1 C.2.1 hdg (lget hl hx) (k p l e R s m args below meth c cells slots A H0 ad cA D Q C F H locs ls hl hP hS)
theorem G_istore_n {k0 : Fin 4} {x : Int32} (hdg : decode t.2.2.1 pc = .ok (.istore_n k0, 1)) (hn : (k0 : Nat) < t.2.2.2.1) (hL : lset (k0 : Nat) (.inl x) L = L2) (k : G t d r M' (pc + 1) L2 st M) : G t d r M' pc L (.inl x :: st) M := by
  intro p l e R s m args below meth c cells slots A H0 ad cA D Q C F H locs ls hl hP hS
  subst hL
  exact lv_istore_n C.1 C.2.1 hdg rfl hl hn (lset_map (ad := ad) _ (.inl x) L) (fun ls hl => k p l e R s m args below meth c cells slots A H0 ad cA D Q C F H locs ls hl hP hS)
theorem G_istore {i : Nat} {x : Int32} (hdg : decode t.2.2.1 pc = .ok (.istore i, 2)) (hn : i < t.2.2.2.1) (hL : lset i (.inl x) L = L2) (k : G t d r M' (pc + 2) L2 st M) : G t d r M' pc L (.inl x :: st) M := by
  intro p l e R s m args below meth c cells slots A H0 ad cA D Q C F H locs ls hl hP hS
  subst hL
  exact lv_istore C.1 C.2.1 hdg hl hn (lset_map (ad := ad) _ (.inl x) L) (fun ls hl => k p l e R s m args below meth c cells slots A H0 ad cA D Q C F H locs ls hl hP hS)
theorem G_astore_n {k0 : Fin 4} {q : Nat × Nat} (hdg : decode t.2.2.1 pc = .ok (.astore_n k0, 1)) (hn : (k0 : Nat) < t.2.2.2.1) (hL : lset (k0 : Nat) (.inr (.inr q)) L = L2) (k : G t d r M' (pc + 1) L2 st M) : G t d r M' pc L (.inr (.inr q) :: st) M := by
  intro p l e R s m args below meth c cells slots A H0 ad cA D Q C F H locs ls hl hP hS
  subst hL
  exact lv_astore_n C.1 C.2.1 hdg rfl hl hn (lset_map (ad := ad) _ (.inr (.inr q)) L) (fun ls hl => k p l e R s m args below meth c cells slots A H0 ad cA D Q C F H locs ls hl hP hS)
theorem G_astore {i : Nat} {q : Nat × Nat} (hdg : decode t.2.2.1 pc = .ok (.astore i, 2)) (hn : i < t.2.2.2.1) (hL : lset i (.inr (.inr q)) L = L2) (k : G t d r M' (pc + 2) L2 st M) : G t d r M' pc L (.inr (.inr q) :: st) M := by
  intro p l e R s m args below meth c cells slots A H0 ad cA D Q C F H locs ls hl hP hS
  subst hL
  exact lv_astore C.1 C.2.1 hdg hl hn (lset_map (ad := ad) _ (.inr (.inr q)) L) (fun ls hl => k p l e R s m args below meth c cells slots A H0 ad cA D Q C F H locs ls hl hP hS)
theorem G_iinc {i : Nat} {n : Int} {x v : Int32} (hdg : decode t.2.2.1 pc = .ok (.iinc i n, 3)) (hx : L.lookup i = some (.inl x)) (hv : x + Int32.ofInt n = v) (hn : i < t.2.2.2.1) (hL : lset i (.inl v) L = L2) (k : G t d r M' (pc + 3) L2 st M) : G t d r M' pc L st M := by
  intro p l e R s m args below meth c cells slots A H0 ad cA D Q C F H locs ls hl hP hS
  subst hL
  have hm : ∃ j : Nat, L[j]? = some (i, (Sum.inl x : AV)) := by
    have h1 := hx
    clear k hl
    induction L with
    | nil => simp at h1
    | cons a L ih =>
      obtain ⟨j, w⟩ := a
      rw [List.lookup_cons] at h1
      by_cases hij : (i == j) = true
      · rw [hij] at h1
        simp only [Option.some.injEq] at h1
        have := eq_of_beq hij
        subst this; subst h1
        exact ⟨0, rfl⟩
      · rw [Bool.not_eq_true] at hij
        rw [hij] at h1
        obtain ⟨j2, h2⟩ := ih h1 h1
        exact ⟨j2 + 1, h2⟩
  obtain ⟨j, hj⟩ := hm
  exact lv_iinc C.1 C.2.1 hdg hl (k := j) (by rw [List.getElem?_map, hj]; rfl) hv hn (lset_map (ad := ad) _ (.inl v) L) (fun ls hl => k p l e R s m args below meth c cells slots A H0 ad cA D Q C F H locs ls hl hP hS)
theorem av1_cat {ad : Nat → Nat → Nat} {v : AV} (h : av2 v = false) : (cv ad v).category = 1 := by
  rcases v with x | y | q
  · rfl
  · cases h
  · rfl
def jrem (x y : Int32) : Int32 := x - x / y * y
theorem G_iadd {x y : Int32} (hdg : decode t.2.2.1 pc = .ok (.iadd, 1)) (k : G t d r M' (pc + 1) L (.inl (x + y) :: st) M) : G t d r M' pc L (.inl y :: .inl x :: st) M := by
  intro p l e R s m args below meth c cells slots A H0 ad cA D Q C F H locs ls hl hP hS
  exact lv_iadd C.1 C.2.1 hdg (k p l e R s m args below meth c cells slots A H0 ad cA D Q C F H locs ls hl hP hS)
theorem G_isub {x y : Int32} (hdg : decode t.2.2.1 pc = .ok (.isub, 1)) (k : G t d r M' (pc + 1) L (.inl (x - y) :: st) M) : G t d r M' pc L (.inl y :: .inl x :: st) M := by
  intro p l e R s m args below meth c cells slots A H0 ad cA D Q C F H locs ls hl hP hS
  exact lv_isub C.1 C.2.1 hdg (k p l e R s m args below meth c cells slots A H0 ad cA D Q C F H locs ls hl hP hS)
theorem G_imul {x y : Int32} (hdg : decode t.2.2.1 pc = .ok (.imul, 1)) (k : G t d r M' (pc + 1) L (.inl (x * y) :: st) M) : G t d r M' pc L (.inl y :: .inl x :: st) M := by
  intro p l e R s m args below meth c cells slots A H0 ad cA D Q C F H locs ls hl hP hS
  exact lv_imul C.1 C.2.1 hdg (k p l e R s m args below meth c cells slots A H0 ad cA D Q C F H locs ls hl hP hS)
theorem G_iand {x y : Int32} (hdg : decode t.2.2.1 pc = .ok (.iand, 1)) (k : G t d r M' (pc + 1) L (.inl (x &&& y) :: st) M) : G t d r M' pc L (.inl y :: .inl x :: st) M := by
  intro p l e R s m args below meth c cells slots A H0 ad cA D Q C F H locs ls hl hP hS
  exact lv_iand C.1 C.2.1 hdg (k p l e R s m args below meth c cells slots A H0 ad cA D Q C F H locs ls hl hP hS)
theorem G_ior {x y : Int32} (hdg : decode t.2.2.1 pc = .ok (.ior, 1)) (k : G t d r M' (pc + 1) L (.inl (x ||| y) :: st) M) : G t d r M' pc L (.inl y :: .inl x :: st) M := by
  intro p l e R s m args below meth c cells slots A H0 ad cA D Q C F H locs ls hl hP hS
  exact lv_ior C.1 C.2.1 hdg (k p l e R s m args below meth c cells slots A H0 ad cA D Q C F H locs ls hl hP hS)
theorem G_ixor {x y : Int32} (hdg : decode t.2.2.1 pc = .ok (.ixor, 1)) (k : G t d r M' (pc + 1) L (.inl (x ^^^ y) :: st) M) : G t d r M' pc L (.inl y :: .inl x :: st) M := by
  intro p l e R s m args below meth c cells slots A H0 ad cA D Q C F H locs ls hl hP hS
  exact lv_ixor C.1 C.2.1 hdg (k p l e R s m args below meth c cells slots A H0 ad cA D Q C F H locs ls hl hP hS)
theorem G_ishl {x y : Int32} (hdg : decode t.2.2.1 pc = .ok (.ishl, 1)) (k : G t d r M' (pc + 1) L (.inl (x <<< (y &&& 31)) :: st) M) : G t d r M' pc L (.inl y :: .inl x :: st) M := by
  intro p l e R s m args below meth c cells slots A H0 ad cA D Q C F H locs ls hl hP hS
  exact lv_ishl C.1 C.2.1 hdg (k p l e R s m args below meth c cells slots A H0 ad cA D Q C F H locs ls hl hP hS)
theorem G_ishr {x y : Int32} (hdg : decode t.2.2.1 pc = .ok (.ishr, 1)) (k : G t d r M' (pc + 1) L (.inl (x >>> (y &&& 31)) :: st) M) : G t d r M' pc L (.inl y :: .inl x :: st) M := by
  intro p l e R s m args below meth c cells slots A H0 ad cA D Q C F H locs ls hl hP hS
  exact lv_ishr C.1 C.2.1 hdg (k p l e R s m args below meth c cells slots A H0 ad cA D Q C F H locs ls hl hP hS)
theorem G_idiv {x y : Int32} (hne : ¬ y = 0) (hdg : decode t.2.2.1 pc = .ok (.idiv, 1)) (k : G t d r M' (pc + 1) L (.inl (x / y) :: st) M) : G t d r M' pc L (.inl y :: .inl x :: st) M := by
  intro p l e R s m args below meth c cells slots A H0 ad cA D Q C F H locs ls hl hP hS
  exact lv_idiv C.1 C.2.1 hdg hne (k p l e R s m args below meth c cells slots A H0 ad cA D Q C F H locs ls hl hP hS)
theorem G_irem {x y : Int32} (hne : ¬ y = 0) (hdg : decode t.2.2.1 pc = .ok (.irem, 1)) (k : G t d r M' (pc + 1) L (.inl (jrem x y) :: st) M) : G t d r M' pc L (.inl y :: .inl x :: st) M := by
  intro p l e R s m args below meth c cells slots A H0 ad cA D Q C F H locs ls hl hP hS
  exact lv_irem C.1 C.2.1 hdg hne (k p l e R s m args below meth c cells slots A H0 ad cA D Q C F H locs ls hl hP hS)
def jushr (x y : Int32) : Int32 := (x.toUInt32 >>> (y.toUInt32 &&& Int32.toUInt32 31)).toInt32
def jlushr (x : Int64) (y : Int32) : Int64 := (x.toUInt64 >>> (y.toInt64.toUInt64 &&& Int64.toUInt64 63)).toInt64
theorem G_iushr {x y : Int32} (hdg : decode t.2.2.1 pc = .ok (.iushr, 1)) (k : G t d r M' (pc + 1) L (.inl (jushr x y) :: st) M) : G t d r M' pc L (.inl y :: .inl x :: st) M := by
  intro p l e R s m args below meth c cells slots A H0 ad cA D Q C F H locs ls hl hP hS
  exact lv_iushr C.1 C.2.1 hdg rfl (k p l e R s m args below meth c cells slots A H0 ad cA D Q C F H locs ls hl hP hS)
theorem G_ineg {x : Int32} (hdg : decode t.2.2.1 pc = .ok (.ineg, 1)) (k : G t d r M' (pc + 1) L (.inl (-x) :: st) M) : G t d r M' pc L (.inl x :: st) M := by
  intro p l e R s m args below meth c cells slots A H0 ad cA D Q C F H locs ls hl hP hS
  exact lv_ineg C.1 C.2.1 hdg (k p l e R s m args below meth c cells slots A H0 ad cA D Q C F H locs ls hl hP hS)
theorem G_i2b {x : Int32} (hdg : decode t.2.2.1 pc = .ok (.i2b, 1)) (k : G t d r M' (pc + 1) L (.inl (nbB x) :: st) M) : G t d r M' pc L (.inl x :: st) M := by
  intro p l e R s m args below meth c cells slots A H0 ad cA D Q C F H locs ls hl hP hS
  exact lv_i2b C.1 C.2.1 hdg rfl (k p l e R s m args below meth c cells slots A H0 ad cA D Q C F H locs ls hl hP hS)
theorem G_i2s {x : Int32} (hdg : decode t.2.2.1 pc = .ok (.i2s, 1)) (k : G t d r M' (pc + 1) L (.inl (x.toInt16.toInt32) :: st) M) : G t d r M' pc L (.inl x :: st) M := by
  intro p l e R s m args below meth c cells slots A H0 ad cA D Q C F H locs ls hl hP hS
  exact lv_i2s C.1 C.2.1 hdg rfl (k p l e R s m args below meth c cells slots A H0 ad cA D Q C F H locs ls hl hP hS)
theorem G_i2l {x : Int32} (hdg : decode t.2.2.1 pc = .ok (.i2l, 1)) (k : G t d r M' (pc + 1) L (.inr (.inl (x.toInt64)) :: st) M) : G t d r M' pc L (.inl x :: st) M := by
  intro p l e R s m args below meth c cells slots A H0 ad cA D Q C F H locs ls hl hP hS
  exact lv_i2l C.1 C.2.1 hdg rfl (k p l e R s m args below meth c cells slots A H0 ad cA D Q C F H locs ls hl hP hS)
theorem G_l2i {x : Int64} (hdg : decode t.2.2.1 pc = .ok (.l2i, 1)) (k : G t d r M' (pc + 1) L (.inl (x.toInt32) :: st) M) : G t d r M' pc L (.inr (.inl x) :: st) M := by
  intro p l e R s m args below meth c cells slots A H0 ad cA D Q C F H locs ls hl hP hS
  exact lv_l2i C.1 C.2.1 hdg rfl (k p l e R s m args below meth c cells slots A H0 ad cA D Q C F H locs ls hl hP hS)
theorem G_land {x y : Int64} (hdg : decode t.2.2.1 pc = .ok (.land, 1)) (k : G t d r M' (pc + 1) L (.inr (.inl (x &&& y)) :: st) M) : G t d r M' pc L (.inr (.inl y) :: .inr (.inl x) :: st) M := by
  intro p l e R s m args below meth c cells slots A H0 ad cA D Q C F H locs ls hl hP hS
  exact lv_land C.1 C.2.1 hdg (k p l e R s m args below meth c cells slots A H0 ad cA D Q C F H locs ls hl hP hS)
theorem G_lor {x y : Int64} (hdg : decode t.2.2.1 pc = .ok (.lor, 1)) (k : G t d r M' (pc + 1) L (.inr (.inl (x ||| y)) :: st) M) : G t d r M' pc L (.inr (.inl y) :: .inr (.inl x) :: st) M := by
  intro p l e R s m args below meth c cells slots A H0 ad cA D Q C F H locs ls hl hP hS
  exact lv_lor C.1 C.2.1 hdg (k p l e R s m args below meth c cells slots A H0 ad cA D Q C F H locs ls hl hP hS)
theorem G_lshl {x : Int64} {y : Int32} (hdg : decode t.2.2.1 pc = .ok (.lshl, 1)) (k : G t d r M' (pc + 1) L (.inr (.inl (x <<< (y.toInt64 &&& 63))) :: st) M) : G t d r M' pc L (.inl y :: .inr (.inl x) :: st) M := by
  intro p l e R s m args below meth c cells slots A H0 ad cA D Q C F H locs ls hl hP hS
  exact lv_lshl C.1 C.2.1 hdg rfl (k p l e R s m args below meth c cells slots A H0 ad cA D Q C F H locs ls hl hP hS)
theorem G_lshr {x : Int64} {y : Int32} (hdg : decode t.2.2.1 pc = .ok (.lshr, 1)) (k : G t d r M' (pc + 1) L (.inr (.inl (x >>> (y.toInt64 &&& 63))) :: st) M) : G t d r M' pc L (.inl y :: .inr (.inl x) :: st) M := by
  intro p l e R s m args below meth c cells slots A H0 ad cA D Q C F H locs ls hl hP hS
  exact lv_lshr C.1 C.2.1 hdg rfl (k p l e R s m args below meth c cells slots A H0 ad cA D Q C F H locs ls hl hP hS)
theorem G_lushr {x : Int64} {y : Int32} (hdg : decode t.2.2.1 pc = .ok (.lushr, 1)) (k : G t d r M' (pc + 1) L (.inr (.inl (jlushr x y)) :: st) M) : G t d r M' pc L (.inl y :: .inr (.inl x) :: st) M := by
  intro p l e R s m args below meth c cells slots A H0 ad cA D Q C F H locs ls hl hP hS
  exact lv_lushr C.1 C.2.1 hdg rfl (k p l e R s m args below meth c cells slots A H0 ad cA D Q C F H locs ls hl hP hS)
theorem G_lcmp {x y : Int64} (hdg : decode t.2.2.1 pc = .ok (.lcmp, 1)) (k : G t d r M' (pc + 1) L (.inl (lg_cmp x y) :: st) M) : G t d r M' pc L (.inr (.inl y) :: .inr (.inl x) :: st) M := by
  intro p l e R s m args below meth c cells slots A H0 ad cA D Q C F H locs ls hl hP hS
  exact W.lcmp C.1 C.2.1 hdg (k p l e R s m args below meth c cells slots A H0 ad cA D Q C F H locs ls hl hP hS)
theorem G_dup {v : AV} (h2 : av2 v = false) (hdg : decode t.2.2.1 pc = .ok (.dup, 1)) (k : G t d r M' (pc + 1) L (v :: v :: st) M) : G t d r M' pc L (v :: st) M := by
  intro p l e R s m args below meth c cells slots A H0 ad cA D Q C F H locs ls hl hP hS
  exact lv_dup C.1 C.2.1 hdg (av1_cat h2) (k p l e R s m args below meth c cells slots A H0 ad cA D Q C F H locs ls hl hP hS)
theorem G_dup2 {v w : AV} (h2 : av2 v = false) (h3 : av2 w = false) (hdg : decode t.2.2.1 pc = .ok (.dup2, 1)) (k : G t d r M' (pc + 1) L (v :: w :: v :: w :: st) M) : G t d r M' pc L (v :: w :: st) M := by
  intro p l e R s m args below meth c cells slots A H0 ad cA D Q C F H locs ls hl hP hS
  exact lv_dup2_11 C.1 C.2.1 hdg (av1_cat h2) (av1_cat h3) (k p l e R s m args below meth c cells slots A H0 ad cA D Q C F H locs ls hl hP hS)
theorem G_goto {off : Int} {tgt : Nat} (hdg : decode t.2.2.1 pc = .ok (.goto off, 3)) (ht : (pc : Int) + off = (tgt : Int)) (k : G t d r M' tgt L st M) : G t d r M' pc L st M := by
  intro p l e R s m args below meth c cells slots A H0 ad cA D Q C F H locs ls hl hP hS
  exact lv_goto C.1 C.2.1 hdg ht (k p l e R s m args below meth c cells slots A H0 ad cA D Q C F H locs ls hl hP hS)
theorem G_icmp_eq {x y : Int32} {off : Int} {tgt : Nat} (hdg : decode t.2.2.1 pc = .ok (.if_icmp .eq off, 3)) (ht : (pc : Int) + off = (tgt : Int)) (kt : x = y → G t d r M' tgt L st M) (kf : ¬ x = y → G t d r M' (pc + 3) L st M) : G t d r M' pc L (.inl y :: .inl x :: st) M := by
  intro p l e R s m args below meth c cells slots A H0 ad cA D Q C F H locs ls hl hP hS
  exact lv_icmp_eq C.1 C.2.1 hdg ht (fun h => kt (h) p l e R s m args below meth c cells slots A H0 ad cA D Q C F H locs ls hl hP hS) (fun h => kf (h) p l e R s m args below meth c cells slots A H0 ad cA D Q C F H locs ls hl hP hS)
theorem G_if_eq {x : Int32} {off : Int} {tgt : Nat} (hdg : decode t.2.2.1 pc = .ok (.ifCond .eq off, 3)) (ht : (pc : Int) + off = (tgt : Int)) (kt : x = 0 → G t d r M' tgt L st M) (kf : ¬ x = 0 → G t d r M' (pc + 3) L st M) : G t d r M' pc L (.inl x :: st) M := by
  intro p l e R s m args below meth c cells slots A H0 ad cA D Q C F H locs ls hl hP hS
  exact lv_if_eq C.1 C.2.1 hdg ht (fun h => kt (h) p l e R s m args below meth c cells slots A H0 ad cA D Q C F H locs ls hl hP hS) (fun h => kf (h) p l e R s m args below meth c cells slots A H0 ad cA D Q C F H locs ls hl hP hS)
theorem G_icmp_ne {x y : Int32} {off : Int} {tgt : Nat} (hdg : decode t.2.2.1 pc = .ok (.if_icmp .ne off, 3)) (ht : (pc : Int) + off = (tgt : Int)) (kt : ¬ x = y → G t d r M' tgt L st M) (kf : x = y → G t d r M' (pc + 3) L st M) : G t d r M' pc L (.inl y :: .inl x :: st) M := by
  intro p l e R s m args below meth c cells slots A H0 ad cA D Q C F H locs ls hl hP hS
  exact lv_icmp_ne C.1 C.2.1 hdg ht (fun h => kt (h) p l e R s m args below meth c cells slots A H0 ad cA D Q C F H locs ls hl hP hS) (fun h => kf (h) p l e R s m args below meth c cells slots A H0 ad cA D Q C F H locs ls hl hP hS)
theorem G_if_ne {x : Int32} {off : Int} {tgt : Nat} (hdg : decode t.2.2.1 pc = .ok (.ifCond .ne off, 3)) (ht : (pc : Int) + off = (tgt : Int)) (kt : ¬ x = 0 → G t d r M' tgt L st M) (kf : x = 0 → G t d r M' (pc + 3) L st M) : G t d r M' pc L (.inl x :: st) M := by
  intro p l e R s m args below meth c cells slots A H0 ad cA D Q C F H locs ls hl hP hS
  exact lv_if_ne C.1 C.2.1 hdg ht (fun h => kt (h) p l e R s m args below meth c cells slots A H0 ad cA D Q C F H locs ls hl hP hS) (fun h => kf (h) p l e R s m args below meth c cells slots A H0 ad cA D Q C F H locs ls hl hP hS)
theorem G_icmp_lt {x y : Int32} {off : Int} {tgt : Nat} (hdg : decode t.2.2.1 pc = .ok (.if_icmp .lt off, 3)) (ht : (pc : Int) + off = (tgt : Int)) (kt : x < y → G t d r M' tgt L st M) (kf : ¬ x < y → G t d r M' (pc + 3) L st M) : G t d r M' pc L (.inl y :: .inl x :: st) M := by
  intro p l e R s m args below meth c cells slots A H0 ad cA D Q C F H locs ls hl hP hS
  exact lv_icmp_lt C.1 C.2.1 hdg ht (fun h => kt (h) p l e R s m args below meth c cells slots A H0 ad cA D Q C F H locs ls hl hP hS) (fun h => kf (h) p l e R s m args below meth c cells slots A H0 ad cA D Q C F H locs ls hl hP hS)
theorem G_if_lt {x : Int32} {off : Int} {tgt : Nat} (hdg : decode t.2.2.1 pc = .ok (.ifCond .lt off, 3)) (ht : (pc : Int) + off = (tgt : Int)) (kt : x < 0 → G t d r M' tgt L st M) (kf : ¬ x < 0 → G t d r M' (pc + 3) L st M) : G t d r M' pc L (.inl x :: st) M := by
  intro p l e R s m args below meth c cells slots A H0 ad cA D Q C F H locs ls hl hP hS
  exact lv_if_lt C.1 C.2.1 hdg ht (fun h => kt (h) p l e R s m args below meth c cells slots A H0 ad cA D Q C F H locs ls hl hP hS) (fun h => kf (h) p l e R s m args below meth c cells slots A H0 ad cA D Q C F H locs ls hl hP hS)
theorem G_icmp_ge {x y : Int32} {off : Int} {tgt : Nat} (hdg : decode t.2.2.1 pc = .ok (.if_icmp .ge off, 3)) (ht : (pc : Int) + off = (tgt : Int)) (kt : ¬ x < y → G t d r M' tgt L st M) (kf : x < y → G t d r M' (pc + 3) L st M) : G t d r M' pc L (.inl y :: .inl x :: st) M := by
  intro p l e R s m args below meth c cells slots A H0 ad cA D Q C F H locs ls hl hP hS
  exact lv_icmp_ge C.1 C.2.1 hdg ht (fun h => kt (Int32.not_lt.mpr h) p l e R s m args below meth c cells slots A H0 ad cA D Q C F H locs ls hl hP hS) (fun h => kf (Int32.not_le.mp h) p l e R s m args below meth c cells slots A H0 ad cA D Q C F H locs ls hl hP hS)
theorem G_if_ge {x : Int32} {off : Int} {tgt : Nat} (hdg : decode t.2.2.1 pc = .ok (.ifCond .ge off, 3)) (ht : (pc : Int) + off = (tgt : Int)) (kt : ¬ x < 0 → G t d r M' tgt L st M) (kf : x < 0 → G t d r M' (pc + 3) L st M) : G t d r M' pc L (.inl x :: st) M := by
  intro p l e R s m args below meth c cells slots A H0 ad cA D Q C F H locs ls hl hP hS
  exact lv_if_ge C.1 C.2.1 hdg ht (fun h => kt (Int32.not_lt.mpr h) p l e R s m args below meth c cells slots A H0 ad cA D Q C F H locs ls hl hP hS) (fun h => kf (Int32.not_le.mp h) p l e R s m args below meth c cells slots A H0 ad cA D Q C F H locs ls hl hP hS)
theorem G_icmp_gt {x y : Int32} {off : Int} {tgt : Nat} (hdg : decode t.2.2.1 pc = .ok (.if_icmp .gt off, 3)) (ht : (pc : Int) + off = (tgt : Int)) (kt : y < x → G t d r M' tgt L st M) (kf : ¬ y < x → G t d r M' (pc + 3) L st M) : G t d r M' pc L (.inl y :: .inl x :: st) M := by
  intro p l e R s m args below meth c cells slots A H0 ad cA D Q C F H locs ls hl hP hS
  exact lv_icmp_gt C.1 C.2.1 hdg ht (fun h => kt (h) p l e R s m args below meth c cells slots A H0 ad cA D Q C F H locs ls hl hP hS) (fun h => kf (h) p l e R s m args below meth c cells slots A H0 ad cA D Q C F H locs ls hl hP hS)
theorem G_if_gt {x : Int32} {off : Int} {tgt : Nat} (hdg : decode t.2.2.1 pc = .ok (.ifCond .gt off, 3)) (ht : (pc : Int) + off = (tgt : Int)) (kt : 0 < x → G t d r M' tgt L st M) (kf : ¬ 0 < x → G t d r M' (pc + 3) L st M) : G t d r M' pc L (.inl x :: st) M := by
  intro p l e R s m args below meth c cells slots A H0 ad cA D Q C F H locs ls hl hP hS
  exact lv_if_gt C.1 C.2.1 hdg ht (fun h => kt (h) p l e R s m args below meth c cells slots A H0 ad cA D Q C F H locs ls hl hP hS) (fun h => kf (h) p l e R s m args below meth c cells slots A H0 ad cA D Q C F H locs ls hl hP hS)
theorem G_icmp_le {x y : Int32} {off : Int} {tgt : Nat} (hdg : decode t.2.2.1 pc = .ok (.if_icmp .le off, 3)) (ht : (pc : Int) + off = (tgt : Int)) (kt : ¬ y < x → G t d r M' tgt L st M) (kf : y < x → G t d r M' (pc + 3) L st M) : G t d r M' pc L (.inl y :: .inl x :: st) M := by
  intro p l e R s m args below meth c cells slots A H0 ad cA D Q C F H locs ls hl hP hS
  exact lv_icmp_le C.1 C.2.1 hdg ht (fun h => kt (Int32.not_lt.mpr h) p l e R s m args below meth c cells slots A H0 ad cA D Q C F H locs ls hl hP hS) (fun h => kf (Int32.not_le.mp h) p l e R s m args below meth c cells slots A H0 ad cA D Q C F H locs ls hl hP hS)
theorem G_if_le {x : Int32} {off : Int} {tgt : Nat} (hdg : decode t.2.2.1 pc = .ok (.ifCond .le off, 3)) (ht : (pc : Int) + off = (tgt : Int)) (kt : ¬ 0 < x → G t d r M' tgt L st M) (kf : 0 < x → G t d r M' (pc + 3) L st M) : G t d r M' pc L (.inl x :: st) M := by
  intro p l e R s m args below meth c cells slots A H0 ad cA D Q C F H locs ls hl hP hS
  exact lv_if_le C.1 C.2.1 hdg ht (fun h => kt (Int32.not_lt.mpr h) p l e R s m args below meth c cells slots A H0 ad cA D Q C F H locs ls hl hP hS) (fun h => kf (Int32.not_le.mp h) p l e R s m args below meth c cells slots A H0 ad cA D Q C F H locs ls hl hP hS)
theorem G_tableIn {dflt lo hi : Int} {offs : Array Int} {len : Nat} {x : Int32} {off : Int} {tgt : Nat} (hdg : decode t.2.2.1 pc = .ok (.tableswitch dflt lo hi offs, len)) (h1 : ¬ x.toInt < lo) (h2 : ¬ hi < x.toInt) (ho : offs[(x.toInt - lo).toNat]? = some off) (ht : (pc : Int) + off = (tgt : Int)) (k : G t d r M' tgt L st M) : G t d r M' pc L (.inl x :: st) M := by
  intro p l e R s m args below meth c cells slots A H0 ad cA D Q C F H locs ls hl hP hS
  exact lv_tableIn C.1 C.2.1 hdg h1 h2 ho ht (k p l e R s m args below meth c cells slots A H0 ad cA D Q C F H locs ls hl hP hS)
theorem G_tableOut {dflt lo hi : Int} {offs : Array Int} {len : Nat} {x : Int32} {tgt : Nat} (hdg : decode t.2.2.1 pc = .ok (.tableswitch dflt lo hi offs, len)) (h : x.toInt < lo ∨ hi < x.toInt) (ht : (pc : Int) + dflt = (tgt : Int)) (k : G t d r M' tgt L st M) : G t d r M' pc L (.inl x :: st) M := by
  intro p l e R s m args below meth c cells slots A H0 ad cA D Q C F H locs ls hl hP hS
  exact lv_tableOut C.1 C.2.1 hdg h ht (k p l e R s m args below meth c cells slots A H0 ad cA D Q C F H locs ls hl hP hS)
theorem G_lookup {dflt : Int} {ps : Array (Int × Int)} {len : Nat} {x : Int32} {off : Int} {tgt : Nat} (hdg : decode t.2.2.1 pc = .ok (.lookupswitch dflt ps, len)) (hp : (ps.toList.zip (ps.toList.drop 1)).all (fun (a, next) => a.1 < next.1) = true) (ho : Op.lookupswitch.offset ps.toList dflt x.toInt = off) (ht : (pc : Int) + off = (tgt : Int)) (k : G t d r M' tgt L st M) : G t d r M' pc L (.inl x :: st) M := by
  intro p l e R s m args below meth c cells slots A H0 ad cA D Q C F H locs ls hl hP hS
  exact lv_lookup C.1 C.2.1 hdg hp ho ht (k p l e R s m args below meth c cells slots A H0 ad cA D Q C F H locs ls hl hP hS)
/-- the end of a method -/
theorem G_ret (hdg : decode t.2.2.1 pc = .ok (retI r, 1)) (ho : retOK t.2.2.2.2 r) (hst : st = r.toList) (hM : M = M') : G t d r M' pc L st M := by
  intro p l e R s m args below meth c cells slots A H0 ad cA D Q C F H locs ls hl hP hS
  subst hst; subst hM
  exact F H locs ls pc hP hS hdg ho
theorem cellE_obj {ad : Nat → Nat → Nat} {cA : Nat → ClassId} {M : MM} {f i : Nat} (h : fCls f < 9) : cellE ad cA M f i = .inr (fCls f, (List.range (fNum (fCls f))).map (fun k => cv ad (fldV f i k M))) := by
  unfold cellE
  rw [if_pos h]
theorem cellE_arr {ad : Nat → Nat → Nat} {cA : Nat → ClassId} {M : MM} {f i : Nat} (h : ¬ fCls f < 9) : cellE ad cA M f i = .inl (cA (fElt f), fLen f, arrF ad M f i) := by
  unfold cellE
  rw [if_neg h]
theorem TB_tbl {w : Cond} (h : w ∈ TB) : w ∈ lw_tbl := (List.mem_filter.mp h).1
/-- a field of an object is read -/
theorem G_get {ci idx : Nat} {C : String} {T : u_T} {N : Nat} {f i k0 : Nat} {v : AV} (hws : ∀ w ∈ u_ws C T N, w ∈ TB) (hc : vwCl[ci]? = some (C, T, N)) (hw : Cond.fieldLink t.1 idx (T k0).1 (T k0).2.1 (T k0).2.2.1 ∈ TB) (hf : f < 32) (hi : i < fCnt f) (hcl : fCls f = ci) (hci : ci < 9) (hN : fNum ci = N) (hk : k0 < N) (hv : fldV f i k0 M = v) (hdg : decode t.2.2.1 pc = .ok (.getfield idx, 3)) (k : G t d r M' (pc + 3) L (v :: st) M) : G t d r M' pc L (.inr (.inr (f, i)) :: st) M := by
  intro p l e R s m args below meth c cells slots A H0 ad cA D Q Cx F H locs ls hl hP hS
  subst hcl
  have he : (world ad cA M)[fOff f + i]? = some (ad f i, .inr (fCls f, (List.range (fNum (fCls f))).map (fun k => cv ad (fldV f i k M)))) := by rw [world_at hf hi, cellE_obj hci]
  exact va_get Cx.1 Cx.2.1 Cx.2.2.2.2.1 hws Cx.2.2.2.1 Cx.2.2.2.2.2.2.1 hP (fOff f + i) he hc k0 hk (Cx.2.2.2.2.1 _ hw) (fun _ h => h) (v := cv ad v) (by rw [List.getElem?_map, hN, List.getElem?_range hk, ← hv]; rfl) hdg (k p l e R s m args below meth c cells slots A H0 ad cA D Q Cx F H locs ls hl hP hS)
theorem rd_wr_other {M : MM} {f i k0 : Nat} {v : Int32} : ∀ f' i', ¬ (f' = f ∧ i' = i) → ∀ j, rdM (wrM M f i k0 v) f' i' j = rdM M f' i' j := fun _ _ h _ => rd_wr_ne h
theorem fld_wr {M : MM} {f i k0 j : Nat} {v : Int32} (hr0 : fRef f k0 = none) (hZ : fZ f k0 = true → nbZ v = v) : fldV f i j (wrM M f i k0 v) = if j = k0 then .inl v else fldV f i j M := by
  unfold fldV
  rw [rd_wr_eq]
  by_cases hj : j = k0
  · subst hj
    rw [hr0]
    by_cases hz : fZ f j = true
    · simp [hz, hZ hz]
    · simp [hz]
  · simp [hj]
theorem fields_wr {ad : Nat → Nat → Nat} {M : MM} {f i k0 N : Nat} {v : Int32} (hk : k0 < N) (hr0 : fRef f k0 = none) (hZ : fZ f k0 = true → nbZ v = v) : ((List.range N).map (fun k => cv ad (fldV f i k M))).set k0 (.int v) = (List.range N).map (fun k => cv ad (fldV f i k (wrM M f i k0 v))) := by
  apply List.ext_getElem?
  intro n
  rw [List.getElem?_set, List.getElem?_map, List.getElem?_map, List.length_map, List.length_range]
  by_cases hn : k0 = n
  · subst hn
    rw [if_pos rfl, if_pos hk, List.getElem?_range hk]
    show _ = some (cv ad (fldV f i k0 (wrM M f i k0 v)))
    rw [fld_wr hr0 hZ, if_pos rfl]
    rfl
  · rw [if_neg hn]
    by_cases h2 : n < N
    · rw [List.getElem?_range h2]
      show some (cv ad (fldV f i n M)) = some (cv ad (fldV f i n (wrM M f i k0 v)))
      rw [fld_wr hr0 hZ, if_neg (fun e => hn e.symm)]
    · rw [List.getElem?_eq_none (by rw [List.length_range]; omega)]
      rfl
theorem narrow_nbZ {v : Int32} (h : nbZ v = v) : narrow .boolean (.int v) = .int v ∧ fits .boolean (.int v) = true := by
  unfold nbZ at h
  by_cases h0 : v = 0
  · subst h0; exact ⟨rfl, rfl⟩
  · rw [if_neg h0] at h
    subst h; exact ⟨rfl, rfl⟩
/-- a number field of an object is written -/
theorem G_put {ci idx : Nat} {C : String} {T : u_T} {N : Nat} {ty0 : Nat → FieldType} {f i k0 : Nat} {v : Int32} {M2 : MM} (hws : ∀ w ∈ u_ws C T N, w ∈ TB) (hty : ∀ k, k < N → parseFieldDescriptor (T k).2.2.1 = some (ty0 k)) (hnm : ∀ a, a < N → ∀ b, b < N → a ≠ b → (T a).2.1 ≠ (T b).2.1) (hc : vwCl[ci]? = some (C, T, N)) (hw : Cond.fieldLink t.1 idx (T k0).1 (T k0).2.1 (T k0).2.2.1 ∈ TB) (hf : f < 32) (hi : i < fCnt f) (hcl : fCls f = ci) (hci : ci < 9) (hN : fNum ci = N) (hk : k0 < N) (hfin : (T k0).2.2.2 = false) (htz : (fZ f k0 = false ∧ ty0 k0 = .int) ∨ (nbZ v = v ∧ ty0 k0 = .boolean)) (hr0 : fRef f k0 = none) (hM2 : wrM M f i k0 v = M2) (hdg : decode t.2.2.1 pc = .ok (.putfield idx, 3)) (k : G t d r M' (pc + 3) L st M2) : G t d r M' pc L (.inl v :: .inr (.inr (f, i)) :: st) M := by
  intro p l e R s m args below meth c cells slots A H0 ad cA D Q Cx F H locs ls hl hP hS
  subst hcl; subst hM2
  have he : (world ad cA M)[fOff f + i]? = some (ad f i, .inr (fCls f, (List.range (fNum (fCls f))).map (fun k => cv ad (fldV f i k M)))) := by rw [world_at hf hi, cellE_obj hci]
  have hZ : fZ f k0 = true → nbZ v = v := by
    intro h
    rcases htz with ⟨h1, -⟩ | ⟨h1, -⟩
    · rw [h1] at h; cases h
    · exact h1
  have hn : narrow (ty0 k0) (.int v) = .int v ∧ fits (ty0 k0) (.int v) = true := by
    rcases htz with ⟨-, h2⟩ | ⟨h1, h2⟩
    · rw [h2]; exact ⟨rfl, rfl⟩
    · rw [h2]; exact narrow_nbZ h1
  have e1 : (world ad cA M).set (fOff f + i) (ad f i, .inr (fCls f, ((List.range (fNum (fCls f))).map (fun k => cv ad (fldV f i k M))).set k0 (.int v))) = world ad cA (wrM M f i k0 v) := by
    rw [fields_wr (by rw [hN]; exact hk) hr0 hZ, ← world_set (M := M) hf hi rd_wr_other, cellE_obj hci]
  refine va_put (v := .int v) Cx.1 Cx.2.1 Cx.2.2.2.2.1 hws ty0 hty hnm Cx.2.2.2.1 Cx.2.2.2.2.2.2.1 hP (Cx.2.2.2.2.2.2.2.2.2.2.2.2 M) hS (fOff f + i) he hc k0 hk (Cx.2.2.2.2.1 _ hw) (fun _ h => h) hfin (hty k0 hk) hn.1 hn.2 (by rw [List.length_map, List.length_range, hN]; exact hk) hdg (fun H1 locs1 hP1 hD1 hS1 => ?_)
  rw [e1] at hP1
  exact k p l e R s m args below meth c cells slots A H0 ad cA D Q Cx F H1 locs1 ls hl hP1 hS1
/-- is an index within an array -/
def ib (x : Int32) (n : Nat) : Bool := decide (¬ x < 0 ∧ x.toNatClampNeg < n)
theorem ib_in {x : Int32} {n : Nat} (h : ib x n = true) : vp_in x n := by
  have h1 := of_decide_eq_true h
  rintro (h2 | h2)
  · exact h1.1 h2
  · exact absurd h1.2 (Nat.not_lt.mpr h2)
theorem ib_lt {x : Int32} {n : Nat} (h : ib x n = true) : x.toNatClampNeg < n := (of_decide_eq_true h).2
theorem G_iald {f i : Nat} {x : Int32} (hf : f < 32) (hi : i < fCnt f) (hcl : ¬ fCls f < 9) (he0 : fElt f = 0) (hin : ib x (fLen f) = true) {v : Int32} (hv : rdM M f i x.toNatClampNeg = v) (hdg : decode t.2.2.1 pc = .ok (.iaload, 1)) (k : G t d r M' (pc + 1) L (.inl v :: st) M) : G t d r M' pc L (.inl x :: .inr (.inr (f, i)) :: st) M := by
  intro p l e R s m args below meth c cells slots A H0 ad cA D Q Cx F H locs ls hl hP hS
  subst hv
  have he : (world ad cA M)[fOff f + i]? = some (ad f i, .inl (cA 0, fLen f, .inl (fun j => rdM M f i j))) := by
    rw [world_at hf hi, cellE_arr hcl]
    unfold arrF
    rw [he0]
    rfl
  exact va_iald Cx.1 Cx.2.1 Cx.2.2.2.2.2.2.1 hP (fOff f + i) 0 he rfl (ib_in hin) hdg (k p l e R s m args below meth c cells slots A H0 ad cA D Q Cx F H locs ls hl hP hS)
theorem G_bald {f i : Nat} {x : Int32} (hf : f < 32) (hi : i < fCnt f) (hcl : ¬ fCls f < 9) (he0 : fElt f = 1) (hin : ib x (fLen f) = true) {v : Int32} (hv : nbB (rdM M f i x.toNatClampNeg) = v) (hdg : decode t.2.2.1 pc = .ok (.baload, 1)) (k : G t d r M' (pc + 1) L (.inl v :: st) M) : G t d r M' pc L (.inl x :: .inr (.inr (f, i)) :: st) M := by
  intro p l e R s m args below meth c cells slots A H0 ad cA D Q Cx F H locs ls hl hP hS
  subst hv
  have he : (world ad cA M)[fOff f + i]? = some (ad f i, .inl (cA 1, fLen f, .inl (fun j => nbB (rdM M f i j)))) := by
    rw [world_at hf hi, cellE_arr hcl]
    unfold arrF
    rw [he0]
    rfl
  exact va_bald Cx.1 Cx.2.1 Cx.2.2.2.2.2.2.1 hP (fOff f + i) 1 he rfl (ib_in hin) hdg (k p l e R s m args below meth c cells slots A H0 ad cA D Q Cx F H locs ls hl hP hS)
theorem G_aald3 {f i : Nat} {x : Int32} (hf : f < 32) (hi : i < fCnt f) (hcl : ¬ fCls f < 9) (he0 : fElt f = 2) (hin : ib x (fLen f) = true) (hdg : decode t.2.2.1 pc = .ok (.aaload, 1)) (k : G t d r M' (pc + 1) L (.inr (.inr (3, 10 * i + x.toNatClampNeg)) :: st) M) : G t d r M' pc L (.inl x :: .inr (.inr (f, i)) :: st) M := by
  intro p l e R s m args below meth c cells slots A H0 ad cA D Q Cx F H locs ls hl hP hS
  have he : (world ad cA M)[fOff f + i]? = some (ad f i, .inl (cA 2, fLen f, .inr (.inr (.inr (.inr (fun j => some (ad 3 (10 * i + j)))))))) := by
    rw [world_at hf hi, cellE_arr hcl]
    unfold arrF
    rw [he0]
    rfl
  exact va_aldq Cx.1 Cx.2.1 Cx.2.2.2.2.2.2.1 hP (fOff f + i) 2 he rfl (ib_in hin) hdg (k p l e R s m args below meth c cells slots A H0 ad cA D Q Cx F H locs ls hl hP hS)
theorem G_aald5 {f i : Nat} {x : Int32} (hf : f < 32) (hi : i < fCnt f) (hcl : ¬ fCls f < 9) (he0 : fElt f = 3) (hin : ib x (fLen f) = true) (hdg : decode t.2.2.1 pc = .ok (.aaload, 1)) (k : G t d r M' (pc + 1) L (.inr (.inr (5, x.toNatClampNeg)) :: st) M) : G t d r M' pc L (.inl x :: .inr (.inr (f, i)) :: st) M := by
  intro p l e R s m args below meth c cells slots A H0 ad cA D Q Cx F H locs ls hl hP hS
  have he : (world ad cA M)[fOff f + i]? = some (ad f i, .inl (cA 3, fLen f, .inr (.inr (.inr (.inr (fun j => some (ad 5 j))))))) := by
    rw [world_at hf hi, cellE_arr hcl]
    unfold arrF
    rw [he0]
    rfl
  exact va_aldq Cx.1 Cx.2.1 Cx.2.2.2.2.2.2.1 hP (fOff f + i) 3 he rfl (ib_in hin) hdg (k p l e R s m args below meth c cells slots A H0 ad cA D Q Cx F H locs ls hl hP hS)
theorem arr_wr {M : MM} {f i k0 : Nat} {v : Int32} : upd (fun j => rdM M f i j) k0 v = (fun j => rdM (wrM M f i k0 v) f i j) := by
  funext j
  rw [rd_wr_eq]
  by_cases h : j = k0
  · subst h; simp [upd]
  · simp [upd, h]
theorem G_iast {f i : Nat} {x v : Int32} {M2 : MM} (hf : f < 32) (hi : i < fCnt f) (hcl : ¬ fCls f < 9) (he0 : fElt f = 0) (hin : ib x (fLen f) = true) (hM2 : wrM M f i x.toNatClampNeg v = M2) (hdg : decode t.2.2.1 pc = .ok (.iastore, 1)) (k : G t d r M' (pc + 1) L st M2) : G t d r M' pc L (.inl v :: .inl x :: .inr (.inr (f, i)) :: st) M := by
  intro p l e R s m args below meth c cells slots A H0 ad cA D Q Cx F H locs ls hl hP hS
  subst hM2
  have he : ∀ M : MM, (world ad cA M)[fOff f + i]? = some (ad f i, .inl (cA 0, fLen f, .inl (fun j => rdM M f i j))) := by
    intro M
    rw [world_at hf hi, cellE_arr hcl]
    unfold arrF
    rw [he0]
    rfl
  have e1 : (world ad cA M).set (fOff f + i) (ad f i, .inl (cA 0, fLen f, .inl (upd (fun j => rdM M f i j) x.toNatClampNeg v))) = world ad cA (wrM M f i x.toNatClampNeg v) := by
    rw [arr_wr, ← world_set (M := M) hf hi rd_wr_other, cellE_arr hcl]
    unfold arrF
    rw [he0]
    rfl
  refine va_iast Cx.1 Cx.2.1 Cx.2.2.2.2.2.2.1 hP (Cx.2.2.2.2.2.2.2.2.2.2.2.2 M) hS (fOff f + i) 0 (he M) rfl (ib_in hin) hdg (fun H1 locs1 hP1 hD1 hS1 => ?_)
  rw [e1] at hP1
  exact k p l e R s m args below meth c cells slots A H0 ad cA D Q Cx F H1 locs1 ls hl hP1 hS1
end ONE
end
section
def argL : Nat → List AV → List (Nat × AV)
  | _, [] => []
  | i, v :: vs => (i, v) :: argL (if av2 v = true then i + 2 else i + 1) vs
def argW (as : List AV) : Nat := (as.map fun v => if av2 v = true then 2 else 1).sum
theorem cat_av2 {ad : Nat → Nat → Nat} (v : AV) : (cv ad v).category = 2 ↔ av2 v = true := by
  rcases v with x | y | q
  · exact ⟨fun h => (by cases h), fun h => (by cases h)⟩
  · exact ⟨fun _ => rfl, fun _ => rfl⟩
  · exact ⟨fun h => (by cases h), fun h => (by cases h)⟩
theorem argL_map {ad : Nat → Nat → Nat} (vs : List AV) : ∀ i, lv_args i (vs.map (cv ad)) = (argL i vs).map (fun q => (q.1, cv ad q.2)) := by
  induction vs with
  | nil => intro i; rfl
  | cons v vs ih =>
    intro i
    show (i, cv ad v) :: lv_args _ (vs.map (cv ad)) = (i, cv ad v) :: (argL _ vs).map _
    rw [ih]
    by_cases h : av2 v = true
    · rw [if_pos h, if_pos ((cat_av2 v).mpr h)]
    · rw [if_neg h, if_neg (fun e => h ((cat_av2 v).mp e))]
theorem argW_len {ad : Nat → Nat → Nat} (vs : List AV) : (lg_sl (vs.map (cv ad))).length = argW vs := by
  induction vs with
  | nil => rfl
  | cons v vs ih =>
    have e : lg_sl ((v :: vs).map (cv ad)) = (if (cv ad v).category = 2 then [.val (cv ad v), .second] else [.val (cv ad v)]) ++ lg_sl (vs.map (cv ad)) := rfl
    have e2 : argW (v :: vs) = (if av2 v = true then 2 else 1) + argW vs := rfl
    rw [e, e2, List.length_append, ih]
    by_cases h : av2 v = true
    · rw [if_pos h, if_pos ((cat_av2 v).mpr h)]; rfl
    · rw [if_neg h, if_neg (fun e => h ((cat_av2 v).mp e))]; rfl
def PreG (ad : Nat → Nat → Nat) (cA : Nat → ClassId) (D : va_G) (sz : Nat) (M : MM) : State → Prop := fun U => U.heap.size = sz ∧ va_P D vwCl (world ad cA M) U.heap ∧ va_K D vwCl (tysA cA) U ∧ va_D (fun _ => True) (world ad cA M) ∧ ∀ w ∈ nestL, va_Nw w U
def PostG (ad : Nat → Nat → Nat) (cA : Nat → ClassId) (D : va_G) (A : Nat → Prop) (r : Option AV) (M' : MM) : Array Value → State → Outcome → State → Prop := fun _ st oc t => (oc = .returned (r.map (cv ad)) ∧ va_P D vwCl (world ad cA M') t.heap ∧ va_K D vwCl (tysA cA) t) ∧ va_F A st t
/-- A METHOD'S CONTRACT: called with these values in this memory it returns, with this answer and this memory; d: how deep its calls may go -/
def Spec (t : MT) (d : Nat) (as : List AV) (M : MM) (r : Option AV) (M' : MM) : Prop :=
  ∀ (l : Launch) (ad : Nat → Nat → Nat) (cA : Nat → ClassId) (D : va_G) (sz : Nat), Met l t.2.1 (wsM t) (roomD d) (va_Pc (as.map (cv ad)) (PreG ad cA D sz M)) (PostG ad cA D (va_A (world ad cA M) sz) r M') 0 0 (va_A (world ad cA M) sz)
theorem nest_on : ∀ w ∈ nestL, w.onTables = true := by
  intro w hw
  rcases List.mem_cons.mp hw with rfl | hw
  · rfl
  rcases List.mem_cons.mp hw with rfl | hw
  · rfl
  cases hw
theorem nest_warm {s U : State} (hW : s.WarmedH U.vm) (h : ∀ w ∈ nestL, va_Nw w s) : ∀ w ∈ nestL, va_Nw w U := by
  intro w hw
  have h1 := h w hw
  rcases List.mem_cons.mp hw with rfl | hw
  · exact va_Nw.warmM hW h1
  rcases List.mem_cons.mp hw with rfl | hw
  · exact va_Nw.warmM hW h1
  cases hw
theorem pre_blind {ad : Nat → Nat → Nat} {cA : Nat → ClassId} {D : va_G} {sz : Nat} {M : MM} {av : List Value} : FrameBlind (va_Pc av (PreG ad cA D sz M)) := by
  intro a U g mk q
  obtain ⟨q0, q1, qP, qK, qD, qN⟩ := q
  exact ⟨q0, q1, qP, va_K.moved (u := U) (U := U.calling g mk a) (Vm.Alike.refl U.vm) qK, qD, fun w hw => va_Nw.same (nest_on w hw) (u := U) (U := U.calling g mk a) rfl (qN w hw)⟩
theorem Spec_of_G {t : MT} {d : Nat} {as : List AV} {M M' : MM} {r : Option AV} (hy : plainName t.2.1.cls = true) (hown : t.2.1.cls = t.1) (hn : argW as ≤ t.2.2.2.1) (k : G t d r M' 0 (argL 0 as) [] M) : Spec t d as M r M' := by
  intro l ad cA D sz
  refine Met.ofW (cc := t.2.2.1) (maxL := t.2.2.2.1) (ret := t.2.2.2.2) hy rfl ?_
  intro p e s m args below meth c s₁ B hml hv
  obtain ⟨rfl, hsz, hP, hK, hD0, hN⟩ := hv
  have hx := B.exec
  have hb := B.bytes
  have hr := B.returns
  have hts := atoms_spec (ws := wsM t) B.pre
  have hownc : s.vm.findClass t.1 = some m.cls := by rw [← hown]; exact findClass_of_methodNamed B.named
  have hlocks := B.notSynchronized
  subst hsz
  have hDA : va_D (va_A (world ad cA M) s.heap.size) (world ad cA M) := hD0.self (sz := s.heap.size)
  have hC : CtxG t d p (headSpec (wsM t) (roomD d)).room s m (as.map (cv ad)).toArray c 0 0 (va_A (world ad cA M) s.heap.size) s.heap ad cA D :=
    ⟨hx, hb, hml, hownc, fun w hw => hts w (List.mem_cons_of_mem _ hw), hN, hK, Nat.le_refl _, Nat.le_refl _, Nat.zero_le _, Nat.zero_le _, fun q h => Or.inr h, fun M2 => va_D_world hDA⟩
  have hl := lv_entry (as.map (cv ad)) (n := t.2.2.2.1) (by rw [argW_len]; exact hn)
  rw [argL_map] at hl
  rw [lg_entry_eq]
  refine k p l e _ s m _ below meth c 0 0 _ s.heap ad cA D _ hC ?_ s.heap [] _ hl hP va_S.rf
  intro H locs ls pc hP' hS hdg hro
  have hq : ∀ tt : State, tt.heap = H → s.WarmedH tt.vm → PostG ad cA D (va_A (world ad cA M) s.heap.size) r M' (as.map (cv ad)).toArray s (.returned (r.map (cv ad))) tt :=
    fun tt ht hW => ⟨⟨rfl, by rw [ht]; exact hP', va_K.moved hW.alike hK⟩, hS.F ht⟩
  rcases r with _ | x | y | q
  · cases hret : t.2.2.2.2 with
    | none => exact W.vret hx hb (hr.trans hret) hq hS.2.2 hdg
    | some ty => rw [hret] at hro; cases ty <;> exact hro.elim
  · cases hret : t.2.2.2.2 with
    | none => rw [hret] at hro; exact hro.elim
    | some ty =>
      rw [hret] at hro
      cases ty <;> first
        | exact False.elim hro
        | exact W.iret hx hb (hr.trans hret) hq hS.2.2 hdg
        | (refine W.zret hx hb (hr.trans hret) ?_ hq hS.2.2 hdg
           rcases (show x = 0 ∨ x = 1 from hro) with rfl | rfl <;> rfl)
  · cases hret : t.2.2.2.2 with
    | none => rw [hret] at hro; exact hro.elim
    | some ty => rw [hret] at hro; cases ty <;> exact hro.elim
  · cases hret : t.2.2.2.2 with
    | none => rw [hret] at hro; exact hro.elim
    | some ty =>
      rw [hret] at hro
      cases ty <;> first
        | exact W.aret hx hb (hr.trans hret) (Or.inl ⟨_, rfl⟩) (Or.inr ⟨_, rfl⟩) hq hS.2.2 hdg
        | exact hro.elim
theorem goodTB {ws : List Cond} (h : ∀ w ∈ ws, w ∈ TB) : GoodIn TB ws := fun w hw => ⟨h w hw, good_of_word (List.mem_filter.mp (h w hw)).2⟩
/-- a callee's words: its code, that it stands ready -/
def okM (t2 : MT) (n : Nat) : Prop := (t2.2.1.cls = t2.1 ∧ t2.2.2.2.1 ≤ 45 ∧ plainName t2.2.1.cls = true) ∧ (t2.2.1.cls ≠ "java/lang/invoke/MethodHandle" ∧ t2.2.1.cls ≠ "java/lang/invoke/VarHandle" ∧ (parseMethodDescriptor t2.2.1.desc).map (fun d => d.parameters.length) = some n) ∧ Cond.initialized t2.2.1.cls ∈ TB ∧ Cond.code t2.2.1 t2.2.2.1 t2.2.2.2.1 t2.2.2.2.2 ∈ TB
def okV (t2 : MT) (n : Nat) : Prop := okM t2 n ∧ Cond.instanceMethod t2.2.1 ∈ TB ∧ Cond.selects t2.2.1.cls t2.2.1 t2.2.1 ∈ TB
def okS (t2 : MT) (n : Nat) : Prop := okM t2 n ∧ Cond.static t2.2.1 ∈ TB
section CALL
variable {t t2 : MT} {d d2 idx n : Nat} {r r1 : Option AV} {M' M1 : MM} {pc : Nat} {L : List (Nat × AV)} {st st0 as : List AV} {M : MM}
theorem W_called {p : Program} {l : Launch} {e : Env} {R : Room} {s : State} {m : MethodId} {args : Array Value} {below : List Frame} {meth : Method} {c : Code} {H : Heap} {locs : List Loc} {cells slots : Nat} {Q : State → Prop} {ls : Array Slot} {rest st1 : List Value} {a : Array Value} {A0 A1 : Nat → Prop} {H0 : Heap} {ad : Nat → Nat → Nat} {cA : Nat → ClassId} {D : va_G}
    (hr : va_Run p l e R s m args below meth c H locs cells slots 0 0 (F0 m pc ls st1) rest (PostG ad cA D A1 r1 M1 a) A1) (hS : va_S A0 H0 H locs) (hA : ∀ q, A1 q → A0 q)
    (kk : ∀ (H1 : Heap) (locs1 : List Loc), va_P D vwCl (world ad cA M1) H1 → va_S A0 H0 H1 locs1 → W p l e R s m args below meth c H1 locs1 cells slots Q (F0 m (pc + 3) ls ((r1.map (cv ad)).toList ++ rest))) : W p l e R s m args below meth c H locs cells slots Q (F0 m pc ls st1) := by
  intro T hT X
  obtain ⟨v, st₀, t, T', L, h0, X', hL, e1, e2, ⟨⟨hv, hP1, -⟩, hz, hk⟩, st⟩ := hr T hT X
  cases hv
  rw [h0] at hz hk
  obtain ⟨t2, a1, b1⟩ := kk T'.heap (locs ++ L) (by rw [e1]; exact hP1)
    ⟨Nat.le_trans hS.1 (by rw [e1]; exact hz), fun q h1 h2 => by rw [e1, hk q (Nat.lt_of_lt_of_le h1 hS.1) (fun z => h2 (hA q z))]; exact hS.2.1 q h1 h2, fun q hq => by
      rcases List.mem_append.mp hq with h | h
      · exact hS.2.2 q h
      · exact hA _ (hL q h)⟩ T' rfl X'
  exact ⟨t2, st t2 a1, b1⟩
theorem map_opt {ad : Nat → Nat → Nat} : (r1.map (cv ad)).toList ++ st.map (cv ad) = (r1.toList ++ st).map (cv ad) := by
  cases r1 <;> rfl
theorem cat_sum {ad : Nat → Nat → Nat} (st : List AV) : ((st.map (cv ad)).map fun v => v.category).sum = argW st := by
  induction st with
  | nil => rfl
  | cons v st ih =>
    rw [List.map_cons, List.map_cons, List.sum_cons, ih]
    show (cv ad v).category + _ = (if av2 v = true then 2 else 1) + argW st
    congr 1
    rcases v with x | y | q <;> rfl
theorem free_in {A : Nat → Prop} {H0 H : Heap} {locs : List Loc} {ad : Nat → Nat → Nat} {cA : Nat → ClassId} (hD : va_D A (world ad cA M)) (hS : va_S A H0 H locs) (hA : ∀ q : Nat, H0.size ≤ q → A q) : ∀ q, va_A (world ad cA M) H.size q → A q := by
  intro q h
  rcases h with ⟨k, e, h⟩ | h
  · exact hD.2 k (q, e) h
  · exact hA q (Nat.le_trans hS.1 h)
theorem G_callS (hs : Spec t2 d2 as M r1 M1) (ho : okS t2 n) (hlk : Cond.methodLink t.1 idx t2.2.1 ∈ TB) (hd : d2 + 1 ≤ d) (hn : as.length = n) (hst : st0 = as.reverse ++ st) (hcat : argW st ≤ 8) (hdg : decode t.2.2.1 pc = .ok (.invokestatic idx, 3)) (k : G t d r M' (pc + 3) L (r1.toList ++ st) M1) : G t d r M' pc L st0 M := by
  intro p l e R s m args below meth c cells slots A H0 ad cA D Q Cx F H locs ls hl hP hS
  obtain ⟨⟨⟨h1, h2, h3⟩, h4, h5, h6⟩, h7⟩ := ho
  obtain ⟨hx, hb, hml, hown, hts, hN, hK, hdf, hdl, hc, hsl, hA, hD⟩ := id Cx
  have hF := free_in (hD M) hS hA
  have hT : GoodIn TB (va_wsS t.1 idx t2.2.1 (wsM t2)) := goodTB fun w hw => by
    rcases List.mem_append.mp hw with hw | hw
    · rcases List.mem_cons.mp hw with rfl | hw
      · exact hlk
      rcases List.mem_cons.mp hw with rfl | hw
      · exact h7
      rcases List.mem_cons.mp hw with rfl | hw
      · exact h5
      cases hw
    · rcases List.mem_cons.mp hw with rfl | hw
      · exact h6
      · exact hw
  refine W_called (va_runS (As := as.map (cv ad)) (rest := st.map (cv ad)) (n := n) ⟨hx, hb, hml, hown, hts⟩ (hs l ad cA D H.size) (va_cwS n hts hT rfl rfl rfl h4 ⟨by show d2 + 1 ≤ _; omega, by show 8 + (t2.2.2.2.1 + 11) + 64 * d2 ≤ _; omega⟩) ⟨pre_blind, fun U hU hW => ⟨rfl, by rw [hU], by rw [hU]; exact hP, va_K.moved hW.alike hK, (hD M).weaken (fun _ _ _ _ => trivial), nest_warm hW hN⟩⟩ rfl (by rw [List.length_map, hn]) hl.1 (by rw [hst, List.map_append, List.map_reverse]) (lv_room (by rw [cat_sum]; exact hcat)) hdg ⟨hc, hsl⟩) hS hF (fun H1 locs1 hP1 hS1 => ?_)
  rw [map_opt]
  exact k p l e R s m args below meth c cells slots A H0 ad cA D Q Cx F H1 locs1 ls hl hP1 hS1
theorem G_callSN (hs : Spec t2 d2 as M r1 M1) (ho : okS t2 n) (hlk : Cond.methodLinkNest t.1 idx t2.2.1 "PotHandles" ∈ nestL) (hd : d2 + 1 ≤ d) (hn : as.length = n) (hst : st0 = as.reverse ++ st) (hcat : argW st ≤ 8) (hdg : decode t.2.2.1 pc = .ok (.invokestatic idx, 3)) (k : G t d r M' (pc + 3) L (r1.toList ++ st) M1) : G t d r M' pc L st0 M := by
  intro p l e R s m args below meth c cells slots A H0 ad cA D Q Cx F H locs ls hl hP hS
  obtain ⟨⟨⟨h1, h2, h3⟩, h4, h5, h6⟩, h7⟩ := ho
  obtain ⟨hx, hb, hml, hown, hts, hN, hK, hdf, hdl, hc, hsl, hA, hD⟩ := id Cx
  have hF := free_in (hD M) hS hA
  have hT : GoodIn TB (wsM t2) := goodTB fun w hw => by
    rcases List.mem_cons.mp hw with rfl | hw
    · exact h6
    · exact hw
  refine W_called (va_runSN (As := as.map (cv ad)) (rest := st.map (cv ad)) (n := n) ⟨hx, hb, hml, hown, hts⟩ (hs l ad cA D H.size) ⟨va_cnB n hts hT rfl rfl rfl (hN _ hlk) (hts _ h5) h4 ⟨by show d2 + 1 ≤ _; omega, by show 8 + (t2.2.2.2.1 + 11) + 64 * d2 ≤ _; omega⟩, hts _ h7, trivial⟩ ⟨pre_blind, fun U hU hW => ⟨rfl, by rw [hU], by rw [hU]; exact hP, va_K.moved hW.alike hK, (hD M).weaken (fun _ _ _ _ => trivial), nest_warm hW hN⟩⟩ rfl (by rw [List.length_map, hn]) hl.1 (by rw [hst, List.map_append, List.map_reverse]) (lv_room (by rw [cat_sum]; exact hcat)) hdg ⟨hc, hsl⟩) hS hF (fun H1 locs1 hP1 hS1 => ?_)
  rw [map_opt]
  exact k p l e R s m args below meth c cells slots A H0 ad cA D Q Cx F H1 locs1 ls hl hP1 hS1
theorem G_callV {f i : Nat} {T : u_T} {N : Nat} (hs : Spec t2 d2 (.inr (.inr (f, i)) :: as) M r1 M1) (ho : okV t2 n) (hlk : Cond.methodLink t.1 idx t2.2.1 ∈ TB) (hd : d2 + 1 ≤ d) (hn : as.length = n) (hf : f < 32) (hi : i < fCnt f) (hcl : fCls f < 9) (hvw : vwCl[fCls f]? = some (t2.1, T, N)) (hst : st0 = as.reverse ++ .inr (.inr (f, i)) :: st) (hcat : argW st ≤ 8) (hdg : decode t.2.2.1 pc = .ok (.invokevirtual idx, 3)) (k : G t d r M' (pc + 3) L (r1.toList ++ st) M1) : G t d r M' pc L st0 M := by
  intro p l e R s m args below meth c cells slots A H0 ad cA D Q Cx F H locs ls hl hP hS
  obtain ⟨⟨⟨h1, h2, h3⟩, h4, h5, h6⟩, h7, h8⟩ := ho
  obtain ⟨hx, hb, hml, hown, hts, hN, hK, hdf, hdl, hc, hsl, hA, hD⟩ := id Cx
  have hF := free_in (hD M) hS hA
  have he : (world ad cA M)[fOff f + i]? = some (ad f i, .inr (fCls f, (List.range (fNum (fCls f))).map (fun k => cv ad (fldV f i k M)))) := by rw [world_at hf hi, cellE_obj hcl]
  have hT : GoodIn TB (wsV t.1 idx t2.1 t2.2.1 (wsM t2)) := goodTB fun w hw => by
    rcases List.mem_append.mp hw with hw | hw
    · rcases List.mem_cons.mp hw with rfl | hw
      · exact hlk
      rcases List.mem_cons.mp hw with rfl | hw
      · exact h7
      rcases List.mem_cons.mp hw with rfl | hw
      · rw [← h1]; exact h8
      rcases List.mem_cons.mp hw with rfl | hw
      · rw [← h1]; exact h5
      cases hw
    · rcases List.mem_cons.mp hw with rfl | hw
      · exact h6
      · exact hw
  refine W_called (va_runV (C := t2.1) (b := ad f i) (As := as.map (cv ad)) (rest := st.map (cv ad)) (n := n) ⟨hx, hb, hml, hown, hts⟩ (hs l ad cA D H.size) (cwV n hts hT rfl rfl rfl ⟨h1, h4⟩ ⟨by show d2 + 1 ≤ _; omega, by show 8 + (t2.2.2.2.1 + 11) + 64 * d2 ≤ _; omega⟩) ⟨pre_blind, va_recv (q := (t2.1, T, N)) hK hP hvw he, fun U hU hW => ⟨rfl, by rw [hU], by rw [hU]; exact hP, va_K.moved hW.alike hK, (hD M).weaken (fun _ _ _ _ => trivial), nest_warm hW hN⟩⟩ rfl (by rw [List.length_map, hn]) hl.1 (by rw [hst, List.map_append, List.map_reverse]; rfl) (lv_room (by rw [cat_sum]; exact hcat)) hdg ⟨hc, hsl⟩) hS hF (fun H1 locs1 hP1 hS1 => ?_)
  rw [map_opt]
  exact k p l e R s m args below meth c cells slots A H0 ad cA D Q Cx F H1 locs1 ls hl hP1 hS1
def jmax (x y : Int32) : Int32 := if x < y then y else x
def jmin (x y : Int32) : Int32 := if y < x then y else x
theorem G_max {x y : Int32} (hlk : Cond.methodLink t.1 idx Lib.Math.max.name ∈ TB) (hst : Cond.static Lib.Math.max.name ∈ TB) (hin : Cond.initialized "java/lang/Math" ∈ TB) (hcd : Cond.code Lib.Math.max.name Lib.Math.max.code 2 (some .int) ∈ TB) (hd : 1 ≤ d) (hcat : argW st ≤ 8) (hdg : decode t.2.2.1 pc = .ok (.invokestatic idx, 3)) (k : G t d r M' (pc + 3) L (.inl (jmax x y) :: st) M) : G t d r M' pc L (.inl y :: .inl x :: st) M := by
  intro p l e R s m args below meth c cells slots A H0 ad cA D Q Cx F H locs ls hl hP hS
  obtain ⟨hx, hb, hml, hown, hts, hN, hK, hdf, hdl, hc, hsl, hA, hD⟩ := id Cx
  exact va_mmax hx hb (hml.trans hl.1.symm) hown (hts _ hlk) (hts _ hst) (hts _ hin) (hts _ hcd) (by omega) (by rw [cat_sum]; omega) hc hsl hdg (k p l e R s m args below meth c cells slots A H0 ad cA D Q Cx F H locs ls hl hP hS)
theorem G_min {x y : Int32} (hlk : Cond.methodLink t.1 idx Lib.Math.min.name ∈ TB) (hst : Cond.static Lib.Math.min.name ∈ TB) (hin : Cond.initialized "java/lang/Math" ∈ TB) (hcd : Cond.code Lib.Math.min.name Lib.Math.min.code 2 (some .int) ∈ TB) (hd : 1 ≤ d) (hcat : argW st ≤ 8) (hdg : decode t.2.2.1 pc = .ok (.invokestatic idx, 3)) (k : G t d r M' (pc + 3) L (.inl (jmin x y) :: st) M) : G t d r M' pc L (.inl y :: .inl x :: st) M := by
  intro p l e R s m args below meth c cells slots A H0 ad cA D Q Cx F H locs ls hl hP hS
  obtain ⟨hx, hb, hml, hown, hts, hN, hK, hdf, hdl, hc, hsl, hA, hD⟩ := id Cx
  exact va_mmin hx hb (hml.trans hl.1.symm) hown (hts _ hlk) (hts _ hst) (hts _ hin) (hts _ hcd) (by omega) (by rw [cat_sum]; omega) hc hsl hdg (k p l e R s m args below meth c cells slots A H0 ad cA D Q Cx F H locs ls hl hP hS)
theorem G_bast {f i : Nat} {x v : Int32} {M2 : MM} (hf : f < 32) (hi : i < fCnt f) (hcl : ¬ fCls f < 9) (he0 : fElt f = 1) (hin : ib x (fLen f) = true) (hM2 : wrM M f i x.toNatClampNeg v = M2) (hdg : decode t.2.2.1 pc = .ok (.bastore, 1)) (k : G t d r M' (pc + 1) L st M2) : G t d r M' pc L (.inl v :: .inl x :: .inr (.inr (f, i)) :: st) M := by
  intro p l e R s m args below meth c cells slots A H0 ad cA D Q Cx F H locs ls hl hP hS
  subst hM2
  have he : ∀ M : MM, (world ad cA M)[fOff f + i]? = some (ad f i, .inl (cA 1, fLen f, .inl (fun j => nbB (rdM M f i j)))) := by
    intro M
    rw [world_at hf hi, cellE_arr hcl]
    unfold arrF
    rw [he0]
    rfl
  have e0 : upd (fun j => nbB (rdM M f i j)) x.toNatClampNeg (vp_nar .byte v) = (fun j => nbB (rdM (wrM M f i x.toNatClampNeg v) f i j)) := by
    funext j
    rw [rd_wr_eq]
    by_cases h : j = x.toNatClampNeg
    · subst h; simp [upd]; rfl
    · simp [upd, h]
  have e1 : (world ad cA M).set (fOff f + i) (ad f i, .inl (cA 1, fLen f, .inl (upd (fun j => nbB (rdM M f i j)) x.toNatClampNeg (vp_nar .byte v)))) = world ad cA (wrM M f i x.toNatClampNeg v) := by
    rw [e0, ← world_set (M := M) hf hi rd_wr_other, cellE_arr hcl]
    unfold arrF
    rw [he0]
    rfl
  refine va_bast Cx.1 Cx.2.1 Cx.2.2.2.2.2.2.1 hP (Cx.2.2.2.2.2.2.2.2.2.2.2.2 M) hS (fOff f + i) 1 (he M) rfl (ib_in hin) hdg (fun H1 locs1 hP1 hD1 hS1 => ?_)
  rw [e1] at hP1
  exact k p l e R s m args below meth c cells slots A H0 ad cA D Q Cx F H1 locs1 ls hl hP1 hS1
end CALL
/-- numbers are copied between two rows of the class's -/
def cpM (M : MM) (f i sp g j dp n : Nat) : MM := (cp3 M.1 f i sp g j dp n, M.2)
theorem rd_cp {M : MM} {f i sp g j dp n f' i' k' : Nat} (hf : f < 19) (hg : g < 19) : rdM (cpM M f i sp g j dp n) f' i' k' = if f' = g ∧ i' = j ∧ dp ≤ k' ∧ k' < dp + n then rdM M f i (sp + (k' - dp)) else rdM M f' i' k' := by
  unfold rdM cpM cp3
  by_cases h : f' < 19
  · simp [h, hf]
  · have : ¬ f' = g := by omega
    simp [h, this]
theorem fits_nbB (x : Int32) : fits .byte (.int (nbB x)) = true := by
  have e : (nbB x).toInt = x.toInt8.toInt := Int8.toInt_toInt32 _
  have h1 := Int8.le_toInt x.toInt8
  have h2 := Int8.toInt_lt x.toInt8
  show (decide (-128 ≤ nbB x) && decide (nbB x ≤ 127)) = true
  rw [Bool.and_eq_true, decide_eq_true_eq, decide_eq_true_eq, Int32.le_iff_toInt_le, Int32.le_iff_toInt_le, e]
  exact ⟨h1, by have : (127 : Int32).toInt = 127 := rfl
                omega⟩
section CPY
variable {t : MT} {d idx : Nat} {r : Option AV} {M' : MM} {pc : Nat} {L : List (Nat × AV)} {st : List AV} {M : MM}
/-- what may be copied: both places within -/
def cpok (sp dp n : Int32) (n0 n1 : Nat) : Bool := decide (¬ sp < 0 ∧ ¬ dp < 0 ∧ ¬ n < 0 ∧ sp.toNatClampNeg + n.toNatClampNeg ≤ n0 ∧ dp.toNatClampNeg + n.toNatClampNeg ≤ n1)
theorem G_copy {f i g j : Nat} {sp dp n : Int32} {M2 : MM} (hlk : Cond.methodLink t.1 idx arraycopyName ∈ TB) (hnat : Cond.native arraycopyName ∈ TB) (hsta : Cond.static arraycopyName ∈ TB) (hini : Cond.initialized "java/lang/System" ∈ TB) (hf : f < 19) (hi : i < fCnt f) (hg : g < 19) (hj : j < fCnt g) (hcl : ¬ fCls f < 9) (hclg : ¬ fCls g < 9) (he0 : (fElt f = 0 ∧ fElt g = 0) ∨ (fElt f = 1 ∧ fElt g = 1)) (hin : cpok sp dp n (fLen f) (fLen g) = true) (hd : 1 ≤ d) (hst : st = []) (hM2 : cpM M f i sp.toNatClampNeg g j dp.toNatClampNeg n.toNatClampNeg = M2) (hdg : decode t.2.2.1 pc = .ok (.invokestatic idx, 3)) (k : G t d r M' (pc + 3) L st M2) : G t d r M' pc L (.inl n :: .inl dp :: .inr (.inr (g, j)) :: .inl sp :: .inr (.inr (f, i)) :: st) M := by
  intro p l e R s m args below meth c cells slots A H0 ad cA D Q Cx F H locs ls hl hP hS
  subst hM2; subst hst
  obtain ⟨hx, hb, hml, hown, hts, hN, hK, hdf, hdl, hc, hsl, hA, hD⟩ := id Cx
  obtain ⟨b1, b2, b3, b4, b5⟩ := of_decide_eq_true hin
  have hnf : nativeFrameWords "java/lang/System" "arraycopy" 5 + 11 ≤ 64 := by decide +kernel
  have hw0 : ∀ f' i', ¬ (f' = g ∧ i' = j) → ∀ k', rdM (cpM M f i sp.toNatClampNeg g j dp.toNatClampNeg n.toNatClampNeg) f' i' k' = rdM M f' i' k' := fun f' i' h k' => by
    rw [rd_cp hf hg, if_neg (fun e => h ⟨e.1, e.2.1⟩)]
  rcases he0 with ⟨z1, z2⟩ | ⟨z1, z2⟩
  · have he : ∀ (M : MM) (f i : Nat), f < 19 → i < fCnt f → ¬ fCls f < 9 → fElt f = 0 → (world ad cA M)[fOff f + i]? = some (ad f i, .inl (cA 0, fLen f, .inl (fun j => rdM M f i j))) := by
      intro M f i hf hi hcl he0
      rw [world_at (by omega) hi, cellE_arr hcl]
      unfold arrF
      rw [he0]
      rfl
    have e0 : va_cpy (fun j => rdM M f i j) (fun k => rdM M g j k) sp.toNatClampNeg dp.toNatClampNeg n.toNatClampNeg = (fun k => rdM (cpM M f i sp.toNatClampNeg g j dp.toNatClampNeg n.toNatClampNeg) g j k) := by
      funext k'
      rw [rd_cp hf hg]
      simp [va_cpy]
    have e1 : (world ad cA M).set (fOff g + j) (ad g j, .inl (cA 0, fLen g, .inl (va_cpy (fun j => rdM M f i j) (fun k => rdM M g j k) sp.toNatClampNeg dp.toNatClampNeg n.toNatClampNeg))) = world ad cA (cpM M f i sp.toNatClampNeg g j dp.toNatClampNeg n.toNatClampNeg) := by
      rw [e0, ← world_set (M := M) (by omega) hj hw0, cellE_arr hclg]
      unfold arrF
      rw [z2]
      rfl
    refine va_copyi hx hb (hml.trans hl.1.symm) hown (hts _ hlk) (hts _ hnat) (hts _ hsta) (hts _ hini) hK hP (hD M) hS (fOff f + i) (fOff g + j) 0 0 (he M f i hf hi hcl z1) (he M g j hg hj hclg z2) rfl rfl rfl b1 b2 b3 b4 b5 (fun _ _ => rfl) (by omega) (by show 0 + _ ≤ _; omega) hdg (fun H1 locs1 hP1 hD1 hS1 => ?_)
    rw [e1] at hP1
    exact k p l e R s m args below meth c cells slots A H0 ad cA D Q Cx F H1 locs1 ls hl hP1 hS1
  · have he : ∀ (M : MM) (f i : Nat), f < 19 → i < fCnt f → ¬ fCls f < 9 → fElt f = 1 → (world ad cA M)[fOff f + i]? = some (ad f i, .inl (cA 1, fLen f, .inl (fun j => nbB (rdM M f i j)))) := by
      intro M f i hf hi hcl he0
      rw [world_at (by omega) hi, cellE_arr hcl]
      unfold arrF
      rw [he0]
      rfl
    have e0 : va_cpy (fun j => nbB (rdM M f i j)) (fun k => nbB (rdM M g j k)) sp.toNatClampNeg dp.toNatClampNeg n.toNatClampNeg = (fun k => nbB (rdM (cpM M f i sp.toNatClampNeg g j dp.toNatClampNeg n.toNatClampNeg) g j k)) := by
      funext k'
      rw [rd_cp hf hg]
      by_cases h : dp.toNatClampNeg ≤ k' ∧ k' < dp.toNatClampNeg + n.toNatClampNeg <;> simp [va_cpy, h]
    have e1 : (world ad cA M).set (fOff g + j) (ad g j, .inl (cA 1, fLen g, .inl (va_cpy (fun j => nbB (rdM M f i j)) (fun k => nbB (rdM M g j k)) sp.toNatClampNeg dp.toNatClampNeg n.toNatClampNeg))) = world ad cA (cpM M f i sp.toNatClampNeg g j dp.toNatClampNeg n.toNatClampNeg) := by
      rw [e0, ← world_set (M := M) (by omega) hj hw0, cellE_arr hclg]
      unfold arrF
      rw [z2]
      rfl
    refine va_copyi hx hb (hml.trans hl.1.symm) hown (hts _ hlk) (hts _ hnat) (hts _ hsta) (hts _ hini) hK hP (hD M) hS (fOff f + i) (fOff g + j) 1 1 (he M f i hf hi hcl z1) (he M g j hg hj hclg z2) rfl rfl rfl b1 b2 b3 b4 b5 (fun k _ => ?_) (by omega) (by show 0 + _ ≤ _; omega) hdg (fun H1 locs1 hP1 hD1 hS1 => ?_)
    · exact fits_nbB _
    rw [e1] at hP1
    exact k p l e R s m args below meth c cells slots A H0 ad cA D Q Cx F H1 locs1 ls hl hP1 hS1
end CPY
end
section
theorem tbm {w : Cond} (i : Nat) (h : tables_1[i]? = some w) (g : goodWord w = true) : w ∈ TB := List.mem_filter.mpr ⟨List.mem_append_right _ (List.mem_of_getElem? h), g⟩
theorem tbs (q : MethodName × Nat) (i : Nat) (h : lw_privs[i]? = some q) : Cond.selects q.1.cls q.1 q.1 ∈ TB := List.mem_filter.mpr ⟨List.mem_append_left _ (List.mem_map.mpr ⟨q, List.mem_of_getElem? h, rfl⟩), rfl⟩
theorem up3_eq {M : Mem} {f i k : Nat} {v : Int32} : up3 M f i k v f i k = v := if_pos ⟨rfl, rfl, rfl⟩
theorem up3_f {M : Mem} {f i k f' i' k' : Nat} {v : Int32} (h : ¬ f' = f) : up3 M f i k v f' i' k' = M f' i' k' := if_neg (fun e => h e.1)
theorem up3_k {M : Mem} {f i k f' i' k' : Nat} {v : Int32} (h : ¬ k' = k) : up3 M f i k v f' i' k' = M f' i' k' := if_neg (fun e => h e.2.1)
theorem cp3_f {M : Mem} {f i sp g j dp n f' i' k' : Nat} (h : ¬ f' = g) : cp3 M f i sp g j dp n f' i' k' = M f' i' k' := if_neg (fun e => h e.1)
theorem nbZ_nbZ (x : Int32) : nbZ (nbZ x) = nbZ x := by
  unfold nbZ
  by_cases h : x = 0 <;> simp [h]
theorem chk {p : Prop} [Decidable p] {α : Type} {A : Option α} {res : α} (h : (if p then A else none) = some res) : p ∧ A = some res := by
  by_cases hp : p
  · exact ⟨hp, (if_pos hp).symm.trans h⟩
  · cases (if_neg hp).symm.trans h
theorem chkn {p : Prop} [Decidable p] {α : Type} {A : Option α} {res : α} (h : (if p then none else A) = some res) : ¬ p ∧ A = some res := by
  by_cases hp : p
  · cases (if_pos hp).symm.trans h
  · exact ⟨hp, (if_neg hp).symm.trans h⟩
theorem bnd {α β : Type} {a : Option α} {f : α → Option β} {res : β} (h : a.bind f = some res) : ∃ q, a = some q ∧ f q = some res := Option.bind_eq_some_iff.mp h
theorem ne_lit {x v : Int32} {n : Int} (hn : v.toInt = n) (h : ¬ x = v) : x.toInt ≠ n := fun e => h (Int32.toInt_inj.mp (e.trans hn.symm))
section SW
variable {t : MT} {d : Nat} {r : Option AV} {M' : MM} {pc : Nat} {L : List (Nat × AV)} {st : List AV} {M : MM}
theorem G_tableEq {dflt lo hi : Int} {offs : Array Int} {len : Nat} {x v : Int32} {off : Int} {tgt : Nat} (hx : x = v) (hdg : decode t.2.2.1 pc = .ok (.tableswitch dflt lo hi offs, len)) (h1 : ¬ v.toInt < lo) (h2 : ¬ hi < v.toInt) (ho : offs[(v.toInt - lo).toNat]? = some off) (ht : (pc : Int) + off = (tgt : Int)) (k : G t d r M' tgt L st M) : G t d r M' pc L (.inl x :: st) M := by
  subst hx
  exact G_tableIn hdg h1 h2 ho ht k
theorem G_lookEq {dflt : Int} {ps : Array (Int × Int)} {len : Nat} {x v : Int32} {off : Int} {tgt : Nat} (hx : x = v) (hdg : decode t.2.2.1 pc = .ok (.lookupswitch dflt ps, len)) (hp : (ps.toList.zip (ps.toList.drop 1)).all (fun (a, next) => a.1 < next.1) = true) (ho : Op.lookupswitch.offset ps.toList dflt v.toInt = off) (ht : (pc : Int) + off = (tgt : Int)) (k : G t d r M' tgt L st M) : G t d r M' pc L (.inl x :: st) M := by
  subst hx
  exact G_lookup hdg hp ho ht k
theorem G_callSv {t2 : MT} {d2 idx n : Nat} {st0 as : List AV} {v : AV} {M1 : MM} (hs : Spec t2 d2 as M (some v) M1) (ho : okS t2 n) (hlk : Cond.methodLink t.1 idx t2.2.1 ∈ TB) (hd : d2 + 1 ≤ d) (hn : as.length = n) (hst : st0 = as.reverse ++ st) (hcat : argW st ≤ 8) (hdg : decode t.2.2.1 pc = .ok (.invokestatic idx, 3)) (k : G t d r M' (pc + 3) L (v :: st) M1) : G t d r M' pc L st0 M := G_callS hs ho hlk hd hn hst hcat hdg k
theorem G_callSn {t2 : MT} {d2 idx n : Nat} {st0 as : List AV} {M1 : MM} (hs : Spec t2 d2 as M none M1) (ho : okS t2 n) (hlk : Cond.methodLink t.1 idx t2.2.1 ∈ TB) (hd : d2 + 1 ≤ d) (hn : as.length = n) (hst : st0 = as.reverse ++ st) (hcat : argW st ≤ 8) (hdg : decode t.2.2.1 pc = .ok (.invokestatic idx, 3)) (k : G t d r M' (pc + 3) L st M1) : G t d r M' pc L st0 M := G_callS hs ho hlk hd hn hst hcat hdg k
theorem G_callSNv {t2 : MT} {d2 idx n : Nat} {st0 as : List AV} {v : AV} {M1 : MM} (hs : Spec t2 d2 as M (some v) M1) (ho : okS t2 n) (hlk : Cond.methodLinkNest t.1 idx t2.2.1 "PotHandles" ∈ nestL) (hd : d2 + 1 ≤ d) (hn : as.length = n) (hst : st0 = as.reverse ++ st) (hcat : argW st ≤ 8) (hdg : decode t.2.2.1 pc = .ok (.invokestatic idx, 3)) (k : G t d r M' (pc + 3) L (v :: st) M1) : G t d r M' pc L st0 M := G_callSN hs ho hlk hd hn hst hcat hdg k
theorem G_callVv {t2 : MT} {d2 idx n f i : Nat} {st0 as : List AV} {v : AV} {M1 : MM} {T : u_T} {N : Nat} (hs : Spec t2 d2 (.inr (.inr (f, i)) :: as) M (some v) M1) (ho : okV t2 n) (hlk : Cond.methodLink t.1 idx t2.2.1 ∈ TB) (hd : d2 + 1 ≤ d) (hn : as.length = n) (hf : f < 32) (hi : i < fCnt f) (hcl : fCls f < 9) (hvw : vwCl[fCls f]? = some (t2.1, T, N)) (hst : st0 = as.reverse ++ .inr (.inr (f, i)) :: st) (hcat : argW st ≤ 8) (hdg : decode t.2.2.1 pc = .ok (.invokevirtual idx, 3)) (k : G t d r M' (pc + 3) L (v :: st) M1) : G t d r M' pc L st0 M := G_callV hs ho hlk hd hn hf hi hcl hvw hst hcat hdg k
theorem G_callVn {t2 : MT} {d2 idx n f i : Nat} {st0 as : List AV} {M1 : MM} {T : u_T} {N : Nat} (hs : Spec t2 d2 (.inr (.inr (f, i)) :: as) M none M1) (ho : okV t2 n) (hlk : Cond.methodLink t.1 idx t2.2.1 ∈ TB) (hd : d2 + 1 ≤ d) (hn : as.length = n) (hf : f < 32) (hi : i < fCnt f) (hcl : fCls f < 9) (hvw : vwCl[fCls f]? = some (t2.1, T, N)) (hst : st0 = as.reverse ++ .inr (.inr (f, i)) :: st) (hcat : argW st ≤ 8) (hdg : decode t.2.2.1 pc = .ok (.invokevirtual idx, 3)) (k : G t d r M' (pc + 3) L st M1) : G t d r M' pc L st0 M := G_callV hs ho hlk hd hn hf hi hcl hvw hst hcat hdg k
end SW
abbrev mt_J7_fill_53178 : MT := (RJ7, yJ7_fill_53178, cJ7_fill_53178, 4, none)
set_option maxRecDepth 100000 in
theorem ok_J7_fill_53178 : okS mt_J7_fill_53178 2 := ⟨⟨⟨rfl, by decide, by decide⟩, ⟨by decide, by decide, by decide +kernel⟩, tbm 4 (by decide +kernel) rfl, tbm 49 (by decide +kernel) rfl⟩, tbm 48 (by decide +kernel) rfl⟩
abbrev mt_X7_house : MT := (RX7, yX7_house, cX7_house, 6, (some .int))
set_option maxRecDepth 100000 in
theorem ok_X7_house : okV mt_X7_house 3 := ⟨⟨⟨rfl, by decide, by decide⟩, ⟨by decide, by decide, by decide +kernel⟩, tbm 1 (by decide +kernel) rfl, tbm 256 (by decide +kernel) rfl⟩, tbm 254 (by decide +kernel) rfl, tbm 255 (by decide +kernel) rfl⟩
abbrev mt_X7_isHouse : MT := (RX7, yX7_isHouse, cX7_isHouse, 1, (some .boolean))
set_option maxRecDepth 100000 in
theorem ok_X7_isHouse : okS mt_X7_isHouse 1 := ⟨⟨⟨rfl, by decide, by decide⟩, ⟨by decide, by decide, by decide +kernel⟩, tbm 1 (by decide +kernel) rfl, tbm 259 (by decide +kernel) rfl⟩, tbm 258 (by decide +kernel) rfl⟩
abbrev mt_X7_isWithin : MT := (RX7, yX7_isWithin, cX7_isWithin, 2, (some .boolean))
set_option maxRecDepth 100000 in
theorem ok_X7_isWithin : okS mt_X7_isWithin 2 := ⟨⟨⟨rfl, by decide, by decide⟩, ⟨by decide, by decide, by decide +kernel⟩, tbm 1 (by decide +kernel) rfl, tbm 262 (by decide +kernel) rfl⟩, tbm 261 (by decide +kernel) rfl⟩
abbrev mt_X7_fail : MT := (RX7, yX7_fail, cX7_fail, 2, (some .int))
set_option maxRecDepth 100000 in
theorem ok_X7_fail : okV mt_X7_fail 1 := ⟨⟨⟨rfl, by decide, by decide⟩, ⟨by decide, by decide, by decide +kernel⟩, tbm 1 (by decide +kernel) rfl, tbm 266 (by decide +kernel) rfl⟩, tbm 265 (by decide +kernel) rfl, tbs (yX7_fail, 10) 0 (by decide +kernel)⟩
abbrev mt_X7_ofHouse : MT := (RX7, yX7_ofHouse, cX7_ofHouse, 3, (some .int))
set_option maxRecDepth 100000 in
theorem ok_X7_ofHouse : okV mt_X7_ofHouse 2 := ⟨⟨⟨rfl, by decide, by decide⟩, ⟨by decide, by decide, by decide +kernel⟩, tbm 1 (by decide +kernel) rfl, tbm 271 (by decide +kernel) rfl⟩, tbm 269 (by decide +kernel) rfl, tbm 270 (by decide +kernel) rfl⟩
abbrev mt_X1_potsIn : MT := (RX1, yX1_potsIn, cX1_potsIn, 4, (some .int))
set_option maxRecDepth 100000 in
theorem ok_X1_potsIn : okV mt_X1_potsIn 1 := ⟨⟨⟨rfl, by decide, by decide⟩, ⟨by decide, by decide, by decide +kernel⟩, tbm 2 (by decide +kernel) rfl, tbm 275 (by decide +kernel) rfl⟩, tbm 273 (by decide +kernel) rfl, tbm 274 (by decide +kernel) rfl⟩
abbrev mt_X7_pot : MT := (RX7, yX7_pot, cX7_pot, 4, (some .int))
set_option maxRecDepth 100000 in
theorem ok_X7_pot : okV mt_X7_pot 3 := ⟨⟨⟨rfl, by decide, by decide⟩, ⟨by decide, by decide, by decide +kernel⟩, tbm 1 (by decide +kernel) rfl, tbm 279 (by decide +kernel) rfl⟩, tbm 277 (by decide +kernel) rfl, tbm 278 (by decide +kernel) rfl⟩
abbrev mt_X7_isKindWithNumber : MT := (RX7, yX7_isKindWithNumber, cX7_isKindWithNumber, 1, (some .boolean))
set_option maxRecDepth 100000 in
theorem ok_X7_isKindWithNumber : okS mt_X7_isKindWithNumber 1 := ⟨⟨⟨rfl, by decide, by decide⟩, ⟨by decide, by decide, by decide +kernel⟩, tbm 1 (by decide +kernel) rfl, tbm 282 (by decide +kernel) rfl⟩, tbm 281 (by decide +kernel) rfl⟩
abbrev mt_X3_begin : MT := (RX3, yX3_begin, cX3_begin, 4, none)
set_option maxRecDepth 100000 in
theorem ok_X3_begin : okV mt_X3_begin 3 := ⟨⟨⟨rfl, by decide, by decide⟩, ⟨by decide, by decide, by decide +kernel⟩, tbm 5 (by decide +kernel) rfl, tbm 286 (by decide +kernel) rfl⟩, tbm 284 (by decide +kernel) rfl, tbm 285 (by decide +kernel) rfl⟩
abbrev mt_X7_ofPot : MT := (RX7, yX7_ofPot, cX7_ofPot, 4, (some .int))
set_option maxRecDepth 100000 in
theorem ok_X7_ofPot : okV mt_X7_ofPot 2 := ⟨⟨⟨rfl, by decide, by decide⟩, ⟨by decide, by decide, by decide +kernel⟩, tbm 1 (by decide +kernel) rfl, tbm 290 (by decide +kernel) rfl⟩, tbm 288 (by decide +kernel) rfl, tbm 289 (by decide +kernel) rfl⟩
abbrev mt_X1_has : MT := (RX1, yX1_has, cX1_has, 2, (some .boolean))
set_option maxRecDepth 100000 in
theorem ok_X1_has : okV mt_X1_has 1 := ⟨⟨⟨rfl, by decide, by decide⟩, ⟨by decide, by decide, by decide +kernel⟩, tbm 2 (by decide +kernel) rfl, tbm 294 (by decide +kernel) rfl⟩, tbm 292 (by decide +kernel) rfl, tbm 293 (by decide +kernel) rfl⟩
abbrev mt_X3_wants : MT := (RX3, yX3_wants, cX3_wants, 1, (some .int))
set_option maxRecDepth 100000 in
theorem ok_X3_wants : okV mt_X3_wants 0 := ⟨⟨⟨rfl, by decide, by decide⟩, ⟨by decide, by decide, by decide +kernel⟩, tbm 5 (by decide +kernel) rfl, tbm 298 (by decide +kernel) rfl⟩, tbm 296 (by decide +kernel) rfl, tbm 297 (by decide +kernel) rfl⟩
abbrev mt_X3_bears : MT := (RX3, yX3_bears, cX3_bears, 1, (some .int))
set_option maxRecDepth 100000 in
theorem ok_X3_bears : okV mt_X3_bears 0 := ⟨⟨⟨rfl, by decide, by decide⟩, ⟨by decide, by decide, by decide +kernel⟩, tbm 5 (by decide +kernel) rfl, tbm 302 (by decide +kernel) rfl⟩, tbm 300 (by decide +kernel) rfl, tbm 301 (by decide +kernel) rfl⟩
abbrev mt_X7_change : MT := (RX7, yX7_change, cX7_change, 6, (some .int))
set_option maxRecDepth 100000 in
theorem ok_X7_change : okV mt_X7_change 3 := ⟨⟨⟨rfl, by decide, by decide⟩, ⟨by decide, by decide, by decide +kernel⟩, tbm 1 (by decide +kernel) rfl, tbm 306 (by decide +kernel) rfl⟩, tbm 304 (by decide +kernel) rfl, tbm 305 (by decide +kernel) rfl⟩
abbrev mt_X7_shift : MT := (RX7, yX7_shift, cX7_shift, 5, (some .int))
set_option maxRecDepth 100000 in
theorem ok_X7_shift : okV mt_X7_shift 2 := ⟨⟨⟨rfl, by decide, by decide⟩, ⟨by decide, by decide, by decide +kernel⟩, tbm 1 (by decide +kernel) rfl, tbm 310 (by decide +kernel) rfl⟩, tbm 308 (by decide +kernel) rfl, tbm 309 (by decide +kernel) rfl⟩
abbrev mt_X3_goTo : MT := (RX3, yX3_goTo, cX3_goTo, 2, none)
set_option maxRecDepth 100000 in
theorem ok_X3_goTo : okV mt_X3_goTo 1 := ⟨⟨⟨rfl, by decide, by decide⟩, ⟨by decide, by decide, by decide +kernel⟩, tbm 5 (by decide +kernel) rfl, tbm 314 (by decide +kernel) rfl⟩, tbm 312 (by decide +kernel) rfl, tbm 313 (by decide +kernel) rfl⟩
abbrev mt_X7_stick : MT := (RX7, yX7_stick, cX7_stick, 3, (some .int))
set_option maxRecDepth 100000 in
theorem ok_X7_stick : okV mt_X7_stick 1 := ⟨⟨⟨rfl, by decide, by decide⟩, ⟨by decide, by decide, by decide +kernel⟩, tbm 1 (by decide +kernel) rfl, tbm 318 (by decide +kernel) rfl⟩, tbm 316 (by decide +kernel) rfl, tbm 317 (by decide +kernel) rfl⟩
abbrev mt_X3_canTakeFalseHandle : MT := (RX3, yX3_canTakeFalseHandle, cX3_canTakeFalseHandle, 1, (some .boolean))
set_option maxRecDepth 100000 in
theorem ok_X3_canTakeFalseHandle : okV mt_X3_canTakeFalseHandle 0 := ⟨⟨⟨rfl, by decide, by decide⟩, ⟨by decide, by decide, by decide +kernel⟩, tbm 5 (by decide +kernel) rfl, tbm 322 (by decide +kernel) rfl⟩, tbm 320 (by decide +kernel) rfl, tbm 321 (by decide +kernel) rfl⟩
abbrev mt_X3_takeFalseHandle : MT := (RX3, yX3_takeFalseHandle, cX3_takeFalseHandle, 1, none)
set_option maxRecDepth 100000 in
theorem ok_X3_takeFalseHandle : okV mt_X3_takeFalseHandle 0 := ⟨⟨⟨rfl, by decide, by decide⟩, ⟨by decide, by decide, by decide +kernel⟩, tbm 5 (by decide +kernel) rfl, tbm 326 (by decide +kernel) rfl⟩, tbm 324 (by decide +kernel) rfl, tbm 325 (by decide +kernel) rfl⟩
abbrev mt_X7_become : MT := (RX7, yX7_become, cX7_become, 5, (some .int))
set_option maxRecDepth 100000 in
theorem ok_X7_become : okV mt_X7_become 2 := ⟨⟨⟨rfl, by decide, by decide⟩, ⟨by decide, by decide, by decide +kernel⟩, tbm 1 (by decide +kernel) rfl, tbm 330 (by decide +kernel) rfl⟩, tbm 328 (by decide +kernel) rfl, tbm 329 (by decide +kernel) rfl⟩
abbrev mt_X7_as : MT := (RX7, yX7_as, cX7_as, 4, (some .int))
set_option maxRecDepth 100000 in
theorem ok_X7_as : okV mt_X7_as 2 := ⟨⟨⟨rfl, by decide, by decide⟩, ⟨by decide, by decide, by decide +kernel⟩, tbm 1 (by decide +kernel) rfl, tbm 334 (by decide +kernel) rfl⟩, tbm 332 (by decide +kernel) rfl, tbm 333 (by decide +kernel) rfl⟩
abbrev mt_X7_isUnder : MT := (RX7, yX7_isUnder, cX7_isUnder, 3, (some .boolean))
set_option maxRecDepth 100000 in
theorem ok_X7_isUnder : okS mt_X7_isUnder 2 := ⟨⟨⟨rfl, by decide, by decide⟩, ⟨by decide, by decide, by decide +kernel⟩, tbm 1 (by decide +kernel) rfl, tbm 337 (by decide +kernel) rfl⟩, tbm 336 (by decide +kernel) rfl⟩
abbrev mt_X7_kindAbove : MT := (RX7, yX7_kindAbove, cX7_kindAbove, 1, (some .int))
set_option maxRecDepth 100000 in
theorem ok_X7_kindAbove : okS mt_X7_kindAbove 1 := ⟨⟨⟨rfl, by decide, by decide⟩, ⟨by decide, by decide, by decide +kernel⟩, tbm 1 (by decide +kernel) rfl, tbm 340 (by decide +kernel) rfl⟩, tbm 339 (by decide +kernel) rfl⟩
abbrev mt_X7_feed : MT := (RX7, yX7_feed, cX7_feed, 5, (some .int))
set_option maxRecDepth 100000 in
theorem ok_X7_feed : okV mt_X7_feed 2 := ⟨⟨⟨rfl, by decide, by decide⟩, ⟨by decide, by decide, by decide +kernel⟩, tbm 1 (by decide +kernel) rfl, tbm 344 (by decide +kernel) rfl⟩, tbm 342 (by decide +kernel) rfl, tbm 343 (by decide +kernel) rfl⟩
abbrev mt_X7_text : MT := (RX7, yX7_text, cX7_text, 3, (some .int))
set_option maxRecDepth 100000 in
theorem ok_X7_text : okV mt_X7_text 1 := ⟨⟨⟨rfl, by decide, by decide⟩, ⟨by decide, by decide, by decide +kernel⟩, tbm 1 (by decide +kernel) rfl, tbm 348 (by decide +kernel) rfl⟩, tbm 346 (by decide +kernel) rfl, tbm 347 (by decide +kernel) rfl⟩
abbrev mt_X4_readTape : MT := (RX4, yX4_readTape, cX4_readTape, 2, (some .boolean))
set_option maxRecDepth 100000 in
theorem ok_X4_readTape : okV mt_X4_readTape 1 := ⟨⟨⟨rfl, by decide, by decide⟩, ⟨by decide, by decide, by decide +kernel⟩, tbm 7 (by decide +kernel) rfl, tbm 352 (by decide +kernel) rfl⟩, tbm 350 (by decide +kernel) rfl, tbm 351 (by decide +kernel) rfl⟩
abbrev mt_X2_clear : MT := (RX2, yX2_clear, cX2_clear, 1, none)
set_option maxRecDepth 100000 in
theorem ok_X2_clear : okV mt_X2_clear 0 := ⟨⟨⟨rfl, by decide, by decide⟩, ⟨by decide, by decide, by decide +kernel⟩, tbm 3 (by decide +kernel) rfl, tbm 356 (by decide +kernel) rfl⟩, tbm 354 (by decide +kernel) rfl, tbm 355 (by decide +kernel) rfl⟩
abbrev mt_X4_readLevel : MT := (RX4, yX4_readLevel, cX4_readLevel, 5, (some .boolean))
set_option maxRecDepth 100000 in
theorem ok_X4_readLevel : okV mt_X4_readLevel 2 := ⟨⟨⟨rfl, by decide, by decide⟩, ⟨by decide, by decide, by decide +kernel⟩, tbm 7 (by decide +kernel) rfl, tbm 360 (by decide +kernel) rfl⟩, tbm 359 (by decide +kernel) rfl, tbs (yX4_readLevel, 4) 1 (by decide +kernel)⟩
abbrev mt_X4_readLast : MT := (RX4, yX4_readLast, cX4_readLast, 5, (some .boolean))
set_option maxRecDepth 100000 in
theorem ok_X4_readLast : okV mt_X4_readLast 1 := ⟨⟨⟨rfl, by decide, by decide⟩, ⟨by decide, by decide, by decide +kernel⟩, tbm 7 (by decide +kernel) rfl, tbm 364 (by decide +kernel) rfl⟩, tbm 363 (by decide +kernel) rfl, tbs (yX4_readLast, 4) 2 (by decide +kernel)⟩
abbrev mt_X4_next : MT := (RX4, yX4_next, cX4_next, 1, (some .int))
set_option maxRecDepth 100000 in
theorem ok_X4_next : okV mt_X4_next 0 := ⟨⟨⟨rfl, by decide, by decide⟩, ⟨by decide, by decide, by decide +kernel⟩, tbm 7 (by decide +kernel) rfl, tbm 368 (by decide +kernel) rfl⟩, tbm 367 (by decide +kernel) rfl, tbs (yX4_next, 4) 3 (by decide +kernel)⟩
abbrev mt_X4_isDigit : MT := (RX4, yX4_isDigit, cX4_isDigit, 1, (some .boolean))
set_option maxRecDepth 100000 in
theorem ok_X4_isDigit : okS mt_X4_isDigit 1 := ⟨⟨⟨rfl, by decide, by decide⟩, ⟨by decide, by decide, by decide +kernel⟩, tbm 7 (by decide +kernel) rfl, tbm 371 (by decide +kernel) rfl⟩, tbm 370 (by decide +kernel) rfl⟩
abbrev mt_X4_readNumber : MT := (RX4, yX4_readNumber, cX4_readNumber, 3, none)
set_option maxRecDepth 100000 in
theorem ok_X4_readNumber : okV mt_X4_readNumber 0 := ⟨⟨⟨rfl, by decide, by decide⟩, ⟨by decide, by decide, by decide +kernel⟩, tbm 7 (by decide +kernel) rfl, tbm 375 (by decide +kernel) rfl⟩, tbm 374 (by decide +kernel) rfl, tbs (yX4_readNumber, 4) 4 (by decide +kernel)⟩
abbrev mt_X2_add : MT := (RX2, yX2_add, cX2_add, 2, none)
set_option maxRecDepth 100000 in
theorem ok_X2_add : okV mt_X2_add 1 := ⟨⟨⟨rfl, by decide, by decide⟩, ⟨by decide, by decide, by decide +kernel⟩, tbm 3 (by decide +kernel) rfl, tbm 379 (by decide +kernel) rfl⟩, tbm 377 (by decide +kernel) rfl, tbm 378 (by decide +kernel) rfl⟩
abbrev mt_X4_nameOf : MT := (RX4, yX4_nameOf, cX4_nameOf, 2, (some .int))
set_option maxRecDepth 100000 in
theorem ok_X4_nameOf : okV mt_X4_nameOf 1 := ⟨⟨⟨rfl, by decide, by decide⟩, ⟨by decide, by decide, by decide +kernel⟩, tbm 7 (by decide +kernel) rfl, tbm 383 (by decide +kernel) rfl⟩, tbm 382 (by decide +kernel) rfl, tbs (yX4_nameOf, 4) 5 (by decide +kernel)⟩
abbrev mt_X4_levelOf : MT := (RX4, yX4_levelOf, cX4_levelOf, 1, (some .int))
set_option maxRecDepth 100000 in
theorem ok_X4_levelOf : okS mt_X4_levelOf 1 := ⟨⟨⟨rfl, by decide, by decide⟩, ⟨by decide, by decide, by decide +kernel⟩, tbm 7 (by decide +kernel) rfl, tbm 386 (by decide +kernel) rfl⟩, tbm 385 (by decide +kernel) rfl⟩
abbrev mt_X1_lawOf : MT := (RX1, yX1_lawOf, cX1_lawOf, 2, (some (.object "PotHandles$Law")))
set_option maxRecDepth 100000 in
theorem ok_X1_lawOf : okV mt_X1_lawOf 1 := ⟨⟨⟨rfl, by decide, by decide⟩, ⟨by decide, by decide, by decide +kernel⟩, tbm 2 (by decide +kernel) rfl, tbm 390 (by decide +kernel) rfl⟩, tbm 388 (by decide +kernel) rfl, tbm 389 (by decide +kernel) rfl⟩
abbrev mt_X2_copy : MT := (RX2, yX2_copy, cX2_copy, 2, none)
set_option maxRecDepth 100000 in
theorem ok_X2_copy : okV mt_X2_copy 1 := ⟨⟨⟨rfl, by decide, by decide⟩, ⟨by decide, by decide, by decide +kernel⟩, tbm 3 (by decide +kernel) rfl, tbm 394 (by decide +kernel) rfl⟩, tbm 392 (by decide +kernel) rfl, tbm 393 (by decide +kernel) rfl⟩
abbrev mt_X7_law : MT := (RX7, yX7_law, cX7_law, 5, (some .int))
set_option maxRecDepth 100000 in
theorem ok_X7_law : okV mt_X7_law 4 := ⟨⟨⟨rfl, by decide, by decide⟩, ⟨by decide, by decide, by decide +kernel⟩, tbm 1 (by decide +kernel) rfl, tbm 401 (by decide +kernel) rfl⟩, tbm 399 (by decide +kernel) rfl, tbm 400 (by decide +kernel) rfl⟩
abbrev mt_X1_given : MT := (RX1, yX1_given, cX1_given, 7, (some .int))
set_option maxRecDepth 100000 in
theorem ok_X1_given : okV mt_X1_given 4 := ⟨⟨⟨rfl, by decide, by decide⟩, ⟨by decide, by decide, by decide +kernel⟩, tbm 2 (by decide +kernel) rfl, tbm 405 (by decide +kernel) rfl⟩, tbm 403 (by decide +kernel) rfl, tbm 404 (by decide +kernel) rfl⟩
abbrev mt_X2_stands : MT := (RX2, yX2_stands, cX2_stands, 1, (some .boolean))
set_option maxRecDepth 100000 in
theorem ok_X2_stands : okV mt_X2_stands 0 := ⟨⟨⟨rfl, by decide, by decide⟩, ⟨by decide, by decide, by decide +kernel⟩, tbm 3 (by decide +kernel) rfl, tbm 410 (by decide +kernel) rfl⟩, tbm 408 (by decide +kernel) rfl, tbm 409 (by decide +kernel) rfl⟩
abbrev mt_X2_workedOut : MT := (RX2, yX2_workedOut, cX2_workedOut, 7, (some .int))
set_option maxRecDepth 100000 in
theorem ok_X2_workedOut : okV mt_X2_workedOut 3 := ⟨⟨⟨rfl, by decide, by decide⟩, ⟨by decide, by decide, by decide +kernel⟩, tbm 3 (by decide +kernel) rfl, tbm 414 (by decide +kernel) rfl⟩, tbm 412 (by decide +kernel) rfl, tbm 413 (by decide +kernel) rfl⟩
abbrev mt_X2_joined : MT := (RX2, yX2_joined, cX2_joined, 3, (some .int))
set_option maxRecDepth 100000 in
theorem ok_X2_joined : okS mt_X2_joined 3 := ⟨⟨⟨rfl, by decide, by decide⟩, ⟨by decide, by decide, by decide +kernel⟩, tbm 3 (by decide +kernel) rfl, tbm 417 (by decide +kernel) rfl⟩, tbm 416 (by decide +kernel) rfl⟩
abbrev mt_X2_namedOrNumber : MT := (RX2, yX2_namedOrNumber, cX2_namedOrNumber, 4, (some .int))
set_option maxRecDepth 100000 in
theorem ok_X2_namedOrNumber : okS mt_X2_namedOrNumber 4 := ⟨⟨⟨rfl, by decide, by decide⟩, ⟨by decide, by decide, by decide +kernel⟩, tbm 3 (by decide +kernel) rfl, tbm 420 (by decide +kernel) rfl⟩, tbm 419 (by decide +kernel) rfl⟩
abbrev mt_X7_years : MT := (RX7, yX7_years, cX7_years, 2, (some .int))
set_option maxRecDepth 100000 in
theorem ok_X7_years : okV mt_X7_years 1 := ⟨⟨⟨rfl, by decide, by decide⟩, ⟨by decide, by decide, by decide +kernel⟩, tbm 1 (by decide +kernel) rfl, tbm 430 (by decide +kernel) rfl⟩, tbm 428 (by decide +kernel) rfl, tbm 429 (by decide +kernel) rfl⟩
abbrev mt_X1_passYears : MT := (RX1, yX1_passYears, cX1_passYears, 4, none)
set_option maxRecDepth 100000 in
theorem ok_X1_passYears : okV mt_X1_passYears 1 := ⟨⟨⟨rfl, by decide, by decide⟩, ⟨by decide, by decide, by decide +kernel⟩, tbm 2 (by decide +kernel) rfl, tbm 434 (by decide +kernel) rfl⟩, tbm 432 (by decide +kernel) rfl, tbm 433 (by decide +kernel) rfl⟩
abbrev mt_X1_passYearOf : MT := (RX1, yX1_passYearOf, cX1_passYearOf, 4, none)
set_option maxRecDepth 100000 in
theorem ok_X1_passYearOf : okV mt_X1_passYearOf 2 := ⟨⟨⟨rfl, by decide, by decide⟩, ⟨by decide, by decide, by decide +kernel⟩, tbm 2 (by decide +kernel) rfl, tbm 439 (by decide +kernel) rfl⟩, tbm 438 (by decide +kernel) rfl, tbs (yX1_passYearOf, 8) 6 (by decide +kernel)⟩
abbrev mt_X3_liveYear : MT := (RX3, yX3_liveYear, cX3_liveYear, 3, none)
set_option maxRecDepth 100000 in
theorem ok_X3_liveYear : okV mt_X3_liveYear 1 := ⟨⟨⟨rfl, by decide, by decide⟩, ⟨by decide, by decide, by decide +kernel⟩, tbm 5 (by decide +kernel) rfl, tbm 444 (by decide +kernel) rfl⟩, tbm 442 (by decide +kernel) rfl, tbm 443 (by decide +kernel) rfl⟩
abbrev mt_X3_warmedBy : MT := (RX3, yX3_warmedBy, cX3_warmedBy, 2, (some .int))
set_option maxRecDepth 100000 in
theorem ok_X3_warmedBy : okV mt_X3_warmedBy 1 := ⟨⟨⟨rfl, by decide, by decide⟩, ⟨by decide, by decide, by decide +kernel⟩, tbm 5 (by decide +kernel) rfl, tbm 448 (by decide +kernel) rfl⟩, tbm 446 (by decide +kernel) rfl, tbm 447 (by decide +kernel) rfl⟩
abbrev mt_J6_bitCount_0f7a4 : MT := (RJ6, yJ6_bitCount_0f7a4, cJ6_bitCount_0f7a4, 1, (some .int))
set_option maxRecDepth 100000 in
theorem ok_J6_bitCount_0f7a4 : okS mt_J6_bitCount_0f7a4 1 := ⟨⟨⟨rfl, by decide, by decide⟩, ⟨by decide, by decide, by decide +kernel⟩, tbm 13 (by decide +kernel) rfl, tbm 456 (by decide +kernel) rfl⟩, tbm 455 (by decide +kernel) rfl⟩
abbrev mt_X1_allHandles : MT := (RX1, yX1_allHandles, cX1_allHandles, 3, (some .int))
set_option maxRecDepth 100000 in
theorem ok_X1_allHandles : okV mt_X1_allHandles 0 := ⟨⟨⟨rfl, by decide, by decide⟩, ⟨by decide, by decide, by decide +kernel⟩, tbm 2 (by decide +kernel) rfl, tbm 463 (by decide +kernel) rfl⟩, tbm 461 (by decide +kernel) rfl, tbm 462 (by decide +kernel) rfl⟩
abbrev mt_X7_loose : MT := (RX7, yX7_loose, cX7_loose, 4, (some .int))
set_option maxRecDepth 100000 in
theorem ok_X7_loose : okV mt_X7_loose 1 := ⟨⟨⟨rfl, by decide, by decide⟩, ⟨by decide, by decide, by decide +kernel⟩, tbm 1 (by decide +kernel) rfl, tbm 467 (by decide +kernel) rfl⟩, tbm 465 (by decide +kernel) rfl, tbm 466 (by decide +kernel) rfl⟩
abbrev mt_X0_draw : MT := (RX0, yX0_draw, cX0_draw, 1, (some .int))
set_option maxRecDepth 100000 in
theorem ok_X0_draw : okV mt_X0_draw 0 := ⟨⟨⟨rfl, by decide, by decide⟩, ⟨by decide, by decide, by decide +kernel⟩, tbm 6 (by decide +kernel) rfl, tbm 471 (by decide +kernel) rfl⟩, tbm 469 (by decide +kernel) rfl, tbm 470 (by decide +kernel) rfl⟩
abbrev mt_X7_then : MT := (RX7, yX7_then, cX7_then, 5, (some .int))
set_option maxRecDepth 100000 in
theorem ok_X7_then : okV mt_X7_then 3 := ⟨⟨⟨rfl, by decide, by decide⟩, ⟨by decide, by decide, by decide +kernel⟩, tbm 1 (by decide +kernel) rfl, tbm 476 (by decide +kernel) rfl⟩, tbm 474 (by decide +kernel) rfl, tbm 475 (by decide +kernel) rfl⟩
abbrev mt_X7_behind : MT := (RX7, yX7_behind, cX7_behind, 2, (some (.object "PotHandles$District")))
set_option maxRecDepth 100000 in
theorem ok_X7_behind : okV mt_X7_behind 1 := ⟨⟨⟨rfl, by decide, by decide⟩, ⟨by decide, by decide, by decide +kernel⟩, tbm 1 (by decide +kernel) rfl, tbm 480 (by decide +kernel) rfl⟩, tbm 479 (by decide +kernel) rfl, tbs (yX7_behind, 10) 7 (by decide +kernel)⟩
abbrev mt_X1_copy : MT := (RX1, yX1_copy, cX1_copy, 3, none)
set_option maxRecDepth 100000 in
theorem ok_X1_copy : okV mt_X1_copy 1 := ⟨⟨⟨rfl, by decide, by decide⟩, ⟨by decide, by decide, by decide +kernel⟩, tbm 2 (by decide +kernel) rfl, tbm 484 (by decide +kernel) rfl⟩, tbm 482 (by decide +kernel) rfl, tbm 483 (by decide +kernel) rfl⟩
abbrev mt_X3_copy : MT := (RX3, yX3_copy, cX3_copy, 2, none)
set_option maxRecDepth 100000 in
theorem ok_X3_copy : okV mt_X3_copy 1 := ⟨⟨⟨rfl, by decide, by decide⟩, ⟨by decide, by decide, by decide +kernel⟩, tbm 5 (by decide +kernel) rfl, tbm 489 (by decide +kernel) rfl⟩, tbm 487 (by decide +kernel) rfl, tbm 488 (by decide +kernel) rfl⟩
abbrev mt_X7_when : MT := (RX7, yX7_when, cX7_when, 5, (some .int))
set_option maxRecDepth 100000 in
theorem ok_X7_when : okV mt_X7_when 1 := ⟨⟨⟨rfl, by decide, by decide⟩, ⟨by decide, by decide, by decide +kernel⟩, tbm 1 (by decide +kernel) rfl, tbm 494 (by decide +kernel) rfl⟩, tbm 492 (by decide +kernel) rfl, tbm 493 (by decide +kernel) rfl⟩
abbrev mt_X7_shelf : MT := (RX7, yX7_shelf, cX7_shelf, 4, (some .int))
set_option maxRecDepth 100000 in
theorem ok_X7_shelf : okV mt_X7_shelf 2 := ⟨⟨⟨rfl, by decide, by decide⟩, ⟨by decide, by decide, by decide +kernel⟩, tbm 1 (by decide +kernel) rfl, tbm 498 (by decide +kernel) rfl⟩, tbm 496 (by decide +kernel) rfl, tbm 497 (by decide +kernel) rfl⟩
abbrev mt_X1_potsWithHandle : MT := (RX1, yX1_potsWithHandle, cX1_potsWithHandle, 3, (some .int))
set_option maxRecDepth 100000 in
theorem ok_X1_potsWithHandle : okV mt_X1_potsWithHandle 0 := ⟨⟨⟨rfl, by decide, by decide⟩, ⟨by decide, by decide, by decide +kernel⟩, tbm 2 (by decide +kernel) rfl, tbm 502 (by decide +kernel) rfl⟩, tbm 500 (by decide +kernel) rfl, tbm 501 (by decide +kernel) rfl⟩
abbrev mt_X7_place : MT := (RX7, yX7_place, cX7_place, 9, (some .int))
set_option maxRecDepth 100000 in
theorem ok_X7_place : okV mt_X7_place 3 := ⟨⟨⟨rfl, by decide, by decide⟩, ⟨by decide, by decide, by decide +kernel⟩, tbm 1 (by decide +kernel) rfl, tbm 506 (by decide +kernel) rfl⟩, tbm 504 (by decide +kernel) rfl, tbm 505 (by decide +kernel) rfl⟩
abbrev mt_X7_whenMoved : MT := (RX7, yX7_whenMoved, cX7_whenMoved, 6, (some (.object "PotHandles$Pot")))
set_option maxRecDepth 100000 in
theorem ok_X7_whenMoved : okV mt_X7_whenMoved 3 := ⟨⟨⟨rfl, by decide, by decide⟩, ⟨by decide, by decide, by decide +kernel⟩, tbm 1 (by decide +kernel) rfl, tbm 510 (by decide +kernel) rfl⟩, tbm 509 (by decide +kernel) rfl, tbs (yX7_whenMoved, 10) 8 (by decide +kernel)⟩
abbrev mt_X7_use : MT := (RX7, yX7_use, cX7_use, 6, (some .int))
set_option maxRecDepth 100000 in
theorem ok_X7_use : okV mt_X7_use 2 := ⟨⟨⟨rfl, by decide, by decide⟩, ⟨by decide, by decide, by decide +kernel⟩, tbm 1 (by decide +kernel) rfl, tbm 514 (by decide +kernel) rfl⟩, tbm 512 (by decide +kernel) rfl, tbm 513 (by decide +kernel) rfl⟩
abbrev mt_X7_needed : MT := (RX7, yX7_needed, cX7_needed, 7, (some .int))
set_option maxRecDepth 100000 in
theorem ok_X7_needed : okV mt_X7_needed 2 := ⟨⟨⟨rfl, by decide, by decide⟩, ⟨by decide, by decide, by decide +kernel⟩, tbm 1 (by decide +kernel) rfl, tbm 518 (by decide +kernel) rfl⟩, tbm 516 (by decide +kernel) rfl, tbm 517 (by decide +kernel) rfl⟩
abbrev mt_X1_allPots : MT := (RX1, yX1_allPots, cX1_allPots, 1, (some .int))
set_option maxRecDepth 100000 in
theorem ok_X1_allPots : okV mt_X1_allPots 0 := ⟨⟨⟨rfl, by decide, by decide⟩, ⟨by decide, by decide, by decide +kernel⟩, tbm 2 (by decide +kernel) rfl, tbm 522 (by decide +kernel) rfl⟩, tbm 520 (by decide +kernel) rfl, tbm 521 (by decide +kernel) rfl⟩
abbrev mt_X7_haveHandlesIfCaredFor : MT := (RX7, yX7_haveHandlesIfCaredFor, cX7_haveHandlesIfCaredFor, 6, (some .boolean))
set_option maxRecDepth 100000 in
theorem ok_X7_haveHandlesIfCaredFor : okV mt_X7_haveHandlesIfCaredFor 3 := ⟨⟨⟨rfl, by decide, by decide⟩, ⟨by decide, by decide, by decide +kernel⟩, tbm 1 (by decide +kernel) rfl, tbm 527 (by decide +kernel) rfl⟩, tbm 526 (by decide +kernel) rfl, tbs (yX7_haveHandlesIfCaredFor, 10) 9 (by decide +kernel)⟩
abbrev mt_X7_whose : MT := (RX7, yX7_whose, cX7_whose, 6, (some .int))
set_option maxRecDepth 100000 in
theorem ok_X7_whose : okV mt_X7_whose 3 := ⟨⟨⟨rfl, by decide, by decide⟩, ⟨by decide, by decide, by decide +kernel⟩, tbm 1 (by decide +kernel) rfl, tbm 531 (by decide +kernel) rfl⟩, tbm 529 (by decide +kernel) rfl, tbm 530 (by decide +kernel) rfl⟩
abbrev mt_X7_isSheet : MT := (RX7, yX7_isSheet, cX7_isSheet, 1, (some .boolean))
set_option maxRecDepth 100000 in
theorem ok_X7_isSheet : okS mt_X7_isSheet 1 := ⟨⟨⟨rfl, by decide, by decide⟩, ⟨by decide, by decide, by decide +kernel⟩, tbm 1 (by decide +kernel) rfl, tbm 534 (by decide +kernel) rfl⟩, tbm 533 (by decide +kernel) rfl⟩
abbrev mt_X5_isMissing : MT := (RX5, yX5_isMissing, cX5_isMissing, 1, (some .boolean))
set_option maxRecDepth 100000 in
theorem ok_X5_isMissing : okV mt_X5_isMissing 0 := ⟨⟨⟨rfl, by decide, by decide⟩, ⟨by decide, by decide, by decide +kernel⟩, tbm 9 (by decide +kernel) rfl, tbm 538 (by decide +kernel) rfl⟩, tbm 536 (by decide +kernel) rfl, tbm 537 (by decide +kernel) rfl⟩
abbrev mt_X7_isLikedAsTold : MT := (RX7, yX7_isLikedAsTold, cX7_isLikedAsTold, 7, (some .boolean))
set_option maxRecDepth 100000 in
theorem ok_X7_isLikedAsTold : okV mt_X7_isLikedAsTold 3 := ⟨⟨⟨rfl, by decide, by decide⟩, ⟨by decide, by decide, by decide +kernel⟩, tbm 1 (by decide +kernel) rfl, tbm 542 (by decide +kernel) rfl⟩, tbm 541 (by decide +kernel) rfl, tbs (yX7_isLikedAsTold, 10) 10 (by decide +kernel)⟩
abbrev mt_X7_carry : MT := (RX7, yX7_carry, cX7_carry, 6, (some .int))
set_option maxRecDepth 100000 in
theorem ok_X7_carry : okV mt_X7_carry 1 := ⟨⟨⟨rfl, by decide, by decide⟩, ⟨by decide, by decide, by decide +kernel⟩, tbm 1 (by decide +kernel) rfl, tbm 546 (by decide +kernel) rfl⟩, tbm 544 (by decide +kernel) rfl, tbm 545 (by decide +kernel) rfl⟩
abbrev mt_X7_richest : MT := (RX7, yX7_richest, cX7_richest, 8, (some .int))
set_option maxRecDepth 100000 in
theorem ok_X7_richest : okV mt_X7_richest 2 := ⟨⟨⟨rfl, by decide, by decide⟩, ⟨by decide, by decide, by decide +kernel⟩, tbm 1 (by decide +kernel) rfl, tbm 551 (by decide +kernel) rfl⟩, tbm 549 (by decide +kernel) rfl, tbm 550 (by decide +kernel) rfl⟩
abbrev mt_X1_handlesIn : MT := (RX1, yX1_handlesIn, cX1_handlesIn, 4, (some .int))
set_option maxRecDepth 100000 in
theorem ok_X1_handlesIn : okV mt_X1_handlesIn 1 := ⟨⟨⟨rfl, by decide, by decide⟩, ⟨by decide, by decide, by decide +kernel⟩, tbm 2 (by decide +kernel) rfl, tbm 555 (by decide +kernel) rfl⟩, tbm 553 (by decide +kernel) rfl, tbm 554 (by decide +kernel) rfl⟩
abbrev mt_X7_breaks : MT := (RX7, yX7_breaks, cX7_breaks, 3, (some .int))
set_option maxRecDepth 100000 in
theorem ok_X7_breaks : okV mt_X7_breaks 1 := ⟨⟨⟨rfl, by decide, by decide⟩, ⟨by decide, by decide, by decide +kernel⟩, tbm 1 (by decide +kernel) rfl, tbm 559 (by decide +kernel) rfl⟩, tbm 557 (by decide +kernel) rfl, tbm 558 (by decide +kernel) rfl⟩
abbrev mt_X7_dealer : MT := (RX7, yX7_dealer, cX7_dealer, 6, (some .int))
set_option maxRecDepth 100000 in
theorem ok_X7_dealer : okV mt_X7_dealer 1 := ⟨⟨⟨rfl, by decide, by decide⟩, ⟨by decide, by decide, by decide +kernel⟩, tbm 1 (by decide +kernel) rfl, tbm 563 (by decide +kernel) rfl⟩, tbm 561 (by decide +kernel) rfl, tbm 562 (by decide +kernel) rfl⟩
abbrev mt_X7_handlesIfStuck : MT := (RX7, yX7_handlesIfStuck, cX7_handlesIfStuck, 4, (some .int))
set_option maxRecDepth 100000 in
theorem ok_X7_handlesIfStuck : okV mt_X7_handlesIfStuck 2 := ⟨⟨⟨rfl, by decide, by decide⟩, ⟨by decide, by decide, by decide +kernel⟩, tbm 1 (by decide +kernel) rfl, tbm 567 (by decide +kernel) rfl⟩, tbm 566 (by decide +kernel) rfl, tbs (yX7_handlesIfStuck, 10) 11 (by decide +kernel)⟩
abbrev mt_X7_odds : MT := (RX7, yX7_odds, cX7_odds, 7, (some .int))
set_option maxRecDepth 100000 in
theorem ok_X7_odds : okV mt_X7_odds 3 := ⟨⟨⟨rfl, by decide, by decide⟩, ⟨by decide, by decide, by decide +kernel⟩, tbm 1 (by decide +kernel) rfl, tbm 571 (by decide +kernel) rfl⟩, tbm 569 (by decide +kernel) rfl, tbm 570 (by decide +kernel) rfl⟩
abbrev mt_X7_whenBeing : MT := (RX7, yX7_whenBeing, cX7_whenBeing, 5, (some (.object "PotHandles$Pot")))
set_option maxRecDepth 100000 in
theorem ok_X7_whenBeing : okV mt_X7_whenBeing 3 := ⟨⟨⟨rfl, by decide, by decide⟩, ⟨by decide, by decide, by decide +kernel⟩, tbm 1 (by decide +kernel) rfl, tbm 575 (by decide +kernel) rfl⟩, tbm 574 (by decide +kernel) rfl, tbs (yX7_whenBeing, 10) 12 (by decide +kernel)⟩
abbrev mt_X7_seed : MT := (RX7, yX7_seed, cX7_seed, 3, (some .int))
set_option maxRecDepth 100000 in
theorem ok_X7_seed : okV mt_X7_seed 1 := ⟨⟨⟨rfl, by decide, by decide⟩, ⟨by decide, by decide, by decide +kernel⟩, tbm 1 (by decide +kernel) rfl, tbm 579 (by decide +kernel) rfl⟩, tbm 577 (by decide +kernel) rfl, tbm 578 (by decide +kernel) rfl⟩
abbrev mt_X7_voice : MT := (RX7, yX7_voice, cX7_voice, 4, (some .int))
set_option maxRecDepth 100000 in
theorem ok_X7_voice : okV mt_X7_voice 3 := ⟨⟨⟨rfl, by decide, by decide⟩, ⟨by decide, by decide, by decide +kernel⟩, tbm 1 (by decide +kernel) rfl, tbm 583 (by decide +kernel) rfl⟩, tbm 581 (by decide +kernel) rfl, tbm 582 (by decide +kernel) rfl⟩
abbrev mt_X6_speak : MT := (RX6, yX6_speak, cX6_speak, 5, (some .int))
set_option maxRecDepth 100000 in
theorem ok_X6_speak : okV mt_X6_speak 4 := ⟨⟨⟨rfl, by decide, by decide⟩, ⟨by decide, by decide, by decide +kernel⟩, tbm 8 (by decide +kernel) rfl, tbm 587 (by decide +kernel) rfl⟩, tbm 585 (by decide +kernel) rfl, tbm 586 (by decide +kernel) rfl⟩
abbrev mt_X6_say : MT := (RX6, yX6_say, cX6_say, 7, (some .int))
set_option maxRecDepth 100000 in
theorem ok_X6_say : okV mt_X6_say 4 := ⟨⟨⟨rfl, by decide, by decide⟩, ⟨by decide, by decide, by decide +kernel⟩, tbm 8 (by decide +kernel) rfl, tbm 591 (by decide +kernel) rfl⟩, tbm 590 (by decide +kernel) rfl, tbs (yX6_say, 5) 13 (by decide +kernel)⟩
abbrev mt_X6_bodyOf : MT := (RX6, yX6_bodyOf, cX6_bodyOf, 2, (some .int))
set_option maxRecDepth 100000 in
theorem ok_X6_bodyOf : okS mt_X6_bodyOf 2 := ⟨⟨⟨rfl, by decide, by decide⟩, ⟨by decide, by decide, by decide +kernel⟩, tbm 8 (by decide +kernel) rfl, tbm 594 (by decide +kernel) rfl⟩, tbm 593 (by decide +kernel) rfl⟩
abbrev mt_X6_begin : MT := (RX6, yX6_begin, cX6_begin, 2, none)
set_option maxRecDepth 100000 in
theorem ok_X6_begin : okV mt_X6_begin 1 := ⟨⟨⟨rfl, by decide, by decide⟩, ⟨by decide, by decide, by decide +kernel⟩, tbm 8 (by decide +kernel) rfl, tbm 598 (by decide +kernel) rfl⟩, tbm 597 (by decide +kernel) rfl, tbs (yX6_begin, 5) 14 (by decide +kernel)⟩
abbrev mt_X6_sayBody : MT := (RX6, yX6_sayBody, cX6_sayBody, 4, (some .int))
set_option maxRecDepth 100000 in
theorem ok_X6_sayBody : okV mt_X6_sayBody 3 := ⟨⟨⟨rfl, by decide, by decide⟩, ⟨by decide, by decide, by decide +kernel⟩, tbm 8 (by decide +kernel) rfl, tbm 602 (by decide +kernel) rfl⟩, tbm 601 (by decide +kernel) rfl, tbs (yX6_sayBody, 5) 15 (by decide +kernel)⟩
abbrev mt_X6_sayAbove : MT := (RX6, yX6_sayAbove, cX6_sayAbove, 5, (some .int))
set_option maxRecDepth 100000 in
theorem ok_X6_sayAbove : okV mt_X6_sayAbove 4 := ⟨⟨⟨rfl, by decide, by decide⟩, ⟨by decide, by decide, by decide +kernel⟩, tbm 8 (by decide +kernel) rfl, tbm 606 (by decide +kernel) rfl⟩, tbm 605 (by decide +kernel) rfl, tbs (yX6_sayAbove, 5) 16 (by decide +kernel)⟩
abbrev mt_X7_trace : MT := (RX7, yX7_trace, cX7_trace, 2, (some .int))
set_option maxRecDepth 100000 in
theorem ok_X7_trace : okV mt_X7_trace 1 := ⟨⟨⟨rfl, by decide, by decide⟩, ⟨by decide, by decide, by decide +kernel⟩, tbm 1 (by decide +kernel) rfl, tbm 611 (by decide +kernel) rfl⟩, tbm 609 (by decide +kernel) rfl, tbm 610 (by decide +kernel) rfl⟩
abbrev mt_X7_sheet : MT := (RX7, yX7_sheet, cX7_sheet, 4, (some .int))
set_option maxRecDepth 100000 in
theorem ok_X7_sheet : okV mt_X7_sheet 3 := ⟨⟨⟨rfl, by decide, by decide⟩, ⟨by decide, by decide, by decide +kernel⟩, tbm 1 (by decide +kernel) rfl, tbm 615 (by decide +kernel) rfl⟩, tbm 613 (by decide +kernel) rfl, tbm 614 (by decide +kernel) rfl⟩
abbrev mt_X5_lay : MT := (RX5, yX5_lay, cX5_lay, 3, none)
set_option maxRecDepth 100000 in
theorem ok_X5_lay : okV mt_X5_lay 2 := ⟨⟨⟨rfl, by decide, by decide⟩, ⟨by decide, by decide, by decide +kernel⟩, tbm 9 (by decide +kernel) rfl, tbm 619 (by decide +kernel) rfl⟩, tbm 617 (by decide +kernel) rfl, tbm 618 (by decide +kernel) rfl⟩
abbrev mt_X7_put : MT := (RX7, yX7_put, cX7_put, 5, (some .int))
set_option maxRecDepth 100000 in
theorem ok_X7_put : okV mt_X7_put 3 := ⟨⟨⟨rfl, by decide, by decide⟩, ⟨by decide, by decide, by decide +kernel⟩, tbm 1 (by decide +kernel) rfl, tbm 624 (by decide +kernel) rfl⟩, tbm 622 (by decide +kernel) rfl, tbm 623 (by decide +kernel) rfl⟩
abbrev mt_X5_lowestBits : MT := (RX5, yX5_lowestBits, cX5_lowestBits, 2, (some .int))
set_option maxRecDepth 100000 in
theorem ok_X5_lowestBits : okV mt_X5_lowestBits 1 := ⟨⟨⟨rfl, by decide, by decide⟩, ⟨by decide, by decide, by decide +kernel⟩, tbm 9 (by decide +kernel) rfl, tbm 628 (by decide +kernel) rfl⟩, tbm 626 (by decide +kernel) rfl, tbm 627 (by decide +kernel) rfl⟩
abbrev mt_X7_move : MT := (RX7, yX7_move, cX7_move, 8, (some .int))
set_option maxRecDepth 100000 in
theorem ok_X7_move : okV mt_X7_move 5 := ⟨⟨⟨rfl, by decide, by decide⟩, ⟨by decide, by decide, by decide +kernel⟩, tbm 1 (by decide +kernel) rfl, tbm 632 (by decide +kernel) rfl⟩, tbm 630 (by decide +kernel) rfl, tbm 631 (by decide +kernel) rfl⟩
abbrev mt_X5_holds : MT := (RX5, yX5_holds, cX5_holds, 3, (some .boolean))
set_option maxRecDepth 100000 in
theorem ok_X5_holds : okV mt_X5_holds 2 := ⟨⟨⟨rfl, by decide, by decide⟩, ⟨by decide, by decide, by decide +kernel⟩, tbm 9 (by decide +kernel) rfl, tbm 636 (by decide +kernel) rfl⟩, tbm 634 (by decide +kernel) rfl, tbm 635 (by decide +kernel) rfl⟩
abbrev mt_X7_uses : MT := (RX7, yX7_uses, cX7_uses, 5, (some .int))
set_option maxRecDepth 100000 in
theorem ok_X7_uses : okV mt_X7_uses 1 := ⟨⟨⟨rfl, by decide, by decide⟩, ⟨by decide, by decide, by decide +kernel⟩, tbm 1 (by decide +kernel) rfl, tbm 641 (by decide +kernel) rfl⟩, tbm 639 (by decide +kernel) rfl, tbm 640 (by decide +kernel) rfl⟩
abbrev mt_X7_judge : MT := (RX7, yX7_judge, cX7_judge, 5, (some .int))
set_option maxRecDepth 100000 in
theorem ok_X7_judge : okV mt_X7_judge 1 := ⟨⟨⟨rfl, by decide, by decide⟩, ⟨by decide, by decide, by decide +kernel⟩, tbm 1 (by decide +kernel) rfl, tbm 645 (by decide +kernel) rfl⟩, tbm 643 (by decide +kernel) rfl, tbm 644 (by decide +kernel) rfl⟩
abbrev mt_X7_image : MT := (RX7, yX7_image, cX7_image, 1, (some .int))
set_option maxRecDepth 100000 in
theorem ok_X7_image : okV mt_X7_image 0 := ⟨⟨⟨rfl, by decide, by decide⟩, ⟨by decide, by decide, by decide +kernel⟩, tbm 1 (by decide +kernel) rfl, tbm 649 (by decide +kernel) rfl⟩, tbm 647 (by decide +kernel) rfl, tbm 648 (by decide +kernel) rfl⟩
abbrev mt_X0_copy : MT := (RX0, yX0_copy, cX0_copy, 2, none)
set_option maxRecDepth 100000 in
theorem ok_X0_copy : okV mt_X0_copy 1 := ⟨⟨⟨rfl, by decide, by decide⟩, ⟨by decide, by decide, by decide +kernel⟩, tbm 6 (by decide +kernel) rfl, tbm 653 (by decide +kernel) rfl⟩, tbm 651 (by decide +kernel) rfl, tbm 652 (by decide +kernel) rfl⟩
abbrev mt_X7_restore : MT := (RX7, yX7_restore, cX7_restore, 1, (some .int))
set_option maxRecDepth 100000 in
theorem ok_X7_restore : okV mt_X7_restore 0 := ⟨⟨⟨rfl, by decide, by decide⟩, ⟨by decide, by decide, by decide +kernel⟩, tbm 1 (by decide +kernel) rfl, tbm 658 (by decide +kernel) rfl⟩, tbm 656 (by decide +kernel) rfl, tbm 657 (by decide +kernel) rfl⟩
abbrev mt_X7_tell : MT := (RX7, yX7_tell, cX7_tell, 2, (some .int))
set_option maxRecDepth 100000 in
theorem ok_X7_tell : okV mt_X7_tell 1 := ⟨⟨⟨rfl, by decide, by decide⟩, ⟨by decide, by decide, by decide +kernel⟩, tbm 1 (by decide +kernel) rfl, tbm 662 (by decide +kernel) rfl⟩, tbm 660 (by decide +kernel) rfl, tbm 661 (by decide +kernel) rfl⟩
abbrev mt_X7_check : MT := (RX7, yX7_check, cX7_check, 4, (some .int))
set_option maxRecDepth 100000 in
theorem ok_X7_check : okV mt_X7_check 0 := ⟨⟨⟨rfl, by decide, by decide⟩, ⟨by decide, by decide, by decide +kernel⟩, tbm 1 (by decide +kernel) rfl, tbm 666 (by decide +kernel) rfl⟩, tbm 664 (by decide +kernel) rfl, tbm 665 (by decide +kernel) rfl⟩
abbrev mt_X7_count : MT := (RX7, yX7_count, cX7_count, 2, (some .int))
set_option maxRecDepth 100000 in
theorem ok_X7_count : okV mt_X7_count 1 := ⟨⟨⟨rfl, by decide, by decide⟩, ⟨by decide, by decide, by decide +kernel⟩, tbm 1 (by decide +kernel) rfl, tbm 670 (by decide +kernel) rfl⟩, tbm 668 (by decide +kernel) rfl, tbm 669 (by decide +kernel) rfl⟩
abbrev mt_X1_falsePots : MT := (RX1, yX1_falsePots, cX1_falsePots, 3, (some .int))
set_option maxRecDepth 100000 in
theorem ok_X1_falsePots : okV mt_X1_falsePots 0 := ⟨⟨⟨rfl, by decide, by decide⟩, ⟨by decide, by decide, by decide +kernel⟩, tbm 2 (by decide +kernel) rfl, tbm 674 (by decide +kernel) rfl⟩, tbm 672 (by decide +kernel) rfl, tbm 673 (by decide +kernel) rfl⟩
abbrev mt_X7_told : MT := (RX7, yX7_told, cX7_told, 2, (some .int))
set_option maxRecDepth 100000 in
theorem ok_X7_told : okV mt_X7_told 1 := ⟨⟨⟨rfl, by decide, by decide⟩, ⟨by decide, by decide, by decide +kernel⟩, tbm 1 (by decide +kernel) rfl, tbm 678 (by decide +kernel) rfl⟩, tbm 676 (by decide +kernel) rfl, tbm 677 (by decide +kernel) rfl⟩
abbrev mt_X8_feed : MT := (RX8, yX8_feed, cX8_feed, 5, (some .int))
set_option maxRecDepth 100000 in
theorem ok_X8_feed : okV mt_X8_feed 2 := ⟨⟨⟨rfl, by decide, by decide⟩, ⟨by decide, by decide, by decide +kernel⟩, tbm 10 (by decide +kernel) rfl, tbm 755 (by decide +kernel) rfl⟩, tbm 753 (by decide +kernel) rfl, tbm 754 (by decide +kernel) rfl⟩
abbrev mt_X8_in : MT := (RX8, yX8_in, cX8_in, 6, (some .boolean))
set_option maxRecDepth 100000 in
theorem ok_X8_in : okS mt_X8_in 3 := ⟨⟨⟨rfl, by decide, by decide⟩, ⟨by decide, by decide, by decide +kernel⟩, tbm 10 (by decide +kernel) rfl, tbm 759 (by decide +kernel) rfl⟩, tbm 758 (by decide +kernel) rfl⟩
abbrev mt_X8_finds : MT := (RX8, yX8_finds, cX8_finds, 2, (some .int))
set_option maxRecDepth 100000 in
theorem ok_X8_finds : okV mt_X8_finds 1 := ⟨⟨⟨rfl, by decide, by decide⟩, ⟨by decide, by decide, by decide +kernel⟩, tbm 10 (by decide +kernel) rfl, tbm 763 (by decide +kernel) rfl⟩, tbm 762 (by decide +kernel) rfl, tbs (yX8_finds, 22) 17 (by decide +kernel)⟩
abbrev mt_X8_text : MT := (RX8, yX8_text, cX8_text, 4, (some .int))
set_option maxRecDepth 100000 in
theorem ok_X8_text : okV mt_X8_text 1 := ⟨⟨⟨rfl, by decide, by decide⟩, ⟨by decide, by decide, by decide +kernel⟩, tbm 10 (by decide +kernel) rfl, tbm 769 (by decide +kernel) rfl⟩, tbm 767 (by decide +kernel) rfl, tbm 768 (by decide +kernel) rfl⟩
abbrev mt_X8_reads : MT := (RX8, yX8_reads, cX8_reads, 4, none)
set_option maxRecDepth 100000 in
theorem ok_X8_reads : okV mt_X8_reads 3 := ⟨⟨⟨rfl, by decide, by decide⟩, ⟨by decide, by decide, by decide +kernel⟩, tbm 10 (by decide +kernel) rfl, tbm 773 (by decide +kernel) rfl⟩, tbm 772 (by decide +kernel) rfl, tbs (yX8_reads, 22) 18 (by decide +kernel)⟩
abbrev mt_X8_either : MT := (RX8, yX8_either, cX8_either, 1, none)
set_option maxRecDepth 100000 in
theorem ok_X8_either : okV mt_X8_either 0 := ⟨⟨⟨rfl, by decide, by decide⟩, ⟨by decide, by decide, by decide +kernel⟩, tbm 10 (by decide +kernel) rfl, tbm 777 (by decide +kernel) rfl⟩, tbm 776 (by decide +kernel) rfl, tbs (yX8_either, 22) 19 (by decide +kernel)⟩
abbrev mt_X8_both : MT := (RX8, yX8_both, cX8_both, 1, none)
set_option maxRecDepth 100000 in
theorem ok_X8_both : okV mt_X8_both 0 := ⟨⟨⟨rfl, by decide, by decide⟩, ⟨by decide, by decide, by decide +kernel⟩, tbm 10 (by decide +kernel) rfl, tbm 781 (by decide +kernel) rfl⟩, tbm 780 (by decide +kernel) rfl, tbs (yX8_both, 22) 20 (by decide +kernel)⟩
abbrev mt_X8_compared : MT := (RX8, yX8_compared, cX8_compared, 2, none)
set_option maxRecDepth 100000 in
theorem ok_X8_compared : okV mt_X8_compared 0 := ⟨⟨⟨rfl, by decide, by decide⟩, ⟨by decide, by decide, by decide +kernel⟩, tbm 10 (by decide +kernel) rfl, tbm 785 (by decide +kernel) rfl⟩, tbm 784 (by decide +kernel) rfl, tbs (yX8_compared, 22) 21 (by decide +kernel)⟩
abbrev mt_X8_sum : MT := (RX8, yX8_sum, cX8_sum, 2, none)
set_option maxRecDepth 100000 in
theorem ok_X8_sum : okV mt_X8_sum 0 := ⟨⟨⟨rfl, by decide, by decide⟩, ⟨by decide, by decide, by decide +kernel⟩, tbm 10 (by decide +kernel) rfl, tbm 789 (by decide +kernel) rfl⟩, tbm 788 (by decide +kernel) rfl, tbs (yX8_sum, 22) 22 (by decide +kernel)⟩
abbrev mt_X8_product : MT := (RX8, yX8_product, cX8_product, 2, none)
set_option maxRecDepth 100000 in
theorem ok_X8_product : okV mt_X8_product 0 := ⟨⟨⟨rfl, by decide, by decide⟩, ⟨by decide, by decide, by decide +kernel⟩, tbm 10 (by decide +kernel) rfl, tbm 793 (by decide +kernel) rfl⟩, tbm 792 (by decide +kernel) rfl, tbs (yX8_product, 22) 23 (by decide +kernel)⟩
abbrev mt_X8_unit : MT := (RX8, yX8_unit, cX8_unit, 5, none)
set_option maxRecDepth 100000 in
theorem ok_X8_unit : okV mt_X8_unit 0 := ⟨⟨⟨rfl, by decide, by decide⟩, ⟨by decide, by decide, by decide +kernel⟩, tbm 10 (by decide +kernel) rfl, tbm 797 (by decide +kernel) rfl⟩, tbm 796 (by decide +kernel) rfl, tbs (yX8_unit, 22) 24 (by decide +kernel)⟩
abbrev mt_X8_here : MT := (RX8, yX8_here, cX8_here, 1, (some .int))
set_option maxRecDepth 100000 in
theorem ok_X8_here : okV mt_X8_here 0 := ⟨⟨⟨rfl, by decide, by decide⟩, ⟨by decide, by decide, by decide +kernel⟩, tbm 10 (by decide +kernel) rfl, tbm 801 (by decide +kernel) rfl⟩, tbm 800 (by decide +kernel) rfl, tbs (yX8_here, 22) 25 (by decide +kernel)⟩
abbrev mt_X8_opens : MT := (RX8, yX8_opens, cX8_opens, 2, none)
set_option maxRecDepth 100000 in
theorem ok_X8_opens : okV mt_X8_opens 1 := ⟨⟨⟨rfl, by decide, by decide⟩, ⟨by decide, by decide, by decide +kernel⟩, tbm 10 (by decide +kernel) rfl, tbm 805 (by decide +kernel) rfl⟩, tbm 804 (by decide +kernel) rfl, tbs (yX8_opens, 22) 26 (by decide +kernel)⟩
abbrev mt_X8_wrong : MT := (RX8, yX8_wrong, cX8_wrong, 1, none)
set_option maxRecDepth 100000 in
theorem ok_X8_wrong : okV mt_X8_wrong 0 := ⟨⟨⟨rfl, by decide, by decide⟩, ⟨by decide, by decide, by decide +kernel⟩, tbm 10 (by decide +kernel) rfl, tbm 809 (by decide +kernel) rfl⟩, tbm 808 (by decide +kernel) rfl, tbs (yX8_wrong, 22) 27 (by decide +kernel)⟩
abbrev mt_X8_lay : MT := (RX8, yX8_lay, cX8_lay, 2, none)
set_option maxRecDepth 100000 in
theorem ok_X8_lay : okV mt_X8_lay 1 := ⟨⟨⟨rfl, by decide, by decide⟩, ⟨by decide, by decide, by decide +kernel⟩, tbm 10 (by decide +kernel) rfl, tbm 813 (by decide +kernel) rfl⟩, tbm 812 (by decide +kernel) rfl, tbs (yX8_lay, 22) 28 (by decide +kernel)⟩
abbrev mt_X8_takes : MT := (RX8, yX8_takes, cX8_takes, 2, (some .boolean))
set_option maxRecDepth 100000 in
theorem ok_X8_takes : okV mt_X8_takes 1 := ⟨⟨⟨rfl, by decide, by decide⟩, ⟨by decide, by decide, by decide +kernel⟩, tbm 10 (by decide +kernel) rfl, tbm 817 (by decide +kernel) rfl⟩, tbm 816 (by decide +kernel) rfl, tbs (yX8_takes, 22) 29 (by decide +kernel)⟩
abbrev mt_X8_nameOf : MT := (RX8, yX8_nameOf, cX8_nameOf, 2, (some .int))
set_option maxRecDepth 100000 in
theorem ok_X8_nameOf : okV mt_X8_nameOf 1 := ⟨⟨⟨rfl, by decide, by decide⟩, ⟨by decide, by decide, by decide +kernel⟩, tbm 10 (by decide +kernel) rfl, tbm 821 (by decide +kernel) rfl⟩, tbm 820 (by decide +kernel) rfl, tbs (yX8_nameOf, 22) 30 (by decide +kernel)⟩
abbrev mt_X8_law : MT := (RX8, yX8_law, cX8_law, 5, (some .int))
set_option maxRecDepth 100000 in
theorem ok_X8_law : okV mt_X8_law 4 := ⟨⟨⟨rfl, by decide, by decide⟩, ⟨by decide, by decide, by decide +kernel⟩, tbm 10 (by decide +kernel) rfl, tbm 827 (by decide +kernel) rfl⟩, tbm 825 (by decide +kernel) rfl, tbm 826 (by decide +kernel) rfl⟩
abbrev mt_X8_textGives : MT := (RX8, yX8_textGives, cX8_textGives, 6, (some .int))
set_option maxRecDepth 100000 in
theorem ok_X8_textGives : okV mt_X8_textGives 4 := ⟨⟨⟨rfl, by decide, by decide⟩, ⟨by decide, by decide, by decide +kernel⟩, tbm 10 (by decide +kernel) rfl, tbm 831 (by decide +kernel) rfl⟩, tbm 830 (by decide +kernel) rfl, tbs (yX8_textGives, 22) 31 (by decide +kernel)⟩
abbrev mt_X8_worked : MT := (RX8, yX8_worked, cX8_worked, 6, (some .int))
set_option maxRecDepth 100000 in
theorem ok_X8_worked : okV mt_X8_worked 2 := ⟨⟨⟨rfl, by decide, by decide⟩, ⟨by decide, by decide, by decide +kernel⟩, tbm 10 (by decide +kernel) rfl, tbm 835 (by decide +kernel) rfl⟩, tbm 834 (by decide +kernel) rfl, tbs (yX8_worked, 22) 32 (by decide +kernel)⟩
abbrev mt_X8_done : MT := (RX8, yX8_done, cX8_done, 3, (some .int))
set_option maxRecDepth 100000 in
theorem ok_X8_done : okS mt_X8_done 3 := ⟨⟨⟨rfl, by decide, by decide⟩, ⟨by decide, by decide, by decide +kernel⟩, tbm 10 (by decide +kernel) rfl, tbm 838 (by decide +kernel) rfl⟩, tbm 837 (by decide +kernel) rfl⟩
abbrev mt_X8_held : MT := (RX8, yX8_held, cX8_held, 3, (some .int))
set_option maxRecDepth 100000 in
theorem ok_X8_held : okS mt_X8_held 3 := ⟨⟨⟨rfl, by decide, by decide⟩, ⟨by decide, by decide, by decide +kernel⟩, tbm 10 (by decide +kernel) rfl, tbm 841 (by decide +kernel) rfl⟩, tbm 840 (by decide +kernel) rfl⟩
abbrev mt_X8_house : MT := (RX8, yX8_house, cX8_house, 5, (some .int))
set_option maxRecDepth 100000 in
theorem ok_X8_house : okV mt_X8_house 3 := ⟨⟨⟨rfl, by decide, by decide⟩, ⟨by decide, by decide, by decide +kernel⟩, tbm 10 (by decide +kernel) rfl, tbm 845 (by decide +kernel) rfl⟩, tbm 843 (by decide +kernel) rfl, tbm 844 (by decide +kernel) rfl⟩
abbrev mt_X8_isHouse : MT := (RX8, yX8_isHouse, cX8_isHouse, 1, (some .boolean))
set_option maxRecDepth 100000 in
theorem ok_X8_isHouse : okS mt_X8_isHouse 1 := ⟨⟨⟨rfl, by decide, by decide⟩, ⟨by decide, by decide, by decide +kernel⟩, tbm 10 (by decide +kernel) rfl, tbm 848 (by decide +kernel) rfl⟩, tbm 847 (by decide +kernel) rfl⟩
abbrev mt_X8_ofHouse : MT := (RX8, yX8_ofHouse, cX8_ofHouse, 3, (some .int))
set_option maxRecDepth 100000 in
theorem ok_X8_ofHouse : okV mt_X8_ofHouse 2 := ⟨⟨⟨rfl, by decide, by decide⟩, ⟨by decide, by decide, by decide +kernel⟩, tbm 10 (by decide +kernel) rfl, tbm 854 (by decide +kernel) rfl⟩, tbm 852 (by decide +kernel) rfl, tbm 853 (by decide +kernel) rfl⟩
abbrev mt_X8_setOf : MT := (RX8, yX8_setOf, cX8_setOf, 5, (some .int))
set_option maxRecDepth 100000 in
theorem ok_X8_setOf : okV mt_X8_setOf 1 := ⟨⟨⟨rfl, by decide, by decide⟩, ⟨by decide, by decide, by decide +kernel⟩, tbm 10 (by decide +kernel) rfl, tbm 859 (by decide +kernel) rfl⟩, tbm 858 (by decide +kernel) rfl, tbs (yX8_setOf, 22) 33 (by decide +kernel)⟩
abbrev mt_X8_of : MT := (RX8, yX8_of, cX8_of, 3, (some .int))
set_option maxRecDepth 100000 in
theorem ok_X8_of : okV mt_X8_of 2 := ⟨⟨⟨rfl, by decide, by decide⟩, ⟨by decide, by decide, by decide +kernel⟩, tbm 10 (by decide +kernel) rfl, tbm 863 (by decide +kernel) rfl⟩, tbm 862 (by decide +kernel) rfl, tbs (yX8_of, 22) 34 (by decide +kernel)⟩
abbrev mt_X8_isBroken : MT := (RX8, yX8_isBroken, cX8_isBroken, 2, (some .boolean))
set_option maxRecDepth 100000 in
theorem ok_X8_isBroken : okV mt_X8_isBroken 1 := ⟨⟨⟨rfl, by decide, by decide⟩, ⟨by decide, by decide, by decide +kernel⟩, tbm 10 (by decide +kernel) rfl, tbm 867 (by decide +kernel) rfl⟩, tbm 866 (by decide +kernel) rfl, tbs (yX8_isBroken, 22) 35 (by decide +kernel)⟩
abbrev mt_X8_pot : MT := (RX8, yX8_pot, cX8_pot, 6, (some .int))
set_option maxRecDepth 100000 in
theorem ok_X8_pot : okV mt_X8_pot 3 := ⟨⟨⟨rfl, by decide, by decide⟩, ⟨by decide, by decide, by decide +kernel⟩, tbm 10 (by decide +kernel) rfl, tbm 871 (by decide +kernel) rfl⟩, tbm 869 (by decide +kernel) rfl, tbm 870 (by decide +kernel) rfl⟩
abbrev mt_X8_sets : MT := (RX8, yX8_sets, cX8_sets, 4, none)
set_option maxRecDepth 100000 in
theorem ok_X8_sets : okV mt_X8_sets 3 := ⟨⟨⟨rfl, by decide, by decide⟩, ⟨by decide, by decide, by decide +kernel⟩, tbm 10 (by decide +kernel) rfl, tbm 876 (by decide +kernel) rfl⟩, tbm 875 (by decide +kernel) rfl, tbs (yX8_sets, 22) 36 (by decide +kernel)⟩
abbrev mt_X8_ofPot : MT := (RX8, yX8_ofPot, cX8_ofPot, 3, (some .int))
set_option maxRecDepth 100000 in
theorem ok_X8_ofPot : okV mt_X8_ofPot 2 := ⟨⟨⟨rfl, by decide, by decide⟩, ⟨by decide, by decide, by decide +kernel⟩, tbm 10 (by decide +kernel) rfl, tbm 880 (by decide +kernel) rfl⟩, tbm 878 (by decide +kernel) rfl, tbm 879 (by decide +kernel) rfl⟩
abbrev mt_X8_isPot : MT := (RX8, yX8_isPot, cX8_isPot, 2, (some .boolean))
set_option maxRecDepth 100000 in
theorem ok_X8_isPot : okV mt_X8_isPot 1 := ⟨⟨⟨rfl, by decide, by decide⟩, ⟨by decide, by decide, by decide +kernel⟩, tbm 10 (by decide +kernel) rfl, tbm 884 (by decide +kernel) rfl⟩, tbm 883 (by decide +kernel) rfl, tbs (yX8_isPot, 22) 37 (by decide +kernel)⟩
abbrev mt_X8_wants : MT := (RX8, yX8_wants, cX8_wants, 3, (some .int))
set_option maxRecDepth 100000 in
theorem ok_X8_wants : okV mt_X8_wants 1 := ⟨⟨⟨rfl, by decide, by decide⟩, ⟨by decide, by decide, by decide +kernel⟩, tbm 10 (by decide +kernel) rfl, tbm 888 (by decide +kernel) rfl⟩, tbm 887 (by decide +kernel) rfl, tbs (yX8_wants, 22) 38 (by decide +kernel)⟩
abbrev mt_X8_bears : MT := (RX8, yX8_bears, cX8_bears, 3, (some .int))
set_option maxRecDepth 100000 in
theorem ok_X8_bears : okV mt_X8_bears 1 := ⟨⟨⟨rfl, by decide, by decide⟩, ⟨by decide, by decide, by decide +kernel⟩, tbm 10 (by decide +kernel) rfl, tbm 892 (by decide +kernel) rfl⟩, tbm 891 (by decide +kernel) rfl, tbs (yX8_bears, 22) 39 (by decide +kernel)⟩
abbrev mt_X8_change : MT := (RX8, yX8_change, cX8_change, 5, (some .int))
set_option maxRecDepth 100000 in
theorem ok_X8_change : okV mt_X8_change 3 := ⟨⟨⟨rfl, by decide, by decide⟩, ⟨by decide, by decide, by decide +kernel⟩, tbm 10 (by decide +kernel) rfl, tbm 896 (by decide +kernel) rfl⟩, tbm 894 (by decide +kernel) rfl, tbm 895 (by decide +kernel) rfl⟩
abbrev mt_X8_shift : MT := (RX8, yX8_shift, cX8_shift, 4, (some .int))
set_option maxRecDepth 100000 in
theorem ok_X8_shift : okV mt_X8_shift 2 := ⟨⟨⟨rfl, by decide, by decide⟩, ⟨by decide, by decide, by decide +kernel⟩, tbm 10 (by decide +kernel) rfl, tbm 901 (by decide +kernel) rfl⟩, tbm 899 (by decide +kernel) rfl, tbm 900 (by decide +kernel) rfl⟩
abbrev mt_X8_moves : MT := (RX8, yX8_moves, cX8_moves, 3, none)
set_option maxRecDepth 100000 in
theorem ok_X8_moves : okV mt_X8_moves 2 := ⟨⟨⟨rfl, by decide, by decide⟩, ⟨by decide, by decide, by decide +kernel⟩, tbm 10 (by decide +kernel) rfl, tbm 905 (by decide +kernel) rfl⟩, tbm 904 (by decide +kernel) rfl, tbs (yX8_moves, 22) 40 (by decide +kernel)⟩
abbrev mt_X8_stick : MT := (RX8, yX8_stick, cX8_stick, 2, (some .int))
set_option maxRecDepth 100000 in
theorem ok_X8_stick : okV mt_X8_stick 1 := ⟨⟨⟨rfl, by decide, by decide⟩, ⟨by decide, by decide, by decide +kernel⟩, tbm 10 (by decide +kernel) rfl, tbm 909 (by decide +kernel) rfl⟩, tbm 907 (by decide +kernel) rfl, tbm 908 (by decide +kernel) rfl⟩
abbrev mt_X8_become : MT := (RX8, yX8_become, cX8_become, 4, (some .int))
set_option maxRecDepth 100000 in
theorem ok_X8_become : okV mt_X8_become 2 := ⟨⟨⟨rfl, by decide, by decide⟩, ⟨by decide, by decide, by decide +kernel⟩, tbm 10 (by decide +kernel) rfl, tbm 913 (by decide +kernel) rfl⟩, tbm 911 (by decide +kernel) rfl, tbm 912 (by decide +kernel) rfl⟩
abbrev mt_X8_as : MT := (RX8, yX8_as, cX8_as, 4, (some .int))
set_option maxRecDepth 100000 in
theorem ok_X8_as : okV mt_X8_as 2 := ⟨⟨⟨rfl, by decide, by decide⟩, ⟨by decide, by decide, by decide +kernel⟩, tbm 10 (by decide +kernel) rfl, tbm 917 (by decide +kernel) rfl⟩, tbm 915 (by decide +kernel) rfl, tbm 916 (by decide +kernel) rfl⟩
abbrev mt_X8_above : MT := (RX8, yX8_above, cX8_above, 1, (some .int))
set_option maxRecDepth 100000 in
theorem ok_X8_above : okS mt_X8_above 1 := ⟨⟨⟨rfl, by decide, by decide⟩, ⟨by decide, by decide, by decide +kernel⟩, tbm 10 (by decide +kernel) rfl, tbm 921 (by decide +kernel) rfl⟩, tbm 920 (by decide +kernel) rfl⟩
abbrev mt_X8_years : MT := (RX8, yX8_years, cX8_years, 2, (some .int))
set_option maxRecDepth 100000 in
theorem ok_X8_years : okV mt_X8_years 1 := ⟨⟨⟨rfl, by decide, by decide⟩, ⟨by decide, by decide, by decide +kernel⟩, tbm 10 (by decide +kernel) rfl, tbm 925 (by decide +kernel) rfl⟩, tbm 923 (by decide +kernel) rfl, tbm 924 (by decide +kernel) rfl⟩
abbrev mt_X8_yearsGo : MT := (RX8, yX8_yearsGo, cX8_yearsGo, 4, none)
set_option maxRecDepth 100000 in
theorem ok_X8_yearsGo : okV mt_X8_yearsGo 1 := ⟨⟨⟨rfl, by decide, by decide⟩, ⟨by decide, by decide, by decide +kernel⟩, tbm 10 (by decide +kernel) rfl, tbm 930 (by decide +kernel) rfl⟩, tbm 929 (by decide +kernel) rfl, tbs (yX8_yearsGo, 22) 41 (by decide +kernel)⟩
abbrev mt_X8_potGoes : MT := (RX8, yX8_potGoes, cX8_potGoes, 4, none)
set_option maxRecDepth 100000 in
theorem ok_X8_potGoes : okV mt_X8_potGoes 1 := ⟨⟨⟨rfl, by decide, by decide⟩, ⟨by decide, by decide, by decide +kernel⟩, tbm 10 (by decide +kernel) rfl, tbm 934 (by decide +kernel) rfl⟩, tbm 933 (by decide +kernel) rfl, tbs (yX8_potGoes, 22) 42 (by decide +kernel)⟩
abbrev mt_X8_warms : MT := (RX8, yX8_warms, cX8_warms, 4, (some .int))
set_option maxRecDepth 100000 in
theorem ok_X8_warms : okV mt_X8_warms 1 := ⟨⟨⟨rfl, by decide, by decide⟩, ⟨by decide, by decide, by decide +kernel⟩, tbm 10 (by decide +kernel) rfl, tbm 938 (by decide +kernel) rfl⟩, tbm 937 (by decide +kernel) rfl, tbs (yX8_warms, 22) 43 (by decide +kernel)⟩
abbrev mt_X8_manyIn : MT := (RX8, yX8_manyIn, cX8_manyIn, 4, (some .int))
set_option maxRecDepth 100000 in
theorem ok_X8_manyIn : okV mt_X8_manyIn 1 := ⟨⟨⟨rfl, by decide, by decide⟩, ⟨by decide, by decide, by decide +kernel⟩, tbm 10 (by decide +kernel) rfl, tbm 942 (by decide +kernel) rfl⟩, tbm 941 (by decide +kernel) rfl, tbs (yX8_manyIn, 22) 44 (by decide +kernel)⟩
abbrev mt_X8_handles : MT := (RX8, yX8_handles, cX8_handles, 3, (some .int))
set_option maxRecDepth 100000 in
theorem ok_X8_handles : okV mt_X8_handles 0 := ⟨⟨⟨rfl, by decide, by decide⟩, ⟨by decide, by decide, by decide +kernel⟩, tbm 10 (by decide +kernel) rfl, tbm 946 (by decide +kernel) rfl⟩, tbm 945 (by decide +kernel) rfl, tbs (yX8_handles, 22) 45 (by decide +kernel)⟩
abbrev mt_X8_loose : MT := (RX8, yX8_loose, cX8_loose, 4, (some .int))
set_option maxRecDepth 100000 in
theorem ok_X8_loose : okV mt_X8_loose 1 := ⟨⟨⟨rfl, by decide, by decide⟩, ⟨by decide, by decide, by decide +kernel⟩, tbm 10 (by decide +kernel) rfl, tbm 950 (by decide +kernel) rfl⟩, tbm 948 (by decide +kernel) rfl, tbm 949 (by decide +kernel) rfl⟩
abbrev mt_X8_drawn : MT := (RX8, yX8_drawn, cX8_drawn, 1, (some .int))
set_option maxRecDepth 100000 in
theorem ok_X8_drawn : okV mt_X8_drawn 0 := ⟨⟨⟨rfl, by decide, by decide⟩, ⟨by decide, by decide, by decide +kernel⟩, tbm 10 (by decide +kernel) rfl, tbm 955 (by decide +kernel) rfl⟩, tbm 954 (by decide +kernel) rfl, tbs (yX8_drawn, 22) 46 (by decide +kernel)⟩
abbrev mt_X8_then : MT := (RX8, yX8_then, cX8_then, 5, (some .int))
set_option maxRecDepth 100000 in
theorem ok_X8_then : okV mt_X8_then 3 := ⟨⟨⟨rfl, by decide, by decide⟩, ⟨by decide, by decide, by decide +kernel⟩, tbm 10 (by decide +kernel) rfl, tbm 960 (by decide +kernel) rfl⟩, tbm 958 (by decide +kernel) rfl, tbm 959 (by decide +kernel) rfl⟩
abbrev mt_X8_keepAside : MT := (RX8, yX8_keepAside, cX8_keepAside, 2, none)
set_option maxRecDepth 100000 in
theorem ok_X8_keepAside : okV mt_X8_keepAside 0 := ⟨⟨⟨rfl, by decide, by decide⟩, ⟨by decide, by decide, by decide +kernel⟩, tbm 10 (by decide +kernel) rfl, tbm 964 (by decide +kernel) rfl⟩, tbm 963 (by decide +kernel) rfl, tbs (yX8_keepAside, 22) 47 (by decide +kernel)⟩
abbrev mt_X8_putBack : MT := (RX8, yX8_putBack, cX8_putBack, 2, none)
set_option maxRecDepth 100000 in
theorem ok_X8_putBack : okV mt_X8_putBack 0 := ⟨⟨⟨rfl, by decide, by decide⟩, ⟨by decide, by decide, by decide +kernel⟩, tbm 10 (by decide +kernel) rfl, tbm 968 (by decide +kernel) rfl⟩, tbm 967 (by decide +kernel) rfl, tbs (yX8_putBack, 22) 48 (by decide +kernel)⟩
abbrev mt_X8_when : MT := (RX8, yX8_when, cX8_when, 5, (some .int))
set_option maxRecDepth 100000 in
theorem ok_X8_when : okV mt_X8_when 1 := ⟨⟨⟨rfl, by decide, by decide⟩, ⟨by decide, by decide, by decide +kernel⟩, tbm 10 (by decide +kernel) rfl, tbm 972 (by decide +kernel) rfl⟩, tbm 970 (by decide +kernel) rfl, tbm 971 (by decide +kernel) rfl⟩
abbrev mt_X8_shelf : MT := (RX8, yX8_shelf, cX8_shelf, 4, (some .int))
set_option maxRecDepth 100000 in
theorem ok_X8_shelf : okV mt_X8_shelf 2 := ⟨⟨⟨rfl, by decide, by decide⟩, ⟨by decide, by decide, by decide +kernel⟩, tbm 10 (by decide +kernel) rfl, tbm 976 (by decide +kernel) rfl⟩, tbm 974 (by decide +kernel) rfl, tbm 975 (by decide +kernel) rfl⟩
abbrev mt_X8_place : MT := (RX8, yX8_place, cX8_place, 10, (some .int))
set_option maxRecDepth 100000 in
theorem ok_X8_place : okV mt_X8_place 3 := ⟨⟨⟨rfl, by decide, by decide⟩, ⟨by decide, by decide, by decide +kernel⟩, tbm 10 (by decide +kernel) rfl, tbm 980 (by decide +kernel) rfl⟩, tbm 978 (by decide +kernel) rfl, tbm 979 (by decide +kernel) rfl⟩
abbrev mt_X8_use : MT := (RX8, yX8_use, cX8_use, 5, (some .int))
set_option maxRecDepth 100000 in
theorem ok_X8_use : okV mt_X8_use 2 := ⟨⟨⟨rfl, by decide, by decide⟩, ⟨by decide, by decide, by decide +kernel⟩, tbm 10 (by decide +kernel) rfl, tbm 984 (by decide +kernel) rfl⟩, tbm 982 (by decide +kernel) rfl, tbm 983 (by decide +kernel) rfl⟩
abbrev mt_X8_needed : MT := (RX8, yX8_needed, cX8_needed, 6, (some .int))
set_option maxRecDepth 100000 in
theorem ok_X8_needed : okV mt_X8_needed 2 := ⟨⟨⟨rfl, by decide, by decide⟩, ⟨by decide, by decide, by decide +kernel⟩, tbm 10 (by decide +kernel) rfl, tbm 988 (by decide +kernel) rfl⟩, tbm 986 (by decide +kernel) rfl, tbm 987 (by decide +kernel) rfl⟩
abbrev mt_X8_bits : MT := (RX8, yX8_bits, cX8_bits, 3, (some .int))
set_option maxRecDepth 100000 in
theorem ok_X8_bits : okS mt_X8_bits 1 := ⟨⟨⟨rfl, by decide, by decide⟩, ⟨by decide, by decide, by decide +kernel⟩, tbm 10 (by decide +kernel) rfl, tbm 992 (by decide +kernel) rfl⟩, tbm 991 (by decide +kernel) rfl⟩
abbrev mt_X8_whose : MT := (RX8, yX8_whose, cX8_whose, 8, (some .int))
set_option maxRecDepth 100000 in
theorem ok_X8_whose : okV mt_X8_whose 3 := ⟨⟨⟨rfl, by decide, by decide⟩, ⟨by decide, by decide, by decide +kernel⟩, tbm 10 (by decide +kernel) rfl, tbm 996 (by decide +kernel) rfl⟩, tbm 994 (by decide +kernel) rfl, tbm 995 (by decide +kernel) rfl⟩
abbrev mt_X8_isSheet : MT := (RX8, yX8_isSheet, cX8_isSheet, 1, (some .boolean))
set_option maxRecDepth 100000 in
theorem ok_X8_isSheet : okS mt_X8_isSheet 1 := ⟨⟨⟨rfl, by decide, by decide⟩, ⟨by decide, by decide, by decide +kernel⟩, tbm 10 (by decide +kernel) rfl, tbm 999 (by decide +kernel) rfl⟩, tbm 998 (by decide +kernel) rfl⟩
abbrev mt_X8_carry : MT := (RX8, yX8_carry, cX8_carry, 6, (some .int))
set_option maxRecDepth 100000 in
theorem ok_X8_carry : okV mt_X8_carry 1 := ⟨⟨⟨rfl, by decide, by decide⟩, ⟨by decide, by decide, by decide +kernel⟩, tbm 10 (by decide +kernel) rfl, tbm 1004 (by decide +kernel) rfl⟩, tbm 1002 (by decide +kernel) rfl, tbm 1003 (by decide +kernel) rfl⟩
abbrev mt_X8_richest : MT := (RX8, yX8_richest, cX8_richest, 8, (some .int))
set_option maxRecDepth 100000 in
theorem ok_X8_richest : okV mt_X8_richest 2 := ⟨⟨⟨rfl, by decide, by decide⟩, ⟨by decide, by decide, by decide +kernel⟩, tbm 10 (by decide +kernel) rfl, tbm 1008 (by decide +kernel) rfl⟩, tbm 1006 (by decide +kernel) rfl, tbm 1007 (by decide +kernel) rfl⟩
abbrev mt_X8_breaks : MT := (RX8, yX8_breaks, cX8_breaks, 4, (some .int))
set_option maxRecDepth 100000 in
theorem ok_X8_breaks : okV mt_X8_breaks 1 := ⟨⟨⟨rfl, by decide, by decide⟩, ⟨by decide, by decide, by decide +kernel⟩, tbm 10 (by decide +kernel) rfl, tbm 1012 (by decide +kernel) rfl⟩, tbm 1010 (by decide +kernel) rfl, tbm 1011 (by decide +kernel) rfl⟩
abbrev mt_X8_dealer : MT := (RX8, yX8_dealer, cX8_dealer, 6, (some .int))
set_option maxRecDepth 100000 in
theorem ok_X8_dealer : okV mt_X8_dealer 1 := ⟨⟨⟨rfl, by decide, by decide⟩, ⟨by decide, by decide, by decide +kernel⟩, tbm 10 (by decide +kernel) rfl, tbm 1016 (by decide +kernel) rfl⟩, tbm 1014 (by decide +kernel) rfl, tbm 1015 (by decide +kernel) rfl⟩
abbrev mt_X8_odds : MT := (RX8, yX8_odds, cX8_odds, 6, (some .int))
set_option maxRecDepth 100000 in
theorem ok_X8_odds : okV mt_X8_odds 3 := ⟨⟨⟨rfl, by decide, by decide⟩, ⟨by decide, by decide, by decide +kernel⟩, tbm 10 (by decide +kernel) rfl, tbm 1021 (by decide +kernel) rfl⟩, tbm 1019 (by decide +kernel) rfl, tbm 1020 (by decide +kernel) rfl⟩
abbrev mt_X8_common : MT := (RX8, yX8_common, cX8_common, 5, (some .int))
set_option maxRecDepth 100000 in
theorem ok_X8_common : okS mt_X8_common 2 := ⟨⟨⟨rfl, by decide, by decide⟩, ⟨by decide, by decide, by decide +kernel⟩, tbm 10 (by decide +kernel) rfl, tbm 1024 (by decide +kernel) rfl⟩, tbm 1023 (by decide +kernel) rfl⟩
abbrev mt_X8_seed : MT := (RX8, yX8_seed, cX8_seed, 3, (some .int))
set_option maxRecDepth 100000 in
theorem ok_X8_seed : okV mt_X8_seed 1 := ⟨⟨⟨rfl, by decide, by decide⟩, ⟨by decide, by decide, by decide +kernel⟩, tbm 10 (by decide +kernel) rfl, tbm 1028 (by decide +kernel) rfl⟩, tbm 1026 (by decide +kernel) rfl, tbm 1027 (by decide +kernel) rfl⟩
abbrev mt_X8_voice : MT := (RX8, yX8_voice, cX8_voice, 5, (some .int))
set_option maxRecDepth 100000 in
theorem ok_X8_voice : okV mt_X8_voice 3 := ⟨⟨⟨rfl, by decide, by decide⟩, ⟨by decide, by decide, by decide +kernel⟩, tbm 10 (by decide +kernel) rfl, tbm 1032 (by decide +kernel) rfl⟩, tbm 1030 (by decide +kernel) rfl, tbm 1031 (by decide +kernel) rfl⟩
abbrev mt_X8_holdsBy : MT := (RX8, yX8_holdsBy, cX8_holdsBy, 3, (some .int))
set_option maxRecDepth 100000 in
theorem ok_X8_holdsBy : okV mt_X8_holdsBy 2 := ⟨⟨⟨rfl, by decide, by decide⟩, ⟨by decide, by decide, by decide +kernel⟩, tbm 10 (by decide +kernel) rfl, tbm 1036 (by decide +kernel) rfl⟩, tbm 1035 (by decide +kernel) rfl, tbs (yX8_holdsBy, 22) 49 (by decide +kernel)⟩
abbrev mt_X8_ran : MT := (RX8, yX8_ran, cX8_ran, 2, none)
set_option maxRecDepth 100000 in
theorem ok_X8_ran : okV mt_X8_ran 1 := ⟨⟨⟨rfl, by decide, by decide⟩, ⟨by decide, by decide, by decide +kernel⟩, tbm 10 (by decide +kernel) rfl, tbm 1040 (by decide +kernel) rfl⟩, tbm 1039 (by decide +kernel) rfl, tbs (yX8_ran, 22) 50 (by decide +kernel)⟩
abbrev mt_X8_warmsBy : MT := (RX8, yX8_warmsBy, cX8_warmsBy, 4, (some .int))
set_option maxRecDepth 100000 in
theorem ok_X8_warmsBy : okV mt_X8_warmsBy 2 := ⟨⟨⟨rfl, by decide, by decide⟩, ⟨by decide, by decide, by decide +kernel⟩, tbm 10 (by decide +kernel) rfl, tbm 1044 (by decide +kernel) rfl⟩, tbm 1043 (by decide +kernel) rfl, tbs (yX8_warmsBy, 22) 51 (by decide +kernel)⟩
abbrev mt_X8_growsBy : MT := (RX8, yX8_growsBy, cX8_growsBy, 3, (some .int))
set_option maxRecDepth 100000 in
theorem ok_X8_growsBy : okV mt_X8_growsBy 2 := ⟨⟨⟨rfl, by decide, by decide⟩, ⟨by decide, by decide, by decide +kernel⟩, tbm 10 (by decide +kernel) rfl, tbm 1048 (by decide +kernel) rfl⟩, tbm 1047 (by decide +kernel) rfl, tbs (yX8_growsBy, 22) 52 (by decide +kernel)⟩
abbrev mt_X8_tellsBy : MT := (RX8, yX8_tellsBy, cX8_tellsBy, 4, (some .int))
set_option maxRecDepth 100000 in
theorem ok_X8_tellsBy : okV mt_X8_tellsBy 2 := ⟨⟨⟨rfl, by decide, by decide⟩, ⟨by decide, by decide, by decide +kernel⟩, tbm 10 (by decide +kernel) rfl, tbm 1052 (by decide +kernel) rfl⟩, tbm 1051 (by decide +kernel) rfl, tbs (yX8_tellsBy, 22) 53 (by decide +kernel)⟩
abbrev mt_X8_trace : MT := (RX8, yX8_trace, cX8_trace, 2, (some .int))
set_option maxRecDepth 100000 in
theorem ok_X8_trace : okV mt_X8_trace 1 := ⟨⟨⟨rfl, by decide, by decide⟩, ⟨by decide, by decide, by decide +kernel⟩, tbm 10 (by decide +kernel) rfl, tbm 1056 (by decide +kernel) rfl⟩, tbm 1054 (by decide +kernel) rfl, tbm 1055 (by decide +kernel) rfl⟩
abbrev mt_X8_sheet : MT := (RX8, yX8_sheet, cX8_sheet, 5, (some .int))
set_option maxRecDepth 100000 in
theorem ok_X8_sheet : okV mt_X8_sheet 3 := ⟨⟨⟨rfl, by decide, by decide⟩, ⟨by decide, by decide, by decide +kernel⟩, tbm 10 (by decide +kernel) rfl, tbm 1060 (by decide +kernel) rfl⟩, tbm 1058 (by decide +kernel) rfl, tbm 1059 (by decide +kernel) rfl⟩
abbrev mt_X8_put : MT := (RX8, yX8_put, cX8_put, 4, (some .int))
set_option maxRecDepth 100000 in
theorem ok_X8_put : okV mt_X8_put 3 := ⟨⟨⟨rfl, by decide, by decide⟩, ⟨by decide, by decide, by decide +kernel⟩, tbm 10 (by decide +kernel) rfl, tbm 1064 (by decide +kernel) rfl⟩, tbm 1062 (by decide +kernel) rfl, tbm 1063 (by decide +kernel) rfl⟩
abbrev mt_X8_move : MT := (RX8, yX8_move, cX8_move, 7, (some .int))
set_option maxRecDepth 100000 in
theorem ok_X8_move : okV mt_X8_move 5 := ⟨⟨⟨rfl, by decide, by decide⟩, ⟨by decide, by decide, by decide +kernel⟩, tbm 10 (by decide +kernel) rfl, tbm 1068 (by decide +kernel) rfl⟩, tbm 1066 (by decide +kernel) rfl, tbm 1067 (by decide +kernel) rfl⟩
abbrev mt_X8_uses : MT := (RX8, yX8_uses, cX8_uses, 3, (some .int))
set_option maxRecDepth 100000 in
theorem ok_X8_uses : okV mt_X8_uses 1 := ⟨⟨⟨rfl, by decide, by decide⟩, ⟨by decide, by decide, by decide +kernel⟩, tbm 10 (by decide +kernel) rfl, tbm 1072 (by decide +kernel) rfl⟩, tbm 1070 (by decide +kernel) rfl, tbm 1071 (by decide +kernel) rfl⟩
abbrev mt_X8_judge : MT := (RX8, yX8_judge, cX8_judge, 3, (some .int))
set_option maxRecDepth 100000 in
theorem ok_X8_judge : okV mt_X8_judge 1 := ⟨⟨⟨rfl, by decide, by decide⟩, ⟨by decide, by decide, by decide +kernel⟩, tbm 10 (by decide +kernel) rfl, tbm 1076 (by decide +kernel) rfl⟩, tbm 1074 (by decide +kernel) rfl, tbm 1075 (by decide +kernel) rfl⟩
abbrev mt_X8_image : MT := (RX8, yX8_image, cX8_image, 2, (some .int))
set_option maxRecDepth 100000 in
theorem ok_X8_image : okV mt_X8_image 0 := ⟨⟨⟨rfl, by decide, by decide⟩, ⟨by decide, by decide, by decide +kernel⟩, tbm 10 (by decide +kernel) rfl, tbm 1080 (by decide +kernel) rfl⟩, tbm 1078 (by decide +kernel) rfl, tbm 1079 (by decide +kernel) rfl⟩
abbrev mt_X8_restore : MT := (RX8, yX8_restore, cX8_restore, 2, (some .int))
set_option maxRecDepth 100000 in
theorem ok_X8_restore : okV mt_X8_restore 0 := ⟨⟨⟨rfl, by decide, by decide⟩, ⟨by decide, by decide, by decide +kernel⟩, tbm 10 (by decide +kernel) rfl, tbm 1084 (by decide +kernel) rfl⟩, tbm 1082 (by decide +kernel) rfl, tbm 1083 (by decide +kernel) rfl⟩
abbrev mt_X8_tell : MT := (RX8, yX8_tell, cX8_tell, 2, (some .int))
set_option maxRecDepth 100000 in
theorem ok_X8_tell : okV mt_X8_tell 1 := ⟨⟨⟨rfl, by decide, by decide⟩, ⟨by decide, by decide, by decide +kernel⟩, tbm 10 (by decide +kernel) rfl, tbm 1088 (by decide +kernel) rfl⟩, tbm 1086 (by decide +kernel) rfl, tbm 1087 (by decide +kernel) rfl⟩
abbrev mt_X8_check : MT := (RX8, yX8_check, cX8_check, 4, (some .int))
set_option maxRecDepth 100000 in
theorem ok_X8_check : okV mt_X8_check 0 := ⟨⟨⟨rfl, by decide, by decide⟩, ⟨by decide, by decide, by decide +kernel⟩, tbm 10 (by decide +kernel) rfl, tbm 1092 (by decide +kernel) rfl⟩, tbm 1090 (by decide +kernel) rfl, tbm 1091 (by decide +kernel) rfl⟩
abbrev mt_X8_count : MT := (RX8, yX8_count, cX8_count, 2, (some .int))
set_option maxRecDepth 100000 in
theorem ok_X8_count : okV mt_X8_count 1 := ⟨⟨⟨rfl, by decide, by decide⟩, ⟨by decide, by decide, by decide +kernel⟩, tbm 10 (by decide +kernel) rfl, tbm 1096 (by decide +kernel) rfl⟩, tbm 1094 (by decide +kernel) rfl, tbm 1095 (by decide +kernel) rfl⟩
abbrev mt_X8_told : MT := (RX8, yX8_told, cX8_told, 2, (some .int))
set_option maxRecDepth 100000 in
theorem ok_X8_told : okV mt_X8_told 1 := ⟨⟨⟨rfl, by decide, by decide⟩, ⟨by decide, by decide, by decide +kernel⟩, tbm 10 (by decide +kernel) rfl, tbm 1100 (by decide +kernel) rfl⟩, tbm 1098 (by decide +kernel) rfl, tbm 1099 (by decide +kernel) rfl⟩
set_option maxRecDepth 100000 in
theorem ml_X7_59 : Cond.methodLink RX7 59 yX7_isHouse ∈ TB := tbm 257 (by decide +kernel) rfl
set_option maxRecDepth 100000 in
theorem ml_X7_63 : Cond.methodLink RX7 63 yX7_isWithin ∈ TB := tbm 260 (by decide +kernel) rfl
set_option maxRecDepth 100000 in
theorem ml_X7_67 : Cond.methodLink RX7 67 yX7_fail ∈ TB := tbm 263 (by decide +kernel) rfl
set_option maxRecDepth 100000 in
theorem ml_X7_77 : Cond.methodLink RX7 77 yX1_potsIn ∈ TB := tbm 272 (by decide +kernel) rfl
set_option maxRecDepth 100000 in
theorem ml_X7_80 : Cond.methodLink RX7 80 yX7_isKindWithNumber ∈ TB := tbm 280 (by decide +kernel) rfl
set_option maxRecDepth 100000 in
theorem ml_X7_91 : Cond.methodLink RX7 91 yX3_begin ∈ TB := tbm 283 (by decide +kernel) rfl
set_option maxRecDepth 100000 in
theorem ml_X7_97 : Cond.methodLink RX7 97 yX1_has ∈ TB := tbm 291 (by decide +kernel) rfl
set_option maxRecDepth 100000 in
theorem ml_X7_125 : Cond.methodLink RX7 125 yX3_wants ∈ TB := tbm 295 (by decide +kernel) rfl
set_option maxRecDepth 100000 in
theorem ml_X7_129 : Cond.methodLink RX7 129 yX3_bears ∈ TB := tbm 299 (by decide +kernel) rfl
set_option maxRecDepth 100000 in
theorem ml_X7_132 : Cond.methodLink RX7 132 yX3_goTo ∈ TB := tbm 311 (by decide +kernel) rfl
set_option maxRecDepth 100000 in
theorem ml_X7_136 : Cond.methodLink RX7 136 yX3_canTakeFalseHandle ∈ TB := tbm 319 (by decide +kernel) rfl
set_option maxRecDepth 100000 in
theorem ml_X7_140 : Cond.methodLink RX7 140 yX3_takeFalseHandle ∈ TB := tbm 323 (by decide +kernel) rfl
set_option maxRecDepth 100000 in
theorem ml_X7_143 : Cond.methodLink RX7 143 yX7_isUnder ∈ TB := tbm 335 (by decide +kernel) rfl
set_option maxRecDepth 100000 in
theorem ml_X7_153 : Cond.methodLink RX7 153 yX4_readTape ∈ TB := tbm 349 (by decide +kernel) rfl
set_option maxRecDepth 100000 in
theorem ml_X7_159 : Cond.methodLink RX7 159 yX1_lawOf ∈ TB := tbm 387 (by decide +kernel) rfl
set_option maxRecDepth 100000 in
theorem ml_X7_167 : Cond.methodLink RX7 167 yX2_copy ∈ TB := tbm 391 (by decide +kernel) rfl
set_option maxRecDepth 100000 in
theorem ml_X7_173 : Cond.methodLink RX7 173 yX1_given ∈ TB := tbm 402 (by decide +kernel) rfl
set_option maxRecDepth 100000 in
theorem ml_X7_180 : Cond.methodLink RX7 180 yX1_passYears ∈ TB := tbm 431 (by decide +kernel) rfl
set_option maxRecDepth 100000 in
theorem ml_X7_183 : Cond.methodLink RX7 183 yX1_allHandles ∈ TB := tbm 460 (by decide +kernel) rfl
set_option maxRecDepth 100000 in
theorem ml_X7_186 : Cond.methodLink RX7 186 yX0_draw ∈ TB := tbm 468 (by decide +kernel) rfl
set_option maxRecDepth 100000 in
theorem ml_X7_189 : Cond.methodLink RX7 189 yX7_behind ∈ TB := tbm 477 (by decide +kernel) rfl
set_option maxRecDepth 100000 in
theorem ml_X7_193 : Cond.methodLink RX7 193 yX1_potsWithHandle ∈ TB := tbm 499 (by decide +kernel) rfl
set_option maxRecDepth 100000 in
theorem ml_X7_196 : Cond.methodLink RX7 196 yX7_whenMoved ∈ TB := tbm 507 (by decide +kernel) rfl
set_option maxRecDepth 100000 in
theorem ml_X7_200 : Cond.methodLink RX7 200 yX1_allPots ∈ TB := tbm 519 (by decide +kernel) rfl
set_option maxRecDepth 100000 in
theorem ml_X7_203 : Cond.methodLink RX7 203 yJ6_bitCount_0f7a4 ∈ TB := tbm 523 (by decide +kernel) rfl
set_option maxRecDepth 100000 in
theorem ml_X7_208 : Cond.methodLink RX7 208 yX7_haveHandlesIfCaredFor ∈ TB := tbm 524 (by decide +kernel) rfl
set_option maxRecDepth 100000 in
theorem ml_X7_212 : Cond.methodLink RX7 212 yX7_isSheet ∈ TB := tbm 532 (by decide +kernel) rfl
set_option maxRecDepth 100000 in
theorem ml_X7_215 : Cond.methodLink RX7 215 yX5_isMissing ∈ TB := tbm 535 (by decide +kernel) rfl
set_option maxRecDepth 100000 in
theorem ml_X7_218 : Cond.methodLink RX7 218 yX7_isLikedAsTold ∈ TB := tbm 539 (by decide +kernel) rfl
set_option maxRecDepth 100000 in
theorem ml_X7_222 : Cond.methodLink RX7 222 Lib.Math.min.name ∈ TB := tbm 547 (by decide +kernel) rfl
set_option maxRecDepth 100000 in
theorem ml_X7_228 : Cond.methodLink RX7 228 yX1_handlesIn ∈ TB := tbm 552 (by decide +kernel) rfl
set_option maxRecDepth 100000 in
theorem ml_X7_231 : Cond.methodLink RX7 231 yX7_handlesIfStuck ∈ TB := tbm 564 (by decide +kernel) rfl
set_option maxRecDepth 100000 in
theorem ml_X7_234 : Cond.methodLink RX7 234 yX7_whenBeing ∈ TB := tbm 572 (by decide +kernel) rfl
set_option maxRecDepth 100000 in
theorem ml_X7_240 : Cond.methodLink RX7 240 yX6_speak ∈ TB := tbm 584 (by decide +kernel) rfl
set_option maxRecDepth 100000 in
theorem ml_X7_250 : Cond.methodLink RX7 250 yX5_lay ∈ TB := tbm 616 (by decide +kernel) rfl
set_option maxRecDepth 100000 in
theorem ml_X7_259 : Cond.methodLink RX7 259 yX5_lowestBits ∈ TB := tbm 625 (by decide +kernel) rfl
set_option maxRecDepth 100000 in
theorem ml_X7_265 : Cond.methodLink RX7 265 yX5_holds ∈ TB := tbm 633 (by decide +kernel) rfl
set_option maxRecDepth 100000 in
theorem ml_X7_268 : Cond.methodLink RX7 268 arraycopyName ∈ TB := tbm 637 (by decide +kernel) rfl
set_option maxRecDepth 100000 in
theorem ml_X7_274 : Cond.methodLink RX7 274 yX1_copy ∈ TB := tbm 481 (by decide +kernel) rfl
set_option maxRecDepth 100000 in
theorem ml_X7_277 : Cond.methodLink RX7 277 yX0_copy ∈ TB := tbm 650 (by decide +kernel) rfl
set_option maxRecDepth 100000 in
theorem ml_X7_291 : Cond.methodLink RX7 291 yX1_falsePots ∈ TB := tbm 671 (by decide +kernel) rfl
set_option maxRecDepth 100000 in
theorem ml_X7_295 : Cond.methodLink RX7 295 yX7_kindAbove ∈ TB := tbm 338 (by decide +kernel) rfl
set_option maxRecDepth 100000 in
theorem ml_X0_23 : Cond.methodLink RX0 23 arraycopyName ∈ TB := tbm 654 (by decide +kernel) rfl
set_option maxRecDepth 100000 in
theorem ml_X1_41 : Cond.methodLink RX1 41 arraycopyName ∈ TB := tbm 485 (by decide +kernel) rfl
set_option maxRecDepth 100000 in
theorem ml_X1_51 : Cond.methodLink RX1 51 yX3_copy ∈ TB := tbm 486 (by decide +kernel) rfl
set_option maxRecDepth 100000 in
theorem ml_X1_55 : Cond.methodLink RX1 55 yX2_copy ∈ TB := tbm 490 (by decide +kernel) rfl
set_option maxRecDepth 100000 in
theorem ml_X1_64 : Cond.methodLink RX1 64 yX1_lawOf ∈ TB := tbm 406 (by decide +kernel) rfl
set_option maxRecDepth 100000 in
theorem ml_X1_68 : Cond.methodLink RX1 68 yX2_stands ∈ TB := tbm 407 (by decide +kernel) rfl
set_option maxRecDepth 100000 in
theorem ml_X1_72 : Cond.methodLink RX1 72 yX2_workedOut ∈ TB := tbm 411 (by decide +kernel) rfl
set_option maxRecDepth 100000 in
theorem ml_X1_76 : Cond.methodLink RX1 76 Lib.Math.min.name ∈ TB := tbm 421 (by decide +kernel) rfl
set_option maxRecDepth 100000 in
theorem ml_X1_82 : Cond.methodLink RX1 82 Lib.Math.max.name ∈ TB := tbm 424 (by decide +kernel) rfl
set_option maxRecDepth 100000 in
theorem ml_X1_92 : Cond.methodLink RX1 92 yX1_passYearOf ∈ TB := tbm 436 (by decide +kernel) rfl
set_option maxRecDepth 100000 in
theorem ml_X1_99 : Cond.methodLink RX1 99 yX1_given ∈ TB := tbm 440 (by decide +kernel) rfl
set_option maxRecDepth 100000 in
theorem ml_X1_103 : Cond.methodLink RX1 103 yX3_liveYear ∈ TB := tbm 441 (by decide +kernel) rfl
set_option maxRecDepth 100000 in
theorem ml_X1_107 : Cond.methodLink RX1 107 yX1_potsIn ∈ TB := tbm 453 (by decide +kernel) rfl
set_option maxRecDepth 100000 in
theorem ml_X1_111 : Cond.methodLink RX1 111 yJ6_bitCount_0f7a4 ∈ TB := tbm 454 (by decide +kernel) rfl
set_option maxRecDepth 100000 in
theorem ml_X2_22 : Cond.methodLink RX2 22 arraycopyName ∈ TB := tbm 395 (by decide +kernel) rfl
set_option maxRecDepth 100000 in
theorem ml_X2_28 : Cond.methodLink RX2 28 yX2_joined ∈ TB := tbm 415 (by decide +kernel) rfl
set_option maxRecDepth 100000 in
theorem ml_X2_32 : Cond.methodLink RX2 32 yX2_namedOrNumber ∈ TB := tbm 418 (by decide +kernel) rfl
set_option maxRecDepth 100000 in
theorem ml_X3_37 : Cond.methodLink RX3 37 Lib.Math.max.name ∈ TB := tbm 449 (by decide +kernel) rfl
set_option maxRecDepth 100000 in
theorem ml_X3_43 : Cond.methodLink RX3 43 yX3_warmedBy ∈ TB := tbm 445 (by decide +kernel) rfl
set_option maxRecDepth 100000 in
theorem ml_X3_47 : Cond.methodLink RX3 47 Lib.Math.min.name ∈ TB := tbm 450 (by decide +kernel) rfl
set_option maxRecDepth 100000 in
theorem ml_X3_50 : Cond.methodLink RX3 50 yX3_wants ∈ TB := tbm 451 (by decide +kernel) rfl
set_option maxRecDepth 100000 in
theorem ml_X3_54 : Cond.methodLink RX3 54 yX3_bears ∈ TB := tbm 452 (by decide +kernel) rfl
set_option maxRecDepth 100000 in
theorem ml_X4_29 : Cond.methodLink RX4 29 yX2_clear ∈ TB := tbm 353 (by decide +kernel) rfl
set_option maxRecDepth 100000 in
theorem ml_X4_32 : Cond.methodLink RX4 32 yX4_readLevel ∈ TB := tbm 357 (by decide +kernel) rfl
set_option maxRecDepth 100000 in
theorem ml_X4_45 : Cond.methodLink RX4 45 yX4_readLast ∈ TB := tbm 361 (by decide +kernel) rfl
set_option maxRecDepth 100000 in
theorem ml_X4_49 : Cond.methodLink RX4 49 yX4_next ∈ TB := tbm 365 (by decide +kernel) rfl
set_option maxRecDepth 100000 in
theorem ml_X4_53 : Cond.methodLink RX4 53 yX4_levelOf ∈ TB := tbm 384 (by decide +kernel) rfl
set_option maxRecDepth 100000 in
theorem ml_X4_57 : Cond.methodLink RX4 57 yX2_add ∈ TB := tbm 376 (by decide +kernel) rfl
set_option maxRecDepth 100000 in
theorem ml_X4_61 : Cond.methodLink RX4 61 yX4_isDigit ∈ TB := tbm 369 (by decide +kernel) rfl
set_option maxRecDepth 100000 in
theorem ml_X4_64 : Cond.methodLink RX4 64 yX4_readNumber ∈ TB := tbm 372 (by decide +kernel) rfl
set_option maxRecDepth 100000 in
theorem ml_X4_67 : Cond.methodLink RX4 67 yX4_nameOf ∈ TB := tbm 380 (by decide +kernel) rfl
set_option maxRecDepth 100000 in
theorem ml_X5_22 : Cond.methodLink RX5 22 yJ7_fill_53178 ∈ TB := tbm 620 (by decide +kernel) rfl
set_option maxRecDepth 100000 in
theorem ml_X6_32 : Cond.methodLink RX6 32 yX6_say ∈ TB := tbm 588 (by decide +kernel) rfl
set_option maxRecDepth 100000 in
theorem ml_X6_36 : Cond.methodLink RX6 36 yX6_bodyOf ∈ TB := tbm 592 (by decide +kernel) rfl
set_option maxRecDepth 100000 in
theorem ml_X6_40 : Cond.methodLink RX6 40 yX6_begin ∈ TB := tbm 595 (by decide +kernel) rfl
set_option maxRecDepth 100000 in
theorem ml_X6_44 : Cond.methodLink RX6 44 yX6_sayBody ∈ TB := tbm 599 (by decide +kernel) rfl
set_option maxRecDepth 100000 in
theorem ml_X6_52 : Cond.methodLink RX6 52 yX6_sayAbove ∈ TB := tbm 603 (by decide +kernel) rfl
set_option maxRecDepth 100000 in
theorem ml_X8_47 : Cond.methodLink RX8 47 yX8_in ∈ TB := tbm 757 (by decide +kernel) rfl
set_option maxRecDepth 100000 in
theorem ml_X8_53 : Cond.methodLink RX8 53 yX8_of ∈ TB := tbm 860 (by decide +kernel) rfl
set_option maxRecDepth 100000 in
theorem ml_X8_70 : Cond.methodLink RX8 70 yX8_here ∈ TB := tbm 798 (by decide +kernel) rfl
set_option maxRecDepth 100000 in
theorem ml_X8_81 : Cond.methodLink RX8 81 yX8_both ∈ TB := tbm 778 (by decide +kernel) rfl
set_option maxRecDepth 100000 in
theorem ml_X8_84 : Cond.methodLink RX8 84 yX8_takes ∈ TB := tbm 814 (by decide +kernel) rfl
set_option maxRecDepth 100000 in
theorem ml_X8_88 : Cond.methodLink RX8 88 yX8_lay ∈ TB := tbm 810 (by decide +kernel) rfl
set_option maxRecDepth 100000 in
theorem ml_X8_92 : Cond.methodLink RX8 92 yX8_compared ∈ TB := tbm 782 (by decide +kernel) rfl
set_option maxRecDepth 100000 in
theorem ml_X8_95 : Cond.methodLink RX8 95 yX8_sum ∈ TB := tbm 786 (by decide +kernel) rfl
set_option maxRecDepth 100000 in
theorem ml_X8_98 : Cond.methodLink RX8 98 yX8_product ∈ TB := tbm 790 (by decide +kernel) rfl
set_option maxRecDepth 100000 in
theorem ml_X8_101 : Cond.methodLink RX8 101 yX8_unit ∈ TB := tbm 794 (by decide +kernel) rfl
set_option maxRecDepth 100000 in
theorem ml_X8_107 : Cond.methodLink RX8 107 yX8_wrong ∈ TB := tbm 806 (by decide +kernel) rfl
set_option maxRecDepth 100000 in
theorem ml_X8_110 : Cond.methodLink RX8 110 yX8_either ∈ TB := tbm 774 (by decide +kernel) rfl
set_option maxRecDepth 100000 in
theorem ml_X8_113 : Cond.methodLink RX8 113 yX8_opens ∈ TB := tbm 802 (by decide +kernel) rfl
set_option maxRecDepth 100000 in
theorem ml_X8_116 : Cond.methodLink RX8 116 yX8_nameOf ∈ TB := tbm 818 (by decide +kernel) rfl
set_option maxRecDepth 100000 in
theorem ml_X8_124 : Cond.methodLink RX8 124 yX8_done ∈ TB := tbm 836 (by decide +kernel) rfl
set_option maxRecDepth 100000 in
theorem ml_X8_130 : Cond.methodLink RX8 130 yX8_finds ∈ TB := tbm 760 (by decide +kernel) rfl
set_option maxRecDepth 100000 in
theorem ml_X8_135 : Cond.methodLink RX8 135 yX8_reads ∈ TB := tbm 770 (by decide +kernel) rfl
set_option maxRecDepth 100000 in
theorem ml_X8_139 : Cond.methodLink RX8 139 yX8_worked ∈ TB := tbm 832 (by decide +kernel) rfl
set_option maxRecDepth 100000 in
theorem ml_X8_142 : Cond.methodLink RX8 142 yX8_held ∈ TB := tbm 839 (by decide +kernel) rfl
set_option maxRecDepth 100000 in
theorem ml_X8_145 : Cond.methodLink RX8 145 yX8_textGives ∈ TB := tbm 828 (by decide +kernel) rfl
set_option maxRecDepth 100000 in
theorem ml_X8_149 : Cond.methodLink RX8 149 yX8_sets ∈ TB := tbm 873 (by decide +kernel) rfl
set_option maxRecDepth 100000 in
theorem ml_X8_152 : Cond.methodLink RX8 152 yX8_warms ∈ TB := tbm 935 (by decide +kernel) rfl
set_option maxRecDepth 100000 in
theorem ml_X8_155 : Cond.methodLink RX8 155 yX8_wants ∈ TB := tbm 885 (by decide +kernel) rfl
set_option maxRecDepth 100000 in
theorem ml_X8_158 : Cond.methodLink RX8 158 yX8_bears ∈ TB := tbm 889 (by decide +kernel) rfl
set_option maxRecDepth 100000 in
theorem ml_X8_161 : Cond.methodLink RX8 161 yX8_manyIn ∈ TB := tbm 939 (by decide +kernel) rfl
set_option maxRecDepth 100000 in
theorem ml_X8_164 : Cond.methodLink RX8 164 yX8_isBroken ∈ TB := tbm 864 (by decide +kernel) rfl
set_option maxRecDepth 100000 in
theorem ml_X8_167 : Cond.methodLink RX8 167 yX8_potGoes ∈ TB := tbm 931 (by decide +kernel) rfl
set_option maxRecDepth 100000 in
theorem ml_X8_170 : Cond.methodLink RX8 170 yX8_isHouse ∈ TB := tbm 846 (by decide +kernel) rfl
set_option maxRecDepth 100000 in
theorem ml_X8_177 : Cond.methodLink RX8 177 yX8_setOf ∈ TB := tbm 856 (by decide +kernel) rfl
set_option maxRecDepth 100000 in
theorem ml_X8_182 : Cond.methodLink RX8 182 yX8_isPot ∈ TB := tbm 881 (by decide +kernel) rfl
set_option maxRecDepth 100000 in
theorem ml_X8_187 : Cond.methodLink RX8 187 yX8_moves ∈ TB := tbm 902 (by decide +kernel) rfl
set_option maxRecDepth 100000 in
theorem ml_X8_193 : Cond.methodLink RX8 193 yX8_above ∈ TB := tbm 919 (by decide +kernel) rfl
set_option maxRecDepth 100000 in
theorem ml_X8_198 : Cond.methodLink RX8 198 yX8_yearsGo ∈ TB := tbm 927 (by decide +kernel) rfl
set_option maxRecDepth 100000 in
theorem ml_X8_201 : Cond.methodLink RX8 201 yX8_handles ∈ TB := tbm 943 (by decide +kernel) rfl
set_option maxRecDepth 100000 in
theorem ml_X8_207 : Cond.methodLink RX8 207 yX8_drawn ∈ TB := tbm 952 (by decide +kernel) rfl
set_option maxRecDepth 100000 in
theorem ml_X8_210 : Cond.methodLink RX8 210 yX8_keepAside ∈ TB := tbm 961 (by decide +kernel) rfl
set_option maxRecDepth 100000 in
theorem ml_X8_213 : Cond.methodLink RX8 213 yX8_putBack ∈ TB := tbm 965 (by decide +kernel) rfl
set_option maxRecDepth 100000 in
theorem ml_X8_218 : Cond.methodLink RX8 218 yX8_bits ∈ TB := tbm 990 (by decide +kernel) rfl
set_option maxRecDepth 100000 in
theorem ml_X8_221 : Cond.methodLink RX8 221 yX8_isSheet ∈ TB := tbm 997 (by decide +kernel) rfl
set_option maxRecDepth 100000 in
theorem ml_X8_226 : Cond.methodLink RX8 226 yX8_common ∈ TB := tbm 1022 (by decide +kernel) rfl
set_option maxRecDepth 100000 in
theorem ml_X8_232 : Cond.methodLink RX8 232 yX8_ran ∈ TB := tbm 1037 (by decide +kernel) rfl
set_option maxRecDepth 100000 in
theorem ml_X8_238 : Cond.methodLink RX8 238 yX8_holdsBy ∈ TB := tbm 1033 (by decide +kernel) rfl
set_option maxRecDepth 100000 in
theorem ml_X8_241 : Cond.methodLink RX8 241 yX8_warmsBy ∈ TB := tbm 1041 (by decide +kernel) rfl
set_option maxRecDepth 100000 in
theorem ml_X8_244 : Cond.methodLink RX8 244 yX8_growsBy ∈ TB := tbm 1045 (by decide +kernel) rfl
set_option maxRecDepth 100000 in
theorem ml_X8_247 : Cond.methodLink RX8 247 yX8_tellsBy ∈ TB := tbm 1049 (by decide +kernel) rfl
set_option maxRecDepth 100000 in
theorem st_max : Cond.static Lib.Math.max.name ∈ TB := tbm 425 (by decide +kernel) rfl
set_option maxRecDepth 100000 in
theorem cd_max : Cond.code Lib.Math.max.name Lib.Math.max.code 2 (some .int) ∈ TB := tbm 426 (by decide +kernel) rfl
set_option maxRecDepth 100000 in
theorem st_min : Cond.static Lib.Math.min.name ∈ TB := tbm 422 (by decide +kernel) rfl
set_option maxRecDepth 100000 in
theorem cd_min : Cond.code Lib.Math.min.name Lib.Math.min.code 2 (some .int) ∈ TB := tbm 423 (by decide +kernel) rfl
set_option maxRecDepth 100000 in
theorem in_Math : Cond.initialized "java/lang/Math" ∈ TB := tbm 12 (by decide +kernel) rfl
set_option maxRecDepth 100000 in
theorem in_System : Cond.initialized "java/lang/System" ∈ TB := tbm 11 (by decide +kernel) rfl
set_option maxRecDepth 100000 in
theorem na_copy : Cond.native arraycopyName ∈ TB := tbm 397 (by decide +kernel) rfl
set_option maxRecDepth 100000 in
theorem st_copy : Cond.static arraycopyName ∈ TB := tbm 396 (by decide +kernel) rfl
set_option maxRecDepth 100000 in
theorem ko_X7_294 : Cond.constant RX7 294 (-1000000000) ∈ TB := tbm 267 (by decide +kernel) rfl
set_option maxRecDepth 100000 in
theorem ko_X0_35 : Cond.constant RX0 35 (1103515245) ∈ TB := tbm 472 (by decide +kernel) rfl
set_option maxRecDepth 100000 in
theorem ko_X8_46 : Cond.constant RX8 46 (-1000000000) ∈ TB := tbm 764 (by decide +kernel) rfl
set_option maxRecDepth 100000 in
theorem ko_X8_51 : Cond.constantLong RX8 51 (4) ∈ TB := tbm 849 (by decide +kernel) rfl
set_option maxRecDepth 100000 in
theorem ko_X8_120 : Cond.constantLong RX8 120 (48) ∈ TB := tbm 822 (by decide +kernel) rfl
set_option maxRecDepth 100000 in
theorem ko_X8_122 : Cond.constantLong RX8 122 (57) ∈ TB := tbm 823 (by decide +kernel) rfl
set_option maxRecDepth 100000 in
theorem ko_X8_128 : Cond.constantLong RX8 128 (8) ∈ TB := tbm 756 (by decide +kernel) rfl
set_option maxRecDepth 100000 in
theorem ko_X8_133 : Cond.constantLong RX8 133 (255) ∈ TB := tbm 765 (by decide +kernel) rfl
set_option maxRecDepth 100000 in
theorem ko_X8_173 : Cond.constantLong RX8 173 (9) ∈ TB := tbm 850 (by decide +kernel) rfl
set_option maxRecDepth 100000 in
theorem ko_X8_175 : Cond.constantLong RX8 175 (2) ∈ TB := tbm 855 (by decide +kernel) rfl
set_option maxRecDepth 100000 in
theorem ko_X8_180 : Cond.constantLong RX8 180 (69) ∈ TB := tbm 872 (by decide +kernel) rfl
set_option maxRecDepth 100000 in
theorem ko_X8_185 : Cond.constantLong RX8 185 (999) ∈ TB := tbm 897 (by decide +kernel) rfl
set_option maxRecDepth 100000 in
theorem ko_X8_191 : Cond.constantLong RX8 191 (6) ∈ TB := tbm 918 (by decide +kernel) rfl
set_option maxRecDepth 100000 in
theorem ko_X8_196 : Cond.constantLong RX8 196 (60) ∈ TB := tbm 926 (by decide +kernel) rfl
set_option maxRecDepth 100000 in
theorem ko_X8_204 : Cond.constant RX8 204 (1103515245) ∈ TB := tbm 956 (by decide +kernel) rfl
set_option maxRecDepth 100000 in
theorem ko_X8_205 : Cond.constantLong RX8 205 (40) ∈ TB := tbm 951 (by decide +kernel) rfl
set_option maxRecDepth 100000 in
theorem ko_X8_216 : Cond.constantLong RX8 216 (20) ∈ TB := tbm 989 (by decide +kernel) rfl
set_option maxRecDepth 100000 in
theorem ko_X8_224 : Cond.constantLong RX8 224 (30) ∈ TB := tbm 1017 (by decide +kernel) rfl
set_option maxRecDepth 100000 in
theorem ko_X8_250 : Cond.constantLong RX8 250 (3) ∈ TB := tbm 1000 (by decide +kernel) rfl
set_option maxRecDepth 100000 in
theorem ko_X8_255 : Cond.constantLong RX8 255 (5) ∈ TB := tbm 1101 (by decide +kernel) rfl
set_option maxRecDepth 100000 in
theorem ko_J6_265 : Cond.constant RJ6 265 (1431655765) ∈ TB := tbm 457 (by decide +kernel) rfl
set_option maxRecDepth 100000 in
theorem ko_J6_266 : Cond.constant RJ6 266 (858993459) ∈ TB := tbm 458 (by decide +kernel) rfl
set_option maxRecDepth 100000 in
theorem ko_J6_267 : Cond.constant RJ6 267 (252645135) ∈ TB := tbm 459 (by decide +kernel) rfl
set_option maxRecDepth 100000 in
theorem inT_0 : ∀ w ∈ u_ws RX0 TX0 5, w ∈ TB := by
  intro w hw
  obtain ⟨k, hk, rfl⟩ := List.mem_map.mp hw
  have h : ∀ k, k < 5 → tables_1[([143, 145, 147, 149, 151] : List Nat).getD k 0]? = some (u_lay RX0 TX0 k) ∧ goodWord (u_lay RX0 TX0 k) = true := by decide +kernel
  exact tbm _ (h k (List.mem_range.mp hk)).1 (h k (List.mem_range.mp hk)).2
set_option maxRecDepth 100000 in
theorem inT_1 : ∀ w ∈ u_ws RX1 TX1 8, w ∈ TB := by
  intro w hw
  obtain ⟨k, hk, rfl⟩ := List.mem_map.mp hw
  have h : ∀ k, k < 8 → tables_1[([108, 110, 112, 114, 116, 118, 120, 122] : List Nat).getD k 0]? = some (u_lay RX1 TX1 k) ∧ goodWord (u_lay RX1 TX1 k) = true := by decide +kernel
  exact tbm _ (h k (List.mem_range.mp hk)).1 (h k (List.mem_range.mp hk)).2
set_option maxRecDepth 100000 in
theorem inT_2 : ∀ w ∈ u_ws RX2 TX2 3, w ∈ TB := by
  intro w hw
  obtain ⟨k, hk, rfl⟩ := List.mem_map.mp hw
  have h : ∀ k, k < 3 → tables_1[([39, 41, 43] : List Nat).getD k 0]? = some (u_lay RX2 TX2 k) ∧ goodWord (u_lay RX2 TX2 k) = true := by decide +kernel
  exact tbm _ (h k (List.mem_range.mp hk)).1 (h k (List.mem_range.mp hk)).2
set_option maxRecDepth 100000 in
theorem inT_3 : ∀ w ∈ u_ws RX3 TX3 8, w ∈ TB := by
  intro w hw
  obtain ⟨k, hk, rfl⟩ := List.mem_map.mp hw
  have h : ∀ k, k < 8 → tables_1[([77, 79, 81, 83, 85, 87, 89, 91] : List Nat).getD k 0]? = some (u_lay RX3 TX3 k) ∧ goodWord (u_lay RX3 TX3 k) = true := by decide +kernel
  exact tbm _ (h k (List.mem_range.mp hk)).1 (h k (List.mem_range.mp hk)).2
set_option maxRecDepth 100000 in
theorem inT_4 : ∀ w ∈ u_ws RX4 TX4 4, w ∈ TB := by
  intro w hw
  obtain ⟨k, hk, rfl⟩ := List.mem_map.mp hw
  have h : ∀ k, k < 4 → tables_1[([169, 171, 173, 175] : List Nat).getD k 0]? = some (u_lay RX4 TX4 k) ∧ goodWord (u_lay RX4 TX4 k) = true := by decide +kernel
  exact tbm _ (h k (List.mem_range.mp hk)).1 (h k (List.mem_range.mp hk)).2
set_option maxRecDepth 100000 in
theorem inT_5 : ∀ w ∈ u_ws RX5 TX5 3, w ∈ TB := by
  intro w hw
  obtain ⟨k, hk, rfl⟩ := List.mem_map.mp hw
  have h : ∀ k, k < 3 → tables_1[([215, 217, 219] : List Nat).getD k 0]? = some (u_lay RX5 TX5 k) ∧ goodWord (u_lay RX5 TX5 k) = true := by decide +kernel
  exact tbm _ (h k (List.mem_range.mp hk)).1 (h k (List.mem_range.mp hk)).2
set_option maxRecDepth 100000 in
theorem inT_6 : ∀ w ∈ u_ws RX6 TX6 5, w ∈ TB := by
  intro w hw
  obtain ⟨k, hk, rfl⟩ := List.mem_map.mp hw
  have h : ∀ k, k < 5 → tables_1[([191, 193, 195, 197, 199] : List Nat).getD k 0]? = some (u_lay RX6 TX6 k) ∧ goodWord (u_lay RX6 TX6 k) = true := by decide +kernel
  exact tbm _ (h k (List.mem_range.mp hk)).1 (h k (List.mem_range.mp hk)).2
set_option maxRecDepth 100000 in
theorem inT_7 : ∀ w ∈ u_ws RX7 TX7 10, w ∈ TB := by
  intro w hw
  obtain ⟨k, hk, rfl⟩ := List.mem_map.mp hw
  have h : ∀ k, k < 10 → tables_1[([232, 234, 236, 238, 240, 242, 244, 246, 248, 250] : List Nat).getD k 0]? = some (u_lay RX7 TX7 k) ∧ goodWord (u_lay RX7 TX7 k) = true := by decide +kernel
  exact tbm _ (h k (List.mem_range.mp hk)).1 (h k (List.mem_range.mp hk)).2
set_option maxRecDepth 100000 in
theorem inT_8 : ∀ w ∈ u_ws RX8 TX8 22, w ∈ TB := by
  intro w hw
  obtain ⟨k, hk, rfl⟩ := List.mem_map.mp hw
  have h : ∀ k, k < 22 → tables_1[([707, 709, 711, 713, 715, 717, 719, 721, 723, 725, 727, 729, 731, 733, 735, 737, 739, 741, 743, 745, 747, 749] : List Nat).getD k 0]? = some (u_lay RX8 TX8 k) ∧ goodWord (u_lay RX8 TX8 k) = true := by decide +kernel
  exact tbm _ (h k (List.mem_range.mp hk)).1 (h k (List.mem_range.mp hk)).2
section FL
variable {t : MT} {d : Nat} {r : Option AV} {M' : MM} {pc : Nat} {L : List (Nat × AV)} {st : List AV} {M N : Mem}
set_option maxRecDepth 100000 in
theorem fg_X7_10 {i : Nat} (ht : t.1 = RX7) (hi : i < 1) (hdg : decode t.2.2.1 pc = .ok (.getfield 10, 3)) (k : G t d r M' (pc + 3) L (.inr (.inr (1, 0)) :: st) (M, N)) : G t d r M' pc L (.inr (.inr (7, i)) :: st) (M, N) := G_get (ci := 7) (k0 := 0) inT_7 rfl (by rw [ht]; exact tbm 222 (by decide +kernel) rfl) (by decide) hi rfl (by decide) rfl (by decide) rfl hdg k
set_option maxRecDepth 100000 in
theorem fg_X7_16 {i : Nat} (ht : t.1 = RX7) (hi : i < 1) (hdg : decode t.2.2.1 pc = .ok (.getfield 16, 3)) (k : G t d r M' (pc + 3) L (.inr (.inr (1, 1)) :: st) (M, N)) : G t d r M' pc L (.inr (.inr (7, i)) :: st) (M, N) := G_get (ci := 7) (k0 := 1) inT_7 rfl (by rw [ht]; exact tbm 223 (by decide +kernel) rfl) (by decide) hi rfl (by decide) rfl (by decide) rfl hdg k
set_option maxRecDepth 100000 in
theorem fg_X7_19 {i : Nat} (ht : t.1 = RX7) (hi : i < 1) (hdg : decode t.2.2.1 pc = .ok (.getfield 19, 3)) (k : G t d r M' (pc + 3) L (.inr (.inr (1, 2)) :: st) (M, N)) : G t d r M' pc L (.inr (.inr (7, i)) :: st) (M, N) := G_get (ci := 7) (k0 := 2) inT_7 rfl (by rw [ht]; exact tbm 224 (by decide +kernel) rfl) (by decide) hi rfl (by decide) rfl (by decide) rfl hdg k
set_option maxRecDepth 100000 in
theorem fg_X7_25 {i : Nat} (ht : t.1 = RX7) (hi : i < 1) (hdg : decode t.2.2.1 pc = .ok (.getfield 25, 3)) (k : G t d r M' (pc + 3) L (.inr (.inr (0, 0)) :: st) (M, N)) : G t d r M' pc L (.inr (.inr (7, i)) :: st) (M, N) := G_get (ci := 7) (k0 := 3) inT_7 rfl (by rw [ht]; exact tbm 225 (by decide +kernel) rfl) (by decide) hi rfl (by decide) rfl (by decide) rfl hdg k
set_option maxRecDepth 100000 in
theorem fg_X7_29 {i : Nat} (ht : t.1 = RX7) (hi : i < 1) (hdg : decode t.2.2.1 pc = .ok (.getfield 29, 3)) (k : G t d r M' (pc + 3) L (.inr (.inr (0, 1)) :: st) (M, N)) : G t d r M' pc L (.inr (.inr (7, i)) :: st) (M, N) := G_get (ci := 7) (k0 := 4) inT_7 rfl (by rw [ht]; exact tbm 226 (by decide +kernel) rfl) (by decide) hi rfl (by decide) rfl (by decide) rfl hdg k
set_option maxRecDepth 100000 in
theorem fg_X7_37 {i : Nat} (ht : t.1 = RX7) (hi : i < 1) (hdg : decode t.2.2.1 pc = .ok (.getfield 37, 3)) (k : G t d r M' (pc + 3) L (.inr (.inr (4, 0)) :: st) (M, N)) : G t d r M' pc L (.inr (.inr (7, i)) :: st) (M, N) := G_get (ci := 7) (k0 := 5) inT_7 rfl (by rw [ht]; exact tbm 227 (by decide +kernel) rfl) (by decide) hi rfl (by decide) rfl (by decide) rfl hdg k
set_option maxRecDepth 100000 in
theorem fg_X7_44 {i : Nat} (ht : t.1 = RX7) (hi : i < 1) (hdg : decode t.2.2.1 pc = .ok (.getfield 44, 3)) (k : G t d r M' (pc + 3) L (.inr (.inr (6, 0)) :: st) (M, N)) : G t d r M' pc L (.inr (.inr (7, i)) :: st) (M, N) := G_get (ci := 7) (k0 := 6) inT_7 rfl (by rw [ht]; exact tbm 228 (by decide +kernel) rfl) (by decide) hi rfl (by decide) rfl (by decide) rfl hdg k
set_option maxRecDepth 100000 in
theorem fg_X7_50 {i : Nat} (ht : t.1 = RX7) (hi : i < 1) (hdg : decode t.2.2.1 pc = .ok (.getfield 50, 3)) (k : G t d r M' (pc + 3) L (.inr (.inr (17, 0)) :: st) (M, N)) : G t d r M' pc L (.inr (.inr (7, i)) :: st) (M, N) := G_get (ci := 7) (k0 := 7) inT_7 rfl (by rw [ht]; exact tbm 229 (by decide +kernel) rfl) (by decide) hi rfl (by decide) rfl (by decide) rfl hdg k
set_option maxRecDepth 100000 in
theorem fg_X7_54 {i : Nat} (ht : t.1 = RX7) (hi : i < 1) (hdg : decode t.2.2.1 pc = .ok (.getfield 54, 3)) (k : G t d r M' (pc + 3) L (.inr (.inr (18, 0)) :: st) (M, N)) : G t d r M' pc L (.inr (.inr (7, i)) :: st) (M, N) := G_get (ci := 7) (k0 := 8) inT_7 rfl (by rw [ht]; exact tbm 230 (by decide +kernel) rfl) (by decide) hi rfl (by decide) rfl (by decide) rfl hdg k
set_option maxRecDepth 100000 in
theorem fg_X7_71 {i : Nat} (ht : t.1 = RX7) (hi : i < 3) (hdg : decode t.2.2.1 pc = .ok (.getfield 71, 3)) (k : G t d r M' (pc + 3) L (.inr (.inr (10, i)) :: st) (M, N)) : G t d r M' pc L (.inr (.inr (1, i)) :: st) (M, N) := G_get (ci := 1) (k0 := 0) inT_1 rfl (by rw [ht]; exact tbm 95 (by decide +kernel) rfl) (by decide) hi rfl (by decide) rfl (by decide) rfl hdg k
set_option maxRecDepth 100000 in
theorem fg_X7_74 {i : Nat} (ht : t.1 = RX7) (hi : i < 3) (hdg : decode t.2.2.1 pc = .ok (.getfield 74, 3)) (k : G t d r M' (pc + 3) L (.inr (.inr (11, i)) :: st) (M, N)) : G t d r M' pc L (.inr (.inr (1, i)) :: st) (M, N) := G_get (ci := 1) (k0 := 1) inT_1 rfl (by rw [ht]; exact tbm 97 (by decide +kernel) rfl) (by decide) hi rfl (by decide) rfl (by decide) rfl hdg k
set_option maxRecDepth 100000 in
theorem fg_X7_83 {i : Nat} {v : Int32} (hv : M 1 i 5 = v) (ht : t.1 = RX7) (hi : i < 3) (hdg : decode t.2.2.1 pc = .ok (.getfield 83, 3)) (k : G t d r M' (pc + 3) L (.inl v :: st) (M, N)) : G t d r M' pc L (.inr (.inr (1, i)) :: st) (M, N) := G_get (ci := 1) (k0 := 5) inT_1 rfl (by rw [ht]; exact tbm 103 (by decide +kernel) rfl) (by decide) hi rfl (by decide) rfl (by decide) (by rw [← hv]; rfl) hdg k
set_option maxRecDepth 100000 in
theorem fg_X7_87 {i : Nat} (ht : t.1 = RX7) (hi : i < 3) (hdg : decode t.2.2.1 pc = .ok (.getfield 87, 3)) (k : G t d r M' (pc + 3) L (.inr (.inr (12, i)) :: st) (M, N)) : G t d r M' pc L (.inr (.inr (1, i)) :: st) (M, N) := G_get (ci := 1) (k0 := 2) inT_1 rfl (by rw [ht]; exact tbm 99 (by decide +kernel) rfl) (by decide) hi rfl (by decide) rfl (by decide) rfl hdg k
set_option maxRecDepth 100000 in
theorem fg_X7_100 {i : Nat} {v : Int32} (hv : M 3 i 0 = v) (ht : t.1 = RX7) (hi : i < 30) (hdg : decode t.2.2.1 pc = .ok (.getfield 100, 3)) (k : G t d r M' (pc + 3) L (.inl v :: st) (M, N)) : G t d r M' pc L (.inr (.inr (3, i)) :: st) (M, N) := G_get (ci := 3) (k0 := 0) inT_3 rfl (by rw [ht]; exact tbm 57 (by decide +kernel) rfl) (by decide) hi rfl (by decide) rfl (by decide) (by rw [← hv]; rfl) hdg k
set_option maxRecDepth 100000 in
theorem fg_X7_103 {i : Nat} {v : Int32} (hv : M 3 i 1 = v) (ht : t.1 = RX7) (hi : i < 30) (hdg : decode t.2.2.1 pc = .ok (.getfield 103, 3)) (k : G t d r M' (pc + 3) L (.inl v :: st) (M, N)) : G t d r M' pc L (.inr (.inr (3, i)) :: st) (M, N) := G_get (ci := 3) (k0 := 1) inT_3 rfl (by rw [ht]; exact tbm 60 (by decide +kernel) rfl) (by decide) hi rfl (by decide) rfl (by decide) (by rw [← hv]; rfl) hdg k
set_option maxRecDepth 100000 in
theorem fg_X7_106 {i : Nat} {v : Int32} (hv : M 3 i 2 = v) (ht : t.1 = RX7) (hi : i < 30) (hdg : decode t.2.2.1 pc = .ok (.getfield 106, 3)) (k : G t d r M' (pc + 3) L (.inl v :: st) (M, N)) : G t d r M' pc L (.inr (.inr (3, i)) :: st) (M, N) := G_get (ci := 3) (k0 := 2) inT_3 rfl (by rw [ht]; exact tbm 62 (by decide +kernel) rfl) (by decide) hi rfl (by decide) rfl (by decide) (by rw [← hv]; rfl) hdg k
set_option maxRecDepth 100000 in
theorem fg_X7_109 {i : Nat} {v : Int32} (hv : M 3 i 3 = v) (ht : t.1 = RX7) (hi : i < 30) (hdg : decode t.2.2.1 pc = .ok (.getfield 109, 3)) (k : G t d r M' (pc + 3) L (.inl v :: st) (M, N)) : G t d r M' pc L (.inr (.inr (3, i)) :: st) (M, N) := G_get (ci := 3) (k0 := 3) inT_3 rfl (by rw [ht]; exact tbm 65 (by decide +kernel) rfl) (by decide) hi rfl (by decide) rfl (by decide) (by rw [← hv]; rfl) hdg k
set_option maxRecDepth 100000 in
theorem fg_X7_112 {i : Nat} {v : Int32} (hv : M 3 i 4 = v) (ht : t.1 = RX7) (hi : i < 30) (hdg : decode t.2.2.1 pc = .ok (.getfield 112, 3)) (k : G t d r M' (pc + 3) L (.inl v :: st) (M, N)) : G t d r M' pc L (.inr (.inr (3, i)) :: st) (M, N) := G_get (ci := 3) (k0 := 4) inT_3 rfl (by rw [ht]; exact tbm 68 (by decide +kernel) rfl) (by decide) hi rfl (by decide) rfl (by decide) (by rw [← hv]; rfl) hdg k
set_option maxRecDepth 100000 in
theorem fg_X7_115 {i : Nat} {v : Int32} (hv : M 3 i 5 = v) (ht : t.1 = RX7) (hi : i < 30) (hdg : decode t.2.2.1 pc = .ok (.getfield 115, 3)) (k : G t d r M' (pc + 3) L (.inl v :: st) (M, N)) : G t d r M' pc L (.inr (.inr (3, i)) :: st) (M, N) := G_get (ci := 3) (k0 := 5) inT_3 rfl (by rw [ht]; exact tbm 70 (by decide +kernel) rfl) (by decide) hi rfl (by decide) rfl (by decide) (by rw [← hv]; rfl) hdg k
set_option maxRecDepth 100000 in
theorem fg_X7_118 {i : Nat} {v : Int32} (hv : M 3 i 6 = v) (ht : t.1 = RX7) (hi : i < 30) (hdg : decode t.2.2.1 pc = .ok (.getfield 118, 3)) (k : G t d r M' (pc + 3) L (.inl v :: st) (M, N)) : G t d r M' pc L (.inr (.inr (3, i)) :: st) (M, N) := G_get (ci := 3) (k0 := 6) inT_3 rfl (by rw [ht]; exact tbm 72 (by decide +kernel) rfl) (by decide) hi rfl (by decide) rfl (by decide) (by rw [← hv]; rfl) hdg k
set_option maxRecDepth 100000 in
theorem fg_X7_121 {i : Nat} {v : Int32} (hv : nbZ (M 3 i 7) = v) (ht : t.1 = RX7) (hi : i < 30) (hdg : decode t.2.2.1 pc = .ok (.getfield 121, 3)) (k : G t d r M' (pc + 3) L (.inl v :: st) (M, N)) : G t d r M' pc L (.inr (.inr (3, i)) :: st) (M, N) := G_get (ci := 3) (k0 := 7) inT_3 rfl (by rw [ht]; exact tbm 75 (by decide +kernel) rfl) (by decide) hi rfl (by decide) rfl (by decide) (by rw [← hv]; rfl) hdg k
set_option maxRecDepth 100000 in
theorem fg_X7_146 {i : Nat} {v : Int32} (hv : M 0 i 2 = v) (ht : t.1 = RX7) (hi : i < 2) (hdg : decode t.2.2.1 pc = .ok (.getfield 146, 3)) (k : G t d r M' (pc + 3) L (.inl v :: st) (M, N)) : G t d r M' pc L (.inr (.inr (0, i)) :: st) (M, N) := G_get (ci := 0) (k0 := 2) inT_0 rfl (by rw [ht]; exact tbm 138 (by decide +kernel) rfl) (by decide) hi rfl (by decide) rfl (by decide) (by rw [← hv]; rfl) hdg k
set_option maxRecDepth 100000 in
theorem fg_X7_149 {i : Nat} (ht : t.1 = RX7) (hi : i < 2) (hdg : decode t.2.2.1 pc = .ok (.getfield 149, 3)) (k : G t d r M' (pc + 3) L (.inr (.inr (8, i)) :: st) (M, N)) : G t d r M' pc L (.inr (.inr (0, i)) :: st) (M, N) := G_get (ci := 0) (k0 := 0) inT_0 rfl (by rw [ht]; exact tbm 133 (by decide +kernel) rfl) (by decide) hi rfl (by decide) rfl (by decide) rfl hdg k
set_option maxRecDepth 100000 in
theorem fg_X7_156 {i : Nat} {v : Int32} (hv : M 4 i 3 = v) (ht : t.1 = RX7) (hi : i < 1) (hdg : decode t.2.2.1 pc = .ok (.getfield 156, 3)) (k : G t d r M' (pc + 3) L (.inl v :: st) (M, N)) : G t d r M' pc L (.inr (.inr (4, i)) :: st) (M, N) := G_get (ci := 4) (k0 := 3) inT_4 rfl (by rw [ht]; exact tbm 168 (by decide +kernel) rfl) (by decide) hi rfl (by decide) rfl (by decide) (by rw [← hv]; rfl) hdg k
set_option maxRecDepth 100000 in
theorem fg_X7_163 {i : Nat} (ht : t.1 = RX7) (hi : i < 1) (hdg : decode t.2.2.1 pc = .ok (.getfield 163, 3)) (k : G t d r M' (pc + 3) L (.inr (.inr (2, 6)) :: st) (M, N)) : G t d r M' pc L (.inr (.inr (4, i)) :: st) (M, N) := G_get (ci := 4) (k0 := 0) inT_4 rfl (by rw [ht]; exact tbm 164 (by decide +kernel) rfl) (by decide) hi rfl (by decide) rfl (by decide) rfl hdg k
set_option maxRecDepth 100000 in
theorem fg_X7_177 {i : Nat} {v : Int32} (hv : M 1 i 6 = v) (ht : t.1 = RX7) (hi : i < 3) (hdg : decode t.2.2.1 pc = .ok (.getfield 177, 3)) (k : G t d r M' (pc + 3) L (.inl v :: st) (M, N)) : G t d r M' pc L (.inr (.inr (1, i)) :: st) (M, N) := G_get (ci := 1) (k0 := 6) inT_1 rfl (by rw [ht]; exact tbm 105 (by decide +kernel) rfl) (by decide) hi rfl (by decide) rfl (by decide) (by rw [← hv]; rfl) hdg k
set_option maxRecDepth 100000 in
theorem fg_X7_237 {i : Nat} {v : Int32} (hv : M 0 i 4 = v) (ht : t.1 = RX7) (hi : i < 2) (hdg : decode t.2.2.1 pc = .ok (.getfield 237, 3)) (k : G t d r M' (pc + 3) L (.inl v :: st) (M, N)) : G t d r M' pc L (.inr (.inr (0, i)) :: st) (M, N) := G_get (ci := 0) (k0 := 4) inT_0 rfl (by rw [ht]; exact tbm 142 (by decide +kernel) rfl) (by decide) hi rfl (by decide) rfl (by decide) (by rw [← hv]; rfl) hdg k
set_option maxRecDepth 100000 in
theorem fg_X7_244 {i : Nat} {v : Int32} (hv : M 6 i 1 = v) (ht : t.1 = RX7) (hi : i < 1) (hdg : decode t.2.2.1 pc = .ok (.getfield 244, 3)) (k : G t d r M' (pc + 3) L (.inl v :: st) (M, N)) : G t d r M' pc L (.inr (.inr (6, i)) :: st) (M, N) := G_get (ci := 6) (k0 := 1) inT_6 rfl (by rw [ht]; exact tbm 187 (by decide +kernel) rfl) (by decide) hi rfl (by decide) rfl (by decide) (by rw [← hv]; rfl) hdg k
set_option maxRecDepth 100000 in
theorem fg_X7_247 {i : Nat} (ht : t.1 = RX7) (hi : i < 1) (hdg : decode t.2.2.1 pc = .ok (.getfield 247, 3)) (k : G t d r M' (pc + 3) L (.inr (.inr (16, i)) :: st) (M, N)) : G t d r M' pc L (.inr (.inr (6, i)) :: st) (M, N) := G_get (ci := 6) (k0 := 0) inT_6 rfl (by rw [ht]; exact tbm 185 (by decide +kernel) rfl) (by decide) hi rfl (by decide) rfl (by decide) rfl hdg k
set_option maxRecDepth 100000 in
theorem fg_X7_254 {i : Nat} {v : Int32} (hv : M 5 i 2 = v) (ht : t.1 = RX7) (hi : i < 4) (hdg : decode t.2.2.1 pc = .ok (.getfield 254, 3)) (k : G t d r M' (pc + 3) L (.inl v :: st) (M, N)) : G t d r M' pc L (.inr (.inr (5, i)) :: st) (M, N) := G_get (ci := 5) (k0 := 2) inT_5 rfl (by rw [ht]; exact tbm 214 (by decide +kernel) rfl) (by decide) hi rfl (by decide) rfl (by decide) (by rw [← hv]; rfl) hdg k
set_option maxRecDepth 100000 in
theorem fg_X7_257 {i : Nat} (ht : t.1 = RX7) (hi : i < 4) (hdg : decode t.2.2.1 pc = .ok (.getfield 257, 3)) (k : G t d r M' (pc + 3) L (.inr (.inr (15, i)) :: st) (M, N)) : G t d r M' pc L (.inr (.inr (5, i)) :: st) (M, N) := G_get (ci := 5) (k0 := 0) inT_5 rfl (by rw [ht]; exact tbm 210 (by decide +kernel) rfl) (by decide) hi rfl (by decide) rfl (by decide) rfl hdg k
set_option maxRecDepth 100000 in
theorem fg_X7_262 {i : Nat} {v : Int32} (hv : M 5 i 1 = v) (ht : t.1 = RX7) (hi : i < 4) (hdg : decode t.2.2.1 pc = .ok (.getfield 262, 3)) (k : G t d r M' (pc + 3) L (.inl v :: st) (M, N)) : G t d r M' pc L (.inr (.inr (5, i)) :: st) (M, N) := G_get (ci := 5) (k0 := 1) inT_5 rfl (by rw [ht]; exact tbm 212 (by decide +kernel) rfl) (by decide) hi rfl (by decide) rfl (by decide) (by rw [← hv]; rfl) hdg k
set_option maxRecDepth 100000 in
theorem fg_X7_279 {i : Nat} {v : Int32} (hv : M 7 i 9 = v) (ht : t.1 = RX7) (hi : i < 1) (hdg : decode t.2.2.1 pc = .ok (.getfield 279, 3)) (k : G t d r M' (pc + 3) L (.inl v :: st) (M, N)) : G t d r M' pc L (.inr (.inr (7, i)) :: st) (M, N) := G_get (ci := 7) (k0 := 9) inT_7 rfl (by rw [ht]; exact tbm 231 (by decide +kernel) rfl) (by decide) hi rfl (by decide) rfl (by decide) (by rw [← hv]; rfl) hdg k
set_option maxRecDepth 100000 in
theorem fg_X7_282 {i : Nat} {v : Int32} (hv : M 0 i 3 = v) (ht : t.1 = RX7) (hi : i < 2) (hdg : decode t.2.2.1 pc = .ok (.getfield 282, 3)) (k : G t d r M' (pc + 3) L (.inl v :: st) (M, N)) : G t d r M' pc L (.inr (.inr (0, i)) :: st) (M, N) := G_get (ci := 0) (k0 := 3) inT_0 rfl (by rw [ht]; exact tbm 140 (by decide +kernel) rfl) (by decide) hi rfl (by decide) rfl (by decide) (by rw [← hv]; rfl) hdg k
set_option maxRecDepth 100000 in
theorem fg_X7_285 {i : Nat} (ht : t.1 = RX7) (hi : i < 2) (hdg : decode t.2.2.1 pc = .ok (.getfield 285, 3)) (k : G t d r M' (pc + 3) L (.inr (.inr (9, i)) :: st) (M, N)) : G t d r M' pc L (.inr (.inr (0, i)) :: st) (M, N) := G_get (ci := 0) (k0 := 1) inT_0 rfl (by rw [ht]; exact tbm 135 (by decide +kernel) rfl) (by decide) hi rfl (by decide) rfl (by decide) rfl hdg k
set_option maxRecDepth 100000 in
theorem fg_X7_288 {i : Nat} {v : Int32} (hv : M 1 i 7 = v) (ht : t.1 = RX7) (hi : i < 3) (hdg : decode t.2.2.1 pc = .ok (.getfield 288, 3)) (k : G t d r M' (pc + 3) L (.inl v :: st) (M, N)) : G t d r M' pc L (.inr (.inr (1, i)) :: st) (M, N) := G_get (ci := 1) (k0 := 7) inT_1 rfl (by rw [ht]; exact tbm 107 (by decide +kernel) rfl) (by decide) hi rfl (by decide) rfl (by decide) (by rw [← hv]; rfl) hdg k
set_option maxRecDepth 100000 in
theorem fg_X0_9 {i : Nat} (ht : t.1 = RX0) (hi : i < 2) (hdg : decode t.2.2.1 pc = .ok (.getfield 9, 3)) (k : G t d r M' (pc + 3) L (.inr (.inr (8, i)) :: st) (M, N)) : G t d r M' pc L (.inr (.inr (0, i)) :: st) (M, N) := G_get (ci := 0) (k0 := 0) inT_0 rfl (by rw [ht]; exact tbm 131 (by decide +kernel) rfl) (by decide) hi rfl (by decide) rfl (by decide) rfl hdg k
set_option maxRecDepth 100000 in
theorem fg_X0_15 {i : Nat} (ht : t.1 = RX0) (hi : i < 2) (hdg : decode t.2.2.1 pc = .ok (.getfield 15, 3)) (k : G t d r M' (pc + 3) L (.inr (.inr (9, i)) :: st) (M, N)) : G t d r M' pc L (.inr (.inr (0, i)) :: st) (M, N) := G_get (ci := 0) (k0 := 1) inT_0 rfl (by rw [ht]; exact tbm 134 (by decide +kernel) rfl) (by decide) hi rfl (by decide) rfl (by decide) rfl hdg k
set_option maxRecDepth 100000 in
theorem fg_X0_19 {i : Nat} {v : Int32} (hv : M 0 i 4 = v) (ht : t.1 = RX0) (hi : i < 2) (hdg : decode t.2.2.1 pc = .ok (.getfield 19, 3)) (k : G t d r M' (pc + 3) L (.inl v :: st) (M, N)) : G t d r M' pc L (.inr (.inr (0, i)) :: st) (M, N) := G_get (ci := 0) (k0 := 4) inT_0 rfl (by rw [ht]; exact tbm 141 (by decide +kernel) rfl) (by decide) hi rfl (by decide) rfl (by decide) (by rw [← hv]; rfl) hdg k
set_option maxRecDepth 100000 in
theorem fg_X0_29 {i : Nat} {v : Int32} (hv : M 0 i 2 = v) (ht : t.1 = RX0) (hi : i < 2) (hdg : decode t.2.2.1 pc = .ok (.getfield 29, 3)) (k : G t d r M' (pc + 3) L (.inl v :: st) (M, N)) : G t d r M' pc L (.inr (.inr (0, i)) :: st) (M, N) := G_get (ci := 0) (k0 := 2) inT_0 rfl (by rw [ht]; exact tbm 136 (by decide +kernel) rfl) (by decide) hi rfl (by decide) rfl (by decide) (by rw [← hv]; rfl) hdg k
set_option maxRecDepth 100000 in
theorem fg_X0_32 {i : Nat} {v : Int32} (hv : M 0 i 3 = v) (ht : t.1 = RX0) (hi : i < 2) (hdg : decode t.2.2.1 pc = .ok (.getfield 32, 3)) (k : G t d r M' (pc + 3) L (.inl v :: st) (M, N)) : G t d r M' pc L (.inr (.inr (0, i)) :: st) (M, N) := G_get (ci := 0) (k0 := 3) inT_0 rfl (by rw [ht]; exact tbm 139 (by decide +kernel) rfl) (by decide) hi rfl (by decide) rfl (by decide) (by rw [← hv]; rfl) hdg k
set_option maxRecDepth 100000 in
theorem fg_X1_9 {i : Nat} (ht : t.1 = RX1) (hi : i < 3) (hdg : decode t.2.2.1 pc = .ok (.getfield 9, 3)) (k : G t d r M' (pc + 3) L (.inr (.inr (10, i)) :: st) (M, N)) : G t d r M' pc L (.inr (.inr (1, i)) :: st) (M, N) := G_get (ci := 1) (k0 := 0) inT_1 rfl (by rw [ht]; exact tbm 94 (by decide +kernel) rfl) (by decide) hi rfl (by decide) rfl (by decide) rfl hdg k
set_option maxRecDepth 100000 in
theorem fg_X1_15 {i : Nat} (ht : t.1 = RX1) (hi : i < 3) (hdg : decode t.2.2.1 pc = .ok (.getfield 15, 3)) (k : G t d r M' (pc + 3) L (.inr (.inr (11, i)) :: st) (M, N)) : G t d r M' pc L (.inr (.inr (1, i)) :: st) (M, N) := G_get (ci := 1) (k0 := 1) inT_1 rfl (by rw [ht]; exact tbm 96 (by decide +kernel) rfl) (by decide) hi rfl (by decide) rfl (by decide) rfl hdg k
set_option maxRecDepth 100000 in
theorem fg_X1_20 {i : Nat} (ht : t.1 = RX1) (hi : i < 3) (hdg : decode t.2.2.1 pc = .ok (.getfield 20, 3)) (k : G t d r M' (pc + 3) L (.inr (.inr (12, i)) :: st) (M, N)) : G t d r M' pc L (.inr (.inr (1, i)) :: st) (M, N) := G_get (ci := 1) (k0 := 2) inT_1 rfl (by rw [ht]; exact tbm 98 (by decide +kernel) rfl) (by decide) hi rfl (by decide) rfl (by decide) rfl hdg k
set_option maxRecDepth 100000 in
theorem fg_X1_27 {i : Nat} (ht : t.1 = RX1) (hi : i < 3) (hdg : decode t.2.2.1 pc = .ok (.getfield 27, 3)) (k : G t d r M' (pc + 3) L (.inr (.inr (2, (2 * i))) :: st) (M, N)) : G t d r M' pc L (.inr (.inr (1, i)) :: st) (M, N) := G_get (ci := 1) (k0 := 3) inT_1 rfl (by rw [ht]; exact tbm 100 (by decide +kernel) rfl) (by decide) hi rfl (by decide) rfl (by decide) rfl hdg k
set_option maxRecDepth 100000 in
theorem fg_X1_31 {i : Nat} (ht : t.1 = RX1) (hi : i < 3) (hdg : decode t.2.2.1 pc = .ok (.getfield 31, 3)) (k : G t d r M' (pc + 3) L (.inr (.inr (2, (2 * i + 1))) :: st) (M, N)) : G t d r M' pc L (.inr (.inr (1, i)) :: st) (M, N) := G_get (ci := 1) (k0 := 4) inT_1 rfl (by rw [ht]; exact tbm 101 (by decide +kernel) rfl) (by decide) hi rfl (by decide) rfl (by decide) rfl hdg k
set_option maxRecDepth 100000 in
theorem fg_X1_47 {i : Nat} {v : Int32} (hv : M 1 i 5 = v) (ht : t.1 = RX1) (hi : i < 3) (hdg : decode t.2.2.1 pc = .ok (.getfield 47, 3)) (k : G t d r M' (pc + 3) L (.inl v :: st) (M, N)) : G t d r M' pc L (.inr (.inr (1, i)) :: st) (M, N) := G_get (ci := 1) (k0 := 5) inT_1 rfl (by rw [ht]; exact tbm 102 (by decide +kernel) rfl) (by decide) hi rfl (by decide) rfl (by decide) (by rw [← hv]; rfl) hdg k
set_option maxRecDepth 100000 in
theorem fg_X1_58 {i : Nat} {v : Int32} (hv : M 1 i 6 = v) (ht : t.1 = RX1) (hi : i < 3) (hdg : decode t.2.2.1 pc = .ok (.getfield 58, 3)) (k : G t d r M' (pc + 3) L (.inl v :: st) (M, N)) : G t d r M' pc L (.inr (.inr (1, i)) :: st) (M, N) := G_get (ci := 1) (k0 := 6) inT_1 rfl (by rw [ht]; exact tbm 104 (by decide +kernel) rfl) (by decide) hi rfl (by decide) rfl (by decide) (by rw [← hv]; rfl) hdg k
set_option maxRecDepth 100000 in
theorem fg_X1_61 {i : Nat} {v : Int32} (hv : M 1 i 7 = v) (ht : t.1 = RX1) (hi : i < 3) (hdg : decode t.2.2.1 pc = .ok (.getfield 61, 3)) (k : G t d r M' (pc + 3) L (.inl v :: st) (M, N)) : G t d r M' pc L (.inr (.inr (1, i)) :: st) (M, N) := G_get (ci := 1) (k0 := 7) inT_1 rfl (by rw [ht]; exact tbm 106 (by decide +kernel) rfl) (by decide) hi rfl (by decide) rfl (by decide) (by rw [← hv]; rfl) hdg k
set_option maxRecDepth 100000 in
theorem fg_X1_85 {i : Nat} {v : Int32} (hv : M 3 i 2 = v) (ht : t.1 = RX1) (hi : i < 30) (hdg : decode t.2.2.1 pc = .ok (.getfield 85, 3)) (k : G t d r M' (pc + 3) L (.inl v :: st) (M, N)) : G t d r M' pc L (.inr (.inr (3, i)) :: st) (M, N) := G_get (ci := 3) (k0 := 2) inT_3 rfl (by rw [ht]; exact tbm 63 (by decide +kernel) rfl) (by decide) hi rfl (by decide) rfl (by decide) (by rw [← hv]; rfl) hdg k
set_option maxRecDepth 100000 in
theorem fg_X1_96 {i : Nat} {v : Int32} (hv : M 3 i 3 = v) (ht : t.1 = RX1) (hi : i < 30) (hdg : decode t.2.2.1 pc = .ok (.getfield 96, 3)) (k : G t d r M' (pc + 3) L (.inl v :: st) (M, N)) : G t d r M' pc L (.inr (.inr (3, i)) :: st) (M, N) := G_get (ci := 3) (k0 := 3) inT_3 rfl (by rw [ht]; exact tbm 66 (by decide +kernel) rfl) (by decide) hi rfl (by decide) rfl (by decide) (by rw [← hv]; rfl) hdg k
set_option maxRecDepth 100000 in
theorem fg_X1_116 {i : Nat} {v : Int32} (hv : M 3 i 6 = v) (ht : t.1 = RX1) (hi : i < 30) (hdg : decode t.2.2.1 pc = .ok (.getfield 116, 3)) (k : G t d r M' (pc + 3) L (.inl v :: st) (M, N)) : G t d r M' pc L (.inr (.inr (3, i)) :: st) (M, N) := G_get (ci := 3) (k0 := 6) inT_3 rfl (by rw [ht]; exact tbm 73 (by decide +kernel) rfl) (by decide) hi rfl (by decide) rfl (by decide) (by rw [← hv]; rfl) hdg k
set_option maxRecDepth 100000 in
theorem fg_X1_119 {i : Nat} {v : Int32} (hv : nbZ (M 3 i 7) = v) (ht : t.1 = RX1) (hi : i < 30) (hdg : decode t.2.2.1 pc = .ok (.getfield 119, 3)) (k : G t d r M' (pc + 3) L (.inl v :: st) (M, N)) : G t d r M' pc L (.inr (.inr (3, i)) :: st) (M, N) := G_get (ci := 3) (k0 := 7) inT_3 rfl (by rw [ht]; exact tbm 76 (by decide +kernel) rfl) (by decide) hi rfl (by decide) rfl (by decide) (by rw [← hv]; rfl) hdg k
set_option maxRecDepth 100000 in
theorem fg_X2_9 {i : Nat} (ht : t.1 = RX2) (hi : i < 7) (hdg : decode t.2.2.1 pc = .ok (.getfield 9, 3)) (k : G t d r M' (pc + 3) L (.inr (.inr (13, i)) :: st) (M, N)) : G t d r M' pc L (.inr (.inr (2, i)) :: st) (M, N) := G_get (ci := 2) (k0 := 0) inT_2 rfl (by rw [ht]; exact tbm 36 (by decide +kernel) rfl) (by decide) hi rfl (by decide) rfl (by decide) rfl hdg k
set_option maxRecDepth 100000 in
theorem fg_X2_15 {i : Nat} (ht : t.1 = RX2) (hi : i < 7) (hdg : decode t.2.2.1 pc = .ok (.getfield 15, 3)) (k : G t d r M' (pc + 3) L (.inr (.inr (14, i)) :: st) (M, N)) : G t d r M' pc L (.inr (.inr (2, i)) :: st) (M, N) := G_get (ci := 2) (k0 := 1) inT_2 rfl (by rw [ht]; exact tbm 37 (by decide +kernel) rfl) (by decide) hi rfl (by decide) rfl (by decide) rfl hdg k
set_option maxRecDepth 100000 in
theorem fg_X2_18 {i : Nat} {v : Int32} (hv : M 2 i 2 = v) (ht : t.1 = RX2) (hi : i < 7) (hdg : decode t.2.2.1 pc = .ok (.getfield 18, 3)) (k : G t d r M' (pc + 3) L (.inl v :: st) (M, N)) : G t d r M' pc L (.inr (.inr (2, i)) :: st) (M, N) := G_get (ci := 2) (k0 := 2) inT_2 rfl (by rw [ht]; exact tbm 38 (by decide +kernel) rfl) (by decide) hi rfl (by decide) rfl (by decide) (by rw [← hv]; rfl) hdg k
set_option maxRecDepth 100000 in
theorem fg_X3_9 {i : Nat} {v : Int32} (hv : M 3 i 0 = v) (ht : t.1 = RX3) (hi : i < 30) (hdg : decode t.2.2.1 pc = .ok (.getfield 9, 3)) (k : G t d r M' (pc + 3) L (.inl v :: st) (M, N)) : G t d r M' pc L (.inr (.inr (3, i)) :: st) (M, N) := G_get (ci := 3) (k0 := 0) inT_3 rfl (by rw [ht]; exact tbm 55 (by decide +kernel) rfl) (by decide) hi rfl (by decide) rfl (by decide) (by rw [← hv]; rfl) hdg k
set_option maxRecDepth 100000 in
theorem fg_X3_15 {i : Nat} {v : Int32} (hv : M 3 i 1 = v) (ht : t.1 = RX3) (hi : i < 30) (hdg : decode t.2.2.1 pc = .ok (.getfield 15, 3)) (k : G t d r M' (pc + 3) L (.inl v :: st) (M, N)) : G t d r M' pc L (.inr (.inr (3, i)) :: st) (M, N) := G_get (ci := 3) (k0 := 1) inT_3 rfl (by rw [ht]; exact tbm 58 (by decide +kernel) rfl) (by decide) hi rfl (by decide) rfl (by decide) (by rw [← hv]; rfl) hdg k
set_option maxRecDepth 100000 in
theorem fg_X3_18 {i : Nat} {v : Int32} (hv : M 3 i 2 = v) (ht : t.1 = RX3) (hi : i < 30) (hdg : decode t.2.2.1 pc = .ok (.getfield 18, 3)) (k : G t d r M' (pc + 3) L (.inl v :: st) (M, N)) : G t d r M' pc L (.inr (.inr (3, i)) :: st) (M, N) := G_get (ci := 3) (k0 := 2) inT_3 rfl (by rw [ht]; exact tbm 61 (by decide +kernel) rfl) (by decide) hi rfl (by decide) rfl (by decide) (by rw [← hv]; rfl) hdg k
set_option maxRecDepth 100000 in
theorem fg_X3_21 {i : Nat} {v : Int32} (hv : M 3 i 3 = v) (ht : t.1 = RX3) (hi : i < 30) (hdg : decode t.2.2.1 pc = .ok (.getfield 21, 3)) (k : G t d r M' (pc + 3) L (.inl v :: st) (M, N)) : G t d r M' pc L (.inr (.inr (3, i)) :: st) (M, N) := G_get (ci := 3) (k0 := 3) inT_3 rfl (by rw [ht]; exact tbm 64 (by decide +kernel) rfl) (by decide) hi rfl (by decide) rfl (by decide) (by rw [← hv]; rfl) hdg k
set_option maxRecDepth 100000 in
theorem fg_X3_24 {i : Nat} {v : Int32} (hv : M 3 i 4 = v) (ht : t.1 = RX3) (hi : i < 30) (hdg : decode t.2.2.1 pc = .ok (.getfield 24, 3)) (k : G t d r M' (pc + 3) L (.inl v :: st) (M, N)) : G t d r M' pc L (.inr (.inr (3, i)) :: st) (M, N) := G_get (ci := 3) (k0 := 4) inT_3 rfl (by rw [ht]; exact tbm 67 (by decide +kernel) rfl) (by decide) hi rfl (by decide) rfl (by decide) (by rw [← hv]; rfl) hdg k
set_option maxRecDepth 100000 in
theorem fg_X3_27 {i : Nat} {v : Int32} (hv : M 3 i 5 = v) (ht : t.1 = RX3) (hi : i < 30) (hdg : decode t.2.2.1 pc = .ok (.getfield 27, 3)) (k : G t d r M' (pc + 3) L (.inl v :: st) (M, N)) : G t d r M' pc L (.inr (.inr (3, i)) :: st) (M, N) := G_get (ci := 3) (k0 := 5) inT_3 rfl (by rw [ht]; exact tbm 69 (by decide +kernel) rfl) (by decide) hi rfl (by decide) rfl (by decide) (by rw [← hv]; rfl) hdg k
set_option maxRecDepth 100000 in
theorem fg_X3_30 {i : Nat} {v : Int32} (hv : M 3 i 6 = v) (ht : t.1 = RX3) (hi : i < 30) (hdg : decode t.2.2.1 pc = .ok (.getfield 30, 3)) (k : G t d r M' (pc + 3) L (.inl v :: st) (M, N)) : G t d r M' pc L (.inr (.inr (3, i)) :: st) (M, N) := G_get (ci := 3) (k0 := 6) inT_3 rfl (by rw [ht]; exact tbm 71 (by decide +kernel) rfl) (by decide) hi rfl (by decide) rfl (by decide) (by rw [← hv]; rfl) hdg k
set_option maxRecDepth 100000 in
theorem fg_X3_33 {i : Nat} {v : Int32} (hv : nbZ (M 3 i 7) = v) (ht : t.1 = RX3) (hi : i < 30) (hdg : decode t.2.2.1 pc = .ok (.getfield 33, 3)) (k : G t d r M' (pc + 3) L (.inl v :: st) (M, N)) : G t d r M' pc L (.inr (.inr (3, i)) :: st) (M, N) := G_get (ci := 3) (k0 := 7) inT_3 rfl (by rw [ht]; exact tbm 74 (by decide +kernel) rfl) (by decide) hi rfl (by decide) rfl (by decide) (by rw [← hv]; rfl) hdg k
set_option maxRecDepth 100000 in
theorem fg_X4_12 {i : Nat} (ht : t.1 = RX4) (hi : i < 1) (hdg : decode t.2.2.1 pc = .ok (.getfield 12, 3)) (k : G t d r M' (pc + 3) L (.inr (.inr (2, 6)) :: st) (M, N)) : G t d r M' pc L (.inr (.inr (4, i)) :: st) (M, N) := G_get (ci := 4) (k0 := 0) inT_4 rfl (by rw [ht]; exact tbm 163 (by decide +kernel) rfl) (by decide) hi rfl (by decide) rfl (by decide) rfl hdg k
set_option maxRecDepth 100000 in
theorem fg_X4_18 {i : Nat} (ht : t.1 = RX4) (hi : i < 1) (hdg : decode t.2.2.1 pc = .ok (.getfield 18, 3)) (k : G t d r M' (pc + 3) L (.inr (.inr (0, 0)) :: st) (M, N)) : G t d r M' pc L (.inr (.inr (4, i)) :: st) (M, N) := G_get (ci := 4) (k0 := 1) inT_4 rfl (by rw [ht]; exact tbm 165 (by decide +kernel) rfl) (by decide) hi rfl (by decide) rfl (by decide) rfl hdg k
set_option maxRecDepth 100000 in
theorem fg_X4_22 {i : Nat} {v : Int32} (hv : M 4 i 2 = v) (ht : t.1 = RX4) (hi : i < 1) (hdg : decode t.2.2.1 pc = .ok (.getfield 22, 3)) (k : G t d r M' (pc + 3) L (.inl v :: st) (M, N)) : G t d r M' pc L (.inr (.inr (4, i)) :: st) (M, N) := G_get (ci := 4) (k0 := 2) inT_4 rfl (by rw [ht]; exact tbm 166 (by decide +kernel) rfl) (by decide) hi rfl (by decide) rfl (by decide) (by rw [← hv]; rfl) hdg k
set_option maxRecDepth 100000 in
theorem fg_X4_26 {i : Nat} {v : Int32} (hv : M 4 i 3 = v) (ht : t.1 = RX4) (hi : i < 1) (hdg : decode t.2.2.1 pc = .ok (.getfield 26, 3)) (k : G t d r M' (pc + 3) L (.inl v :: st) (M, N)) : G t d r M' pc L (.inr (.inr (4, i)) :: st) (M, N) := G_get (ci := 4) (k0 := 3) inT_4 rfl (by rw [ht]; exact tbm 167 (by decide +kernel) rfl) (by decide) hi rfl (by decide) rfl (by decide) (by rw [← hv]; rfl) hdg k
set_option maxRecDepth 100000 in
theorem fg_X4_36 {i : Nat} {v : Int32} (hv : M 0 i 2 = v) (ht : t.1 = RX4) (hi : i < 2) (hdg : decode t.2.2.1 pc = .ok (.getfield 36, 3)) (k : G t d r M' (pc + 3) L (.inl v :: st) (M, N)) : G t d r M' pc L (.inr (.inr (0, i)) :: st) (M, N) := G_get (ci := 0) (k0 := 2) inT_0 rfl (by rw [ht]; exact tbm 137 (by decide +kernel) rfl) (by decide) hi rfl (by decide) rfl (by decide) (by rw [← hv]; rfl) hdg k
set_option maxRecDepth 100000 in
theorem fg_X4_41 {i : Nat} (ht : t.1 = RX4) (hi : i < 2) (hdg : decode t.2.2.1 pc = .ok (.getfield 41, 3)) (k : G t d r M' (pc + 3) L (.inr (.inr (8, i)) :: st) (M, N)) : G t d r M' pc L (.inr (.inr (0, i)) :: st) (M, N) := G_get (ci := 0) (k0 := 0) inT_0 rfl (by rw [ht]; exact tbm 132 (by decide +kernel) rfl) (by decide) hi rfl (by decide) rfl (by decide) rfl hdg k
set_option maxRecDepth 100000 in
theorem fg_X5_9 {i : Nat} (ht : t.1 = RX5) (hi : i < 4) (hdg : decode t.2.2.1 pc = .ok (.getfield 9, 3)) (k : G t d r M' (pc + 3) L (.inr (.inr (15, i)) :: st) (M, N)) : G t d r M' pc L (.inr (.inr (5, i)) :: st) (M, N) := G_get (ci := 5) (k0 := 0) inT_5 rfl (by rw [ht]; exact tbm 209 (by decide +kernel) rfl) (by decide) hi rfl (by decide) rfl (by decide) rfl hdg k
set_option maxRecDepth 100000 in
theorem fg_X5_15 {i : Nat} {v : Int32} (hv : M 5 i 1 = v) (ht : t.1 = RX5) (hi : i < 4) (hdg : decode t.2.2.1 pc = .ok (.getfield 15, 3)) (k : G t d r M' (pc + 3) L (.inl v :: st) (M, N)) : G t d r M' pc L (.inr (.inr (5, i)) :: st) (M, N) := G_get (ci := 5) (k0 := 1) inT_5 rfl (by rw [ht]; exact tbm 211 (by decide +kernel) rfl) (by decide) hi rfl (by decide) rfl (by decide) (by rw [← hv]; rfl) hdg k
set_option maxRecDepth 100000 in
theorem fg_X5_19 {i : Nat} {v : Int32} (hv : M 5 i 2 = v) (ht : t.1 = RX5) (hi : i < 4) (hdg : decode t.2.2.1 pc = .ok (.getfield 19, 3)) (k : G t d r M' (pc + 3) L (.inl v :: st) (M, N)) : G t d r M' pc L (.inr (.inr (5, i)) :: st) (M, N) := G_get (ci := 5) (k0 := 2) inT_5 rfl (by rw [ht]; exact tbm 213 (by decide +kernel) rfl) (by decide) hi rfl (by decide) rfl (by decide) (by rw [← hv]; rfl) hdg k
set_option maxRecDepth 100000 in
theorem fg_X6_9 {i : Nat} (ht : t.1 = RX6) (hi : i < 1) (hdg : decode t.2.2.1 pc = .ok (.getfield 9, 3)) (k : G t d r M' (pc + 3) L (.inr (.inr (16, i)) :: st) (M, N)) : G t d r M' pc L (.inr (.inr (6, i)) :: st) (M, N) := G_get (ci := 6) (k0 := 0) inT_6 rfl (by rw [ht]; exact tbm 184 (by decide +kernel) rfl) (by decide) hi rfl (by decide) rfl (by decide) rfl hdg k
set_option maxRecDepth 100000 in
theorem fg_X6_15 {i : Nat} {v : Int32} (hv : M 6 i 1 = v) (ht : t.1 = RX6) (hi : i < 1) (hdg : decode t.2.2.1 pc = .ok (.getfield 15, 3)) (k : G t d r M' (pc + 3) L (.inl v :: st) (M, N)) : G t d r M' pc L (.inr (.inr (6, i)) :: st) (M, N) := G_get (ci := 6) (k0 := 1) inT_6 rfl (by rw [ht]; exact tbm 186 (by decide +kernel) rfl) (by decide) hi rfl (by decide) rfl (by decide) (by rw [← hv]; rfl) hdg k
set_option maxRecDepth 100000 in
theorem fg_X6_19 {i : Nat} {v : Int32} (hv : M 3 i 0 = v) (ht : t.1 = RX6) (hi : i < 30) (hdg : decode t.2.2.1 pc = .ok (.getfield 19, 3)) (k : G t d r M' (pc + 3) L (.inl v :: st) (M, N)) : G t d r M' pc L (.inr (.inr (3, i)) :: st) (M, N) := G_get (ci := 3) (k0 := 0) inT_3 rfl (by rw [ht]; exact tbm 56 (by decide +kernel) rfl) (by decide) hi rfl (by decide) rfl (by decide) (by rw [← hv]; rfl) hdg k
set_option maxRecDepth 100000 in
theorem fg_X6_24 {i : Nat} {v : Int32} (hv : M 6 i 2 = v) (ht : t.1 = RX6) (hi : i < 1) (hdg : decode t.2.2.1 pc = .ok (.getfield 24, 3)) (k : G t d r M' (pc + 3) L (.inl v :: st) (M, N)) : G t d r M' pc L (.inr (.inr (6, i)) :: st) (M, N) := G_get (ci := 6) (k0 := 2) inT_6 rfl (by rw [ht]; exact tbm 188 (by decide +kernel) rfl) (by decide) hi rfl (by decide) rfl (by decide) (by rw [← hv]; rfl) hdg k
set_option maxRecDepth 100000 in
theorem fg_X6_25 {i : Nat} {v : Int32} (hv : M 6 i 3 = v) (ht : t.1 = RX6) (hi : i < 1) (hdg : decode t.2.2.1 pc = .ok (.getfield 25, 3)) (k : G t d r M' (pc + 3) L (.inl v :: st) (M, N)) : G t d r M' pc L (.inr (.inr (6, i)) :: st) (M, N) := G_get (ci := 6) (k0 := 3) inT_6 rfl (by rw [ht]; exact tbm 189 (by decide +kernel) rfl) (by decide) hi rfl (by decide) rfl (by decide) (by rw [← hv]; rfl) hdg k
set_option maxRecDepth 100000 in
theorem fg_X6_28 {i : Nat} {v : Int32} (hv : M 3 i 1 = v) (ht : t.1 = RX6) (hi : i < 30) (hdg : decode t.2.2.1 pc = .ok (.getfield 28, 3)) (k : G t d r M' (pc + 3) L (.inl v :: st) (M, N)) : G t d r M' pc L (.inr (.inr (3, i)) :: st) (M, N) := G_get (ci := 3) (k0 := 1) inT_3 rfl (by rw [ht]; exact tbm 59 (by decide +kernel) rfl) (by decide) hi rfl (by decide) rfl (by decide) (by rw [← hv]; rfl) hdg k
set_option maxRecDepth 100000 in
theorem fg_X6_31 {i : Nat} {v : Int32} (hv : M 6 i 4 = v) (ht : t.1 = RX6) (hi : i < 1) (hdg : decode t.2.2.1 pc = .ok (.getfield 31, 3)) (k : G t d r M' (pc + 3) L (.inl v :: st) (M, N)) : G t d r M' pc L (.inr (.inr (6, i)) :: st) (M, N) := G_get (ci := 6) (k0 := 4) inT_6 rfl (by rw [ht]; exact tbm 190 (by decide +kernel) rfl) (by decide) hi rfl (by decide) rfl (by decide) (by rw [← hv]; rfl) hdg k
set_option maxRecDepth 100000 in
theorem fg_X8_7 {i : Nat} (ht : t.1 = RX8) (hi : i < 1) (hdg : decode t.2.2.1 pc = .ok (.getfield 7, 3)) (k : G t d r M' (pc + 3) L (.inr (.inr (20, 0)) :: st) (N, M)) : G t d r M' pc L (.inr (.inr (19, i)) :: st) (N, M) := G_get (ci := 8) (k0 := 0) inT_8 rfl (by rw [ht]; exact tbm 685 (by decide +kernel) rfl) (by decide) hi rfl (by decide) rfl (by decide) rfl hdg k
set_option maxRecDepth 100000 in
theorem fg_X8_13 {i : Nat} (ht : t.1 = RX8) (hi : i < 1) (hdg : decode t.2.2.1 pc = .ok (.getfield 13, 3)) (k : G t d r M' (pc + 3) L (.inr (.inr (21, 0)) :: st) (N, M)) : G t d r M' pc L (.inr (.inr (19, i)) :: st) (N, M) := G_get (ci := 8) (k0 := 1) inT_8 rfl (by rw [ht]; exact tbm 686 (by decide +kernel) rfl) (by decide) hi rfl (by decide) rfl (by decide) rfl hdg k
set_option maxRecDepth 100000 in
theorem fg_X8_16 {i : Nat} (ht : t.1 = RX8) (hi : i < 1) (hdg : decode t.2.2.1 pc = .ok (.getfield 16, 3)) (k : G t d r M' (pc + 3) L (.inr (.inr (22, 0)) :: st) (N, M)) : G t d r M' pc L (.inr (.inr (19, i)) :: st) (N, M) := G_get (ci := 8) (k0 := 2) inT_8 rfl (by rw [ht]; exact tbm 687 (by decide +kernel) rfl) (by decide) hi rfl (by decide) rfl (by decide) rfl hdg k
set_option maxRecDepth 100000 in
theorem fg_X8_19 {i : Nat} (ht : t.1 = RX8) (hi : i < 1) (hdg : decode t.2.2.1 pc = .ok (.getfield 19, 3)) (k : G t d r M' (pc + 3) L (.inr (.inr (23, 0)) :: st) (N, M)) : G t d r M' pc L (.inr (.inr (19, i)) :: st) (N, M) := G_get (ci := 8) (k0 := 4) inT_8 rfl (by rw [ht]; exact tbm 689 (by decide +kernel) rfl) (by decide) hi rfl (by decide) rfl (by decide) rfl hdg k
set_option maxRecDepth 100000 in
theorem fg_X8_22 {i : Nat} (ht : t.1 = RX8) (hi : i < 1) (hdg : decode t.2.2.1 pc = .ok (.getfield 22, 3)) (k : G t d r M' (pc + 3) L (.inr (.inr (24, 0)) :: st) (N, M)) : G t d r M' pc L (.inr (.inr (19, i)) :: st) (N, M) := G_get (ci := 8) (k0 := 11) inT_8 rfl (by rw [ht]; exact tbm 696 (by decide +kernel) rfl) (by decide) hi rfl (by decide) rfl (by decide) rfl hdg k
set_option maxRecDepth 100000 in
theorem fg_X8_25 {i : Nat} (ht : t.1 = RX8) (hi : i < 1) (hdg : decode t.2.2.1 pc = .ok (.getfield 25, 3)) (k : G t d r M' (pc + 3) L (.inr (.inr (25, 0)) :: st) (N, M)) : G t d r M' pc L (.inr (.inr (19, i)) :: st) (N, M) := G_get (ci := 8) (k0 := 12) inT_8 rfl (by rw [ht]; exact tbm 697 (by decide +kernel) rfl) (by decide) hi rfl (by decide) rfl (by decide) rfl hdg k
set_option maxRecDepth 100000 in
theorem fg_X8_28 {i : Nat} (ht : t.1 = RX8) (hi : i < 1) (hdg : decode t.2.2.1 pc = .ok (.getfield 28, 3)) (k : G t d r M' (pc + 3) L (.inr (.inr (26, 0)) :: st) (N, M)) : G t d r M' pc L (.inr (.inr (19, i)) :: st) (N, M) := G_get (ci := 8) (k0 := 14) inT_8 rfl (by rw [ht]; exact tbm 699 (by decide +kernel) rfl) (by decide) hi rfl (by decide) rfl (by decide) rfl hdg k
set_option maxRecDepth 100000 in
theorem fg_X8_31 {i : Nat} (ht : t.1 = RX8) (hi : i < 1) (hdg : decode t.2.2.1 pc = .ok (.getfield 31, 3)) (k : G t d r M' (pc + 3) L (.inr (.inr (27, 0)) :: st) (N, M)) : G t d r M' pc L (.inr (.inr (19, i)) :: st) (N, M) := G_get (ci := 8) (k0 := 15) inT_8 rfl (by rw [ht]; exact tbm 700 (by decide +kernel) rfl) (by decide) hi rfl (by decide) rfl (by decide) rfl hdg k
set_option maxRecDepth 100000 in
theorem fg_X8_34 {i : Nat} (ht : t.1 = RX8) (hi : i < 1) (hdg : decode t.2.2.1 pc = .ok (.getfield 34, 3)) (k : G t d r M' (pc + 3) L (.inr (.inr (28, 0)) :: st) (N, M)) : G t d r M' pc L (.inr (.inr (19, i)) :: st) (N, M) := G_get (ci := 8) (k0 := 18) inT_8 rfl (by rw [ht]; exact tbm 703 (by decide +kernel) rfl) (by decide) hi rfl (by decide) rfl (by decide) rfl hdg k
set_option maxRecDepth 100000 in
theorem fg_X8_37 {i : Nat} (ht : t.1 = RX8) (hi : i < 1) (hdg : decode t.2.2.1 pc = .ok (.getfield 37, 3)) (k : G t d r M' (pc + 3) L (.inr (.inr (29, 0)) :: st) (N, M)) : G t d r M' pc L (.inr (.inr (19, i)) :: st) (N, M) := G_get (ci := 8) (k0 := 19) inT_8 rfl (by rw [ht]; exact tbm 704 (by decide +kernel) rfl) (by decide) hi rfl (by decide) rfl (by decide) rfl hdg k
set_option maxRecDepth 100000 in
theorem fg_X8_40 {i : Nat} (ht : t.1 = RX8) (hi : i < 1) (hdg : decode t.2.2.1 pc = .ok (.getfield 40, 3)) (k : G t d r M' (pc + 3) L (.inr (.inr (30, 0)) :: st) (N, M)) : G t d r M' pc L (.inr (.inr (19, i)) :: st) (N, M) := G_get (ci := 8) (k0 := 20) inT_8 rfl (by rw [ht]; exact tbm 705 (by decide +kernel) rfl) (by decide) hi rfl (by decide) rfl (by decide) rfl hdg k
set_option maxRecDepth 100000 in
theorem fg_X8_43 {i : Nat} (ht : t.1 = RX8) (hi : i < 1) (hdg : decode t.2.2.1 pc = .ok (.getfield 43, 3)) (k : G t d r M' (pc + 3) L (.inr (.inr (31, 0)) :: st) (N, M)) : G t d r M' pc L (.inr (.inr (19, i)) :: st) (N, M) := G_get (ci := 8) (k0 := 21) inT_8 rfl (by rw [ht]; exact tbm 706 (by decide +kernel) rfl) (by decide) hi rfl (by decide) rfl (by decide) rfl hdg k
set_option maxRecDepth 100000 in
theorem fg_X8_57 {i : Nat} {v : Int32} (hv : M 19 i 6 = v) (ht : t.1 = RX8) (hi : i < 1) (hdg : decode t.2.2.1 pc = .ok (.getfield 57, 3)) (k : G t d r M' (pc + 3) L (.inl v :: st) (N, M)) : G t d r M' pc L (.inr (.inr (19, i)) :: st) (N, M) := G_get (ci := 8) (k0 := 6) inT_8 rfl (by rw [ht]; exact tbm 691 (by decide +kernel) rfl) (by decide) hi rfl (by decide) rfl (by decide) (by rw [← hv]; rfl) hdg k
set_option maxRecDepth 100000 in
theorem fg_X8_61 {i : Nat} {v : Int32} (hv : M 19 i 7 = v) (ht : t.1 = RX8) (hi : i < 1) (hdg : decode t.2.2.1 pc = .ok (.getfield 61, 3)) (k : G t d r M' (pc + 3) L (.inl v :: st) (N, M)) : G t d r M' pc L (.inr (.inr (19, i)) :: st) (N, M) := G_get (ci := 8) (k0 := 7) inT_8 rfl (by rw [ht]; exact tbm 692 (by decide +kernel) rfl) (by decide) hi rfl (by decide) rfl (by decide) (by rw [← hv]; rfl) hdg k
set_option maxRecDepth 100000 in
theorem fg_X8_64 {i : Nat} {v : Int32} (hv : M 19 i 8 = v) (ht : t.1 = RX8) (hi : i < 1) (hdg : decode t.2.2.1 pc = .ok (.getfield 64, 3)) (k : G t d r M' (pc + 3) L (.inl v :: st) (N, M)) : G t d r M' pc L (.inr (.inr (19, i)) :: st) (N, M) := G_get (ci := 8) (k0 := 8) inT_8 rfl (by rw [ht]; exact tbm 693 (by decide +kernel) rfl) (by decide) hi rfl (by decide) rfl (by decide) (by rw [← hv]; rfl) hdg k
set_option maxRecDepth 100000 in
theorem fg_X8_67 {i : Nat} {v : Int32} (hv : M 19 i 5 = v) (ht : t.1 = RX8) (hi : i < 1) (hdg : decode t.2.2.1 pc = .ok (.getfield 67, 3)) (k : G t d r M' (pc + 3) L (.inl v :: st) (N, M)) : G t d r M' pc L (.inr (.inr (19, i)) :: st) (N, M) := G_get (ci := 8) (k0 := 5) inT_8 rfl (by rw [ht]; exact tbm 690 (by decide +kernel) rfl) (by decide) hi rfl (by decide) rfl (by decide) (by rw [← hv]; rfl) hdg k
set_option maxRecDepth 100000 in
theorem fg_X8_74 {i : Nat} {v : Int32} (hv : nbZ (M 19 i 10) = v) (ht : t.1 = RX8) (hi : i < 1) (hdg : decode t.2.2.1 pc = .ok (.getfield 74, 3)) (k : G t d r M' (pc + 3) L (.inl v :: st) (N, M)) : G t d r M' pc L (.inr (.inr (19, i)) :: st) (N, M) := G_get (ci := 8) (k0 := 10) inT_8 rfl (by rw [ht]; exact tbm 695 (by decide +kernel) rfl) (by decide) hi rfl (by decide) rfl (by decide) (by rw [← hv]; rfl) hdg k
set_option maxRecDepth 100000 in
theorem fg_X8_78 {i : Nat} {v : Int32} (hv : M 19 i 13 = v) (ht : t.1 = RX8) (hi : i < 1) (hdg : decode t.2.2.1 pc = .ok (.getfield 78, 3)) (k : G t d r M' (pc + 3) L (.inl v :: st) (N, M)) : G t d r M' pc L (.inr (.inr (19, i)) :: st) (N, M) := G_get (ci := 8) (k0 := 13) inT_8 rfl (by rw [ht]; exact tbm 698 (by decide +kernel) rfl) (by decide) hi rfl (by decide) rfl (by decide) (by rw [← hv]; rfl) hdg k
set_option maxRecDepth 100000 in
theorem fg_X8_104 {i : Nat} {v : Int32} (hv : M 19 i 9 = v) (ht : t.1 = RX8) (hi : i < 1) (hdg : decode t.2.2.1 pc = .ok (.getfield 104, 3)) (k : G t d r M' (pc + 3) L (.inl v :: st) (N, M)) : G t d r M' pc L (.inr (.inr (19, i)) :: st) (N, M) := G_get (ci := 8) (k0 := 9) inT_8 rfl (by rw [ht]; exact tbm 694 (by decide +kernel) rfl) (by decide) hi rfl (by decide) rfl (by decide) (by rw [← hv]; rfl) hdg k
set_option maxRecDepth 100000 in
theorem fg_X8_229 {i : Nat} {v : Int32} (hv : M 19 i 16 = v) (ht : t.1 = RX8) (hi : i < 1) (hdg : decode t.2.2.1 pc = .ok (.getfield 229, 3)) (k : G t d r M' (pc + 3) L (.inl v :: st) (N, M)) : G t d r M' pc L (.inr (.inr (19, i)) :: st) (N, M) := G_get (ci := 8) (k0 := 16) inT_8 rfl (by rw [ht]; exact tbm 701 (by decide +kernel) rfl) (by decide) hi rfl (by decide) rfl (by decide) (by rw [← hv]; rfl) hdg k
set_option maxRecDepth 100000 in
theorem fg_X8_235 {i : Nat} {v : Int32} (hv : M 19 i 17 = v) (ht : t.1 = RX8) (hi : i < 1) (hdg : decode t.2.2.1 pc = .ok (.getfield 235, 3)) (k : G t d r M' (pc + 3) L (.inl v :: st) (N, M)) : G t d r M' pc L (.inr (.inr (19, i)) :: st) (N, M) := G_get (ci := 8) (k0 := 17) inT_8 rfl (by rw [ht]; exact tbm 702 (by decide +kernel) rfl) (by decide) hi rfl (by decide) rfl (by decide) (by rw [← hv]; rfl) hdg k
set_option maxRecDepth 100000 in
theorem fg_X8_252 {i : Nat} {v : Int32} (hv : M 19 i 3 = v) (ht : t.1 = RX8) (hi : i < 1) (hdg : decode t.2.2.1 pc = .ok (.getfield 252, 3)) (k : G t d r M' (pc + 3) L (.inl v :: st) (N, M)) : G t d r M' pc L (.inr (.inr (19, i)) :: st) (N, M) := G_get (ci := 8) (k0 := 3) inT_8 rfl (by rw [ht]; exact tbm 688 (by decide +kernel) rfl) (by decide) hi rfl (by decide) rfl (by decide) (by rw [← hv]; rfl) hdg k
set_option maxRecDepth 100000 in
theorem fp_X7_83 {i : Nat} {v : Int32} (ht : t.1 = RX7) (hi : i < 3) (hdg : decode t.2.2.1 pc = .ok (.putfield 83, 3)) (k : G t d r M' (pc + 3) L st (up3 M 1 i 5 v, N)) : G t d r M' pc L (.inl v :: .inr (.inr (1, i)) :: st) (M, N) := G_put (ci := 1) (k0 := 5) (ty0 := tyX1) inT_1 tyX1_ok nmX1 rfl (by rw [ht]; exact tbm 103 (by decide +kernel) rfl) (by decide) hi rfl (by decide) rfl (by decide) rfl (Or.inl ⟨rfl, rfl⟩) rfl rfl hdg k
set_option maxRecDepth 100000 in
theorem fp_X7_100 {i : Nat} {v : Int32} (ht : t.1 = RX7) (hi : i < 30) (hdg : decode t.2.2.1 pc = .ok (.putfield 100, 3)) (k : G t d r M' (pc + 3) L st (up3 M 3 i 0 v, N)) : G t d r M' pc L (.inl v :: .inr (.inr (3, i)) :: st) (M, N) := G_put (ci := 3) (k0 := 0) (ty0 := tyX3) inT_3 tyX3_ok nmX3 rfl (by rw [ht]; exact tbm 57 (by decide +kernel) rfl) (by decide) hi rfl (by decide) rfl (by decide) rfl (Or.inl ⟨rfl, rfl⟩) rfl rfl hdg k
set_option maxRecDepth 100000 in
theorem fp_X7_103 {i : Nat} {v : Int32} (ht : t.1 = RX7) (hi : i < 30) (hdg : decode t.2.2.1 pc = .ok (.putfield 103, 3)) (k : G t d r M' (pc + 3) L st (up3 M 3 i 1 v, N)) : G t d r M' pc L (.inl v :: .inr (.inr (3, i)) :: st) (M, N) := G_put (ci := 3) (k0 := 1) (ty0 := tyX3) inT_3 tyX3_ok nmX3 rfl (by rw [ht]; exact tbm 60 (by decide +kernel) rfl) (by decide) hi rfl (by decide) rfl (by decide) rfl (Or.inl ⟨rfl, rfl⟩) rfl rfl hdg k
set_option maxRecDepth 100000 in
theorem fp_X7_106 {i : Nat} {v : Int32} (ht : t.1 = RX7) (hi : i < 30) (hdg : decode t.2.2.1 pc = .ok (.putfield 106, 3)) (k : G t d r M' (pc + 3) L st (up3 M 3 i 2 v, N)) : G t d r M' pc L (.inl v :: .inr (.inr (3, i)) :: st) (M, N) := G_put (ci := 3) (k0 := 2) (ty0 := tyX3) inT_3 tyX3_ok nmX3 rfl (by rw [ht]; exact tbm 62 (by decide +kernel) rfl) (by decide) hi rfl (by decide) rfl (by decide) rfl (Or.inl ⟨rfl, rfl⟩) rfl rfl hdg k
set_option maxRecDepth 100000 in
theorem fp_X7_109 {i : Nat} {v : Int32} (ht : t.1 = RX7) (hi : i < 30) (hdg : decode t.2.2.1 pc = .ok (.putfield 109, 3)) (k : G t d r M' (pc + 3) L st (up3 M 3 i 3 v, N)) : G t d r M' pc L (.inl v :: .inr (.inr (3, i)) :: st) (M, N) := G_put (ci := 3) (k0 := 3) (ty0 := tyX3) inT_3 tyX3_ok nmX3 rfl (by rw [ht]; exact tbm 65 (by decide +kernel) rfl) (by decide) hi rfl (by decide) rfl (by decide) rfl (Or.inl ⟨rfl, rfl⟩) rfl rfl hdg k
set_option maxRecDepth 100000 in
theorem fp_X7_112 {i : Nat} {v : Int32} (ht : t.1 = RX7) (hi : i < 30) (hdg : decode t.2.2.1 pc = .ok (.putfield 112, 3)) (k : G t d r M' (pc + 3) L st (up3 M 3 i 4 v, N)) : G t d r M' pc L (.inl v :: .inr (.inr (3, i)) :: st) (M, N) := G_put (ci := 3) (k0 := 4) (ty0 := tyX3) inT_3 tyX3_ok nmX3 rfl (by rw [ht]; exact tbm 68 (by decide +kernel) rfl) (by decide) hi rfl (by decide) rfl (by decide) rfl (Or.inl ⟨rfl, rfl⟩) rfl rfl hdg k
set_option maxRecDepth 100000 in
theorem fp_X7_115 {i : Nat} {v : Int32} (ht : t.1 = RX7) (hi : i < 30) (hdg : decode t.2.2.1 pc = .ok (.putfield 115, 3)) (k : G t d r M' (pc + 3) L st (up3 M 3 i 5 v, N)) : G t d r M' pc L (.inl v :: .inr (.inr (3, i)) :: st) (M, N) := G_put (ci := 3) (k0 := 5) (ty0 := tyX3) inT_3 tyX3_ok nmX3 rfl (by rw [ht]; exact tbm 70 (by decide +kernel) rfl) (by decide) hi rfl (by decide) rfl (by decide) rfl (Or.inl ⟨rfl, rfl⟩) rfl rfl hdg k
set_option maxRecDepth 100000 in
theorem fp_X7_146 {i : Nat} {v : Int32} (ht : t.1 = RX7) (hi : i < 2) (hdg : decode t.2.2.1 pc = .ok (.putfield 146, 3)) (k : G t d r M' (pc + 3) L st (up3 M 0 i 2 v, N)) : G t d r M' pc L (.inl v :: .inr (.inr (0, i)) :: st) (M, N) := G_put (ci := 0) (k0 := 2) (ty0 := tyX0) inT_0 tyX0_ok nmX0 rfl (by rw [ht]; exact tbm 138 (by decide +kernel) rfl) (by decide) hi rfl (by decide) rfl (by decide) rfl (Or.inl ⟨rfl, rfl⟩) rfl rfl hdg k
set_option maxRecDepth 100000 in
theorem fp_X7_237 {i : Nat} {v : Int32} (ht : t.1 = RX7) (hi : i < 2) (hdg : decode t.2.2.1 pc = .ok (.putfield 237, 3)) (k : G t d r M' (pc + 3) L st (up3 M 0 i 4 v, N)) : G t d r M' pc L (.inl v :: .inr (.inr (0, i)) :: st) (M, N) := G_put (ci := 0) (k0 := 4) (ty0 := tyX0) inT_0 tyX0_ok nmX0 rfl (by rw [ht]; exact tbm 142 (by decide +kernel) rfl) (by decide) hi rfl (by decide) rfl (by decide) rfl (Or.inl ⟨rfl, rfl⟩) rfl rfl hdg k
set_option maxRecDepth 100000 in
theorem fp_X7_279 {i : Nat} {v : Int32} (ht : t.1 = RX7) (hi : i < 1) (hdg : decode t.2.2.1 pc = .ok (.putfield 279, 3)) (k : G t d r M' (pc + 3) L st (up3 M 7 i 9 v, N)) : G t d r M' pc L (.inl v :: .inr (.inr (7, i)) :: st) (M, N) := G_put (ci := 7) (k0 := 9) (ty0 := tyX7) inT_7 tyX7_ok nmX7 rfl (by rw [ht]; exact tbm 231 (by decide +kernel) rfl) (by decide) hi rfl (by decide) rfl (by decide) rfl (Or.inl ⟨rfl, rfl⟩) rfl rfl hdg k
set_option maxRecDepth 100000 in
theorem fp_X7_282 {i : Nat} {v : Int32} (ht : t.1 = RX7) (hi : i < 2) (hdg : decode t.2.2.1 pc = .ok (.putfield 282, 3)) (k : G t d r M' (pc + 3) L st (up3 M 0 i 3 v, N)) : G t d r M' pc L (.inl v :: .inr (.inr (0, i)) :: st) (M, N) := G_put (ci := 0) (k0 := 3) (ty0 := tyX0) inT_0 tyX0_ok nmX0 rfl (by rw [ht]; exact tbm 140 (by decide +kernel) rfl) (by decide) hi rfl (by decide) rfl (by decide) rfl (Or.inl ⟨rfl, rfl⟩) rfl rfl hdg k
set_option maxRecDepth 100000 in
theorem fp_X0_19 {i : Nat} {v : Int32} (ht : t.1 = RX0) (hi : i < 2) (hdg : decode t.2.2.1 pc = .ok (.putfield 19, 3)) (k : G t d r M' (pc + 3) L st (up3 M 0 i 4 v, N)) : G t d r M' pc L (.inl v :: .inr (.inr (0, i)) :: st) (M, N) := G_put (ci := 0) (k0 := 4) (ty0 := tyX0) inT_0 tyX0_ok nmX0 rfl (by rw [ht]; exact tbm 141 (by decide +kernel) rfl) (by decide) hi rfl (by decide) rfl (by decide) rfl (Or.inl ⟨rfl, rfl⟩) rfl rfl hdg k
set_option maxRecDepth 100000 in
theorem fp_X0_29 {i : Nat} {v : Int32} (ht : t.1 = RX0) (hi : i < 2) (hdg : decode t.2.2.1 pc = .ok (.putfield 29, 3)) (k : G t d r M' (pc + 3) L st (up3 M 0 i 2 v, N)) : G t d r M' pc L (.inl v :: .inr (.inr (0, i)) :: st) (M, N) := G_put (ci := 0) (k0 := 2) (ty0 := tyX0) inT_0 tyX0_ok nmX0 rfl (by rw [ht]; exact tbm 136 (by decide +kernel) rfl) (by decide) hi rfl (by decide) rfl (by decide) rfl (Or.inl ⟨rfl, rfl⟩) rfl rfl hdg k
set_option maxRecDepth 100000 in
theorem fp_X0_32 {i : Nat} {v : Int32} (ht : t.1 = RX0) (hi : i < 2) (hdg : decode t.2.2.1 pc = .ok (.putfield 32, 3)) (k : G t d r M' (pc + 3) L st (up3 M 0 i 3 v, N)) : G t d r M' pc L (.inl v :: .inr (.inr (0, i)) :: st) (M, N) := G_put (ci := 0) (k0 := 3) (ty0 := tyX0) inT_0 tyX0_ok nmX0 rfl (by rw [ht]; exact tbm 139 (by decide +kernel) rfl) (by decide) hi rfl (by decide) rfl (by decide) rfl (Or.inl ⟨rfl, rfl⟩) rfl rfl hdg k
set_option maxRecDepth 100000 in
theorem fp_X1_47 {i : Nat} {v : Int32} (ht : t.1 = RX1) (hi : i < 3) (hdg : decode t.2.2.1 pc = .ok (.putfield 47, 3)) (k : G t d r M' (pc + 3) L st (up3 M 1 i 5 v, N)) : G t d r M' pc L (.inl v :: .inr (.inr (1, i)) :: st) (M, N) := G_put (ci := 1) (k0 := 5) (ty0 := tyX1) inT_1 tyX1_ok nmX1 rfl (by rw [ht]; exact tbm 102 (by decide +kernel) rfl) (by decide) hi rfl (by decide) rfl (by decide) rfl (Or.inl ⟨rfl, rfl⟩) rfl rfl hdg k
set_option maxRecDepth 100000 in
theorem fp_X1_58 {i : Nat} {v : Int32} (ht : t.1 = RX1) (hi : i < 3) (hdg : decode t.2.2.1 pc = .ok (.putfield 58, 3)) (k : G t d r M' (pc + 3) L st (up3 M 1 i 6 v, N)) : G t d r M' pc L (.inl v :: .inr (.inr (1, i)) :: st) (M, N) := G_put (ci := 1) (k0 := 6) (ty0 := tyX1) inT_1 tyX1_ok nmX1 rfl (by rw [ht]; exact tbm 104 (by decide +kernel) rfl) (by decide) hi rfl (by decide) rfl (by decide) rfl (Or.inl ⟨rfl, rfl⟩) rfl rfl hdg k
set_option maxRecDepth 100000 in
theorem fp_X1_61 {i : Nat} {v : Int32} (ht : t.1 = RX1) (hi : i < 3) (hdg : decode t.2.2.1 pc = .ok (.putfield 61, 3)) (k : G t d r M' (pc + 3) L st (up3 M 1 i 7 v, N)) : G t d r M' pc L (.inl v :: .inr (.inr (1, i)) :: st) (M, N) := G_put (ci := 1) (k0 := 7) (ty0 := tyX1) inT_1 tyX1_ok nmX1 rfl (by rw [ht]; exact tbm 106 (by decide +kernel) rfl) (by decide) hi rfl (by decide) rfl (by decide) rfl (Or.inl ⟨rfl, rfl⟩) rfl rfl hdg k
set_option maxRecDepth 100000 in
theorem fp_X1_85 {i : Nat} {v : Int32} (ht : t.1 = RX1) (hi : i < 30) (hdg : decode t.2.2.1 pc = .ok (.putfield 85, 3)) (k : G t d r M' (pc + 3) L st (up3 M 3 i 2 v, N)) : G t d r M' pc L (.inl v :: .inr (.inr (3, i)) :: st) (M, N) := G_put (ci := 3) (k0 := 2) (ty0 := tyX3) inT_3 tyX3_ok nmX3 rfl (by rw [ht]; exact tbm 63 (by decide +kernel) rfl) (by decide) hi rfl (by decide) rfl (by decide) rfl (Or.inl ⟨rfl, rfl⟩) rfl rfl hdg k
set_option maxRecDepth 100000 in
theorem fp_X2_18 {i : Nat} {v : Int32} (ht : t.1 = RX2) (hi : i < 7) (hdg : decode t.2.2.1 pc = .ok (.putfield 18, 3)) (k : G t d r M' (pc + 3) L st (up3 M 2 i 2 v, N)) : G t d r M' pc L (.inl v :: .inr (.inr (2, i)) :: st) (M, N) := G_put (ci := 2) (k0 := 2) (ty0 := tyX2) inT_2 tyX2_ok nmX2 rfl (by rw [ht]; exact tbm 38 (by decide +kernel) rfl) (by decide) hi rfl (by decide) rfl (by decide) rfl (Or.inl ⟨rfl, rfl⟩) rfl rfl hdg k
set_option maxRecDepth 100000 in
theorem fp_X3_9 {i : Nat} {v : Int32} (ht : t.1 = RX3) (hi : i < 30) (hdg : decode t.2.2.1 pc = .ok (.putfield 9, 3)) (k : G t d r M' (pc + 3) L st (up3 M 3 i 0 v, N)) : G t d r M' pc L (.inl v :: .inr (.inr (3, i)) :: st) (M, N) := G_put (ci := 3) (k0 := 0) (ty0 := tyX3) inT_3 tyX3_ok nmX3 rfl (by rw [ht]; exact tbm 55 (by decide +kernel) rfl) (by decide) hi rfl (by decide) rfl (by decide) rfl (Or.inl ⟨rfl, rfl⟩) rfl rfl hdg k
set_option maxRecDepth 100000 in
theorem fp_X3_15 {i : Nat} {v : Int32} (ht : t.1 = RX3) (hi : i < 30) (hdg : decode t.2.2.1 pc = .ok (.putfield 15, 3)) (k : G t d r M' (pc + 3) L st (up3 M 3 i 1 v, N)) : G t d r M' pc L (.inl v :: .inr (.inr (3, i)) :: st) (M, N) := G_put (ci := 3) (k0 := 1) (ty0 := tyX3) inT_3 tyX3_ok nmX3 rfl (by rw [ht]; exact tbm 58 (by decide +kernel) rfl) (by decide) hi rfl (by decide) rfl (by decide) rfl (Or.inl ⟨rfl, rfl⟩) rfl rfl hdg k
set_option maxRecDepth 100000 in
theorem fp_X3_18 {i : Nat} {v : Int32} (ht : t.1 = RX3) (hi : i < 30) (hdg : decode t.2.2.1 pc = .ok (.putfield 18, 3)) (k : G t d r M' (pc + 3) L st (up3 M 3 i 2 v, N)) : G t d r M' pc L (.inl v :: .inr (.inr (3, i)) :: st) (M, N) := G_put (ci := 3) (k0 := 2) (ty0 := tyX3) inT_3 tyX3_ok nmX3 rfl (by rw [ht]; exact tbm 61 (by decide +kernel) rfl) (by decide) hi rfl (by decide) rfl (by decide) rfl (Or.inl ⟨rfl, rfl⟩) rfl rfl hdg k
set_option maxRecDepth 100000 in
theorem fp_X3_21 {i : Nat} {v : Int32} (ht : t.1 = RX3) (hi : i < 30) (hdg : decode t.2.2.1 pc = .ok (.putfield 21, 3)) (k : G t d r M' (pc + 3) L st (up3 M 3 i 3 v, N)) : G t d r M' pc L (.inl v :: .inr (.inr (3, i)) :: st) (M, N) := G_put (ci := 3) (k0 := 3) (ty0 := tyX3) inT_3 tyX3_ok nmX3 rfl (by rw [ht]; exact tbm 64 (by decide +kernel) rfl) (by decide) hi rfl (by decide) rfl (by decide) rfl (Or.inl ⟨rfl, rfl⟩) rfl rfl hdg k
set_option maxRecDepth 100000 in
theorem fp_X3_24 {i : Nat} {v : Int32} (ht : t.1 = RX3) (hi : i < 30) (hdg : decode t.2.2.1 pc = .ok (.putfield 24, 3)) (k : G t d r M' (pc + 3) L st (up3 M 3 i 4 v, N)) : G t d r M' pc L (.inl v :: .inr (.inr (3, i)) :: st) (M, N) := G_put (ci := 3) (k0 := 4) (ty0 := tyX3) inT_3 tyX3_ok nmX3 rfl (by rw [ht]; exact tbm 67 (by decide +kernel) rfl) (by decide) hi rfl (by decide) rfl (by decide) rfl (Or.inl ⟨rfl, rfl⟩) rfl rfl hdg k
set_option maxRecDepth 100000 in
theorem fp_X3_27 {i : Nat} {v : Int32} (ht : t.1 = RX3) (hi : i < 30) (hdg : decode t.2.2.1 pc = .ok (.putfield 27, 3)) (k : G t d r M' (pc + 3) L st (up3 M 3 i 5 v, N)) : G t d r M' pc L (.inl v :: .inr (.inr (3, i)) :: st) (M, N) := G_put (ci := 3) (k0 := 5) (ty0 := tyX3) inT_3 tyX3_ok nmX3 rfl (by rw [ht]; exact tbm 69 (by decide +kernel) rfl) (by decide) hi rfl (by decide) rfl (by decide) rfl (Or.inl ⟨rfl, rfl⟩) rfl rfl hdg k
set_option maxRecDepth 100000 in
theorem fp_X3_30 {i : Nat} {v : Int32} (ht : t.1 = RX3) (hi : i < 30) (hdg : decode t.2.2.1 pc = .ok (.putfield 30, 3)) (k : G t d r M' (pc + 3) L st (up3 M 3 i 6 v, N)) : G t d r M' pc L (.inl v :: .inr (.inr (3, i)) :: st) (M, N) := G_put (ci := 3) (k0 := 6) (ty0 := tyX3) inT_3 tyX3_ok nmX3 rfl (by rw [ht]; exact tbm 71 (by decide +kernel) rfl) (by decide) hi rfl (by decide) rfl (by decide) rfl (Or.inl ⟨rfl, rfl⟩) rfl rfl hdg k
set_option maxRecDepth 100000 in
theorem fp_X3_33 {i : Nat} {v : Int32} (hz : nbZ v = v) (ht : t.1 = RX3) (hi : i < 30) (hdg : decode t.2.2.1 pc = .ok (.putfield 33, 3)) (k : G t d r M' (pc + 3) L st (up3 M 3 i 7 v, N)) : G t d r M' pc L (.inl v :: .inr (.inr (3, i)) :: st) (M, N) := G_put (ci := 3) (k0 := 7) (ty0 := tyX3) inT_3 tyX3_ok nmX3 rfl (by rw [ht]; exact tbm 74 (by decide +kernel) rfl) (by decide) hi rfl (by decide) rfl (by decide) rfl (Or.inr ⟨hz, rfl⟩) rfl rfl hdg k
set_option maxRecDepth 100000 in
theorem fp_X4_22 {i : Nat} {v : Int32} (ht : t.1 = RX4) (hi : i < 1) (hdg : decode t.2.2.1 pc = .ok (.putfield 22, 3)) (k : G t d r M' (pc + 3) L st (up3 M 4 i 2 v, N)) : G t d r M' pc L (.inl v :: .inr (.inr (4, i)) :: st) (M, N) := G_put (ci := 4) (k0 := 2) (ty0 := tyX4) inT_4 tyX4_ok nmX4 rfl (by rw [ht]; exact tbm 166 (by decide +kernel) rfl) (by decide) hi rfl (by decide) rfl (by decide) rfl (Or.inl ⟨rfl, rfl⟩) rfl rfl hdg k
set_option maxRecDepth 100000 in
theorem fp_X4_26 {i : Nat} {v : Int32} (ht : t.1 = RX4) (hi : i < 1) (hdg : decode t.2.2.1 pc = .ok (.putfield 26, 3)) (k : G t d r M' (pc + 3) L st (up3 M 4 i 3 v, N)) : G t d r M' pc L (.inl v :: .inr (.inr (4, i)) :: st) (M, N) := G_put (ci := 4) (k0 := 3) (ty0 := tyX4) inT_4 tyX4_ok nmX4 rfl (by rw [ht]; exact tbm 167 (by decide +kernel) rfl) (by decide) hi rfl (by decide) rfl (by decide) rfl (Or.inl ⟨rfl, rfl⟩) rfl rfl hdg k
set_option maxRecDepth 100000 in
theorem fp_X5_15 {i : Nat} {v : Int32} (ht : t.1 = RX5) (hi : i < 4) (hdg : decode t.2.2.1 pc = .ok (.putfield 15, 3)) (k : G t d r M' (pc + 3) L st (up3 M 5 i 1 v, N)) : G t d r M' pc L (.inl v :: .inr (.inr (5, i)) :: st) (M, N) := G_put (ci := 5) (k0 := 1) (ty0 := tyX5) inT_5 tyX5_ok nmX5 rfl (by rw [ht]; exact tbm 211 (by decide +kernel) rfl) (by decide) hi rfl (by decide) rfl (by decide) rfl (Or.inl ⟨rfl, rfl⟩) rfl rfl hdg k
set_option maxRecDepth 100000 in
theorem fp_X5_19 {i : Nat} {v : Int32} (ht : t.1 = RX5) (hi : i < 4) (hdg : decode t.2.2.1 pc = .ok (.putfield 19, 3)) (k : G t d r M' (pc + 3) L st (up3 M 5 i 2 v, N)) : G t d r M' pc L (.inl v :: .inr (.inr (5, i)) :: st) (M, N) := G_put (ci := 5) (k0 := 2) (ty0 := tyX5) inT_5 tyX5_ok nmX5 rfl (by rw [ht]; exact tbm 213 (by decide +kernel) rfl) (by decide) hi rfl (by decide) rfl (by decide) rfl (Or.inl ⟨rfl, rfl⟩) rfl rfl hdg k
set_option maxRecDepth 100000 in
theorem fp_X6_15 {i : Nat} {v : Int32} (ht : t.1 = RX6) (hi : i < 1) (hdg : decode t.2.2.1 pc = .ok (.putfield 15, 3)) (k : G t d r M' (pc + 3) L st (up3 M 6 i 1 v, N)) : G t d r M' pc L (.inl v :: .inr (.inr (6, i)) :: st) (M, N) := G_put (ci := 6) (k0 := 1) (ty0 := tyX6) inT_6 tyX6_ok nmX6 rfl (by rw [ht]; exact tbm 186 (by decide +kernel) rfl) (by decide) hi rfl (by decide) rfl (by decide) rfl (Or.inl ⟨rfl, rfl⟩) rfl rfl hdg k
set_option maxRecDepth 100000 in
theorem fp_X6_24 {i : Nat} {v : Int32} (ht : t.1 = RX6) (hi : i < 1) (hdg : decode t.2.2.1 pc = .ok (.putfield 24, 3)) (k : G t d r M' (pc + 3) L st (up3 M 6 i 2 v, N)) : G t d r M' pc L (.inl v :: .inr (.inr (6, i)) :: st) (M, N) := G_put (ci := 6) (k0 := 2) (ty0 := tyX6) inT_6 tyX6_ok nmX6 rfl (by rw [ht]; exact tbm 188 (by decide +kernel) rfl) (by decide) hi rfl (by decide) rfl (by decide) rfl (Or.inl ⟨rfl, rfl⟩) rfl rfl hdg k
set_option maxRecDepth 100000 in
theorem fp_X6_25 {i : Nat} {v : Int32} (ht : t.1 = RX6) (hi : i < 1) (hdg : decode t.2.2.1 pc = .ok (.putfield 25, 3)) (k : G t d r M' (pc + 3) L st (up3 M 6 i 3 v, N)) : G t d r M' pc L (.inl v :: .inr (.inr (6, i)) :: st) (M, N) := G_put (ci := 6) (k0 := 3) (ty0 := tyX6) inT_6 tyX6_ok nmX6 rfl (by rw [ht]; exact tbm 189 (by decide +kernel) rfl) (by decide) hi rfl (by decide) rfl (by decide) rfl (Or.inl ⟨rfl, rfl⟩) rfl rfl hdg k
set_option maxRecDepth 100000 in
theorem fp_X6_31 {i : Nat} {v : Int32} (ht : t.1 = RX6) (hi : i < 1) (hdg : decode t.2.2.1 pc = .ok (.putfield 31, 3)) (k : G t d r M' (pc + 3) L st (up3 M 6 i 4 v, N)) : G t d r M' pc L (.inl v :: .inr (.inr (6, i)) :: st) (M, N) := G_put (ci := 6) (k0 := 4) (ty0 := tyX6) inT_6 tyX6_ok nmX6 rfl (by rw [ht]; exact tbm 190 (by decide +kernel) rfl) (by decide) hi rfl (by decide) rfl (by decide) rfl (Or.inl ⟨rfl, rfl⟩) rfl rfl hdg k
set_option maxRecDepth 100000 in
theorem fp_X8_57 {i : Nat} {v : Int32} (ht : t.1 = RX8) (hi : i < 1) (hdg : decode t.2.2.1 pc = .ok (.putfield 57, 3)) (k : G t d r M' (pc + 3) L st (N, up3 M 19 i 6 v)) : G t d r M' pc L (.inl v :: .inr (.inr (19, i)) :: st) (N, M) := G_put (ci := 8) (k0 := 6) (ty0 := tyX8) inT_8 tyX8_ok nmX8 rfl (by rw [ht]; exact tbm 691 (by decide +kernel) rfl) (by decide) hi rfl (by decide) rfl (by decide) rfl (Or.inl ⟨rfl, rfl⟩) rfl rfl hdg k
set_option maxRecDepth 100000 in
theorem fp_X8_61 {i : Nat} {v : Int32} (ht : t.1 = RX8) (hi : i < 1) (hdg : decode t.2.2.1 pc = .ok (.putfield 61, 3)) (k : G t d r M' (pc + 3) L st (N, up3 M 19 i 7 v)) : G t d r M' pc L (.inl v :: .inr (.inr (19, i)) :: st) (N, M) := G_put (ci := 8) (k0 := 7) (ty0 := tyX8) inT_8 tyX8_ok nmX8 rfl (by rw [ht]; exact tbm 692 (by decide +kernel) rfl) (by decide) hi rfl (by decide) rfl (by decide) rfl (Or.inl ⟨rfl, rfl⟩) rfl rfl hdg k
set_option maxRecDepth 100000 in
theorem fp_X8_64 {i : Nat} {v : Int32} (ht : t.1 = RX8) (hi : i < 1) (hdg : decode t.2.2.1 pc = .ok (.putfield 64, 3)) (k : G t d r M' (pc + 3) L st (N, up3 M 19 i 8 v)) : G t d r M' pc L (.inl v :: .inr (.inr (19, i)) :: st) (N, M) := G_put (ci := 8) (k0 := 8) (ty0 := tyX8) inT_8 tyX8_ok nmX8 rfl (by rw [ht]; exact tbm 693 (by decide +kernel) rfl) (by decide) hi rfl (by decide) rfl (by decide) rfl (Or.inl ⟨rfl, rfl⟩) rfl rfl hdg k
set_option maxRecDepth 100000 in
theorem fp_X8_67 {i : Nat} {v : Int32} (ht : t.1 = RX8) (hi : i < 1) (hdg : decode t.2.2.1 pc = .ok (.putfield 67, 3)) (k : G t d r M' (pc + 3) L st (N, up3 M 19 i 5 v)) : G t d r M' pc L (.inl v :: .inr (.inr (19, i)) :: st) (N, M) := G_put (ci := 8) (k0 := 5) (ty0 := tyX8) inT_8 tyX8_ok nmX8 rfl (by rw [ht]; exact tbm 690 (by decide +kernel) rfl) (by decide) hi rfl (by decide) rfl (by decide) rfl (Or.inl ⟨rfl, rfl⟩) rfl rfl hdg k
set_option maxRecDepth 100000 in
theorem fp_X8_74 {i : Nat} {v : Int32} (hz : nbZ v = v) (ht : t.1 = RX8) (hi : i < 1) (hdg : decode t.2.2.1 pc = .ok (.putfield 74, 3)) (k : G t d r M' (pc + 3) L st (N, up3 M 19 i 10 v)) : G t d r M' pc L (.inl v :: .inr (.inr (19, i)) :: st) (N, M) := G_put (ci := 8) (k0 := 10) (ty0 := tyX8) inT_8 tyX8_ok nmX8 rfl (by rw [ht]; exact tbm 695 (by decide +kernel) rfl) (by decide) hi rfl (by decide) rfl (by decide) rfl (Or.inr ⟨hz, rfl⟩) rfl rfl hdg k
set_option maxRecDepth 100000 in
theorem fp_X8_78 {i : Nat} {v : Int32} (ht : t.1 = RX8) (hi : i < 1) (hdg : decode t.2.2.1 pc = .ok (.putfield 78, 3)) (k : G t d r M' (pc + 3) L st (N, up3 M 19 i 13 v)) : G t d r M' pc L (.inl v :: .inr (.inr (19, i)) :: st) (N, M) := G_put (ci := 8) (k0 := 13) (ty0 := tyX8) inT_8 tyX8_ok nmX8 rfl (by rw [ht]; exact tbm 698 (by decide +kernel) rfl) (by decide) hi rfl (by decide) rfl (by decide) rfl (Or.inl ⟨rfl, rfl⟩) rfl rfl hdg k
set_option maxRecDepth 100000 in
theorem fp_X8_104 {i : Nat} {v : Int32} (ht : t.1 = RX8) (hi : i < 1) (hdg : decode t.2.2.1 pc = .ok (.putfield 104, 3)) (k : G t d r M' (pc + 3) L st (N, up3 M 19 i 9 v)) : G t d r M' pc L (.inl v :: .inr (.inr (19, i)) :: st) (N, M) := G_put (ci := 8) (k0 := 9) (ty0 := tyX8) inT_8 tyX8_ok nmX8 rfl (by rw [ht]; exact tbm 694 (by decide +kernel) rfl) (by decide) hi rfl (by decide) rfl (by decide) rfl (Or.inl ⟨rfl, rfl⟩) rfl rfl hdg k
set_option maxRecDepth 100000 in
theorem fp_X8_229 {i : Nat} {v : Int32} (ht : t.1 = RX8) (hi : i < 1) (hdg : decode t.2.2.1 pc = .ok (.putfield 229, 3)) (k : G t d r M' (pc + 3) L st (N, up3 M 19 i 16 v)) : G t d r M' pc L (.inl v :: .inr (.inr (19, i)) :: st) (N, M) := G_put (ci := 8) (k0 := 16) (ty0 := tyX8) inT_8 tyX8_ok nmX8 rfl (by rw [ht]; exact tbm 701 (by decide +kernel) rfl) (by decide) hi rfl (by decide) rfl (by decide) rfl (Or.inl ⟨rfl, rfl⟩) rfl rfl hdg k
set_option maxRecDepth 100000 in
theorem fp_X8_235 {i : Nat} {v : Int32} (ht : t.1 = RX8) (hi : i < 1) (hdg : decode t.2.2.1 pc = .ok (.putfield 235, 3)) (k : G t d r M' (pc + 3) L st (N, up3 M 19 i 17 v)) : G t d r M' pc L (.inl v :: .inr (.inr (19, i)) :: st) (N, M) := G_put (ci := 8) (k0 := 17) (ty0 := tyX8) inT_8 tyX8_ok nmX8 rfl (by rw [ht]; exact tbm 702 (by decide +kernel) rfl) (by decide) hi rfl (by decide) rfl (by decide) rfl (Or.inl ⟨rfl, rfl⟩) rfl rfl hdg k
set_option maxRecDepth 100000 in
theorem fp_X8_252 {i : Nat} {v : Int32} (ht : t.1 = RX8) (hi : i < 1) (hdg : decode t.2.2.1 pc = .ok (.putfield 252, 3)) (k : G t d r M' (pc + 3) L st (N, up3 M 19 i 3 v)) : G t d r M' pc L (.inl v :: .inr (.inr (19, i)) :: st) (N, M) := G_put (ci := 8) (k0 := 3) (ty0 := tyX8) inT_8 tyX8_ok nmX8 rfl (by rw [ht]; exact tbm 688 (by decide +kernel) rfl) (by decide) hi rfl (by decide) rfl (by decide) rfl (Or.inl ⟨rfl, rfl⟩) rfl rfl hdg k
theorem al_8 {i kk : Nat} {x v : Int32} (hi : i < 2) (hin : ib x 50 = true) (hk : x.toNatClampNeg = kk) (hv : nbB (M 8 i kk) = v) (hdg : decode t.2.2.1 pc = .ok (.baload, 1)) (k : G t d r M' (pc + 1) L (.inl v :: st) (M, N)) : G t d r M' pc L (.inl x :: .inr (.inr (8, i)) :: st) (M, N) := G_bald (by decide) hi (by decide) rfl hin (by rw [hk, ← hv]; rfl) hdg k
theorem as_8 {i kk : Nat} {x v : Int32} (hi : i < 2) (hin : ib x 50 = true) (hk : x.toNatClampNeg = kk) (hdg : decode t.2.2.1 pc = .ok (.bastore, 1)) (k : G t d r M' (pc + 1) L st (up3 M 8 i kk v, N)) : G t d r M' pc L (.inl v :: .inl x :: .inr (.inr (8, i)) :: st) (M, N) := G_bast (by decide) hi (by decide) rfl hin (by rw [hk]; rfl) hdg k
theorem al_9 {i kk : Nat} {x v : Int32} (hi : i < 2) (hin : ib x 20 = true) (hk : x.toNatClampNeg = kk) (hv : M 9 i kk = v) (hdg : decode t.2.2.1 pc = .ok (.iaload, 1)) (k : G t d r M' (pc + 1) L (.inl v :: st) (M, N)) : G t d r M' pc L (.inl x :: .inr (.inr (9, i)) :: st) (M, N) := G_iald (by decide) hi (by decide) rfl hin (by rw [hk, ← hv]; rfl) hdg k
theorem as_9 {i kk : Nat} {x v : Int32} (hi : i < 2) (hin : ib x 20 = true) (hk : x.toNatClampNeg = kk) (hdg : decode t.2.2.1 pc = .ok (.iastore, 1)) (k : G t d r M' (pc + 1) L st (up3 M 9 i kk v, N)) : G t d r M' pc L (.inl v :: .inl x :: .inr (.inr (9, i)) :: st) (M, N) := G_iast (by decide) hi (by decide) rfl hin (by rw [hk]; rfl) hdg k
theorem al_10 {i kk : Nat} {x v : Int32} (hi : i < 3) (hin : ib x 5 = true) (hk : x.toNatClampNeg = kk) (hv : M 10 i kk = v) (hdg : decode t.2.2.1 pc = .ok (.iaload, 1)) (k : G t d r M' (pc + 1) L (.inl v :: st) (M, N)) : G t d r M' pc L (.inl x :: .inr (.inr (10, i)) :: st) (M, N) := G_iald (by decide) hi (by decide) rfl hin (by rw [hk, ← hv]; rfl) hdg k
theorem as_10 {i kk : Nat} {x v : Int32} (hi : i < 3) (hin : ib x 5 = true) (hk : x.toNatClampNeg = kk) (hdg : decode t.2.2.1 pc = .ok (.iastore, 1)) (k : G t d r M' (pc + 1) L st (up3 M 10 i kk v, N)) : G t d r M' pc L (.inl v :: .inl x :: .inr (.inr (10, i)) :: st) (M, N) := G_iast (by decide) hi (by decide) rfl hin (by rw [hk]; rfl) hdg k
theorem al_11 {i kk : Nat} {x v : Int32} (hi : i < 3) (hin : ib x 5 = true) (hk : x.toNatClampNeg = kk) (hv : M 11 i kk = v) (hdg : decode t.2.2.1 pc = .ok (.iaload, 1)) (k : G t d r M' (pc + 1) L (.inl v :: st) (M, N)) : G t d r M' pc L (.inl x :: .inr (.inr (11, i)) :: st) (M, N) := G_iald (by decide) hi (by decide) rfl hin (by rw [hk, ← hv]; rfl) hdg k
theorem as_11 {i kk : Nat} {x v : Int32} (hi : i < 3) (hin : ib x 5 = true) (hk : x.toNatClampNeg = kk) (hdg : decode t.2.2.1 pc = .ok (.iastore, 1)) (k : G t d r M' (pc + 1) L st (up3 M 11 i kk v, N)) : G t d r M' pc L (.inl v :: .inl x :: .inr (.inr (11, i)) :: st) (M, N) := G_iast (by decide) hi (by decide) rfl hin (by rw [hk]; rfl) hdg k
theorem al_13 {i kk : Nat} {x v : Int32} (hi : i < 7) (hin : ib x 50 = true) (hk : x.toNatClampNeg = kk) (hv : M 13 i kk = v) (hdg : decode t.2.2.1 pc = .ok (.iaload, 1)) (k : G t d r M' (pc + 1) L (.inl v :: st) (M, N)) : G t d r M' pc L (.inl x :: .inr (.inr (13, i)) :: st) (M, N) := G_iald (by decide) hi (by decide) rfl hin (by rw [hk, ← hv]; rfl) hdg k
theorem as_13 {i kk : Nat} {x v : Int32} (hi : i < 7) (hin : ib x 50 = true) (hk : x.toNatClampNeg = kk) (hdg : decode t.2.2.1 pc = .ok (.iastore, 1)) (k : G t d r M' (pc + 1) L st (up3 M 13 i kk v, N)) : G t d r M' pc L (.inl v :: .inl x :: .inr (.inr (13, i)) :: st) (M, N) := G_iast (by decide) hi (by decide) rfl hin (by rw [hk]; rfl) hdg k
theorem al_14 {i kk : Nat} {x v : Int32} (hi : i < 7) (hin : ib x 50 = true) (hk : x.toNatClampNeg = kk) (hv : M 14 i kk = v) (hdg : decode t.2.2.1 pc = .ok (.iaload, 1)) (k : G t d r M' (pc + 1) L (.inl v :: st) (M, N)) : G t d r M' pc L (.inl x :: .inr (.inr (14, i)) :: st) (M, N) := G_iald (by decide) hi (by decide) rfl hin (by rw [hk, ← hv]; rfl) hdg k
theorem as_14 {i kk : Nat} {x v : Int32} (hi : i < 7) (hin : ib x 50 = true) (hk : x.toNatClampNeg = kk) (hdg : decode t.2.2.1 pc = .ok (.iastore, 1)) (k : G t d r M' (pc + 1) L st (up3 M 14 i kk v, N)) : G t d r M' pc L (.inl v :: .inl x :: .inr (.inr (14, i)) :: st) (M, N) := G_iast (by decide) hi (by decide) rfl hin (by rw [hk]; rfl) hdg k
theorem al_15 {i kk : Nat} {x v : Int32} (hi : i < 4) (hin : ib x 40 = true) (hk : x.toNatClampNeg = kk) (hv : M 15 i kk = v) (hdg : decode t.2.2.1 pc = .ok (.iaload, 1)) (k : G t d r M' (pc + 1) L (.inl v :: st) (M, N)) : G t d r M' pc L (.inl x :: .inr (.inr (15, i)) :: st) (M, N) := G_iald (by decide) hi (by decide) rfl hin (by rw [hk, ← hv]; rfl) hdg k
theorem as_15 {i kk : Nat} {x v : Int32} (hi : i < 4) (hin : ib x 40 = true) (hk : x.toNatClampNeg = kk) (hdg : decode t.2.2.1 pc = .ok (.iastore, 1)) (k : G t d r M' (pc + 1) L st (up3 M 15 i kk v, N)) : G t d r M' pc L (.inl v :: .inl x :: .inr (.inr (15, i)) :: st) (M, N) := G_iast (by decide) hi (by decide) rfl hin (by rw [hk]; rfl) hdg k
theorem al_16 {i kk : Nat} {x v : Int32} (hi : i < 1) (hin : ib x 40 = true) (hk : x.toNatClampNeg = kk) (hv : M 16 i kk = v) (hdg : decode t.2.2.1 pc = .ok (.iaload, 1)) (k : G t d r M' (pc + 1) L (.inl v :: st) (M, N)) : G t d r M' pc L (.inl x :: .inr (.inr (16, i)) :: st) (M, N) := G_iald (by decide) hi (by decide) rfl hin (by rw [hk, ← hv]; rfl) hdg k
theorem as_16 {i kk : Nat} {x v : Int32} (hi : i < 1) (hin : ib x 40 = true) (hk : x.toNatClampNeg = kk) (hdg : decode t.2.2.1 pc = .ok (.iastore, 1)) (k : G t d r M' (pc + 1) L st (up3 M 16 i kk v, N)) : G t d r M' pc L (.inl v :: .inl x :: .inr (.inr (16, i)) :: st) (M, N) := G_iast (by decide) hi (by decide) rfl hin (by rw [hk]; rfl) hdg k
theorem al_18 {i kk : Nat} {x v : Int32} (hi : i < 1) (hin : ib x 6 = true) (hk : x.toNatClampNeg = kk) (hv : M 18 i kk = v) (hdg : decode t.2.2.1 pc = .ok (.iaload, 1)) (k : G t d r M' (pc + 1) L (.inl v :: st) (M, N)) : G t d r M' pc L (.inl x :: .inr (.inr (18, i)) :: st) (M, N) := G_iald (by decide) hi (by decide) rfl hin (by rw [hk, ← hv]; rfl) hdg k
theorem as_18 {i kk : Nat} {x v : Int32} (hi : i < 1) (hin : ib x 6 = true) (hk : x.toNatClampNeg = kk) (hdg : decode t.2.2.1 pc = .ok (.iastore, 1)) (k : G t d r M' (pc + 1) L st (up3 M 18 i kk v, N)) : G t d r M' pc L (.inl v :: .inl x :: .inr (.inr (18, i)) :: st) (M, N) := G_iast (by decide) hi (by decide) rfl hin (by rw [hk]; rfl) hdg k
theorem al_20 {i kk : Nat} {x v : Int32} (hi : i < 1) (hin : ib x 268 = true) (hk : x.toNatClampNeg = kk) (hv : M 20 i kk = v) (hdg : decode t.2.2.1 pc = .ok (.iaload, 1)) (k : G t d r M' (pc + 1) L (.inl v :: st) (N, M)) : G t d r M' pc L (.inl x :: .inr (.inr (20, i)) :: st) (N, M) := G_iald (by decide) hi (by decide) rfl hin (by rw [hk, ← hv]; rfl) hdg k
theorem as_20 {i kk : Nat} {x v : Int32} (hi : i < 1) (hin : ib x 268 = true) (hk : x.toNatClampNeg = kk) (hdg : decode t.2.2.1 pc = .ok (.iastore, 1)) (k : G t d r M' (pc + 1) L st (N, up3 M 20 i kk v)) : G t d r M' pc L (.inl v :: .inl x :: .inr (.inr (20, i)) :: st) (N, M) := G_iast (by decide) hi (by decide) rfl hin (by rw [hk]; rfl) hdg k
theorem al_21 {i kk : Nat} {x v : Int32} (hi : i < 1) (hin : ib x 268 = true) (hk : x.toNatClampNeg = kk) (hv : M 21 i kk = v) (hdg : decode t.2.2.1 pc = .ok (.iaload, 1)) (k : G t d r M' (pc + 1) L (.inl v :: st) (N, M)) : G t d r M' pc L (.inl x :: .inr (.inr (21, i)) :: st) (N, M) := G_iald (by decide) hi (by decide) rfl hin (by rw [hk, ← hv]; rfl) hdg k
theorem as_21 {i kk : Nat} {x v : Int32} (hi : i < 1) (hin : ib x 268 = true) (hk : x.toNatClampNeg = kk) (hdg : decode t.2.2.1 pc = .ok (.iastore, 1)) (k : G t d r M' (pc + 1) L st (N, up3 M 21 i kk v)) : G t d r M' pc L (.inl v :: .inl x :: .inr (.inr (21, i)) :: st) (N, M) := G_iast (by decide) hi (by decide) rfl hin (by rw [hk]; rfl) hdg k
theorem al_22 {i kk : Nat} {x v : Int32} (hi : i < 1) (hin : ib x 96 = true) (hk : x.toNatClampNeg = kk) (hv : M 22 i kk = v) (hdg : decode t.2.2.1 pc = .ok (.iaload, 1)) (k : G t d r M' (pc + 1) L (.inl v :: st) (N, M)) : G t d r M' pc L (.inl x :: .inr (.inr (22, i)) :: st) (N, M) := G_iald (by decide) hi (by decide) rfl hin (by rw [hk, ← hv]; rfl) hdg k
theorem as_22 {i kk : Nat} {x v : Int32} (hi : i < 1) (hin : ib x 96 = true) (hk : x.toNatClampNeg = kk) (hdg : decode t.2.2.1 pc = .ok (.iastore, 1)) (k : G t d r M' (pc + 1) L st (N, up3 M 22 i kk v)) : G t d r M' pc L (.inl v :: .inl x :: .inr (.inr (22, i)) :: st) (N, M) := G_iast (by decide) hi (by decide) rfl hin (by rw [hk]; rfl) hdg k
theorem al_23 {i kk : Nat} {x v : Int32} (hi : i < 1) (hin : ib x 6 = true) (hk : x.toNatClampNeg = kk) (hv : M 23 i kk = v) (hdg : decode t.2.2.1 pc = .ok (.iaload, 1)) (k : G t d r M' (pc + 1) L (.inl v :: st) (N, M)) : G t d r M' pc L (.inl x :: .inr (.inr (23, i)) :: st) (N, M) := G_iald (by decide) hi (by decide) rfl hin (by rw [hk, ← hv]; rfl) hdg k
theorem as_23 {i kk : Nat} {x v : Int32} (hi : i < 1) (hin : ib x 6 = true) (hk : x.toNatClampNeg = kk) (hdg : decode t.2.2.1 pc = .ok (.iastore, 1)) (k : G t d r M' (pc + 1) L st (N, up3 M 23 i kk v)) : G t d r M' pc L (.inl v :: .inl x :: .inr (.inr (23, i)) :: st) (N, M) := G_iast (by decide) hi (by decide) rfl hin (by rw [hk]; rfl) hdg k
theorem al_24 {i kk : Nat} {x v : Int32} (hi : i < 1) (hin : ib x 3 = true) (hk : x.toNatClampNeg = kk) (hv : M 24 i kk = v) (hdg : decode t.2.2.1 pc = .ok (.iaload, 1)) (k : G t d r M' (pc + 1) L (.inl v :: st) (N, M)) : G t d r M' pc L (.inl x :: .inr (.inr (24, i)) :: st) (N, M) := G_iald (by decide) hi (by decide) rfl hin (by rw [hk, ← hv]; rfl) hdg k
theorem as_24 {i kk : Nat} {x v : Int32} (hi : i < 1) (hin : ib x 3 = true) (hk : x.toNatClampNeg = kk) (hdg : decode t.2.2.1 pc = .ok (.iastore, 1)) (k : G t d r M' (pc + 1) L st (N, up3 M 24 i kk v)) : G t d r M' pc L (.inl v :: .inl x :: .inr (.inr (24, i)) :: st) (N, M) := G_iast (by decide) hi (by decide) rfl hin (by rw [hk]; rfl) hdg k
theorem al_25 {i kk : Nat} {x v : Int32} (hi : i < 1) (hin : ib x 60 = true) (hk : x.toNatClampNeg = kk) (hv : M 25 i kk = v) (hdg : decode t.2.2.1 pc = .ok (.iaload, 1)) (k : G t d r M' (pc + 1) L (.inl v :: st) (N, M)) : G t d r M' pc L (.inl x :: .inr (.inr (25, i)) :: st) (N, M) := G_iald (by decide) hi (by decide) rfl hin (by rw [hk, ← hv]; rfl) hdg k
theorem as_25 {i kk : Nat} {x v : Int32} (hi : i < 1) (hin : ib x 60 = true) (hk : x.toNatClampNeg = kk) (hdg : decode t.2.2.1 pc = .ok (.iastore, 1)) (k : G t d r M' (pc + 1) L st (N, up3 M 25 i kk v)) : G t d r M' pc L (.inl v :: .inl x :: .inr (.inr (25, i)) :: st) (N, M) := G_iast (by decide) hi (by decide) rfl hin (by rw [hk]; rfl) hdg k
theorem al_26 {i kk : Nat} {x v : Int32} (hi : i < 1) (hin : ib x 60 = true) (hk : x.toNatClampNeg = kk) (hv : M 26 i kk = v) (hdg : decode t.2.2.1 pc = .ok (.iaload, 1)) (k : G t d r M' (pc + 1) L (.inl v :: st) (N, M)) : G t d r M' pc L (.inl x :: .inr (.inr (26, i)) :: st) (N, M) := G_iald (by decide) hi (by decide) rfl hin (by rw [hk, ← hv]; rfl) hdg k
theorem as_26 {i kk : Nat} {x v : Int32} (hi : i < 1) (hin : ib x 60 = true) (hk : x.toNatClampNeg = kk) (hdg : decode t.2.2.1 pc = .ok (.iastore, 1)) (k : G t d r M' (pc + 1) L st (N, up3 M 26 i kk v)) : G t d r M' pc L (.inl v :: .inl x :: .inr (.inr (26, i)) :: st) (N, M) := G_iast (by decide) hi (by decide) rfl hin (by rw [hk]; rfl) hdg k
theorem al_27 {i kk : Nat} {x v : Int32} (hi : i < 1) (hin : ib x 40 = true) (hk : x.toNatClampNeg = kk) (hv : M 27 i kk = v) (hdg : decode t.2.2.1 pc = .ok (.iaload, 1)) (k : G t d r M' (pc + 1) L (.inl v :: st) (N, M)) : G t d r M' pc L (.inl x :: .inr (.inr (27, i)) :: st) (N, M) := G_iald (by decide) hi (by decide) rfl hin (by rw [hk, ← hv]; rfl) hdg k
theorem as_27 {i kk : Nat} {x v : Int32} (hi : i < 1) (hin : ib x 40 = true) (hk : x.toNatClampNeg = kk) (hdg : decode t.2.2.1 pc = .ok (.iastore, 1)) (k : G t d r M' (pc + 1) L st (N, up3 M 27 i kk v)) : G t d r M' pc L (.inl v :: .inl x :: .inr (.inr (27, i)) :: st) (N, M) := G_iast (by decide) hi (by decide) rfl hin (by rw [hk]; rfl) hdg k
theorem al_28 {i kk : Nat} {x v : Int32} (hi : i < 1) (hin : ib x 4 = true) (hk : x.toNatClampNeg = kk) (hv : M 28 i kk = v) (hdg : decode t.2.2.1 pc = .ok (.iaload, 1)) (k : G t d r M' (pc + 1) L (.inl v :: st) (N, M)) : G t d r M' pc L (.inl x :: .inr (.inr (28, i)) :: st) (N, M) := G_iald (by decide) hi (by decide) rfl hin (by rw [hk, ← hv]; rfl) hdg k
theorem as_28 {i kk : Nat} {x v : Int32} (hi : i < 1) (hin : ib x 4 = true) (hk : x.toNatClampNeg = kk) (hdg : decode t.2.2.1 pc = .ok (.iastore, 1)) (k : G t d r M' (pc + 1) L st (N, up3 M 28 i kk v)) : G t d r M' pc L (.inl v :: .inl x :: .inr (.inr (28, i)) :: st) (N, M) := G_iast (by decide) hi (by decide) rfl hin (by rw [hk]; rfl) hdg k
theorem al_29 {i kk : Nat} {x v : Int32} (hi : i < 1) (hin : ib x 4 = true) (hk : x.toNatClampNeg = kk) (hv : M 29 i kk = v) (hdg : decode t.2.2.1 pc = .ok (.iaload, 1)) (k : G t d r M' (pc + 1) L (.inl v :: st) (N, M)) : G t d r M' pc L (.inl x :: .inr (.inr (29, i)) :: st) (N, M) := G_iald (by decide) hi (by decide) rfl hin (by rw [hk, ← hv]; rfl) hdg k
theorem as_29 {i kk : Nat} {x v : Int32} (hi : i < 1) (hin : ib x 4 = true) (hk : x.toNatClampNeg = kk) (hdg : decode t.2.2.1 pc = .ok (.iastore, 1)) (k : G t d r M' (pc + 1) L st (N, up3 M 29 i kk v)) : G t d r M' pc L (.inl v :: .inl x :: .inr (.inr (29, i)) :: st) (N, M) := G_iast (by decide) hi (by decide) rfl hin (by rw [hk]; rfl) hdg k
theorem al_30 {i kk : Nat} {x v : Int32} (hi : i < 1) (hin : ib x 160 = true) (hk : x.toNatClampNeg = kk) (hv : M 30 i kk = v) (hdg : decode t.2.2.1 pc = .ok (.iaload, 1)) (k : G t d r M' (pc + 1) L (.inl v :: st) (N, M)) : G t d r M' pc L (.inl x :: .inr (.inr (30, i)) :: st) (N, M) := G_iald (by decide) hi (by decide) rfl hin (by rw [hk, ← hv]; rfl) hdg k
theorem as_30 {i kk : Nat} {x v : Int32} (hi : i < 1) (hin : ib x 160 = true) (hk : x.toNatClampNeg = kk) (hdg : decode t.2.2.1 pc = .ok (.iastore, 1)) (k : G t d r M' (pc + 1) L st (N, up3 M 30 i kk v)) : G t d r M' pc L (.inl v :: .inl x :: .inr (.inr (30, i)) :: st) (N, M) := G_iast (by decide) hi (by decide) rfl hin (by rw [hk]; rfl) hdg k
theorem al_31 {i kk : Nat} {x v : Int32} (hi : i < 1) (hin : ib x 40 = true) (hk : x.toNatClampNeg = kk) (hv : M 31 i kk = v) (hdg : decode t.2.2.1 pc = .ok (.iaload, 1)) (k : G t d r M' (pc + 1) L (.inl v :: st) (N, M)) : G t d r M' pc L (.inl x :: .inr (.inr (31, i)) :: st) (N, M) := G_iald (by decide) hi (by decide) rfl hin (by rw [hk, ← hv]; rfl) hdg k
theorem as_31 {i kk : Nat} {x v : Int32} (hi : i < 1) (hin : ib x 40 = true) (hk : x.toNatClampNeg = kk) (hdg : decode t.2.2.1 pc = .ok (.iastore, 1)) (k : G t d r M' (pc + 1) L st (N, up3 M 31 i kk v)) : G t d r M' pc L (.inl v :: .inl x :: .inr (.inr (31, i)) :: st) (N, M) := G_iast (by decide) hi (by decide) rfl hin (by rw [hk]; rfl) hdg k
end FL
end
section
section MORE
variable {t : MT} {d : Nat} {r : Option AV} {M' : MM} {pc : Nat} {L : List (Nat × AV)} {st : List AV} {M : MM}
theorem G_alen {f i : Nat} {v : Int32} (hf : f < 32) (hi : i < fCnt f) (hcl : ¬ fCls f < 9) (he0 : fElt f = 0) (hv : Int32.ofNat (fLen f) = v) (hdg : decode t.2.2.1 pc = .ok (.arraylength, 1)) (k : G t d r M' (pc + 1) L (.inl v :: st) M) : G t d r M' pc L (.inr (.inr (f, i)) :: st) M := by
  intro p l e R s m args below meth c cells slots A H0 ad cA D Q Cx F H locs ls hl hP hS
  have he : (world ad cA M)[fOff f + i]? = some (ad f i, .inl (cA 0, fLen f, .inl (fun j => rdM M f i j))) := by
    rw [world_at hf hi, cellE_arr hcl]
    unfold arrF
    rw [he0]
    rfl
  exact va_alen Cx.1 Cx.2.1 Cx.2.2.2.2.2.2.1 hP (fOff f + i) 0 he rfl hv hdg (k p l e R s m args below meth c cells slots A H0 ad cA D Q Cx F H locs ls hl hP hS)
theorem G_eq {x y : Int32} (e : y = x) (k : G t d r M' pc L (.inl y :: st) M) : G t d r M' pc L (.inl x :: st) M := e ▸ k
theorem let_eq {α : Type} {x y : Int32} {f : Int32 → α} {z : α} (e : y = x) (h : (let v : Int32 := x; f v) = z) : f y = z := by
  subst e
  exact h
end MORE
end
section
theorem dJ7_fill_53178_0 : decode cJ7_fill_53178 0 = .ok (.iconst 0, 1) := by decide +kernel
theorem dJ7_fill_53178_1 : decode cJ7_fill_53178 1 = .ok (.istore_n 2, 1) := by decide +kernel
theorem dJ7_fill_53178_2 : decode cJ7_fill_53178 2 = .ok (.aload_n 0, 1) := by decide +kernel
theorem dJ7_fill_53178_3 : decode cJ7_fill_53178 3 = .ok (.arraylength, 1) := by decide +kernel
theorem dJ7_fill_53178_4 : decode cJ7_fill_53178 4 = .ok (.istore_n 3, 1) := by decide +kernel
theorem dJ7_fill_53178_5 : decode cJ7_fill_53178 5 = .ok (.iload_n 2, 1) := by decide +kernel
theorem dJ7_fill_53178_6 : decode cJ7_fill_53178 6 = .ok (.iload_n 3, 1) := by decide +kernel
theorem dJ7_fill_53178_7 : decode cJ7_fill_53178 7 = .ok (.if_icmp .ge 13, 3) := by decide +kernel
theorem dJ7_fill_53178_10 : decode cJ7_fill_53178 10 = .ok (.aload_n 0, 1) := by decide +kernel
theorem dJ7_fill_53178_11 : decode cJ7_fill_53178 11 = .ok (.iload_n 2, 1) := by decide +kernel
theorem dJ7_fill_53178_12 : decode cJ7_fill_53178 12 = .ok (.iload_n 1, 1) := by decide +kernel
theorem dJ7_fill_53178_13 : decode cJ7_fill_53178 13 = .ok (.iastore, 1) := by decide +kernel
theorem dJ7_fill_53178_14 : decode cJ7_fill_53178 14 = .ok (.iinc 2 1, 3) := by decide +kernel
theorem dJ7_fill_53178_17 : decode cJ7_fill_53178 17 = .ok (.goto (-12), 3) := by decide +kernel
theorem dJ7_fill_53178_20 : decode cJ7_fill_53178 20 = .ok (.return_, 1) := by decide +kernel
def J7_fill_53178_L5 : Nat → Nat → Int32 → Int32 → Int32 → Mem → Option (Mem)
  | 0, _, _, _, _, _ => none
  | fu + 1, i0, v1, v2, v3, M => (if v2 < v3 then (if ib v2 40 = true then (J7_fill_53178_L5 fu i0 v1 (v2 + 1) v3 (up3 M 15 i0 v2.toNatClampNeg v1)) else none) else (some M))
set_option maxRecDepth 100000 in
set_option maxHeartbeats 4000000 in
theorem J7_fill_53178_L5_ok  {r : Option AV} {M' : MM} : ∀ (fu : Nat) (i0 : Nat) (v1 : Int32) (v2 : Int32) (v3 : Int32) (M N : Mem) {res : Mem} (hi0 : i0 < 4) (h : J7_fill_53178_L5 fu i0 v1 v2 v3 M = some res) (K : G mt_J7_fill_53178 0 r M' 20 [] [] (res, N)), G mt_J7_fill_53178 0 r M' 5 [(0, .inr (.inr (15, i0))), (1, .inl v1), (2, .inl v2), (3, .inl v3)] [] (M, N) := by
  intro fu
  induction fu with
  | zero =>
    intro i0 v1 v2 v3 M N res hi0 h
    cases h
  | succ fu ih =>
    intro i0 v1 v2 v3 M N res hi0 h K
    replace h : (if v2 < v3 then (if ib v2 40 = true then (J7_fill_53178_L5 fu i0 v1 (v2 + 1) v3 (up3 M 15 i0 v2.toNatClampNeg v1)) else none) else (some M)) = some res := h
    refine G_iload_n dJ7_fill_53178_5 rfl ?_
    refine G_iload_n dJ7_fill_53178_6 rfl ?_
    refine G_icmp_ge (tgt := 20) dJ7_fill_53178_7 (by decide) (fun hc1 => ?_) (fun hc1 => ?_)
    · replace h := (if_neg hc1).symm.trans h
      refine G_sub [] [] rfl ?_
      obtain rfl := Option.some.inj h
      exact K
    · replace h := (if_pos hc1).symm.trans h
      refine G_aload_n dJ7_fill_53178_10 rfl ?_
      refine G_iload_n dJ7_fill_53178_11 rfl ?_
      refine G_iload_n dJ7_fill_53178_12 rfl ?_
      obtain ⟨hb1, h⟩ := chk h
      have lhb1 := ib_lt hb1
      refine as_15 (kk := v2.toNatClampNeg) hi0 hb1 rfl dJ7_fill_53178_13 ?_
      refine G_iinc (v := (v2 + 1)) (L2 := [(2, .inl (v2 + 1)), (0, .inr (.inr (15, i0))), (1, .inl v1), (3, .inl v3)]) dJ7_fill_53178_14 rfl (by first | rfl | (show _ + Int32.ofInt _ = _; rfl)) (by decide) rfl ?_
      refine G_goto (tgt := 5) dJ7_fill_53178_17 (by decide) ?_
      refine G_sub [(0, .inr (.inr (15, i0))), (1, .inl v1), (2, .inl (v2 + 1)), (3, .inl v3)] [1, 2, 0, 3] rfl ?_
      exact ih i0 v1 (v2 + 1) v3 (up3 M 15 i0 v2.toNatClampNeg v1) _ hi0 h K

def J7_fill_53178 (i0 : Nat) (v1 : Int32) (M : Mem) : Option (Mem) := ((J7_fill_53178_L5 400 i0 v1 0 40 M).bind fun q2 => (some q2))
set_option maxRecDepth 100000 in
set_option maxHeartbeats 4000000 in
theorem J7_fill_53178_ok  {i0 : Nat} {v1 : Int32} {M N : Mem} {res : Mem} (hi0 : i0 < 4) (h : J7_fill_53178 i0 v1 M = some res) : Spec mt_J7_fill_53178 0 [.inr (.inr (15, i0)), .inl v1] (M, N) none (res, N) := by
  unfold J7_fill_53178 at h
  refine Spec_of_G (by decide) rfl (Nat.le_of_ble_eq_true rfl) ?_
  refine G_sub [(0, .inr (.inr (15, i0))), (1, .inl v1)] [0, 1] rfl ?_
  refine G_iconst (v := 0) dJ7_fill_53178_0 (by decide) ?_
  refine G_istore_n (L2 := [(2, .inl 0), (0, .inr (.inr (15, i0))), (1, .inl v1)]) dJ7_fill_53178_1 (by decide) rfl ?_
  refine G_aload_n dJ7_fill_53178_2 rfl ?_
  refine G_alen (v := 40) (by decide) (show i0 < 4 from hi0) (by decide) rfl (by decide) dJ7_fill_53178_3 ?_
  refine G_istore_n (L2 := [(3, .inl 40), (2, .inl 0), (0, .inr (.inr (15, i0))), (1, .inl v1)]) dJ7_fill_53178_4 (by decide) rfl ?_
  refine G_sub [(0, .inr (.inr (15, i0))), (1, .inl v1), (2, .inl 0), (3, .inl 40)] [2, 3, 1, 0] rfl ?_
  obtain ⟨q2, hq2, h⟩ := bnd h
  refine J7_fill_53178_L5_ok  400 i0 v1 0 40 M _ hi0 hq2 ?_
  obtain rfl := Option.some.inj h
  exact G_ret dJ7_fill_53178_20 trivial rfl rfl

theorem dX7_isHouse_0 : decode cX7_isHouse 0 = .ok (.iload_n 0, 1) := by decide +kernel
theorem dX7_isHouse_1 : decode cX7_isHouse 1 = .ok (.ifCond .lt 12, 3) := by decide +kernel
theorem dX7_isHouse_4 : decode cX7_isHouse 4 = .ok (.iload_n 0, 1) := by decide +kernel
theorem dX7_isHouse_5 : decode cX7_isHouse 5 = .ok (.iconst 5, 1) := by decide +kernel
theorem dX7_isHouse_6 : decode cX7_isHouse 6 = .ok (.if_icmp .ge 7, 3) := by decide +kernel
theorem dX7_isHouse_9 : decode cX7_isHouse 9 = .ok (.iconst 1, 1) := by decide +kernel
theorem dX7_isHouse_10 : decode cX7_isHouse 10 = .ok (.goto 4, 3) := by decide +kernel
theorem dX7_isHouse_13 : decode cX7_isHouse 13 = .ok (.iconst 0, 1) := by decide +kernel
theorem dX7_isHouse_14 : decode cX7_isHouse 14 = .ok (.ireturn, 1) := by decide +kernel
def X7_isHouse (v0 : Int32) : Int32 := (if v0 < 0 then 0 else (if v0 < 5 then 1 else 0))
set_option maxRecDepth 100000 in
set_option maxHeartbeats 4000000 in
theorem X7_isHouse_ok  {v0 : Int32} {MM0 : MM} {res : Int32} (h : X7_isHouse v0 = res) : Spec mt_X7_isHouse 0 [.inl v0] MM0 (some (.inl res)) MM0 := by
  unfold X7_isHouse at h
  refine Spec_of_G (by decide) rfl (Nat.le_of_ble_eq_true rfl) ?_
  refine G_sub [(0, .inl v0)] [0] rfl ?_
  refine G_iload_n dX7_isHouse_0 rfl ?_
  refine G_if_lt (tgt := 13) dX7_isHouse_1 (by decide) (fun hc1 => ?_) (fun hc1 => ?_)
  · replace h := (if_pos hc1).symm.trans h
    refine G_iconst (v := 0) dX7_isHouse_13 (by decide) ?_
    subst h
    exact G_ret dX7_isHouse_14 (Or.inl rfl) rfl rfl
  · replace h := (if_neg hc1).symm.trans h
    refine G_iload_n dX7_isHouse_4 rfl ?_
    refine G_iconst (v := 5) dX7_isHouse_5 (by decide) ?_
    refine G_icmp_ge (tgt := 13) dX7_isHouse_6 (by decide) (fun hc2 => ?_) (fun hc2 => ?_)
    · replace h := (if_neg hc2).symm.trans h
      refine G_iconst (v := 0) dX7_isHouse_13 (by decide) ?_
      subst h
      exact G_ret dX7_isHouse_14 (Or.inl rfl) rfl rfl
    · replace h := (if_pos hc2).symm.trans h
      refine G_iconst (v := 1) dX7_isHouse_9 (by decide) ?_
      refine G_goto (tgt := 14) dX7_isHouse_10 (by decide) ?_
      subst h
      exact G_ret dX7_isHouse_14 (Or.inr rfl) rfl rfl
theorem X7_isHouse_z {v0 : Int32} : X7_isHouse v0 = 0 ∨ X7_isHouse v0 = 1 := by
  unfold X7_isHouse
  (repeat' split) <;> first | exact Or.inl rfl | exact Or.inr rfl | exact X8_in_z

theorem dX7_isWithin_0 : decode cX7_isWithin 0 = .ok (.iload_n 0, 1) := by decide +kernel
theorem dX7_isWithin_1 : decode cX7_isWithin 1 = .ok (.ifCond .lt 12, 3) := by decide +kernel
theorem dX7_isWithin_4 : decode cX7_isWithin 4 = .ok (.iload_n 0, 1) := by decide +kernel
theorem dX7_isWithin_5 : decode cX7_isWithin 5 = .ok (.iload_n 1, 1) := by decide +kernel
theorem dX7_isWithin_6 : decode cX7_isWithin 6 = .ok (.if_icmp .gt 7, 3) := by decide +kernel
theorem dX7_isWithin_9 : decode cX7_isWithin 9 = .ok (.iconst 1, 1) := by decide +kernel
theorem dX7_isWithin_10 : decode cX7_isWithin 10 = .ok (.goto 4, 3) := by decide +kernel
theorem dX7_isWithin_13 : decode cX7_isWithin 13 = .ok (.iconst 0, 1) := by decide +kernel
theorem dX7_isWithin_14 : decode cX7_isWithin 14 = .ok (.ireturn, 1) := by decide +kernel
def X7_isWithin (v0 : Int32) (v1 : Int32) : Int32 := (if v0 < 0 then 0 else (if v1 < v0 then 0 else 1))
set_option maxRecDepth 100000 in
set_option maxHeartbeats 4000000 in
theorem X7_isWithin_ok  {v0 : Int32} {v1 : Int32} {MM0 : MM} {res : Int32} (h : X7_isWithin v0 v1 = res) : Spec mt_X7_isWithin 0 [.inl v0, .inl v1] MM0 (some (.inl res)) MM0 := by
  unfold X7_isWithin at h
  refine Spec_of_G (by decide) rfl (Nat.le_of_ble_eq_true rfl) ?_
  refine G_sub [(0, .inl v0), (1, .inl v1)] [0, 1] rfl ?_
  refine G_iload_n dX7_isWithin_0 rfl ?_
  refine G_if_lt (tgt := 13) dX7_isWithin_1 (by decide) (fun hc1 => ?_) (fun hc1 => ?_)
  · replace h := (if_pos hc1).symm.trans h
    refine G_iconst (v := 0) dX7_isWithin_13 (by decide) ?_
    subst h
    exact G_ret dX7_isWithin_14 (Or.inl rfl) rfl rfl
  · replace h := (if_neg hc1).symm.trans h
    refine G_iload_n dX7_isWithin_4 rfl ?_
    refine G_iload_n dX7_isWithin_5 rfl ?_
    refine G_icmp_gt (tgt := 13) dX7_isWithin_6 (by decide) (fun hc2 => ?_) (fun hc2 => ?_)
    · replace h := (if_pos hc2).symm.trans h
      refine G_iconst (v := 0) dX7_isWithin_13 (by decide) ?_
      subst h
      exact G_ret dX7_isWithin_14 (Or.inl rfl) rfl rfl
    · replace h := (if_neg hc2).symm.trans h
      refine G_iconst (v := 1) dX7_isWithin_9 (by decide) ?_
      refine G_goto (tgt := 14) dX7_isWithin_10 (by decide) ?_
      subst h
      exact G_ret dX7_isWithin_14 (Or.inr rfl) rfl rfl
theorem X7_isWithin_z {v0 : Int32} {v1 : Int32} : X7_isWithin v0 v1 = 0 ∨ X7_isWithin v0 v1 = 1 := by
  unfold X7_isWithin
  (repeat' split) <;> first | exact Or.inl rfl | exact Or.inr rfl | exact X8_in_z

theorem dX7_isKindWithNumber_0 : decode cX7_isKindWithNumber 0 = .ok (.iload_n 0, 1) := by decide +kernel
theorem dX7_isKindWithNumber_1 : decode cX7_isKindWithNumber 1 = .ok (.ifCond .lt 16, 3) := by decide +kernel
theorem dX7_isKindWithNumber_4 : decode cX7_isKindWithNumber 4 = .ok (.iload_n 0, 1) := by decide +kernel
theorem dX7_isKindWithNumber_5 : decode cX7_isKindWithNumber 5 = .ok (.bipush 10, 2) := by decide +kernel
theorem dX7_isKindWithNumber_7 : decode cX7_isKindWithNumber 7 = .ok (.idiv, 1) := by decide +kernel
theorem dX7_isKindWithNumber_8 : decode cX7_isKindWithNumber 8 = .ok (.bipush 6, 2) := by decide +kernel
theorem dX7_isKindWithNumber_10 : decode cX7_isKindWithNumber 10 = .ok (.if_icmp .gt 7, 3) := by decide +kernel
theorem dX7_isKindWithNumber_13 : decode cX7_isKindWithNumber 13 = .ok (.iconst 1, 1) := by decide +kernel
theorem dX7_isKindWithNumber_14 : decode cX7_isKindWithNumber 14 = .ok (.goto 4, 3) := by decide +kernel
theorem dX7_isKindWithNumber_17 : decode cX7_isKindWithNumber 17 = .ok (.iconst 0, 1) := by decide +kernel
theorem dX7_isKindWithNumber_18 : decode cX7_isKindWithNumber 18 = .ok (.ireturn, 1) := by decide +kernel
def X7_isKindWithNumber (v0 : Int32) : Int32 := (if v0 < 0 then 0 else (if 6 < (v0 / 10) then 0 else 1))
set_option maxRecDepth 100000 in
set_option maxHeartbeats 4000000 in
theorem X7_isKindWithNumber_ok  {v0 : Int32} {MM0 : MM} {res : Int32} (h : X7_isKindWithNumber v0 = res) : Spec mt_X7_isKindWithNumber 0 [.inl v0] MM0 (some (.inl res)) MM0 := by
  unfold X7_isKindWithNumber at h
  refine Spec_of_G (by decide) rfl (Nat.le_of_ble_eq_true rfl) ?_
  refine G_sub [(0, .inl v0)] [0] rfl ?_
  refine G_iload_n dX7_isKindWithNumber_0 rfl ?_
  refine G_if_lt (tgt := 17) dX7_isKindWithNumber_1 (by decide) (fun hc1 => ?_) (fun hc1 => ?_)
  · replace h := (if_pos hc1).symm.trans h
    refine G_iconst (v := 0) dX7_isKindWithNumber_17 (by decide) ?_
    subst h
    exact G_ret dX7_isKindWithNumber_18 (Or.inl rfl) rfl rfl
  · replace h := (if_neg hc1).symm.trans h
    refine G_iload_n dX7_isKindWithNumber_4 rfl ?_
    refine G_bipush (v := 10) dX7_isKindWithNumber_5 (by decide) ?_
    refine G_idiv (by decide) dX7_isKindWithNumber_7 ?_
    refine G_bipush (v := 6) dX7_isKindWithNumber_8 (by decide) ?_
    refine G_icmp_gt (tgt := 17) dX7_isKindWithNumber_10 (by decide) (fun hc2 => ?_) (fun hc2 => ?_)
    · replace h := (if_pos hc2).symm.trans h
      refine G_iconst (v := 0) dX7_isKindWithNumber_17 (by decide) ?_
      subst h
      exact G_ret dX7_isKindWithNumber_18 (Or.inl rfl) rfl rfl
    · replace h := (if_neg hc2).symm.trans h
      refine G_iconst (v := 1) dX7_isKindWithNumber_13 (by decide) ?_
      refine G_goto (tgt := 18) dX7_isKindWithNumber_14 (by decide) ?_
      subst h
      exact G_ret dX7_isKindWithNumber_18 (Or.inr rfl) rfl rfl
theorem X7_isKindWithNumber_z {v0 : Int32} : X7_isKindWithNumber v0 = 0 ∨ X7_isKindWithNumber v0 = 1 := by
  unfold X7_isKindWithNumber
  (repeat' split) <;> first | exact Or.inl rfl | exact Or.inr rfl | exact X8_in_z

theorem dX3_begin_0 : decode cX3_begin 0 = .ok (.aload_n 0, 1) := by decide +kernel
theorem dX3_begin_1 : decode cX3_begin 1 = .ok (.iload_n 1, 1) := by decide +kernel
theorem dX3_begin_2 : decode cX3_begin 2 = .ok (.bipush 10, 2) := by decide +kernel
theorem dX3_begin_4 : decode cX3_begin 4 = .ok (.idiv, 1) := by decide +kernel
theorem dX3_begin_5 : decode cX3_begin 5 = .ok (.putfield 9, 3) := by decide +kernel
theorem dX3_begin_8 : decode cX3_begin 8 = .ok (.aload_n 0, 1) := by decide +kernel
theorem dX3_begin_9 : decode cX3_begin 9 = .ok (.iload_n 1, 1) := by decide +kernel
theorem dX3_begin_10 : decode cX3_begin 10 = .ok (.bipush 10, 2) := by decide +kernel
theorem dX3_begin_12 : decode cX3_begin 12 = .ok (.irem, 1) := by decide +kernel
theorem dX3_begin_13 : decode cX3_begin 13 = .ok (.putfield 15, 3) := by decide +kernel
theorem dX3_begin_16 : decode cX3_begin 16 = .ok (.aload_n 0, 1) := by decide +kernel
theorem dX3_begin_17 : decode cX3_begin 17 = .ok (.iload_n 2, 1) := by decide +kernel
theorem dX3_begin_18 : decode cX3_begin 18 = .ok (.putfield 18, 3) := by decide +kernel
theorem dX3_begin_21 : decode cX3_begin 21 = .ok (.aload_n 0, 1) := by decide +kernel
theorem dX3_begin_22 : decode cX3_begin 22 = .ok (.iload_n 3, 1) := by decide +kernel
theorem dX3_begin_23 : decode cX3_begin 23 = .ok (.putfield 21, 3) := by decide +kernel
theorem dX3_begin_26 : decode cX3_begin 26 = .ok (.aload_n 0, 1) := by decide +kernel
theorem dX3_begin_27 : decode cX3_begin 27 = .ok (.iconst 0, 1) := by decide +kernel
theorem dX3_begin_28 : decode cX3_begin 28 = .ok (.putfield 24, 3) := by decide +kernel
theorem dX3_begin_31 : decode cX3_begin 31 = .ok (.aload_n 0, 1) := by decide +kernel
theorem dX3_begin_32 : decode cX3_begin 32 = .ok (.iconst 0, 1) := by decide +kernel
theorem dX3_begin_33 : decode cX3_begin 33 = .ok (.putfield 27, 3) := by decide +kernel
theorem dX3_begin_36 : decode cX3_begin 36 = .ok (.aload_n 0, 1) := by decide +kernel
theorem dX3_begin_37 : decode cX3_begin 37 = .ok (.iconst 0, 1) := by decide +kernel
theorem dX3_begin_38 : decode cX3_begin 38 = .ok (.putfield 30, 3) := by decide +kernel
theorem dX3_begin_41 : decode cX3_begin 41 = .ok (.aload_n 0, 1) := by decide +kernel
theorem dX3_begin_42 : decode cX3_begin 42 = .ok (.iconst 0, 1) := by decide +kernel
theorem dX3_begin_43 : decode cX3_begin 43 = .ok (.putfield 33, 3) := by decide +kernel
theorem dX3_begin_46 : decode cX3_begin 46 = .ok (.return_, 1) := by decide +kernel
def X3_begin (i0 : Nat) (v1 : Int32) (v2 : Int32) (v3 : Int32) (M : Mem) : Option (Mem) := (some (up3 (up3 (up3 (up3 (up3 (up3 (up3 (up3 M 3 i0 0 (v1 / 10)) 3 i0 1 (jrem v1 10)) 3 i0 2 v2) 3 i0 3 v3) 3 i0 4 0) 3 i0 5 0) 3 i0 6 0) 3 i0 7 0))
set_option maxRecDepth 100000 in
set_option maxHeartbeats 4000000 in
theorem X3_begin_ok  {i0 : Nat} {v1 : Int32} {v2 : Int32} {v3 : Int32} {M N : Mem} {res : Mem} (hi0 : i0 < 30) (h : X3_begin i0 v1 v2 v3 M = some res) : Spec mt_X3_begin 0 [.inr (.inr (3, i0)), .inl v1, .inl v2, .inl v3] (M, N) none (res, N) := by
  unfold X3_begin at h
  refine Spec_of_G (by decide) rfl (Nat.le_of_ble_eq_true rfl) ?_
  refine G_sub [(0, .inr (.inr (3, i0))), (1, .inl v1), (2, .inl v2), (3, .inl v3)] [0, 1, 2, 3] rfl ?_
  refine G_aload_n dX3_begin_0 rfl ?_
  refine G_iload_n dX3_begin_1 rfl ?_
  refine G_bipush (v := 10) dX3_begin_2 (by decide) ?_
  refine G_idiv (by decide) dX3_begin_4 ?_
  refine fp_X3_9 rfl hi0 dX3_begin_5 ?_
  refine G_aload_n dX3_begin_8 rfl ?_
  refine G_iload_n dX3_begin_9 rfl ?_
  refine G_bipush (v := 10) dX3_begin_10 (by decide) ?_
  refine G_irem (by decide) dX3_begin_12 ?_
  refine fp_X3_15 rfl hi0 dX3_begin_13 ?_
  refine G_aload_n dX3_begin_16 rfl ?_
  refine G_iload_n dX3_begin_17 rfl ?_
  refine fp_X3_18 rfl hi0 dX3_begin_18 ?_
  refine G_aload_n dX3_begin_21 rfl ?_
  refine G_iload_n dX3_begin_22 rfl ?_
  refine fp_X3_21 rfl hi0 dX3_begin_23 ?_
  refine G_aload_n dX3_begin_26 rfl ?_
  refine G_iconst (v := 0) dX3_begin_27 (by decide) ?_
  refine fp_X3_24 rfl hi0 dX3_begin_28 ?_
  refine G_aload_n dX3_begin_31 rfl ?_
  refine G_iconst (v := 0) dX3_begin_32 (by decide) ?_
  refine fp_X3_27 rfl hi0 dX3_begin_33 ?_
  refine G_aload_n dX3_begin_36 rfl ?_
  refine G_iconst (v := 0) dX3_begin_37 (by decide) ?_
  refine fp_X3_30 rfl hi0 dX3_begin_38 ?_
  refine G_aload_n dX3_begin_41 rfl ?_
  refine G_iconst (v := 0) dX3_begin_42 (by decide) ?_
  refine fp_X3_33 (by decide) rfl hi0 dX3_begin_43 ?_
  obtain rfl := Option.some.inj h
  exact G_ret dX3_begin_46 trivial rfl rfl

theorem dX3_wants_0 : decode cX3_wants 0 = .ok (.aload_n 0, 1) := by decide +kernel
theorem dX3_wants_1 : decode cX3_wants 1 = .ok (.getfield 9, 3) := by decide +kernel
theorem dX3_wants_4 : decode cX3_wants 4 = .ok (.tableswitch 84 1 6 #[40, 43, 51, 40, 54, 81], 40) := by decide +kernel
theorem dX3_wants_44 : decode cX3_wants 44 = .ok (.bipush 100, 2) := by decide +kernel
theorem dX3_wants_46 : decode cX3_wants 46 = .ok (.ireturn, 1) := by decide +kernel
theorem dX3_wants_47 : decode cX3_wants 47 = .ok (.bipush 50, 2) := by decide +kernel
theorem dX3_wants_49 : decode cX3_wants 49 = .ok (.aload_n 0, 1) := by decide +kernel
theorem dX3_wants_50 : decode cX3_wants 50 = .ok (.getfield 15, 3) := by decide +kernel
theorem dX3_wants_53 : decode cX3_wants 53 = .ok (.isub, 1) := by decide +kernel
theorem dX3_wants_54 : decode cX3_wants 54 = .ok (.ireturn, 1) := by decide +kernel
theorem dX3_wants_55 : decode cX3_wants 55 = .ok (.bipush 20, 2) := by decide +kernel
theorem dX3_wants_57 : decode cX3_wants 57 = .ok (.ireturn, 1) := by decide +kernel
theorem dX3_wants_58 : decode cX3_wants 58 = .ok (.aload_n 0, 1) := by decide +kernel
theorem dX3_wants_59 : decode cX3_wants 59 = .ok (.getfield 30, 3) := by decide +kernel
theorem dX3_wants_62 : decode cX3_wants 62 = .ok (.ifCond .le 15, 3) := by decide +kernel
theorem dX3_wants_65 : decode cX3_wants 65 = .ok (.iconst 2, 1) := by decide +kernel
theorem dX3_wants_66 : decode cX3_wants 66 = .ok (.bipush 50, 2) := by decide +kernel
theorem dX3_wants_68 : decode cX3_wants 68 = .ok (.aload_n 0, 1) := by decide +kernel
theorem dX3_wants_69 : decode cX3_wants 69 = .ok (.getfield 15, 3) := by decide +kernel
theorem dX3_wants_72 : decode cX3_wants 72 = .ok (.isub, 1) := by decide +kernel
theorem dX3_wants_73 : decode cX3_wants 73 = .ok (.imul, 1) := by decide +kernel
theorem dX3_wants_74 : decode cX3_wants 74 = .ok (.goto 10, 3) := by decide +kernel
theorem dX3_wants_77 : decode cX3_wants 77 = .ok (.bipush 50, 2) := by decide +kernel
theorem dX3_wants_79 : decode cX3_wants 79 = .ok (.aload_n 0, 1) := by decide +kernel
theorem dX3_wants_80 : decode cX3_wants 80 = .ok (.getfield 15, 3) := by decide +kernel
theorem dX3_wants_83 : decode cX3_wants 83 = .ok (.isub, 1) := by decide +kernel
theorem dX3_wants_84 : decode cX3_wants 84 = .ok (.ireturn, 1) := by decide +kernel
theorem dX3_wants_85 : decode cX3_wants 85 = .ok (.bipush 30, 2) := by decide +kernel
theorem dX3_wants_87 : decode cX3_wants 87 = .ok (.ireturn, 1) := by decide +kernel
theorem dX3_wants_88 : decode cX3_wants 88 = .ok (.bipush 50, 2) := by decide +kernel
theorem dX3_wants_90 : decode cX3_wants 90 = .ok (.ireturn, 1) := by decide +kernel
def X3_wants (i0 : Nat) (M : Mem) : Int32 := (if (M 3 i0 0) = 1 then 100 else (if (M 3 i0 0) = 2 then (50 - (M 3 i0 1)) else (if (M 3 i0 0) = 3 then 20 else (if (M 3 i0 0) = 4 then 100 else (if (M 3 i0 0) = 5 then (if 0 < (M 3 i0 6) then (2 * (50 - (M 3 i0 1))) else (50 - (M 3 i0 1))) else (if (M 3 i0 0) = 6 then 30 else 50))))))
set_option maxRecDepth 100000 in
set_option maxHeartbeats 4000000 in
theorem X3_wants_ok  {i0 : Nat} {M N : Mem} {res : Int32} (hi0 : i0 < 30) (h : X3_wants i0 M = res) : Spec mt_X3_wants 0 [.inr (.inr (3, i0))] (M, N) (some (.inl res)) (M, N) := by
  unfold X3_wants at h
  refine Spec_of_G (by decide) rfl (Nat.le_of_ble_eq_true rfl) ?_
  refine G_sub [(0, .inr (.inr (3, i0)))] [0] rfl ?_
  refine G_aload_n dX3_wants_0 rfl ?_
  refine fg_X3_9 (v := (M 3 i0 0)) rfl rfl hi0 dX3_wants_1 ?_
  by_cases hc1 : (M 3 i0 0) = 1
  · replace h := (if_pos hc1).symm.trans h
    refine G_tableEq (off := 40) (tgt := 44) hc1 dX3_wants_4 (by decide) (by decide) (by decide) (by decide) ?_
    refine G_bipush (v := 100) dX3_wants_44 (by decide) ?_
    subst h
    exact G_ret dX3_wants_46 trivial rfl rfl
  replace h := (if_neg hc1).symm.trans h
  by_cases hc2 : (M 3 i0 0) = 2
  · replace h := (if_pos hc2).symm.trans h
    refine G_tableEq (off := 43) (tgt := 47) hc2 dX3_wants_4 (by decide) (by decide) (by decide) (by decide) ?_
    refine G_bipush (v := 50) dX3_wants_47 (by decide) ?_
    refine G_aload_n dX3_wants_49 rfl ?_
    refine fg_X3_15 (v := (M 3 i0 1)) rfl rfl hi0 dX3_wants_50 ?_
    refine G_isub dX3_wants_53 ?_
    subst h
    exact G_ret dX3_wants_54 trivial rfl rfl
  replace h := (if_neg hc2).symm.trans h
  by_cases hc3 : (M 3 i0 0) = 3
  · replace h := (if_pos hc3).symm.trans h
    refine G_tableEq (off := 51) (tgt := 55) hc3 dX3_wants_4 (by decide) (by decide) (by decide) (by decide) ?_
    refine G_bipush (v := 20) dX3_wants_55 (by decide) ?_
    subst h
    exact G_ret dX3_wants_57 trivial rfl rfl
  replace h := (if_neg hc3).symm.trans h
  by_cases hc4 : (M 3 i0 0) = 4
  · replace h := (if_pos hc4).symm.trans h
    refine G_tableEq (off := 40) (tgt := 44) hc4 dX3_wants_4 (by decide) (by decide) (by decide) (by decide) ?_
    refine G_bipush (v := 100) dX3_wants_44 (by decide) ?_
    subst h
    exact G_ret dX3_wants_46 trivial rfl rfl
  replace h := (if_neg hc4).symm.trans h
  by_cases hc5 : (M 3 i0 0) = 5
  · replace h := (if_pos hc5).symm.trans h
    refine G_tableEq (off := 54) (tgt := 58) hc5 dX3_wants_4 (by decide) (by decide) (by decide) (by decide) ?_
    refine G_aload_n dX3_wants_58 rfl ?_
    refine fg_X3_30 (v := (M 3 i0 6)) rfl rfl hi0 dX3_wants_59 ?_
    refine G_if_le (tgt := 77) dX3_wants_62 (by decide) (fun hc6 => ?_) (fun hc6 => ?_)
    · replace h := (if_neg hc6).symm.trans h
      refine G_bipush (v := 50) dX3_wants_77 (by decide) ?_
      refine G_aload_n dX3_wants_79 rfl ?_
      refine fg_X3_15 (v := (M 3 i0 1)) rfl rfl hi0 dX3_wants_80 ?_
      refine G_isub dX3_wants_83 ?_
      subst h
      exact G_ret dX3_wants_84 trivial rfl rfl
    · replace h := (if_pos hc6).symm.trans h
      refine G_iconst (v := 2) dX3_wants_65 (by decide) ?_
      refine G_bipush (v := 50) dX3_wants_66 (by decide) ?_
      refine G_aload_n dX3_wants_68 rfl ?_
      refine fg_X3_15 (v := (M 3 i0 1)) rfl rfl hi0 dX3_wants_69 ?_
      refine G_isub dX3_wants_72 ?_
      refine G_imul dX3_wants_73 ?_
      refine G_goto (tgt := 84) dX3_wants_74 (by decide) ?_
      subst h
      exact G_ret dX3_wants_84 trivial rfl rfl
  replace h := (if_neg hc5).symm.trans h
  by_cases hc7 : (M 3 i0 0) = 6
  · replace h := (if_pos hc7).symm.trans h
    refine G_tableEq (off := 81) (tgt := 85) hc7 dX3_wants_4 (by decide) (by decide) (by decide) (by decide) ?_
    refine G_bipush (v := 30) dX3_wants_85 (by decide) ?_
    subst h
    exact G_ret dX3_wants_87 trivial rfl rfl
  replace h := (if_neg hc7).symm.trans h
  have nhc1 := ne_lit (n := 1) (by decide) hc1
  have nhc2 := ne_lit (n := 2) (by decide) hc2
  have nhc3 := ne_lit (n := 3) (by decide) hc3
  have nhc4 := ne_lit (n := 4) (by decide) hc4
  have nhc5 := ne_lit (n := 5) (by decide) hc5
  have nhc7 := ne_lit (n := 6) (by decide) hc7
  refine G_tableOut (tgt := 88) dX3_wants_4 (by omega) (by decide) ?_
  refine G_bipush (v := 50) dX3_wants_88 (by decide) ?_
  subst h
  exact G_ret dX3_wants_90 trivial rfl rfl

theorem dX3_bears_0 : decode cX3_bears 0 = .ok (.aload_n 0, 1) := by decide +kernel
theorem dX3_bears_1 : decode cX3_bears 1 = .ok (.getfield 9, 3) := by decide +kernel
theorem dX3_bears_4 : decode cX3_bears 4 = .ok (.lookupswitch 32 #[(2, 28), (5, 30)], 28) := by decide +kernel
theorem dX3_bears_32 : decode cX3_bears 32 = .ok (.iconst 2, 1) := by decide +kernel
theorem dX3_bears_33 : decode cX3_bears 33 = .ok (.ireturn, 1) := by decide +kernel
theorem dX3_bears_34 : decode cX3_bears 34 = .ok (.iconst 3, 1) := by decide +kernel
theorem dX3_bears_35 : decode cX3_bears 35 = .ok (.ireturn, 1) := by decide +kernel
theorem dX3_bears_36 : decode cX3_bears 36 = .ok (.iconst 1, 1) := by decide +kernel
theorem dX3_bears_37 : decode cX3_bears 37 = .ok (.ireturn, 1) := by decide +kernel
def X3_bears (i0 : Nat) (M : Mem) : Int32 := (if (M 3 i0 0) = 2 then 2 else (if (M 3 i0 0) = 5 then 3 else 1))
set_option maxRecDepth 100000 in
set_option maxHeartbeats 4000000 in
theorem X3_bears_ok  {i0 : Nat} {M N : Mem} {res : Int32} (hi0 : i0 < 30) (h : X3_bears i0 M = res) : Spec mt_X3_bears 0 [.inr (.inr (3, i0))] (M, N) (some (.inl res)) (M, N) := by
  unfold X3_bears at h
  refine Spec_of_G (by decide) rfl (Nat.le_of_ble_eq_true rfl) ?_
  refine G_sub [(0, .inr (.inr (3, i0)))] [0] rfl ?_
  refine G_aload_n dX3_bears_0 rfl ?_
  refine fg_X3_9 (v := (M 3 i0 0)) rfl rfl hi0 dX3_bears_1 ?_
  by_cases hc1 : (M 3 i0 0) = 2
  · replace h := (if_pos hc1).symm.trans h
    refine G_lookEq (off := 28) (tgt := 32) hc1 dX3_bears_4 (by decide) (by decide) (by decide) ?_
    refine G_iconst (v := 2) dX3_bears_32 (by decide) ?_
    subst h
    exact G_ret dX3_bears_33 trivial rfl rfl
  replace h := (if_neg hc1).symm.trans h
  by_cases hc2 : (M 3 i0 0) = 5
  · replace h := (if_pos hc2).symm.trans h
    refine G_lookEq (off := 30) (tgt := 34) hc2 dX3_bears_4 (by decide) (by decide) (by decide) ?_
    refine G_iconst (v := 3) dX3_bears_34 (by decide) ?_
    subst h
    exact G_ret dX3_bears_35 trivial rfl rfl
  replace h := (if_neg hc2).symm.trans h
  have nhc1 := ne_lit (n := 2) (by decide) hc1
  have nhc2 := ne_lit (n := 5) (by decide) hc2
  refine G_lookup (off := 32) (tgt := 36) dX3_bears_4 (by decide) (by generalize ((M 3 i0 0) : Int32).toInt = zz at nhc1 nhc2 ⊢; simp [Op.lookupswitch.offset, Ne.symm nhc1, Ne.symm nhc2]; done) (by decide) ?_
  refine G_iconst (v := 1) dX3_bears_36 (by decide) ?_
  subst h
  exact G_ret dX3_bears_37 trivial rfl rfl

theorem dX3_goTo_0 : decode cX3_goTo 0 = .ok (.aload_n 0, 1) := by decide +kernel
theorem dX3_goTo_1 : decode cX3_goTo 1 = .ok (.iload_n 1, 1) := by decide +kernel
theorem dX3_goTo_2 : decode cX3_goTo 2 = .ok (.putfield 18, 3) := by decide +kernel
theorem dX3_goTo_5 : decode cX3_goTo 5 = .ok (.aload_n 0, 1) := by decide +kernel
theorem dX3_goTo_6 : decode cX3_goTo 6 = .ok (.iconst 0, 1) := by decide +kernel
theorem dX3_goTo_7 : decode cX3_goTo 7 = .ok (.putfield 27, 3) := by decide +kernel
theorem dX3_goTo_10 : decode cX3_goTo 10 = .ok (.aload_n 0, 1) := by decide +kernel
theorem dX3_goTo_11 : decode cX3_goTo 11 = .ok (.dup, 1) := by decide +kernel
theorem dX3_goTo_12 : decode cX3_goTo 12 = .ok (.getfield 24, 3) := by decide +kernel
theorem dX3_goTo_15 : decode cX3_goTo 15 = .ok (.iconst 2, 1) := by decide +kernel
theorem dX3_goTo_16 : decode cX3_goTo 16 = .ok (.idiv, 1) := by decide +kernel
theorem dX3_goTo_17 : decode cX3_goTo 17 = .ok (.putfield 24, 3) := by decide +kernel
theorem dX3_goTo_20 : decode cX3_goTo 20 = .ok (.aload_n 0, 1) := by decide +kernel
theorem dX3_goTo_21 : decode cX3_goTo 21 = .ok (.getfield 33, 3) := by decide +kernel
theorem dX3_goTo_24 : decode cX3_goTo 24 = .ok (.ifCond .eq 13, 3) := by decide +kernel
theorem dX3_goTo_27 : decode cX3_goTo 27 = .ok (.aload_n 0, 1) := by decide +kernel
theorem dX3_goTo_28 : decode cX3_goTo 28 = .ok (.iconst 0, 1) := by decide +kernel
theorem dX3_goTo_29 : decode cX3_goTo 29 = .ok (.putfield 30, 3) := by decide +kernel
theorem dX3_goTo_32 : decode cX3_goTo 32 = .ok (.aload_n 0, 1) := by decide +kernel
theorem dX3_goTo_33 : decode cX3_goTo 33 = .ok (.iconst 0, 1) := by decide +kernel
theorem dX3_goTo_34 : decode cX3_goTo 34 = .ok (.putfield 33, 3) := by decide +kernel
theorem dX3_goTo_37 : decode cX3_goTo 37 = .ok (.return_, 1) := by decide +kernel
def X3_goTo (i0 : Nat) (v1 : Int32) (M : Mem) : Option (Mem) := (if (nbZ (M 3 i0 7)) = 0 then (some (up3 (up3 (up3 M 3 i0 2 v1) 3 i0 5 0) 3 i0 4 ((M 3 i0 4) / 2))) else (some (up3 (up3 (up3 (up3 (up3 M 3 i0 2 v1) 3 i0 5 0) 3 i0 4 ((M 3 i0 4) / 2)) 3 i0 6 0) 3 i0 7 0)))
set_option maxRecDepth 100000 in
set_option maxHeartbeats 4000000 in
theorem X3_goTo_ok  {i0 : Nat} {v1 : Int32} {M N : Mem} {res : Mem} (hi0 : i0 < 30) (h : X3_goTo i0 v1 M = some res) : Spec mt_X3_goTo 0 [.inr (.inr (3, i0)), .inl v1] (M, N) none (res, N) := by
  unfold X3_goTo at h
  refine Spec_of_G (by decide) rfl (Nat.le_of_ble_eq_true rfl) ?_
  refine G_sub [(0, .inr (.inr (3, i0))), (1, .inl v1)] [0, 1] rfl ?_
  refine G_aload_n dX3_goTo_0 rfl ?_
  refine G_iload_n dX3_goTo_1 rfl ?_
  refine fp_X3_18 rfl hi0 dX3_goTo_2 ?_
  refine G_aload_n dX3_goTo_5 rfl ?_
  refine G_iconst (v := 0) dX3_goTo_6 (by decide) ?_
  refine fp_X3_27 rfl hi0 dX3_goTo_7 ?_
  refine G_aload_n dX3_goTo_10 rfl ?_
  refine G_dup rfl dX3_goTo_11 ?_
  refine fg_X3_24 (v := (M 3 i0 4)) ((up3_k (by decide)).trans (up3_k (by decide))) rfl hi0 dX3_goTo_12 ?_
  refine G_iconst (v := 2) dX3_goTo_15 (by decide) ?_
  refine G_idiv (by decide) dX3_goTo_16 ?_
  refine fp_X3_24 rfl hi0 dX3_goTo_17 ?_
  refine G_aload_n dX3_goTo_20 rfl ?_
  refine fg_X3_33 (v := (nbZ (M 3 i0 7))) (congrArg nbZ ((up3_k (by decide)).trans ((up3_k (by decide)).trans (up3_k (by decide))))) rfl hi0 dX3_goTo_21 ?_
  refine G_if_eq (tgt := 37) dX3_goTo_24 (by decide) (fun hc1 => ?_) (fun hc1 => ?_)
  · replace h := (if_pos hc1).symm.trans h
    obtain rfl := Option.some.inj h
    exact G_ret dX3_goTo_37 trivial rfl rfl
  · replace h := (if_neg hc1).symm.trans h
    refine G_aload_n dX3_goTo_27 rfl ?_
    refine G_iconst (v := 0) dX3_goTo_28 (by decide) ?_
    refine fp_X3_30 rfl hi0 dX3_goTo_29 ?_
    refine G_aload_n dX3_goTo_32 rfl ?_
    refine G_iconst (v := 0) dX3_goTo_33 (by decide) ?_
    refine fp_X3_33 (by decide) rfl hi0 dX3_goTo_34 ?_
    obtain rfl := Option.some.inj h
    exact G_ret dX3_goTo_37 trivial rfl rfl

theorem dX3_canTakeFalseHandle_0 : decode cX3_canTakeFalseHandle 0 = .ok (.aload_n 0, 1) := by decide +kernel
theorem dX3_canTakeFalseHandle_1 : decode cX3_canTakeFalseHandle 1 = .ok (.getfield 18, 3) := by decide +kernel
theorem dX3_canTakeFalseHandle_4 : decode cX3_canTakeFalseHandle 4 = .ok (.iconst (-1), 1) := by decide +kernel
theorem dX3_canTakeFalseHandle_5 : decode cX3_canTakeFalseHandle 5 = .ok (.if_icmp .eq 14, 3) := by decide +kernel
theorem dX3_canTakeFalseHandle_8 : decode cX3_canTakeFalseHandle 8 = .ok (.aload_n 0, 1) := by decide +kernel
theorem dX3_canTakeFalseHandle_9 : decode cX3_canTakeFalseHandle 9 = .ok (.getfield 30, 3) := by decide +kernel
theorem dX3_canTakeFalseHandle_12 : decode cX3_canTakeFalseHandle 12 = .ok (.ifCond .ne 7, 3) := by decide +kernel
theorem dX3_canTakeFalseHandle_15 : decode cX3_canTakeFalseHandle 15 = .ok (.iconst 1, 1) := by decide +kernel
theorem dX3_canTakeFalseHandle_16 : decode cX3_canTakeFalseHandle 16 = .ok (.goto 4, 3) := by decide +kernel
theorem dX3_canTakeFalseHandle_19 : decode cX3_canTakeFalseHandle 19 = .ok (.iconst 0, 1) := by decide +kernel
theorem dX3_canTakeFalseHandle_20 : decode cX3_canTakeFalseHandle 20 = .ok (.ireturn, 1) := by decide +kernel
def X3_canTakeFalseHandle (i0 : Nat) (M : Mem) : Int32 := (if (M 3 i0 2) = (-1) then 0 else (if (M 3 i0 6) = 0 then 1 else 0))
set_option maxRecDepth 100000 in
set_option maxHeartbeats 4000000 in
theorem X3_canTakeFalseHandle_ok  {i0 : Nat} {M N : Mem} {res : Int32} (hi0 : i0 < 30) (h : X3_canTakeFalseHandle i0 M = res) : Spec mt_X3_canTakeFalseHandle 0 [.inr (.inr (3, i0))] (M, N) (some (.inl res)) (M, N) := by
  unfold X3_canTakeFalseHandle at h
  refine Spec_of_G (by decide) rfl (Nat.le_of_ble_eq_true rfl) ?_
  refine G_sub [(0, .inr (.inr (3, i0)))] [0] rfl ?_
  refine G_aload_n dX3_canTakeFalseHandle_0 rfl ?_
  refine fg_X3_18 (v := (M 3 i0 2)) rfl rfl hi0 dX3_canTakeFalseHandle_1 ?_
  refine G_iconst (v := (-1)) dX3_canTakeFalseHandle_4 (by decide) ?_
  refine G_icmp_eq (tgt := 19) dX3_canTakeFalseHandle_5 (by decide) (fun hc1 => ?_) (fun hc1 => ?_)
  · replace h := (if_pos hc1).symm.trans h
    refine G_iconst (v := 0) dX3_canTakeFalseHandle_19 (by decide) ?_
    subst h
    exact G_ret dX3_canTakeFalseHandle_20 (Or.inl rfl) rfl rfl
  · replace h := (if_neg hc1).symm.trans h
    refine G_aload_n dX3_canTakeFalseHandle_8 rfl ?_
    refine fg_X3_30 (v := (M 3 i0 6)) rfl rfl hi0 dX3_canTakeFalseHandle_9 ?_
    refine G_if_ne (tgt := 19) dX3_canTakeFalseHandle_12 (by decide) (fun hc2 => ?_) (fun hc2 => ?_)
    · replace h := (if_neg hc2).symm.trans h
      refine G_iconst (v := 0) dX3_canTakeFalseHandle_19 (by decide) ?_
      subst h
      exact G_ret dX3_canTakeFalseHandle_20 (Or.inl rfl) rfl rfl
    · replace h := (if_pos hc2).symm.trans h
      refine G_iconst (v := 1) dX3_canTakeFalseHandle_15 (by decide) ?_
      refine G_goto (tgt := 20) dX3_canTakeFalseHandle_16 (by decide) ?_
      subst h
      exact G_ret dX3_canTakeFalseHandle_20 (Or.inr rfl) rfl rfl
theorem X3_canTakeFalseHandle_z {i0 : Nat} {M : Mem} : X3_canTakeFalseHandle i0 M = 0 ∨ X3_canTakeFalseHandle i0 M = 1 := by
  unfold X3_canTakeFalseHandle
  (repeat' split) <;> first | exact Or.inl rfl | exact Or.inr rfl | exact X8_in_z

theorem dX3_takeFalseHandle_0 : decode cX3_takeFalseHandle 0 = .ok (.aload_n 0, 1) := by decide +kernel
theorem dX3_takeFalseHandle_1 : decode cX3_takeFalseHandle 1 = .ok (.iconst 1, 1) := by decide +kernel
theorem dX3_takeFalseHandle_2 : decode cX3_takeFalseHandle 2 = .ok (.putfield 30, 3) := by decide +kernel
theorem dX3_takeFalseHandle_5 : decode cX3_takeFalseHandle 5 = .ok (.aload_n 0, 1) := by decide +kernel
theorem dX3_takeFalseHandle_6 : decode cX3_takeFalseHandle 6 = .ok (.iconst 1, 1) := by decide +kernel
theorem dX3_takeFalseHandle_7 : decode cX3_takeFalseHandle 7 = .ok (.putfield 33, 3) := by decide +kernel
theorem dX3_takeFalseHandle_10 : decode cX3_takeFalseHandle 10 = .ok (.return_, 1) := by decide +kernel
def X3_takeFalseHandle (i0 : Nat) (M : Mem) : Option (Mem) := (some (up3 (up3 M 3 i0 6 1) 3 i0 7 1))
set_option maxRecDepth 100000 in
set_option maxHeartbeats 4000000 in
theorem X3_takeFalseHandle_ok  {i0 : Nat} {M N : Mem} {res : Mem} (hi0 : i0 < 30) (h : X3_takeFalseHandle i0 M = some res) : Spec mt_X3_takeFalseHandle 0 [.inr (.inr (3, i0))] (M, N) none (res, N) := by
  unfold X3_takeFalseHandle at h
  refine Spec_of_G (by decide) rfl (Nat.le_of_ble_eq_true rfl) ?_
  refine G_sub [(0, .inr (.inr (3, i0)))] [0] rfl ?_
  refine G_aload_n dX3_takeFalseHandle_0 rfl ?_
  refine G_iconst (v := 1) dX3_takeFalseHandle_1 (by decide) ?_
  refine fp_X3_30 rfl hi0 dX3_takeFalseHandle_2 ?_
  refine G_aload_n dX3_takeFalseHandle_5 rfl ?_
  refine G_iconst (v := 1) dX3_takeFalseHandle_6 (by decide) ?_
  refine fp_X3_33 (by decide) rfl hi0 dX3_takeFalseHandle_7 ?_
  obtain rfl := Option.some.inj h
  exact G_ret dX3_takeFalseHandle_10 trivial rfl rfl

theorem dX7_kindAbove_0 : decode cX7_kindAbove 0 = .ok (.iload_n 0, 1) := by decide +kernel
theorem dX7_kindAbove_1 : decode cX7_kindAbove 1 = .ok (.tableswitch 47 1 6 #[39, 39, 39, 41, 43, 45], 39) := by decide +kernel
theorem dX7_kindAbove_40 : decode cX7_kindAbove 40 = .ok (.iconst 0, 1) := by decide +kernel
theorem dX7_kindAbove_41 : decode cX7_kindAbove 41 = .ok (.ireturn, 1) := by decide +kernel
theorem dX7_kindAbove_42 : decode cX7_kindAbove 42 = .ok (.iconst 1, 1) := by decide +kernel
theorem dX7_kindAbove_43 : decode cX7_kindAbove 43 = .ok (.ireturn, 1) := by decide +kernel
theorem dX7_kindAbove_44 : decode cX7_kindAbove 44 = .ok (.iconst 2, 1) := by decide +kernel
theorem dX7_kindAbove_45 : decode cX7_kindAbove 45 = .ok (.ireturn, 1) := by decide +kernel
theorem dX7_kindAbove_46 : decode cX7_kindAbove 46 = .ok (.iconst 3, 1) := by decide +kernel
theorem dX7_kindAbove_47 : decode cX7_kindAbove 47 = .ok (.ireturn, 1) := by decide +kernel
theorem dX7_kindAbove_48 : decode cX7_kindAbove 48 = .ok (.iconst (-1), 1) := by decide +kernel
theorem dX7_kindAbove_49 : decode cX7_kindAbove 49 = .ok (.ireturn, 1) := by decide +kernel
def X7_kindAbove (v0 : Int32) : Int32 := (if v0 = 1 then 0 else (if v0 = 2 then 0 else (if v0 = 3 then 0 else (if v0 = 4 then 1 else (if v0 = 5 then 2 else (if v0 = 6 then 3 else (-1)))))))
set_option maxRecDepth 100000 in
set_option maxHeartbeats 4000000 in
theorem X7_kindAbove_ok  {v0 : Int32} {MM0 : MM} {res : Int32} (h : X7_kindAbove v0 = res) : Spec mt_X7_kindAbove 0 [.inl v0] MM0 (some (.inl res)) MM0 := by
  unfold X7_kindAbove at h
  refine Spec_of_G (by decide) rfl (Nat.le_of_ble_eq_true rfl) ?_
  refine G_sub [(0, .inl v0)] [0] rfl ?_
  refine G_iload_n dX7_kindAbove_0 rfl ?_
  by_cases hc1 : v0 = 1
  · replace h := (if_pos hc1).symm.trans h
    refine G_tableEq (off := 39) (tgt := 40) hc1 dX7_kindAbove_1 (by decide) (by decide) (by decide) (by decide) ?_
    refine G_iconst (v := 0) dX7_kindAbove_40 (by decide) ?_
    subst h
    exact G_ret dX7_kindAbove_41 trivial rfl rfl
  replace h := (if_neg hc1).symm.trans h
  by_cases hc2 : v0 = 2
  · replace h := (if_pos hc2).symm.trans h
    refine G_tableEq (off := 39) (tgt := 40) hc2 dX7_kindAbove_1 (by decide) (by decide) (by decide) (by decide) ?_
    refine G_iconst (v := 0) dX7_kindAbove_40 (by decide) ?_
    subst h
    exact G_ret dX7_kindAbove_41 trivial rfl rfl
  replace h := (if_neg hc2).symm.trans h
  by_cases hc3 : v0 = 3
  · replace h := (if_pos hc3).symm.trans h
    refine G_tableEq (off := 39) (tgt := 40) hc3 dX7_kindAbove_1 (by decide) (by decide) (by decide) (by decide) ?_
    refine G_iconst (v := 0) dX7_kindAbove_40 (by decide) ?_
    subst h
    exact G_ret dX7_kindAbove_41 trivial rfl rfl
  replace h := (if_neg hc3).symm.trans h
  by_cases hc4 : v0 = 4
  · replace h := (if_pos hc4).symm.trans h
    refine G_tableEq (off := 41) (tgt := 42) hc4 dX7_kindAbove_1 (by decide) (by decide) (by decide) (by decide) ?_
    refine G_iconst (v := 1) dX7_kindAbove_42 (by decide) ?_
    subst h
    exact G_ret dX7_kindAbove_43 trivial rfl rfl
  replace h := (if_neg hc4).symm.trans h
  by_cases hc5 : v0 = 5
  · replace h := (if_pos hc5).symm.trans h
    refine G_tableEq (off := 43) (tgt := 44) hc5 dX7_kindAbove_1 (by decide) (by decide) (by decide) (by decide) ?_
    refine G_iconst (v := 2) dX7_kindAbove_44 (by decide) ?_
    subst h
    exact G_ret dX7_kindAbove_45 trivial rfl rfl
  replace h := (if_neg hc5).symm.trans h
  by_cases hc6 : v0 = 6
  · replace h := (if_pos hc6).symm.trans h
    refine G_tableEq (off := 45) (tgt := 46) hc6 dX7_kindAbove_1 (by decide) (by decide) (by decide) (by decide) ?_
    refine G_iconst (v := 3) dX7_kindAbove_46 (by decide) ?_
    subst h
    exact G_ret dX7_kindAbove_47 trivial rfl rfl
  replace h := (if_neg hc6).symm.trans h
  have nhc1 := ne_lit (n := 1) (by decide) hc1
  have nhc2 := ne_lit (n := 2) (by decide) hc2
  have nhc3 := ne_lit (n := 3) (by decide) hc3
  have nhc4 := ne_lit (n := 4) (by decide) hc4
  have nhc5 := ne_lit (n := 5) (by decide) hc5
  have nhc6 := ne_lit (n := 6) (by decide) hc6
  refine G_tableOut (tgt := 48) dX7_kindAbove_1 (by omega) (by decide) ?_
  refine G_iconst (v := (-1)) dX7_kindAbove_48 (by decide) ?_
  subst h
  exact G_ret dX7_kindAbove_49 trivial rfl rfl

theorem dX7_isUnder_0 : decode cX7_isUnder 0 = .ok (.iload_n 0, 1) := by decide +kernel
theorem dX7_isUnder_1 : decode cX7_isUnder 1 = .ok (.istore_n 2, 1) := by decide +kernel
theorem dX7_isUnder_2 : decode cX7_isUnder 2 = .ok (.iload_n 2, 1) := by decide +kernel
theorem dX7_isUnder_3 : decode cX7_isUnder 3 = .ok (.ifCond .lt 18, 3) := by decide +kernel
theorem dX7_isUnder_6 : decode cX7_isUnder 6 = .ok (.iload_n 2, 1) := by decide +kernel
theorem dX7_isUnder_7 : decode cX7_isUnder 7 = .ok (.iload_n 1, 1) := by decide +kernel
theorem dX7_isUnder_8 : decode cX7_isUnder 8 = .ok (.if_icmp .ne 5, 3) := by decide +kernel
theorem dX7_isUnder_11 : decode cX7_isUnder 11 = .ok (.iconst 1, 1) := by decide +kernel
theorem dX7_isUnder_12 : decode cX7_isUnder 12 = .ok (.ireturn, 1) := by decide +kernel
theorem dX7_isUnder_13 : decode cX7_isUnder 13 = .ok (.iload_n 2, 1) := by decide +kernel
theorem dX7_isUnder_14 : decode cX7_isUnder 14 = .ok (.invokestatic 295, 3) := by decide +kernel
theorem dX7_isUnder_17 : decode cX7_isUnder 17 = .ok (.istore_n 2, 1) := by decide +kernel
theorem dX7_isUnder_18 : decode cX7_isUnder 18 = .ok (.goto (-16), 3) := by decide +kernel
theorem dX7_isUnder_21 : decode cX7_isUnder 21 = .ok (.iconst 0, 1) := by decide +kernel
theorem dX7_isUnder_22 : decode cX7_isUnder 22 = .ok (.ireturn, 1) := by decide +kernel
def X7_isUnder_L2 : Nat → Int32 → Int32 → Option (Unit ⊕ (Int32))
  | 0, _, _ => none
  | fu + 1, v1, v2 => (if v2 < 0 then (some (.inl ())) else (if v2 = v1 then (some (.inr 1)) else (X7_isUnder_L2 fu v1 (X7_kindAbove v2))))
set_option maxRecDepth 100000 in
set_option maxHeartbeats 4000000 in
theorem X7_isUnder_L2_ok  {r : Option AV} {M' : MM} : ∀ (fu : Nat) (v1 : Int32) (v2 : Int32) (MM0 : MM) {res : (Unit) ⊕ (Int32)} (h : X7_isUnder_L2 fu v1 v2 = some res) (K : ∀ q, res = .inl q → G mt_X7_isUnder 1 r M' 21 [] [] MM0) (K2 : ∀ q, res = .inr q → r = (some (.inl q)) ∧ M' = MM0), G mt_X7_isUnder 1 r M' 2 [(1, .inl v1), (2, .inl v2)] [] MM0 := by
  intro fu
  induction fu with
  | zero =>
    intro v1 v2 MM0 res h
    cases h
  | succ fu ih =>
    intro v1 v2 MM0 res h K K2
    replace h : (if v2 < 0 then (some (.inl ())) else (if v2 = v1 then (some (.inr 1)) else (X7_isUnder_L2 fu v1 (X7_kindAbove v2)))) = some res := h
    refine G_iload_n dX7_isUnder_2 rfl ?_
    refine G_if_lt (tgt := 21) dX7_isUnder_3 (by decide) (fun hc3 => ?_) (fun hc3 => ?_)
    · replace h := (if_pos hc3).symm.trans h
      refine G_sub [] [] rfl ?_
      exact K _ (Option.some.inj h).symm
    · replace h := (if_neg hc3).symm.trans h
      refine G_iload_n dX7_isUnder_6 rfl ?_
      refine G_iload_n dX7_isUnder_7 rfl ?_
      refine G_icmp_ne (tgt := 13) dX7_isUnder_8 (by decide) (fun hc4 => ?_) (fun hc4 => ?_)
      · replace h := (if_neg hc4).symm.trans h
        refine G_iload_n dX7_isUnder_13 rfl ?_
        refine G_callSv  (X7_kindAbove_ok rfl) ok_X7_kindAbove ml_X7_295 (by decide) rfl rfl (Nat.le_of_ble_eq_true rfl) dX7_isUnder_14 ?_
        refine G_istore_n (L2 := [(2, .inl (X7_kindAbove v2)), (1, .inl v1)]) dX7_isUnder_17 (by decide) rfl ?_
        refine G_goto (tgt := 2) dX7_isUnder_18 (by decide) ?_
        refine G_sub [(1, .inl v1), (2, .inl (X7_kindAbove v2))] [1, 0] rfl ?_
        exact ih v1 (X7_kindAbove v2) _  h K K2
      · replace h := (if_pos hc4).symm.trans h
        refine G_iconst (v := 1) dX7_isUnder_11 (by decide) ?_
        obtain ⟨e1, e2⟩ := K2 _ (Option.some.inj h).symm
        subst e1; subst e2
        exact G_ret dX7_isUnder_12 (Or.inr rfl) rfl rfl

def X7_isUnder (v0 : Int32) (v1 : Int32) : Option (Int32) := ((X7_isUnder_L2 400 v1 v0).bind fun q1 => match q1 with
  | .inl q1 => (some 0)
  | .inr q1 => some q1)
set_option maxRecDepth 100000 in
set_option maxHeartbeats 4000000 in
theorem X7_isUnder_ok  {v0 : Int32} {v1 : Int32} {MM0 : MM} {res : Int32} (h : X7_isUnder v0 v1 = some res) : Spec mt_X7_isUnder 1 [.inl v0, .inl v1] MM0 (some (.inl res)) MM0 := by
  unfold X7_isUnder at h
  refine Spec_of_G (by decide) rfl (Nat.le_of_ble_eq_true rfl) ?_
  refine G_sub [(0, .inl v0), (1, .inl v1)] [0, 1] rfl ?_
  refine G_iload_n dX7_isUnder_0 rfl ?_
  refine G_istore_n (L2 := [(2, .inl v0), (0, .inl v0), (1, .inl v1)]) dX7_isUnder_1 (by decide) rfl ?_
  refine G_sub [(1, .inl v1), (2, .inl v0)] [2, 0] rfl ?_
  obtain ⟨q1, hq1, h⟩ := bnd h
  refine X7_isUnder_L2_ok  400 v1 v0 _  hq1 (fun q1n q1e => ?_) (fun q1n q1e => ?_)
  · subst q1e
    refine G_iconst (v := 0) dX7_isUnder_21 (by decide) ?_
    obtain rfl := Option.some.inj h
    exact G_ret dX7_isUnder_22 (Or.inl rfl) rfl rfl
  · subst q1e
    obtain rfl := Option.some.inj h
    exact ⟨rfl, rfl⟩

theorem dX2_clear_0 : decode cX2_clear 0 = .ok (.aload_n 0, 1) := by decide +kernel
theorem dX2_clear_1 : decode cX2_clear 1 = .ok (.iconst 0, 1) := by decide +kernel
theorem dX2_clear_2 : decode cX2_clear 2 = .ok (.putfield 18, 3) := by decide +kernel
theorem dX2_clear_5 : decode cX2_clear 5 = .ok (.return_, 1) := by decide +kernel
def X2_clear (i0 : Nat) (M : Mem) : Option (Mem) := (some (up3 M 2 i0 2 0))
set_option maxRecDepth 100000 in
set_option maxHeartbeats 4000000 in
theorem X2_clear_ok  {i0 : Nat} {M N : Mem} {res : Mem} (hi0 : i0 < 7) (h : X2_clear i0 M = some res) : Spec mt_X2_clear 0 [.inr (.inr (2, i0))] (M, N) none (res, N) := by
  unfold X2_clear at h
  refine Spec_of_G (by decide) rfl (Nat.le_of_ble_eq_true rfl) ?_
  refine G_sub [(0, .inr (.inr (2, i0)))] [0] rfl ?_
  refine G_aload_n dX2_clear_0 rfl ?_
  refine G_iconst (v := 0) dX2_clear_1 (by decide) ?_
  refine fp_X2_18 rfl hi0 dX2_clear_2 ?_
  obtain rfl := Option.some.inj h
  exact G_ret dX2_clear_5 trivial rfl rfl

theorem dX2_add_0 : decode cX2_add 0 = .ok (.aload_n 0, 1) := by decide +kernel
theorem dX2_add_1 : decode cX2_add 1 = .ok (.getfield 18, 3) := by decide +kernel
theorem dX2_add_4 : decode cX2_add 4 = .ok (.bipush 50, 2) := by decide +kernel
theorem dX2_add_6 : decode cX2_add 6 = .ok (.if_icmp .ge 23, 3) := by decide +kernel
theorem dX2_add_9 : decode cX2_add 9 = .ok (.aload_n 0, 1) := by decide +kernel
theorem dX2_add_10 : decode cX2_add 10 = .ok (.getfield 9, 3) := by decide +kernel
theorem dX2_add_13 : decode cX2_add 13 = .ok (.aload_n 0, 1) := by decide +kernel
theorem dX2_add_14 : decode cX2_add 14 = .ok (.getfield 18, 3) := by decide +kernel
theorem dX2_add_17 : decode cX2_add 17 = .ok (.iload_n 1, 1) := by decide +kernel
theorem dX2_add_18 : decode cX2_add 18 = .ok (.iastore, 1) := by decide +kernel
theorem dX2_add_19 : decode cX2_add 19 = .ok (.aload_n 0, 1) := by decide +kernel
theorem dX2_add_20 : decode cX2_add 20 = .ok (.dup, 1) := by decide +kernel
theorem dX2_add_21 : decode cX2_add 21 = .ok (.getfield 18, 3) := by decide +kernel
theorem dX2_add_24 : decode cX2_add 24 = .ok (.iconst 1, 1) := by decide +kernel
theorem dX2_add_25 : decode cX2_add 25 = .ok (.iadd, 1) := by decide +kernel
theorem dX2_add_26 : decode cX2_add 26 = .ok (.putfield 18, 3) := by decide +kernel
theorem dX2_add_29 : decode cX2_add 29 = .ok (.return_, 1) := by decide +kernel
def X2_add (i0 : Nat) (v1 : Int32) (M : Mem) : Option (Mem) := (if (M 2 i0 2) < 50 then (if ib (M 2 i0 2) 50 = true then (some (up3 (up3 M 13 i0 ((M 2 i0 2).toNatClampNeg) v1) 2 i0 2 ((M 2 i0 2) + 1))) else none) else (some M))
set_option maxRecDepth 100000 in
set_option maxHeartbeats 4000000 in
theorem X2_add_ok  {i0 : Nat} {v1 : Int32} {M N : Mem} {res : Mem} (hi0 : i0 < 7) (h : X2_add i0 v1 M = some res) : Spec mt_X2_add 0 [.inr (.inr (2, i0)), .inl v1] (M, N) none (res, N) := by
  unfold X2_add at h
  refine Spec_of_G (by decide) rfl (Nat.le_of_ble_eq_true rfl) ?_
  refine G_sub [(0, .inr (.inr (2, i0))), (1, .inl v1)] [0, 1] rfl ?_
  refine G_aload_n dX2_add_0 rfl ?_
  refine fg_X2_18 (v := (M 2 i0 2)) rfl rfl hi0 dX2_add_1 ?_
  refine G_bipush (v := 50) dX2_add_4 (by decide) ?_
  refine G_icmp_ge (tgt := 29) dX2_add_6 (by decide) (fun hc1 => ?_) (fun hc1 => ?_)
  · replace h := (if_neg hc1).symm.trans h
    obtain rfl := Option.some.inj h
    exact G_ret dX2_add_29 trivial rfl rfl
  · replace h := (if_pos hc1).symm.trans h
    refine G_aload_n dX2_add_9 rfl ?_
    refine fg_X2_9 rfl hi0 dX2_add_10 ?_
    refine G_aload_n dX2_add_13 rfl ?_
    refine fg_X2_18 (v := (M 2 i0 2)) rfl rfl hi0 dX2_add_14 ?_
    refine G_iload_n dX2_add_17 rfl ?_
    obtain ⟨hb1, h⟩ := chk h
    have lhb1 := ib_lt hb1
    refine as_13 (kk := (M 2 i0 2).toNatClampNeg) hi0 hb1 rfl dX2_add_18 ?_
    refine G_aload_n dX2_add_19 rfl ?_
    refine G_dup rfl dX2_add_20 ?_
    refine fg_X2_18 (v := (M 2 i0 2)) (up3_f (by decide)) rfl hi0 dX2_add_21 ?_
    refine G_iconst (v := 1) dX2_add_24 (by decide) ?_
    refine G_iadd dX2_add_25 ?_
    refine fp_X2_18 rfl hi0 dX2_add_26 ?_
    obtain rfl := Option.some.inj h
    exact G_ret dX2_add_29 trivial rfl rfl

theorem dX2_copy_0 : decode cX2_copy 0 = .ok (.aload_n 1, 1) := by decide +kernel
theorem dX2_copy_1 : decode cX2_copy 1 = .ok (.getfield 9, 3) := by decide +kernel
theorem dX2_copy_4 : decode cX2_copy 4 = .ok (.iconst 0, 1) := by decide +kernel
theorem dX2_copy_5 : decode cX2_copy 5 = .ok (.aload_n 0, 1) := by decide +kernel
theorem dX2_copy_6 : decode cX2_copy 6 = .ok (.getfield 9, 3) := by decide +kernel
theorem dX2_copy_9 : decode cX2_copy 9 = .ok (.iconst 0, 1) := by decide +kernel
theorem dX2_copy_10 : decode cX2_copy 10 = .ok (.aload_n 1, 1) := by decide +kernel
theorem dX2_copy_11 : decode cX2_copy 11 = .ok (.getfield 18, 3) := by decide +kernel
theorem dX2_copy_14 : decode cX2_copy 14 = .ok (.invokestatic 22, 3) := by decide +kernel
theorem dX2_copy_17 : decode cX2_copy 17 = .ok (.aload_n 0, 1) := by decide +kernel
theorem dX2_copy_18 : decode cX2_copy 18 = .ok (.aload_n 1, 1) := by decide +kernel
theorem dX2_copy_19 : decode cX2_copy 19 = .ok (.getfield 18, 3) := by decide +kernel
theorem dX2_copy_22 : decode cX2_copy 22 = .ok (.putfield 18, 3) := by decide +kernel
theorem dX2_copy_25 : decode cX2_copy 25 = .ok (.return_, 1) := by decide +kernel
def X2_copy (i0 : Nat) (i1 : Nat) (M : Mem) : Option (Mem) := (if cpok (0 : Int32) (0 : Int32) (M 2 i1 2) 50 50 = true then (some (up3 (cp3 M 13 i1 0 13 i0 0 ((M 2 i1 2).toNatClampNeg)) 2 i0 2 (M 2 i1 2))) else none)
set_option maxRecDepth 100000 in
set_option maxHeartbeats 4000000 in
theorem X2_copy_ok  {i0 : Nat} {i1 : Nat} {M N : Mem} {res : Mem} (hi0 : i0 < 7) (hi1 : i1 < 7) (h : X2_copy i0 i1 M = some res) : Spec mt_X2_copy 1 [.inr (.inr (2, i0)), .inr (.inr (2, i1))] (M, N) none (res, N) := by
  unfold X2_copy at h
  refine Spec_of_G (by decide) rfl (Nat.le_of_ble_eq_true rfl) ?_
  refine G_sub [(0, .inr (.inr (2, i0))), (1, .inr (.inr (2, i1)))] [0, 1] rfl ?_
  refine G_aload_n dX2_copy_0 rfl ?_
  refine fg_X2_9 rfl hi1 dX2_copy_1 ?_
  refine G_iconst (v := 0) dX2_copy_4 (by decide) ?_
  refine G_aload_n dX2_copy_5 rfl ?_
  refine fg_X2_9 rfl hi0 dX2_copy_6 ?_
  refine G_iconst (v := 0) dX2_copy_9 (by decide) ?_
  refine G_aload_n dX2_copy_10 rfl ?_
  refine fg_X2_18 (v := (M 2 i1 2)) rfl rfl hi1 dX2_copy_11 ?_
  obtain ⟨hb1, h⟩ := chk h
  refine G_copy (M2 := ((cp3 M 13 i1 0 13 i0 0 ((M 2 i1 2).toNatClampNeg)), N)) ml_X2_22 na_copy st_copy in_System (by decide) (show i1 < 7 from hi1) (by decide) (show i0 < 7 from hi0) (by decide) (by decide) (by decide) hb1 (by decide) rfl rfl dX2_copy_14 ?_
  refine G_aload_n dX2_copy_17 rfl ?_
  refine G_aload_n dX2_copy_18 rfl ?_
  refine fg_X2_18 (v := (M 2 i1 2)) (cp3_f (by decide)) rfl hi1 dX2_copy_19 ?_
  refine fp_X2_18 rfl hi0 dX2_copy_22 ?_
  obtain rfl := Option.some.inj h
  exact G_ret dX2_copy_25 trivial rfl rfl

theorem dX2_stands_0 : decode cX2_stands 0 = .ok (.aload_n 0, 1) := by decide +kernel
theorem dX2_stands_1 : decode cX2_stands 1 = .ok (.getfield 18, 3) := by decide +kernel
theorem dX2_stands_4 : decode cX2_stands 4 = .ok (.ifCond .le 7, 3) := by decide +kernel
theorem dX2_stands_7 : decode cX2_stands 7 = .ok (.iconst 1, 1) := by decide +kernel
theorem dX2_stands_8 : decode cX2_stands 8 = .ok (.goto 4, 3) := by decide +kernel
theorem dX2_stands_11 : decode cX2_stands 11 = .ok (.iconst 0, 1) := by decide +kernel
theorem dX2_stands_12 : decode cX2_stands 12 = .ok (.ireturn, 1) := by decide +kernel
def X2_stands (i0 : Nat) (M : Mem) : Int32 := (if 0 < (M 2 i0 2) then 1 else 0)
set_option maxRecDepth 100000 in
set_option maxHeartbeats 4000000 in
theorem X2_stands_ok  {i0 : Nat} {M N : Mem} {res : Int32} (hi0 : i0 < 7) (h : X2_stands i0 M = res) : Spec mt_X2_stands 0 [.inr (.inr (2, i0))] (M, N) (some (.inl res)) (M, N) := by
  unfold X2_stands at h
  refine Spec_of_G (by decide) rfl (Nat.le_of_ble_eq_true rfl) ?_
  refine G_sub [(0, .inr (.inr (2, i0)))] [0] rfl ?_
  refine G_aload_n dX2_stands_0 rfl ?_
  refine fg_X2_18 (v := (M 2 i0 2)) rfl rfl hi0 dX2_stands_1 ?_
  refine G_if_le (tgt := 11) dX2_stands_4 (by decide) (fun hc1 => ?_) (fun hc1 => ?_)
  · replace h := (if_neg hc1).symm.trans h
    refine G_iconst (v := 0) dX2_stands_11 (by decide) ?_
    subst h
    exact G_ret dX2_stands_12 (Or.inl rfl) rfl rfl
  · replace h := (if_pos hc1).symm.trans h
    refine G_iconst (v := 1) dX2_stands_7 (by decide) ?_
    refine G_goto (tgt := 12) dX2_stands_8 (by decide) ?_
    subst h
    exact G_ret dX2_stands_12 (Or.inr rfl) rfl rfl
theorem X2_stands_z {i0 : Nat} {M : Mem} : X2_stands i0 M = 0 ∨ X2_stands i0 M = 1 := by
  unfold X2_stands
  (repeat' split) <;> first | exact Or.inl rfl | exact Or.inr rfl | exact X8_in_z

theorem dX2_joined_0 : decode cX2_joined 0 = .ok (.iload_n 0, 1) := by decide +kernel
theorem dX2_joined_1 : decode cX2_joined 1 = .ok (.lookupswitch 188 #[(37, 176), (38, 105), (42, 160), (43, 152), (45, 156), (47, 164), (60, 119), (61, 130), (62, 141), (124, 91)], 91) := by decide +kernel
theorem dX2_joined_92 : decode cX2_joined 92 = .ok (.iload_n 1, 1) := by decide +kernel
theorem dX2_joined_93 : decode cX2_joined 93 = .ok (.ifCond .ne 7, 3) := by decide +kernel
theorem dX2_joined_96 : decode cX2_joined 96 = .ok (.iload_n 2, 1) := by decide +kernel
theorem dX2_joined_97 : decode cX2_joined 97 = .ok (.ifCond .eq 7, 3) := by decide +kernel
theorem dX2_joined_100 : decode cX2_joined 100 = .ok (.iconst 1, 1) := by decide +kernel
theorem dX2_joined_101 : decode cX2_joined 101 = .ok (.goto 4, 3) := by decide +kernel
theorem dX2_joined_104 : decode cX2_joined 104 = .ok (.iconst 0, 1) := by decide +kernel
theorem dX2_joined_105 : decode cX2_joined 105 = .ok (.ireturn, 1) := by decide +kernel
theorem dX2_joined_106 : decode cX2_joined 106 = .ok (.iload_n 1, 1) := by decide +kernel
theorem dX2_joined_107 : decode cX2_joined 107 = .ok (.ifCond .eq 11, 3) := by decide +kernel
theorem dX2_joined_110 : decode cX2_joined 110 = .ok (.iload_n 2, 1) := by decide +kernel
theorem dX2_joined_111 : decode cX2_joined 111 = .ok (.ifCond .eq 7, 3) := by decide +kernel
theorem dX2_joined_114 : decode cX2_joined 114 = .ok (.iconst 1, 1) := by decide +kernel
theorem dX2_joined_115 : decode cX2_joined 115 = .ok (.goto 4, 3) := by decide +kernel
theorem dX2_joined_118 : decode cX2_joined 118 = .ok (.iconst 0, 1) := by decide +kernel
theorem dX2_joined_119 : decode cX2_joined 119 = .ok (.ireturn, 1) := by decide +kernel
theorem dX2_joined_120 : decode cX2_joined 120 = .ok (.iload_n 1, 1) := by decide +kernel
theorem dX2_joined_121 : decode cX2_joined 121 = .ok (.iload_n 2, 1) := by decide +kernel
theorem dX2_joined_122 : decode cX2_joined 122 = .ok (.if_icmp .ge 7, 3) := by decide +kernel
theorem dX2_joined_125 : decode cX2_joined 125 = .ok (.iconst 1, 1) := by decide +kernel
theorem dX2_joined_126 : decode cX2_joined 126 = .ok (.goto 4, 3) := by decide +kernel
theorem dX2_joined_129 : decode cX2_joined 129 = .ok (.iconst 0, 1) := by decide +kernel
theorem dX2_joined_130 : decode cX2_joined 130 = .ok (.ireturn, 1) := by decide +kernel
theorem dX2_joined_131 : decode cX2_joined 131 = .ok (.iload_n 1, 1) := by decide +kernel
theorem dX2_joined_132 : decode cX2_joined 132 = .ok (.iload_n 2, 1) := by decide +kernel
theorem dX2_joined_133 : decode cX2_joined 133 = .ok (.if_icmp .ne 7, 3) := by decide +kernel
theorem dX2_joined_136 : decode cX2_joined 136 = .ok (.iconst 1, 1) := by decide +kernel
theorem dX2_joined_137 : decode cX2_joined 137 = .ok (.goto 4, 3) := by decide +kernel
theorem dX2_joined_140 : decode cX2_joined 140 = .ok (.iconst 0, 1) := by decide +kernel
theorem dX2_joined_141 : decode cX2_joined 141 = .ok (.ireturn, 1) := by decide +kernel
theorem dX2_joined_142 : decode cX2_joined 142 = .ok (.iload_n 1, 1) := by decide +kernel
theorem dX2_joined_143 : decode cX2_joined 143 = .ok (.iload_n 2, 1) := by decide +kernel
theorem dX2_joined_144 : decode cX2_joined 144 = .ok (.if_icmp .le 7, 3) := by decide +kernel
theorem dX2_joined_147 : decode cX2_joined 147 = .ok (.iconst 1, 1) := by decide +kernel
theorem dX2_joined_148 : decode cX2_joined 148 = .ok (.goto 4, 3) := by decide +kernel
theorem dX2_joined_151 : decode cX2_joined 151 = .ok (.iconst 0, 1) := by decide +kernel
theorem dX2_joined_152 : decode cX2_joined 152 = .ok (.ireturn, 1) := by decide +kernel
theorem dX2_joined_153 : decode cX2_joined 153 = .ok (.iload_n 1, 1) := by decide +kernel
theorem dX2_joined_154 : decode cX2_joined 154 = .ok (.iload_n 2, 1) := by decide +kernel
theorem dX2_joined_155 : decode cX2_joined 155 = .ok (.iadd, 1) := by decide +kernel
theorem dX2_joined_156 : decode cX2_joined 156 = .ok (.ireturn, 1) := by decide +kernel
theorem dX2_joined_157 : decode cX2_joined 157 = .ok (.iload_n 1, 1) := by decide +kernel
theorem dX2_joined_158 : decode cX2_joined 158 = .ok (.iload_n 2, 1) := by decide +kernel
theorem dX2_joined_159 : decode cX2_joined 159 = .ok (.isub, 1) := by decide +kernel
theorem dX2_joined_160 : decode cX2_joined 160 = .ok (.ireturn, 1) := by decide +kernel
theorem dX2_joined_161 : decode cX2_joined 161 = .ok (.iload_n 1, 1) := by decide +kernel
theorem dX2_joined_162 : decode cX2_joined 162 = .ok (.iload_n 2, 1) := by decide +kernel
theorem dX2_joined_163 : decode cX2_joined 163 = .ok (.imul, 1) := by decide +kernel
theorem dX2_joined_164 : decode cX2_joined 164 = .ok (.ireturn, 1) := by decide +kernel
theorem dX2_joined_165 : decode cX2_joined 165 = .ok (.iload_n 2, 1) := by decide +kernel
theorem dX2_joined_166 : decode cX2_joined 166 = .ok (.ifCond .ne 7, 3) := by decide +kernel
theorem dX2_joined_169 : decode cX2_joined 169 = .ok (.iconst 0, 1) := by decide +kernel
theorem dX2_joined_170 : decode cX2_joined 170 = .ok (.goto 6, 3) := by decide +kernel
theorem dX2_joined_173 : decode cX2_joined 173 = .ok (.iload_n 1, 1) := by decide +kernel
theorem dX2_joined_174 : decode cX2_joined 174 = .ok (.iload_n 2, 1) := by decide +kernel
theorem dX2_joined_175 : decode cX2_joined 175 = .ok (.idiv, 1) := by decide +kernel
theorem dX2_joined_176 : decode cX2_joined 176 = .ok (.ireturn, 1) := by decide +kernel
theorem dX2_joined_177 : decode cX2_joined 177 = .ok (.iload_n 2, 1) := by decide +kernel
theorem dX2_joined_178 : decode cX2_joined 178 = .ok (.ifCond .ne 7, 3) := by decide +kernel
theorem dX2_joined_181 : decode cX2_joined 181 = .ok (.iconst 0, 1) := by decide +kernel
theorem dX2_joined_182 : decode cX2_joined 182 = .ok (.goto 6, 3) := by decide +kernel
theorem dX2_joined_185 : decode cX2_joined 185 = .ok (.iload_n 1, 1) := by decide +kernel
theorem dX2_joined_186 : decode cX2_joined 186 = .ok (.iload_n 2, 1) := by decide +kernel
theorem dX2_joined_187 : decode cX2_joined 187 = .ok (.irem, 1) := by decide +kernel
theorem dX2_joined_188 : decode cX2_joined 188 = .ok (.ireturn, 1) := by decide +kernel
theorem dX2_joined_189 : decode cX2_joined 189 = .ok (.iconst 0, 1) := by decide +kernel
theorem dX2_joined_190 : decode cX2_joined 190 = .ok (.ireturn, 1) := by decide +kernel
def X2_joined (v0 : Int32) (v1 : Int32) (v2 : Int32) : Int32 := (if v0 = 37 then (if v2 = 0 then 0 else (jrem v1 v2)) else (if v0 = 38 then (if v1 = 0 then 0 else (if v2 = 0 then 0 else 1)) else (if v0 = 42 then (v1 * v2) else (if v0 = 43 then (v1 + v2) else (if v0 = 45 then (v1 - v2) else (if v0 = 47 then (if v2 = 0 then 0 else (v1 / v2)) else (if v0 = 60 then (if v1 < v2 then 1 else 0) else (if v0 = 61 then (if v1 = v2 then 1 else 0) else (if v0 = 62 then (if v2 < v1 then 1 else 0) else (if v0 = 124 then (if v1 = 0 then (if v2 = 0 then 0 else 1) else 1) else 0))))))))))
set_option maxRecDepth 100000 in
set_option maxHeartbeats 4000000 in
theorem X2_joined_ok  {v0 : Int32} {v1 : Int32} {v2 : Int32} {MM0 : MM} {res : Int32} (h : X2_joined v0 v1 v2 = res) : Spec mt_X2_joined 0 [.inl v0, .inl v1, .inl v2] MM0 (some (.inl res)) MM0 := by
  unfold X2_joined at h
  refine Spec_of_G (by decide) rfl (Nat.le_of_ble_eq_true rfl) ?_
  refine G_sub [(0, .inl v0), (1, .inl v1), (2, .inl v2)] [0, 1, 2] rfl ?_
  refine G_iload_n dX2_joined_0 rfl ?_
  by_cases hc1 : v0 = 37
  · replace h := (if_pos hc1).symm.trans h
    refine G_lookEq (off := 176) (tgt := 177) hc1 dX2_joined_1 (by decide) (by decide) (by decide) ?_
    refine G_iload_n dX2_joined_177 rfl ?_
    refine G_if_ne (tgt := 185) dX2_joined_178 (by decide) (fun hc2 => ?_) (fun hc2 => ?_)
    · replace h := (if_neg hc2).symm.trans h
      refine G_iload_n dX2_joined_185 rfl ?_
      refine G_iload_n dX2_joined_186 rfl ?_
      refine G_irem hc2 dX2_joined_187 ?_
      subst h
      exact G_ret dX2_joined_188 trivial rfl rfl
    · replace h := (if_pos hc2).symm.trans h
      refine G_iconst (v := 0) dX2_joined_181 (by decide) ?_
      refine G_goto (tgt := 188) dX2_joined_182 (by decide) ?_
      subst h
      exact G_ret dX2_joined_188 trivial rfl rfl
  replace h := (if_neg hc1).symm.trans h
  by_cases hc3 : v0 = 38
  · replace h := (if_pos hc3).symm.trans h
    refine G_lookEq (off := 105) (tgt := 106) hc3 dX2_joined_1 (by decide) (by decide) (by decide) ?_
    refine G_iload_n dX2_joined_106 rfl ?_
    refine G_if_eq (tgt := 118) dX2_joined_107 (by decide) (fun hc4 => ?_) (fun hc4 => ?_)
    · replace h := (if_pos hc4).symm.trans h
      refine G_iconst (v := 0) dX2_joined_118 (by decide) ?_
      subst h
      exact G_ret dX2_joined_119 trivial rfl rfl
    · replace h := (if_neg hc4).symm.trans h
      refine G_iload_n dX2_joined_110 rfl ?_
      refine G_if_eq (tgt := 118) dX2_joined_111 (by decide) (fun hc5 => ?_) (fun hc5 => ?_)
      · replace h := (if_pos hc5).symm.trans h
        refine G_iconst (v := 0) dX2_joined_118 (by decide) ?_
        subst h
        exact G_ret dX2_joined_119 trivial rfl rfl
      · replace h := (if_neg hc5).symm.trans h
        refine G_iconst (v := 1) dX2_joined_114 (by decide) ?_
        refine G_goto (tgt := 119) dX2_joined_115 (by decide) ?_
        subst h
        exact G_ret dX2_joined_119 trivial rfl rfl
  replace h := (if_neg hc3).symm.trans h
  by_cases hc6 : v0 = 42
  · replace h := (if_pos hc6).symm.trans h
    refine G_lookEq (off := 160) (tgt := 161) hc6 dX2_joined_1 (by decide) (by decide) (by decide) ?_
    refine G_iload_n dX2_joined_161 rfl ?_
    refine G_iload_n dX2_joined_162 rfl ?_
    refine G_imul dX2_joined_163 ?_
    subst h
    exact G_ret dX2_joined_164 trivial rfl rfl
  replace h := (if_neg hc6).symm.trans h
  by_cases hc7 : v0 = 43
  · replace h := (if_pos hc7).symm.trans h
    refine G_lookEq (off := 152) (tgt := 153) hc7 dX2_joined_1 (by decide) (by decide) (by decide) ?_
    refine G_iload_n dX2_joined_153 rfl ?_
    refine G_iload_n dX2_joined_154 rfl ?_
    refine G_iadd dX2_joined_155 ?_
    subst h
    exact G_ret dX2_joined_156 trivial rfl rfl
  replace h := (if_neg hc7).symm.trans h
  by_cases hc8 : v0 = 45
  · replace h := (if_pos hc8).symm.trans h
    refine G_lookEq (off := 156) (tgt := 157) hc8 dX2_joined_1 (by decide) (by decide) (by decide) ?_
    refine G_iload_n dX2_joined_157 rfl ?_
    refine G_iload_n dX2_joined_158 rfl ?_
    refine G_isub dX2_joined_159 ?_
    subst h
    exact G_ret dX2_joined_160 trivial rfl rfl
  replace h := (if_neg hc8).symm.trans h
  by_cases hc9 : v0 = 47
  · replace h := (if_pos hc9).symm.trans h
    refine G_lookEq (off := 164) (tgt := 165) hc9 dX2_joined_1 (by decide) (by decide) (by decide) ?_
    refine G_iload_n dX2_joined_165 rfl ?_
    refine G_if_ne (tgt := 173) dX2_joined_166 (by decide) (fun hc10 => ?_) (fun hc10 => ?_)
    · replace h := (if_neg hc10).symm.trans h
      refine G_iload_n dX2_joined_173 rfl ?_
      refine G_iload_n dX2_joined_174 rfl ?_
      refine G_idiv hc10 dX2_joined_175 ?_
      subst h
      exact G_ret dX2_joined_176 trivial rfl rfl
    · replace h := (if_pos hc10).symm.trans h
      refine G_iconst (v := 0) dX2_joined_169 (by decide) ?_
      refine G_goto (tgt := 176) dX2_joined_170 (by decide) ?_
      subst h
      exact G_ret dX2_joined_176 trivial rfl rfl
  replace h := (if_neg hc9).symm.trans h
  by_cases hc11 : v0 = 60
  · replace h := (if_pos hc11).symm.trans h
    refine G_lookEq (off := 119) (tgt := 120) hc11 dX2_joined_1 (by decide) (by decide) (by decide) ?_
    refine G_iload_n dX2_joined_120 rfl ?_
    refine G_iload_n dX2_joined_121 rfl ?_
    refine G_icmp_ge (tgt := 129) dX2_joined_122 (by decide) (fun hc12 => ?_) (fun hc12 => ?_)
    · replace h := (if_neg hc12).symm.trans h
      refine G_iconst (v := 0) dX2_joined_129 (by decide) ?_
      subst h
      exact G_ret dX2_joined_130 trivial rfl rfl
    · replace h := (if_pos hc12).symm.trans h
      refine G_iconst (v := 1) dX2_joined_125 (by decide) ?_
      refine G_goto (tgt := 130) dX2_joined_126 (by decide) ?_
      subst h
      exact G_ret dX2_joined_130 trivial rfl rfl
  replace h := (if_neg hc11).symm.trans h
  by_cases hc13 : v0 = 61
  · replace h := (if_pos hc13).symm.trans h
    refine G_lookEq (off := 130) (tgt := 131) hc13 dX2_joined_1 (by decide) (by decide) (by decide) ?_
    refine G_iload_n dX2_joined_131 rfl ?_
    refine G_iload_n dX2_joined_132 rfl ?_
    refine G_icmp_ne (tgt := 140) dX2_joined_133 (by decide) (fun hc14 => ?_) (fun hc14 => ?_)
    · replace h := (if_neg hc14).symm.trans h
      refine G_iconst (v := 0) dX2_joined_140 (by decide) ?_
      subst h
      exact G_ret dX2_joined_141 trivial rfl rfl
    · replace h := (if_pos hc14).symm.trans h
      refine G_iconst (v := 1) dX2_joined_136 (by decide) ?_
      refine G_goto (tgt := 141) dX2_joined_137 (by decide) ?_
      subst h
      exact G_ret dX2_joined_141 trivial rfl rfl
  replace h := (if_neg hc13).symm.trans h
  by_cases hc15 : v0 = 62
  · replace h := (if_pos hc15).symm.trans h
    refine G_lookEq (off := 141) (tgt := 142) hc15 dX2_joined_1 (by decide) (by decide) (by decide) ?_
    refine G_iload_n dX2_joined_142 rfl ?_
    refine G_iload_n dX2_joined_143 rfl ?_
    refine G_icmp_le (tgt := 151) dX2_joined_144 (by decide) (fun hc16 => ?_) (fun hc16 => ?_)
    · replace h := (if_neg hc16).symm.trans h
      refine G_iconst (v := 0) dX2_joined_151 (by decide) ?_
      subst h
      exact G_ret dX2_joined_152 trivial rfl rfl
    · replace h := (if_pos hc16).symm.trans h
      refine G_iconst (v := 1) dX2_joined_147 (by decide) ?_
      refine G_goto (tgt := 152) dX2_joined_148 (by decide) ?_
      subst h
      exact G_ret dX2_joined_152 trivial rfl rfl
  replace h := (if_neg hc15).symm.trans h
  by_cases hc17 : v0 = 124
  · replace h := (if_pos hc17).symm.trans h
    refine G_lookEq (off := 91) (tgt := 92) hc17 dX2_joined_1 (by decide) (by decide) (by decide) ?_
    refine G_iload_n dX2_joined_92 rfl ?_
    refine G_if_ne (tgt := 100) dX2_joined_93 (by decide) (fun hc18 => ?_) (fun hc18 => ?_)
    · replace h := (if_neg hc18).symm.trans h
      refine G_iconst (v := 1) dX2_joined_100 (by decide) ?_
      refine G_goto (tgt := 105) dX2_joined_101 (by decide) ?_
      subst h
      exact G_ret dX2_joined_105 trivial rfl rfl
    · replace h := (if_pos hc18).symm.trans h
      refine G_iload_n dX2_joined_96 rfl ?_
      refine G_if_eq (tgt := 104) dX2_joined_97 (by decide) (fun hc19 => ?_) (fun hc19 => ?_)
      · replace h := (if_pos hc19).symm.trans h
        refine G_iconst (v := 0) dX2_joined_104 (by decide) ?_
        subst h
        exact G_ret dX2_joined_105 trivial rfl rfl
      · replace h := (if_neg hc19).symm.trans h
        refine G_iconst (v := 1) dX2_joined_100 (by decide) ?_
        refine G_goto (tgt := 105) dX2_joined_101 (by decide) ?_
        subst h
        exact G_ret dX2_joined_105 trivial rfl rfl
  replace h := (if_neg hc17).symm.trans h
  have nhc1 := ne_lit (n := 37) (by decide) hc1
  have nhc3 := ne_lit (n := 38) (by decide) hc3
  have nhc6 := ne_lit (n := 42) (by decide) hc6
  have nhc7 := ne_lit (n := 43) (by decide) hc7
  have nhc8 := ne_lit (n := 45) (by decide) hc8
  have nhc9 := ne_lit (n := 47) (by decide) hc9
  have nhc11 := ne_lit (n := 60) (by decide) hc11
  have nhc13 := ne_lit (n := 61) (by decide) hc13
  have nhc15 := ne_lit (n := 62) (by decide) hc15
  have nhc17 := ne_lit (n := 124) (by decide) hc17
  refine G_lookup (off := 188) (tgt := 189) dX2_joined_1 (by decide) (by generalize (v0 : Int32).toInt = zz at nhc1 nhc3 nhc6 nhc7 nhc8 nhc9 nhc11 nhc13 nhc15 nhc17 ⊢; simp [Op.lookupswitch.offset, Ne.symm nhc1, Ne.symm nhc3, Ne.symm nhc6, Ne.symm nhc7, Ne.symm nhc8, Ne.symm nhc9, Ne.symm nhc11, Ne.symm nhc13, Ne.symm nhc15, Ne.symm nhc17]; done) (by decide) ?_
  refine G_iconst (v := 0) dX2_joined_189 (by decide) ?_
  subst h
  exact G_ret dX2_joined_190 trivial rfl rfl

theorem dX2_namedOrNumber_0 : decode cX2_namedOrNumber 0 = .ok (.iload_n 0, 1) := by decide +kernel
theorem dX2_namedOrNumber_1 : decode cX2_namedOrNumber 1 = .ok (.tableswitch 33 (-3) (-1) #[31, 29, 27], 27) := by decide +kernel
theorem dX2_namedOrNumber_28 : decode cX2_namedOrNumber 28 = .ok (.iload_n 1, 1) := by decide +kernel
theorem dX2_namedOrNumber_29 : decode cX2_namedOrNumber 29 = .ok (.ireturn, 1) := by decide +kernel
theorem dX2_namedOrNumber_30 : decode cX2_namedOrNumber 30 = .ok (.iload_n 2, 1) := by decide +kernel
theorem dX2_namedOrNumber_31 : decode cX2_namedOrNumber 31 = .ok (.ireturn, 1) := by decide +kernel
theorem dX2_namedOrNumber_32 : decode cX2_namedOrNumber 32 = .ok (.iload_n 3, 1) := by decide +kernel
theorem dX2_namedOrNumber_33 : decode cX2_namedOrNumber 33 = .ok (.ireturn, 1) := by decide +kernel
theorem dX2_namedOrNumber_34 : decode cX2_namedOrNumber 34 = .ok (.iload_n 0, 1) := by decide +kernel
theorem dX2_namedOrNumber_35 : decode cX2_namedOrNumber 35 = .ok (.ireturn, 1) := by decide +kernel
def X2_namedOrNumber (v0 : Int32) (v1 : Int32) (v2 : Int32) (v3 : Int32) : Int32 := (if v0 = (-3) then v3 else (if v0 = (-2) then v2 else (if v0 = (-1) then v1 else v0)))
set_option maxRecDepth 100000 in
set_option maxHeartbeats 4000000 in
theorem X2_namedOrNumber_ok  {v0 : Int32} {v1 : Int32} {v2 : Int32} {v3 : Int32} {MM0 : MM} {res : Int32} (h : X2_namedOrNumber v0 v1 v2 v3 = res) : Spec mt_X2_namedOrNumber 0 [.inl v0, .inl v1, .inl v2, .inl v3] MM0 (some (.inl res)) MM0 := by
  unfold X2_namedOrNumber at h
  refine Spec_of_G (by decide) rfl (Nat.le_of_ble_eq_true rfl) ?_
  refine G_sub [(0, .inl v0), (1, .inl v1), (2, .inl v2), (3, .inl v3)] [0, 1, 2, 3] rfl ?_
  refine G_iload_n dX2_namedOrNumber_0 rfl ?_
  by_cases hc1 : v0 = (-3)
  · replace h := (if_pos hc1).symm.trans h
    refine G_tableEq (off := 31) (tgt := 32) hc1 dX2_namedOrNumber_1 (by decide) (by decide) (by decide) (by decide) ?_
    refine G_iload_n dX2_namedOrNumber_32 rfl ?_
    subst h
    exact G_ret dX2_namedOrNumber_33 trivial rfl rfl
  replace h := (if_neg hc1).symm.trans h
  by_cases hc2 : v0 = (-2)
  · replace h := (if_pos hc2).symm.trans h
    refine G_tableEq (off := 29) (tgt := 30) hc2 dX2_namedOrNumber_1 (by decide) (by decide) (by decide) (by decide) ?_
    refine G_iload_n dX2_namedOrNumber_30 rfl ?_
    subst h
    exact G_ret dX2_namedOrNumber_31 trivial rfl rfl
  replace h := (if_neg hc2).symm.trans h
  by_cases hc3 : v0 = (-1)
  · replace h := (if_pos hc3).symm.trans h
    refine G_tableEq (off := 27) (tgt := 28) hc3 dX2_namedOrNumber_1 (by decide) (by decide) (by decide) (by decide) ?_
    refine G_iload_n dX2_namedOrNumber_28 rfl ?_
    subst h
    exact G_ret dX2_namedOrNumber_29 trivial rfl rfl
  replace h := (if_neg hc3).symm.trans h
  have nhc1 := ne_lit (n := (-3)) (by decide) hc1
  have nhc2 := ne_lit (n := (-2)) (by decide) hc2
  have nhc3 := ne_lit (n := (-1)) (by decide) hc3
  refine G_tableOut (tgt := 34) dX2_namedOrNumber_1 (by omega) (by decide) ?_
  refine G_iload_n dX2_namedOrNumber_34 rfl ?_
  subst h
  exact G_ret dX2_namedOrNumber_35 trivial rfl rfl

theorem dX2_workedOut_0 : decode cX2_workedOut 0 = .ok (.iconst 0, 1) := by decide +kernel
theorem dX2_workedOut_1 : decode cX2_workedOut 1 = .ok (.istore 4, 2) := by decide +kernel
theorem dX2_workedOut_3 : decode cX2_workedOut 3 = .ok (.iconst 0, 1) := by decide +kernel
theorem dX2_workedOut_4 : decode cX2_workedOut 4 = .ok (.istore 5, 2) := by decide +kernel
theorem dX2_workedOut_6 : decode cX2_workedOut 6 = .ok (.iload 5, 2) := by decide +kernel
theorem dX2_workedOut_8 : decode cX2_workedOut 8 = .ok (.aload_n 0, 1) := by decide +kernel
theorem dX2_workedOut_9 : decode cX2_workedOut 9 = .ok (.getfield 18, 3) := by decide +kernel
theorem dX2_workedOut_12 : decode cX2_workedOut 12 = .ok (.if_icmp .ge 135, 3) := by decide +kernel
theorem dX2_workedOut_15 : decode cX2_workedOut 15 = .ok (.aload_n 0, 1) := by decide +kernel
theorem dX2_workedOut_16 : decode cX2_workedOut 16 = .ok (.getfield 9, 3) := by decide +kernel
theorem dX2_workedOut_19 : decode cX2_workedOut 19 = .ok (.iload 5, 2) := by decide +kernel
theorem dX2_workedOut_21 : decode cX2_workedOut 21 = .ok (.iaload, 1) := by decide +kernel
theorem dX2_workedOut_22 : decode cX2_workedOut 22 = .ok (.istore 6, 2) := by decide +kernel
theorem dX2_workedOut_24 : decode cX2_workedOut 24 = .ok (.iload 6, 2) := by decide +kernel
theorem dX2_workedOut_26 : decode cX2_workedOut 26 = .ok (.bipush (-33), 2) := by decide +kernel
theorem dX2_workedOut_28 : decode cX2_workedOut 28 = .ok (.if_icmp .ne 38, 3) := by decide +kernel
theorem dX2_workedOut_31 : decode cX2_workedOut 31 = .ok (.iload 4, 2) := by decide +kernel
theorem dX2_workedOut_33 : decode cX2_workedOut 33 = .ok (.iconst 1, 1) := by decide +kernel
theorem dX2_workedOut_34 : decode cX2_workedOut 34 = .ok (.if_icmp .lt 107, 3) := by decide +kernel
theorem dX2_workedOut_37 : decode cX2_workedOut 37 = .ok (.aload_n 0, 1) := by decide +kernel
theorem dX2_workedOut_38 : decode cX2_workedOut 38 = .ok (.getfield 15, 3) := by decide +kernel
theorem dX2_workedOut_41 : decode cX2_workedOut 41 = .ok (.iload 4, 2) := by decide +kernel
theorem dX2_workedOut_43 : decode cX2_workedOut 43 = .ok (.iconst 1, 1) := by decide +kernel
theorem dX2_workedOut_44 : decode cX2_workedOut 44 = .ok (.isub, 1) := by decide +kernel
theorem dX2_workedOut_45 : decode cX2_workedOut 45 = .ok (.aload_n 0, 1) := by decide +kernel
theorem dX2_workedOut_46 : decode cX2_workedOut 46 = .ok (.getfield 15, 3) := by decide +kernel
theorem dX2_workedOut_49 : decode cX2_workedOut 49 = .ok (.iload 4, 2) := by decide +kernel
theorem dX2_workedOut_51 : decode cX2_workedOut 51 = .ok (.iconst 1, 1) := by decide +kernel
theorem dX2_workedOut_52 : decode cX2_workedOut 52 = .ok (.isub, 1) := by decide +kernel
theorem dX2_workedOut_53 : decode cX2_workedOut 53 = .ok (.iaload, 1) := by decide +kernel
theorem dX2_workedOut_54 : decode cX2_workedOut 54 = .ok (.ifCond .ne 7, 3) := by decide +kernel
theorem dX2_workedOut_57 : decode cX2_workedOut 57 = .ok (.iconst 1, 1) := by decide +kernel
theorem dX2_workedOut_58 : decode cX2_workedOut 58 = .ok (.goto 4, 3) := by decide +kernel
theorem dX2_workedOut_61 : decode cX2_workedOut 61 = .ok (.iconst 0, 1) := by decide +kernel
theorem dX2_workedOut_62 : decode cX2_workedOut 62 = .ok (.iastore, 1) := by decide +kernel
theorem dX2_workedOut_63 : decode cX2_workedOut 63 = .ok (.goto 78, 3) := by decide +kernel
theorem dX2_workedOut_66 : decode cX2_workedOut 66 = .ok (.iload 6, 2) := by decide +kernel
theorem dX2_workedOut_68 : decode cX2_workedOut 68 = .ok (.bipush (-3), 2) := by decide +kernel
theorem dX2_workedOut_70 : decode cX2_workedOut 70 = .ok (.if_icmp .ge 46, 3) := by decide +kernel
theorem dX2_workedOut_73 : decode cX2_workedOut 73 = .ok (.iload 4, 2) := by decide +kernel
theorem dX2_workedOut_75 : decode cX2_workedOut 75 = .ok (.iconst 2, 1) := by decide +kernel
theorem dX2_workedOut_76 : decode cX2_workedOut 76 = .ok (.if_icmp .lt 65, 3) := by decide +kernel
theorem dX2_workedOut_79 : decode cX2_workedOut 79 = .ok (.iinc 4 (-1), 3) := by decide +kernel
theorem dX2_workedOut_82 : decode cX2_workedOut 82 = .ok (.aload_n 0, 1) := by decide +kernel
theorem dX2_workedOut_83 : decode cX2_workedOut 83 = .ok (.getfield 15, 3) := by decide +kernel
theorem dX2_workedOut_86 : decode cX2_workedOut 86 = .ok (.iload 4, 2) := by decide +kernel
theorem dX2_workedOut_88 : decode cX2_workedOut 88 = .ok (.iconst 1, 1) := by decide +kernel
theorem dX2_workedOut_89 : decode cX2_workedOut 89 = .ok (.isub, 1) := by decide +kernel
theorem dX2_workedOut_90 : decode cX2_workedOut 90 = .ok (.iload 6, 2) := by decide +kernel
theorem dX2_workedOut_92 : decode cX2_workedOut 92 = .ok (.ineg, 1) := by decide +kernel
theorem dX2_workedOut_93 : decode cX2_workedOut 93 = .ok (.aload_n 0, 1) := by decide +kernel
theorem dX2_workedOut_94 : decode cX2_workedOut 94 = .ok (.getfield 15, 3) := by decide +kernel
theorem dX2_workedOut_97 : decode cX2_workedOut 97 = .ok (.iload 4, 2) := by decide +kernel
theorem dX2_workedOut_99 : decode cX2_workedOut 99 = .ok (.iconst 1, 1) := by decide +kernel
theorem dX2_workedOut_100 : decode cX2_workedOut 100 = .ok (.isub, 1) := by decide +kernel
theorem dX2_workedOut_101 : decode cX2_workedOut 101 = .ok (.iaload, 1) := by decide +kernel
theorem dX2_workedOut_102 : decode cX2_workedOut 102 = .ok (.aload_n 0, 1) := by decide +kernel
theorem dX2_workedOut_103 : decode cX2_workedOut 103 = .ok (.getfield 15, 3) := by decide +kernel
theorem dX2_workedOut_106 : decode cX2_workedOut 106 = .ok (.iload 4, 2) := by decide +kernel
theorem dX2_workedOut_108 : decode cX2_workedOut 108 = .ok (.iaload, 1) := by decide +kernel
theorem dX2_workedOut_109 : decode cX2_workedOut 109 = .ok (.invokestatic 28, 3) := by decide +kernel
theorem dX2_workedOut_112 : decode cX2_workedOut 112 = .ok (.iastore, 1) := by decide +kernel
theorem dX2_workedOut_113 : decode cX2_workedOut 113 = .ok (.goto 28, 3) := by decide +kernel
theorem dX2_workedOut_116 : decode cX2_workedOut 116 = .ok (.iload 4, 2) := by decide +kernel
theorem dX2_workedOut_118 : decode cX2_workedOut 118 = .ok (.bipush 50, 2) := by decide +kernel
theorem dX2_workedOut_120 : decode cX2_workedOut 120 = .ok (.if_icmp .ge 21, 3) := by decide +kernel
theorem dX2_workedOut_123 : decode cX2_workedOut 123 = .ok (.aload_n 0, 1) := by decide +kernel
theorem dX2_workedOut_124 : decode cX2_workedOut 124 = .ok (.getfield 15, 3) := by decide +kernel
theorem dX2_workedOut_127 : decode cX2_workedOut 127 = .ok (.iload 4, 2) := by decide +kernel
theorem dX2_workedOut_129 : decode cX2_workedOut 129 = .ok (.iload 6, 2) := by decide +kernel
theorem dX2_workedOut_131 : decode cX2_workedOut 131 = .ok (.iload_n 1, 1) := by decide +kernel
theorem dX2_workedOut_132 : decode cX2_workedOut 132 = .ok (.iload_n 2, 1) := by decide +kernel
theorem dX2_workedOut_133 : decode cX2_workedOut 133 = .ok (.iload_n 3, 1) := by decide +kernel
theorem dX2_workedOut_134 : decode cX2_workedOut 134 = .ok (.invokestatic 32, 3) := by decide +kernel
theorem dX2_workedOut_137 : decode cX2_workedOut 137 = .ok (.iastore, 1) := by decide +kernel
theorem dX2_workedOut_138 : decode cX2_workedOut 138 = .ok (.iinc 4 1, 3) := by decide +kernel
theorem dX2_workedOut_141 : decode cX2_workedOut 141 = .ok (.iinc 5 1, 3) := by decide +kernel
theorem dX2_workedOut_144 : decode cX2_workedOut 144 = .ok (.goto (-138), 3) := by decide +kernel
theorem dX2_workedOut_147 : decode cX2_workedOut 147 = .ok (.iload 4, 2) := by decide +kernel
theorem dX2_workedOut_149 : decode cX2_workedOut 149 = .ok (.ifCond .le 15, 3) := by decide +kernel
theorem dX2_workedOut_152 : decode cX2_workedOut 152 = .ok (.aload_n 0, 1) := by decide +kernel
theorem dX2_workedOut_153 : decode cX2_workedOut 153 = .ok (.getfield 15, 3) := by decide +kernel
theorem dX2_workedOut_156 : decode cX2_workedOut 156 = .ok (.iload 4, 2) := by decide +kernel
theorem dX2_workedOut_158 : decode cX2_workedOut 158 = .ok (.iconst 1, 1) := by decide +kernel
theorem dX2_workedOut_159 : decode cX2_workedOut 159 = .ok (.isub, 1) := by decide +kernel
theorem dX2_workedOut_160 : decode cX2_workedOut 160 = .ok (.iaload, 1) := by decide +kernel
theorem dX2_workedOut_161 : decode cX2_workedOut 161 = .ok (.goto 4, 3) := by decide +kernel
theorem dX2_workedOut_164 : decode cX2_workedOut 164 = .ok (.iconst 0, 1) := by decide +kernel
theorem dX2_workedOut_165 : decode cX2_workedOut 165 = .ok (.ireturn, 1) := by decide +kernel
def X2_workedOut_L6 : Nat → Nat → Int32 → Int32 → Int32 → Int32 → Int32 → Mem → Option (Int32 × Mem)
  | 0, _, _, _, _, _, _, _ => none
  | fu + 1, i0, v1, v2, v3, v4, v5, M => (if v5 < (M 2 i0 2) then (if ib v5 50 = true then (if (M 13 i0 v5.toNatClampNeg) = (-33) then (if v4 < 1 then (X2_workedOut_L6 fu i0 v1 v2 v3 v4 (v5 + 1) M) else (if ib (v4 - 1) 50 = true then (if (M 14 i0 ((v4 - 1).toNatClampNeg)) = 0 then (X2_workedOut_L6 fu i0 v1 v2 v3 v4 (v5 + 1) (up3 M 14 i0 ((v4 - 1).toNatClampNeg) 1)) else (X2_workedOut_L6 fu i0 v1 v2 v3 v4 (v5 + 1) (up3 M 14 i0 ((v4 - 1).toNatClampNeg) 0))) else none)) else (if (M 13 i0 v5.toNatClampNeg) < (-3) then (if v4 < 2 then (X2_workedOut_L6 fu i0 v1 v2 v3 v4 (v5 + 1) M) else (if ib ((v4 + (-1)) - 1) 50 = true then (if ib (v4 + (-1)) 50 = true then (X2_workedOut_L6 fu i0 v1 v2 v3 (v4 + (-1)) (v5 + 1) (up3 M 14 i0 (((v4 + (-1)) - 1).toNatClampNeg) (X2_joined (-(M 13 i0 v5.toNatClampNeg)) (M 14 i0 (((v4 + (-1)) - 1).toNatClampNeg)) (M 14 i0 ((v4 + (-1)).toNatClampNeg))))) else none) else none)) else (if v4 < 50 then (if ib v4 50 = true then (X2_workedOut_L6 fu i0 v1 v2 v3 (v4 + 1) (v5 + 1) (up3 M 14 i0 v4.toNatClampNeg (X2_namedOrNumber (M 13 i0 v5.toNatClampNeg) v1 v2 v3))) else none) else (X2_workedOut_L6 fu i0 v1 v2 v3 v4 (v5 + 1) M)))) else none) else (some (v4, M)))
set_option maxRecDepth 100000 in
set_option maxHeartbeats 4000000 in
theorem X2_workedOut_L6_ok  {r : Option AV} {M' : MM} : ∀ (fu : Nat) (i0 : Nat) (v1 : Int32) (v2 : Int32) (v3 : Int32) (v4 : Int32) (v5 : Int32) (M N : Mem) {res : Int32 × Mem} (hi0 : i0 < 7) (h : X2_workedOut_L6 fu i0 v1 v2 v3 v4 v5 M = some res) (K : G mt_X2_workedOut 1 r M' 147 [(0, .inr (.inr (2, i0))), (4, .inl res.1)] [] (res.2, N)), G mt_X2_workedOut 1 r M' 6 [(0, .inr (.inr (2, i0))), (1, .inl v1), (2, .inl v2), (3, .inl v3), (4, .inl v4), (5, .inl v5)] [] (M, N) := by
  intro fu
  induction fu with
  | zero =>
    intro i0 v1 v2 v3 v4 v5 M N res hi0 h
    cases h
  | succ fu ih =>
    intro i0 v1 v2 v3 v4 v5 M N res hi0 h K
    replace h : (if v5 < (M 2 i0 2) then (if ib v5 50 = true then (if (M 13 i0 v5.toNatClampNeg) = (-33) then (if v4 < 1 then (X2_workedOut_L6 fu i0 v1 v2 v3 v4 (v5 + 1) M) else (if ib (v4 - 1) 50 = true then (if (M 14 i0 ((v4 - 1).toNatClampNeg)) = 0 then (X2_workedOut_L6 fu i0 v1 v2 v3 v4 (v5 + 1) (up3 M 14 i0 ((v4 - 1).toNatClampNeg) 1)) else (X2_workedOut_L6 fu i0 v1 v2 v3 v4 (v5 + 1) (up3 M 14 i0 ((v4 - 1).toNatClampNeg) 0))) else none)) else (if (M 13 i0 v5.toNatClampNeg) < (-3) then (if v4 < 2 then (X2_workedOut_L6 fu i0 v1 v2 v3 v4 (v5 + 1) M) else (if ib ((v4 + (-1)) - 1) 50 = true then (if ib (v4 + (-1)) 50 = true then (X2_workedOut_L6 fu i0 v1 v2 v3 (v4 + (-1)) (v5 + 1) (up3 M 14 i0 (((v4 + (-1)) - 1).toNatClampNeg) (X2_joined (-(M 13 i0 v5.toNatClampNeg)) (M 14 i0 (((v4 + (-1)) - 1).toNatClampNeg)) (M 14 i0 ((v4 + (-1)).toNatClampNeg))))) else none) else none)) else (if v4 < 50 then (if ib v4 50 = true then (X2_workedOut_L6 fu i0 v1 v2 v3 (v4 + 1) (v5 + 1) (up3 M 14 i0 v4.toNatClampNeg (X2_namedOrNumber (M 13 i0 v5.toNatClampNeg) v1 v2 v3))) else none) else (X2_workedOut_L6 fu i0 v1 v2 v3 v4 (v5 + 1) M)))) else none) else (some (v4, M))) = some res := h
    refine G_iload dX2_workedOut_6 rfl ?_
    refine G_aload_n dX2_workedOut_8 rfl ?_
    refine fg_X2_18 (v := (M 2 i0 2)) rfl rfl hi0 dX2_workedOut_9 ?_
    refine G_icmp_ge (tgt := 147) dX2_workedOut_12 (by decide) (fun hc1 => ?_) (fun hc1 => ?_)
    · replace h := (if_neg hc1).symm.trans h
      refine G_sub [(0, .inr (.inr (2, i0))), (4, .inl v4)] [0, 4] rfl ?_
      obtain rfl := Option.some.inj h
      exact K
    · replace h := (if_pos hc1).symm.trans h
      refine G_aload_n dX2_workedOut_15 rfl ?_
      refine fg_X2_9 rfl hi0 dX2_workedOut_16 ?_
      refine G_iload dX2_workedOut_19 rfl ?_
      obtain ⟨hb1, h⟩ := chk h
      have lhb1 := ib_lt hb1
      refine al_13 (kk := v5.toNatClampNeg) (v := (M 13 i0 v5.toNatClampNeg)) hi0 hb1 rfl rfl dX2_workedOut_21 ?_
      refine G_istore (L2 := [(6, .inl (M 13 i0 v5.toNatClampNeg)), (0, .inr (.inr (2, i0))), (1, .inl v1), (2, .inl v2), (3, .inl v3), (4, .inl v4), (5, .inl v5)]) dX2_workedOut_22 (by decide) rfl ?_
      refine G_iload dX2_workedOut_24 rfl ?_
      refine G_bipush (v := (-33)) dX2_workedOut_26 (by decide) ?_
      refine G_icmp_ne (tgt := 66) dX2_workedOut_28 (by decide) (fun hc2 => ?_) (fun hc2 => ?_)
      · replace h := (if_neg hc2).symm.trans h
        refine G_iload dX2_workedOut_66 rfl ?_
        refine G_bipush (v := (-3)) dX2_workedOut_68 (by decide) ?_
        refine G_icmp_ge (tgt := 116) dX2_workedOut_70 (by decide) (fun hc3 => ?_) (fun hc3 => ?_)
        · replace h := (if_neg hc3).symm.trans h
          refine G_iload dX2_workedOut_116 rfl ?_
          refine G_bipush (v := 50) dX2_workedOut_118 (by decide) ?_
          refine G_icmp_ge (tgt := 141) dX2_workedOut_120 (by decide) (fun hc4 => ?_) (fun hc4 => ?_)
          · replace h := (if_neg hc4).symm.trans h
            refine G_iinc (v := (v5 + 1)) (L2 := [(5, .inl (v5 + 1)), (6, .inl (M 13 i0 v5.toNatClampNeg)), (0, .inr (.inr (2, i0))), (1, .inl v1), (2, .inl v2), (3, .inl v3), (4, .inl v4)]) dX2_workedOut_141 rfl (by first | rfl | (show _ + Int32.ofInt _ = _; rfl)) (by decide) rfl ?_
            refine G_goto (tgt := 6) dX2_workedOut_144 (by decide) ?_
            refine G_sub [(0, .inr (.inr (2, i0))), (1, .inl v1), (2, .inl v2), (3, .inl v3), (4, .inl v4), (5, .inl (v5 + 1))] [2, 3, 4, 5, 6, 0] rfl ?_
            exact ih i0 v1 v2 v3 v4 (v5 + 1) M _ hi0 h K
          · replace h := (if_pos hc4).symm.trans h
            refine G_aload_n dX2_workedOut_123 rfl ?_
            refine fg_X2_15 rfl hi0 dX2_workedOut_124 ?_
            refine G_iload dX2_workedOut_127 rfl ?_
            refine G_iload dX2_workedOut_129 rfl ?_
            refine G_iload_n dX2_workedOut_131 rfl ?_
            refine G_iload_n dX2_workedOut_132 rfl ?_
            refine G_iload_n dX2_workedOut_133 rfl ?_
            refine G_callSv  (X2_namedOrNumber_ok rfl) ok_X2_namedOrNumber ml_X2_32 (by decide) rfl rfl (Nat.le_of_ble_eq_true rfl) dX2_workedOut_134 ?_
            obtain ⟨hb2, h⟩ := chk h
            have lhb2 := ib_lt hb2
            refine as_14 (kk := v4.toNatClampNeg) hi0 hb2 rfl dX2_workedOut_137 ?_
            refine G_iinc (v := (v4 + 1)) (L2 := [(4, .inl (v4 + 1)), (6, .inl (M 13 i0 v5.toNatClampNeg)), (0, .inr (.inr (2, i0))), (1, .inl v1), (2, .inl v2), (3, .inl v3), (5, .inl v5)]) dX2_workedOut_138 rfl (by first | rfl | (show _ + Int32.ofInt _ = _; rfl)) (by decide) rfl ?_
            refine G_iinc (v := (v5 + 1)) (L2 := [(5, .inl (v5 + 1)), (4, .inl (v4 + 1)), (6, .inl (M 13 i0 v5.toNatClampNeg)), (0, .inr (.inr (2, i0))), (1, .inl v1), (2, .inl v2), (3, .inl v3)]) dX2_workedOut_141 rfl (by first | rfl | (show _ + Int32.ofInt _ = _; rfl)) (by decide) rfl ?_
            refine G_goto (tgt := 6) dX2_workedOut_144 (by decide) ?_
            refine G_sub [(0, .inr (.inr (2, i0))), (1, .inl v1), (2, .inl v2), (3, .inl v3), (4, .inl (v4 + 1)), (5, .inl (v5 + 1))] [3, 4, 5, 6, 1, 0] rfl ?_
            exact ih i0 v1 v2 v3 (v4 + 1) (v5 + 1) (up3 M 14 i0 v4.toNatClampNeg (X2_namedOrNumber (M 13 i0 v5.toNatClampNeg) v1 v2 v3)) _ hi0 h K
        · replace h := (if_pos hc3).symm.trans h
          refine G_iload dX2_workedOut_73 rfl ?_
          refine G_iconst (v := 2) dX2_workedOut_75 (by decide) ?_
          refine G_icmp_lt (tgt := 141) dX2_workedOut_76 (by decide) (fun hc5 => ?_) (fun hc5 => ?_)
          · replace h := (if_pos hc5).symm.trans h
            refine G_iinc (v := (v5 + 1)) (L2 := [(5, .inl (v5 + 1)), (6, .inl (M 13 i0 v5.toNatClampNeg)), (0, .inr (.inr (2, i0))), (1, .inl v1), (2, .inl v2), (3, .inl v3), (4, .inl v4)]) dX2_workedOut_141 rfl (by first | rfl | (show _ + Int32.ofInt _ = _; rfl)) (by decide) rfl ?_
            refine G_goto (tgt := 6) dX2_workedOut_144 (by decide) ?_
            refine G_sub [(0, .inr (.inr (2, i0))), (1, .inl v1), (2, .inl v2), (3, .inl v3), (4, .inl v4), (5, .inl (v5 + 1))] [2, 3, 4, 5, 6, 0] rfl ?_
            exact ih i0 v1 v2 v3 v4 (v5 + 1) M _ hi0 h K
          · replace h := (if_neg hc5).symm.trans h
            refine G_iinc (v := (v4 + (-1))) (L2 := [(4, .inl (v4 + (-1))), (6, .inl (M 13 i0 v5.toNatClampNeg)), (0, .inr (.inr (2, i0))), (1, .inl v1), (2, .inl v2), (3, .inl v3), (5, .inl v5)]) dX2_workedOut_79 rfl (by first | rfl | (show _ + Int32.ofInt _ = _; rfl)) (by decide) rfl ?_
            refine G_aload_n dX2_workedOut_82 rfl ?_
            refine fg_X2_15 rfl hi0 dX2_workedOut_83 ?_
            refine G_iload dX2_workedOut_86 rfl ?_
            refine G_iconst (v := 1) dX2_workedOut_88 (by decide) ?_
            refine G_isub dX2_workedOut_89 ?_
            refine G_iload dX2_workedOut_90 rfl ?_
            refine G_ineg dX2_workedOut_92 ?_
            refine G_aload_n dX2_workedOut_93 rfl ?_
            refine fg_X2_15 rfl hi0 dX2_workedOut_94 ?_
            refine G_iload dX2_workedOut_97 rfl ?_
            refine G_iconst (v := 1) dX2_workedOut_99 (by decide) ?_
            refine G_isub dX2_workedOut_100 ?_
            obtain ⟨hb3, h⟩ := chk h
            have lhb3 := ib_lt hb3
            refine al_14 (kk := ((v4 + (-1)) - 1).toNatClampNeg) (v := (M 14 i0 (((v4 + (-1)) - 1).toNatClampNeg))) hi0 hb3 rfl rfl dX2_workedOut_101 ?_
            refine G_aload_n dX2_workedOut_102 rfl ?_
            refine fg_X2_15 rfl hi0 dX2_workedOut_103 ?_
            refine G_iload dX2_workedOut_106 rfl ?_
            obtain ⟨hb4, h⟩ := chk h
            have lhb4 := ib_lt hb4
            refine al_14 (kk := (v4 + (-1)).toNatClampNeg) (v := (M 14 i0 ((v4 + (-1)).toNatClampNeg))) hi0 hb4 rfl rfl dX2_workedOut_108 ?_
            refine G_callSv  (X2_joined_ok rfl) ok_X2_joined ml_X2_28 (by decide) rfl rfl (Nat.le_of_ble_eq_true rfl) dX2_workedOut_109 ?_
            refine as_14 (kk := ((v4 + (-1)) - 1).toNatClampNeg) hi0 hb3 rfl dX2_workedOut_112 ?_
            refine G_goto (tgt := 141) dX2_workedOut_113 (by decide) ?_
            refine G_iinc (v := (v5 + 1)) (L2 := [(5, .inl (v5 + 1)), (4, .inl (v4 + (-1))), (6, .inl (M 13 i0 v5.toNatClampNeg)), (0, .inr (.inr (2, i0))), (1, .inl v1), (2, .inl v2), (3, .inl v3)]) dX2_workedOut_141 rfl (by first | rfl | (show _ + Int32.ofInt _ = _; rfl)) (by decide) rfl ?_
            refine G_goto (tgt := 6) dX2_workedOut_144 (by decide) ?_
            refine G_sub [(0, .inr (.inr (2, i0))), (1, .inl v1), (2, .inl v2), (3, .inl v3), (4, .inl (v4 + (-1))), (5, .inl (v5 + 1))] [3, 4, 5, 6, 1, 0] rfl ?_
            exact ih i0 v1 v2 v3 (v4 + (-1)) (v5 + 1) (up3 M 14 i0 (((v4 + (-1)) - 1).toNatClampNeg) (X2_joined (-(M 13 i0 v5.toNatClampNeg)) (M 14 i0 (((v4 + (-1)) - 1).toNatClampNeg)) (M 14 i0 ((v4 + (-1)).toNatClampNeg)))) _ hi0 h K
      · replace h := (if_pos hc2).symm.trans h
        refine G_iload dX2_workedOut_31 rfl ?_
        refine G_iconst (v := 1) dX2_workedOut_33 (by decide) ?_
        refine G_icmp_lt (tgt := 141) dX2_workedOut_34 (by decide) (fun hc6 => ?_) (fun hc6 => ?_)
        · replace h := (if_pos hc6).symm.trans h
          refine G_iinc (v := (v5 + 1)) (L2 := [(5, .inl (v5 + 1)), (6, .inl (M 13 i0 v5.toNatClampNeg)), (0, .inr (.inr (2, i0))), (1, .inl v1), (2, .inl v2), (3, .inl v3), (4, .inl v4)]) dX2_workedOut_141 rfl (by first | rfl | (show _ + Int32.ofInt _ = _; rfl)) (by decide) rfl ?_
          refine G_goto (tgt := 6) dX2_workedOut_144 (by decide) ?_
          refine G_sub [(0, .inr (.inr (2, i0))), (1, .inl v1), (2, .inl v2), (3, .inl v3), (4, .inl v4), (5, .inl (v5 + 1))] [2, 3, 4, 5, 6, 0] rfl ?_
          exact ih i0 v1 v2 v3 v4 (v5 + 1) M _ hi0 h K
        · replace h := (if_neg hc6).symm.trans h
          refine G_aload_n dX2_workedOut_37 rfl ?_
          refine fg_X2_15 rfl hi0 dX2_workedOut_38 ?_
          refine G_iload dX2_workedOut_41 rfl ?_
          refine G_iconst (v := 1) dX2_workedOut_43 (by decide) ?_
          refine G_isub dX2_workedOut_44 ?_
          refine G_aload_n dX2_workedOut_45 rfl ?_
          refine fg_X2_15 rfl hi0 dX2_workedOut_46 ?_
          refine G_iload dX2_workedOut_49 rfl ?_
          refine G_iconst (v := 1) dX2_workedOut_51 (by decide) ?_
          refine G_isub dX2_workedOut_52 ?_
          obtain ⟨hb5, h⟩ := chk h
          have lhb5 := ib_lt hb5
          refine al_14 (kk := (v4 - 1).toNatClampNeg) (v := (M 14 i0 ((v4 - 1).toNatClampNeg))) hi0 hb5 rfl rfl dX2_workedOut_53 ?_
          refine G_if_ne (tgt := 61) dX2_workedOut_54 (by decide) (fun hc7 => ?_) (fun hc7 => ?_)
          · replace h := (if_neg hc7).symm.trans h
            refine G_iconst (v := 0) dX2_workedOut_61 (by decide) ?_
            refine as_14 (kk := (v4 - 1).toNatClampNeg) hi0 hb5 rfl dX2_workedOut_62 ?_
            refine G_goto (tgt := 141) dX2_workedOut_63 (by decide) ?_
            refine G_iinc (v := (v5 + 1)) (L2 := [(5, .inl (v5 + 1)), (6, .inl (M 13 i0 v5.toNatClampNeg)), (0, .inr (.inr (2, i0))), (1, .inl v1), (2, .inl v2), (3, .inl v3), (4, .inl v4)]) dX2_workedOut_141 rfl (by first | rfl | (show _ + Int32.ofInt _ = _; rfl)) (by decide) rfl ?_
            refine G_goto (tgt := 6) dX2_workedOut_144 (by decide) ?_
            refine G_sub [(0, .inr (.inr (2, i0))), (1, .inl v1), (2, .inl v2), (3, .inl v3), (4, .inl v4), (5, .inl (v5 + 1))] [2, 3, 4, 5, 6, 0] rfl ?_
            exact ih i0 v1 v2 v3 v4 (v5 + 1) (up3 M 14 i0 ((v4 - 1).toNatClampNeg) 0) _ hi0 h K
          · replace h := (if_pos hc7).symm.trans h
            refine G_iconst (v := 1) dX2_workedOut_57 (by decide) ?_
            refine G_goto (tgt := 62) dX2_workedOut_58 (by decide) ?_
            refine as_14 (kk := (v4 - 1).toNatClampNeg) hi0 hb5 rfl dX2_workedOut_62 ?_
            refine G_goto (tgt := 141) dX2_workedOut_63 (by decide) ?_
            refine G_iinc (v := (v5 + 1)) (L2 := [(5, .inl (v5 + 1)), (6, .inl (M 13 i0 v5.toNatClampNeg)), (0, .inr (.inr (2, i0))), (1, .inl v1), (2, .inl v2), (3, .inl v3), (4, .inl v4)]) dX2_workedOut_141 rfl (by first | rfl | (show _ + Int32.ofInt _ = _; rfl)) (by decide) rfl ?_
            refine G_goto (tgt := 6) dX2_workedOut_144 (by decide) ?_
            refine G_sub [(0, .inr (.inr (2, i0))), (1, .inl v1), (2, .inl v2), (3, .inl v3), (4, .inl v4), (5, .inl (v5 + 1))] [2, 3, 4, 5, 6, 0] rfl ?_
            exact ih i0 v1 v2 v3 v4 (v5 + 1) (up3 M 14 i0 ((v4 - 1).toNatClampNeg) 1) _ hi0 h K

def X2_workedOut (i0 : Nat) (v1 : Int32) (v2 : Int32) (v3 : Int32) (M : Mem) : Option (Int32 × Mem) := ((X2_workedOut_L6 400 i0 v1 v2 v3 0 0 M).bind fun q6 => (if 0 < q6.1 then (if ib (q6.1 - 1) 50 = true then (some ((q6.2 14 i0 ((q6.1 - 1).toNatClampNeg)), q6.2)) else none) else (some (0, q6.2))))
set_option maxRecDepth 100000 in
set_option maxHeartbeats 4000000 in
theorem X2_workedOut_ok  {i0 : Nat} {v1 : Int32} {v2 : Int32} {v3 : Int32} {M N : Mem} {res : Int32 × Mem} (hi0 : i0 < 7) (h : X2_workedOut i0 v1 v2 v3 M = some res) : Spec mt_X2_workedOut 1 [.inr (.inr (2, i0)), .inl v1, .inl v2, .inl v3] (M, N) (some (.inl res.1)) (res.2, N) := by
  unfold X2_workedOut at h
  refine Spec_of_G (by decide) rfl (Nat.le_of_ble_eq_true rfl) ?_
  refine G_sub [(0, .inr (.inr (2, i0))), (1, .inl v1), (2, .inl v2), (3, .inl v3)] [0, 1, 2, 3] rfl ?_
  refine G_iconst (v := 0) dX2_workedOut_0 (by decide) ?_
  refine G_istore (L2 := [(4, .inl 0), (0, .inr (.inr (2, i0))), (1, .inl v1), (2, .inl v2), (3, .inl v3)]) dX2_workedOut_1 (by decide) rfl ?_
  refine G_iconst (v := 0) dX2_workedOut_3 (by decide) ?_
  refine G_istore (L2 := [(5, .inl 0), (4, .inl 0), (0, .inr (.inr (2, i0))), (1, .inl v1), (2, .inl v2), (3, .inl v3)]) dX2_workedOut_4 (by decide) rfl ?_
  refine G_sub [(0, .inr (.inr (2, i0))), (1, .inl v1), (2, .inl v2), (3, .inl v3), (4, .inl 0), (5, .inl 0)] [2, 3, 4, 5, 1, 0] rfl ?_
  obtain ⟨q6, hq6, h⟩ := bnd h
  refine X2_workedOut_L6_ok  400 i0 v1 v2 v3 0 0 M _ hi0 hq6 ?_
  refine G_iload dX2_workedOut_147 rfl ?_
  refine G_if_le (tgt := 164) dX2_workedOut_149 (by decide) (fun hc8 => ?_) (fun hc8 => ?_)
  · replace h := (if_neg hc8).symm.trans h
    refine G_iconst (v := 0) dX2_workedOut_164 (by decide) ?_
    obtain rfl := Option.some.inj h
    exact G_ret dX2_workedOut_165 trivial rfl rfl
  · replace h := (if_pos hc8).symm.trans h
    refine G_aload_n dX2_workedOut_152 rfl ?_
    refine fg_X2_15 rfl hi0 dX2_workedOut_153 ?_
    refine G_iload dX2_workedOut_156 rfl ?_
    refine G_iconst (v := 1) dX2_workedOut_158 (by decide) ?_
    refine G_isub dX2_workedOut_159 ?_
    obtain ⟨hb7, h⟩ := chk h
    have lhb7 := ib_lt hb7
    refine al_14 (kk := (q6.1 - 1).toNatClampNeg) (v := (q6.2 14 i0 ((q6.1 - 1).toNatClampNeg))) hi0 hb7 rfl rfl dX2_workedOut_160 ?_
    refine G_goto (tgt := 165) dX2_workedOut_161 (by decide) ?_
    obtain rfl := Option.some.inj h
    exact G_ret dX2_workedOut_165 trivial rfl rfl

theorem dX3_warmedBy_0 : decode cX3_warmedBy 0 = .ok (.aload_n 0, 1) := by decide +kernel
theorem dX3_warmedBy_1 : decode cX3_warmedBy 1 = .ok (.getfield 9, 3) := by decide +kernel
theorem dX3_warmedBy_4 : decode cX3_warmedBy 4 = .ok (.tableswitch 92 1 6 #[40, 47, 51, 55, 73, 82], 40) := by decide +kernel
theorem dX3_warmedBy_44 : decode cX3_warmedBy 44 = .ok (.iload_n 1, 1) := by decide +kernel
theorem dX3_warmedBy_45 : decode cX3_warmedBy 45 = .ok (.aload_n 0, 1) := by decide +kernel
theorem dX3_warmedBy_46 : decode cX3_warmedBy 46 = .ok (.getfield 15, 3) := by decide +kernel
theorem dX3_warmedBy_49 : decode cX3_warmedBy 49 = .ok (.iadd, 1) := by decide +kernel
theorem dX3_warmedBy_50 : decode cX3_warmedBy 50 = .ok (.ireturn, 1) := by decide +kernel
theorem dX3_warmedBy_51 : decode cX3_warmedBy 51 = .ok (.iconst 2, 1) := by decide +kernel
theorem dX3_warmedBy_52 : decode cX3_warmedBy 52 = .ok (.iload_n 1, 1) := by decide +kernel
theorem dX3_warmedBy_53 : decode cX3_warmedBy 53 = .ok (.imul, 1) := by decide +kernel
theorem dX3_warmedBy_54 : decode cX3_warmedBy 54 = .ok (.ireturn, 1) := by decide +kernel
theorem dX3_warmedBy_55 : decode cX3_warmedBy 55 = .ok (.iload_n 1, 1) := by decide +kernel
theorem dX3_warmedBy_56 : decode cX3_warmedBy 56 = .ok (.iconst 2, 1) := by decide +kernel
theorem dX3_warmedBy_57 : decode cX3_warmedBy 57 = .ok (.idiv, 1) := by decide +kernel
theorem dX3_warmedBy_58 : decode cX3_warmedBy 58 = .ok (.ireturn, 1) := by decide +kernel
theorem dX3_warmedBy_59 : decode cX3_warmedBy 59 = .ok (.aload_n 0, 1) := by decide +kernel
theorem dX3_warmedBy_60 : decode cX3_warmedBy 60 = .ok (.getfield 30, 3) := by decide +kernel
theorem dX3_warmedBy_63 : decode cX3_warmedBy 63 = .ok (.ifCond .le 7, 3) := by decide +kernel
theorem dX3_warmedBy_66 : decode cX3_warmedBy 66 = .ok (.iconst 0, 1) := by decide +kernel
theorem dX3_warmedBy_67 : decode cX3_warmedBy 67 = .ok (.goto 9, 3) := by decide +kernel
theorem dX3_warmedBy_70 : decode cX3_warmedBy 70 = .ok (.iload_n 1, 1) := by decide +kernel
theorem dX3_warmedBy_71 : decode cX3_warmedBy 71 = .ok (.aload_n 0, 1) := by decide +kernel
theorem dX3_warmedBy_72 : decode cX3_warmedBy 72 = .ok (.getfield 15, 3) := by decide +kernel
theorem dX3_warmedBy_75 : decode cX3_warmedBy 75 = .ok (.iadd, 1) := by decide +kernel
theorem dX3_warmedBy_76 : decode cX3_warmedBy 76 = .ok (.ireturn, 1) := by decide +kernel
theorem dX3_warmedBy_77 : decode cX3_warmedBy 77 = .ok (.iconst 2, 1) := by decide +kernel
theorem dX3_warmedBy_78 : decode cX3_warmedBy 78 = .ok (.iload_n 1, 1) := by decide +kernel
theorem dX3_warmedBy_79 : decode cX3_warmedBy 79 = .ok (.imul, 1) := by decide +kernel
theorem dX3_warmedBy_80 : decode cX3_warmedBy 80 = .ok (.aload_n 0, 1) := by decide +kernel
theorem dX3_warmedBy_81 : decode cX3_warmedBy 81 = .ok (.getfield 30, 3) := by decide +kernel
theorem dX3_warmedBy_84 : decode cX3_warmedBy 84 = .ok (.iadd, 1) := by decide +kernel
theorem dX3_warmedBy_85 : decode cX3_warmedBy 85 = .ok (.ireturn, 1) := by decide +kernel
theorem dX3_warmedBy_86 : decode cX3_warmedBy 86 = .ok (.iconst 0, 1) := by decide +kernel
theorem dX3_warmedBy_87 : decode cX3_warmedBy 87 = .ok (.iload_n 1, 1) := by decide +kernel
theorem dX3_warmedBy_88 : decode cX3_warmedBy 88 = .ok (.iconst 2, 1) := by decide +kernel
theorem dX3_warmedBy_89 : decode cX3_warmedBy 89 = .ok (.idiv, 1) := by decide +kernel
theorem dX3_warmedBy_90 : decode cX3_warmedBy 90 = .ok (.iconst 1, 1) := by decide +kernel
theorem dX3_warmedBy_91 : decode cX3_warmedBy 91 = .ok (.isub, 1) := by decide +kernel
theorem dX3_warmedBy_92 : decode cX3_warmedBy 92 = .ok (.invokestatic 37, 3) := by decide +kernel
theorem dX3_warmedBy_95 : decode cX3_warmedBy 95 = .ok (.ireturn, 1) := by decide +kernel
theorem dX3_warmedBy_96 : decode cX3_warmedBy 96 = .ok (.iload_n 1, 1) := by decide +kernel
theorem dX3_warmedBy_97 : decode cX3_warmedBy 97 = .ok (.ireturn, 1) := by decide +kernel
def X3_warmedBy (i0 : Nat) (v1 : Int32) (M : Mem) : Int32 := (if (M 3 i0 0) = 1 then (v1 + (M 3 i0 1)) else (if (M 3 i0 0) = 2 then (2 * v1) else (if (M 3 i0 0) = 3 then (v1 / 2) else (if (M 3 i0 0) = 4 then (if 0 < (M 3 i0 6) then 0 else (v1 + (M 3 i0 1))) else (if (M 3 i0 0) = 5 then ((2 * v1) + (M 3 i0 6)) else (if (M 3 i0 0) = 6 then (jmax 0 ((v1 / 2) - 1)) else v1))))))
set_option maxRecDepth 100000 in
set_option maxHeartbeats 4000000 in
theorem X3_warmedBy_ok  {i0 : Nat} {v1 : Int32} {M N : Mem} {res : Int32} (hi0 : i0 < 30) (h : X3_warmedBy i0 v1 M = res) : Spec mt_X3_warmedBy 1 [.inr (.inr (3, i0)), .inl v1] (M, N) (some (.inl res)) (M, N) := by
  unfold X3_warmedBy at h
  refine Spec_of_G (by decide) rfl (Nat.le_of_ble_eq_true rfl) ?_
  refine G_sub [(0, .inr (.inr (3, i0))), (1, .inl v1)] [0, 1] rfl ?_
  refine G_aload_n dX3_warmedBy_0 rfl ?_
  refine fg_X3_9 (v := (M 3 i0 0)) rfl rfl hi0 dX3_warmedBy_1 ?_
  by_cases hc1 : (M 3 i0 0) = 1
  · replace h := (if_pos hc1).symm.trans h
    refine G_tableEq (off := 40) (tgt := 44) hc1 dX3_warmedBy_4 (by decide) (by decide) (by decide) (by decide) ?_
    refine G_iload_n dX3_warmedBy_44 rfl ?_
    refine G_aload_n dX3_warmedBy_45 rfl ?_
    refine fg_X3_15 (v := (M 3 i0 1)) rfl rfl hi0 dX3_warmedBy_46 ?_
    refine G_iadd dX3_warmedBy_49 ?_
    subst h
    exact G_ret dX3_warmedBy_50 trivial rfl rfl
  replace h := (if_neg hc1).symm.trans h
  by_cases hc2 : (M 3 i0 0) = 2
  · replace h := (if_pos hc2).symm.trans h
    refine G_tableEq (off := 47) (tgt := 51) hc2 dX3_warmedBy_4 (by decide) (by decide) (by decide) (by decide) ?_
    refine G_iconst (v := 2) dX3_warmedBy_51 (by decide) ?_
    refine G_iload_n dX3_warmedBy_52 rfl ?_
    refine G_imul dX3_warmedBy_53 ?_
    subst h
    exact G_ret dX3_warmedBy_54 trivial rfl rfl
  replace h := (if_neg hc2).symm.trans h
  by_cases hc3 : (M 3 i0 0) = 3
  · replace h := (if_pos hc3).symm.trans h
    refine G_tableEq (off := 51) (tgt := 55) hc3 dX3_warmedBy_4 (by decide) (by decide) (by decide) (by decide) ?_
    refine G_iload_n dX3_warmedBy_55 rfl ?_
    refine G_iconst (v := 2) dX3_warmedBy_56 (by decide) ?_
    refine G_idiv (by decide) dX3_warmedBy_57 ?_
    subst h
    exact G_ret dX3_warmedBy_58 trivial rfl rfl
  replace h := (if_neg hc3).symm.trans h
  by_cases hc4 : (M 3 i0 0) = 4
  · replace h := (if_pos hc4).symm.trans h
    refine G_tableEq (off := 55) (tgt := 59) hc4 dX3_warmedBy_4 (by decide) (by decide) (by decide) (by decide) ?_
    refine G_aload_n dX3_warmedBy_59 rfl ?_
    refine fg_X3_30 (v := (M 3 i0 6)) rfl rfl hi0 dX3_warmedBy_60 ?_
    refine G_if_le (tgt := 70) dX3_warmedBy_63 (by decide) (fun hc5 => ?_) (fun hc5 => ?_)
    · replace h := (if_neg hc5).symm.trans h
      refine G_iload_n dX3_warmedBy_70 rfl ?_
      refine G_aload_n dX3_warmedBy_71 rfl ?_
      refine fg_X3_15 (v := (M 3 i0 1)) rfl rfl hi0 dX3_warmedBy_72 ?_
      refine G_iadd dX3_warmedBy_75 ?_
      subst h
      exact G_ret dX3_warmedBy_76 trivial rfl rfl
    · replace h := (if_pos hc5).symm.trans h
      refine G_iconst (v := 0) dX3_warmedBy_66 (by decide) ?_
      refine G_goto (tgt := 76) dX3_warmedBy_67 (by decide) ?_
      subst h
      exact G_ret dX3_warmedBy_76 trivial rfl rfl
  replace h := (if_neg hc4).symm.trans h
  by_cases hc6 : (M 3 i0 0) = 5
  · replace h := (if_pos hc6).symm.trans h
    refine G_tableEq (off := 73) (tgt := 77) hc6 dX3_warmedBy_4 (by decide) (by decide) (by decide) (by decide) ?_
    refine G_iconst (v := 2) dX3_warmedBy_77 (by decide) ?_
    refine G_iload_n dX3_warmedBy_78 rfl ?_
    refine G_imul dX3_warmedBy_79 ?_
    refine G_aload_n dX3_warmedBy_80 rfl ?_
    refine fg_X3_30 (v := (M 3 i0 6)) rfl rfl hi0 dX3_warmedBy_81 ?_
    refine G_iadd dX3_warmedBy_84 ?_
    subst h
    exact G_ret dX3_warmedBy_85 trivial rfl rfl
  replace h := (if_neg hc6).symm.trans h
  by_cases hc7 : (M 3 i0 0) = 6
  · replace h := (if_pos hc7).symm.trans h
    refine G_tableEq (off := 82) (tgt := 86) hc7 dX3_warmedBy_4 (by decide) (by decide) (by decide) (by decide) ?_
    refine G_iconst (v := 0) dX3_warmedBy_86 (by decide) ?_
    refine G_iload_n dX3_warmedBy_87 rfl ?_
    refine G_iconst (v := 2) dX3_warmedBy_88 (by decide) ?_
    refine G_idiv (by decide) dX3_warmedBy_89 ?_
    refine G_iconst (v := 1) dX3_warmedBy_90 (by decide) ?_
    refine G_isub dX3_warmedBy_91 ?_
    refine G_max ml_X3_37 st_max in_Math cd_max (by decide) (Nat.le_of_ble_eq_true rfl) dX3_warmedBy_92 ?_
    subst h
    exact G_ret dX3_warmedBy_95 trivial rfl rfl
  replace h := (if_neg hc7).symm.trans h
  have nhc1 := ne_lit (n := 1) (by decide) hc1
  have nhc2 := ne_lit (n := 2) (by decide) hc2
  have nhc3 := ne_lit (n := 3) (by decide) hc3
  have nhc4 := ne_lit (n := 4) (by decide) hc4
  have nhc6 := ne_lit (n := 5) (by decide) hc6
  have nhc7 := ne_lit (n := 6) (by decide) hc7
  refine G_tableOut (tgt := 96) dX3_warmedBy_4 (by omega) (by decide) ?_
  refine G_iload_n dX3_warmedBy_96 rfl ?_
  subst h
  exact G_ret dX3_warmedBy_97 trivial rfl rfl

theorem dX3_liveYear_0 : decode cX3_liveYear 0 = .ok (.aload_n 0, 1) := by decide +kernel
theorem dX3_liveYear_1 : decode cX3_liveYear 1 = .ok (.sipush 999, 3) := by decide +kernel
theorem dX3_liveYear_4 : decode cX3_liveYear 4 = .ok (.aload_n 0, 1) := by decide +kernel
theorem dX3_liveYear_5 : decode cX3_liveYear 5 = .ok (.getfield 24, 3) := by decide +kernel
theorem dX3_liveYear_8 : decode cX3_liveYear 8 = .ok (.aload_n 0, 1) := by decide +kernel
theorem dX3_liveYear_9 : decode cX3_liveYear 9 = .ok (.iload_n 1, 1) := by decide +kernel
theorem dX3_liveYear_10 : decode cX3_liveYear 10 = .ok (.invokevirtual 43, 3) := by decide +kernel
theorem dX3_liveYear_13 : decode cX3_liveYear 13 = .ok (.iadd, 1) := by decide +kernel
theorem dX3_liveYear_14 : decode cX3_liveYear 14 = .ok (.invokestatic 47, 3) := by decide +kernel
theorem dX3_liveYear_17 : decode cX3_liveYear 17 = .ok (.putfield 24, 3) := by decide +kernel
theorem dX3_liveYear_20 : decode cX3_liveYear 20 = .ok (.aload_n 0, 1) := by decide +kernel
theorem dX3_liveYear_21 : decode cX3_liveYear 21 = .ok (.sipush 999, 3) := by decide +kernel
theorem dX3_liveYear_24 : decode cX3_liveYear 24 = .ok (.aload_n 0, 1) := by decide +kernel
theorem dX3_liveYear_25 : decode cX3_liveYear 25 = .ok (.getfield 27, 3) := by decide +kernel
theorem dX3_liveYear_28 : decode cX3_liveYear 28 = .ok (.iconst 1, 1) := by decide +kernel
theorem dX3_liveYear_29 : decode cX3_liveYear 29 = .ok (.iadd, 1) := by decide +kernel
theorem dX3_liveYear_30 : decode cX3_liveYear 30 = .ok (.invokestatic 47, 3) := by decide +kernel
theorem dX3_liveYear_33 : decode cX3_liveYear 33 = .ok (.putfield 27, 3) := by decide +kernel
theorem dX3_liveYear_36 : decode cX3_liveYear 36 = .ok (.aload_n 0, 1) := by decide +kernel
theorem dX3_liveYear_37 : decode cX3_liveYear 37 = .ok (.invokevirtual 50, 3) := by decide +kernel
theorem dX3_liveYear_40 : decode cX3_liveYear 40 = .ok (.istore_n 2, 1) := by decide +kernel
theorem dX3_liveYear_41 : decode cX3_liveYear 41 = .ok (.aload_n 0, 1) := by decide +kernel
theorem dX3_liveYear_42 : decode cX3_liveYear 42 = .ok (.getfield 27, 3) := by decide +kernel
theorem dX3_liveYear_45 : decode cX3_liveYear 45 = .ok (.bipush 11, 2) := by decide +kernel
theorem dX3_liveYear_47 : decode cX3_liveYear 47 = .ok (.if_icmp .lt 42, 3) := by decide +kernel
theorem dX3_liveYear_50 : decode cX3_liveYear 50 = .ok (.aload_n 0, 1) := by decide +kernel
theorem dX3_liveYear_51 : decode cX3_liveYear 51 = .ok (.getfield 24, 3) := by decide +kernel
theorem dX3_liveYear_54 : decode cX3_liveYear 54 = .ok (.iload_n 2, 1) := by decide +kernel
theorem dX3_liveYear_55 : decode cX3_liveYear 55 = .ok (.if_icmp .lt 34, 3) := by decide +kernel
theorem dX3_liveYear_58 : decode cX3_liveYear 58 = .ok (.aload_n 0, 1) := by decide +kernel
theorem dX3_liveYear_59 : decode cX3_liveYear 59 = .ok (.getfield 30, 3) := by decide +kernel
theorem dX3_liveYear_62 : decode cX3_liveYear 62 = .ok (.aload_n 0, 1) := by decide +kernel
theorem dX3_liveYear_63 : decode cX3_liveYear 63 = .ok (.invokevirtual 54, 3) := by decide +kernel
theorem dX3_liveYear_66 : decode cX3_liveYear 66 = .ok (.if_icmp .ge 23, 3) := by decide +kernel
theorem dX3_liveYear_69 : decode cX3_liveYear 69 = .ok (.aload_n 0, 1) := by decide +kernel
theorem dX3_liveYear_70 : decode cX3_liveYear 70 = .ok (.dup, 1) := by decide +kernel
theorem dX3_liveYear_71 : decode cX3_liveYear 71 = .ok (.getfield 30, 3) := by decide +kernel
theorem dX3_liveYear_74 : decode cX3_liveYear 74 = .ok (.iconst 1, 1) := by decide +kernel
theorem dX3_liveYear_75 : decode cX3_liveYear 75 = .ok (.iadd, 1) := by decide +kernel
theorem dX3_liveYear_76 : decode cX3_liveYear 76 = .ok (.putfield 30, 3) := by decide +kernel
theorem dX3_liveYear_79 : decode cX3_liveYear 79 = .ok (.aload_n 0, 1) := by decide +kernel
theorem dX3_liveYear_80 : decode cX3_liveYear 80 = .ok (.dup, 1) := by decide +kernel
theorem dX3_liveYear_81 : decode cX3_liveYear 81 = .ok (.getfield 24, 3) := by decide +kernel
theorem dX3_liveYear_84 : decode cX3_liveYear 84 = .ok (.iload_n 2, 1) := by decide +kernel
theorem dX3_liveYear_85 : decode cX3_liveYear 85 = .ok (.isub, 1) := by decide +kernel
theorem dX3_liveYear_86 : decode cX3_liveYear 86 = .ok (.putfield 24, 3) := by decide +kernel
theorem dX3_liveYear_89 : decode cX3_liveYear 89 = .ok (.return_, 1) := by decide +kernel
def X3_liveYear (i0 : Nat) (v1 : Int32) (M : Mem) : Option (Mem) := (if (jmin 999 ((M 3 i0 5) + 1)) < 11 then (some (up3 (up3 M 3 i0 4 (jmin 999 ((M 3 i0 4) + (X3_warmedBy i0 v1 M)))) 3 i0 5 (jmin 999 ((M 3 i0 5) + 1)))) else (if (jmin 999 ((M 3 i0 4) + (X3_warmedBy i0 v1 M))) < (X3_wants i0 (up3 (up3 M 3 i0 4 (jmin 999 ((M 3 i0 4) + (X3_warmedBy i0 v1 M)))) 3 i0 5 (jmin 999 ((M 3 i0 5) + 1)))) then (some (up3 (up3 M 3 i0 4 (jmin 999 ((M 3 i0 4) + (X3_warmedBy i0 v1 M)))) 3 i0 5 (jmin 999 ((M 3 i0 5) + 1)))) else (if (M 3 i0 6) < (X3_bears i0 (up3 (up3 M 3 i0 4 (jmin 999 ((M 3 i0 4) + (X3_warmedBy i0 v1 M)))) 3 i0 5 (jmin 999 ((M 3 i0 5) + 1)))) then (some (up3 (up3 (up3 (up3 M 3 i0 4 (jmin 999 ((M 3 i0 4) + (X3_warmedBy i0 v1 M)))) 3 i0 5 (jmin 999 ((M 3 i0 5) + 1))) 3 i0 6 ((M 3 i0 6) + 1)) 3 i0 4 ((jmin 999 ((M 3 i0 4) + (X3_warmedBy i0 v1 M))) - (X3_wants i0 (up3 (up3 M 3 i0 4 (jmin 999 ((M 3 i0 4) + (X3_warmedBy i0 v1 M)))) 3 i0 5 (jmin 999 ((M 3 i0 5) + 1))))))) else (some (up3 (up3 M 3 i0 4 (jmin 999 ((M 3 i0 4) + (X3_warmedBy i0 v1 M)))) 3 i0 5 (jmin 999 ((M 3 i0 5) + 1)))))))
set_option maxRecDepth 100000 in
set_option maxHeartbeats 4000000 in
theorem X3_liveYear_ok  {i0 : Nat} {v1 : Int32} {M N : Mem} {res : Mem} (hi0 : i0 < 30) (h : X3_liveYear i0 v1 M = some res) : Spec mt_X3_liveYear 2 [.inr (.inr (3, i0)), .inl v1] (M, N) none (res, N) := by
  unfold X3_liveYear at h
  refine Spec_of_G (by decide) rfl (Nat.le_of_ble_eq_true rfl) ?_
  refine G_sub [(0, .inr (.inr (3, i0))), (1, .inl v1)] [0, 1] rfl ?_
  refine G_aload_n dX3_liveYear_0 rfl ?_
  refine G_sipush (v := 999) dX3_liveYear_1 (by decide) ?_
  refine G_aload_n dX3_liveYear_4 rfl ?_
  refine fg_X3_24 (v := (M 3 i0 4)) rfl rfl hi0 dX3_liveYear_5 ?_
  refine G_aload_n dX3_liveYear_8 rfl ?_
  refine G_iload_n dX3_liveYear_9 rfl ?_
  refine G_callVv (T := TX3) (N := 8) (f := 3) (i := i0) (X3_warmedBy_ok hi0 rfl) ok_X3_warmedBy ml_X3_43 (by decide) rfl (by decide) (show i0 < 30 from hi0) (by decide) rfl rfl (Nat.le_of_ble_eq_true rfl) dX3_liveYear_10 ?_
  refine G_iadd dX3_liveYear_13 ?_
  refine G_min ml_X3_47 st_min in_Math cd_min (by decide) (Nat.le_of_ble_eq_true rfl) dX3_liveYear_14 ?_
  refine fp_X3_24 rfl hi0 dX3_liveYear_17 ?_
  refine G_aload_n dX3_liveYear_20 rfl ?_
  refine G_sipush (v := 999) dX3_liveYear_21 (by decide) ?_
  refine G_aload_n dX3_liveYear_24 rfl ?_
  refine fg_X3_27 (v := (M 3 i0 5)) (up3_k (by decide)) rfl hi0 dX3_liveYear_25 ?_
  refine G_iconst (v := 1) dX3_liveYear_28 (by decide) ?_
  refine G_iadd dX3_liveYear_29 ?_
  refine G_min ml_X3_47 st_min in_Math cd_min (by decide) (Nat.le_of_ble_eq_true rfl) dX3_liveYear_30 ?_
  refine fp_X3_27 rfl hi0 dX3_liveYear_33 ?_
  refine G_aload_n dX3_liveYear_36 rfl ?_
  refine G_callVv (T := TX3) (N := 8) (f := 3) (i := i0) (X3_wants_ok hi0 rfl) ok_X3_wants ml_X3_50 (by decide) rfl (by decide) (show i0 < 30 from hi0) (by decide) rfl rfl (Nat.le_of_ble_eq_true rfl) dX3_liveYear_37 ?_
  refine G_istore_n (L2 := [(2, .inl (X3_wants i0 (up3 (up3 M 3 i0 4 (jmin 999 ((M 3 i0 4) + (X3_warmedBy i0 v1 M)))) 3 i0 5 (jmin 999 ((M 3 i0 5) + 1))))), (0, .inr (.inr (3, i0))), (1, .inl v1)]) dX3_liveYear_40 (by decide) rfl ?_
  refine G_aload_n dX3_liveYear_41 rfl ?_
  refine fg_X3_27 (v := (jmin 999 ((M 3 i0 5) + 1))) up3_eq rfl hi0 dX3_liveYear_42 ?_
  refine G_bipush (v := 11) dX3_liveYear_45 (by decide) ?_
  refine G_icmp_lt (tgt := 89) dX3_liveYear_47 (by decide) (fun hc1 => ?_) (fun hc1 => ?_)
  · replace h := (if_pos hc1).symm.trans h
    obtain rfl := Option.some.inj h
    exact G_ret dX3_liveYear_89 trivial rfl rfl
  · replace h := (if_neg hc1).symm.trans h
    refine G_aload_n dX3_liveYear_50 rfl ?_
    refine fg_X3_24 (v := (jmin 999 ((M 3 i0 4) + (X3_warmedBy i0 v1 M)))) ((up3_k (by decide)).trans up3_eq) rfl hi0 dX3_liveYear_51 ?_
    refine G_iload_n dX3_liveYear_54 rfl ?_
    refine G_icmp_lt (tgt := 89) dX3_liveYear_55 (by decide) (fun hc2 => ?_) (fun hc2 => ?_)
    · replace h := (if_pos hc2).symm.trans h
      obtain rfl := Option.some.inj h
      exact G_ret dX3_liveYear_89 trivial rfl rfl
    · replace h := (if_neg hc2).symm.trans h
      refine G_aload_n dX3_liveYear_58 rfl ?_
      refine fg_X3_30 (v := (M 3 i0 6)) ((up3_k (by decide)).trans (up3_k (by decide))) rfl hi0 dX3_liveYear_59 ?_
      refine G_aload_n dX3_liveYear_62 rfl ?_
      refine G_callVv (T := TX3) (N := 8) (f := 3) (i := i0) (X3_bears_ok hi0 rfl) ok_X3_bears ml_X3_54 (by decide) rfl (by decide) (show i0 < 30 from hi0) (by decide) rfl rfl (Nat.le_of_ble_eq_true rfl) dX3_liveYear_63 ?_
      refine G_icmp_ge (tgt := 89) dX3_liveYear_66 (by decide) (fun hc3 => ?_) (fun hc3 => ?_)
      · replace h := (if_neg hc3).symm.trans h
        obtain rfl := Option.some.inj h
        exact G_ret dX3_liveYear_89 trivial rfl rfl
      · replace h := (if_pos hc3).symm.trans h
        refine G_aload_n dX3_liveYear_69 rfl ?_
        refine G_dup rfl dX3_liveYear_70 ?_
        refine fg_X3_30 (v := (M 3 i0 6)) ((up3_k (by decide)).trans (up3_k (by decide))) rfl hi0 dX3_liveYear_71 ?_
        refine G_iconst (v := 1) dX3_liveYear_74 (by decide) ?_
        refine G_iadd dX3_liveYear_75 ?_
        refine fp_X3_30 rfl hi0 dX3_liveYear_76 ?_
        refine G_aload_n dX3_liveYear_79 rfl ?_
        refine G_dup rfl dX3_liveYear_80 ?_
        refine fg_X3_24 (v := (jmin 999 ((M 3 i0 4) + (X3_warmedBy i0 v1 M)))) ((up3_k (by decide)).trans ((up3_k (by decide)).trans up3_eq)) rfl hi0 dX3_liveYear_81 ?_
        refine G_iload_n dX3_liveYear_84 rfl ?_
        refine G_isub dX3_liveYear_85 ?_
        refine fp_X3_24 rfl hi0 dX3_liveYear_86 ?_
        obtain rfl := Option.some.inj h
        exact G_ret dX3_liveYear_89 trivial rfl rfl

theorem dJ6_bitCount_0f7a4_0 : decode cJ6_bitCount_0f7a4 0 = .ok (.iload_n 0, 1) := by decide +kernel
theorem dJ6_bitCount_0f7a4_1 : decode cJ6_bitCount_0f7a4 1 = .ok (.iload_n 0, 1) := by decide +kernel
theorem dJ6_bitCount_0f7a4_2 : decode cJ6_bitCount_0f7a4 2 = .ok (.iconst 1, 1) := by decide +kernel
theorem dJ6_bitCount_0f7a4_3 : decode cJ6_bitCount_0f7a4 3 = .ok (.iushr, 1) := by decide +kernel
theorem dJ6_bitCount_0f7a4_4 : decode cJ6_bitCount_0f7a4 4 = .ok (.ldc_w 265, 3) := by decide +kernel
theorem dJ6_bitCount_0f7a4_7 : decode cJ6_bitCount_0f7a4 7 = .ok (.iand, 1) := by decide +kernel
theorem dJ6_bitCount_0f7a4_8 : decode cJ6_bitCount_0f7a4 8 = .ok (.isub, 1) := by decide +kernel
theorem dJ6_bitCount_0f7a4_9 : decode cJ6_bitCount_0f7a4 9 = .ok (.istore_n 0, 1) := by decide +kernel
theorem dJ6_bitCount_0f7a4_10 : decode cJ6_bitCount_0f7a4 10 = .ok (.iload_n 0, 1) := by decide +kernel
theorem dJ6_bitCount_0f7a4_11 : decode cJ6_bitCount_0f7a4 11 = .ok (.ldc_w 266, 3) := by decide +kernel
theorem dJ6_bitCount_0f7a4_14 : decode cJ6_bitCount_0f7a4 14 = .ok (.iand, 1) := by decide +kernel
theorem dJ6_bitCount_0f7a4_15 : decode cJ6_bitCount_0f7a4 15 = .ok (.iload_n 0, 1) := by decide +kernel
theorem dJ6_bitCount_0f7a4_16 : decode cJ6_bitCount_0f7a4 16 = .ok (.iconst 2, 1) := by decide +kernel
theorem dJ6_bitCount_0f7a4_17 : decode cJ6_bitCount_0f7a4 17 = .ok (.iushr, 1) := by decide +kernel
theorem dJ6_bitCount_0f7a4_18 : decode cJ6_bitCount_0f7a4 18 = .ok (.ldc_w 266, 3) := by decide +kernel
theorem dJ6_bitCount_0f7a4_21 : decode cJ6_bitCount_0f7a4 21 = .ok (.iand, 1) := by decide +kernel
theorem dJ6_bitCount_0f7a4_22 : decode cJ6_bitCount_0f7a4 22 = .ok (.iadd, 1) := by decide +kernel
theorem dJ6_bitCount_0f7a4_23 : decode cJ6_bitCount_0f7a4 23 = .ok (.istore_n 0, 1) := by decide +kernel
theorem dJ6_bitCount_0f7a4_24 : decode cJ6_bitCount_0f7a4 24 = .ok (.iload_n 0, 1) := by decide +kernel
theorem dJ6_bitCount_0f7a4_25 : decode cJ6_bitCount_0f7a4 25 = .ok (.iload_n 0, 1) := by decide +kernel
theorem dJ6_bitCount_0f7a4_26 : decode cJ6_bitCount_0f7a4 26 = .ok (.iconst 4, 1) := by decide +kernel
theorem dJ6_bitCount_0f7a4_27 : decode cJ6_bitCount_0f7a4 27 = .ok (.iushr, 1) := by decide +kernel
theorem dJ6_bitCount_0f7a4_28 : decode cJ6_bitCount_0f7a4 28 = .ok (.iadd, 1) := by decide +kernel
theorem dJ6_bitCount_0f7a4_29 : decode cJ6_bitCount_0f7a4 29 = .ok (.ldc_w 267, 3) := by decide +kernel
theorem dJ6_bitCount_0f7a4_32 : decode cJ6_bitCount_0f7a4 32 = .ok (.iand, 1) := by decide +kernel
theorem dJ6_bitCount_0f7a4_33 : decode cJ6_bitCount_0f7a4 33 = .ok (.istore_n 0, 1) := by decide +kernel
theorem dJ6_bitCount_0f7a4_34 : decode cJ6_bitCount_0f7a4 34 = .ok (.iload_n 0, 1) := by decide +kernel
theorem dJ6_bitCount_0f7a4_35 : decode cJ6_bitCount_0f7a4 35 = .ok (.iload_n 0, 1) := by decide +kernel
theorem dJ6_bitCount_0f7a4_36 : decode cJ6_bitCount_0f7a4 36 = .ok (.bipush 8, 2) := by decide +kernel
theorem dJ6_bitCount_0f7a4_38 : decode cJ6_bitCount_0f7a4 38 = .ok (.iushr, 1) := by decide +kernel
theorem dJ6_bitCount_0f7a4_39 : decode cJ6_bitCount_0f7a4 39 = .ok (.iadd, 1) := by decide +kernel
theorem dJ6_bitCount_0f7a4_40 : decode cJ6_bitCount_0f7a4 40 = .ok (.istore_n 0, 1) := by decide +kernel
theorem dJ6_bitCount_0f7a4_41 : decode cJ6_bitCount_0f7a4 41 = .ok (.iload_n 0, 1) := by decide +kernel
theorem dJ6_bitCount_0f7a4_42 : decode cJ6_bitCount_0f7a4 42 = .ok (.iload_n 0, 1) := by decide +kernel
theorem dJ6_bitCount_0f7a4_43 : decode cJ6_bitCount_0f7a4 43 = .ok (.bipush 16, 2) := by decide +kernel
theorem dJ6_bitCount_0f7a4_45 : decode cJ6_bitCount_0f7a4 45 = .ok (.iushr, 1) := by decide +kernel
theorem dJ6_bitCount_0f7a4_46 : decode cJ6_bitCount_0f7a4 46 = .ok (.iadd, 1) := by decide +kernel
theorem dJ6_bitCount_0f7a4_47 : decode cJ6_bitCount_0f7a4 47 = .ok (.istore_n 0, 1) := by decide +kernel
theorem dJ6_bitCount_0f7a4_48 : decode cJ6_bitCount_0f7a4 48 = .ok (.iload_n 0, 1) := by decide +kernel
theorem dJ6_bitCount_0f7a4_49 : decode cJ6_bitCount_0f7a4 49 = .ok (.bipush 63, 2) := by decide +kernel
theorem dJ6_bitCount_0f7a4_51 : decode cJ6_bitCount_0f7a4 51 = .ok (.iand, 1) := by decide +kernel
theorem dJ6_bitCount_0f7a4_52 : decode cJ6_bitCount_0f7a4 52 = .ok (.ireturn, 1) := by decide +kernel
def J6_bitCount_0f7a4 (v0 : Int32) : Int32 := ((((((((v0 - ((jushr v0 1) &&& 1431655765)) &&& 858993459) + ((jushr (v0 - ((jushr v0 1) &&& 1431655765)) 2) &&& 858993459)) + (jushr (((v0 - ((jushr v0 1) &&& 1431655765)) &&& 858993459) + ((jushr (v0 - ((jushr v0 1) &&& 1431655765)) 2) &&& 858993459)) 4)) &&& 252645135) + (jushr (((((v0 - ((jushr v0 1) &&& 1431655765)) &&& 858993459) + ((jushr (v0 - ((jushr v0 1) &&& 1431655765)) 2) &&& 858993459)) + (jushr (((v0 - ((jushr v0 1) &&& 1431655765)) &&& 858993459) + ((jushr (v0 - ((jushr v0 1) &&& 1431655765)) 2) &&& 858993459)) 4)) &&& 252645135) 8)) + (jushr ((((((v0 - ((jushr v0 1) &&& 1431655765)) &&& 858993459) + ((jushr (v0 - ((jushr v0 1) &&& 1431655765)) 2) &&& 858993459)) + (jushr (((v0 - ((jushr v0 1) &&& 1431655765)) &&& 858993459) + ((jushr (v0 - ((jushr v0 1) &&& 1431655765)) 2) &&& 858993459)) 4)) &&& 252645135) + (jushr (((((v0 - ((jushr v0 1) &&& 1431655765)) &&& 858993459) + ((jushr (v0 - ((jushr v0 1) &&& 1431655765)) 2) &&& 858993459)) + (jushr (((v0 - ((jushr v0 1) &&& 1431655765)) &&& 858993459) + ((jushr (v0 - ((jushr v0 1) &&& 1431655765)) 2) &&& 858993459)) 4)) &&& 252645135) 8)) 16)) &&& 63)
set_option maxRecDepth 100000 in
set_option maxHeartbeats 4000000 in
theorem J6_bitCount_0f7a4_ok  {v0 : Int32} {MM0 : MM} {res : Int32} (h : J6_bitCount_0f7a4 v0 = res) : Spec mt_J6_bitCount_0f7a4 0 [.inl v0] MM0 (some (.inl res)) MM0 := by
  unfold J6_bitCount_0f7a4 at h
  refine Spec_of_G (by decide) rfl (Nat.le_of_ble_eq_true rfl) ?_
  refine G_sub [(0, .inl v0)] [0] rfl ?_
  refine G_iload_n dJ6_bitCount_0f7a4_0 rfl ?_
  refine G_iload_n dJ6_bitCount_0f7a4_1 rfl ?_
  refine G_iconst (v := 1) dJ6_bitCount_0f7a4_2 (by decide) ?_
  refine G_iushr dJ6_bitCount_0f7a4_3 ?_
  refine G_ldcw ko_J6_265 dJ6_bitCount_0f7a4_4 ?_
  refine G_iand dJ6_bitCount_0f7a4_7 ?_
  refine G_isub dJ6_bitCount_0f7a4_8 ?_
  refine G_istore_n (L2 := [(0, .inl (v0 - ((jushr v0 1) &&& 1431655765)))]) dJ6_bitCount_0f7a4_9 (by decide) rfl ?_
  refine G_iload_n dJ6_bitCount_0f7a4_10 rfl ?_
  refine G_ldcw ko_J6_266 dJ6_bitCount_0f7a4_11 ?_
  refine G_iand dJ6_bitCount_0f7a4_14 ?_
  refine G_iload_n dJ6_bitCount_0f7a4_15 rfl ?_
  refine G_iconst (v := 2) dJ6_bitCount_0f7a4_16 (by decide) ?_
  refine G_iushr dJ6_bitCount_0f7a4_17 ?_
  refine G_ldcw ko_J6_266 dJ6_bitCount_0f7a4_18 ?_
  refine G_iand dJ6_bitCount_0f7a4_21 ?_
  refine G_iadd dJ6_bitCount_0f7a4_22 ?_
  refine G_istore_n (L2 := [(0, .inl (((v0 - ((jushr v0 1) &&& 1431655765)) &&& 858993459) + ((jushr (v0 - ((jushr v0 1) &&& 1431655765)) 2) &&& 858993459)))]) dJ6_bitCount_0f7a4_23 (by decide) rfl ?_
  refine G_iload_n dJ6_bitCount_0f7a4_24 rfl ?_
  refine G_iload_n dJ6_bitCount_0f7a4_25 rfl ?_
  refine G_iconst (v := 4) dJ6_bitCount_0f7a4_26 (by decide) ?_
  refine G_iushr dJ6_bitCount_0f7a4_27 ?_
  refine G_iadd dJ6_bitCount_0f7a4_28 ?_
  refine G_ldcw ko_J6_267 dJ6_bitCount_0f7a4_29 ?_
  refine G_iand dJ6_bitCount_0f7a4_32 ?_
  refine G_istore_n (L2 := [(0, .inl (((((v0 - ((jushr v0 1) &&& 1431655765)) &&& 858993459) + ((jushr (v0 - ((jushr v0 1) &&& 1431655765)) 2) &&& 858993459)) + (jushr (((v0 - ((jushr v0 1) &&& 1431655765)) &&& 858993459) + ((jushr (v0 - ((jushr v0 1) &&& 1431655765)) 2) &&& 858993459)) 4)) &&& 252645135))]) dJ6_bitCount_0f7a4_33 (by decide) rfl ?_
  refine G_iload_n dJ6_bitCount_0f7a4_34 rfl ?_
  refine G_iload_n dJ6_bitCount_0f7a4_35 rfl ?_
  refine G_bipush (v := 8) dJ6_bitCount_0f7a4_36 (by decide) ?_
  refine G_iushr dJ6_bitCount_0f7a4_38 ?_
  refine G_iadd dJ6_bitCount_0f7a4_39 ?_
  refine G_istore_n (L2 := [(0, .inl ((((((v0 - ((jushr v0 1) &&& 1431655765)) &&& 858993459) + ((jushr (v0 - ((jushr v0 1) &&& 1431655765)) 2) &&& 858993459)) + (jushr (((v0 - ((jushr v0 1) &&& 1431655765)) &&& 858993459) + ((jushr (v0 - ((jushr v0 1) &&& 1431655765)) 2) &&& 858993459)) 4)) &&& 252645135) + (jushr (((((v0 - ((jushr v0 1) &&& 1431655765)) &&& 858993459) + ((jushr (v0 - ((jushr v0 1) &&& 1431655765)) 2) &&& 858993459)) + (jushr (((v0 - ((jushr v0 1) &&& 1431655765)) &&& 858993459) + ((jushr (v0 - ((jushr v0 1) &&& 1431655765)) 2) &&& 858993459)) 4)) &&& 252645135) 8)))]) dJ6_bitCount_0f7a4_40 (by decide) rfl ?_
  refine G_iload_n dJ6_bitCount_0f7a4_41 rfl ?_
  refine G_iload_n dJ6_bitCount_0f7a4_42 rfl ?_
  refine G_bipush (v := 16) dJ6_bitCount_0f7a4_43 (by decide) ?_
  refine G_iushr dJ6_bitCount_0f7a4_45 ?_
  refine G_iadd dJ6_bitCount_0f7a4_46 ?_
  refine G_istore_n (L2 := [(0, .inl (((((((v0 - ((jushr v0 1) &&& 1431655765)) &&& 858993459) + ((jushr (v0 - ((jushr v0 1) &&& 1431655765)) 2) &&& 858993459)) + (jushr (((v0 - ((jushr v0 1) &&& 1431655765)) &&& 858993459) + ((jushr (v0 - ((jushr v0 1) &&& 1431655765)) 2) &&& 858993459)) 4)) &&& 252645135) + (jushr (((((v0 - ((jushr v0 1) &&& 1431655765)) &&& 858993459) + ((jushr (v0 - ((jushr v0 1) &&& 1431655765)) 2) &&& 858993459)) + (jushr (((v0 - ((jushr v0 1) &&& 1431655765)) &&& 858993459) + ((jushr (v0 - ((jushr v0 1) &&& 1431655765)) 2) &&& 858993459)) 4)) &&& 252645135) 8)) + (jushr ((((((v0 - ((jushr v0 1) &&& 1431655765)) &&& 858993459) + ((jushr (v0 - ((jushr v0 1) &&& 1431655765)) 2) &&& 858993459)) + (jushr (((v0 - ((jushr v0 1) &&& 1431655765)) &&& 858993459) + ((jushr (v0 - ((jushr v0 1) &&& 1431655765)) 2) &&& 858993459)) 4)) &&& 252645135) + (jushr (((((v0 - ((jushr v0 1) &&& 1431655765)) &&& 858993459) + ((jushr (v0 - ((jushr v0 1) &&& 1431655765)) 2) &&& 858993459)) + (jushr (((v0 - ((jushr v0 1) &&& 1431655765)) &&& 858993459) + ((jushr (v0 - ((jushr v0 1) &&& 1431655765)) 2) &&& 858993459)) 4)) &&& 252645135) 8)) 16)))]) dJ6_bitCount_0f7a4_47 (by decide) rfl ?_
  refine G_iload_n dJ6_bitCount_0f7a4_48 rfl ?_
  refine G_bipush (v := 63) dJ6_bitCount_0f7a4_49 (by decide) ?_
  refine G_iand dJ6_bitCount_0f7a4_51 ?_
  subst h
  exact G_ret dJ6_bitCount_0f7a4_52 trivial rfl rfl

theorem dX0_draw_0 : decode cX0_draw 0 = .ok (.aload_n 0, 1) := by decide +kernel
theorem dX0_draw_1 : decode cX0_draw 1 = .ok (.aload_n 0, 1) := by decide +kernel
theorem dX0_draw_2 : decode cX0_draw 2 = .ok (.getfield 19, 3) := by decide +kernel
theorem dX0_draw_5 : decode cX0_draw 5 = .ok (.ldc 35, 2) := by decide +kernel
theorem dX0_draw_7 : decode cX0_draw 7 = .ok (.imul, 1) := by decide +kernel
theorem dX0_draw_8 : decode cX0_draw 8 = .ok (.sipush 12345, 3) := by decide +kernel
theorem dX0_draw_11 : decode cX0_draw 11 = .ok (.iadd, 1) := by decide +kernel
theorem dX0_draw_12 : decode cX0_draw 12 = .ok (.putfield 19, 3) := by decide +kernel
theorem dX0_draw_15 : decode cX0_draw 15 = .ok (.aload_n 0, 1) := by decide +kernel
theorem dX0_draw_16 : decode cX0_draw 16 = .ok (.getfield 19, 3) := by decide +kernel
theorem dX0_draw_19 : decode cX0_draw 19 = .ok (.bipush 8, 2) := by decide +kernel
theorem dX0_draw_21 : decode cX0_draw 21 = .ok (.iushr, 1) := by decide +kernel
theorem dX0_draw_22 : decode cX0_draw 22 = .ok (.ireturn, 1) := by decide +kernel
def X0_draw (i0 : Nat) (M : Mem) : Option (Int32 × Mem) := (some ((jushr (((M 0 i0 4) * 1103515245) + 12345) 8), (up3 M 0 i0 4 (((M 0 i0 4) * 1103515245) + 12345))))
set_option maxRecDepth 100000 in
set_option maxHeartbeats 4000000 in
theorem X0_draw_ok  {i0 : Nat} {M N : Mem} {res : Int32 × Mem} (hi0 : i0 < 2) (h : X0_draw i0 M = some res) : Spec mt_X0_draw 0 [.inr (.inr (0, i0))] (M, N) (some (.inl res.1)) (res.2, N) := by
  unfold X0_draw at h
  refine Spec_of_G (by decide) rfl (Nat.le_of_ble_eq_true rfl) ?_
  refine G_sub [(0, .inr (.inr (0, i0)))] [0] rfl ?_
  refine G_aload_n dX0_draw_0 rfl ?_
  refine G_aload_n dX0_draw_1 rfl ?_
  refine fg_X0_19 (v := (M 0 i0 4)) rfl rfl hi0 dX0_draw_2 ?_
  refine G_ldc ko_X0_35 dX0_draw_5 ?_
  refine G_imul dX0_draw_7 ?_
  refine G_sipush (v := 12345) dX0_draw_8 (by decide) ?_
  refine G_iadd dX0_draw_11 ?_
  refine fp_X0_19 rfl hi0 dX0_draw_12 ?_
  refine G_aload_n dX0_draw_15 rfl ?_
  refine fg_X0_19 (v := (((M 0 i0 4) * 1103515245) + 12345)) up3_eq rfl hi0 dX0_draw_16 ?_
  refine G_bipush (v := 8) dX0_draw_19 (by decide) ?_
  refine G_iushr dX0_draw_21 ?_
  obtain rfl := Option.some.inj h
  exact G_ret dX0_draw_22 trivial rfl rfl

theorem dX3_copy_0 : decode cX3_copy 0 = .ok (.aload_n 0, 1) := by decide +kernel
theorem dX3_copy_1 : decode cX3_copy 1 = .ok (.aload_n 1, 1) := by decide +kernel
theorem dX3_copy_2 : decode cX3_copy 2 = .ok (.getfield 9, 3) := by decide +kernel
theorem dX3_copy_5 : decode cX3_copy 5 = .ok (.putfield 9, 3) := by decide +kernel
theorem dX3_copy_8 : decode cX3_copy 8 = .ok (.aload_n 0, 1) := by decide +kernel
theorem dX3_copy_9 : decode cX3_copy 9 = .ok (.aload_n 1, 1) := by decide +kernel
theorem dX3_copy_10 : decode cX3_copy 10 = .ok (.getfield 15, 3) := by decide +kernel
theorem dX3_copy_13 : decode cX3_copy 13 = .ok (.putfield 15, 3) := by decide +kernel
theorem dX3_copy_16 : decode cX3_copy 16 = .ok (.aload_n 0, 1) := by decide +kernel
theorem dX3_copy_17 : decode cX3_copy 17 = .ok (.aload_n 1, 1) := by decide +kernel
theorem dX3_copy_18 : decode cX3_copy 18 = .ok (.getfield 18, 3) := by decide +kernel
theorem dX3_copy_21 : decode cX3_copy 21 = .ok (.putfield 18, 3) := by decide +kernel
theorem dX3_copy_24 : decode cX3_copy 24 = .ok (.aload_n 0, 1) := by decide +kernel
theorem dX3_copy_25 : decode cX3_copy 25 = .ok (.aload_n 1, 1) := by decide +kernel
theorem dX3_copy_26 : decode cX3_copy 26 = .ok (.getfield 21, 3) := by decide +kernel
theorem dX3_copy_29 : decode cX3_copy 29 = .ok (.putfield 21, 3) := by decide +kernel
theorem dX3_copy_32 : decode cX3_copy 32 = .ok (.aload_n 0, 1) := by decide +kernel
theorem dX3_copy_33 : decode cX3_copy 33 = .ok (.aload_n 1, 1) := by decide +kernel
theorem dX3_copy_34 : decode cX3_copy 34 = .ok (.getfield 24, 3) := by decide +kernel
theorem dX3_copy_37 : decode cX3_copy 37 = .ok (.putfield 24, 3) := by decide +kernel
theorem dX3_copy_40 : decode cX3_copy 40 = .ok (.aload_n 0, 1) := by decide +kernel
theorem dX3_copy_41 : decode cX3_copy 41 = .ok (.aload_n 1, 1) := by decide +kernel
theorem dX3_copy_42 : decode cX3_copy 42 = .ok (.getfield 27, 3) := by decide +kernel
theorem dX3_copy_45 : decode cX3_copy 45 = .ok (.putfield 27, 3) := by decide +kernel
theorem dX3_copy_48 : decode cX3_copy 48 = .ok (.aload_n 0, 1) := by decide +kernel
theorem dX3_copy_49 : decode cX3_copy 49 = .ok (.aload_n 1, 1) := by decide +kernel
theorem dX3_copy_50 : decode cX3_copy 50 = .ok (.getfield 30, 3) := by decide +kernel
theorem dX3_copy_53 : decode cX3_copy 53 = .ok (.putfield 30, 3) := by decide +kernel
theorem dX3_copy_56 : decode cX3_copy 56 = .ok (.aload_n 0, 1) := by decide +kernel
theorem dX3_copy_57 : decode cX3_copy 57 = .ok (.aload_n 1, 1) := by decide +kernel
theorem dX3_copy_58 : decode cX3_copy 58 = .ok (.getfield 33, 3) := by decide +kernel
theorem dX3_copy_61 : decode cX3_copy 61 = .ok (.putfield 33, 3) := by decide +kernel
theorem dX3_copy_64 : decode cX3_copy 64 = .ok (.return_, 1) := by decide +kernel
def X3_copy (i0 : Nat) (i1 : Nat) (M : Mem) : Option (Mem) := (some (up3 (up3 (up3 (up3 (up3 (up3 (up3 (up3 M 3 i0 0 (M 3 i1 0)) 3 i0 1 (M 3 i1 1)) 3 i0 2 (M 3 i1 2)) 3 i0 3 (M 3 i1 3)) 3 i0 4 (M 3 i1 4)) 3 i0 5 (M 3 i1 5)) 3 i0 6 (M 3 i1 6)) 3 i0 7 (nbZ (M 3 i1 7))))
set_option maxRecDepth 100000 in
set_option maxHeartbeats 4000000 in
theorem X3_copy_ok  {i0 : Nat} {i1 : Nat} {M N : Mem} {res : Mem} (hi0 : i0 < 30) (hi1 : i1 < 30) (h : X3_copy i0 i1 M = some res) : Spec mt_X3_copy 0 [.inr (.inr (3, i0)), .inr (.inr (3, i1))] (M, N) none (res, N) := by
  unfold X3_copy at h
  refine Spec_of_G (by decide) rfl (Nat.le_of_ble_eq_true rfl) ?_
  refine G_sub [(0, .inr (.inr (3, i0))), (1, .inr (.inr (3, i1)))] [0, 1] rfl ?_
  refine G_aload_n dX3_copy_0 rfl ?_
  refine G_aload_n dX3_copy_1 rfl ?_
  refine fg_X3_9 (v := (M 3 i1 0)) rfl rfl hi1 dX3_copy_2 ?_
  refine fp_X3_9 rfl hi0 dX3_copy_5 ?_
  refine G_aload_n dX3_copy_8 rfl ?_
  refine G_aload_n dX3_copy_9 rfl ?_
  refine fg_X3_15 (v := (M 3 i1 1)) (up3_k (by decide)) rfl hi1 dX3_copy_10 ?_
  refine fp_X3_15 rfl hi0 dX3_copy_13 ?_
  refine G_aload_n dX3_copy_16 rfl ?_
  refine G_aload_n dX3_copy_17 rfl ?_
  refine fg_X3_18 (v := (M 3 i1 2)) ((up3_k (by decide)).trans (up3_k (by decide))) rfl hi1 dX3_copy_18 ?_
  refine fp_X3_18 rfl hi0 dX3_copy_21 ?_
  refine G_aload_n dX3_copy_24 rfl ?_
  refine G_aload_n dX3_copy_25 rfl ?_
  refine fg_X3_21 (v := (M 3 i1 3)) ((up3_k (by decide)).trans ((up3_k (by decide)).trans (up3_k (by decide)))) rfl hi1 dX3_copy_26 ?_
  refine fp_X3_21 rfl hi0 dX3_copy_29 ?_
  refine G_aload_n dX3_copy_32 rfl ?_
  refine G_aload_n dX3_copy_33 rfl ?_
  refine fg_X3_24 (v := (M 3 i1 4)) ((up3_k (by decide)).trans ((up3_k (by decide)).trans ((up3_k (by decide)).trans (up3_k (by decide))))) rfl hi1 dX3_copy_34 ?_
  refine fp_X3_24 rfl hi0 dX3_copy_37 ?_
  refine G_aload_n dX3_copy_40 rfl ?_
  refine G_aload_n dX3_copy_41 rfl ?_
  refine fg_X3_27 (v := (M 3 i1 5)) ((up3_k (by decide)).trans ((up3_k (by decide)).trans ((up3_k (by decide)).trans ((up3_k (by decide)).trans (up3_k (by decide)))))) rfl hi1 dX3_copy_42 ?_
  refine fp_X3_27 rfl hi0 dX3_copy_45 ?_
  refine G_aload_n dX3_copy_48 rfl ?_
  refine G_aload_n dX3_copy_49 rfl ?_
  refine fg_X3_30 (v := (M 3 i1 6)) ((up3_k (by decide)).trans ((up3_k (by decide)).trans ((up3_k (by decide)).trans ((up3_k (by decide)).trans ((up3_k (by decide)).trans (up3_k (by decide))))))) rfl hi1 dX3_copy_50 ?_
  refine fp_X3_30 rfl hi0 dX3_copy_53 ?_
  refine G_aload_n dX3_copy_56 rfl ?_
  refine G_aload_n dX3_copy_57 rfl ?_
  refine fg_X3_33 (v := (nbZ (M 3 i1 7))) (congrArg nbZ ((up3_k (by decide)).trans ((up3_k (by decide)).trans ((up3_k (by decide)).trans ((up3_k (by decide)).trans ((up3_k (by decide)).trans ((up3_k (by decide)).trans (up3_k (by decide))))))))) rfl hi1 dX3_copy_58 ?_
  refine fp_X3_33 (nbZ_nbZ _) rfl hi0 dX3_copy_61 ?_
  obtain rfl := Option.some.inj h
  exact G_ret dX3_copy_64 trivial rfl rfl

theorem dX7_isSheet_0 : decode cX7_isSheet 0 = .ok (.iload_n 0, 1) := by decide +kernel
theorem dX7_isSheet_1 : decode cX7_isSheet 1 = .ok (.ifCond .lt 12, 3) := by decide +kernel
theorem dX7_isSheet_4 : decode cX7_isSheet 4 = .ok (.iload_n 0, 1) := by decide +kernel
theorem dX7_isSheet_5 : decode cX7_isSheet 5 = .ok (.iconst 4, 1) := by decide +kernel
theorem dX7_isSheet_6 : decode cX7_isSheet 6 = .ok (.if_icmp .ge 7, 3) := by decide +kernel
theorem dX7_isSheet_9 : decode cX7_isSheet 9 = .ok (.iconst 1, 1) := by decide +kernel
theorem dX7_isSheet_10 : decode cX7_isSheet 10 = .ok (.goto 4, 3) := by decide +kernel
theorem dX7_isSheet_13 : decode cX7_isSheet 13 = .ok (.iconst 0, 1) := by decide +kernel
theorem dX7_isSheet_14 : decode cX7_isSheet 14 = .ok (.ireturn, 1) := by decide +kernel
def X7_isSheet (v0 : Int32) : Int32 := (if v0 < 0 then 0 else (if v0 < 4 then 1 else 0))
set_option maxRecDepth 100000 in
set_option maxHeartbeats 4000000 in
theorem X7_isSheet_ok  {v0 : Int32} {MM0 : MM} {res : Int32} (h : X7_isSheet v0 = res) : Spec mt_X7_isSheet 0 [.inl v0] MM0 (some (.inl res)) MM0 := by
  unfold X7_isSheet at h
  refine Spec_of_G (by decide) rfl (Nat.le_of_ble_eq_true rfl) ?_
  refine G_sub [(0, .inl v0)] [0] rfl ?_
  refine G_iload_n dX7_isSheet_0 rfl ?_
  refine G_if_lt (tgt := 13) dX7_isSheet_1 (by decide) (fun hc1 => ?_) (fun hc1 => ?_)
  · replace h := (if_pos hc1).symm.trans h
    refine G_iconst (v := 0) dX7_isSheet_13 (by decide) ?_
    subst h
    exact G_ret dX7_isSheet_14 (Or.inl rfl) rfl rfl
  · replace h := (if_neg hc1).symm.trans h
    refine G_iload_n dX7_isSheet_4 rfl ?_
    refine G_iconst (v := 4) dX7_isSheet_5 (by decide) ?_
    refine G_icmp_ge (tgt := 13) dX7_isSheet_6 (by decide) (fun hc2 => ?_) (fun hc2 => ?_)
    · replace h := (if_neg hc2).symm.trans h
      refine G_iconst (v := 0) dX7_isSheet_13 (by decide) ?_
      subst h
      exact G_ret dX7_isSheet_14 (Or.inl rfl) rfl rfl
    · replace h := (if_pos hc2).symm.trans h
      refine G_iconst (v := 1) dX7_isSheet_9 (by decide) ?_
      refine G_goto (tgt := 14) dX7_isSheet_10 (by decide) ?_
      subst h
      exact G_ret dX7_isSheet_14 (Or.inr rfl) rfl rfl
theorem X7_isSheet_z {v0 : Int32} : X7_isSheet v0 = 0 ∨ X7_isSheet v0 = 1 := by
  unfold X7_isSheet
  (repeat' split) <;> first | exact Or.inl rfl | exact Or.inr rfl | exact X8_in_z

theorem dX5_isMissing_0 : decode cX5_isMissing 0 = .ok (.aload_n 0, 1) := by decide +kernel
theorem dX5_isMissing_1 : decode cX5_isMissing 1 = .ok (.getfield 15, 3) := by decide +kernel
theorem dX5_isMissing_4 : decode cX5_isMissing 4 = .ok (.ifCond .ne 7, 3) := by decide +kernel
theorem dX5_isMissing_7 : decode cX5_isMissing 7 = .ok (.iconst 1, 1) := by decide +kernel
theorem dX5_isMissing_8 : decode cX5_isMissing 8 = .ok (.goto 4, 3) := by decide +kernel
theorem dX5_isMissing_11 : decode cX5_isMissing 11 = .ok (.iconst 0, 1) := by decide +kernel
theorem dX5_isMissing_12 : decode cX5_isMissing 12 = .ok (.ireturn, 1) := by decide +kernel
def X5_isMissing (i0 : Nat) (M : Mem) : Int32 := (if (M 5 i0 1) = 0 then 1 else 0)
set_option maxRecDepth 100000 in
set_option maxHeartbeats 4000000 in
theorem X5_isMissing_ok  {i0 : Nat} {M N : Mem} {res : Int32} (hi0 : i0 < 4) (h : X5_isMissing i0 M = res) : Spec mt_X5_isMissing 0 [.inr (.inr (5, i0))] (M, N) (some (.inl res)) (M, N) := by
  unfold X5_isMissing at h
  refine Spec_of_G (by decide) rfl (Nat.le_of_ble_eq_true rfl) ?_
  refine G_sub [(0, .inr (.inr (5, i0)))] [0] rfl ?_
  refine G_aload_n dX5_isMissing_0 rfl ?_
  refine fg_X5_15 (v := (M 5 i0 1)) rfl rfl hi0 dX5_isMissing_1 ?_
  refine G_if_ne (tgt := 11) dX5_isMissing_4 (by decide) (fun hc1 => ?_) (fun hc1 => ?_)
  · replace h := (if_neg hc1).symm.trans h
    refine G_iconst (v := 0) dX5_isMissing_11 (by decide) ?_
    subst h
    exact G_ret dX5_isMissing_12 (Or.inl rfl) rfl rfl
  · replace h := (if_pos hc1).symm.trans h
    refine G_iconst (v := 1) dX5_isMissing_7 (by decide) ?_
    refine G_goto (tgt := 12) dX5_isMissing_8 (by decide) ?_
    subst h
    exact G_ret dX5_isMissing_12 (Or.inr rfl) rfl rfl
theorem X5_isMissing_z {i0 : Nat} {M : Mem} : X5_isMissing i0 M = 0 ∨ X5_isMissing i0 M = 1 := by
  unfold X5_isMissing
  (repeat' split) <;> first | exact Or.inl rfl | exact Or.inr rfl | exact X8_in_z

theorem dX5_lay_0 : decode cX5_lay 0 = .ok (.aload_n 0, 1) := by decide +kernel
theorem dX5_lay_1 : decode cX5_lay 1 = .ok (.iload_n 1, 1) := by decide +kernel
theorem dX5_lay_2 : decode cX5_lay 2 = .ok (.putfield 15, 3) := by decide +kernel
theorem dX5_lay_5 : decode cX5_lay 5 = .ok (.aload_n 0, 1) := by decide +kernel
theorem dX5_lay_6 : decode cX5_lay 6 = .ok (.iload_n 2, 1) := by decide +kernel
theorem dX5_lay_7 : decode cX5_lay 7 = .ok (.putfield 19, 3) := by decide +kernel
theorem dX5_lay_10 : decode cX5_lay 10 = .ok (.aload_n 0, 1) := by decide +kernel
theorem dX5_lay_11 : decode cX5_lay 11 = .ok (.getfield 9, 3) := by decide +kernel
theorem dX5_lay_14 : decode cX5_lay 14 = .ok (.iconst 0, 1) := by decide +kernel
theorem dX5_lay_15 : decode cX5_lay 15 = .ok (.invokestatic 22, 3) := by decide +kernel
theorem dX5_lay_18 : decode cX5_lay 18 = .ok (.return_, 1) := by decide +kernel
def X5_lay (i0 : Nat) (v1 : Int32) (v2 : Int32) (M : Mem) : Option (Mem) := ((J7_fill_53178 i0 0 (up3 (up3 M 5 i0 1 v1) 5 i0 2 v2)).bind fun q1 => (some q1))
set_option maxRecDepth 100000 in
set_option maxHeartbeats 4000000 in
theorem X5_lay_ok  {i0 : Nat} {v1 : Int32} {v2 : Int32} {M N : Mem} {res : Mem} (hi0 : i0 < 4) (h : X5_lay i0 v1 v2 M = some res) : Spec mt_X5_lay 1 [.inr (.inr (5, i0)), .inl v1, .inl v2] (M, N) none (res, N) := by
  unfold X5_lay at h
  refine Spec_of_G (by decide) rfl (Nat.le_of_ble_eq_true rfl) ?_
  refine G_sub [(0, .inr (.inr (5, i0))), (1, .inl v1), (2, .inl v2)] [0, 1, 2] rfl ?_
  refine G_aload_n dX5_lay_0 rfl ?_
  refine G_iload_n dX5_lay_1 rfl ?_
  refine fp_X5_15 rfl hi0 dX5_lay_2 ?_
  refine G_aload_n dX5_lay_5 rfl ?_
  refine G_iload_n dX5_lay_6 rfl ?_
  refine fp_X5_19 rfl hi0 dX5_lay_7 ?_
  refine G_aload_n dX5_lay_10 rfl ?_
  refine fg_X5_9 rfl hi0 dX5_lay_11 ?_
  refine G_iconst (v := 0) dX5_lay_14 (by decide) ?_
  obtain ⟨q1, hq1, h⟩ := bnd h
  refine G_callSn  (J7_fill_53178_ok hi0 hq1) ok_J7_fill_53178 ml_X5_22 (by decide) rfl rfl (Nat.le_of_ble_eq_true rfl) dX5_lay_15 ?_
  obtain rfl := Option.some.inj h
  exact G_ret dX5_lay_18 trivial rfl rfl

theorem dX5_lowestBits_0 : decode cX5_lowestBits 0 = .ok (.aload_n 0, 1) := by decide +kernel
theorem dX5_lowestBits_1 : decode cX5_lowestBits 1 = .ok (.getfield 15, 3) := by decide +kernel
theorem dX5_lowestBits_4 : decode cX5_lowestBits 4 = .ok (.bipush 8, 2) := by decide +kernel
theorem dX5_lowestBits_6 : decode cX5_lowestBits 6 = .ok (.if_icmp .ne 6, 3) := by decide +kernel
theorem dX5_lowestBits_9 : decode cX5_lowestBits 9 = .ok (.iload_n 1, 1) := by decide +kernel
theorem dX5_lowestBits_10 : decode cX5_lowestBits 10 = .ok (.i2b, 1) := by decide +kernel
theorem dX5_lowestBits_11 : decode cX5_lowestBits 11 = .ok (.ireturn, 1) := by decide +kernel
theorem dX5_lowestBits_12 : decode cX5_lowestBits 12 = .ok (.aload_n 0, 1) := by decide +kernel
theorem dX5_lowestBits_13 : decode cX5_lowestBits 13 = .ok (.getfield 15, 3) := by decide +kernel
theorem dX5_lowestBits_16 : decode cX5_lowestBits 16 = .ok (.bipush 16, 2) := by decide +kernel
theorem dX5_lowestBits_18 : decode cX5_lowestBits 18 = .ok (.if_icmp .ne 8, 3) := by decide +kernel
theorem dX5_lowestBits_21 : decode cX5_lowestBits 21 = .ok (.iload_n 1, 1) := by decide +kernel
theorem dX5_lowestBits_22 : decode cX5_lowestBits 22 = .ok (.i2s, 1) := by decide +kernel
theorem dX5_lowestBits_23 : decode cX5_lowestBits 23 = .ok (.goto 4, 3) := by decide +kernel
theorem dX5_lowestBits_26 : decode cX5_lowestBits 26 = .ok (.iload_n 1, 1) := by decide +kernel
theorem dX5_lowestBits_27 : decode cX5_lowestBits 27 = .ok (.ireturn, 1) := by decide +kernel
def X5_lowestBits (i0 : Nat) (v1 : Int32) (M : Mem) : Int32 := (if (M 5 i0 1) = 8 then (nbB v1) else (if (M 5 i0 1) = 16 then (v1.toInt16.toInt32) else v1))
set_option maxRecDepth 100000 in
set_option maxHeartbeats 4000000 in
theorem X5_lowestBits_ok  {i0 : Nat} {v1 : Int32} {M N : Mem} {res : Int32} (hi0 : i0 < 4) (h : X5_lowestBits i0 v1 M = res) : Spec mt_X5_lowestBits 0 [.inr (.inr (5, i0)), .inl v1] (M, N) (some (.inl res)) (M, N) := by
  unfold X5_lowestBits at h
  refine Spec_of_G (by decide) rfl (Nat.le_of_ble_eq_true rfl) ?_
  refine G_sub [(0, .inr (.inr (5, i0))), (1, .inl v1)] [0, 1] rfl ?_
  refine G_aload_n dX5_lowestBits_0 rfl ?_
  refine fg_X5_15 (v := (M 5 i0 1)) rfl rfl hi0 dX5_lowestBits_1 ?_
  refine G_bipush (v := 8) dX5_lowestBits_4 (by decide) ?_
  refine G_icmp_ne (tgt := 12) dX5_lowestBits_6 (by decide) (fun hc1 => ?_) (fun hc1 => ?_)
  · replace h := (if_neg hc1).symm.trans h
    refine G_aload_n dX5_lowestBits_12 rfl ?_
    refine fg_X5_15 (v := (M 5 i0 1)) rfl rfl hi0 dX5_lowestBits_13 ?_
    refine G_bipush (v := 16) dX5_lowestBits_16 (by decide) ?_
    refine G_icmp_ne (tgt := 26) dX5_lowestBits_18 (by decide) (fun hc2 => ?_) (fun hc2 => ?_)
    · replace h := (if_neg hc2).symm.trans h
      refine G_iload_n dX5_lowestBits_26 rfl ?_
      subst h
      exact G_ret dX5_lowestBits_27 trivial rfl rfl
    · replace h := (if_pos hc2).symm.trans h
      refine G_iload_n dX5_lowestBits_21 rfl ?_
      refine G_i2s dX5_lowestBits_22 ?_
      refine G_goto (tgt := 27) dX5_lowestBits_23 (by decide) ?_
      subst h
      exact G_ret dX5_lowestBits_27 trivial rfl rfl
  · replace h := (if_pos hc1).symm.trans h
    refine G_iload_n dX5_lowestBits_9 rfl ?_
    refine G_i2b dX5_lowestBits_10 ?_
    subst h
    exact G_ret dX5_lowestBits_11 trivial rfl rfl

theorem dX5_holds_0 : decode cX5_holds 0 = .ok (.iload_n 2, 1) := by decide +kernel
theorem dX5_holds_1 : decode cX5_holds 1 = .ok (.ifCond .lt 29, 3) := by decide +kernel
theorem dX5_holds_4 : decode cX5_holds 4 = .ok (.iload_n 1, 1) := by decide +kernel
theorem dX5_holds_5 : decode cX5_holds 5 = .ok (.ifCond .lt 25, 3) := by decide +kernel
theorem dX5_holds_8 : decode cX5_holds 8 = .ok (.iload_n 2, 1) := by decide +kernel
theorem dX5_holds_9 : decode cX5_holds 9 = .ok (.aload_n 0, 1) := by decide +kernel
theorem dX5_holds_10 : decode cX5_holds 10 = .ok (.getfield 19, 3) := by decide +kernel
theorem dX5_holds_13 : decode cX5_holds 13 = .ok (.if_icmp .gt 17, 3) := by decide +kernel
theorem dX5_holds_16 : decode cX5_holds 16 = .ok (.iload_n 1, 1) := by decide +kernel
theorem dX5_holds_17 : decode cX5_holds 17 = .ok (.aload_n 0, 1) := by decide +kernel
theorem dX5_holds_18 : decode cX5_holds 18 = .ok (.getfield 19, 3) := by decide +kernel
theorem dX5_holds_21 : decode cX5_holds 21 = .ok (.iload_n 2, 1) := by decide +kernel
theorem dX5_holds_22 : decode cX5_holds 22 = .ok (.isub, 1) := by decide +kernel
theorem dX5_holds_23 : decode cX5_holds 23 = .ok (.if_icmp .gt 7, 3) := by decide +kernel
theorem dX5_holds_26 : decode cX5_holds 26 = .ok (.iconst 1, 1) := by decide +kernel
theorem dX5_holds_27 : decode cX5_holds 27 = .ok (.goto 4, 3) := by decide +kernel
theorem dX5_holds_30 : decode cX5_holds 30 = .ok (.iconst 0, 1) := by decide +kernel
theorem dX5_holds_31 : decode cX5_holds 31 = .ok (.ireturn, 1) := by decide +kernel
def X5_holds (i0 : Nat) (v1 : Int32) (v2 : Int32) (M : Mem) : Int32 := (if v2 < 0 then 0 else (if v1 < 0 then 0 else (if (M 5 i0 2) < v2 then 0 else (if ((M 5 i0 2) - v2) < v1 then 0 else 1))))
set_option maxRecDepth 100000 in
set_option maxHeartbeats 4000000 in
theorem X5_holds_ok  {i0 : Nat} {v1 : Int32} {v2 : Int32} {M N : Mem} {res : Int32} (hi0 : i0 < 4) (h : X5_holds i0 v1 v2 M = res) : Spec mt_X5_holds 0 [.inr (.inr (5, i0)), .inl v1, .inl v2] (M, N) (some (.inl res)) (M, N) := by
  unfold X5_holds at h
  refine Spec_of_G (by decide) rfl (Nat.le_of_ble_eq_true rfl) ?_
  refine G_sub [(0, .inr (.inr (5, i0))), (1, .inl v1), (2, .inl v2)] [0, 1, 2] rfl ?_
  refine G_iload_n dX5_holds_0 rfl ?_
  refine G_if_lt (tgt := 30) dX5_holds_1 (by decide) (fun hc1 => ?_) (fun hc1 => ?_)
  · replace h := (if_pos hc1).symm.trans h
    refine G_iconst (v := 0) dX5_holds_30 (by decide) ?_
    subst h
    exact G_ret dX5_holds_31 (Or.inl rfl) rfl rfl
  · replace h := (if_neg hc1).symm.trans h
    refine G_iload_n dX5_holds_4 rfl ?_
    refine G_if_lt (tgt := 30) dX5_holds_5 (by decide) (fun hc2 => ?_) (fun hc2 => ?_)
    · replace h := (if_pos hc2).symm.trans h
      refine G_iconst (v := 0) dX5_holds_30 (by decide) ?_
      subst h
      exact G_ret dX5_holds_31 (Or.inl rfl) rfl rfl
    · replace h := (if_neg hc2).symm.trans h
      refine G_iload_n dX5_holds_8 rfl ?_
      refine G_aload_n dX5_holds_9 rfl ?_
      refine fg_X5_19 (v := (M 5 i0 2)) rfl rfl hi0 dX5_holds_10 ?_
      refine G_icmp_gt (tgt := 30) dX5_holds_13 (by decide) (fun hc3 => ?_) (fun hc3 => ?_)
      · replace h := (if_pos hc3).symm.trans h
        refine G_iconst (v := 0) dX5_holds_30 (by decide) ?_
        subst h
        exact G_ret dX5_holds_31 (Or.inl rfl) rfl rfl
      · replace h := (if_neg hc3).symm.trans h
        refine G_iload_n dX5_holds_16 rfl ?_
        refine G_aload_n dX5_holds_17 rfl ?_
        refine fg_X5_19 (v := (M 5 i0 2)) rfl rfl hi0 dX5_holds_18 ?_
        refine G_iload_n dX5_holds_21 rfl ?_
        refine G_isub dX5_holds_22 ?_
        refine G_icmp_gt (tgt := 30) dX5_holds_23 (by decide) (fun hc4 => ?_) (fun hc4 => ?_)
        · replace h := (if_pos hc4).symm.trans h
          refine G_iconst (v := 0) dX5_holds_30 (by decide) ?_
          subst h
          exact G_ret dX5_holds_31 (Or.inl rfl) rfl rfl
        · replace h := (if_neg hc4).symm.trans h
          refine G_iconst (v := 1) dX5_holds_26 (by decide) ?_
          refine G_goto (tgt := 31) dX5_holds_27 (by decide) ?_
          subst h
          exact G_ret dX5_holds_31 (Or.inr rfl) rfl rfl
theorem X5_holds_z {i0 : Nat} {v1 : Int32} {v2 : Int32} {M : Mem} : X5_holds i0 v1 v2 M = 0 ∨ X5_holds i0 v1 v2 M = 1 := by
  unfold X5_holds
  (repeat' split) <;> first | exact Or.inl rfl | exact Or.inr rfl | exact X8_in_z

theorem dX0_copy_0 : decode cX0_copy 0 = .ok (.aload_n 1, 1) := by decide +kernel
theorem dX0_copy_1 : decode cX0_copy 1 = .ok (.getfield 9, 3) := by decide +kernel
theorem dX0_copy_4 : decode cX0_copy 4 = .ok (.iconst 0, 1) := by decide +kernel
theorem dX0_copy_5 : decode cX0_copy 5 = .ok (.aload_n 0, 1) := by decide +kernel
theorem dX0_copy_6 : decode cX0_copy 6 = .ok (.getfield 9, 3) := by decide +kernel
theorem dX0_copy_9 : decode cX0_copy 9 = .ok (.iconst 0, 1) := by decide +kernel
theorem dX0_copy_10 : decode cX0_copy 10 = .ok (.bipush 50, 2) := by decide +kernel
theorem dX0_copy_12 : decode cX0_copy 12 = .ok (.invokestatic 23, 3) := by decide +kernel
theorem dX0_copy_15 : decode cX0_copy 15 = .ok (.aload_n 1, 1) := by decide +kernel
theorem dX0_copy_16 : decode cX0_copy 16 = .ok (.getfield 15, 3) := by decide +kernel
theorem dX0_copy_19 : decode cX0_copy 19 = .ok (.iconst 0, 1) := by decide +kernel
theorem dX0_copy_20 : decode cX0_copy 20 = .ok (.aload_n 0, 1) := by decide +kernel
theorem dX0_copy_21 : decode cX0_copy 21 = .ok (.getfield 15, 3) := by decide +kernel
theorem dX0_copy_24 : decode cX0_copy 24 = .ok (.iconst 0, 1) := by decide +kernel
theorem dX0_copy_25 : decode cX0_copy 25 = .ok (.bipush 20, 2) := by decide +kernel
theorem dX0_copy_27 : decode cX0_copy 27 = .ok (.invokestatic 23, 3) := by decide +kernel
theorem dX0_copy_30 : decode cX0_copy 30 = .ok (.aload_n 0, 1) := by decide +kernel
theorem dX0_copy_31 : decode cX0_copy 31 = .ok (.aload_n 1, 1) := by decide +kernel
theorem dX0_copy_32 : decode cX0_copy 32 = .ok (.getfield 29, 3) := by decide +kernel
theorem dX0_copy_35 : decode cX0_copy 35 = .ok (.putfield 29, 3) := by decide +kernel
theorem dX0_copy_38 : decode cX0_copy 38 = .ok (.aload_n 0, 1) := by decide +kernel
theorem dX0_copy_39 : decode cX0_copy 39 = .ok (.aload_n 1, 1) := by decide +kernel
theorem dX0_copy_40 : decode cX0_copy 40 = .ok (.getfield 32, 3) := by decide +kernel
theorem dX0_copy_43 : decode cX0_copy 43 = .ok (.putfield 32, 3) := by decide +kernel
theorem dX0_copy_46 : decode cX0_copy 46 = .ok (.aload_n 0, 1) := by decide +kernel
theorem dX0_copy_47 : decode cX0_copy 47 = .ok (.aload_n 1, 1) := by decide +kernel
theorem dX0_copy_48 : decode cX0_copy 48 = .ok (.getfield 19, 3) := by decide +kernel
theorem dX0_copy_51 : decode cX0_copy 51 = .ok (.putfield 19, 3) := by decide +kernel
theorem dX0_copy_54 : decode cX0_copy 54 = .ok (.return_, 1) := by decide +kernel
def X0_copy (i0 : Nat) (i1 : Nat) (M : Mem) : Option (Mem) := (if cpok (0 : Int32) (0 : Int32) (50 : Int32) 50 50 = true then (if cpok (0 : Int32) (0 : Int32) (20 : Int32) 20 20 = true then (some (up3 (up3 (up3 (cp3 (cp3 M 8 i1 0 8 i0 0 50) 9 i1 0 9 i0 0 20) 0 i0 2 (M 0 i1 2)) 0 i0 3 (M 0 i1 3)) 0 i0 4 (M 0 i1 4))) else none) else none)
set_option maxRecDepth 100000 in
set_option maxHeartbeats 4000000 in
theorem X0_copy_ok  {i0 : Nat} {i1 : Nat} {M N : Mem} {res : Mem} (hi0 : i0 < 2) (hi1 : i1 < 2) (h : X0_copy i0 i1 M = some res) : Spec mt_X0_copy 1 [.inr (.inr (0, i0)), .inr (.inr (0, i1))] (M, N) none (res, N) := by
  unfold X0_copy at h
  refine Spec_of_G (by decide) rfl (Nat.le_of_ble_eq_true rfl) ?_
  refine G_sub [(0, .inr (.inr (0, i0))), (1, .inr (.inr (0, i1)))] [0, 1] rfl ?_
  refine G_aload_n dX0_copy_0 rfl ?_
  refine fg_X0_9 rfl hi1 dX0_copy_1 ?_
  refine G_iconst (v := 0) dX0_copy_4 (by decide) ?_
  refine G_aload_n dX0_copy_5 rfl ?_
  refine fg_X0_9 rfl hi0 dX0_copy_6 ?_
  refine G_iconst (v := 0) dX0_copy_9 (by decide) ?_
  refine G_bipush (v := 50) dX0_copy_10 (by decide) ?_
  obtain ⟨hb1, h⟩ := chk h
  refine G_copy (M2 := ((cp3 M 8 i1 0 8 i0 0 50), N)) ml_X0_23 na_copy st_copy in_System (by decide) (show i1 < 2 from hi1) (by decide) (show i0 < 2 from hi0) (by decide) (by decide) (by decide) hb1 (by decide) rfl rfl dX0_copy_12 ?_
  refine G_aload_n dX0_copy_15 rfl ?_
  refine fg_X0_15 rfl hi1 dX0_copy_16 ?_
  refine G_iconst (v := 0) dX0_copy_19 (by decide) ?_
  refine G_aload_n dX0_copy_20 rfl ?_
  refine fg_X0_15 rfl hi0 dX0_copy_21 ?_
  refine G_iconst (v := 0) dX0_copy_24 (by decide) ?_
  refine G_bipush (v := 20) dX0_copy_25 (by decide) ?_
  obtain ⟨hb2, h⟩ := chk h
  refine G_copy (M2 := ((cp3 (cp3 M 8 i1 0 8 i0 0 50) 9 i1 0 9 i0 0 20), N)) ml_X0_23 na_copy st_copy in_System (by decide) (show i1 < 2 from hi1) (by decide) (show i0 < 2 from hi0) (by decide) (by decide) (by decide) hb2 (by decide) rfl rfl dX0_copy_27 ?_
  refine G_aload_n dX0_copy_30 rfl ?_
  refine G_aload_n dX0_copy_31 rfl ?_
  refine fg_X0_29 (v := (M 0 i1 2)) ((cp3_f (by decide)).trans (cp3_f (by decide))) rfl hi1 dX0_copy_32 ?_
  refine fp_X0_29 rfl hi0 dX0_copy_35 ?_
  refine G_aload_n dX0_copy_38 rfl ?_
  refine G_aload_n dX0_copy_39 rfl ?_
  refine fg_X0_32 (v := (M 0 i1 3)) ((up3_k (by decide)).trans ((cp3_f (by decide)).trans (cp3_f (by decide)))) rfl hi1 dX0_copy_40 ?_
  refine fp_X0_32 rfl hi0 dX0_copy_43 ?_
  refine G_aload_n dX0_copy_46 rfl ?_
  refine G_aload_n dX0_copy_47 rfl ?_
  refine fg_X0_19 (v := (M 0 i1 4)) ((up3_k (by decide)).trans ((up3_k (by decide)).trans ((cp3_f (by decide)).trans (cp3_f (by decide))))) rfl hi1 dX0_copy_48 ?_
  refine fp_X0_19 rfl hi0 dX0_copy_51 ?_
  obtain rfl := Option.some.inj h
  exact G_ret dX0_copy_54 trivial rfl rfl
end
section
theorem dX1_potsIn_0 : decode cX1_potsIn 0 = .ok (.iconst 0, 1) := by decide +kernel
theorem dX1_potsIn_1 : decode cX1_potsIn 1 = .ok (.istore_n 2, 1) := by decide +kernel
theorem dX1_potsIn_2 : decode cX1_potsIn 2 = .ok (.iconst 0, 1) := by decide +kernel
theorem dX1_potsIn_3 : decode cX1_potsIn 3 = .ok (.istore_n 3, 1) := by decide +kernel
theorem dX1_potsIn_4 : decode cX1_potsIn 4 = .ok (.iload_n 3, 1) := by decide +kernel
theorem dX1_potsIn_5 : decode cX1_potsIn 5 = .ok (.aload_n 0, 1) := by decide +kernel
theorem dX1_potsIn_6 : decode cX1_potsIn 6 = .ok (.getfield 47, 3) := by decide +kernel
theorem dX1_potsIn_9 : decode cX1_potsIn 9 = .ok (.if_icmp .ge 28, 3) := by decide +kernel
theorem dX1_potsIn_12 : decode cX1_potsIn 12 = .ok (.aload_n 0, 1) := by decide +kernel
theorem dX1_potsIn_13 : decode cX1_potsIn 13 = .ok (.getfield 20, 3) := by decide +kernel
theorem dX1_potsIn_16 : decode cX1_potsIn 16 = .ok (.iload_n 3, 1) := by decide +kernel
theorem dX1_potsIn_17 : decode cX1_potsIn 17 = .ok (.aaload, 1) := by decide +kernel
theorem dX1_potsIn_18 : decode cX1_potsIn 18 = .ok (.getfield 85, 3) := by decide +kernel
theorem dX1_potsIn_21 : decode cX1_potsIn 21 = .ok (.iload_n 1, 1) := by decide +kernel
theorem dX1_potsIn_22 : decode cX1_potsIn 22 = .ok (.if_icmp .ne 9, 3) := by decide +kernel
theorem dX1_potsIn_25 : decode cX1_potsIn 25 = .ok (.iload_n 2, 1) := by decide +kernel
theorem dX1_potsIn_26 : decode cX1_potsIn 26 = .ok (.iconst 1, 1) := by decide +kernel
theorem dX1_potsIn_27 : decode cX1_potsIn 27 = .ok (.iload_n 3, 1) := by decide +kernel
theorem dX1_potsIn_28 : decode cX1_potsIn 28 = .ok (.ishl, 1) := by decide +kernel
theorem dX1_potsIn_29 : decode cX1_potsIn 29 = .ok (.ior, 1) := by decide +kernel
theorem dX1_potsIn_30 : decode cX1_potsIn 30 = .ok (.istore_n 2, 1) := by decide +kernel
theorem dX1_potsIn_31 : decode cX1_potsIn 31 = .ok (.iinc 3 1, 3) := by decide +kernel
theorem dX1_potsIn_34 : decode cX1_potsIn 34 = .ok (.goto (-30), 3) := by decide +kernel
theorem dX1_potsIn_37 : decode cX1_potsIn 37 = .ok (.iload_n 2, 1) := by decide +kernel
theorem dX1_potsIn_38 : decode cX1_potsIn 38 = .ok (.ireturn, 1) := by decide +kernel
def X1_potsIn_L4 : Nat → Nat → Int32 → Int32 → Int32 → Mem → Option (Int32)
  | 0, _, _, _, _, _ => none
  | fu + 1, i0, v1, v2, v3, M => (if v3 < (M 1 i0 5) then (if ib v3 10 = true then (if (M 3 (10 * i0 + v3.toNatClampNeg) 2) = v1 then (X1_potsIn_L4 fu i0 v1 (v2 ||| (1 <<< (v3 &&& 31))) (v3 + 1) M) else (X1_potsIn_L4 fu i0 v1 v2 (v3 + 1) M)) else none) else (some v2))
set_option maxRecDepth 100000 in
set_option maxHeartbeats 4000000 in
theorem X1_potsIn_L4_ok  {r : Option AV} {M' : MM} : ∀ (fu : Nat) (i0 : Nat) (v1 : Int32) (v2 : Int32) (v3 : Int32) (M N : Mem) {res : Int32} (hi0 : i0 < 3) (h : X1_potsIn_L4 fu i0 v1 v2 v3 M = some res) (K : G mt_X1_potsIn 0 r M' 37 [(2, .inl res)] [] (M, N)), G mt_X1_potsIn 0 r M' 4 [(0, .inr (.inr (1, i0))), (1, .inl v1), (2, .inl v2), (3, .inl v3)] [] (M, N) := by
  intro fu
  induction fu with
  | zero =>
    intro i0 v1 v2 v3 M N res hi0 h
    cases h
  | succ fu ih =>
    intro i0 v1 v2 v3 M N res hi0 h K
    replace h : (if v3 < (M 1 i0 5) then (if ib v3 10 = true then (if (M 3 (10 * i0 + v3.toNatClampNeg) 2) = v1 then (X1_potsIn_L4 fu i0 v1 (v2 ||| (1 <<< (v3 &&& 31))) (v3 + 1) M) else (X1_potsIn_L4 fu i0 v1 v2 (v3 + 1) M)) else none) else (some v2)) = some res := h
    refine G_iload_n dX1_potsIn_4 rfl ?_
    refine G_aload_n dX1_potsIn_5 rfl ?_
    refine fg_X1_47 (v := (M 1 i0 5)) rfl rfl hi0 dX1_potsIn_6 ?_
    refine G_icmp_ge (tgt := 37) dX1_potsIn_9 (by decide) (fun hc1 => ?_) (fun hc1 => ?_)
    · replace h := (if_neg hc1).symm.trans h
      refine G_sub [(2, .inl v2)] [2] rfl ?_
      obtain rfl := Option.some.inj h
      exact K
    · replace h := (if_pos hc1).symm.trans h
      refine G_aload_n dX1_potsIn_12 rfl ?_
      refine fg_X1_20 rfl hi0 dX1_potsIn_13 ?_
      refine G_iload_n dX1_potsIn_16 rfl ?_
      obtain ⟨hb1, h⟩ := chk h
      have lhb1 := ib_lt hb1
      refine G_aald3 (by decide) (show i0 < 3 from hi0) (by decide) rfl hb1 dX1_potsIn_17 ?_
      refine fg_X1_85 (v := (M 3 (10 * i0 + v3.toNatClampNeg) 2)) rfl rfl (by omega) dX1_potsIn_18 ?_
      refine G_iload_n dX1_potsIn_21 rfl ?_
      refine G_icmp_ne (tgt := 31) dX1_potsIn_22 (by decide) (fun hc2 => ?_) (fun hc2 => ?_)
      · replace h := (if_neg hc2).symm.trans h
        refine G_iinc (v := (v3 + 1)) (L2 := [(3, .inl (v3 + 1)), (0, .inr (.inr (1, i0))), (1, .inl v1), (2, .inl v2)]) dX1_potsIn_31 rfl (by first | rfl | (show _ + Int32.ofInt _ = _; rfl)) (by decide) rfl ?_
        refine G_goto (tgt := 4) dX1_potsIn_34 (by decide) ?_
        refine G_sub [(0, .inr (.inr (1, i0))), (1, .inl v1), (2, .inl v2), (3, .inl (v3 + 1))] [1, 2, 3, 0] rfl ?_
        exact ih i0 v1 v2 (v3 + 1) M _ hi0 h K
      · replace h := (if_pos hc2).symm.trans h
        refine G_iload_n dX1_potsIn_25 rfl ?_
        refine G_iconst (v := 1) dX1_potsIn_26 (by decide) ?_
        refine G_iload_n dX1_potsIn_27 rfl ?_
        refine G_ishl dX1_potsIn_28 ?_
        refine G_ior dX1_potsIn_29 ?_
        refine G_istore_n (L2 := [(2, .inl (v2 ||| (1 <<< (v3 &&& 31)))), (0, .inr (.inr (1, i0))), (1, .inl v1), (3, .inl v3)]) dX1_potsIn_30 (by decide) rfl ?_
        refine G_iinc (v := (v3 + 1)) (L2 := [(3, .inl (v3 + 1)), (2, .inl (v2 ||| (1 <<< (v3 &&& 31)))), (0, .inr (.inr (1, i0))), (1, .inl v1)]) dX1_potsIn_31 rfl (by first | rfl | (show _ + Int32.ofInt _ = _; rfl)) (by decide) rfl ?_
        refine G_goto (tgt := 4) dX1_potsIn_34 (by decide) ?_
        refine G_sub [(0, .inr (.inr (1, i0))), (1, .inl v1), (2, .inl (v2 ||| (1 <<< (v3 &&& 31)))), (3, .inl (v3 + 1))] [2, 3, 1, 0] rfl ?_
        exact ih i0 v1 (v2 ||| (1 <<< (v3 &&& 31))) (v3 + 1) M _ hi0 h K

def X1_potsIn (i0 : Nat) (v1 : Int32) (M : Mem) : Option (Int32) := ((X1_potsIn_L4 400 i0 v1 0 0 M).bind fun q2 => (some q2))
set_option maxRecDepth 100000 in
set_option maxHeartbeats 4000000 in
theorem X1_potsIn_ok  {i0 : Nat} {v1 : Int32} {M N : Mem} {res : Int32} (hi0 : i0 < 3) (h : X1_potsIn i0 v1 M = some res) : Spec mt_X1_potsIn 0 [.inr (.inr (1, i0)), .inl v1] (M, N) (some (.inl res)) (M, N) := by
  unfold X1_potsIn at h
  refine Spec_of_G (by decide) rfl (Nat.le_of_ble_eq_true rfl) ?_
  refine G_sub [(0, .inr (.inr (1, i0))), (1, .inl v1)] [0, 1] rfl ?_
  refine G_iconst (v := 0) dX1_potsIn_0 (by decide) ?_
  refine G_istore_n (L2 := [(2, .inl 0), (0, .inr (.inr (1, i0))), (1, .inl v1)]) dX1_potsIn_1 (by decide) rfl ?_
  refine G_iconst (v := 0) dX1_potsIn_2 (by decide) ?_
  refine G_istore_n (L2 := [(3, .inl 0), (2, .inl 0), (0, .inr (.inr (1, i0))), (1, .inl v1)]) dX1_potsIn_3 (by decide) rfl ?_
  refine G_sub [(0, .inr (.inr (1, i0))), (1, .inl v1), (2, .inl 0), (3, .inl 0)] [2, 3, 1, 0] rfl ?_
  obtain ⟨q2, hq2, h⟩ := bnd h
  refine X1_potsIn_L4_ok  400 i0 v1 0 0 M _ hi0 hq2 ?_
  refine G_iload_n dX1_potsIn_37 rfl ?_
  obtain rfl := Option.some.inj h
  exact G_ret dX1_potsIn_38 trivial rfl rfl

theorem dX1_has_0 : decode cX1_has 0 = .ok (.iload_n 1, 1) := by decide +kernel
theorem dX1_has_1 : decode cX1_has 1 = .ok (.ifCond .lt 15, 3) := by decide +kernel
theorem dX1_has_4 : decode cX1_has 4 = .ok (.iload_n 1, 1) := by decide +kernel
theorem dX1_has_5 : decode cX1_has 5 = .ok (.aload_n 0, 1) := by decide +kernel
theorem dX1_has_6 : decode cX1_has 6 = .ok (.getfield 47, 3) := by decide +kernel
theorem dX1_has_9 : decode cX1_has 9 = .ok (.if_icmp .ge 7, 3) := by decide +kernel
theorem dX1_has_12 : decode cX1_has 12 = .ok (.iconst 1, 1) := by decide +kernel
theorem dX1_has_13 : decode cX1_has 13 = .ok (.goto 4, 3) := by decide +kernel
theorem dX1_has_16 : decode cX1_has 16 = .ok (.iconst 0, 1) := by decide +kernel
theorem dX1_has_17 : decode cX1_has 17 = .ok (.ireturn, 1) := by decide +kernel
def X1_has (i0 : Nat) (v1 : Int32) (M : Mem) : Int32 := (if v1 < 0 then 0 else (if v1 < (M 1 i0 5) then 1 else 0))
set_option maxRecDepth 100000 in
set_option maxHeartbeats 4000000 in
theorem X1_has_ok  {i0 : Nat} {v1 : Int32} {M N : Mem} {res : Int32} (hi0 : i0 < 3) (h : X1_has i0 v1 M = res) : Spec mt_X1_has 0 [.inr (.inr (1, i0)), .inl v1] (M, N) (some (.inl res)) (M, N) := by
  unfold X1_has at h
  refine Spec_of_G (by decide) rfl (Nat.le_of_ble_eq_true rfl) ?_
  refine G_sub [(0, .inr (.inr (1, i0))), (1, .inl v1)] [0, 1] rfl ?_
  refine G_iload_n dX1_has_0 rfl ?_
  refine G_if_lt (tgt := 16) dX1_has_1 (by decide) (fun hc1 => ?_) (fun hc1 => ?_)
  · replace h := (if_pos hc1).symm.trans h
    refine G_iconst (v := 0) dX1_has_16 (by decide) ?_
    subst h
    exact G_ret dX1_has_17 (Or.inl rfl) rfl rfl
  · replace h := (if_neg hc1).symm.trans h
    refine G_iload_n dX1_has_4 rfl ?_
    refine G_aload_n dX1_has_5 rfl ?_
    refine fg_X1_47 (v := (M 1 i0 5)) rfl rfl hi0 dX1_has_6 ?_
    refine G_icmp_ge (tgt := 16) dX1_has_9 (by decide) (fun hc2 => ?_) (fun hc2 => ?_)
    · replace h := (if_neg hc2).symm.trans h
      refine G_iconst (v := 0) dX1_has_16 (by decide) ?_
      subst h
      exact G_ret dX1_has_17 (Or.inl rfl) rfl rfl
    · replace h := (if_pos hc2).symm.trans h
      refine G_iconst (v := 1) dX1_has_12 (by decide) ?_
      refine G_goto (tgt := 17) dX1_has_13 (by decide) ?_
      subst h
      exact G_ret dX1_has_17 (Or.inr rfl) rfl rfl
theorem X1_has_z {i0 : Nat} {v1 : Int32} {M : Mem} : X1_has i0 v1 M = 0 ∨ X1_has i0 v1 M = 1 := by
  unfold X1_has
  (repeat' split) <;> first | exact Or.inl rfl | exact Or.inr rfl | exact X8_in_z

theorem dX4_next_0 : decode cX4_next 0 = .ok (.aload_n 0, 1) := by decide +kernel
theorem dX4_next_1 : decode cX4_next 1 = .ok (.getfield 26, 3) := by decide +kernel
theorem dX4_next_4 : decode cX4_next 4 = .ok (.aload_n 0, 1) := by decide +kernel
theorem dX4_next_5 : decode cX4_next 5 = .ok (.getfield 18, 3) := by decide +kernel
theorem dX4_next_8 : decode cX4_next 8 = .ok (.getfield 36, 3) := by decide +kernel
theorem dX4_next_11 : decode cX4_next 11 = .ok (.if_icmp .ge 27, 3) := by decide +kernel
theorem dX4_next_14 : decode cX4_next 14 = .ok (.aload_n 0, 1) := by decide +kernel
theorem dX4_next_15 : decode cX4_next 15 = .ok (.getfield 26, 3) := by decide +kernel
theorem dX4_next_18 : decode cX4_next 18 = .ok (.bipush 50, 2) := by decide +kernel
theorem dX4_next_20 : decode cX4_next 20 = .ok (.if_icmp .ge 18, 3) := by decide +kernel
theorem dX4_next_23 : decode cX4_next 23 = .ok (.aload_n 0, 1) := by decide +kernel
theorem dX4_next_24 : decode cX4_next 24 = .ok (.getfield 18, 3) := by decide +kernel
theorem dX4_next_27 : decode cX4_next 27 = .ok (.getfield 41, 3) := by decide +kernel
theorem dX4_next_30 : decode cX4_next 30 = .ok (.aload_n 0, 1) := by decide +kernel
theorem dX4_next_31 : decode cX4_next 31 = .ok (.getfield 26, 3) := by decide +kernel
theorem dX4_next_34 : decode cX4_next 34 = .ok (.baload, 1) := by decide +kernel
theorem dX4_next_35 : decode cX4_next 35 = .ok (.goto 4, 3) := by decide +kernel
theorem dX4_next_38 : decode cX4_next 38 = .ok (.iconst 0, 1) := by decide +kernel
theorem dX4_next_39 : decode cX4_next 39 = .ok (.ireturn, 1) := by decide +kernel
def X4_next  (M : Mem) : Option (Int32) := (if (M 4 0 3) < (M 0 0 2) then (if (M 4 0 3) < 50 then (if ib (M 4 0 3) 50 = true then (some (nbB (M 8 0 ((M 4 0 3).toNatClampNeg)))) else none) else (some 0)) else (some 0))
set_option maxRecDepth 100000 in
set_option maxHeartbeats 4000000 in
theorem X4_next_ok  {M N : Mem} {res : Int32} (h : X4_next M = some res) : Spec mt_X4_next 0 [.inr (.inr (4, 0))] (M, N) (some (.inl res)) (M, N) := by
  unfold X4_next at h
  refine Spec_of_G (by decide) rfl (Nat.le_of_ble_eq_true rfl) ?_
  refine G_sub [(0, .inr (.inr (4, 0)))] [0] rfl ?_
  refine G_aload_n dX4_next_0 rfl ?_
  refine fg_X4_26 (v := (M 4 0 3)) rfl rfl (by decide) dX4_next_1 ?_
  refine G_aload_n dX4_next_4 rfl ?_
  refine fg_X4_18 rfl (by decide) dX4_next_5 ?_
  refine fg_X4_36 (v := (M 0 0 2)) rfl rfl (by decide) dX4_next_8 ?_
  refine G_icmp_ge (tgt := 38) dX4_next_11 (by decide) (fun hc1 => ?_) (fun hc1 => ?_)
  · replace h := (if_neg hc1).symm.trans h
    refine G_iconst (v := 0) dX4_next_38 (by decide) ?_
    obtain rfl := Option.some.inj h
    exact G_ret dX4_next_39 trivial rfl rfl
  · replace h := (if_pos hc1).symm.trans h
    refine G_aload_n dX4_next_14 rfl ?_
    refine fg_X4_26 (v := (M 4 0 3)) rfl rfl (by decide) dX4_next_15 ?_
    refine G_bipush (v := 50) dX4_next_18 (by decide) ?_
    refine G_icmp_ge (tgt := 38) dX4_next_20 (by decide) (fun hc2 => ?_) (fun hc2 => ?_)
    · replace h := (if_neg hc2).symm.trans h
      refine G_iconst (v := 0) dX4_next_38 (by decide) ?_
      obtain rfl := Option.some.inj h
      exact G_ret dX4_next_39 trivial rfl rfl
    · replace h := (if_pos hc2).symm.trans h
      refine G_aload_n dX4_next_23 rfl ?_
      refine fg_X4_18 rfl (by decide) dX4_next_24 ?_
      refine fg_X4_41 rfl (by decide) dX4_next_27 ?_
      refine G_aload_n dX4_next_30 rfl ?_
      refine fg_X4_26 (v := (M 4 0 3)) rfl rfl (by decide) dX4_next_31 ?_
      obtain ⟨hb1, h⟩ := chk h
      have lhb1 := ib_lt hb1
      refine al_8 (kk := (M 4 0 3).toNatClampNeg) (v := (nbB (M 8 0 ((M 4 0 3).toNatClampNeg)))) (by decide) hb1 rfl rfl dX4_next_34 ?_
      refine G_goto (tgt := 39) dX4_next_35 (by decide) ?_
      obtain rfl := Option.some.inj h
      exact G_ret dX4_next_39 trivial rfl rfl

theorem dX4_isDigit_0 : decode cX4_isDigit 0 = .ok (.iload_n 0, 1) := by decide +kernel
theorem dX4_isDigit_1 : decode cX4_isDigit 1 = .ok (.bipush 48, 2) := by decide +kernel
theorem dX4_isDigit_3 : decode cX4_isDigit 3 = .ok (.if_icmp .lt 13, 3) := by decide +kernel
theorem dX4_isDigit_6 : decode cX4_isDigit 6 = .ok (.iload_n 0, 1) := by decide +kernel
theorem dX4_isDigit_7 : decode cX4_isDigit 7 = .ok (.bipush 57, 2) := by decide +kernel
theorem dX4_isDigit_9 : decode cX4_isDigit 9 = .ok (.if_icmp .gt 7, 3) := by decide +kernel
theorem dX4_isDigit_12 : decode cX4_isDigit 12 = .ok (.iconst 1, 1) := by decide +kernel
theorem dX4_isDigit_13 : decode cX4_isDigit 13 = .ok (.goto 4, 3) := by decide +kernel
theorem dX4_isDigit_16 : decode cX4_isDigit 16 = .ok (.iconst 0, 1) := by decide +kernel
theorem dX4_isDigit_17 : decode cX4_isDigit 17 = .ok (.ireturn, 1) := by decide +kernel
def X4_isDigit (v0 : Int32) : Int32 := (if v0 < 48 then 0 else (if 57 < v0 then 0 else 1))
set_option maxRecDepth 100000 in
set_option maxHeartbeats 4000000 in
theorem X4_isDigit_ok  {v0 : Int32} {MM0 : MM} {res : Int32} (h : X4_isDigit v0 = res) : Spec mt_X4_isDigit 0 [.inl v0] MM0 (some (.inl res)) MM0 := by
  unfold X4_isDigit at h
  refine Spec_of_G (by decide) rfl (Nat.le_of_ble_eq_true rfl) ?_
  refine G_sub [(0, .inl v0)] [0] rfl ?_
  refine G_iload_n dX4_isDigit_0 rfl ?_
  refine G_bipush (v := 48) dX4_isDigit_1 (by decide) ?_
  refine G_icmp_lt (tgt := 16) dX4_isDigit_3 (by decide) (fun hc1 => ?_) (fun hc1 => ?_)
  · replace h := (if_pos hc1).symm.trans h
    refine G_iconst (v := 0) dX4_isDigit_16 (by decide) ?_
    subst h
    exact G_ret dX4_isDigit_17 (Or.inl rfl) rfl rfl
  · replace h := (if_neg hc1).symm.trans h
    refine G_iload_n dX4_isDigit_6 rfl ?_
    refine G_bipush (v := 57) dX4_isDigit_7 (by decide) ?_
    refine G_icmp_gt (tgt := 16) dX4_isDigit_9 (by decide) (fun hc2 => ?_) (fun hc2 => ?_)
    · replace h := (if_pos hc2).symm.trans h
      refine G_iconst (v := 0) dX4_isDigit_16 (by decide) ?_
      subst h
      exact G_ret dX4_isDigit_17 (Or.inl rfl) rfl rfl
    · replace h := (if_neg hc2).symm.trans h
      refine G_iconst (v := 1) dX4_isDigit_12 (by decide) ?_
      refine G_goto (tgt := 17) dX4_isDigit_13 (by decide) ?_
      subst h
      exact G_ret dX4_isDigit_17 (Or.inr rfl) rfl rfl
theorem X4_isDigit_z {v0 : Int32} : X4_isDigit v0 = 0 ∨ X4_isDigit v0 = 1 := by
  unfold X4_isDigit
  (repeat' split) <;> first | exact Or.inl rfl | exact Or.inr rfl | exact X8_in_z

theorem dX4_readNumber_0 : decode cX4_readNumber 0 = .ok (.iconst 0, 1) := by decide +kernel
theorem dX4_readNumber_1 : decode cX4_readNumber 1 = .ok (.istore_n 1, 1) := by decide +kernel
theorem dX4_readNumber_2 : decode cX4_readNumber 2 = .ok (.iconst 0, 1) := by decide +kernel
theorem dX4_readNumber_3 : decode cX4_readNumber 3 = .ok (.istore_n 2, 1) := by decide +kernel
theorem dX4_readNumber_4 : decode cX4_readNumber 4 = .ok (.iload_n 2, 1) := by decide +kernel
theorem dX4_readNumber_5 : decode cX4_readNumber 5 = .ok (.iconst 4, 1) := by decide +kernel
theorem dX4_readNumber_6 : decode cX4_readNumber 6 = .ok (.if_icmp .ge 42, 3) := by decide +kernel
theorem dX4_readNumber_9 : decode cX4_readNumber 9 = .ok (.aload_n 0, 1) := by decide +kernel
theorem dX4_readNumber_10 : decode cX4_readNumber 10 = .ok (.invokevirtual 49, 3) := by decide +kernel
theorem dX4_readNumber_13 : decode cX4_readNumber 13 = .ok (.invokestatic 61, 3) := by decide +kernel
theorem dX4_readNumber_16 : decode cX4_readNumber 16 = .ok (.ifCond .eq 32, 3) := by decide +kernel
theorem dX4_readNumber_19 : decode cX4_readNumber 19 = .ok (.iload_n 1, 1) := by decide +kernel
theorem dX4_readNumber_20 : decode cX4_readNumber 20 = .ok (.bipush 10, 2) := by decide +kernel
theorem dX4_readNumber_22 : decode cX4_readNumber 22 = .ok (.imul, 1) := by decide +kernel
theorem dX4_readNumber_23 : decode cX4_readNumber 23 = .ok (.aload_n 0, 1) := by decide +kernel
theorem dX4_readNumber_24 : decode cX4_readNumber 24 = .ok (.invokevirtual 49, 3) := by decide +kernel
theorem dX4_readNumber_27 : decode cX4_readNumber 27 = .ok (.iadd, 1) := by decide +kernel
theorem dX4_readNumber_28 : decode cX4_readNumber 28 = .ok (.bipush 48, 2) := by decide +kernel
theorem dX4_readNumber_30 : decode cX4_readNumber 30 = .ok (.isub, 1) := by decide +kernel
theorem dX4_readNumber_31 : decode cX4_readNumber 31 = .ok (.istore_n 1, 1) := by decide +kernel
theorem dX4_readNumber_32 : decode cX4_readNumber 32 = .ok (.aload_n 0, 1) := by decide +kernel
theorem dX4_readNumber_33 : decode cX4_readNumber 33 = .ok (.dup, 1) := by decide +kernel
theorem dX4_readNumber_34 : decode cX4_readNumber 34 = .ok (.getfield 26, 3) := by decide +kernel
theorem dX4_readNumber_37 : decode cX4_readNumber 37 = .ok (.iconst 1, 1) := by decide +kernel
theorem dX4_readNumber_38 : decode cX4_readNumber 38 = .ok (.iadd, 1) := by decide +kernel
theorem dX4_readNumber_39 : decode cX4_readNumber 39 = .ok (.putfield 26, 3) := by decide +kernel
theorem dX4_readNumber_42 : decode cX4_readNumber 42 = .ok (.iinc 2 1, 3) := by decide +kernel
theorem dX4_readNumber_45 : decode cX4_readNumber 45 = .ok (.goto (-41), 3) := by decide +kernel
theorem dX4_readNumber_48 : decode cX4_readNumber 48 = .ok (.aload_n 0, 1) := by decide +kernel
theorem dX4_readNumber_49 : decode cX4_readNumber 49 = .ok (.getfield 12, 3) := by decide +kernel
theorem dX4_readNumber_52 : decode cX4_readNumber 52 = .ok (.iload_n 1, 1) := by decide +kernel
theorem dX4_readNumber_53 : decode cX4_readNumber 53 = .ok (.invokevirtual 57, 3) := by decide +kernel
theorem dX4_readNumber_56 : decode cX4_readNumber 56 = .ok (.return_, 1) := by decide +kernel
def X4_readNumber_L4 : Nat → Int32 → Int32 → Mem → Option (Int32 × Mem)
  | 0, _, _, _ => none
  | fu + 1, v1, v2, M => (if v2 < 4 then ((X4_next M).bind fun q1 => (if (X4_isDigit q1) = 0 then (some (v1, M)) else ((X4_next M).bind fun q2 => (X4_readNumber_L4 fu (((v1 * 10) + q2) - 48) (v2 + 1) (up3 M 4 0 3 ((M 4 0 3) + 1)))))) else (some (v1, M)))
set_option maxRecDepth 100000 in
set_option maxHeartbeats 4000000 in
theorem X4_readNumber_L4_ok  {r : Option AV} {M' : MM} : ∀ (fu : Nat) (v1 : Int32) (v2 : Int32) (M N : Mem) {res : Int32 × Mem} (h : X4_readNumber_L4 fu v1 v2 M = some res) (K : G mt_X4_readNumber 1 r M' 48 [(0, .inr (.inr (4, 0))), (1, .inl res.1)] [] (res.2, N)), G mt_X4_readNumber 1 r M' 4 [(0, .inr (.inr (4, 0))), (1, .inl v1), (2, .inl v2)] [] (M, N) := by
  intro fu
  induction fu with
  | zero =>
    intro v1 v2 M N res h
    cases h
  | succ fu ih =>
    intro v1 v2 M N res h K
    replace h : (if v2 < 4 then ((X4_next M).bind fun q1 => (if (X4_isDigit q1) = 0 then (some (v1, M)) else ((X4_next M).bind fun q2 => (X4_readNumber_L4 fu (((v1 * 10) + q2) - 48) (v2 + 1) (up3 M 4 0 3 ((M 4 0 3) + 1)))))) else (some (v1, M))) = some res := h
    refine G_iload_n dX4_readNumber_4 rfl ?_
    refine G_iconst (v := 4) dX4_readNumber_5 (by decide) ?_
    refine G_icmp_ge (tgt := 48) dX4_readNumber_6 (by decide) (fun hc1 => ?_) (fun hc1 => ?_)
    · replace h := (if_neg hc1).symm.trans h
      refine G_sub [(0, .inr (.inr (4, 0))), (1, .inl v1)] [0, 1] rfl ?_
      obtain rfl := Option.some.inj h
      exact K
    · replace h := (if_pos hc1).symm.trans h
      refine G_aload_n dX4_readNumber_9 rfl ?_
      obtain ⟨q1, hq1, h⟩ := bnd h
      refine G_callVv (T := TX4) (N := 4) (f := 4) (i := 0) (X4_next_ok hq1) ok_X4_next ml_X4_49 (by decide) rfl (by decide) (by decide) (by decide) rfl rfl (Nat.le_of_ble_eq_true rfl) dX4_readNumber_10 ?_
      refine G_callSv  (X4_isDigit_ok rfl) ok_X4_isDigit ml_X4_61 (by decide) rfl rfl (Nat.le_of_ble_eq_true rfl) dX4_readNumber_13 ?_
      refine G_if_eq (tgt := 48) dX4_readNumber_16 (by decide) (fun hc2 => ?_) (fun hc2 => ?_)
      · replace h := (if_pos hc2).symm.trans h
        refine G_sub [(0, .inr (.inr (4, 0))), (1, .inl v1)] [0, 1] rfl ?_
        obtain rfl := Option.some.inj h
        exact K
      · replace h := (if_neg hc2).symm.trans h
        refine G_iload_n dX4_readNumber_19 rfl ?_
        refine G_bipush (v := 10) dX4_readNumber_20 (by decide) ?_
        refine G_imul dX4_readNumber_22 ?_
        refine G_aload_n dX4_readNumber_23 rfl ?_
        obtain ⟨q2, hq2, h⟩ := bnd h
        refine G_callVv (T := TX4) (N := 4) (f := 4) (i := 0) (X4_next_ok hq2) ok_X4_next ml_X4_49 (by decide) rfl (by decide) (by decide) (by decide) rfl rfl (Nat.le_of_ble_eq_true rfl) dX4_readNumber_24 ?_
        refine G_iadd dX4_readNumber_27 ?_
        refine G_bipush (v := 48) dX4_readNumber_28 (by decide) ?_
        refine G_isub dX4_readNumber_30 ?_
        refine G_istore_n (L2 := [(1, .inl (((v1 * 10) + q2) - 48)), (0, .inr (.inr (4, 0))), (2, .inl v2)]) dX4_readNumber_31 (by decide) rfl ?_
        refine G_aload_n dX4_readNumber_32 rfl ?_
        refine G_dup rfl dX4_readNumber_33 ?_
        refine fg_X4_26 (v := (M 4 0 3)) rfl rfl (by decide) dX4_readNumber_34 ?_
        refine G_iconst (v := 1) dX4_readNumber_37 (by decide) ?_
        refine G_iadd dX4_readNumber_38 ?_
        refine fp_X4_26 rfl (by decide) dX4_readNumber_39 ?_
        refine G_iinc (v := (v2 + 1)) (L2 := [(2, .inl (v2 + 1)), (1, .inl (((v1 * 10) + q2) - 48)), (0, .inr (.inr (4, 0)))]) dX4_readNumber_42 rfl (by first | rfl | (show _ + Int32.ofInt _ = _; rfl)) (by decide) rfl ?_
        refine G_goto (tgt := 4) dX4_readNumber_45 (by decide) ?_
        refine G_sub [(0, .inr (.inr (4, 0))), (1, .inl (((v1 * 10) + q2) - 48)), (2, .inl (v2 + 1))] [2, 1, 0] rfl ?_
        exact ih (((v1 * 10) + q2) - 48) (v2 + 1) (up3 M 4 0 3 ((M 4 0 3) + 1)) _  h K

def X4_readNumber_J48 (v1 : Int32) (M : Mem) : Option (Mem) := ((X2_add 6 v1 M).bind fun q4 => (some q4))
set_option maxRecDepth 100000 in
set_option maxHeartbeats 4000000 in
theorem X4_readNumber_J48_ok  {v1 : Int32} {M N : Mem} {res : Mem} (h : X4_readNumber_J48 v1 M = some res) : G mt_X4_readNumber 1 none (res, N) 48 [(0, .inr (.inr (4, 0))), (1, .inl v1)] [] (M, N) := by
  unfold X4_readNumber_J48 at h
  refine G_aload_n dX4_readNumber_48 rfl ?_
  refine fg_X4_12 rfl (by decide) dX4_readNumber_49 ?_
  refine G_iload_n dX4_readNumber_52 rfl ?_
  obtain ⟨q4, hq4, h⟩ := bnd h
  refine G_callVn (T := TX2) (N := 3) (f := 2) (i := 6) (X2_add_ok (by decide) hq4) ok_X2_add ml_X4_57 (by decide) rfl (by decide) (by decide) (by decide) rfl rfl (Nat.le_of_ble_eq_true rfl) dX4_readNumber_53 ?_
  obtain rfl := Option.some.inj h
  exact G_ret dX4_readNumber_56 trivial rfl rfl

def X4_readNumber  (M : Mem) : Option (Mem) := ((X4_readNumber_L4 400 0 0 M).bind fun q3 => (X4_readNumber_J48 q3.1 q3.2))
set_option maxRecDepth 100000 in
set_option maxHeartbeats 4000000 in
theorem X4_readNumber_ok  {M N : Mem} {res : Mem} (h : X4_readNumber M = some res) : Spec mt_X4_readNumber 1 [.inr (.inr (4, 0))] (M, N) none (res, N) := by
  unfold X4_readNumber at h
  refine Spec_of_G (by decide) rfl (Nat.le_of_ble_eq_true rfl) ?_
  refine G_sub [(0, .inr (.inr (4, 0)))] [0] rfl ?_
  refine G_iconst (v := 0) dX4_readNumber_0 (by decide) ?_
  refine G_istore_n (L2 := [(1, .inl 0), (0, .inr (.inr (4, 0)))]) dX4_readNumber_1 (by decide) rfl ?_
  refine G_iconst (v := 0) dX4_readNumber_2 (by decide) ?_
  refine G_istore_n (L2 := [(2, .inl 0), (1, .inl 0), (0, .inr (.inr (4, 0)))]) dX4_readNumber_3 (by decide) rfl ?_
  refine G_sub [(0, .inr (.inr (4, 0))), (1, .inl 0), (2, .inl 0)] [2, 1, 0] rfl ?_
  obtain ⟨q3, hq3, h⟩ := bnd h
  refine X4_readNumber_L4_ok  400 0 0 M _  hq3 ?_
  exact X4_readNumber_J48_ok   h

theorem dX4_nameOf_0 : decode cX4_nameOf 0 = .ok (.iload_n 1, 1) := by decide +kernel
theorem dX4_nameOf_1 : decode cX4_nameOf 1 = .ok (.lookupswitch 107 #[(99, 53), (104, 66), (110, 93), (117, 51), (121, 79)], 51) := by decide +kernel
theorem dX4_nameOf_52 : decode cX4_nameOf 52 = .ok (.iconst 1, 1) := by decide +kernel
theorem dX4_nameOf_53 : decode cX4_nameOf 53 = .ok (.ireturn, 1) := by decide +kernel
theorem dX4_nameOf_54 : decode cX4_nameOf 54 = .ok (.aload_n 0, 1) := by decide +kernel
theorem dX4_nameOf_55 : decode cX4_nameOf 55 = .ok (.getfield 22, 3) := by decide +kernel
theorem dX4_nameOf_58 : decode cX4_nameOf 58 = .ok (.ifCond .ne 7, 3) := by decide +kernel
theorem dX4_nameOf_61 : decode cX4_nameOf 61 = .ok (.iconst 2, 1) := by decide +kernel
theorem dX4_nameOf_62 : decode cX4_nameOf 62 = .ok (.goto 4, 3) := by decide +kernel
theorem dX4_nameOf_65 : decode cX4_nameOf 65 = .ok (.iconst 0, 1) := by decide +kernel
theorem dX4_nameOf_66 : decode cX4_nameOf 66 = .ok (.ireturn, 1) := by decide +kernel
theorem dX4_nameOf_67 : decode cX4_nameOf 67 = .ok (.aload_n 0, 1) := by decide +kernel
theorem dX4_nameOf_68 : decode cX4_nameOf 68 = .ok (.getfield 22, 3) := by decide +kernel
theorem dX4_nameOf_71 : decode cX4_nameOf 71 = .ok (.ifCond .ne 7, 3) := by decide +kernel
theorem dX4_nameOf_74 : decode cX4_nameOf 74 = .ok (.iconst 3, 1) := by decide +kernel
theorem dX4_nameOf_75 : decode cX4_nameOf 75 = .ok (.goto 4, 3) := by decide +kernel
theorem dX4_nameOf_78 : decode cX4_nameOf 78 = .ok (.iconst 0, 1) := by decide +kernel
theorem dX4_nameOf_79 : decode cX4_nameOf 79 = .ok (.ireturn, 1) := by decide +kernel
theorem dX4_nameOf_80 : decode cX4_nameOf 80 = .ok (.aload_n 0, 1) := by decide +kernel
theorem dX4_nameOf_81 : decode cX4_nameOf 81 = .ok (.getfield 22, 3) := by decide +kernel
theorem dX4_nameOf_84 : decode cX4_nameOf 84 = .ok (.iconst 1, 1) := by decide +kernel
theorem dX4_nameOf_85 : decode cX4_nameOf 85 = .ok (.if_icmp .ne 7, 3) := by decide +kernel
theorem dX4_nameOf_88 : decode cX4_nameOf 88 = .ok (.iconst 2, 1) := by decide +kernel
theorem dX4_nameOf_89 : decode cX4_nameOf 89 = .ok (.goto 4, 3) := by decide +kernel
theorem dX4_nameOf_92 : decode cX4_nameOf 92 = .ok (.iconst 0, 1) := by decide +kernel
theorem dX4_nameOf_93 : decode cX4_nameOf 93 = .ok (.ireturn, 1) := by decide +kernel
theorem dX4_nameOf_94 : decode cX4_nameOf 94 = .ok (.aload_n 0, 1) := by decide +kernel
theorem dX4_nameOf_95 : decode cX4_nameOf 95 = .ok (.getfield 22, 3) := by decide +kernel
theorem dX4_nameOf_98 : decode cX4_nameOf 98 = .ok (.iconst 1, 1) := by decide +kernel
theorem dX4_nameOf_99 : decode cX4_nameOf 99 = .ok (.if_icmp .ne 7, 3) := by decide +kernel
theorem dX4_nameOf_102 : decode cX4_nameOf 102 = .ok (.iconst 3, 1) := by decide +kernel
theorem dX4_nameOf_103 : decode cX4_nameOf 103 = .ok (.goto 4, 3) := by decide +kernel
theorem dX4_nameOf_106 : decode cX4_nameOf 106 = .ok (.iconst 0, 1) := by decide +kernel
theorem dX4_nameOf_107 : decode cX4_nameOf 107 = .ok (.ireturn, 1) := by decide +kernel
theorem dX4_nameOf_108 : decode cX4_nameOf 108 = .ok (.iconst 0, 1) := by decide +kernel
theorem dX4_nameOf_109 : decode cX4_nameOf 109 = .ok (.ireturn, 1) := by decide +kernel
def X4_nameOf (v1 : Int32) (M : Mem) : Int32 := (if v1 = 99 then (if (M 4 0 2) = 0 then 2 else 0) else (if v1 = 104 then (if (M 4 0 2) = 0 then 3 else 0) else (if v1 = 110 then (if (M 4 0 2) = 1 then 3 else 0) else (if v1 = 117 then 1 else (if v1 = 121 then (if (M 4 0 2) = 1 then 2 else 0) else 0)))))
set_option maxRecDepth 100000 in
set_option maxHeartbeats 4000000 in
theorem X4_nameOf_ok  {v1 : Int32} {M N : Mem} {res : Int32} (h : X4_nameOf v1 M = res) : Spec mt_X4_nameOf 0 [.inr (.inr (4, 0)), .inl v1] (M, N) (some (.inl res)) (M, N) := by
  unfold X4_nameOf at h
  refine Spec_of_G (by decide) rfl (Nat.le_of_ble_eq_true rfl) ?_
  refine G_sub [(0, .inr (.inr (4, 0))), (1, .inl v1)] [0, 1] rfl ?_
  refine G_iload_n dX4_nameOf_0 rfl ?_
  by_cases hc1 : v1 = 99
  · replace h := (if_pos hc1).symm.trans h
    refine G_lookEq (off := 53) (tgt := 54) hc1 dX4_nameOf_1 (by decide) (by decide) (by decide) ?_
    refine G_aload_n dX4_nameOf_54 rfl ?_
    refine fg_X4_22 (v := (M 4 0 2)) rfl rfl (by decide) dX4_nameOf_55 ?_
    refine G_if_ne (tgt := 65) dX4_nameOf_58 (by decide) (fun hc2 => ?_) (fun hc2 => ?_)
    · replace h := (if_neg hc2).symm.trans h
      refine G_iconst (v := 0) dX4_nameOf_65 (by decide) ?_
      subst h
      exact G_ret dX4_nameOf_66 trivial rfl rfl
    · replace h := (if_pos hc2).symm.trans h
      refine G_iconst (v := 2) dX4_nameOf_61 (by decide) ?_
      refine G_goto (tgt := 66) dX4_nameOf_62 (by decide) ?_
      subst h
      exact G_ret dX4_nameOf_66 trivial rfl rfl
  replace h := (if_neg hc1).symm.trans h
  by_cases hc3 : v1 = 104
  · replace h := (if_pos hc3).symm.trans h
    refine G_lookEq (off := 66) (tgt := 67) hc3 dX4_nameOf_1 (by decide) (by decide) (by decide) ?_
    refine G_aload_n dX4_nameOf_67 rfl ?_
    refine fg_X4_22 (v := (M 4 0 2)) rfl rfl (by decide) dX4_nameOf_68 ?_
    refine G_if_ne (tgt := 78) dX4_nameOf_71 (by decide) (fun hc4 => ?_) (fun hc4 => ?_)
    · replace h := (if_neg hc4).symm.trans h
      refine G_iconst (v := 0) dX4_nameOf_78 (by decide) ?_
      subst h
      exact G_ret dX4_nameOf_79 trivial rfl rfl
    · replace h := (if_pos hc4).symm.trans h
      refine G_iconst (v := 3) dX4_nameOf_74 (by decide) ?_
      refine G_goto (tgt := 79) dX4_nameOf_75 (by decide) ?_
      subst h
      exact G_ret dX4_nameOf_79 trivial rfl rfl
  replace h := (if_neg hc3).symm.trans h
  by_cases hc5 : v1 = 110
  · replace h := (if_pos hc5).symm.trans h
    refine G_lookEq (off := 93) (tgt := 94) hc5 dX4_nameOf_1 (by decide) (by decide) (by decide) ?_
    refine G_aload_n dX4_nameOf_94 rfl ?_
    refine fg_X4_22 (v := (M 4 0 2)) rfl rfl (by decide) dX4_nameOf_95 ?_
    refine G_iconst (v := 1) dX4_nameOf_98 (by decide) ?_
    refine G_icmp_ne (tgt := 106) dX4_nameOf_99 (by decide) (fun hc6 => ?_) (fun hc6 => ?_)
    · replace h := (if_neg hc6).symm.trans h
      refine G_iconst (v := 0) dX4_nameOf_106 (by decide) ?_
      subst h
      exact G_ret dX4_nameOf_107 trivial rfl rfl
    · replace h := (if_pos hc6).symm.trans h
      refine G_iconst (v := 3) dX4_nameOf_102 (by decide) ?_
      refine G_goto (tgt := 107) dX4_nameOf_103 (by decide) ?_
      subst h
      exact G_ret dX4_nameOf_107 trivial rfl rfl
  replace h := (if_neg hc5).symm.trans h
  by_cases hc7 : v1 = 117
  · replace h := (if_pos hc7).symm.trans h
    refine G_lookEq (off := 51) (tgt := 52) hc7 dX4_nameOf_1 (by decide) (by decide) (by decide) ?_
    refine G_iconst (v := 1) dX4_nameOf_52 (by decide) ?_
    subst h
    exact G_ret dX4_nameOf_53 trivial rfl rfl
  replace h := (if_neg hc7).symm.trans h
  by_cases hc8 : v1 = 121
  · replace h := (if_pos hc8).symm.trans h
    refine G_lookEq (off := 79) (tgt := 80) hc8 dX4_nameOf_1 (by decide) (by decide) (by decide) ?_
    refine G_aload_n dX4_nameOf_80 rfl ?_
    refine fg_X4_22 (v := (M 4 0 2)) rfl rfl (by decide) dX4_nameOf_81 ?_
    refine G_iconst (v := 1) dX4_nameOf_84 (by decide) ?_
    refine G_icmp_ne (tgt := 92) dX4_nameOf_85 (by decide) (fun hc9 => ?_) (fun hc9 => ?_)
    · replace h := (if_neg hc9).symm.trans h
      refine G_iconst (v := 0) dX4_nameOf_92 (by decide) ?_
      subst h
      exact G_ret dX4_nameOf_93 trivial rfl rfl
    · replace h := (if_pos hc9).symm.trans h
      refine G_iconst (v := 2) dX4_nameOf_88 (by decide) ?_
      refine G_goto (tgt := 93) dX4_nameOf_89 (by decide) ?_
      subst h
      exact G_ret dX4_nameOf_93 trivial rfl rfl
  replace h := (if_neg hc8).symm.trans h
  have nhc1 := ne_lit (n := 99) (by decide) hc1
  have nhc3 := ne_lit (n := 104) (by decide) hc3
  have nhc5 := ne_lit (n := 110) (by decide) hc5
  have nhc7 := ne_lit (n := 117) (by decide) hc7
  have nhc8 := ne_lit (n := 121) (by decide) hc8
  refine G_lookup (off := 107) (tgt := 108) dX4_nameOf_1 (by decide) (by generalize (v1 : Int32).toInt = zz at nhc1 nhc3 nhc5 nhc7 nhc8 ⊢; simp [Op.lookupswitch.offset, Ne.symm nhc1, Ne.symm nhc3, Ne.symm nhc5, Ne.symm nhc7, Ne.symm nhc8]; done) (by decide) ?_
  refine G_iconst (v := 0) dX4_nameOf_108 (by decide) ?_
  subst h
  exact G_ret dX4_nameOf_109 trivial rfl rfl

theorem dX4_levelOf_0 : decode cX4_levelOf 0 = .ok (.iload_n 0, 1) := by decide +kernel
theorem dX4_levelOf_1 : decode cX4_levelOf 1 = .ok (.lookupswitch 101 #[(37, 99), (38, 93), (42, 99), (43, 97), (45, 97), (47, 99), (60, 95), (61, 95), (62, 95), (124, 91)], 91) := by decide +kernel
theorem dX4_levelOf_92 : decode cX4_levelOf 92 = .ok (.iconst 0, 1) := by decide +kernel
theorem dX4_levelOf_93 : decode cX4_levelOf 93 = .ok (.ireturn, 1) := by decide +kernel
theorem dX4_levelOf_94 : decode cX4_levelOf 94 = .ok (.iconst 1, 1) := by decide +kernel
theorem dX4_levelOf_95 : decode cX4_levelOf 95 = .ok (.ireturn, 1) := by decide +kernel
theorem dX4_levelOf_96 : decode cX4_levelOf 96 = .ok (.iconst 2, 1) := by decide +kernel
theorem dX4_levelOf_97 : decode cX4_levelOf 97 = .ok (.ireturn, 1) := by decide +kernel
theorem dX4_levelOf_98 : decode cX4_levelOf 98 = .ok (.iconst 3, 1) := by decide +kernel
theorem dX4_levelOf_99 : decode cX4_levelOf 99 = .ok (.ireturn, 1) := by decide +kernel
theorem dX4_levelOf_100 : decode cX4_levelOf 100 = .ok (.iconst 4, 1) := by decide +kernel
theorem dX4_levelOf_101 : decode cX4_levelOf 101 = .ok (.ireturn, 1) := by decide +kernel
theorem dX4_levelOf_102 : decode cX4_levelOf 102 = .ok (.iconst (-1), 1) := by decide +kernel
theorem dX4_levelOf_103 : decode cX4_levelOf 103 = .ok (.ireturn, 1) := by decide +kernel
def X4_levelOf (v0 : Int32) : Int32 := (if v0 = 37 then 4 else (if v0 = 38 then 1 else (if v0 = 42 then 4 else (if v0 = 43 then 3 else (if v0 = 45 then 3 else (if v0 = 47 then 4 else (if v0 = 60 then 2 else (if v0 = 61 then 2 else (if v0 = 62 then 2 else (if v0 = 124 then 0 else (-1)))))))))))
set_option maxRecDepth 100000 in
set_option maxHeartbeats 4000000 in
theorem X4_levelOf_ok  {v0 : Int32} {MM0 : MM} {res : Int32} (h : X4_levelOf v0 = res) : Spec mt_X4_levelOf 0 [.inl v0] MM0 (some (.inl res)) MM0 := by
  unfold X4_levelOf at h
  refine Spec_of_G (by decide) rfl (Nat.le_of_ble_eq_true rfl) ?_
  refine G_sub [(0, .inl v0)] [0] rfl ?_
  refine G_iload_n dX4_levelOf_0 rfl ?_
  by_cases hc1 : v0 = 37
  · replace h := (if_pos hc1).symm.trans h
    refine G_lookEq (off := 99) (tgt := 100) hc1 dX4_levelOf_1 (by decide) (by decide) (by decide) ?_
    refine G_iconst (v := 4) dX4_levelOf_100 (by decide) ?_
    subst h
    exact G_ret dX4_levelOf_101 trivial rfl rfl
  replace h := (if_neg hc1).symm.trans h
  by_cases hc2 : v0 = 38
  · replace h := (if_pos hc2).symm.trans h
    refine G_lookEq (off := 93) (tgt := 94) hc2 dX4_levelOf_1 (by decide) (by decide) (by decide) ?_
    refine G_iconst (v := 1) dX4_levelOf_94 (by decide) ?_
    subst h
    exact G_ret dX4_levelOf_95 trivial rfl rfl
  replace h := (if_neg hc2).symm.trans h
  by_cases hc3 : v0 = 42
  · replace h := (if_pos hc3).symm.trans h
    refine G_lookEq (off := 99) (tgt := 100) hc3 dX4_levelOf_1 (by decide) (by decide) (by decide) ?_
    refine G_iconst (v := 4) dX4_levelOf_100 (by decide) ?_
    subst h
    exact G_ret dX4_levelOf_101 trivial rfl rfl
  replace h := (if_neg hc3).symm.trans h
  by_cases hc4 : v0 = 43
  · replace h := (if_pos hc4).symm.trans h
    refine G_lookEq (off := 97) (tgt := 98) hc4 dX4_levelOf_1 (by decide) (by decide) (by decide) ?_
    refine G_iconst (v := 3) dX4_levelOf_98 (by decide) ?_
    subst h
    exact G_ret dX4_levelOf_99 trivial rfl rfl
  replace h := (if_neg hc4).symm.trans h
  by_cases hc5 : v0 = 45
  · replace h := (if_pos hc5).symm.trans h
    refine G_lookEq (off := 97) (tgt := 98) hc5 dX4_levelOf_1 (by decide) (by decide) (by decide) ?_
    refine G_iconst (v := 3) dX4_levelOf_98 (by decide) ?_
    subst h
    exact G_ret dX4_levelOf_99 trivial rfl rfl
  replace h := (if_neg hc5).symm.trans h
  by_cases hc6 : v0 = 47
  · replace h := (if_pos hc6).symm.trans h
    refine G_lookEq (off := 99) (tgt := 100) hc6 dX4_levelOf_1 (by decide) (by decide) (by decide) ?_
    refine G_iconst (v := 4) dX4_levelOf_100 (by decide) ?_
    subst h
    exact G_ret dX4_levelOf_101 trivial rfl rfl
  replace h := (if_neg hc6).symm.trans h
  by_cases hc7 : v0 = 60
  · replace h := (if_pos hc7).symm.trans h
    refine G_lookEq (off := 95) (tgt := 96) hc7 dX4_levelOf_1 (by decide) (by decide) (by decide) ?_
    refine G_iconst (v := 2) dX4_levelOf_96 (by decide) ?_
    subst h
    exact G_ret dX4_levelOf_97 trivial rfl rfl
  replace h := (if_neg hc7).symm.trans h
  by_cases hc8 : v0 = 61
  · replace h := (if_pos hc8).symm.trans h
    refine G_lookEq (off := 95) (tgt := 96) hc8 dX4_levelOf_1 (by decide) (by decide) (by decide) ?_
    refine G_iconst (v := 2) dX4_levelOf_96 (by decide) ?_
    subst h
    exact G_ret dX4_levelOf_97 trivial rfl rfl
  replace h := (if_neg hc8).symm.trans h
  by_cases hc9 : v0 = 62
  · replace h := (if_pos hc9).symm.trans h
    refine G_lookEq (off := 95) (tgt := 96) hc9 dX4_levelOf_1 (by decide) (by decide) (by decide) ?_
    refine G_iconst (v := 2) dX4_levelOf_96 (by decide) ?_
    subst h
    exact G_ret dX4_levelOf_97 trivial rfl rfl
  replace h := (if_neg hc9).symm.trans h
  by_cases hc10 : v0 = 124
  · replace h := (if_pos hc10).symm.trans h
    refine G_lookEq (off := 91) (tgt := 92) hc10 dX4_levelOf_1 (by decide) (by decide) (by decide) ?_
    refine G_iconst (v := 0) dX4_levelOf_92 (by decide) ?_
    subst h
    exact G_ret dX4_levelOf_93 trivial rfl rfl
  replace h := (if_neg hc10).symm.trans h
  have nhc1 := ne_lit (n := 37) (by decide) hc1
  have nhc2 := ne_lit (n := 38) (by decide) hc2
  have nhc3 := ne_lit (n := 42) (by decide) hc3
  have nhc4 := ne_lit (n := 43) (by decide) hc4
  have nhc5 := ne_lit (n := 45) (by decide) hc5
  have nhc6 := ne_lit (n := 47) (by decide) hc6
  have nhc7 := ne_lit (n := 60) (by decide) hc7
  have nhc8 := ne_lit (n := 61) (by decide) hc8
  have nhc9 := ne_lit (n := 62) (by decide) hc9
  have nhc10 := ne_lit (n := 124) (by decide) hc10
  refine G_lookup (off := 101) (tgt := 102) dX4_levelOf_1 (by decide) (by generalize (v0 : Int32).toInt = zz at nhc1 nhc2 nhc3 nhc4 nhc5 nhc6 nhc7 nhc8 nhc9 nhc10 ⊢; simp [Op.lookupswitch.offset, Ne.symm nhc1, Ne.symm nhc2, Ne.symm nhc3, Ne.symm nhc4, Ne.symm nhc5, Ne.symm nhc6, Ne.symm nhc7, Ne.symm nhc8, Ne.symm nhc9, Ne.symm nhc10]; done) (by decide) ?_
  refine G_iconst (v := (-1)) dX4_levelOf_102 (by decide) ?_
  subst h
  exact G_ret dX4_levelOf_103 trivial rfl rfl

theorem dX4_readLevel_0 : decode cX4_readLevel 0 = .ok (.iload_n 1, 1) := by decide +kernel
theorem dX4_readLevel_1 : decode cX4_readLevel 1 = .ok (.iconst 5, 1) := by decide +kernel
theorem dX4_readLevel_2 : decode cX4_readLevel 2 = .ok (.if_icmp .lt 9, 3) := by decide +kernel
theorem dX4_readLevel_5 : decode cX4_readLevel 5 = .ok (.aload_n 0, 1) := by decide +kernel
theorem dX4_readLevel_6 : decode cX4_readLevel 6 = .ok (.iload_n 2, 1) := by decide +kernel
theorem dX4_readLevel_7 : decode cX4_readLevel 7 = .ok (.invokevirtual 45, 3) := by decide +kernel
theorem dX4_readLevel_10 : decode cX4_readLevel 10 = .ok (.ireturn, 1) := by decide +kernel
theorem dX4_readLevel_11 : decode cX4_readLevel 11 = .ok (.aload_n 0, 1) := by decide +kernel
theorem dX4_readLevel_12 : decode cX4_readLevel 12 = .ok (.iload_n 1, 1) := by decide +kernel
theorem dX4_readLevel_13 : decode cX4_readLevel 13 = .ok (.iconst 1, 1) := by decide +kernel
theorem dX4_readLevel_14 : decode cX4_readLevel 14 = .ok (.iadd, 1) := by decide +kernel
theorem dX4_readLevel_15 : decode cX4_readLevel 15 = .ok (.iload_n 2, 1) := by decide +kernel
theorem dX4_readLevel_16 : decode cX4_readLevel 16 = .ok (.invokevirtual 32, 3) := by decide +kernel
theorem dX4_readLevel_19 : decode cX4_readLevel 19 = .ok (.ifCond .ne 5, 3) := by decide +kernel
theorem dX4_readLevel_22 : decode cX4_readLevel 22 = .ok (.iconst 0, 1) := by decide +kernel
theorem dX4_readLevel_23 : decode cX4_readLevel 23 = .ok (.ireturn, 1) := by decide +kernel
theorem dX4_readLevel_24 : decode cX4_readLevel 24 = .ok (.iconst 0, 1) := by decide +kernel
theorem dX4_readLevel_25 : decode cX4_readLevel 25 = .ok (.istore_n 3, 1) := by decide +kernel
theorem dX4_readLevel_26 : decode cX4_readLevel 26 = .ok (.iload_n 3, 1) := by decide +kernel
theorem dX4_readLevel_27 : decode cX4_readLevel 27 = .ok (.bipush 50, 2) := by decide +kernel
theorem dX4_readLevel_29 : decode cX4_readLevel 29 = .ok (.if_icmp .ge 66, 3) := by decide +kernel
theorem dX4_readLevel_32 : decode cX4_readLevel 32 = .ok (.aload_n 0, 1) := by decide +kernel
theorem dX4_readLevel_33 : decode cX4_readLevel 33 = .ok (.invokevirtual 49, 3) := by decide +kernel
theorem dX4_readLevel_36 : decode cX4_readLevel 36 = .ok (.istore 4, 2) := by decide +kernel
theorem dX4_readLevel_38 : decode cX4_readLevel 38 = .ok (.iload 4, 2) := by decide +kernel
theorem dX4_readLevel_40 : decode cX4_readLevel 40 = .ok (.invokestatic 53, 3) := by decide +kernel
theorem dX4_readLevel_43 : decode cX4_readLevel 43 = .ok (.iload_n 1, 1) := by decide +kernel
theorem dX4_readLevel_44 : decode cX4_readLevel 44 = .ok (.if_icmp .eq 5, 3) := by decide +kernel
theorem dX4_readLevel_47 : decode cX4_readLevel 47 = .ok (.iconst 1, 1) := by decide +kernel
theorem dX4_readLevel_48 : decode cX4_readLevel 48 = .ok (.ireturn, 1) := by decide +kernel
theorem dX4_readLevel_49 : decode cX4_readLevel 49 = .ok (.aload_n 0, 1) := by decide +kernel
theorem dX4_readLevel_50 : decode cX4_readLevel 50 = .ok (.dup, 1) := by decide +kernel
theorem dX4_readLevel_51 : decode cX4_readLevel 51 = .ok (.getfield 26, 3) := by decide +kernel
theorem dX4_readLevel_54 : decode cX4_readLevel 54 = .ok (.iconst 1, 1) := by decide +kernel
theorem dX4_readLevel_55 : decode cX4_readLevel 55 = .ok (.iadd, 1) := by decide +kernel
theorem dX4_readLevel_56 : decode cX4_readLevel 56 = .ok (.putfield 26, 3) := by decide +kernel
theorem dX4_readLevel_59 : decode cX4_readLevel 59 = .ok (.aload_n 0, 1) := by decide +kernel
theorem dX4_readLevel_60 : decode cX4_readLevel 60 = .ok (.iload_n 1, 1) := by decide +kernel
theorem dX4_readLevel_61 : decode cX4_readLevel 61 = .ok (.iconst 1, 1) := by decide +kernel
theorem dX4_readLevel_62 : decode cX4_readLevel 62 = .ok (.iadd, 1) := by decide +kernel
theorem dX4_readLevel_63 : decode cX4_readLevel 63 = .ok (.iload_n 2, 1) := by decide +kernel
theorem dX4_readLevel_64 : decode cX4_readLevel 64 = .ok (.invokevirtual 32, 3) := by decide +kernel
theorem dX4_readLevel_67 : decode cX4_readLevel 67 = .ok (.ifCond .ne 5, 3) := by decide +kernel
theorem dX4_readLevel_70 : decode cX4_readLevel 70 = .ok (.iconst 0, 1) := by decide +kernel
theorem dX4_readLevel_71 : decode cX4_readLevel 71 = .ok (.ireturn, 1) := by decide +kernel
theorem dX4_readLevel_72 : decode cX4_readLevel 72 = .ok (.aload_n 0, 1) := by decide +kernel
theorem dX4_readLevel_73 : decode cX4_readLevel 73 = .ok (.getfield 12, 3) := by decide +kernel
theorem dX4_readLevel_76 : decode cX4_readLevel 76 = .ok (.iload 4, 2) := by decide +kernel
theorem dX4_readLevel_78 : decode cX4_readLevel 78 = .ok (.ineg, 1) := by decide +kernel
theorem dX4_readLevel_79 : decode cX4_readLevel 79 = .ok (.invokevirtual 57, 3) := by decide +kernel
theorem dX4_readLevel_82 : decode cX4_readLevel 82 = .ok (.iload_n 1, 1) := by decide +kernel
theorem dX4_readLevel_83 : decode cX4_readLevel 83 = .ok (.iconst 2, 1) := by decide +kernel
theorem dX4_readLevel_84 : decode cX4_readLevel 84 = .ok (.if_icmp .ne 5, 3) := by decide +kernel
theorem dX4_readLevel_87 : decode cX4_readLevel 87 = .ok (.iconst 1, 1) := by decide +kernel
theorem dX4_readLevel_88 : decode cX4_readLevel 88 = .ok (.ireturn, 1) := by decide +kernel
theorem dX4_readLevel_89 : decode cX4_readLevel 89 = .ok (.iinc 3 1, 3) := by decide +kernel
theorem dX4_readLevel_92 : decode cX4_readLevel 92 = .ok (.goto (-66), 3) := by decide +kernel
theorem dX4_readLevel_95 : decode cX4_readLevel 95 = .ok (.iconst 1, 1) := by decide +kernel
theorem dX4_readLevel_96 : decode cX4_readLevel 96 = .ok (.ireturn, 1) := by decide +kernel
theorem dX4_readLast_0 : decode cX4_readLast 0 = .ok (.aload_n 0, 1) := by decide +kernel
theorem dX4_readLast_1 : decode cX4_readLast 1 = .ok (.invokevirtual 49, 3) := by decide +kernel
theorem dX4_readLast_4 : decode cX4_readLast 4 = .ok (.istore_n 2, 1) := by decide +kernel
theorem dX4_readLast_5 : decode cX4_readLast 5 = .ok (.iload_n 2, 1) := by decide +kernel
theorem dX4_readLast_6 : decode cX4_readLast 6 = .ok (.invokestatic 61, 3) := by decide +kernel
theorem dX4_readLast_9 : decode cX4_readLast 9 = .ok (.ifCond .eq 9, 3) := by decide +kernel
theorem dX4_readLast_12 : decode cX4_readLast 12 = .ok (.aload_n 0, 1) := by decide +kernel
theorem dX4_readLast_13 : decode cX4_readLast 13 = .ok (.invokevirtual 64, 3) := by decide +kernel
theorem dX4_readLast_16 : decode cX4_readLast 16 = .ok (.iconst 1, 1) := by decide +kernel
theorem dX4_readLast_17 : decode cX4_readLast 17 = .ok (.ireturn, 1) := by decide +kernel
theorem dX4_readLast_18 : decode cX4_readLast 18 = .ok (.aload_n 0, 1) := by decide +kernel
theorem dX4_readLast_19 : decode cX4_readLast 19 = .ok (.iload_n 2, 1) := by decide +kernel
theorem dX4_readLast_20 : decode cX4_readLast 20 = .ok (.invokevirtual 67, 3) := by decide +kernel
theorem dX4_readLast_23 : decode cX4_readLast 23 = .ok (.istore_n 3, 1) := by decide +kernel
theorem dX4_readLast_24 : decode cX4_readLast 24 = .ok (.iload_n 3, 1) := by decide +kernel
theorem dX4_readLast_25 : decode cX4_readLast 25 = .ok (.ifCond .eq 24, 3) := by decide +kernel
theorem dX4_readLast_28 : decode cX4_readLast 28 = .ok (.aload_n 0, 1) := by decide +kernel
theorem dX4_readLast_29 : decode cX4_readLast 29 = .ok (.getfield 12, 3) := by decide +kernel
theorem dX4_readLast_32 : decode cX4_readLast 32 = .ok (.iload_n 3, 1) := by decide +kernel
theorem dX4_readLast_33 : decode cX4_readLast 33 = .ok (.ineg, 1) := by decide +kernel
theorem dX4_readLast_34 : decode cX4_readLast 34 = .ok (.invokevirtual 57, 3) := by decide +kernel
theorem dX4_readLast_37 : decode cX4_readLast 37 = .ok (.aload_n 0, 1) := by decide +kernel
theorem dX4_readLast_38 : decode cX4_readLast 38 = .ok (.dup, 1) := by decide +kernel
theorem dX4_readLast_39 : decode cX4_readLast 39 = .ok (.getfield 26, 3) := by decide +kernel
theorem dX4_readLast_42 : decode cX4_readLast 42 = .ok (.iconst 1, 1) := by decide +kernel
theorem dX4_readLast_43 : decode cX4_readLast 43 = .ok (.iadd, 1) := by decide +kernel
theorem dX4_readLast_44 : decode cX4_readLast 44 = .ok (.putfield 26, 3) := by decide +kernel
theorem dX4_readLast_47 : decode cX4_readLast 47 = .ok (.iconst 1, 1) := by decide +kernel
theorem dX4_readLast_48 : decode cX4_readLast 48 = .ok (.ireturn, 1) := by decide +kernel
theorem dX4_readLast_49 : decode cX4_readLast 49 = .ok (.iload_n 1, 1) := by decide +kernel
theorem dX4_readLast_50 : decode cX4_readLast 50 = .ok (.iconst 5, 1) := by decide +kernel
theorem dX4_readLast_51 : decode cX4_readLast 51 = .ok (.if_icmp .ge 15, 3) := by decide +kernel
theorem dX4_readLast_54 : decode cX4_readLast 54 = .ok (.iload_n 2, 1) := by decide +kernel
theorem dX4_readLast_55 : decode cX4_readLast 55 = .ok (.bipush 33, 2) := by decide +kernel
theorem dX4_readLast_57 : decode cX4_readLast 57 = .ok (.if_icmp .eq 11, 3) := by decide +kernel
theorem dX4_readLast_60 : decode cX4_readLast 60 = .ok (.iload_n 2, 1) := by decide +kernel
theorem dX4_readLast_61 : decode cX4_readLast 61 = .ok (.bipush 40, 2) := by decide +kernel
theorem dX4_readLast_63 : decode cX4_readLast 63 = .ok (.if_icmp .eq 5, 3) := by decide +kernel
theorem dX4_readLast_66 : decode cX4_readLast 66 = .ok (.iconst 0, 1) := by decide +kernel
theorem dX4_readLast_67 : decode cX4_readLast 67 = .ok (.ireturn, 1) := by decide +kernel
theorem dX4_readLast_68 : decode cX4_readLast 68 = .ok (.aload_n 0, 1) := by decide +kernel
theorem dX4_readLast_69 : decode cX4_readLast 69 = .ok (.dup, 1) := by decide +kernel
theorem dX4_readLast_70 : decode cX4_readLast 70 = .ok (.getfield 26, 3) := by decide +kernel
theorem dX4_readLast_73 : decode cX4_readLast 73 = .ok (.iconst 1, 1) := by decide +kernel
theorem dX4_readLast_74 : decode cX4_readLast 74 = .ok (.iadd, 1) := by decide +kernel
theorem dX4_readLast_75 : decode cX4_readLast 75 = .ok (.putfield 26, 3) := by decide +kernel
theorem dX4_readLast_78 : decode cX4_readLast 78 = .ok (.iload_n 2, 1) := by decide +kernel
theorem dX4_readLast_79 : decode cX4_readLast 79 = .ok (.bipush 33, 2) := by decide +kernel
theorem dX4_readLast_81 : decode cX4_readLast 81 = .ok (.if_icmp .ne 25, 3) := by decide +kernel
theorem dX4_readLast_84 : decode cX4_readLast 84 = .ok (.aload_n 0, 1) := by decide +kernel
theorem dX4_readLast_85 : decode cX4_readLast 85 = .ok (.iconst 5, 1) := by decide +kernel
theorem dX4_readLast_86 : decode cX4_readLast 86 = .ok (.iload_n 1, 1) := by decide +kernel
theorem dX4_readLast_87 : decode cX4_readLast 87 = .ok (.iconst 1, 1) := by decide +kernel
theorem dX4_readLast_88 : decode cX4_readLast 88 = .ok (.iadd, 1) := by decide +kernel
theorem dX4_readLast_89 : decode cX4_readLast 89 = .ok (.invokevirtual 32, 3) := by decide +kernel
theorem dX4_readLast_92 : decode cX4_readLast 92 = .ok (.istore 4, 2) := by decide +kernel
theorem dX4_readLast_94 : decode cX4_readLast 94 = .ok (.aload_n 0, 1) := by decide +kernel
theorem dX4_readLast_95 : decode cX4_readLast 95 = .ok (.getfield 12, 3) := by decide +kernel
theorem dX4_readLast_98 : decode cX4_readLast 98 = .ok (.bipush (-33), 2) := by decide +kernel
theorem dX4_readLast_100 : decode cX4_readLast 100 = .ok (.invokevirtual 57, 3) := by decide +kernel
theorem dX4_readLast_103 : decode cX4_readLast 103 = .ok (.iload 4, 2) := by decide +kernel
theorem dX4_readLast_105 : decode cX4_readLast 105 = .ok (.ireturn, 1) := by decide +kernel
theorem dX4_readLast_106 : decode cX4_readLast 106 = .ok (.aload_n 0, 1) := by decide +kernel
theorem dX4_readLast_107 : decode cX4_readLast 107 = .ok (.iconst 0, 1) := by decide +kernel
theorem dX4_readLast_108 : decode cX4_readLast 108 = .ok (.iload_n 1, 1) := by decide +kernel
theorem dX4_readLast_109 : decode cX4_readLast 109 = .ok (.iconst 1, 1) := by decide +kernel
theorem dX4_readLast_110 : decode cX4_readLast 110 = .ok (.iadd, 1) := by decide +kernel
theorem dX4_readLast_111 : decode cX4_readLast 111 = .ok (.invokevirtual 32, 3) := by decide +kernel
theorem dX4_readLast_114 : decode cX4_readLast 114 = .ok (.ifCond .eq 12, 3) := by decide +kernel
theorem dX4_readLast_117 : decode cX4_readLast 117 = .ok (.aload_n 0, 1) := by decide +kernel
theorem dX4_readLast_118 : decode cX4_readLast 118 = .ok (.invokevirtual 49, 3) := by decide +kernel
theorem dX4_readLast_121 : decode cX4_readLast 121 = .ok (.bipush 41, 2) := by decide +kernel
theorem dX4_readLast_123 : decode cX4_readLast 123 = .ok (.if_icmp .eq 5, 3) := by decide +kernel
theorem dX4_readLast_126 : decode cX4_readLast 126 = .ok (.iconst 0, 1) := by decide +kernel
theorem dX4_readLast_127 : decode cX4_readLast 127 = .ok (.ireturn, 1) := by decide +kernel
theorem dX4_readLast_128 : decode cX4_readLast 128 = .ok (.aload_n 0, 1) := by decide +kernel
theorem dX4_readLast_129 : decode cX4_readLast 129 = .ok (.dup, 1) := by decide +kernel
theorem dX4_readLast_130 : decode cX4_readLast 130 = .ok (.getfield 26, 3) := by decide +kernel
theorem dX4_readLast_133 : decode cX4_readLast 133 = .ok (.iconst 1, 1) := by decide +kernel
theorem dX4_readLast_134 : decode cX4_readLast 134 = .ok (.iadd, 1) := by decide +kernel
theorem dX4_readLast_135 : decode cX4_readLast 135 = .ok (.putfield 26, 3) := by decide +kernel
theorem dX4_readLast_138 : decode cX4_readLast 138 = .ok (.iconst 1, 1) := by decide +kernel
theorem dX4_readLast_139 : decode cX4_readLast 139 = .ok (.ireturn, 1) := by decide +kernel
def X4_readLevel_L26 (rc : Nat → Int32 → Int32 → Mem → Option (Int32 × Mem)) : Nat → Int32 → Int32 → Int32 → Mem → Option (Mem ⊕ (Int32 × Mem))
  | 0, _, _, _, _ => none
  | fu + 1, v1, v2, v3, M => (if v3 < 50 then ((X4_next M).bind fun q2 => (if (X4_levelOf q2) = v1 then ((rc 0 (v1 + 1) v2 (up3 M 4 0 3 ((M 4 0 3) + 1))).bind fun q3 => (if q3.1 = 0 then (some (.inr (0, q3.2))) else ((X2_add 6 (-q2) q3.2).bind fun q4 => (if v1 = 2 then (some (.inr (1, q4))) else (X4_readLevel_L26 rc fu v1 v2 (v3 + 1) q4))))) else (some (.inr (1, M))))) else (some (.inl M)))
set_option maxRecDepth 100000 in
set_option maxHeartbeats 4000000 in
theorem X4_readLevel_L26_ok (rc : Nat → Int32 → Int32 → Mem → Option (Int32 × Mem))  {d : Nat} (hd0 : 2 ≤ d) (hr0 : ∀ {a0 a1 : Int32} {M N : Mem} {res : Int32 × Mem}, rc 0 a0 a1 M = some res → Spec mt_X4_readLevel d [.inr (.inr (4, 0)), .inl a0, .inl a1] (M, N) (some (.inl res.1)) (res.2, N)) (hr1 : ∀ {a0 a1 : Int32} {M N : Mem} {res : Int32 × Mem}, rc 1 a0 a1 M = some res → Spec mt_X4_readLast d [.inr (.inr (4, 0)), .inl a0] (M, N) (some (.inl res.1)) (res.2, N)) {r : Option AV} {M' : MM} : ∀ (fu : Nat) (v1 : Int32) (v2 : Int32) (v3 : Int32) (M N : Mem) {res : (Mem) ⊕ (Int32 × Mem)} (h : X4_readLevel_L26 rc fu v1 v2 v3 M = some res) (K : ∀ q, res = .inl q → G mt_X4_readLevel (d + 1) r M' 95 [] [] (q, N)) (K2 : ∀ q, res = .inr q → r = (some (.inl q.1)) ∧ M' = (q.2, N)), G mt_X4_readLevel (d + 1) r M' 26 [(0, .inr (.inr (4, 0))), (1, .inl v1), (2, .inl v2), (3, .inl v3)] [] (M, N) := by
  intro fu
  induction fu with
  | zero =>
    intro v1 v2 v3 M N res h
    cases h
  | succ fu ih =>
    intro v1 v2 v3 M N res h K K2
    replace h : (if v3 < 50 then ((X4_next M).bind fun q2 => (if (X4_levelOf q2) = v1 then ((rc 0 (v1 + 1) v2 (up3 M 4 0 3 ((M 4 0 3) + 1))).bind fun q3 => (if q3.1 = 0 then (some (.inr (0, q3.2))) else ((X2_add 6 (-q2) q3.2).bind fun q4 => (if v1 = 2 then (some (.inr (1, q4))) else (X4_readLevel_L26 rc fu v1 v2 (v3 + 1) q4))))) else (some (.inr (1, M))))) else (some (.inl M))) = some res := h
    refine G_iload_n dX4_readLevel_26 rfl ?_
    refine G_bipush (v := 50) dX4_readLevel_27 (by decide) ?_
    refine G_icmp_ge (tgt := 95) dX4_readLevel_29 (by decide) (fun hc7 => ?_) (fun hc7 => ?_)
    · replace h := (if_neg hc7).symm.trans h
      refine G_sub [] [] rfl ?_
      exact K _ (Option.some.inj h).symm
    · replace h := (if_pos hc7).symm.trans h
      refine G_aload_n dX4_readLevel_32 rfl ?_
      obtain ⟨q2, hq2, h⟩ := bnd h
      refine G_callVv (T := TX4) (N := 4) (f := 4) (i := 0) (X4_next_ok hq2) ok_X4_next ml_X4_49 (by omega) rfl (by decide) (by decide) (by decide) rfl rfl (Nat.le_of_ble_eq_true rfl) dX4_readLevel_33 ?_
      refine G_istore (L2 := [(4, .inl q2), (0, .inr (.inr (4, 0))), (1, .inl v1), (2, .inl v2), (3, .inl v3)]) dX4_readLevel_36 (by decide) rfl ?_
      refine G_iload dX4_readLevel_38 rfl ?_
      refine G_callSv  (X4_levelOf_ok rfl) ok_X4_levelOf ml_X4_53 (by omega) rfl rfl (Nat.le_of_ble_eq_true rfl) dX4_readLevel_40 ?_
      refine G_iload_n dX4_readLevel_43 rfl ?_
      refine G_icmp_eq (tgt := 49) dX4_readLevel_44 (by decide) (fun hc8 => ?_) (fun hc8 => ?_)
      · replace h := (if_pos hc8).symm.trans h
        refine G_aload_n dX4_readLevel_49 rfl ?_
        refine G_dup rfl dX4_readLevel_50 ?_
        refine fg_X4_26 (v := (M 4 0 3)) rfl rfl (by decide) dX4_readLevel_51 ?_
        refine G_iconst (v := 1) dX4_readLevel_54 (by decide) ?_
        refine G_iadd dX4_readLevel_55 ?_
        refine fp_X4_26 rfl (by decide) dX4_readLevel_56 ?_
        refine G_aload_n dX4_readLevel_59 rfl ?_
        refine G_iload_n dX4_readLevel_60 rfl ?_
        refine G_iconst (v := 1) dX4_readLevel_61 (by decide) ?_
        refine G_iadd dX4_readLevel_62 ?_
        refine G_iload_n dX4_readLevel_63 rfl ?_
        obtain ⟨q3, hq3, h⟩ := bnd h
        refine G_callVv (T := TX4) (N := 4) (f := 4) (i := 0) (hr0 hq3) ok_X4_readLevel ml_X4_32 (by omega) rfl (by decide) (by decide) (by decide) rfl rfl (Nat.le_of_ble_eq_true rfl) dX4_readLevel_64 ?_
        refine G_if_ne (tgt := 72) dX4_readLevel_67 (by decide) (fun hc9 => ?_) (fun hc9 => ?_)
        · replace h := (if_neg hc9).symm.trans h
          refine G_aload_n dX4_readLevel_72 rfl ?_
          refine fg_X4_12 rfl (by decide) dX4_readLevel_73 ?_
          refine G_iload dX4_readLevel_76 rfl ?_
          refine G_ineg dX4_readLevel_78 ?_
          obtain ⟨q4, hq4, h⟩ := bnd h
          refine G_callVn (T := TX2) (N := 3) (f := 2) (i := 6) (X2_add_ok (by decide) hq4) ok_X2_add ml_X4_57 (by omega) rfl (by decide) (by decide) (by decide) rfl rfl (Nat.le_of_ble_eq_true rfl) dX4_readLevel_79 ?_
          refine G_iload_n dX4_readLevel_82 rfl ?_
          refine G_iconst (v := 2) dX4_readLevel_83 (by decide) ?_
          refine G_icmp_ne (tgt := 89) dX4_readLevel_84 (by decide) (fun hc10 => ?_) (fun hc10 => ?_)
          · replace h := (if_neg hc10).symm.trans h
            refine G_iinc (v := (v3 + 1)) (L2 := [(3, .inl (v3 + 1)), (4, .inl q2), (0, .inr (.inr (4, 0))), (1, .inl v1), (2, .inl v2)]) dX4_readLevel_89 rfl (by first | rfl | (show _ + Int32.ofInt _ = _; rfl)) (by decide) rfl ?_
            refine G_goto (tgt := 26) dX4_readLevel_92 (by decide) ?_
            refine G_sub [(0, .inr (.inr (4, 0))), (1, .inl v1), (2, .inl v2), (3, .inl (v3 + 1))] [2, 3, 4, 0] rfl ?_
            exact ih v1 v2 (v3 + 1) q4 _  h K K2
          · replace h := (if_pos hc10).symm.trans h
            refine G_iconst (v := 1) dX4_readLevel_87 (by decide) ?_
            obtain ⟨e1, e2⟩ := K2 _ (Option.some.inj h).symm
            subst e1; subst e2
            exact G_ret dX4_readLevel_88 (Or.inr rfl) rfl rfl
        · replace h := (if_pos hc9).symm.trans h
          refine G_iconst (v := 0) dX4_readLevel_70 (by decide) ?_
          obtain ⟨e1, e2⟩ := K2 _ (Option.some.inj h).symm
          subst e1; subst e2
          exact G_ret dX4_readLevel_71 (Or.inl rfl) rfl rfl
      · replace h := (if_neg hc8).symm.trans h
        refine G_iconst (v := 1) dX4_readLevel_47 (by decide) ?_
        obtain ⟨e1, e2⟩ := K2 _ (Option.some.inj h).symm
        subst e1; subst e2
        exact G_ret dX4_readLevel_48 (Or.inr rfl) rfl rfl

def X4_readLevel (rc : Nat → Int32 → Int32 → Mem → Option (Int32 × Mem)) (v1 : Int32) (v2 : Int32) (M : Mem) : Option (Int32 × Mem) := (if v1 < 5 then ((rc 0 (v1 + 1) v2 M).bind fun q1 => (if q1.1 = 0 then (some (0, q1.2)) else ((X4_readLevel_L26 rc 400 v1 v2 0 q1.2).bind fun q5 => match q5 with
  | .inl q5 => (some (1, q5))
  | .inr q5 => some q5))) else ((rc 1 v2 0 M).bind fun q6 => (if q6.1 = 0 then (some (0, q6.2)) else if q6.1 = 1 then (some (1, q6.2)) else none)))
set_option maxRecDepth 100000 in
set_option maxHeartbeats 4000000 in
theorem X4_readLevel_ok (rc : Nat → Int32 → Int32 → Mem → Option (Int32 × Mem))  {d : Nat} (hd0 : 2 ≤ d) (hr0 : ∀ {a0 a1 : Int32} {M N : Mem} {res : Int32 × Mem}, rc 0 a0 a1 M = some res → Spec mt_X4_readLevel d [.inr (.inr (4, 0)), .inl a0, .inl a1] (M, N) (some (.inl res.1)) (res.2, N)) (hr1 : ∀ {a0 a1 : Int32} {M N : Mem} {res : Int32 × Mem}, rc 1 a0 a1 M = some res → Spec mt_X4_readLast d [.inr (.inr (4, 0)), .inl a0] (M, N) (some (.inl res.1)) (res.2, N)) {v1 : Int32} {v2 : Int32} {M N : Mem} {res : Int32 × Mem} (h : X4_readLevel rc v1 v2 M = some res) : Spec mt_X4_readLevel (d + 1) [.inr (.inr (4, 0)), .inl v1, .inl v2] (M, N) (some (.inl res.1)) (res.2, N) := by
  unfold X4_readLevel at h
  refine Spec_of_G (by decide) rfl (Nat.le_of_ble_eq_true rfl) ?_
  refine G_sub [(0, .inr (.inr (4, 0))), (1, .inl v1), (2, .inl v2)] [0, 1, 2] rfl ?_
  refine G_iload_n dX4_readLevel_0 rfl ?_
  refine G_iconst (v := 5) dX4_readLevel_1 (by decide) ?_
  refine G_icmp_lt (tgt := 11) dX4_readLevel_2 (by decide) (fun hc1 => ?_) (fun hc1 => ?_)
  · replace h := (if_pos hc1).symm.trans h
    refine G_aload_n dX4_readLevel_11 rfl ?_
    refine G_iload_n dX4_readLevel_12 rfl ?_
    refine G_iconst (v := 1) dX4_readLevel_13 (by decide) ?_
    refine G_iadd dX4_readLevel_14 ?_
    refine G_iload_n dX4_readLevel_15 rfl ?_
    obtain ⟨q1, hq1, h⟩ := bnd h
    refine G_callVv (T := TX4) (N := 4) (f := 4) (i := 0) (hr0 hq1) ok_X4_readLevel ml_X4_32 (by omega) rfl (by decide) (by decide) (by decide) rfl rfl (Nat.le_of_ble_eq_true rfl) dX4_readLevel_16 ?_
    refine G_if_ne (tgt := 24) dX4_readLevel_19 (by decide) (fun hc2 => ?_) (fun hc2 => ?_)
    · replace h := (if_neg hc2).symm.trans h
      refine G_iconst (v := 0) dX4_readLevel_24 (by decide) ?_
      refine G_istore_n (L2 := [(3, .inl 0), (0, .inr (.inr (4, 0))), (1, .inl v1), (2, .inl v2)]) dX4_readLevel_25 (by decide) rfl ?_
      refine G_sub [(0, .inr (.inr (4, 0))), (1, .inl v1), (2, .inl v2), (3, .inl 0)] [1, 2, 3, 0] rfl ?_
      obtain ⟨q5, hq5, h⟩ := bnd h
      refine X4_readLevel_L26_ok rc  hd0 hr0 hr1 400 v1 v2 0 q1.2 _  hq5 (fun q5n q5e => ?_) (fun q5n q5e => ?_)
      · subst q5e
        refine G_iconst (v := 1) dX4_readLevel_95 (by decide) ?_
        obtain rfl := Option.some.inj h
        exact G_ret dX4_readLevel_96 (Or.inr rfl) rfl rfl
      · subst q5e
        obtain rfl := Option.some.inj h
        exact ⟨rfl, rfl⟩
    · replace h := (if_pos hc2).symm.trans h
      refine G_iconst (v := 0) dX4_readLevel_22 (by decide) ?_
      obtain rfl := Option.some.inj h
      exact G_ret dX4_readLevel_23 (Or.inl rfl) rfl rfl
  · replace h := (if_neg hc1).symm.trans h
    refine G_aload_n dX4_readLevel_5 rfl ?_
    refine G_iload_n dX4_readLevel_6 rfl ?_
    obtain ⟨q6, hq6, h⟩ := bnd h
    refine G_callVv (T := TX4) (N := 4) (f := 4) (i := 0) (hr1 hq6) ok_X4_readLast ml_X4_45 (by omega) rfl (by decide) (by decide) (by decide) rfl rfl (Nat.le_of_ble_eq_true rfl) dX4_readLevel_7 ?_
    by_cases hc11 : q6.1 = 0
    · replace h := (if_pos hc11).symm.trans h
      rw [hc11]
      obtain rfl := Option.some.inj h
      exact G_ret dX4_readLevel_10 (Or.inl rfl) rfl rfl
    replace h := (if_neg hc11).symm.trans h
    by_cases hc12 : q6.1 = 1
    · replace h := (if_pos hc12).symm.trans h
      rw [hc12]
      obtain rfl := Option.some.inj h
      exact G_ret dX4_readLevel_10 (Or.inr rfl) rfl rfl
    cases (if_neg hc12).symm.trans h

def X4_readLast_J68 (rc : Nat → Int32 → Int32 → Mem → Option (Int32 × Mem)) (v1 : Int32) (v2 : Int32) (M : Mem) : Option (Int32 × Mem) := (if v2 = 33 then ((rc 0 5 (v1 + 1) (up3 M 4 0 3 ((M 4 0 3) + 1))).bind fun q4 => ((X2_add 6 (-33) q4.2).bind fun q5 => (if q4.1 = 0 then (some (0, q5)) else if q4.1 = 1 then (some (1, q5)) else none))) else ((rc 0 0 (v1 + 1) (up3 M 4 0 3 ((M 4 0 3) + 1))).bind fun q2 => (if q2.1 = 0 then (some (0, q2.2)) else ((X4_next q2.2).bind fun q3 => (if q3 = 41 then (some (1, (up3 q2.2 4 0 3 ((q2.2 4 0 3) + 1)))) else (some (0, q2.2)))))))
set_option maxRecDepth 100000 in
set_option maxHeartbeats 4000000 in
theorem X4_readLast_J68_ok (rc : Nat → Int32 → Int32 → Mem → Option (Int32 × Mem))  {d : Nat} (hd0 : 2 ≤ d) (hr0 : ∀ {a0 a1 : Int32} {M N : Mem} {res : Int32 × Mem}, rc 0 a0 a1 M = some res → Spec mt_X4_readLevel d [.inr (.inr (4, 0)), .inl a0, .inl a1] (M, N) (some (.inl res.1)) (res.2, N)) (hr1 : ∀ {a0 a1 : Int32} {M N : Mem} {res : Int32 × Mem}, rc 1 a0 a1 M = some res → Spec mt_X4_readLast d [.inr (.inr (4, 0)), .inl a0] (M, N) (some (.inl res.1)) (res.2, N)) {v1 : Int32} {v2 : Int32} {M N : Mem} {res : Int32 × Mem} (h : X4_readLast_J68 rc v1 v2 M = some res) : G mt_X4_readLast (d + 1) (some (.inl res.1)) (res.2, N) 68 [(0, .inr (.inr (4, 0))), (1, .inl v1), (2, .inl v2)] [] (M, N) := by
  unfold X4_readLast_J68 at h
  refine G_aload_n dX4_readLast_68 rfl ?_
  refine G_dup rfl dX4_readLast_69 ?_
  refine fg_X4_26 (v := (M 4 0 3)) rfl rfl (by decide) dX4_readLast_70 ?_
  refine G_iconst (v := 1) dX4_readLast_73 (by decide) ?_
  refine G_iadd dX4_readLast_74 ?_
  refine fp_X4_26 rfl (by decide) dX4_readLast_75 ?_
  refine G_iload_n dX4_readLast_78 rfl ?_
  refine G_bipush (v := 33) dX4_readLast_79 (by decide) ?_
  refine G_icmp_ne (tgt := 106) dX4_readLast_81 (by decide) (fun hc5 => ?_) (fun hc5 => ?_)
  · replace h := (if_neg hc5).symm.trans h
    refine G_aload_n dX4_readLast_106 rfl ?_
    refine G_iconst (v := 0) dX4_readLast_107 (by decide) ?_
    refine G_iload_n dX4_readLast_108 rfl ?_
    refine G_iconst (v := 1) dX4_readLast_109 (by decide) ?_
    refine G_iadd dX4_readLast_110 ?_
    obtain ⟨q2, hq2, h⟩ := bnd h
    refine G_callVv (T := TX4) (N := 4) (f := 4) (i := 0) (hr0 hq2) ok_X4_readLevel ml_X4_32 (by omega) rfl (by decide) (by decide) (by decide) rfl rfl (Nat.le_of_ble_eq_true rfl) dX4_readLast_111 ?_
    refine G_if_eq (tgt := 126) dX4_readLast_114 (by decide) (fun hc6 => ?_) (fun hc6 => ?_)
    · replace h := (if_pos hc6).symm.trans h
      refine G_iconst (v := 0) dX4_readLast_126 (by decide) ?_
      obtain rfl := Option.some.inj h
      exact G_ret dX4_readLast_127 (Or.inl rfl) rfl rfl
    · replace h := (if_neg hc6).symm.trans h
      refine G_aload_n dX4_readLast_117 rfl ?_
      obtain ⟨q3, hq3, h⟩ := bnd h
      refine G_callVv (T := TX4) (N := 4) (f := 4) (i := 0) (X4_next_ok hq3) ok_X4_next ml_X4_49 (by omega) rfl (by decide) (by decide) (by decide) rfl rfl (Nat.le_of_ble_eq_true rfl) dX4_readLast_118 ?_
      refine G_bipush (v := 41) dX4_readLast_121 (by decide) ?_
      refine G_icmp_eq (tgt := 128) dX4_readLast_123 (by decide) (fun hc7 => ?_) (fun hc7 => ?_)
      · replace h := (if_pos hc7).symm.trans h
        refine G_aload_n dX4_readLast_128 rfl ?_
        refine G_dup rfl dX4_readLast_129 ?_
        refine fg_X4_26 (v := (q2.2 4 0 3)) rfl rfl (by decide) dX4_readLast_130 ?_
        refine G_iconst (v := 1) dX4_readLast_133 (by decide) ?_
        refine G_iadd dX4_readLast_134 ?_
        refine fp_X4_26 rfl (by decide) dX4_readLast_135 ?_
        refine G_iconst (v := 1) dX4_readLast_138 (by decide) ?_
        obtain rfl := Option.some.inj h
        exact G_ret dX4_readLast_139 (Or.inr rfl) rfl rfl
      · replace h := (if_neg hc7).symm.trans h
        refine G_iconst (v := 0) dX4_readLast_126 (by decide) ?_
        obtain rfl := Option.some.inj h
        exact G_ret dX4_readLast_127 (Or.inl rfl) rfl rfl
  · replace h := (if_pos hc5).symm.trans h
    refine G_aload_n dX4_readLast_84 rfl ?_
    refine G_iconst (v := 5) dX4_readLast_85 (by decide) ?_
    refine G_iload_n dX4_readLast_86 rfl ?_
    refine G_iconst (v := 1) dX4_readLast_87 (by decide) ?_
    refine G_iadd dX4_readLast_88 ?_
    obtain ⟨q4, hq4, h⟩ := bnd h
    refine G_callVv (T := TX4) (N := 4) (f := 4) (i := 0) (hr0 hq4) ok_X4_readLevel ml_X4_32 (by omega) rfl (by decide) (by decide) (by decide) rfl rfl (Nat.le_of_ble_eq_true rfl) dX4_readLast_89 ?_
    refine G_istore (L2 := [(4, .inl q4.1), (0, .inr (.inr (4, 0))), (1, .inl v1), (2, .inl v2)]) dX4_readLast_92 (by decide) rfl ?_
    refine G_aload_n dX4_readLast_94 rfl ?_
    refine fg_X4_12 rfl (by decide) dX4_readLast_95 ?_
    refine G_bipush (v := (-33)) dX4_readLast_98 (by decide) ?_
    obtain ⟨q5, hq5, h⟩ := bnd h
    refine G_callVn (T := TX2) (N := 3) (f := 2) (i := 6) (X2_add_ok (by decide) hq5) ok_X2_add ml_X4_57 (by omega) rfl (by decide) (by decide) (by decide) rfl rfl (Nat.le_of_ble_eq_true rfl) dX4_readLast_100 ?_
    refine G_iload dX4_readLast_103 rfl ?_
    by_cases hc8 : q4.1 = 0
    · replace h := (if_pos hc8).symm.trans h
      rw [hc8]
      obtain rfl := Option.some.inj h
      exact G_ret dX4_readLast_105 (Or.inl rfl) rfl rfl
    replace h := (if_neg hc8).symm.trans h
    by_cases hc9 : q4.1 = 1
    · replace h := (if_pos hc9).symm.trans h
      rw [hc9]
      obtain rfl := Option.some.inj h
      exact G_ret dX4_readLast_105 (Or.inr rfl) rfl rfl
    cases (if_neg hc9).symm.trans h

def X4_readLast (rc : Nat → Int32 → Int32 → Mem → Option (Int32 × Mem)) (v1 : Int32) (M : Mem) : Option (Int32 × Mem) := ((X4_next M).bind fun q1 => (if (X4_isDigit q1) = 0 then (if (X4_nameOf q1 M) = 0 then (if v1 < 5 then (if q1 = 33 then (X4_readLast_J68 rc v1 q1 M) else (if q1 = 40 then (X4_readLast_J68 rc v1 q1 M) else (some (0, M)))) else (some (0, M))) else ((X2_add 6 (-(X4_nameOf q1 M)) M).bind fun q6 => (some (1, (up3 q6 4 0 3 ((q6 4 0 3) + 1)))))) else ((X4_readNumber M).bind fun q7 => (some (1, q7)))))
set_option maxRecDepth 100000 in
set_option maxHeartbeats 4000000 in
theorem X4_readLast_ok (rc : Nat → Int32 → Int32 → Mem → Option (Int32 × Mem))  {d : Nat} (hd0 : 2 ≤ d) (hr0 : ∀ {a0 a1 : Int32} {M N : Mem} {res : Int32 × Mem}, rc 0 a0 a1 M = some res → Spec mt_X4_readLevel d [.inr (.inr (4, 0)), .inl a0, .inl a1] (M, N) (some (.inl res.1)) (res.2, N)) (hr1 : ∀ {a0 a1 : Int32} {M N : Mem} {res : Int32 × Mem}, rc 1 a0 a1 M = some res → Spec mt_X4_readLast d [.inr (.inr (4, 0)), .inl a0] (M, N) (some (.inl res.1)) (res.2, N)) {v1 : Int32} {M N : Mem} {res : Int32 × Mem} (h : X4_readLast rc v1 M = some res) : Spec mt_X4_readLast (d + 1) [.inr (.inr (4, 0)), .inl v1] (M, N) (some (.inl res.1)) (res.2, N) := by
  unfold X4_readLast at h
  refine Spec_of_G (by decide) rfl (Nat.le_of_ble_eq_true rfl) ?_
  refine G_sub [(0, .inr (.inr (4, 0))), (1, .inl v1)] [0, 1] rfl ?_
  refine G_aload_n dX4_readLast_0 rfl ?_
  obtain ⟨q1, hq1, h⟩ := bnd h
  refine G_callVv (T := TX4) (N := 4) (f := 4) (i := 0) (X4_next_ok hq1) ok_X4_next ml_X4_49 (by omega) rfl (by decide) (by decide) (by decide) rfl rfl (Nat.le_of_ble_eq_true rfl) dX4_readLast_1 ?_
  refine G_istore_n (L2 := [(2, .inl q1), (0, .inr (.inr (4, 0))), (1, .inl v1)]) dX4_readLast_4 (by decide) rfl ?_
  refine G_iload_n dX4_readLast_5 rfl ?_
  refine G_callSv  (X4_isDigit_ok rfl) ok_X4_isDigit ml_X4_61 (by omega) rfl rfl (Nat.le_of_ble_eq_true rfl) dX4_readLast_6 ?_
  refine G_if_eq (tgt := 18) dX4_readLast_9 (by decide) (fun hc1 => ?_) (fun hc1 => ?_)
  · replace h := (if_pos hc1).symm.trans h
    refine G_aload_n dX4_readLast_18 rfl ?_
    refine G_iload_n dX4_readLast_19 rfl ?_
    refine G_callVv (T := TX4) (N := 4) (f := 4) (i := 0) (X4_nameOf_ok rfl) ok_X4_nameOf ml_X4_67 (by omega) rfl (by decide) (by decide) (by decide) rfl rfl (Nat.le_of_ble_eq_true rfl) dX4_readLast_20 ?_
    refine G_istore_n (L2 := [(3, .inl (X4_nameOf q1 M)), (2, .inl q1), (0, .inr (.inr (4, 0))), (1, .inl v1)]) dX4_readLast_23 (by decide) rfl ?_
    refine G_iload_n dX4_readLast_24 rfl ?_
    refine G_if_eq (tgt := 49) dX4_readLast_25 (by decide) (fun hc2 => ?_) (fun hc2 => ?_)
    · replace h := (if_pos hc2).symm.trans h
      refine G_iload_n dX4_readLast_49 rfl ?_
      refine G_iconst (v := 5) dX4_readLast_50 (by decide) ?_
      refine G_icmp_ge (tgt := 66) dX4_readLast_51 (by decide) (fun hc3 => ?_) (fun hc3 => ?_)
      · replace h := (if_neg hc3).symm.trans h
        refine G_iconst (v := 0) dX4_readLast_66 (by decide) ?_
        obtain rfl := Option.some.inj h
        exact G_ret dX4_readLast_67 (Or.inl rfl) rfl rfl
      · replace h := (if_pos hc3).symm.trans h
        refine G_iload_n dX4_readLast_54 rfl ?_
        refine G_bipush (v := 33) dX4_readLast_55 (by decide) ?_
        refine G_icmp_eq (tgt := 68) dX4_readLast_57 (by decide) (fun hc4 => ?_) (fun hc4 => ?_)
        · replace h := (if_pos hc4).symm.trans h
          refine G_sub [(0, .inr (.inr (4, 0))), (1, .inl v1), (2, .inl q1)] [2, 3, 1] rfl ?_
          exact X4_readLast_J68_ok rc  hd0 hr0 hr1  h
        · replace h := (if_neg hc4).symm.trans h
          refine G_iload_n dX4_readLast_60 rfl ?_
          refine G_bipush (v := 40) dX4_readLast_61 (by decide) ?_
          refine G_icmp_eq (tgt := 68) dX4_readLast_63 (by decide) (fun hc10 => ?_) (fun hc10 => ?_)
          · replace h := (if_pos hc10).symm.trans h
            refine G_sub [(0, .inr (.inr (4, 0))), (1, .inl v1), (2, .inl q1)] [2, 3, 1] rfl ?_
            exact X4_readLast_J68_ok rc  hd0 hr0 hr1  h
          · replace h := (if_neg hc10).symm.trans h
            refine G_iconst (v := 0) dX4_readLast_66 (by decide) ?_
            obtain rfl := Option.some.inj h
            exact G_ret dX4_readLast_67 (Or.inl rfl) rfl rfl
    · replace h := (if_neg hc2).symm.trans h
      refine G_aload_n dX4_readLast_28 rfl ?_
      refine fg_X4_12 rfl (by decide) dX4_readLast_29 ?_
      refine G_iload_n dX4_readLast_32 rfl ?_
      refine G_ineg dX4_readLast_33 ?_
      obtain ⟨q6, hq6, h⟩ := bnd h
      refine G_callVn (T := TX2) (N := 3) (f := 2) (i := 6) (X2_add_ok (by decide) hq6) ok_X2_add ml_X4_57 (by omega) rfl (by decide) (by decide) (by decide) rfl rfl (Nat.le_of_ble_eq_true rfl) dX4_readLast_34 ?_
      refine G_aload_n dX4_readLast_37 rfl ?_
      refine G_dup rfl dX4_readLast_38 ?_
      refine fg_X4_26 (v := (q6 4 0 3)) rfl rfl (by decide) dX4_readLast_39 ?_
      refine G_iconst (v := 1) dX4_readLast_42 (by decide) ?_
      refine G_iadd dX4_readLast_43 ?_
      refine fp_X4_26 rfl (by decide) dX4_readLast_44 ?_
      refine G_iconst (v := 1) dX4_readLast_47 (by decide) ?_
      obtain rfl := Option.some.inj h
      exact G_ret dX4_readLast_48 (Or.inr rfl) rfl rfl
  · replace h := (if_neg hc1).symm.trans h
    refine G_aload_n dX4_readLast_12 rfl ?_
    obtain ⟨q7, hq7, h⟩ := bnd h
    refine G_callVn (T := TX4) (N := 4) (f := 4) (i := 0) (X4_readNumber_ok hq7) ok_X4_readNumber ml_X4_64 (by omega) rfl (by decide) (by decide) (by decide) rfl rfl (Nat.le_of_ble_eq_true rfl) dX4_readLast_13 ?_
    refine G_iconst (v := 1) dX4_readLast_16 (by decide) ?_
    obtain rfl := Option.some.inj h
    exact G_ret dX4_readLast_17 (Or.inr rfl) rfl rfl

def X4_rec_readLevel : Nat → Nat → Int32 → Int32 → Mem → Option (Int32 × Mem)
  | 0, _, _, _, _ => none
  | fu + 1, tg, a0, a1, M => (if tg = 0 then X4_readLevel (X4_rec_readLevel fu) a0 a1 M else (if tg = 1 then X4_readLast (X4_rec_readLevel fu) a0 M else none))
theorem X4_rec_readLevel_ok : ∀ (fu : Nat), (∀ {a0 a1 : Int32} {M N : Mem} {res : Int32 × Mem}, X4_rec_readLevel fu 0 a0 a1 M = some res → Spec mt_X4_readLevel (fu + 2) [.inr (.inr (4, 0)), .inl a0, .inl a1] (M, N) (some (.inl res.1)) (res.2, N)) ∧ (∀ {a0 a1 : Int32} {M N : Mem} {res : Int32 × Mem}, X4_rec_readLevel fu 1 a0 a1 M = some res → Spec mt_X4_readLast (fu + 2) [.inr (.inr (4, 0)), .inl a0] (M, N) (some (.inl res.1)) (res.2, N)) := by
  intro fu
  induction fu with
  | zero => exact ⟨fun h => (by cases h), fun h => (by cases h)⟩
  | succ fu ih =>
    obtain ⟨h0, h1⟩ := ih
    refine ⟨?_, ?_⟩
    · intro a0 a1 M N res h
      have e := X4_readLevel_ok (X4_rec_readLevel fu) (d := fu + 2) (by omega) h0 h1 (M := M) (N := N) (res := res) h
      rw [show fu + 1 + 2 = fu + 2 + 1 from by omega]
      exact e
    · intro a0 a1 M N res h
      have e := X4_readLast_ok (X4_rec_readLevel fu) (d := fu + 2) (by omega) h0 h1 (M := M) (N := N) (res := res) h
      rw [show fu + 1 + 2 = fu + 2 + 1 from by omega]
      exact e
def X4_readLevelC (a0 : Int32) (a1 : Int32) (M : Mem) : Option (Int32 × Mem) := X4_rec_readLevel 100 0 a0 a1  M
theorem X4_readLevelC_ok {a0 : Int32} {a1 : Int32} {M N : Mem} {res : Int32 × Mem} (h : X4_readLevelC a0 a1 M = some res) : Spec mt_X4_readLevel 102 [.inr (.inr (4, 0)), .inl a0, .inl a1] (M, N) (some (.inl res.1)) (res.2, N) := (X4_rec_readLevel_ok 100).1 h
def X4_readLastC (a0 : Int32) (M : Mem) : Option (Int32 × Mem) := X4_rec_readLevel 100 1 a0 0 M
theorem X4_readLastC_ok {a0 : Int32} {M N : Mem} {res : Int32 × Mem} (h : X4_readLastC a0 M = some res) : Spec mt_X4_readLast 102 [.inr (.inr (4, 0)), .inl a0] (M, N) (some (.inl res.1)) (res.2, N) := (X4_rec_readLevel_ok 100).2 h

theorem dX4_readTape_0 : decode cX4_readTape 0 = .ok (.aload_n 0, 1) := by decide +kernel
theorem dX4_readTape_1 : decode cX4_readTape 1 = .ok (.iload_n 1, 1) := by decide +kernel
theorem dX4_readTape_2 : decode cX4_readTape 2 = .ok (.putfield 22, 3) := by decide +kernel
theorem dX4_readTape_5 : decode cX4_readTape 5 = .ok (.aload_n 0, 1) := by decide +kernel
theorem dX4_readTape_6 : decode cX4_readTape 6 = .ok (.iconst 0, 1) := by decide +kernel
theorem dX4_readTape_7 : decode cX4_readTape 7 = .ok (.putfield 26, 3) := by decide +kernel
theorem dX4_readTape_10 : decode cX4_readTape 10 = .ok (.aload_n 0, 1) := by decide +kernel
theorem dX4_readTape_11 : decode cX4_readTape 11 = .ok (.getfield 12, 3) := by decide +kernel
theorem dX4_readTape_14 : decode cX4_readTape 14 = .ok (.invokevirtual 29, 3) := by decide +kernel
theorem dX4_readTape_17 : decode cX4_readTape 17 = .ok (.aload_n 0, 1) := by decide +kernel
theorem dX4_readTape_18 : decode cX4_readTape 18 = .ok (.iconst 0, 1) := by decide +kernel
theorem dX4_readTape_19 : decode cX4_readTape 19 = .ok (.iconst 0, 1) := by decide +kernel
theorem dX4_readTape_20 : decode cX4_readTape 20 = .ok (.invokevirtual 32, 3) := by decide +kernel
theorem dX4_readTape_23 : decode cX4_readTape 23 = .ok (.ifCond .eq 21, 3) := by decide +kernel
theorem dX4_readTape_26 : decode cX4_readTape 26 = .ok (.aload_n 0, 1) := by decide +kernel
theorem dX4_readTape_27 : decode cX4_readTape 27 = .ok (.getfield 26, 3) := by decide +kernel
theorem dX4_readTape_30 : decode cX4_readTape 30 = .ok (.aload_n 0, 1) := by decide +kernel
theorem dX4_readTape_31 : decode cX4_readTape 31 = .ok (.getfield 18, 3) := by decide +kernel
theorem dX4_readTape_34 : decode cX4_readTape 34 = .ok (.getfield 36, 3) := by decide +kernel
theorem dX4_readTape_37 : decode cX4_readTape 37 = .ok (.if_icmp .ne 7, 3) := by decide +kernel
theorem dX4_readTape_40 : decode cX4_readTape 40 = .ok (.iconst 1, 1) := by decide +kernel
theorem dX4_readTape_41 : decode cX4_readTape 41 = .ok (.goto 4, 3) := by decide +kernel
theorem dX4_readTape_44 : decode cX4_readTape 44 = .ok (.iconst 0, 1) := by decide +kernel
theorem dX4_readTape_45 : decode cX4_readTape 45 = .ok (.ireturn, 1) := by decide +kernel
def X4_readTape (v1 : Int32) (M : Mem) : Option (Int32 × Mem) := ((X2_clear 6 (up3 (up3 M 4 0 2 v1) 4 0 3 0)).bind fun q1 => ((X4_readLevelC 0 0 q1).bind fun q2 => (if q2.1 = 0 then (some (0, q2.2)) else (if (q2.2 4 0 3) = (q2.2 0 0 2) then (some (1, q2.2)) else (some (0, q2.2))))))
set_option maxRecDepth 100000 in
set_option maxHeartbeats 4000000 in
theorem X4_readTape_ok  {v1 : Int32} {M N : Mem} {res : Int32 × Mem} (h : X4_readTape v1 M = some res) : Spec mt_X4_readTape 103 [.inr (.inr (4, 0)), .inl v1] (M, N) (some (.inl res.1)) (res.2, N) := by
  unfold X4_readTape at h
  refine Spec_of_G (by decide) rfl (Nat.le_of_ble_eq_true rfl) ?_
  refine G_sub [(0, .inr (.inr (4, 0))), (1, .inl v1)] [0, 1] rfl ?_
  refine G_aload_n dX4_readTape_0 rfl ?_
  refine G_iload_n dX4_readTape_1 rfl ?_
  refine fp_X4_22 rfl (by decide) dX4_readTape_2 ?_
  refine G_aload_n dX4_readTape_5 rfl ?_
  refine G_iconst (v := 0) dX4_readTape_6 (by decide) ?_
  refine fp_X4_26 rfl (by decide) dX4_readTape_7 ?_
  refine G_aload_n dX4_readTape_10 rfl ?_
  refine fg_X4_12 rfl (by decide) dX4_readTape_11 ?_
  obtain ⟨q1, hq1, h⟩ := bnd h
  refine G_callVn (T := TX2) (N := 3) (f := 2) (i := 6) (X2_clear_ok (by decide) hq1) ok_X2_clear ml_X4_29 (by decide) rfl (by decide) (by decide) (by decide) rfl rfl (Nat.le_of_ble_eq_true rfl) dX4_readTape_14 ?_
  refine G_aload_n dX4_readTape_17 rfl ?_
  refine G_iconst (v := 0) dX4_readTape_18 (by decide) ?_
  refine G_iconst (v := 0) dX4_readTape_19 (by decide) ?_
  obtain ⟨q2, hq2, h⟩ := bnd h
  refine G_callVv (T := TX4) (N := 4) (f := 4) (i := 0) (X4_readLevelC_ok hq2) ok_X4_readLevel ml_X4_32 (by decide) rfl (by decide) (by decide) (by decide) rfl rfl (Nat.le_of_ble_eq_true rfl) dX4_readTape_20 ?_
  refine G_if_eq (tgt := 44) dX4_readTape_23 (by decide) (fun hc1 => ?_) (fun hc1 => ?_)
  · replace h := (if_pos hc1).symm.trans h
    refine G_iconst (v := 0) dX4_readTape_44 (by decide) ?_
    obtain rfl := Option.some.inj h
    exact G_ret dX4_readTape_45 (Or.inl rfl) rfl rfl
  · replace h := (if_neg hc1).symm.trans h
    refine G_aload_n dX4_readTape_26 rfl ?_
    refine fg_X4_26 (v := (q2.2 4 0 3)) rfl rfl (by decide) dX4_readTape_27 ?_
    refine G_aload_n dX4_readTape_30 rfl ?_
    refine fg_X4_18 rfl (by decide) dX4_readTape_31 ?_
    refine fg_X4_36 (v := (q2.2 0 0 2)) rfl rfl (by decide) dX4_readTape_34 ?_
    refine G_icmp_ne (tgt := 44) dX4_readTape_37 (by decide) (fun hc2 => ?_) (fun hc2 => ?_)
    · replace h := (if_neg hc2).symm.trans h
      refine G_iconst (v := 0) dX4_readTape_44 (by decide) ?_
      obtain rfl := Option.some.inj h
      exact G_ret dX4_readTape_45 (Or.inl rfl) rfl rfl
    · replace h := (if_pos hc2).symm.trans h
      refine G_iconst (v := 1) dX4_readTape_40 (by decide) ?_
      refine G_goto (tgt := 45) dX4_readTape_41 (by decide) ?_
      obtain rfl := Option.some.inj h
      exact G_ret dX4_readTape_45 (Or.inr rfl) rfl rfl

theorem dX1_lawOf_0 : decode cX1_lawOf 0 = .ok (.iload_n 1, 1) := by decide +kernel
theorem dX1_lawOf_1 : decode cX1_lawOf 1 = .ok (.ifCond .ne 10, 3) := by decide +kernel
theorem dX1_lawOf_4 : decode cX1_lawOf 4 = .ok (.aload_n 0, 1) := by decide +kernel
theorem dX1_lawOf_5 : decode cX1_lawOf 5 = .ok (.getfield 27, 3) := by decide +kernel
theorem dX1_lawOf_8 : decode cX1_lawOf 8 = .ok (.goto 7, 3) := by decide +kernel
theorem dX1_lawOf_11 : decode cX1_lawOf 11 = .ok (.aload_n 0, 1) := by decide +kernel
theorem dX1_lawOf_12 : decode cX1_lawOf 12 = .ok (.getfield 31, 3) := by decide +kernel
theorem dX1_lawOf_15 : decode cX1_lawOf 15 = .ok (.areturn, 1) := by decide +kernel
def X1_lawOf (i0 : Nat) (v1 : Int32) (M : Mem) : Nat := (if v1 = 0 then (2 * i0) else (2 * i0 + 1))
set_option maxRecDepth 100000 in
set_option maxHeartbeats 4000000 in
theorem X1_lawOf_ok  {i0 : Nat} {v1 : Int32} {M N : Mem} {res : Nat} (hi0 : i0 < 3) (h : X1_lawOf i0 v1 M = res) : Spec mt_X1_lawOf 0 [.inr (.inr (1, i0)), .inl v1] (M, N) (some (.inr (.inr (2, res)))) (M, N) := by
  unfold X1_lawOf at h
  refine Spec_of_G (by decide) rfl (Nat.le_of_ble_eq_true rfl) ?_
  refine G_sub [(0, .inr (.inr (1, i0))), (1, .inl v1)] [0, 1] rfl ?_
  refine G_iload_n dX1_lawOf_0 rfl ?_
  refine G_if_ne (tgt := 11) dX1_lawOf_1 (by decide) (fun hc1 => ?_) (fun hc1 => ?_)
  · replace h := (if_neg hc1).symm.trans h
    refine G_aload_n dX1_lawOf_11 rfl ?_
    refine fg_X1_31 rfl hi0 dX1_lawOf_12 ?_
    subst h
    exact G_ret dX1_lawOf_15 trivial rfl rfl
  · replace h := (if_pos hc1).symm.trans h
    refine G_aload_n dX1_lawOf_4 rfl ?_
    refine fg_X1_27 rfl hi0 dX1_lawOf_5 ?_
    refine G_goto (tgt := 15) dX1_lawOf_8 (by decide) ?_
    subst h
    exact G_ret dX1_lawOf_15 trivial rfl rfl

theorem dX1_given_0 : decode cX1_given 0 = .ok (.aload_n 0, 1) := by decide +kernel
theorem dX1_given_1 : decode cX1_given 1 = .ok (.iload_n 1, 1) := by decide +kernel
theorem dX1_given_2 : decode cX1_given 2 = .ok (.invokevirtual 64, 3) := by decide +kernel
theorem dX1_given_5 : decode cX1_given 5 = .ok (.astore 5, 2) := by decide +kernel
theorem dX1_given_7 : decode cX1_given 7 = .ok (.iconst 0, 1) := by decide +kernel
theorem dX1_given_8 : decode cX1_given 8 = .ok (.istore 6, 2) := by decide +kernel
theorem dX1_given_10 : decode cX1_given 10 = .ok (.aload 5, 2) := by decide +kernel
theorem dX1_given_12 : decode cX1_given 12 = .ok (.invokevirtual 68, 3) := by decide +kernel
theorem dX1_given_15 : decode cX1_given 15 = .ok (.ifCond .eq 17, 3) := by decide +kernel
theorem dX1_given_18 : decode cX1_given 18 = .ok (.aload 5, 2) := by decide +kernel
theorem dX1_given_20 : decode cX1_given 20 = .ok (.iload_n 2, 1) := by decide +kernel
theorem dX1_given_21 : decode cX1_given 21 = .ok (.iload_n 3, 1) := by decide +kernel
theorem dX1_given_22 : decode cX1_given 22 = .ok (.iload 4, 2) := by decide +kernel
theorem dX1_given_24 : decode cX1_given 24 = .ok (.invokevirtual 72, 3) := by decide +kernel
theorem dX1_given_27 : decode cX1_given 27 = .ok (.istore 6, 2) := by decide +kernel
theorem dX1_given_29 : decode cX1_given 29 = .ok (.goto 14, 3) := by decide +kernel
theorem dX1_given_32 : decode cX1_given 32 = .ok (.iload_n 1, 1) := by decide +kernel
theorem dX1_given_33 : decode cX1_given 33 = .ok (.ifCond .ne 10, 3) := by decide +kernel
theorem dX1_given_36 : decode cX1_given 36 = .ok (.iload_n 2, 1) := by decide +kernel
theorem dX1_given_37 : decode cX1_given 37 = .ok (.iload_n 3, 1) := by decide +kernel
theorem dX1_given_38 : decode cX1_given 38 = .ok (.imul, 1) := by decide +kernel
theorem dX1_given_39 : decode cX1_given 39 = .ok (.iconst 5, 1) := by decide +kernel
theorem dX1_given_40 : decode cX1_given 40 = .ok (.idiv, 1) := by decide +kernel
theorem dX1_given_41 : decode cX1_given 41 = .ok (.istore 6, 2) := by decide +kernel
theorem dX1_given_43 : decode cX1_given 43 = .ok (.iconst 0, 1) := by decide +kernel
theorem dX1_given_44 : decode cX1_given 44 = .ok (.bipush 99, 2) := by decide +kernel
theorem dX1_given_46 : decode cX1_given 46 = .ok (.iload 6, 2) := by decide +kernel
theorem dX1_given_48 : decode cX1_given 48 = .ok (.invokestatic 76, 3) := by decide +kernel
theorem dX1_given_51 : decode cX1_given 51 = .ok (.invokestatic 82, 3) := by decide +kernel
theorem dX1_given_54 : decode cX1_given 54 = .ok (.ireturn, 1) := by decide +kernel
def X1_given (i0 : Nat) (v1 : Int32) (v2 : Int32) (v3 : Int32) (v4 : Int32) (M : Mem) : Option (Int32 × Mem) := (if (X1_lawOf i0 v1 M) < 7 then (if (X2_stands (X1_lawOf i0 v1 M) M) = 0 then (if v1 = 0 then (some ((jmax 0 (jmin 99 ((v2 * v3) / 5))), M)) else (some ((jmax 0 (jmin 99 0)), M))) else ((X2_workedOut (X1_lawOf i0 v1 M) v2 v3 v4 M).bind fun q2 => (some ((jmax 0 (jmin 99 q2.1)), q2.2)))) else none)
set_option maxRecDepth 100000 in
set_option maxHeartbeats 4000000 in
theorem X1_given_ok  {i0 : Nat} {v1 : Int32} {v2 : Int32} {v3 : Int32} {v4 : Int32} {M N : Mem} {res : Int32 × Mem} (hi0 : i0 < 3) (h : X1_given i0 v1 v2 v3 v4 M = some res) : Spec mt_X1_given 2 [.inr (.inr (1, i0)), .inl v1, .inl v2, .inl v3, .inl v4] (M, N) (some (.inl res.1)) (res.2, N) := by
  unfold X1_given at h
  refine Spec_of_G (by decide) rfl (Nat.le_of_ble_eq_true rfl) ?_
  refine G_sub [(0, .inr (.inr (1, i0))), (1, .inl v1), (2, .inl v2), (3, .inl v3), (4, .inl v4)] [0, 1, 2, 3, 4] rfl ?_
  refine G_aload_n dX1_given_0 rfl ?_
  refine G_iload_n dX1_given_1 rfl ?_
  refine G_callVv (T := TX1) (N := 8) (f := 1) (i := i0) (X1_lawOf_ok hi0 rfl) ok_X1_lawOf ml_X1_64 (by decide) rfl (by decide) (show i0 < 3 from hi0) (by decide) rfl rfl (Nat.le_of_ble_eq_true rfl) dX1_given_2 ?_
  obtain ⟨hl1, h⟩ := chk h
  refine G_astore (L2 := [(5, .inr (.inr (2, (X1_lawOf i0 v1 M)))), (0, .inr (.inr (1, i0))), (1, .inl v1), (2, .inl v2), (3, .inl v3), (4, .inl v4)]) dX1_given_5 (by decide) rfl ?_
  refine G_iconst (v := 0) dX1_given_7 (by decide) ?_
  refine G_istore (L2 := [(6, .inl 0), (5, .inr (.inr (2, (X1_lawOf i0 v1 M)))), (0, .inr (.inr (1, i0))), (1, .inl v1), (2, .inl v2), (3, .inl v3), (4, .inl v4)]) dX1_given_8 (by decide) rfl ?_
  refine G_aload dX1_given_10 rfl ?_
  refine G_callVv (T := TX2) (N := 3) (f := 2) (i := (X1_lawOf i0 v1 M)) (X2_stands_ok (by omega) rfl) ok_X2_stands ml_X1_68 (by decide) rfl (by decide) (show (X1_lawOf i0 v1 M) < 7 from (by omega)) (by decide) rfl rfl (Nat.le_of_ble_eq_true rfl) dX1_given_12 ?_
  refine G_if_eq (tgt := 32) dX1_given_15 (by decide) (fun hc1 => ?_) (fun hc1 => ?_)
  · replace h := (if_pos hc1).symm.trans h
    refine G_iload_n dX1_given_32 rfl ?_
    refine G_if_ne (tgt := 43) dX1_given_33 (by decide) (fun hc2 => ?_) (fun hc2 => ?_)
    · replace h := (if_neg hc2).symm.trans h
      refine G_iconst (v := 0) dX1_given_43 (by decide) ?_
      refine G_bipush (v := 99) dX1_given_44 (by decide) ?_
      refine G_iload dX1_given_46 rfl ?_
      refine G_min ml_X1_76 st_min in_Math cd_min (by decide) (Nat.le_of_ble_eq_true rfl) dX1_given_48 ?_
      refine G_max ml_X1_82 st_max in_Math cd_max (by decide) (Nat.le_of_ble_eq_true rfl) dX1_given_51 ?_
      obtain rfl := Option.some.inj h
      exact G_ret dX1_given_54 trivial rfl rfl
    · replace h := (if_pos hc2).symm.trans h
      refine G_iload_n dX1_given_36 rfl ?_
      refine G_iload_n dX1_given_37 rfl ?_
      refine G_imul dX1_given_38 ?_
      refine G_iconst (v := 5) dX1_given_39 (by decide) ?_
      refine G_idiv (by decide) dX1_given_40 ?_
      refine G_istore (L2 := [(6, .inl ((v2 * v3) / 5)), (5, .inr (.inr (2, (X1_lawOf i0 v1 M)))), (0, .inr (.inr (1, i0))), (1, .inl v1), (2, .inl v2), (3, .inl v3), (4, .inl v4)]) dX1_given_41 (by decide) rfl ?_
      refine G_iconst (v := 0) dX1_given_43 (by decide) ?_
      refine G_bipush (v := 99) dX1_given_44 (by decide) ?_
      refine G_iload dX1_given_46 rfl ?_
      refine G_min ml_X1_76 st_min in_Math cd_min (by decide) (Nat.le_of_ble_eq_true rfl) dX1_given_48 ?_
      refine G_max ml_X1_82 st_max in_Math cd_max (by decide) (Nat.le_of_ble_eq_true rfl) dX1_given_51 ?_
      obtain rfl := Option.some.inj h
      exact G_ret dX1_given_54 trivial rfl rfl
  · replace h := (if_neg hc1).symm.trans h
    refine G_aload dX1_given_18 rfl ?_
    refine G_iload_n dX1_given_20 rfl ?_
    refine G_iload_n dX1_given_21 rfl ?_
    refine G_iload dX1_given_22 rfl ?_
    obtain ⟨q2, hq2, h⟩ := bnd h
    refine G_callVv (T := TX2) (N := 3) (f := 2) (i := (X1_lawOf i0 v1 M)) (X2_workedOut_ok (by omega) hq2) ok_X2_workedOut ml_X1_72 (by decide) rfl (by decide) (show (X1_lawOf i0 v1 M) < 7 from (by omega)) (by decide) rfl rfl (Nat.le_of_ble_eq_true rfl) dX1_given_24 ?_
    refine G_istore (L2 := [(6, .inl q2.1), (5, .inr (.inr (2, (X1_lawOf i0 v1 M)))), (0, .inr (.inr (1, i0))), (1, .inl v1), (2, .inl v2), (3, .inl v3), (4, .inl v4)]) dX1_given_27 (by decide) rfl ?_
    refine G_goto (tgt := 43) dX1_given_29 (by decide) ?_
    refine G_iconst (v := 0) dX1_given_43 (by decide) ?_
    refine G_bipush (v := 99) dX1_given_44 (by decide) ?_
    refine G_iload dX1_given_46 rfl ?_
    refine G_min ml_X1_76 st_min in_Math cd_min (by decide) (Nat.le_of_ble_eq_true rfl) dX1_given_48 ?_
    refine G_max ml_X1_82 st_max in_Math cd_max (by decide) (Nat.le_of_ble_eq_true rfl) dX1_given_51 ?_
    obtain rfl := Option.some.inj h
    exact G_ret dX1_given_54 trivial rfl rfl

theorem dX1_passYearOf_0 : decode cX1_passYearOf 0 = .ok (.aload_n 1, 1) := by decide +kernel
theorem dX1_passYearOf_1 : decode cX1_passYearOf 1 = .ok (.aload_n 0, 1) := by decide +kernel
theorem dX1_passYearOf_2 : decode cX1_passYearOf 2 = .ok (.iconst 0, 1) := by decide +kernel
theorem dX1_passYearOf_3 : decode cX1_passYearOf 3 = .ok (.aload_n 1, 1) := by decide +kernel
theorem dX1_passYearOf_4 : decode cX1_passYearOf 4 = .ok (.getfield 96, 3) := by decide +kernel
theorem dX1_passYearOf_7 : decode cX1_passYearOf 7 = .ok (.aload_n 0, 1) := by decide +kernel
theorem dX1_passYearOf_8 : decode cX1_passYearOf 8 = .ok (.getfield 15, 3) := by decide +kernel
theorem dX1_passYearOf_11 : decode cX1_passYearOf 11 = .ok (.iload_n 2, 1) := by decide +kernel
theorem dX1_passYearOf_12 : decode cX1_passYearOf 12 = .ok (.iaload, 1) := by decide +kernel
theorem dX1_passYearOf_13 : decode cX1_passYearOf 13 = .ok (.aload_n 0, 1) := by decide +kernel
theorem dX1_passYearOf_14 : decode cX1_passYearOf 14 = .ok (.getfield 9, 3) := by decide +kernel
theorem dX1_passYearOf_17 : decode cX1_passYearOf 17 = .ok (.iload_n 2, 1) := by decide +kernel
theorem dX1_passYearOf_18 : decode cX1_passYearOf 18 = .ok (.iaload, 1) := by decide +kernel
theorem dX1_passYearOf_19 : decode cX1_passYearOf 19 = .ok (.invokevirtual 99, 3) := by decide +kernel
theorem dX1_passYearOf_22 : decode cX1_passYearOf 22 = .ok (.invokevirtual 103, 3) := by decide +kernel
theorem dX1_passYearOf_25 : decode cX1_passYearOf 25 = .ok (.aload_n 0, 1) := by decide +kernel
theorem dX1_passYearOf_26 : decode cX1_passYearOf 26 = .ok (.getfield 31, 3) := by decide +kernel
theorem dX1_passYearOf_29 : decode cX1_passYearOf 29 = .ok (.invokevirtual 68, 3) := by decide +kernel
theorem dX1_passYearOf_32 : decode cX1_passYearOf 32 = .ok (.ifCond .ne 4, 3) := by decide +kernel
theorem dX1_passYearOf_35 : decode cX1_passYearOf 35 = .ok (.return_, 1) := by decide +kernel
theorem dX1_passYearOf_36 : decode cX1_passYearOf 36 = .ok (.aload_n 0, 1) := by decide +kernel
theorem dX1_passYearOf_37 : decode cX1_passYearOf 37 = .ok (.iload_n 2, 1) := by decide +kernel
theorem dX1_passYearOf_38 : decode cX1_passYearOf 38 = .ok (.invokevirtual 107, 3) := by decide +kernel
theorem dX1_passYearOf_41 : decode cX1_passYearOf 41 = .ok (.invokestatic 111, 3) := by decide +kernel
theorem dX1_passYearOf_44 : decode cX1_passYearOf 44 = .ok (.istore_n 3, 1) := by decide +kernel
theorem dX1_passYearOf_45 : decode cX1_passYearOf 45 = .ok (.aload_n 0, 1) := by decide +kernel
theorem dX1_passYearOf_46 : decode cX1_passYearOf 46 = .ok (.iconst 1, 1) := by decide +kernel
theorem dX1_passYearOf_47 : decode cX1_passYearOf 47 = .ok (.aload_n 1, 1) := by decide +kernel
theorem dX1_passYearOf_48 : decode cX1_passYearOf 48 = .ok (.getfield 96, 3) := by decide +kernel
theorem dX1_passYearOf_51 : decode cX1_passYearOf 51 = .ok (.aload_n 0, 1) := by decide +kernel
theorem dX1_passYearOf_52 : decode cX1_passYearOf 52 = .ok (.getfield 58, 3) := by decide +kernel
theorem dX1_passYearOf_55 : decode cX1_passYearOf 55 = .ok (.bipush 13, 2) := by decide +kernel
theorem dX1_passYearOf_57 : decode cX1_passYearOf 57 = .ok (.irem, 1) := by decide +kernel
theorem dX1_passYearOf_58 : decode cX1_passYearOf 58 = .ok (.iload_n 3, 1) := by decide +kernel
theorem dX1_passYearOf_59 : decode cX1_passYearOf 59 = .ok (.invokevirtual 99, 3) := by decide +kernel
theorem dX1_passYearOf_62 : decode cX1_passYearOf 62 = .ok (.aload_n 0, 1) := by decide +kernel
theorem dX1_passYearOf_63 : decode cX1_passYearOf 63 = .ok (.getfield 15, 3) := by decide +kernel
theorem dX1_passYearOf_66 : decode cX1_passYearOf 66 = .ok (.iload_n 2, 1) := by decide +kernel
theorem dX1_passYearOf_67 : decode cX1_passYearOf 67 = .ok (.iaload, 1) := by decide +kernel
theorem dX1_passYearOf_68 : decode cX1_passYearOf 68 = .ok (.if_icmp .le 24, 3) := by decide +kernel
theorem dX1_passYearOf_71 : decode cX1_passYearOf 71 = .ok (.aload_n 1, 1) := by decide +kernel
theorem dX1_passYearOf_72 : decode cX1_passYearOf 72 = .ok (.iconst (-1), 1) := by decide +kernel
theorem dX1_passYearOf_73 : decode cX1_passYearOf 73 = .ok (.putfield 85, 3) := by decide +kernel
theorem dX1_passYearOf_76 : decode cX1_passYearOf 76 = .ok (.aload_n 0, 1) := by decide +kernel
theorem dX1_passYearOf_77 : decode cX1_passYearOf 77 = .ok (.sipush 999, 3) := by decide +kernel
theorem dX1_passYearOf_80 : decode cX1_passYearOf 80 = .ok (.aload_n 0, 1) := by decide +kernel
theorem dX1_passYearOf_81 : decode cX1_passYearOf 81 = .ok (.getfield 61, 3) := by decide +kernel
theorem dX1_passYearOf_84 : decode cX1_passYearOf 84 = .ok (.iconst 1, 1) := by decide +kernel
theorem dX1_passYearOf_85 : decode cX1_passYearOf 85 = .ok (.iadd, 1) := by decide +kernel
theorem dX1_passYearOf_86 : decode cX1_passYearOf 86 = .ok (.invokestatic 76, 3) := by decide +kernel
theorem dX1_passYearOf_89 : decode cX1_passYearOf 89 = .ok (.putfield 61, 3) := by decide +kernel
theorem dX1_passYearOf_92 : decode cX1_passYearOf 92 = .ok (.return_, 1) := by decide +kernel
def X1_passYearOf (i0 : Nat) (i1 : Nat) (v2 : Int32) (M : Mem) : Option (Mem) := (if ib v2 5 = true then ((X1_given i0 0 (M 3 i1 3) (M 11 i0 v2.toNatClampNeg) (M 10 i0 v2.toNatClampNeg) M).bind fun q2 => ((X3_liveYear i1 q2.1 q2.2).bind fun q3 => (if (X2_stands (2 * i0 + 1) q3) = 0 then (some q3) else ((X1_potsIn i0 v2 q3).bind fun q4 => ((X1_given i0 1 (q3 3 i1 3) (jrem (q3 1 i0 6) 13) (J6_bitCount_0f7a4 q4) q3).bind fun q5 => (if (q5.2 11 i0 v2.toNatClampNeg) < q5.1 then (some (up3 (up3 q5.2 3 i1 2 (-1)) 1 i0 7 (jmin 999 ((q5.2 1 i0 7) + 1)))) else (some q5.2))))))) else none)
set_option maxRecDepth 100000 in
set_option maxHeartbeats 4000000 in
theorem X1_passYearOf_ok  {i0 : Nat} {i1 : Nat} {v2 : Int32} {M N : Mem} {res : Mem} (hi0 : i0 < 3) (hi1 : i1 < 30) (h : X1_passYearOf i0 i1 v2 M = some res) : Spec mt_X1_passYearOf 3 [.inr (.inr (1, i0)), .inr (.inr (3, i1)), .inl v2] (M, N) none (res, N) := by
  unfold X1_passYearOf at h
  refine Spec_of_G (by decide) rfl (Nat.le_of_ble_eq_true rfl) ?_
  refine G_sub [(0, .inr (.inr (1, i0))), (1, .inr (.inr (3, i1))), (2, .inl v2)] [0, 1, 2] rfl ?_
  refine G_aload_n dX1_passYearOf_0 rfl ?_
  refine G_aload_n dX1_passYearOf_1 rfl ?_
  refine G_iconst (v := 0) dX1_passYearOf_2 (by decide) ?_
  refine G_aload_n dX1_passYearOf_3 rfl ?_
  refine fg_X1_96 (v := (M 3 i1 3)) rfl rfl hi1 dX1_passYearOf_4 ?_
  refine G_aload_n dX1_passYearOf_7 rfl ?_
  refine fg_X1_15 rfl hi0 dX1_passYearOf_8 ?_
  refine G_iload_n dX1_passYearOf_11 rfl ?_
  obtain ⟨hb1, h⟩ := chk h
  have lhb1 := ib_lt hb1
  refine al_11 (kk := v2.toNatClampNeg) (v := (M 11 i0 v2.toNatClampNeg)) hi0 hb1 rfl rfl dX1_passYearOf_12 ?_
  refine G_aload_n dX1_passYearOf_13 rfl ?_
  refine fg_X1_9 rfl hi0 dX1_passYearOf_14 ?_
  refine G_iload_n dX1_passYearOf_17 rfl ?_
  refine al_10 (kk := v2.toNatClampNeg) (v := (M 10 i0 v2.toNatClampNeg)) hi0 hb1 rfl rfl dX1_passYearOf_18 ?_
  obtain ⟨q2, hq2, h⟩ := bnd h
  refine G_callVv (T := TX1) (N := 8) (f := 1) (i := i0) (X1_given_ok hi0 hq2) ok_X1_given ml_X1_99 (by decide) rfl (by decide) (show i0 < 3 from hi0) (by decide) rfl rfl (Nat.le_of_ble_eq_true rfl) dX1_passYearOf_19 ?_
  obtain ⟨q3, hq3, h⟩ := bnd h
  refine G_callVn (T := TX3) (N := 8) (f := 3) (i := i1) (X3_liveYear_ok hi1 hq3) ok_X3_liveYear ml_X1_103 (by decide) rfl (by decide) (show i1 < 30 from hi1) (by decide) rfl rfl (Nat.le_of_ble_eq_true rfl) dX1_passYearOf_22 ?_
  refine G_aload_n dX1_passYearOf_25 rfl ?_
  refine fg_X1_31 rfl hi0 dX1_passYearOf_26 ?_
  refine G_callVv (T := TX2) (N := 3) (f := 2) (i := (2 * i0 + 1)) (X2_stands_ok (by omega) rfl) ok_X2_stands ml_X1_68 (by decide) rfl (by decide) (show (2 * i0 + 1) < 7 from (by omega)) (by decide) rfl rfl (Nat.le_of_ble_eq_true rfl) dX1_passYearOf_29 ?_
  refine G_if_ne (tgt := 36) dX1_passYearOf_32 (by decide) (fun hc1 => ?_) (fun hc1 => ?_)
  · replace h := (if_neg hc1).symm.trans h
    refine G_aload_n dX1_passYearOf_36 rfl ?_
    refine G_iload_n dX1_passYearOf_37 rfl ?_
    obtain ⟨q4, hq4, h⟩ := bnd h
    refine G_callVv (T := TX1) (N := 8) (f := 1) (i := i0) (X1_potsIn_ok hi0 hq4) ok_X1_potsIn ml_X1_107 (by decide) rfl (by decide) (show i0 < 3 from hi0) (by decide) rfl rfl (Nat.le_of_ble_eq_true rfl) dX1_passYearOf_38 ?_
    refine G_callSv  (J6_bitCount_0f7a4_ok rfl) ok_J6_bitCount_0f7a4 ml_X1_111 (by decide) rfl rfl (Nat.le_of_ble_eq_true rfl) dX1_passYearOf_41 ?_
    refine G_istore_n (L2 := [(3, .inl (J6_bitCount_0f7a4 q4)), (0, .inr (.inr (1, i0))), (1, .inr (.inr (3, i1))), (2, .inl v2)]) dX1_passYearOf_44 (by decide) rfl ?_
    refine G_aload_n dX1_passYearOf_45 rfl ?_
    refine G_iconst (v := 1) dX1_passYearOf_46 (by decide) ?_
    refine G_aload_n dX1_passYearOf_47 rfl ?_
    refine fg_X1_96 (v := (q3 3 i1 3)) rfl rfl hi1 dX1_passYearOf_48 ?_
    refine G_aload_n dX1_passYearOf_51 rfl ?_
    refine fg_X1_58 (v := (q3 1 i0 6)) rfl rfl hi0 dX1_passYearOf_52 ?_
    refine G_bipush (v := 13) dX1_passYearOf_55 (by decide) ?_
    refine G_irem (by decide) dX1_passYearOf_57 ?_
    refine G_iload_n dX1_passYearOf_58 rfl ?_
    obtain ⟨q5, hq5, h⟩ := bnd h
    refine G_callVv (T := TX1) (N := 8) (f := 1) (i := i0) (X1_given_ok hi0 hq5) ok_X1_given ml_X1_99 (by decide) rfl (by decide) (show i0 < 3 from hi0) (by decide) rfl rfl (Nat.le_of_ble_eq_true rfl) dX1_passYearOf_59 ?_
    refine G_aload_n dX1_passYearOf_62 rfl ?_
    refine fg_X1_15 rfl hi0 dX1_passYearOf_63 ?_
    refine G_iload_n dX1_passYearOf_66 rfl ?_
    refine al_11 (kk := v2.toNatClampNeg) (v := (q5.2 11 i0 v2.toNatClampNeg)) hi0 hb1 rfl rfl dX1_passYearOf_67 ?_
    refine G_icmp_le (tgt := 92) dX1_passYearOf_68 (by decide) (fun hc2 => ?_) (fun hc2 => ?_)
    · replace h := (if_neg hc2).symm.trans h
      obtain rfl := Option.some.inj h
      exact G_ret dX1_passYearOf_92 trivial rfl rfl
    · replace h := (if_pos hc2).symm.trans h
      refine G_aload_n dX1_passYearOf_71 rfl ?_
      refine G_iconst (v := (-1)) dX1_passYearOf_72 (by decide) ?_
      refine fp_X1_85 rfl hi1 dX1_passYearOf_73 ?_
      refine G_aload_n dX1_passYearOf_76 rfl ?_
      refine G_sipush (v := 999) dX1_passYearOf_77 (by decide) ?_
      refine G_aload_n dX1_passYearOf_80 rfl ?_
      refine fg_X1_61 (v := (q5.2 1 i0 7)) (up3_f (by decide)) rfl hi0 dX1_passYearOf_81 ?_
      refine G_iconst (v := 1) dX1_passYearOf_84 (by decide) ?_
      refine G_iadd dX1_passYearOf_85 ?_
      refine G_min ml_X1_76 st_min in_Math cd_min (by decide) (Nat.le_of_ble_eq_true rfl) dX1_passYearOf_86 ?_
      refine fp_X1_61 rfl hi0 dX1_passYearOf_89 ?_
      obtain rfl := Option.some.inj h
      exact G_ret dX1_passYearOf_92 trivial rfl rfl
  · replace h := (if_pos hc1).symm.trans h
    obtain rfl := Option.some.inj h
    exact G_ret dX1_passYearOf_35 trivial rfl rfl

theorem dX1_passYears_0 : decode cX1_passYears 0 = .ok (.iconst 0, 1) := by decide +kernel
theorem dX1_passYears_1 : decode cX1_passYears 1 = .ok (.istore_n 2, 1) := by decide +kernel
theorem dX1_passYears_2 : decode cX1_passYears 2 = .ok (.iload_n 2, 1) := by decide +kernel
theorem dX1_passYears_3 : decode cX1_passYears 3 = .ok (.iload_n 1, 1) := by decide +kernel
theorem dX1_passYears_4 : decode cX1_passYears 4 = .ok (.if_icmp .ge 69, 3) := by decide +kernel
theorem dX1_passYears_7 : decode cX1_passYears 7 = .ok (.iconst 0, 1) := by decide +kernel
theorem dX1_passYears_8 : decode cX1_passYears 8 = .ok (.istore_n 3, 1) := by decide +kernel
theorem dX1_passYears_9 : decode cX1_passYears 9 = .ok (.iload_n 3, 1) := by decide +kernel
theorem dX1_passYears_10 : decode cX1_passYears 10 = .ok (.aload_n 0, 1) := by decide +kernel
theorem dX1_passYears_11 : decode cX1_passYears 11 = .ok (.getfield 47, 3) := by decide +kernel
theorem dX1_passYears_14 : decode cX1_passYears 14 = .ok (.if_icmp .ge 43, 3) := by decide +kernel
theorem dX1_passYears_17 : decode cX1_passYears 17 = .ok (.aload_n 0, 1) := by decide +kernel
theorem dX1_passYears_18 : decode cX1_passYears 18 = .ok (.getfield 20, 3) := by decide +kernel
theorem dX1_passYears_21 : decode cX1_passYears 21 = .ok (.iload_n 3, 1) := by decide +kernel
theorem dX1_passYears_22 : decode cX1_passYears 22 = .ok (.aaload, 1) := by decide +kernel
theorem dX1_passYears_23 : decode cX1_passYears 23 = .ok (.getfield 85, 3) := by decide +kernel
theorem dX1_passYears_26 : decode cX1_passYears 26 = .ok (.invokestatic 88, 3) := by decide +kernel
theorem dX1_passYears_29 : decode cX1_passYears 29 = .ok (.ifCond .eq 22, 3) := by decide +kernel
theorem dX1_passYears_32 : decode cX1_passYears 32 = .ok (.aload_n 0, 1) := by decide +kernel
theorem dX1_passYears_33 : decode cX1_passYears 33 = .ok (.aload_n 0, 1) := by decide +kernel
theorem dX1_passYears_34 : decode cX1_passYears 34 = .ok (.getfield 20, 3) := by decide +kernel
theorem dX1_passYears_37 : decode cX1_passYears 37 = .ok (.iload_n 3, 1) := by decide +kernel
theorem dX1_passYears_38 : decode cX1_passYears 38 = .ok (.aaload, 1) := by decide +kernel
theorem dX1_passYears_39 : decode cX1_passYears 39 = .ok (.aload_n 0, 1) := by decide +kernel
theorem dX1_passYears_40 : decode cX1_passYears 40 = .ok (.getfield 20, 3) := by decide +kernel
theorem dX1_passYears_43 : decode cX1_passYears 43 = .ok (.iload_n 3, 1) := by decide +kernel
theorem dX1_passYears_44 : decode cX1_passYears 44 = .ok (.aaload, 1) := by decide +kernel
theorem dX1_passYears_45 : decode cX1_passYears 45 = .ok (.getfield 85, 3) := by decide +kernel
theorem dX1_passYears_48 : decode cX1_passYears 48 = .ok (.invokevirtual 92, 3) := by decide +kernel
theorem dX1_passYears_51 : decode cX1_passYears 51 = .ok (.iinc 3 1, 3) := by decide +kernel
theorem dX1_passYears_54 : decode cX1_passYears 54 = .ok (.goto (-45), 3) := by decide +kernel
theorem dX1_passYears_57 : decode cX1_passYears 57 = .ok (.aload_n 0, 1) := by decide +kernel
theorem dX1_passYears_58 : decode cX1_passYears 58 = .ok (.dup, 1) := by decide +kernel
theorem dX1_passYears_59 : decode cX1_passYears 59 = .ok (.getfield 58, 3) := by decide +kernel
theorem dX1_passYears_62 : decode cX1_passYears 62 = .ok (.iconst 1, 1) := by decide +kernel
theorem dX1_passYears_63 : decode cX1_passYears 63 = .ok (.iadd, 1) := by decide +kernel
theorem dX1_passYears_64 : decode cX1_passYears 64 = .ok (.putfield 58, 3) := by decide +kernel
theorem dX1_passYears_67 : decode cX1_passYears 67 = .ok (.iinc 2 1, 3) := by decide +kernel
theorem dX1_passYears_70 : decode cX1_passYears 70 = .ok (.goto (-68), 3) := by decide +kernel
theorem dX1_passYears_73 : decode cX1_passYears 73 = .ok (.return_, 1) := by decide +kernel
def X1_passYears_L9 : Nat → Nat → Int32 → Int32 → Int32 → Mem → Option (Mem)
  | 0, _, _, _, _, _ => none
  | fu + 1, i0, v1, v2, v3, M => (if v3 < (M 1 i0 5) then (if ib v3 10 = true then (if (X7_isHouse (M 3 (10 * i0 + v3.toNatClampNeg) 2)) = 0 then (X1_passYears_L9 fu i0 v1 v2 (v3 + 1) M) else ((X1_passYearOf i0 (10 * i0 + v3.toNatClampNeg) (M 3 (10 * i0 + v3.toNatClampNeg) 2) M).bind fun q2 => (X1_passYears_L9 fu i0 v1 v2 (v3 + 1) q2))) else none) else (some M))
set_option maxRecDepth 100000 in
set_option maxHeartbeats 4000000 in
theorem X1_passYears_L9_ok  {r : Option AV} {M' : MM} : ∀ (fu : Nat) (i0 : Nat) (v1 : Int32) (v2 : Int32) (v3 : Int32) (M N : Mem) {res : Mem} (hi0 : i0 < 3) (h : X1_passYears_L9 fu i0 v1 v2 v3 M = some res) (K : G mt_X1_passYears 4 r M' 57 [(0, .inr (.inr (1, i0))), (1, .inl v1), (2, .inl v2)] [] (res, N)), G mt_X1_passYears 4 r M' 9 [(0, .inr (.inr (1, i0))), (1, .inl v1), (2, .inl v2), (3, .inl v3)] [] (M, N) := by
  intro fu
  induction fu with
  | zero =>
    intro i0 v1 v2 v3 M N res hi0 h
    cases h
  | succ fu ih =>
    intro i0 v1 v2 v3 M N res hi0 h K
    replace h : (if v3 < (M 1 i0 5) then (if ib v3 10 = true then (if (X7_isHouse (M 3 (10 * i0 + v3.toNatClampNeg) 2)) = 0 then (X1_passYears_L9 fu i0 v1 v2 (v3 + 1) M) else ((X1_passYearOf i0 (10 * i0 + v3.toNatClampNeg) (M 3 (10 * i0 + v3.toNatClampNeg) 2) M).bind fun q2 => (X1_passYears_L9 fu i0 v1 v2 (v3 + 1) q2))) else none) else (some M)) = some res := h
    refine G_iload_n dX1_passYears_9 rfl ?_
    refine G_aload_n dX1_passYears_10 rfl ?_
    refine fg_X1_47 (v := (M 1 i0 5)) rfl rfl hi0 dX1_passYears_11 ?_
    refine G_icmp_ge (tgt := 57) dX1_passYears_14 (by decide) (fun hc2 => ?_) (fun hc2 => ?_)
    · replace h := (if_neg hc2).symm.trans h
      refine G_sub [(0, .inr (.inr (1, i0))), (1, .inl v1), (2, .inl v2)] [0, 1, 2] rfl ?_
      obtain rfl := Option.some.inj h
      exact K
    · replace h := (if_pos hc2).symm.trans h
      refine G_aload_n dX1_passYears_17 rfl ?_
      refine fg_X1_20 rfl hi0 dX1_passYears_18 ?_
      refine G_iload_n dX1_passYears_21 rfl ?_
      obtain ⟨hb1, h⟩ := chk h
      have lhb1 := ib_lt hb1
      refine G_aald3 (by decide) (show i0 < 3 from hi0) (by decide) rfl hb1 dX1_passYears_22 ?_
      refine fg_X1_85 (v := (M 3 (10 * i0 + v3.toNatClampNeg) 2)) rfl rfl (by omega) dX1_passYears_23 ?_
      refine G_callSNv  (X7_isHouse_ok rfl) ok_X7_isHouse (by first | exact List.mem_cons_self | exact List.mem_cons_of_mem _ List.mem_cons_self) (by decide) rfl rfl (Nat.le_of_ble_eq_true rfl) dX1_passYears_26 ?_
      refine G_if_eq (tgt := 51) dX1_passYears_29 (by decide) (fun hc3 => ?_) (fun hc3 => ?_)
      · replace h := (if_pos hc3).symm.trans h
        refine G_iinc (v := (v3 + 1)) (L2 := [(3, .inl (v3 + 1)), (0, .inr (.inr (1, i0))), (1, .inl v1), (2, .inl v2)]) dX1_passYears_51 rfl (by first | rfl | (show _ + Int32.ofInt _ = _; rfl)) (by decide) rfl ?_
        refine G_goto (tgt := 9) dX1_passYears_54 (by decide) ?_
        refine G_sub [(0, .inr (.inr (1, i0))), (1, .inl v1), (2, .inl v2), (3, .inl (v3 + 1))] [1, 2, 3, 0] rfl ?_
        exact ih i0 v1 v2 (v3 + 1) M _ hi0 h K
      · replace h := (if_neg hc3).symm.trans h
        refine G_aload_n dX1_passYears_32 rfl ?_
        refine G_aload_n dX1_passYears_33 rfl ?_
        refine fg_X1_20 rfl hi0 dX1_passYears_34 ?_
        refine G_iload_n dX1_passYears_37 rfl ?_
        refine G_aald3 (by decide) (show i0 < 3 from hi0) (by decide) rfl hb1 dX1_passYears_38 ?_
        refine G_aload_n dX1_passYears_39 rfl ?_
        refine fg_X1_20 rfl hi0 dX1_passYears_40 ?_
        refine G_iload_n dX1_passYears_43 rfl ?_
        refine G_aald3 (by decide) (show i0 < 3 from hi0) (by decide) rfl hb1 dX1_passYears_44 ?_
        refine fg_X1_85 (v := (M 3 (10 * i0 + v3.toNatClampNeg) 2)) rfl rfl (by omega) dX1_passYears_45 ?_
        obtain ⟨q2, hq2, h⟩ := bnd h
        refine G_callVn (T := TX1) (N := 8) (f := 1) (i := i0) (X1_passYearOf_ok hi0 (by omega) hq2) ok_X1_passYearOf ml_X1_92 (by decide) rfl (by decide) (show i0 < 3 from hi0) (by decide) rfl rfl (Nat.le_of_ble_eq_true rfl) dX1_passYears_48 ?_
        refine G_iinc (v := (v3 + 1)) (L2 := [(3, .inl (v3 + 1)), (0, .inr (.inr (1, i0))), (1, .inl v1), (2, .inl v2)]) dX1_passYears_51 rfl (by first | rfl | (show _ + Int32.ofInt _ = _; rfl)) (by decide) rfl ?_
        refine G_goto (tgt := 9) dX1_passYears_54 (by decide) ?_
        refine G_sub [(0, .inr (.inr (1, i0))), (1, .inl v1), (2, .inl v2), (3, .inl (v3 + 1))] [1, 2, 3, 0] rfl ?_
        exact ih i0 v1 v2 (v3 + 1) q2 _ hi0 h K

def X1_passYears_L2 : Nat → Nat → Int32 → Int32 → Mem → Option (Mem)
  | 0, _, _, _, _ => none
  | fu + 1, i0, v1, v2, M => (if v2 < v1 then ((X1_passYears_L9 400 i0 v1 v2 0 M).bind fun q3 => (X1_passYears_L2 fu i0 v1 (v2 + 1) (up3 q3 1 i0 6 ((q3 1 i0 6) + 1)))) else (some M))
set_option maxRecDepth 100000 in
set_option maxHeartbeats 4000000 in
theorem X1_passYears_L2_ok  {r : Option AV} {M' : MM} : ∀ (fu : Nat) (i0 : Nat) (v1 : Int32) (v2 : Int32) (M N : Mem) {res : Mem} (hi0 : i0 < 3) (h : X1_passYears_L2 fu i0 v1 v2 M = some res) (K : G mt_X1_passYears 4 r M' 73 [] [] (res, N)), G mt_X1_passYears 4 r M' 2 [(0, .inr (.inr (1, i0))), (1, .inl v1), (2, .inl v2)] [] (M, N) := by
  intro fu
  induction fu with
  | zero =>
    intro i0 v1 v2 M N res hi0 h
    cases h
  | succ fu ih =>
    intro i0 v1 v2 M N res hi0 h K
    replace h : (if v2 < v1 then ((X1_passYears_L9 400 i0 v1 v2 0 M).bind fun q3 => (X1_passYears_L2 fu i0 v1 (v2 + 1) (up3 q3 1 i0 6 ((q3 1 i0 6) + 1)))) else (some M)) = some res := h
    refine G_iload_n dX1_passYears_2 rfl ?_
    refine G_iload_n dX1_passYears_3 rfl ?_
    refine G_icmp_ge (tgt := 73) dX1_passYears_4 (by decide) (fun hc1 => ?_) (fun hc1 => ?_)
    · replace h := (if_neg hc1).symm.trans h
      refine G_sub [] [] rfl ?_
      obtain rfl := Option.some.inj h
      exact K
    · replace h := (if_pos hc1).symm.trans h
      refine G_iconst (v := 0) dX1_passYears_7 (by decide) ?_
      refine G_istore_n (L2 := [(3, .inl 0), (0, .inr (.inr (1, i0))), (1, .inl v1), (2, .inl v2)]) dX1_passYears_8 (by decide) rfl ?_
      refine G_sub [(0, .inr (.inr (1, i0))), (1, .inl v1), (2, .inl v2), (3, .inl 0)] [1, 2, 3, 0] rfl ?_
      obtain ⟨q3, hq3, h⟩ := bnd h
      refine X1_passYears_L9_ok  400 i0 v1 v2 0 M _ hi0 hq3 ?_
      refine G_aload_n dX1_passYears_57 rfl ?_
      refine G_dup rfl dX1_passYears_58 ?_
      refine fg_X1_58 (v := (q3 1 i0 6)) rfl rfl hi0 dX1_passYears_59 ?_
      refine G_iconst (v := 1) dX1_passYears_62 (by decide) ?_
      refine G_iadd dX1_passYears_63 ?_
      refine fp_X1_58 rfl hi0 dX1_passYears_64 ?_
      refine G_iinc (v := (v2 + 1)) (L2 := [(2, .inl (v2 + 1)), (0, .inr (.inr (1, i0))), (1, .inl v1)]) dX1_passYears_67 rfl (by first | rfl | (show _ + Int32.ofInt _ = _; rfl)) (by decide) rfl ?_
      refine G_goto (tgt := 2) dX1_passYears_70 (by decide) ?_
      refine G_sub [(0, .inr (.inr (1, i0))), (1, .inl v1), (2, .inl (v2 + 1))] [1, 2, 0] rfl ?_
      exact ih i0 v1 (v2 + 1) (up3 q3 1 i0 6 ((q3 1 i0 6) + 1)) _ hi0 h K

def X1_passYears (i0 : Nat) (v1 : Int32) (M : Mem) : Option (Mem) := ((X1_passYears_L2 400 i0 v1 0 M).bind fun q4 => (some q4))
set_option maxRecDepth 100000 in
set_option maxHeartbeats 4000000 in
theorem X1_passYears_ok  {i0 : Nat} {v1 : Int32} {M N : Mem} {res : Mem} (hi0 : i0 < 3) (h : X1_passYears i0 v1 M = some res) : Spec mt_X1_passYears 4 [.inr (.inr (1, i0)), .inl v1] (M, N) none (res, N) := by
  unfold X1_passYears at h
  refine Spec_of_G (by decide) rfl (Nat.le_of_ble_eq_true rfl) ?_
  refine G_sub [(0, .inr (.inr (1, i0))), (1, .inl v1)] [0, 1] rfl ?_
  refine G_iconst (v := 0) dX1_passYears_0 (by decide) ?_
  refine G_istore_n (L2 := [(2, .inl 0), (0, .inr (.inr (1, i0))), (1, .inl v1)]) dX1_passYears_1 (by decide) rfl ?_
  refine G_sub [(0, .inr (.inr (1, i0))), (1, .inl v1), (2, .inl 0)] [1, 2, 0] rfl ?_
  obtain ⟨q4, hq4, h⟩ := bnd h
  refine X1_passYears_L2_ok  400 i0 v1 0 M _ hi0 hq4 ?_
  obtain rfl := Option.some.inj h
  exact G_ret dX1_passYears_73 trivial rfl rfl

theorem dX1_allHandles_0 : decode cX1_allHandles 0 = .ok (.iconst 0, 1) := by decide +kernel
theorem dX1_allHandles_1 : decode cX1_allHandles 1 = .ok (.istore_n 1, 1) := by decide +kernel
theorem dX1_allHandles_2 : decode cX1_allHandles 2 = .ok (.iconst 0, 1) := by decide +kernel
theorem dX1_allHandles_3 : decode cX1_allHandles 3 = .ok (.istore_n 2, 1) := by decide +kernel
theorem dX1_allHandles_4 : decode cX1_allHandles 4 = .ok (.iload_n 2, 1) := by decide +kernel
theorem dX1_allHandles_5 : decode cX1_allHandles 5 = .ok (.aload_n 0, 1) := by decide +kernel
theorem dX1_allHandles_6 : decode cX1_allHandles 6 = .ok (.getfield 47, 3) := by decide +kernel
theorem dX1_allHandles_9 : decode cX1_allHandles 9 = .ok (.if_icmp .ge 21, 3) := by decide +kernel
theorem dX1_allHandles_12 : decode cX1_allHandles 12 = .ok (.iload_n 1, 1) := by decide +kernel
theorem dX1_allHandles_13 : decode cX1_allHandles 13 = .ok (.aload_n 0, 1) := by decide +kernel
theorem dX1_allHandles_14 : decode cX1_allHandles 14 = .ok (.getfield 20, 3) := by decide +kernel
theorem dX1_allHandles_17 : decode cX1_allHandles 17 = .ok (.iload_n 2, 1) := by decide +kernel
theorem dX1_allHandles_18 : decode cX1_allHandles 18 = .ok (.aaload, 1) := by decide +kernel
theorem dX1_allHandles_19 : decode cX1_allHandles 19 = .ok (.getfield 116, 3) := by decide +kernel
theorem dX1_allHandles_22 : decode cX1_allHandles 22 = .ok (.iadd, 1) := by decide +kernel
theorem dX1_allHandles_23 : decode cX1_allHandles 23 = .ok (.istore_n 1, 1) := by decide +kernel
theorem dX1_allHandles_24 : decode cX1_allHandles 24 = .ok (.iinc 2 1, 3) := by decide +kernel
theorem dX1_allHandles_27 : decode cX1_allHandles 27 = .ok (.goto (-23), 3) := by decide +kernel
theorem dX1_allHandles_30 : decode cX1_allHandles 30 = .ok (.iload_n 1, 1) := by decide +kernel
theorem dX1_allHandles_31 : decode cX1_allHandles 31 = .ok (.ireturn, 1) := by decide +kernel
def X1_allHandles_L4 : Nat → Nat → Int32 → Int32 → Mem → Option (Int32)
  | 0, _, _, _, _ => none
  | fu + 1, i0, v1, v2, M => (if v2 < (M 1 i0 5) then (if ib v2 10 = true then (X1_allHandles_L4 fu i0 (v1 + (M 3 (10 * i0 + v2.toNatClampNeg) 6)) (v2 + 1) M) else none) else (some v1))
set_option maxRecDepth 100000 in
set_option maxHeartbeats 4000000 in
theorem X1_allHandles_L4_ok  {r : Option AV} {M' : MM} : ∀ (fu : Nat) (i0 : Nat) (v1 : Int32) (v2 : Int32) (M N : Mem) {res : Int32} (hi0 : i0 < 3) (h : X1_allHandles_L4 fu i0 v1 v2 M = some res) (K : G mt_X1_allHandles 0 r M' 30 [(1, .inl res)] [] (M, N)), G mt_X1_allHandles 0 r M' 4 [(0, .inr (.inr (1, i0))), (1, .inl v1), (2, .inl v2)] [] (M, N) := by
  intro fu
  induction fu with
  | zero =>
    intro i0 v1 v2 M N res hi0 h
    cases h
  | succ fu ih =>
    intro i0 v1 v2 M N res hi0 h K
    replace h : (if v2 < (M 1 i0 5) then (if ib v2 10 = true then (X1_allHandles_L4 fu i0 (v1 + (M 3 (10 * i0 + v2.toNatClampNeg) 6)) (v2 + 1) M) else none) else (some v1)) = some res := h
    refine G_iload_n dX1_allHandles_4 rfl ?_
    refine G_aload_n dX1_allHandles_5 rfl ?_
    refine fg_X1_47 (v := (M 1 i0 5)) rfl rfl hi0 dX1_allHandles_6 ?_
    refine G_icmp_ge (tgt := 30) dX1_allHandles_9 (by decide) (fun hc1 => ?_) (fun hc1 => ?_)
    · replace h := (if_neg hc1).symm.trans h
      refine G_sub [(1, .inl v1)] [1] rfl ?_
      obtain rfl := Option.some.inj h
      exact K
    · replace h := (if_pos hc1).symm.trans h
      refine G_iload_n dX1_allHandles_12 rfl ?_
      refine G_aload_n dX1_allHandles_13 rfl ?_
      refine fg_X1_20 rfl hi0 dX1_allHandles_14 ?_
      refine G_iload_n dX1_allHandles_17 rfl ?_
      obtain ⟨hb1, h⟩ := chk h
      have lhb1 := ib_lt hb1
      refine G_aald3 (by decide) (show i0 < 3 from hi0) (by decide) rfl hb1 dX1_allHandles_18 ?_
      refine fg_X1_116 (v := (M 3 (10 * i0 + v2.toNatClampNeg) 6)) rfl rfl (by omega) dX1_allHandles_19 ?_
      refine G_iadd dX1_allHandles_22 ?_
      refine G_istore_n (L2 := [(1, .inl (v1 + (M 3 (10 * i0 + v2.toNatClampNeg) 6))), (0, .inr (.inr (1, i0))), (2, .inl v2)]) dX1_allHandles_23 (by decide) rfl ?_
      refine G_iinc (v := (v2 + 1)) (L2 := [(2, .inl (v2 + 1)), (1, .inl (v1 + (M 3 (10 * i0 + v2.toNatClampNeg) 6))), (0, .inr (.inr (1, i0)))]) dX1_allHandles_24 rfl (by first | rfl | (show _ + Int32.ofInt _ = _; rfl)) (by decide) rfl ?_
      refine G_goto (tgt := 4) dX1_allHandles_27 (by decide) ?_
      refine G_sub [(0, .inr (.inr (1, i0))), (1, .inl (v1 + (M 3 (10 * i0 + v2.toNatClampNeg) 6))), (2, .inl (v2 + 1))] [2, 1, 0] rfl ?_
      exact ih i0 (v1 + (M 3 (10 * i0 + v2.toNatClampNeg) 6)) (v2 + 1) M _ hi0 h K

def X1_allHandles (i0 : Nat) (M : Mem) : Option (Int32) := ((X1_allHandles_L4 400 i0 0 0 M).bind fun q2 => (some q2))
set_option maxRecDepth 100000 in
set_option maxHeartbeats 4000000 in
theorem X1_allHandles_ok  {i0 : Nat} {M N : Mem} {res : Int32} (hi0 : i0 < 3) (h : X1_allHandles i0 M = some res) : Spec mt_X1_allHandles 0 [.inr (.inr (1, i0))] (M, N) (some (.inl res)) (M, N) := by
  unfold X1_allHandles at h
  refine Spec_of_G (by decide) rfl (Nat.le_of_ble_eq_true rfl) ?_
  refine G_sub [(0, .inr (.inr (1, i0)))] [0] rfl ?_
  refine G_iconst (v := 0) dX1_allHandles_0 (by decide) ?_
  refine G_istore_n (L2 := [(1, .inl 0), (0, .inr (.inr (1, i0)))]) dX1_allHandles_1 (by decide) rfl ?_
  refine G_iconst (v := 0) dX1_allHandles_2 (by decide) ?_
  refine G_istore_n (L2 := [(2, .inl 0), (1, .inl 0), (0, .inr (.inr (1, i0)))]) dX1_allHandles_3 (by decide) rfl ?_
  refine G_sub [(0, .inr (.inr (1, i0))), (1, .inl 0), (2, .inl 0)] [2, 1, 0] rfl ?_
  obtain ⟨q2, hq2, h⟩ := bnd h
  refine X1_allHandles_L4_ok  400 i0 0 0 M _ hi0 hq2 ?_
  refine G_iload_n dX1_allHandles_30 rfl ?_
  obtain rfl := Option.some.inj h
  exact G_ret dX1_allHandles_31 trivial rfl rfl

theorem dX1_copy_0 : decode cX1_copy 0 = .ok (.aload_n 1, 1) := by decide +kernel
theorem dX1_copy_1 : decode cX1_copy 1 = .ok (.getfield 9, 3) := by decide +kernel
theorem dX1_copy_4 : decode cX1_copy 4 = .ok (.iconst 0, 1) := by decide +kernel
theorem dX1_copy_5 : decode cX1_copy 5 = .ok (.aload_n 0, 1) := by decide +kernel
theorem dX1_copy_6 : decode cX1_copy 6 = .ok (.getfield 9, 3) := by decide +kernel
theorem dX1_copy_9 : decode cX1_copy 9 = .ok (.iconst 0, 1) := by decide +kernel
theorem dX1_copy_10 : decode cX1_copy 10 = .ok (.iconst 5, 1) := by decide +kernel
theorem dX1_copy_11 : decode cX1_copy 11 = .ok (.invokestatic 41, 3) := by decide +kernel
theorem dX1_copy_14 : decode cX1_copy 14 = .ok (.aload_n 1, 1) := by decide +kernel
theorem dX1_copy_15 : decode cX1_copy 15 = .ok (.getfield 15, 3) := by decide +kernel
theorem dX1_copy_18 : decode cX1_copy 18 = .ok (.iconst 0, 1) := by decide +kernel
theorem dX1_copy_19 : decode cX1_copy 19 = .ok (.aload_n 0, 1) := by decide +kernel
theorem dX1_copy_20 : decode cX1_copy 20 = .ok (.getfield 15, 3) := by decide +kernel
theorem dX1_copy_23 : decode cX1_copy 23 = .ok (.iconst 0, 1) := by decide +kernel
theorem dX1_copy_24 : decode cX1_copy 24 = .ok (.iconst 5, 1) := by decide +kernel
theorem dX1_copy_25 : decode cX1_copy 25 = .ok (.invokestatic 41, 3) := by decide +kernel
theorem dX1_copy_28 : decode cX1_copy 28 = .ok (.iconst 0, 1) := by decide +kernel
theorem dX1_copy_29 : decode cX1_copy 29 = .ok (.istore_n 2, 1) := by decide +kernel
theorem dX1_copy_30 : decode cX1_copy 30 = .ok (.iload_n 2, 1) := by decide +kernel
theorem dX1_copy_31 : decode cX1_copy 31 = .ok (.aload_n 1, 1) := by decide +kernel
theorem dX1_copy_32 : decode cX1_copy 32 = .ok (.getfield 47, 3) := by decide +kernel
theorem dX1_copy_35 : decode cX1_copy 35 = .ok (.if_icmp .ge 24, 3) := by decide +kernel
theorem dX1_copy_38 : decode cX1_copy 38 = .ok (.aload_n 0, 1) := by decide +kernel
theorem dX1_copy_39 : decode cX1_copy 39 = .ok (.getfield 20, 3) := by decide +kernel
theorem dX1_copy_42 : decode cX1_copy 42 = .ok (.iload_n 2, 1) := by decide +kernel
theorem dX1_copy_43 : decode cX1_copy 43 = .ok (.aaload, 1) := by decide +kernel
theorem dX1_copy_44 : decode cX1_copy 44 = .ok (.aload_n 1, 1) := by decide +kernel
theorem dX1_copy_45 : decode cX1_copy 45 = .ok (.getfield 20, 3) := by decide +kernel
theorem dX1_copy_48 : decode cX1_copy 48 = .ok (.iload_n 2, 1) := by decide +kernel
theorem dX1_copy_49 : decode cX1_copy 49 = .ok (.aaload, 1) := by decide +kernel
theorem dX1_copy_50 : decode cX1_copy 50 = .ok (.invokevirtual 51, 3) := by decide +kernel
theorem dX1_copy_53 : decode cX1_copy 53 = .ok (.iinc 2 1, 3) := by decide +kernel
theorem dX1_copy_56 : decode cX1_copy 56 = .ok (.goto (-26), 3) := by decide +kernel
theorem dX1_copy_59 : decode cX1_copy 59 = .ok (.aload_n 0, 1) := by decide +kernel
theorem dX1_copy_60 : decode cX1_copy 60 = .ok (.getfield 27, 3) := by decide +kernel
theorem dX1_copy_63 : decode cX1_copy 63 = .ok (.aload_n 1, 1) := by decide +kernel
theorem dX1_copy_64 : decode cX1_copy 64 = .ok (.getfield 27, 3) := by decide +kernel
theorem dX1_copy_67 : decode cX1_copy 67 = .ok (.invokevirtual 55, 3) := by decide +kernel
theorem dX1_copy_70 : decode cX1_copy 70 = .ok (.aload_n 0, 1) := by decide +kernel
theorem dX1_copy_71 : decode cX1_copy 71 = .ok (.getfield 31, 3) := by decide +kernel
theorem dX1_copy_74 : decode cX1_copy 74 = .ok (.aload_n 1, 1) := by decide +kernel
theorem dX1_copy_75 : decode cX1_copy 75 = .ok (.getfield 31, 3) := by decide +kernel
theorem dX1_copy_78 : decode cX1_copy 78 = .ok (.invokevirtual 55, 3) := by decide +kernel
theorem dX1_copy_81 : decode cX1_copy 81 = .ok (.aload_n 0, 1) := by decide +kernel
theorem dX1_copy_82 : decode cX1_copy 82 = .ok (.aload_n 1, 1) := by decide +kernel
theorem dX1_copy_83 : decode cX1_copy 83 = .ok (.getfield 47, 3) := by decide +kernel
theorem dX1_copy_86 : decode cX1_copy 86 = .ok (.putfield 47, 3) := by decide +kernel
theorem dX1_copy_89 : decode cX1_copy 89 = .ok (.aload_n 0, 1) := by decide +kernel
theorem dX1_copy_90 : decode cX1_copy 90 = .ok (.aload_n 1, 1) := by decide +kernel
theorem dX1_copy_91 : decode cX1_copy 91 = .ok (.getfield 58, 3) := by decide +kernel
theorem dX1_copy_94 : decode cX1_copy 94 = .ok (.putfield 58, 3) := by decide +kernel
theorem dX1_copy_97 : decode cX1_copy 97 = .ok (.aload_n 0, 1) := by decide +kernel
theorem dX1_copy_98 : decode cX1_copy 98 = .ok (.aload_n 1, 1) := by decide +kernel
theorem dX1_copy_99 : decode cX1_copy 99 = .ok (.getfield 61, 3) := by decide +kernel
theorem dX1_copy_102 : decode cX1_copy 102 = .ok (.putfield 61, 3) := by decide +kernel
theorem dX1_copy_105 : decode cX1_copy 105 = .ok (.return_, 1) := by decide +kernel
def X1_copy_L30 : Nat → Nat → Nat → Int32 → Mem → Option (Mem)
  | 0, _, _, _, _ => none
  | fu + 1, i0, i1, v2, M => (if v2 < (M 1 i1 5) then (if ib v2 10 = true then ((X3_copy (10 * i0 + v2.toNatClampNeg) (10 * i1 + v2.toNatClampNeg) M).bind fun q4 => (X1_copy_L30 fu i0 i1 (v2 + 1) q4)) else none) else (some M))
set_option maxRecDepth 100000 in
set_option maxHeartbeats 4000000 in
theorem X1_copy_L30_ok  {r : Option AV} {M' : MM} : ∀ (fu : Nat) (i0 : Nat) (i1 : Nat) (v2 : Int32) (M N : Mem) {res : Mem} (hi0 : i0 < 3) (hi1 : i1 < 3) (h : X1_copy_L30 fu i0 i1 v2 M = some res) (K : G mt_X1_copy 2 r M' 59 [(0, .inr (.inr (1, i0))), (1, .inr (.inr (1, i1)))] [] (res, N)), G mt_X1_copy 2 r M' 30 [(0, .inr (.inr (1, i0))), (1, .inr (.inr (1, i1))), (2, .inl v2)] [] (M, N) := by
  intro fu
  induction fu with
  | zero =>
    intro i0 i1 v2 M N res hi0 hi1 h
    cases h
  | succ fu ih =>
    intro i0 i1 v2 M N res hi0 hi1 h K
    replace h : (if v2 < (M 1 i1 5) then (if ib v2 10 = true then ((X3_copy (10 * i0 + v2.toNatClampNeg) (10 * i1 + v2.toNatClampNeg) M).bind fun q4 => (X1_copy_L30 fu i0 i1 (v2 + 1) q4)) else none) else (some M)) = some res := h
    refine G_iload_n dX1_copy_30 rfl ?_
    refine G_aload_n dX1_copy_31 rfl ?_
    refine fg_X1_47 (v := (M 1 i1 5)) rfl rfl hi1 dX1_copy_32 ?_
    refine G_icmp_ge (tgt := 59) dX1_copy_35 (by decide) (fun hc1 => ?_) (fun hc1 => ?_)
    · replace h := (if_neg hc1).symm.trans h
      refine G_sub [(0, .inr (.inr (1, i0))), (1, .inr (.inr (1, i1)))] [0, 1] rfl ?_
      obtain rfl := Option.some.inj h
      exact K
    · replace h := (if_pos hc1).symm.trans h
      refine G_aload_n dX1_copy_38 rfl ?_
      refine fg_X1_20 rfl hi0 dX1_copy_39 ?_
      refine G_iload_n dX1_copy_42 rfl ?_
      obtain ⟨hb3, h⟩ := chk h
      have lhb3 := ib_lt hb3
      refine G_aald3 (by decide) (show i0 < 3 from hi0) (by decide) rfl hb3 dX1_copy_43 ?_
      refine G_aload_n dX1_copy_44 rfl ?_
      refine fg_X1_20 rfl hi1 dX1_copy_45 ?_
      refine G_iload_n dX1_copy_48 rfl ?_
      refine G_aald3 (by decide) (show i1 < 3 from hi1) (by decide) rfl hb3 dX1_copy_49 ?_
      obtain ⟨q4, hq4, h⟩ := bnd h
      refine G_callVn (T := TX3) (N := 8) (f := 3) (i := (10 * i0 + v2.toNatClampNeg)) (X3_copy_ok (by omega) (by omega) hq4) ok_X3_copy ml_X1_51 (by decide) rfl (by decide) (show (10 * i0 + v2.toNatClampNeg) < 30 from (by omega)) (by decide) rfl rfl (Nat.le_of_ble_eq_true rfl) dX1_copy_50 ?_
      refine G_iinc (v := (v2 + 1)) (L2 := [(2, .inl (v2 + 1)), (0, .inr (.inr (1, i0))), (1, .inr (.inr (1, i1)))]) dX1_copy_53 rfl (by first | rfl | (show _ + Int32.ofInt _ = _; rfl)) (by decide) rfl ?_
      refine G_goto (tgt := 30) dX1_copy_56 (by decide) ?_
      refine G_sub [(0, .inr (.inr (1, i0))), (1, .inr (.inr (1, i1))), (2, .inl (v2 + 1))] [1, 2, 0] rfl ?_
      exact ih i0 i1 (v2 + 1) q4 _ hi0 hi1 h K

def X1_copy (i0 : Nat) (i1 : Nat) (M : Mem) : Option (Mem) := (if cpok (0 : Int32) (0 : Int32) (5 : Int32) 5 5 = true then (if cpok (0 : Int32) (0 : Int32) (5 : Int32) 5 5 = true then ((X1_copy_L30 400 i0 i1 0 (cp3 (cp3 M 10 i1 0 10 i0 0 5) 11 i1 0 11 i0 0 5)).bind fun q5 => ((X2_copy (2 * i0) (2 * i1) q5).bind fun q6 => ((X2_copy (2 * i0 + 1) (2 * i1 + 1) q6).bind fun q7 => (some (up3 (up3 (up3 q7 1 i0 5 (q7 1 i1 5)) 1 i0 6 (q7 1 i1 6)) 1 i0 7 (q7 1 i1 7)))))) else none) else none)
set_option maxRecDepth 100000 in
set_option maxHeartbeats 4000000 in
theorem X1_copy_ok  {i0 : Nat} {i1 : Nat} {M N : Mem} {res : Mem} (hi0 : i0 < 3) (hi1 : i1 < 3) (h : X1_copy i0 i1 M = some res) : Spec mt_X1_copy 2 [.inr (.inr (1, i0)), .inr (.inr (1, i1))] (M, N) none (res, N) := by
  unfold X1_copy at h
  refine Spec_of_G (by decide) rfl (Nat.le_of_ble_eq_true rfl) ?_
  refine G_sub [(0, .inr (.inr (1, i0))), (1, .inr (.inr (1, i1)))] [0, 1] rfl ?_
  refine G_aload_n dX1_copy_0 rfl ?_
  refine fg_X1_9 rfl hi1 dX1_copy_1 ?_
  refine G_iconst (v := 0) dX1_copy_4 (by decide) ?_
  refine G_aload_n dX1_copy_5 rfl ?_
  refine fg_X1_9 rfl hi0 dX1_copy_6 ?_
  refine G_iconst (v := 0) dX1_copy_9 (by decide) ?_
  refine G_iconst (v := 5) dX1_copy_10 (by decide) ?_
  obtain ⟨hb1, h⟩ := chk h
  refine G_copy (M2 := ((cp3 M 10 i1 0 10 i0 0 5), N)) ml_X1_41 na_copy st_copy in_System (by decide) (show i1 < 3 from hi1) (by decide) (show i0 < 3 from hi0) (by decide) (by decide) (by decide) hb1 (by decide) rfl rfl dX1_copy_11 ?_
  refine G_aload_n dX1_copy_14 rfl ?_
  refine fg_X1_15 rfl hi1 dX1_copy_15 ?_
  refine G_iconst (v := 0) dX1_copy_18 (by decide) ?_
  refine G_aload_n dX1_copy_19 rfl ?_
  refine fg_X1_15 rfl hi0 dX1_copy_20 ?_
  refine G_iconst (v := 0) dX1_copy_23 (by decide) ?_
  refine G_iconst (v := 5) dX1_copy_24 (by decide) ?_
  obtain ⟨hb2, h⟩ := chk h
  refine G_copy (M2 := ((cp3 (cp3 M 10 i1 0 10 i0 0 5) 11 i1 0 11 i0 0 5), N)) ml_X1_41 na_copy st_copy in_System (by decide) (show i1 < 3 from hi1) (by decide) (show i0 < 3 from hi0) (by decide) (by decide) (by decide) hb2 (by decide) rfl rfl dX1_copy_25 ?_
  refine G_iconst (v := 0) dX1_copy_28 (by decide) ?_
  refine G_istore_n (L2 := [(2, .inl 0), (0, .inr (.inr (1, i0))), (1, .inr (.inr (1, i1)))]) dX1_copy_29 (by decide) rfl ?_
  refine G_sub [(0, .inr (.inr (1, i0))), (1, .inr (.inr (1, i1))), (2, .inl 0)] [1, 2, 0] rfl ?_
  obtain ⟨q5, hq5, h⟩ := bnd h
  refine X1_copy_L30_ok  400 i0 i1 0 (cp3 (cp3 M 10 i1 0 10 i0 0 5) 11 i1 0 11 i0 0 5) _ hi0 hi1 hq5 ?_
  refine G_aload_n dX1_copy_59 rfl ?_
  refine fg_X1_27 rfl hi0 dX1_copy_60 ?_
  refine G_aload_n dX1_copy_63 rfl ?_
  refine fg_X1_27 rfl hi1 dX1_copy_64 ?_
  obtain ⟨q6, hq6, h⟩ := bnd h
  refine G_callVn (T := TX2) (N := 3) (f := 2) (i := (2 * i0)) (X2_copy_ok (by omega) (by omega) hq6) ok_X2_copy ml_X1_55 (by decide) rfl (by decide) (show (2 * i0) < 7 from (by omega)) (by decide) rfl rfl (Nat.le_of_ble_eq_true rfl) dX1_copy_67 ?_
  refine G_aload_n dX1_copy_70 rfl ?_
  refine fg_X1_31 rfl hi0 dX1_copy_71 ?_
  refine G_aload_n dX1_copy_74 rfl ?_
  refine fg_X1_31 rfl hi1 dX1_copy_75 ?_
  obtain ⟨q7, hq7, h⟩ := bnd h
  refine G_callVn (T := TX2) (N := 3) (f := 2) (i := (2 * i0 + 1)) (X2_copy_ok (by omega) (by omega) hq7) ok_X2_copy ml_X1_55 (by decide) rfl (by decide) (show (2 * i0 + 1) < 7 from (by omega)) (by decide) rfl rfl (Nat.le_of_ble_eq_true rfl) dX1_copy_78 ?_
  refine G_aload_n dX1_copy_81 rfl ?_
  refine G_aload_n dX1_copy_82 rfl ?_
  refine fg_X1_47 (v := (q7 1 i1 5)) rfl rfl hi1 dX1_copy_83 ?_
  refine fp_X1_47 rfl hi0 dX1_copy_86 ?_
  refine G_aload_n dX1_copy_89 rfl ?_
  refine G_aload_n dX1_copy_90 rfl ?_
  refine fg_X1_58 (v := (q7 1 i1 6)) (up3_k (by decide)) rfl hi1 dX1_copy_91 ?_
  refine fp_X1_58 rfl hi0 dX1_copy_94 ?_
  refine G_aload_n dX1_copy_97 rfl ?_
  refine G_aload_n dX1_copy_98 rfl ?_
  refine fg_X1_61 (v := (q7 1 i1 7)) ((up3_k (by decide)).trans (up3_k (by decide))) rfl hi1 dX1_copy_99 ?_
  refine fp_X1_61 rfl hi0 dX1_copy_102 ?_
  obtain rfl := Option.some.inj h
  exact G_ret dX1_copy_105 trivial rfl rfl

theorem dX1_potsWithHandle_0 : decode cX1_potsWithHandle 0 = .ok (.iconst 0, 1) := by decide +kernel
theorem dX1_potsWithHandle_1 : decode cX1_potsWithHandle 1 = .ok (.istore_n 1, 1) := by decide +kernel
theorem dX1_potsWithHandle_2 : decode cX1_potsWithHandle 2 = .ok (.iconst 0, 1) := by decide +kernel
theorem dX1_potsWithHandle_3 : decode cX1_potsWithHandle 3 = .ok (.istore_n 2, 1) := by decide +kernel
theorem dX1_potsWithHandle_4 : decode cX1_potsWithHandle 4 = .ok (.iload_n 2, 1) := by decide +kernel
theorem dX1_potsWithHandle_5 : decode cX1_potsWithHandle 5 = .ok (.aload_n 0, 1) := by decide +kernel
theorem dX1_potsWithHandle_6 : decode cX1_potsWithHandle 6 = .ok (.getfield 47, 3) := by decide +kernel
theorem dX1_potsWithHandle_9 : decode cX1_potsWithHandle 9 = .ok (.if_icmp .ge 27, 3) := by decide +kernel
theorem dX1_potsWithHandle_12 : decode cX1_potsWithHandle 12 = .ok (.aload_n 0, 1) := by decide +kernel
theorem dX1_potsWithHandle_13 : decode cX1_potsWithHandle 13 = .ok (.getfield 20, 3) := by decide +kernel
theorem dX1_potsWithHandle_16 : decode cX1_potsWithHandle 16 = .ok (.iload_n 2, 1) := by decide +kernel
theorem dX1_potsWithHandle_17 : decode cX1_potsWithHandle 17 = .ok (.aaload, 1) := by decide +kernel
theorem dX1_potsWithHandle_18 : decode cX1_potsWithHandle 18 = .ok (.getfield 116, 3) := by decide +kernel
theorem dX1_potsWithHandle_21 : decode cX1_potsWithHandle 21 = .ok (.ifCond .le 9, 3) := by decide +kernel
theorem dX1_potsWithHandle_24 : decode cX1_potsWithHandle 24 = .ok (.iload_n 1, 1) := by decide +kernel
theorem dX1_potsWithHandle_25 : decode cX1_potsWithHandle 25 = .ok (.iconst 1, 1) := by decide +kernel
theorem dX1_potsWithHandle_26 : decode cX1_potsWithHandle 26 = .ok (.iload_n 2, 1) := by decide +kernel
theorem dX1_potsWithHandle_27 : decode cX1_potsWithHandle 27 = .ok (.ishl, 1) := by decide +kernel
theorem dX1_potsWithHandle_28 : decode cX1_potsWithHandle 28 = .ok (.ior, 1) := by decide +kernel
theorem dX1_potsWithHandle_29 : decode cX1_potsWithHandle 29 = .ok (.istore_n 1, 1) := by decide +kernel
theorem dX1_potsWithHandle_30 : decode cX1_potsWithHandle 30 = .ok (.iinc 2 1, 3) := by decide +kernel
theorem dX1_potsWithHandle_33 : decode cX1_potsWithHandle 33 = .ok (.goto (-29), 3) := by decide +kernel
theorem dX1_potsWithHandle_36 : decode cX1_potsWithHandle 36 = .ok (.iload_n 1, 1) := by decide +kernel
theorem dX1_potsWithHandle_37 : decode cX1_potsWithHandle 37 = .ok (.ireturn, 1) := by decide +kernel
def X1_potsWithHandle_L4 : Nat → Nat → Int32 → Int32 → Mem → Option (Int32)
  | 0, _, _, _, _ => none
  | fu + 1, i0, v1, v2, M => (if v2 < (M 1 i0 5) then (if ib v2 10 = true then (if 0 < (M 3 (10 * i0 + v2.toNatClampNeg) 6) then (X1_potsWithHandle_L4 fu i0 (v1 ||| (1 <<< (v2 &&& 31))) (v2 + 1) M) else (X1_potsWithHandle_L4 fu i0 v1 (v2 + 1) M)) else none) else (some v1))
set_option maxRecDepth 100000 in
set_option maxHeartbeats 4000000 in
theorem X1_potsWithHandle_L4_ok  {r : Option AV} {M' : MM} : ∀ (fu : Nat) (i0 : Nat) (v1 : Int32) (v2 : Int32) (M N : Mem) {res : Int32} (hi0 : i0 < 3) (h : X1_potsWithHandle_L4 fu i0 v1 v2 M = some res) (K : G mt_X1_potsWithHandle 0 r M' 36 [(1, .inl res)] [] (M, N)), G mt_X1_potsWithHandle 0 r M' 4 [(0, .inr (.inr (1, i0))), (1, .inl v1), (2, .inl v2)] [] (M, N) := by
  intro fu
  induction fu with
  | zero =>
    intro i0 v1 v2 M N res hi0 h
    cases h
  | succ fu ih =>
    intro i0 v1 v2 M N res hi0 h K
    replace h : (if v2 < (M 1 i0 5) then (if ib v2 10 = true then (if 0 < (M 3 (10 * i0 + v2.toNatClampNeg) 6) then (X1_potsWithHandle_L4 fu i0 (v1 ||| (1 <<< (v2 &&& 31))) (v2 + 1) M) else (X1_potsWithHandle_L4 fu i0 v1 (v2 + 1) M)) else none) else (some v1)) = some res := h
    refine G_iload_n dX1_potsWithHandle_4 rfl ?_
    refine G_aload_n dX1_potsWithHandle_5 rfl ?_
    refine fg_X1_47 (v := (M 1 i0 5)) rfl rfl hi0 dX1_potsWithHandle_6 ?_
    refine G_icmp_ge (tgt := 36) dX1_potsWithHandle_9 (by decide) (fun hc1 => ?_) (fun hc1 => ?_)
    · replace h := (if_neg hc1).symm.trans h
      refine G_sub [(1, .inl v1)] [1] rfl ?_
      obtain rfl := Option.some.inj h
      exact K
    · replace h := (if_pos hc1).symm.trans h
      refine G_aload_n dX1_potsWithHandle_12 rfl ?_
      refine fg_X1_20 rfl hi0 dX1_potsWithHandle_13 ?_
      refine G_iload_n dX1_potsWithHandle_16 rfl ?_
      obtain ⟨hb1, h⟩ := chk h
      have lhb1 := ib_lt hb1
      refine G_aald3 (by decide) (show i0 < 3 from hi0) (by decide) rfl hb1 dX1_potsWithHandle_17 ?_
      refine fg_X1_116 (v := (M 3 (10 * i0 + v2.toNatClampNeg) 6)) rfl rfl (by omega) dX1_potsWithHandle_18 ?_
      refine G_if_le (tgt := 30) dX1_potsWithHandle_21 (by decide) (fun hc2 => ?_) (fun hc2 => ?_)
      · replace h := (if_neg hc2).symm.trans h
        refine G_iinc (v := (v2 + 1)) (L2 := [(2, .inl (v2 + 1)), (0, .inr (.inr (1, i0))), (1, .inl v1)]) dX1_potsWithHandle_30 rfl (by first | rfl | (show _ + Int32.ofInt _ = _; rfl)) (by decide) rfl ?_
        refine G_goto (tgt := 4) dX1_potsWithHandle_33 (by decide) ?_
        refine G_sub [(0, .inr (.inr (1, i0))), (1, .inl v1), (2, .inl (v2 + 1))] [1, 2, 0] rfl ?_
        exact ih i0 v1 (v2 + 1) M _ hi0 h K
      · replace h := (if_pos hc2).symm.trans h
        refine G_iload_n dX1_potsWithHandle_24 rfl ?_
        refine G_iconst (v := 1) dX1_potsWithHandle_25 (by decide) ?_
        refine G_iload_n dX1_potsWithHandle_26 rfl ?_
        refine G_ishl dX1_potsWithHandle_27 ?_
        refine G_ior dX1_potsWithHandle_28 ?_
        refine G_istore_n (L2 := [(1, .inl (v1 ||| (1 <<< (v2 &&& 31)))), (0, .inr (.inr (1, i0))), (2, .inl v2)]) dX1_potsWithHandle_29 (by decide) rfl ?_
        refine G_iinc (v := (v2 + 1)) (L2 := [(2, .inl (v2 + 1)), (1, .inl (v1 ||| (1 <<< (v2 &&& 31)))), (0, .inr (.inr (1, i0)))]) dX1_potsWithHandle_30 rfl (by first | rfl | (show _ + Int32.ofInt _ = _; rfl)) (by decide) rfl ?_
        refine G_goto (tgt := 4) dX1_potsWithHandle_33 (by decide) ?_
        refine G_sub [(0, .inr (.inr (1, i0))), (1, .inl (v1 ||| (1 <<< (v2 &&& 31)))), (2, .inl (v2 + 1))] [2, 1, 0] rfl ?_
        exact ih i0 (v1 ||| (1 <<< (v2 &&& 31))) (v2 + 1) M _ hi0 h K

def X1_potsWithHandle (i0 : Nat) (M : Mem) : Option (Int32) := ((X1_potsWithHandle_L4 400 i0 0 0 M).bind fun q2 => (some q2))
set_option maxRecDepth 100000 in
set_option maxHeartbeats 4000000 in
theorem X1_potsWithHandle_ok  {i0 : Nat} {M N : Mem} {res : Int32} (hi0 : i0 < 3) (h : X1_potsWithHandle i0 M = some res) : Spec mt_X1_potsWithHandle 0 [.inr (.inr (1, i0))] (M, N) (some (.inl res)) (M, N) := by
  unfold X1_potsWithHandle at h
  refine Spec_of_G (by decide) rfl (Nat.le_of_ble_eq_true rfl) ?_
  refine G_sub [(0, .inr (.inr (1, i0)))] [0] rfl ?_
  refine G_iconst (v := 0) dX1_potsWithHandle_0 (by decide) ?_
  refine G_istore_n (L2 := [(1, .inl 0), (0, .inr (.inr (1, i0)))]) dX1_potsWithHandle_1 (by decide) rfl ?_
  refine G_iconst (v := 0) dX1_potsWithHandle_2 (by decide) ?_
  refine G_istore_n (L2 := [(2, .inl 0), (1, .inl 0), (0, .inr (.inr (1, i0)))]) dX1_potsWithHandle_3 (by decide) rfl ?_
  refine G_sub [(0, .inr (.inr (1, i0))), (1, .inl 0), (2, .inl 0)] [2, 1, 0] rfl ?_
  obtain ⟨q2, hq2, h⟩ := bnd h
  refine X1_potsWithHandle_L4_ok  400 i0 0 0 M _ hi0 hq2 ?_
  refine G_iload_n dX1_potsWithHandle_36 rfl ?_
  obtain rfl := Option.some.inj h
  exact G_ret dX1_potsWithHandle_37 trivial rfl rfl

theorem dX1_allPots_0 : decode cX1_allPots 0 = .ok (.iconst 1, 1) := by decide +kernel
theorem dX1_allPots_1 : decode cX1_allPots 1 = .ok (.aload_n 0, 1) := by decide +kernel
theorem dX1_allPots_2 : decode cX1_allPots 2 = .ok (.getfield 47, 3) := by decide +kernel
theorem dX1_allPots_5 : decode cX1_allPots 5 = .ok (.ishl, 1) := by decide +kernel
theorem dX1_allPots_6 : decode cX1_allPots 6 = .ok (.iconst 1, 1) := by decide +kernel
theorem dX1_allPots_7 : decode cX1_allPots 7 = .ok (.isub, 1) := by decide +kernel
theorem dX1_allPots_8 : decode cX1_allPots 8 = .ok (.ireturn, 1) := by decide +kernel
def X1_allPots (i0 : Nat) (M : Mem) : Int32 := ((1 <<< ((M 1 i0 5) &&& 31)) - 1)
set_option maxRecDepth 100000 in
set_option maxHeartbeats 4000000 in
theorem X1_allPots_ok  {i0 : Nat} {M N : Mem} {res : Int32} (hi0 : i0 < 3) (h : X1_allPots i0 M = res) : Spec mt_X1_allPots 0 [.inr (.inr (1, i0))] (M, N) (some (.inl res)) (M, N) := by
  unfold X1_allPots at h
  refine Spec_of_G (by decide) rfl (Nat.le_of_ble_eq_true rfl) ?_
  refine G_sub [(0, .inr (.inr (1, i0)))] [0] rfl ?_
  refine G_iconst (v := 1) dX1_allPots_0 (by decide) ?_
  refine G_aload_n dX1_allPots_1 rfl ?_
  refine fg_X1_47 (v := (M 1 i0 5)) rfl rfl hi0 dX1_allPots_2 ?_
  refine G_ishl dX1_allPots_5 ?_
  refine G_iconst (v := 1) dX1_allPots_6 (by decide) ?_
  refine G_isub dX1_allPots_7 ?_
  subst h
  exact G_ret dX1_allPots_8 trivial rfl rfl

theorem dX1_handlesIn_0 : decode cX1_handlesIn 0 = .ok (.iconst 0, 1) := by decide +kernel
theorem dX1_handlesIn_1 : decode cX1_handlesIn 1 = .ok (.istore_n 2, 1) := by decide +kernel
theorem dX1_handlesIn_2 : decode cX1_handlesIn 2 = .ok (.iconst 0, 1) := by decide +kernel
theorem dX1_handlesIn_3 : decode cX1_handlesIn 3 = .ok (.istore_n 3, 1) := by decide +kernel
theorem dX1_handlesIn_4 : decode cX1_handlesIn 4 = .ok (.iload_n 3, 1) := by decide +kernel
theorem dX1_handlesIn_5 : decode cX1_handlesIn 5 = .ok (.aload_n 0, 1) := by decide +kernel
theorem dX1_handlesIn_6 : decode cX1_handlesIn 6 = .ok (.getfield 47, 3) := by decide +kernel
theorem dX1_handlesIn_9 : decode cX1_handlesIn 9 = .ok (.if_icmp .ge 34, 3) := by decide +kernel
theorem dX1_handlesIn_12 : decode cX1_handlesIn 12 = .ok (.aload_n 0, 1) := by decide +kernel
theorem dX1_handlesIn_13 : decode cX1_handlesIn 13 = .ok (.getfield 20, 3) := by decide +kernel
theorem dX1_handlesIn_16 : decode cX1_handlesIn 16 = .ok (.iload_n 3, 1) := by decide +kernel
theorem dX1_handlesIn_17 : decode cX1_handlesIn 17 = .ok (.aaload, 1) := by decide +kernel
theorem dX1_handlesIn_18 : decode cX1_handlesIn 18 = .ok (.getfield 85, 3) := by decide +kernel
theorem dX1_handlesIn_21 : decode cX1_handlesIn 21 = .ok (.iload_n 1, 1) := by decide +kernel
theorem dX1_handlesIn_22 : decode cX1_handlesIn 22 = .ok (.if_icmp .ne 15, 3) := by decide +kernel
theorem dX1_handlesIn_25 : decode cX1_handlesIn 25 = .ok (.iload_n 2, 1) := by decide +kernel
theorem dX1_handlesIn_26 : decode cX1_handlesIn 26 = .ok (.aload_n 0, 1) := by decide +kernel
theorem dX1_handlesIn_27 : decode cX1_handlesIn 27 = .ok (.getfield 20, 3) := by decide +kernel
theorem dX1_handlesIn_30 : decode cX1_handlesIn 30 = .ok (.iload_n 3, 1) := by decide +kernel
theorem dX1_handlesIn_31 : decode cX1_handlesIn 31 = .ok (.aaload, 1) := by decide +kernel
theorem dX1_handlesIn_32 : decode cX1_handlesIn 32 = .ok (.getfield 116, 3) := by decide +kernel
theorem dX1_handlesIn_35 : decode cX1_handlesIn 35 = .ok (.iadd, 1) := by decide +kernel
theorem dX1_handlesIn_36 : decode cX1_handlesIn 36 = .ok (.istore_n 2, 1) := by decide +kernel
theorem dX1_handlesIn_37 : decode cX1_handlesIn 37 = .ok (.iinc 3 1, 3) := by decide +kernel
theorem dX1_handlesIn_40 : decode cX1_handlesIn 40 = .ok (.goto (-36), 3) := by decide +kernel
theorem dX1_handlesIn_43 : decode cX1_handlesIn 43 = .ok (.iload_n 2, 1) := by decide +kernel
theorem dX1_handlesIn_44 : decode cX1_handlesIn 44 = .ok (.ireturn, 1) := by decide +kernel
def X1_handlesIn_L4 : Nat → Nat → Int32 → Int32 → Int32 → Mem → Option (Int32)
  | 0, _, _, _, _, _ => none
  | fu + 1, i0, v1, v2, v3, M => (if v3 < (M 1 i0 5) then (if ib v3 10 = true then (if (M 3 (10 * i0 + v3.toNatClampNeg) 2) = v1 then (X1_handlesIn_L4 fu i0 v1 (v2 + (M 3 (10 * i0 + v3.toNatClampNeg) 6)) (v3 + 1) M) else (X1_handlesIn_L4 fu i0 v1 v2 (v3 + 1) M)) else none) else (some v2))
set_option maxRecDepth 100000 in
set_option maxHeartbeats 4000000 in
theorem X1_handlesIn_L4_ok  {r : Option AV} {M' : MM} : ∀ (fu : Nat) (i0 : Nat) (v1 : Int32) (v2 : Int32) (v3 : Int32) (M N : Mem) {res : Int32} (hi0 : i0 < 3) (h : X1_handlesIn_L4 fu i0 v1 v2 v3 M = some res) (K : G mt_X1_handlesIn 0 r M' 43 [(2, .inl res)] [] (M, N)), G mt_X1_handlesIn 0 r M' 4 [(0, .inr (.inr (1, i0))), (1, .inl v1), (2, .inl v2), (3, .inl v3)] [] (M, N) := by
  intro fu
  induction fu with
  | zero =>
    intro i0 v1 v2 v3 M N res hi0 h
    cases h
  | succ fu ih =>
    intro i0 v1 v2 v3 M N res hi0 h K
    replace h : (if v3 < (M 1 i0 5) then (if ib v3 10 = true then (if (M 3 (10 * i0 + v3.toNatClampNeg) 2) = v1 then (X1_handlesIn_L4 fu i0 v1 (v2 + (M 3 (10 * i0 + v3.toNatClampNeg) 6)) (v3 + 1) M) else (X1_handlesIn_L4 fu i0 v1 v2 (v3 + 1) M)) else none) else (some v2)) = some res := h
    refine G_iload_n dX1_handlesIn_4 rfl ?_
    refine G_aload_n dX1_handlesIn_5 rfl ?_
    refine fg_X1_47 (v := (M 1 i0 5)) rfl rfl hi0 dX1_handlesIn_6 ?_
    refine G_icmp_ge (tgt := 43) dX1_handlesIn_9 (by decide) (fun hc1 => ?_) (fun hc1 => ?_)
    · replace h := (if_neg hc1).symm.trans h
      refine G_sub [(2, .inl v2)] [2] rfl ?_
      obtain rfl := Option.some.inj h
      exact K
    · replace h := (if_pos hc1).symm.trans h
      refine G_aload_n dX1_handlesIn_12 rfl ?_
      refine fg_X1_20 rfl hi0 dX1_handlesIn_13 ?_
      refine G_iload_n dX1_handlesIn_16 rfl ?_
      obtain ⟨hb1, h⟩ := chk h
      have lhb1 := ib_lt hb1
      refine G_aald3 (by decide) (show i0 < 3 from hi0) (by decide) rfl hb1 dX1_handlesIn_17 ?_
      refine fg_X1_85 (v := (M 3 (10 * i0 + v3.toNatClampNeg) 2)) rfl rfl (by omega) dX1_handlesIn_18 ?_
      refine G_iload_n dX1_handlesIn_21 rfl ?_
      refine G_icmp_ne (tgt := 37) dX1_handlesIn_22 (by decide) (fun hc2 => ?_) (fun hc2 => ?_)
      · replace h := (if_neg hc2).symm.trans h
        refine G_iinc (v := (v3 + 1)) (L2 := [(3, .inl (v3 + 1)), (0, .inr (.inr (1, i0))), (1, .inl v1), (2, .inl v2)]) dX1_handlesIn_37 rfl (by first | rfl | (show _ + Int32.ofInt _ = _; rfl)) (by decide) rfl ?_
        refine G_goto (tgt := 4) dX1_handlesIn_40 (by decide) ?_
        refine G_sub [(0, .inr (.inr (1, i0))), (1, .inl v1), (2, .inl v2), (3, .inl (v3 + 1))] [1, 2, 3, 0] rfl ?_
        exact ih i0 v1 v2 (v3 + 1) M _ hi0 h K
      · replace h := (if_pos hc2).symm.trans h
        refine G_iload_n dX1_handlesIn_25 rfl ?_
        refine G_aload_n dX1_handlesIn_26 rfl ?_
        refine fg_X1_20 rfl hi0 dX1_handlesIn_27 ?_
        refine G_iload_n dX1_handlesIn_30 rfl ?_
        refine G_aald3 (by decide) (show i0 < 3 from hi0) (by decide) rfl hb1 dX1_handlesIn_31 ?_
        refine fg_X1_116 (v := (M 3 (10 * i0 + v3.toNatClampNeg) 6)) rfl rfl (by omega) dX1_handlesIn_32 ?_
        refine G_iadd dX1_handlesIn_35 ?_
        refine G_istore_n (L2 := [(2, .inl (v2 + (M 3 (10 * i0 + v3.toNatClampNeg) 6))), (0, .inr (.inr (1, i0))), (1, .inl v1), (3, .inl v3)]) dX1_handlesIn_36 (by decide) rfl ?_
        refine G_iinc (v := (v3 + 1)) (L2 := [(3, .inl (v3 + 1)), (2, .inl (v2 + (M 3 (10 * i0 + v3.toNatClampNeg) 6))), (0, .inr (.inr (1, i0))), (1, .inl v1)]) dX1_handlesIn_37 rfl (by first | rfl | (show _ + Int32.ofInt _ = _; rfl)) (by decide) rfl ?_
        refine G_goto (tgt := 4) dX1_handlesIn_40 (by decide) ?_
        refine G_sub [(0, .inr (.inr (1, i0))), (1, .inl v1), (2, .inl (v2 + (M 3 (10 * i0 + v3.toNatClampNeg) 6))), (3, .inl (v3 + 1))] [2, 3, 1, 0] rfl ?_
        exact ih i0 v1 (v2 + (M 3 (10 * i0 + v3.toNatClampNeg) 6)) (v3 + 1) M _ hi0 h K

def X1_handlesIn (i0 : Nat) (v1 : Int32) (M : Mem) : Option (Int32) := ((X1_handlesIn_L4 400 i0 v1 0 0 M).bind fun q2 => (some q2))
set_option maxRecDepth 100000 in
set_option maxHeartbeats 4000000 in
theorem X1_handlesIn_ok  {i0 : Nat} {v1 : Int32} {M N : Mem} {res : Int32} (hi0 : i0 < 3) (h : X1_handlesIn i0 v1 M = some res) : Spec mt_X1_handlesIn 0 [.inr (.inr (1, i0)), .inl v1] (M, N) (some (.inl res)) (M, N) := by
  unfold X1_handlesIn at h
  refine Spec_of_G (by decide) rfl (Nat.le_of_ble_eq_true rfl) ?_
  refine G_sub [(0, .inr (.inr (1, i0))), (1, .inl v1)] [0, 1] rfl ?_
  refine G_iconst (v := 0) dX1_handlesIn_0 (by decide) ?_
  refine G_istore_n (L2 := [(2, .inl 0), (0, .inr (.inr (1, i0))), (1, .inl v1)]) dX1_handlesIn_1 (by decide) rfl ?_
  refine G_iconst (v := 0) dX1_handlesIn_2 (by decide) ?_
  refine G_istore_n (L2 := [(3, .inl 0), (2, .inl 0), (0, .inr (.inr (1, i0))), (1, .inl v1)]) dX1_handlesIn_3 (by decide) rfl ?_
  refine G_sub [(0, .inr (.inr (1, i0))), (1, .inl v1), (2, .inl 0), (3, .inl 0)] [2, 3, 1, 0] rfl ?_
  obtain ⟨q2, hq2, h⟩ := bnd h
  refine X1_handlesIn_L4_ok  400 i0 v1 0 0 M _ hi0 hq2 ?_
  refine G_iload_n dX1_handlesIn_43 rfl ?_
  obtain rfl := Option.some.inj h
  exact G_ret dX1_handlesIn_44 trivial rfl rfl

theorem dX6_bodyOf_0 : decode cX6_bodyOf 0 = .ok (.bipush 10, 2) := by decide +kernel
theorem dX6_bodyOf_2 : decode cX6_bodyOf 2 = .ok (.iload_n 0, 1) := by decide +kernel
theorem dX6_bodyOf_3 : decode cX6_bodyOf 3 = .ok (.imul, 1) := by decide +kernel
theorem dX6_bodyOf_4 : decode cX6_bodyOf 4 = .ok (.iload_n 1, 1) := by decide +kernel
theorem dX6_bodyOf_5 : decode cX6_bodyOf 5 = .ok (.iadd, 1) := by decide +kernel
theorem dX6_bodyOf_6 : decode cX6_bodyOf 6 = .ok (.lookupswitch 131 #[(0, 98), (1, 101), (2, 104), (3, 107), (10, 110), (21, 113), (32, 116), (43, 119), (51, 122), (62, 125), (63, 128)], 98) := by decide +kernel
theorem dX6_bodyOf_104 : decode cX6_bodyOf 104 = .ok (.bipush 10, 2) := by decide +kernel
theorem dX6_bodyOf_106 : decode cX6_bodyOf 106 = .ok (.ireturn, 1) := by decide +kernel
theorem dX6_bodyOf_107 : decode cX6_bodyOf 107 = .ok (.bipush 11, 2) := by decide +kernel
theorem dX6_bodyOf_109 : decode cX6_bodyOf 109 = .ok (.ireturn, 1) := by decide +kernel
theorem dX6_bodyOf_110 : decode cX6_bodyOf 110 = .ok (.bipush 12, 2) := by decide +kernel
theorem dX6_bodyOf_112 : decode cX6_bodyOf 112 = .ok (.ireturn, 1) := by decide +kernel
theorem dX6_bodyOf_113 : decode cX6_bodyOf 113 = .ok (.bipush 13, 2) := by decide +kernel
theorem dX6_bodyOf_115 : decode cX6_bodyOf 115 = .ok (.ireturn, 1) := by decide +kernel
theorem dX6_bodyOf_116 : decode cX6_bodyOf 116 = .ok (.bipush 20, 2) := by decide +kernel
theorem dX6_bodyOf_118 : decode cX6_bodyOf 118 = .ok (.ireturn, 1) := by decide +kernel
theorem dX6_bodyOf_119 : decode cX6_bodyOf 119 = .ok (.bipush 30, 2) := by decide +kernel
theorem dX6_bodyOf_121 : decode cX6_bodyOf 121 = .ok (.ireturn, 1) := by decide +kernel
theorem dX6_bodyOf_122 : decode cX6_bodyOf 122 = .ok (.bipush 40, 2) := by decide +kernel
theorem dX6_bodyOf_124 : decode cX6_bodyOf 124 = .ok (.ireturn, 1) := by decide +kernel
theorem dX6_bodyOf_125 : decode cX6_bodyOf 125 = .ok (.bipush 50, 2) := by decide +kernel
theorem dX6_bodyOf_127 : decode cX6_bodyOf 127 = .ok (.ireturn, 1) := by decide +kernel
theorem dX6_bodyOf_128 : decode cX6_bodyOf 128 = .ok (.bipush 60, 2) := by decide +kernel
theorem dX6_bodyOf_130 : decode cX6_bodyOf 130 = .ok (.ireturn, 1) := by decide +kernel
theorem dX6_bodyOf_131 : decode cX6_bodyOf 131 = .ok (.bipush 70, 2) := by decide +kernel
theorem dX6_bodyOf_133 : decode cX6_bodyOf 133 = .ok (.ireturn, 1) := by decide +kernel
theorem dX6_bodyOf_134 : decode cX6_bodyOf 134 = .ok (.bipush 71, 2) := by decide +kernel
theorem dX6_bodyOf_136 : decode cX6_bodyOf 136 = .ok (.ireturn, 1) := by decide +kernel
theorem dX6_bodyOf_137 : decode cX6_bodyOf 137 = .ok (.iconst 0, 1) := by decide +kernel
theorem dX6_bodyOf_138 : decode cX6_bodyOf 138 = .ok (.ireturn, 1) := by decide +kernel
def X6_bodyOf (v0 : Int32) (v1 : Int32) : Int32 := (if ((10 * v0) + v1) = 0 then 10 else (if ((10 * v0) + v1) = 1 then 11 else (if ((10 * v0) + v1) = 2 then 12 else (if ((10 * v0) + v1) = 3 then 13 else (if ((10 * v0) + v1) = 10 then 20 else (if ((10 * v0) + v1) = 21 then 30 else (if ((10 * v0) + v1) = 32 then 40 else (if ((10 * v0) + v1) = 43 then 50 else (if ((10 * v0) + v1) = 51 then 60 else (if ((10 * v0) + v1) = 62 then 70 else (if ((10 * v0) + v1) = 63 then 71 else 0)))))))))))
set_option maxRecDepth 100000 in
set_option maxHeartbeats 4000000 in
theorem X6_bodyOf_ok  {v0 : Int32} {v1 : Int32} {MM0 : MM} {res : Int32} (h : X6_bodyOf v0 v1 = res) : Spec mt_X6_bodyOf 0 [.inl v0, .inl v1] MM0 (some (.inl res)) MM0 := by
  unfold X6_bodyOf at h
  refine Spec_of_G (by decide) rfl (Nat.le_of_ble_eq_true rfl) ?_
  refine G_sub [(0, .inl v0), (1, .inl v1)] [0, 1] rfl ?_
  refine G_bipush (v := 10) dX6_bodyOf_0 (by decide) ?_
  refine G_iload_n dX6_bodyOf_2 rfl ?_
  refine G_imul dX6_bodyOf_3 ?_
  refine G_iload_n dX6_bodyOf_4 rfl ?_
  refine G_iadd dX6_bodyOf_5 ?_
  by_cases hc1 : ((10 * v0) + v1) = 0
  · replace h := (if_pos hc1).symm.trans h
    refine G_lookEq (off := 98) (tgt := 104) hc1 dX6_bodyOf_6 (by decide) (by decide) (by decide) ?_
    refine G_bipush (v := 10) dX6_bodyOf_104 (by decide) ?_
    subst h
    exact G_ret dX6_bodyOf_106 trivial rfl rfl
  replace h := (if_neg hc1).symm.trans h
  by_cases hc2 : ((10 * v0) + v1) = 1
  · replace h := (if_pos hc2).symm.trans h
    refine G_lookEq (off := 101) (tgt := 107) hc2 dX6_bodyOf_6 (by decide) (by decide) (by decide) ?_
    refine G_bipush (v := 11) dX6_bodyOf_107 (by decide) ?_
    subst h
    exact G_ret dX6_bodyOf_109 trivial rfl rfl
  replace h := (if_neg hc2).symm.trans h
  by_cases hc3 : ((10 * v0) + v1) = 2
  · replace h := (if_pos hc3).symm.trans h
    refine G_lookEq (off := 104) (tgt := 110) hc3 dX6_bodyOf_6 (by decide) (by decide) (by decide) ?_
    refine G_bipush (v := 12) dX6_bodyOf_110 (by decide) ?_
    subst h
    exact G_ret dX6_bodyOf_112 trivial rfl rfl
  replace h := (if_neg hc3).symm.trans h
  by_cases hc4 : ((10 * v0) + v1) = 3
  · replace h := (if_pos hc4).symm.trans h
    refine G_lookEq (off := 107) (tgt := 113) hc4 dX6_bodyOf_6 (by decide) (by decide) (by decide) ?_
    refine G_bipush (v := 13) dX6_bodyOf_113 (by decide) ?_
    subst h
    exact G_ret dX6_bodyOf_115 trivial rfl rfl
  replace h := (if_neg hc4).symm.trans h
  by_cases hc5 : ((10 * v0) + v1) = 10
  · replace h := (if_pos hc5).symm.trans h
    refine G_lookEq (off := 110) (tgt := 116) hc5 dX6_bodyOf_6 (by decide) (by decide) (by decide) ?_
    refine G_bipush (v := 20) dX6_bodyOf_116 (by decide) ?_
    subst h
    exact G_ret dX6_bodyOf_118 trivial rfl rfl
  replace h := (if_neg hc5).symm.trans h
  by_cases hc6 : ((10 * v0) + v1) = 21
  · replace h := (if_pos hc6).symm.trans h
    refine G_lookEq (off := 113) (tgt := 119) hc6 dX6_bodyOf_6 (by decide) (by decide) (by decide) ?_
    refine G_bipush (v := 30) dX6_bodyOf_119 (by decide) ?_
    subst h
    exact G_ret dX6_bodyOf_121 trivial rfl rfl
  replace h := (if_neg hc6).symm.trans h
  by_cases hc7 : ((10 * v0) + v1) = 32
  · replace h := (if_pos hc7).symm.trans h
    refine G_lookEq (off := 116) (tgt := 122) hc7 dX6_bodyOf_6 (by decide) (by decide) (by decide) ?_
    refine G_bipush (v := 40) dX6_bodyOf_122 (by decide) ?_
    subst h
    exact G_ret dX6_bodyOf_124 trivial rfl rfl
  replace h := (if_neg hc7).symm.trans h
  by_cases hc8 : ((10 * v0) + v1) = 43
  · replace h := (if_pos hc8).symm.trans h
    refine G_lookEq (off := 119) (tgt := 125) hc8 dX6_bodyOf_6 (by decide) (by decide) (by decide) ?_
    refine G_bipush (v := 50) dX6_bodyOf_125 (by decide) ?_
    subst h
    exact G_ret dX6_bodyOf_127 trivial rfl rfl
  replace h := (if_neg hc8).symm.trans h
  by_cases hc9 : ((10 * v0) + v1) = 51
  · replace h := (if_pos hc9).symm.trans h
    refine G_lookEq (off := 122) (tgt := 128) hc9 dX6_bodyOf_6 (by decide) (by decide) (by decide) ?_
    refine G_bipush (v := 60) dX6_bodyOf_128 (by decide) ?_
    subst h
    exact G_ret dX6_bodyOf_130 trivial rfl rfl
  replace h := (if_neg hc9).symm.trans h
  by_cases hc10 : ((10 * v0) + v1) = 62
  · replace h := (if_pos hc10).symm.trans h
    refine G_lookEq (off := 125) (tgt := 131) hc10 dX6_bodyOf_6 (by decide) (by decide) (by decide) ?_
    refine G_bipush (v := 70) dX6_bodyOf_131 (by decide) ?_
    subst h
    exact G_ret dX6_bodyOf_133 trivial rfl rfl
  replace h := (if_neg hc10).symm.trans h
  by_cases hc11 : ((10 * v0) + v1) = 63
  · replace h := (if_pos hc11).symm.trans h
    refine G_lookEq (off := 128) (tgt := 134) hc11 dX6_bodyOf_6 (by decide) (by decide) (by decide) ?_
    refine G_bipush (v := 71) dX6_bodyOf_134 (by decide) ?_
    subst h
    exact G_ret dX6_bodyOf_136 trivial rfl rfl
  replace h := (if_neg hc11).symm.trans h
  have nhc1 := ne_lit (n := 0) (by decide) hc1
  have nhc2 := ne_lit (n := 1) (by decide) hc2
  have nhc3 := ne_lit (n := 2) (by decide) hc3
  have nhc4 := ne_lit (n := 3) (by decide) hc4
  have nhc5 := ne_lit (n := 10) (by decide) hc5
  have nhc6 := ne_lit (n := 21) (by decide) hc6
  have nhc7 := ne_lit (n := 32) (by decide) hc7
  have nhc8 := ne_lit (n := 43) (by decide) hc8
  have nhc9 := ne_lit (n := 51) (by decide) hc9
  have nhc10 := ne_lit (n := 62) (by decide) hc10
  have nhc11 := ne_lit (n := 63) (by decide) hc11
  refine G_lookup (off := 131) (tgt := 137) dX6_bodyOf_6 (by decide) (by generalize (((10 * v0) + v1) : Int32).toInt = zz at nhc1 nhc2 nhc3 nhc4 nhc5 nhc6 nhc7 nhc8 nhc9 nhc10 nhc11 ⊢; simp [Op.lookupswitch.offset, Ne.symm nhc1, Ne.symm nhc2, Ne.symm nhc3, Ne.symm nhc4, Ne.symm nhc5, Ne.symm nhc6, Ne.symm nhc7, Ne.symm nhc8, Ne.symm nhc9, Ne.symm nhc10, Ne.symm nhc11]; done) (by decide) ?_
  refine G_iconst (v := 0) dX6_bodyOf_137 (by decide) ?_
  subst h
  exact G_ret dX6_bodyOf_138 trivial rfl rfl

theorem dX6_begin_0 : decode cX6_begin 0 = .ok (.aload_n 0, 1) := by decide +kernel
theorem dX6_begin_1 : decode cX6_begin 1 = .ok (.getfield 15, 3) := by decide +kernel
theorem dX6_begin_4 : decode cX6_begin 4 = .ok (.bipush 40, 2) := by decide +kernel
theorem dX6_begin_6 : decode cX6_begin 6 = .ok (.if_icmp .ge 23, 3) := by decide +kernel
theorem dX6_begin_9 : decode cX6_begin 9 = .ok (.aload_n 0, 1) := by decide +kernel
theorem dX6_begin_10 : decode cX6_begin 10 = .ok (.getfield 9, 3) := by decide +kernel
theorem dX6_begin_13 : decode cX6_begin 13 = .ok (.aload_n 0, 1) := by decide +kernel
theorem dX6_begin_14 : decode cX6_begin 14 = .ok (.getfield 15, 3) := by decide +kernel
theorem dX6_begin_17 : decode cX6_begin 17 = .ok (.iload_n 1, 1) := by decide +kernel
theorem dX6_begin_18 : decode cX6_begin 18 = .ok (.iastore, 1) := by decide +kernel
theorem dX6_begin_19 : decode cX6_begin 19 = .ok (.aload_n 0, 1) := by decide +kernel
theorem dX6_begin_20 : decode cX6_begin 20 = .ok (.dup, 1) := by decide +kernel
theorem dX6_begin_21 : decode cX6_begin 21 = .ok (.getfield 15, 3) := by decide +kernel
theorem dX6_begin_24 : decode cX6_begin 24 = .ok (.iconst 1, 1) := by decide +kernel
theorem dX6_begin_25 : decode cX6_begin 25 = .ok (.iadd, 1) := by decide +kernel
theorem dX6_begin_26 : decode cX6_begin 26 = .ok (.putfield 15, 3) := by decide +kernel
theorem dX6_begin_29 : decode cX6_begin 29 = .ok (.return_, 1) := by decide +kernel
def X6_begin (v1 : Int32) (M : Mem) : Option (Mem) := (if (M 6 0 1) < 40 then (if ib (M 6 0 1) 40 = true then (some (up3 (up3 M 16 0 ((M 6 0 1).toNatClampNeg) v1) 6 0 1 ((M 6 0 1) + 1))) else none) else (some M))
set_option maxRecDepth 100000 in
set_option maxHeartbeats 4000000 in
theorem X6_begin_ok  {v1 : Int32} {M N : Mem} {res : Mem} (h : X6_begin v1 M = some res) : Spec mt_X6_begin 0 [.inr (.inr (6, 0)), .inl v1] (M, N) none (res, N) := by
  unfold X6_begin at h
  refine Spec_of_G (by decide) rfl (Nat.le_of_ble_eq_true rfl) ?_
  refine G_sub [(0, .inr (.inr (6, 0))), (1, .inl v1)] [0, 1] rfl ?_
  refine G_aload_n dX6_begin_0 rfl ?_
  refine fg_X6_15 (v := (M 6 0 1)) rfl rfl (by decide) dX6_begin_1 ?_
  refine G_bipush (v := 40) dX6_begin_4 (by decide) ?_
  refine G_icmp_ge (tgt := 29) dX6_begin_6 (by decide) (fun hc1 => ?_) (fun hc1 => ?_)
  · replace h := (if_neg hc1).symm.trans h
    obtain rfl := Option.some.inj h
    exact G_ret dX6_begin_29 trivial rfl rfl
  · replace h := (if_pos hc1).symm.trans h
    refine G_aload_n dX6_begin_9 rfl ?_
    refine fg_X6_9 rfl (by decide) dX6_begin_10 ?_
    refine G_aload_n dX6_begin_13 rfl ?_
    refine fg_X6_15 (v := (M 6 0 1)) rfl rfl (by decide) dX6_begin_14 ?_
    refine G_iload_n dX6_begin_17 rfl ?_
    obtain ⟨hb1, h⟩ := chk h
    have lhb1 := ib_lt hb1
    refine as_16 (kk := (M 6 0 1).toNatClampNeg) (by decide) hb1 rfl dX6_begin_18 ?_
    refine G_aload_n dX6_begin_19 rfl ?_
    refine G_dup rfl dX6_begin_20 ?_
    refine fg_X6_15 (v := (M 6 0 1)) (up3_f (by decide)) rfl (by decide) dX6_begin_21 ?_
    refine G_iconst (v := 1) dX6_begin_24 (by decide) ?_
    refine G_iadd dX6_begin_25 ?_
    refine fp_X6_15 rfl (by decide) dX6_begin_26 ?_
    obtain rfl := Option.some.inj h
    exact G_ret dX6_begin_29 trivial rfl rfl

theorem dX6_say_0 : decode cX6_say 0 = .ok (.iload 4, 2) := by decide +kernel
theorem dX6_say_2 : decode cX6_say 2 = .ok (.bipush 40, 2) := by decide +kernel
theorem dX6_say_4 : decode cX6_say 4 = .ok (.if_icmp .le 5, 3) := by decide +kernel
theorem dX6_say_7 : decode cX6_say 7 = .ok (.iconst 0, 1) := by decide +kernel
theorem dX6_say_8 : decode cX6_say 8 = .ok (.ireturn, 1) := by decide +kernel
theorem dX6_say_9 : decode cX6_say 9 = .ok (.iload_n 1, 1) := by decide +kernel
theorem dX6_say_10 : decode cX6_say 10 = .ok (.istore 5, 2) := by decide +kernel
theorem dX6_say_12 : decode cX6_say 12 = .ok (.iload 5, 2) := by decide +kernel
theorem dX6_say_14 : decode cX6_say 14 = .ok (.ifCond .lt 44, 3) := by decide +kernel
theorem dX6_say_17 : decode cX6_say 17 = .ok (.iload 5, 2) := by decide +kernel
theorem dX6_say_19 : decode cX6_say 19 = .ok (.iload_n 2, 1) := by decide +kernel
theorem dX6_say_20 : decode cX6_say 20 = .ok (.invokestatic 36, 3) := by decide +kernel
theorem dX6_say_23 : decode cX6_say 23 = .ok (.istore 6, 2) := by decide +kernel
theorem dX6_say_25 : decode cX6_say 25 = .ok (.iload 6, 2) := by decide +kernel
theorem dX6_say_27 : decode cX6_say 27 = .ok (.ifCond .eq 21, 3) := by decide +kernel
theorem dX6_say_30 : decode cX6_say 30 = .ok (.aload_n 0, 1) := by decide +kernel
theorem dX6_say_31 : decode cX6_say 31 = .ok (.iload 6, 2) := by decide +kernel
theorem dX6_say_33 : decode cX6_say 33 = .ok (.invokevirtual 40, 3) := by decide +kernel
theorem dX6_say_36 : decode cX6_say 36 = .ok (.aload_n 0, 1) := by decide +kernel
theorem dX6_say_37 : decode cX6_say 37 = .ok (.iload 6, 2) := by decide +kernel
theorem dX6_say_39 : decode cX6_say 39 = .ok (.iload_n 3, 1) := by decide +kernel
theorem dX6_say_40 : decode cX6_say 40 = .ok (.iload 4, 2) := by decide +kernel
theorem dX6_say_42 : decode cX6_say 42 = .ok (.iconst 1, 1) := by decide +kernel
theorem dX6_say_43 : decode cX6_say 43 = .ok (.iadd, 1) := by decide +kernel
theorem dX6_say_44 : decode cX6_say 44 = .ok (.invokevirtual 44, 3) := by decide +kernel
theorem dX6_say_47 : decode cX6_say 47 = .ok (.ireturn, 1) := by decide +kernel
theorem dX6_say_48 : decode cX6_say 48 = .ok (.iload 5, 2) := by decide +kernel
theorem dX6_say_50 : decode cX6_say 50 = .ok (.invokestatic 48, 3) := by decide +kernel
theorem dX6_say_53 : decode cX6_say 53 = .ok (.istore 5, 2) := by decide +kernel
theorem dX6_say_55 : decode cX6_say 55 = .ok (.goto (-43), 3) := by decide +kernel
theorem dX6_say_58 : decode cX6_say 58 = .ok (.iconst 0, 1) := by decide +kernel
theorem dX6_say_59 : decode cX6_say 59 = .ok (.ireturn, 1) := by decide +kernel
theorem dX6_sayBody_0 : decode cX6_sayBody 0 = .ok (.iload_n 1, 1) := by decide +kernel
theorem dX6_sayBody_1 : decode cX6_sayBody 1 = .ok (.lookupswitch 262 #[(10, 99), (11, 106), (12, 120), (13, 127), (20, 151), (30, 162), (40, 183), (50, 193), (60, 214), (70, 225), (71, 240)], 99) := by decide +kernel
theorem dX6_sayBody_100 : decode cX6_sayBody 100 = .ok (.iload_n 2, 1) := by decide +kernel
theorem dX6_sayBody_101 : decode cX6_sayBody 101 = .ok (.aload_n 0, 1) := by decide +kernel
theorem dX6_sayBody_102 : decode cX6_sayBody 102 = .ok (.getfield 25, 3) := by decide +kernel
theorem dX6_sayBody_105 : decode cX6_sayBody 105 = .ok (.iadd, 1) := by decide +kernel
theorem dX6_sayBody_106 : decode cX6_sayBody 106 = .ok (.ireturn, 1) := by decide +kernel
theorem dX6_sayBody_107 : decode cX6_sayBody 107 = .ok (.aload_n 0, 1) := by decide +kernel
theorem dX6_sayBody_108 : decode cX6_sayBody 108 = .ok (.aload_n 0, 1) := by decide +kernel
theorem dX6_sayBody_109 : decode cX6_sayBody 109 = .ok (.getfield 24, 3) := by decide +kernel
theorem dX6_sayBody_112 : decode cX6_sayBody 112 = .ok (.iconst 0, 1) := by decide +kernel
theorem dX6_sayBody_113 : decode cX6_sayBody 113 = .ok (.iload_n 2, 1) := by decide +kernel
theorem dX6_sayBody_114 : decode cX6_sayBody 114 = .ok (.iload_n 3, 1) := by decide +kernel
theorem dX6_sayBody_115 : decode cX6_sayBody 115 = .ok (.invokevirtual 32, 3) := by decide +kernel
theorem dX6_sayBody_118 : decode cX6_sayBody 118 = .ok (.iconst 2, 1) := by decide +kernel
theorem dX6_sayBody_119 : decode cX6_sayBody 119 = .ok (.imul, 1) := by decide +kernel
theorem dX6_sayBody_120 : decode cX6_sayBody 120 = .ok (.ireturn, 1) := by decide +kernel
theorem dX6_sayBody_121 : decode cX6_sayBody 121 = .ok (.iload_n 2, 1) := by decide +kernel
theorem dX6_sayBody_122 : decode cX6_sayBody 122 = .ok (.aload_n 0, 1) := by decide +kernel
theorem dX6_sayBody_123 : decode cX6_sayBody 123 = .ok (.getfield 31, 3) := by decide +kernel
theorem dX6_sayBody_126 : decode cX6_sayBody 126 = .ok (.isub, 1) := by decide +kernel
theorem dX6_sayBody_127 : decode cX6_sayBody 127 = .ok (.ireturn, 1) := by decide +kernel
theorem dX6_sayBody_128 : decode cX6_sayBody 128 = .ok (.aload_n 0, 1) := by decide +kernel
theorem dX6_sayBody_129 : decode cX6_sayBody 129 = .ok (.aload_n 0, 1) := by decide +kernel
theorem dX6_sayBody_130 : decode cX6_sayBody 130 = .ok (.getfield 24, 3) := by decide +kernel
theorem dX6_sayBody_133 : decode cX6_sayBody 133 = .ok (.iconst 1, 1) := by decide +kernel
theorem dX6_sayBody_134 : decode cX6_sayBody 134 = .ok (.iload_n 2, 1) := by decide +kernel
theorem dX6_sayBody_135 : decode cX6_sayBody 135 = .ok (.iload_n 3, 1) := by decide +kernel
theorem dX6_sayBody_136 : decode cX6_sayBody 136 = .ok (.invokevirtual 32, 3) := by decide +kernel
theorem dX6_sayBody_139 : decode cX6_sayBody 139 = .ok (.aload_n 0, 1) := by decide +kernel
theorem dX6_sayBody_140 : decode cX6_sayBody 140 = .ok (.aload_n 0, 1) := by decide +kernel
theorem dX6_sayBody_141 : decode cX6_sayBody 141 = .ok (.getfield 24, 3) := by decide +kernel
theorem dX6_sayBody_144 : decode cX6_sayBody 144 = .ok (.iconst 2, 1) := by decide +kernel
theorem dX6_sayBody_145 : decode cX6_sayBody 145 = .ok (.iload_n 2, 1) := by decide +kernel
theorem dX6_sayBody_146 : decode cX6_sayBody 146 = .ok (.iload_n 3, 1) := by decide +kernel
theorem dX6_sayBody_147 : decode cX6_sayBody 147 = .ok (.invokevirtual 32, 3) := by decide +kernel
theorem dX6_sayBody_150 : decode cX6_sayBody 150 = .ok (.ixor, 1) := by decide +kernel
theorem dX6_sayBody_151 : decode cX6_sayBody 151 = .ok (.ireturn, 1) := by decide +kernel
theorem dX6_sayBody_152 : decode cX6_sayBody 152 = .ok (.aload_n 0, 1) := by decide +kernel
theorem dX6_sayBody_153 : decode cX6_sayBody 153 = .ok (.iconst 1, 1) := by decide +kernel
theorem dX6_sayBody_154 : decode cX6_sayBody 154 = .ok (.iconst 0, 1) := by decide +kernel
theorem dX6_sayBody_155 : decode cX6_sayBody 155 = .ok (.iload_n 2, 1) := by decide +kernel
theorem dX6_sayBody_156 : decode cX6_sayBody 156 = .ok (.iload_n 3, 1) := by decide +kernel
theorem dX6_sayBody_157 : decode cX6_sayBody 157 = .ok (.invokevirtual 52, 3) := by decide +kernel
theorem dX6_sayBody_160 : decode cX6_sayBody 160 = .ok (.iconst 3, 1) := by decide +kernel
theorem dX6_sayBody_161 : decode cX6_sayBody 161 = .ok (.imul, 1) := by decide +kernel
theorem dX6_sayBody_162 : decode cX6_sayBody 162 = .ok (.ireturn, 1) := by decide +kernel
theorem dX6_sayBody_163 : decode cX6_sayBody 163 = .ok (.aload_n 0, 1) := by decide +kernel
theorem dX6_sayBody_164 : decode cX6_sayBody 164 = .ok (.iconst 2, 1) := by decide +kernel
theorem dX6_sayBody_165 : decode cX6_sayBody 165 = .ok (.iconst 1, 1) := by decide +kernel
theorem dX6_sayBody_166 : decode cX6_sayBody 166 = .ok (.iload_n 2, 1) := by decide +kernel
theorem dX6_sayBody_167 : decode cX6_sayBody 167 = .ok (.iload_n 3, 1) := by decide +kernel
theorem dX6_sayBody_168 : decode cX6_sayBody 168 = .ok (.invokevirtual 52, 3) := by decide +kernel
theorem dX6_sayBody_171 : decode cX6_sayBody 171 = .ok (.aload_n 0, 1) := by decide +kernel
theorem dX6_sayBody_172 : decode cX6_sayBody 172 = .ok (.aload_n 0, 1) := by decide +kernel
theorem dX6_sayBody_173 : decode cX6_sayBody 173 = .ok (.getfield 24, 3) := by decide +kernel
theorem dX6_sayBody_176 : decode cX6_sayBody 176 = .ok (.iconst 2, 1) := by decide +kernel
theorem dX6_sayBody_177 : decode cX6_sayBody 177 = .ok (.iconst 1, 1) := by decide +kernel
theorem dX6_sayBody_178 : decode cX6_sayBody 178 = .ok (.iload_n 3, 1) := by decide +kernel
theorem dX6_sayBody_179 : decode cX6_sayBody 179 = .ok (.invokevirtual 32, 3) := by decide +kernel
theorem dX6_sayBody_182 : decode cX6_sayBody 182 = .ok (.isub, 1) := by decide +kernel
theorem dX6_sayBody_183 : decode cX6_sayBody 183 = .ok (.ireturn, 1) := by decide +kernel
theorem dX6_sayBody_184 : decode cX6_sayBody 184 = .ok (.aload_n 0, 1) := by decide +kernel
theorem dX6_sayBody_185 : decode cX6_sayBody 185 = .ok (.iconst 3, 1) := by decide +kernel
theorem dX6_sayBody_186 : decode cX6_sayBody 186 = .ok (.iconst 2, 1) := by decide +kernel
theorem dX6_sayBody_187 : decode cX6_sayBody 187 = .ok (.iload_n 2, 1) := by decide +kernel
theorem dX6_sayBody_188 : decode cX6_sayBody 188 = .ok (.iload_n 3, 1) := by decide +kernel
theorem dX6_sayBody_189 : decode cX6_sayBody 189 = .ok (.invokevirtual 52, 3) := by decide +kernel
theorem dX6_sayBody_192 : decode cX6_sayBody 192 = .ok (.ineg, 1) := by decide +kernel
theorem dX6_sayBody_193 : decode cX6_sayBody 193 = .ok (.ireturn, 1) := by decide +kernel
theorem dX6_sayBody_194 : decode cX6_sayBody 194 = .ok (.aload_n 0, 1) := by decide +kernel
theorem dX6_sayBody_195 : decode cX6_sayBody 195 = .ok (.iconst 4, 1) := by decide +kernel
theorem dX6_sayBody_196 : decode cX6_sayBody 196 = .ok (.iconst 3, 1) := by decide +kernel
theorem dX6_sayBody_197 : decode cX6_sayBody 197 = .ok (.iload_n 2, 1) := by decide +kernel
theorem dX6_sayBody_198 : decode cX6_sayBody 198 = .ok (.iload_n 3, 1) := by decide +kernel
theorem dX6_sayBody_199 : decode cX6_sayBody 199 = .ok (.invokevirtual 52, 3) := by decide +kernel
theorem dX6_sayBody_202 : decode cX6_sayBody 202 = .ok (.aload_n 0, 1) := by decide +kernel
theorem dX6_sayBody_203 : decode cX6_sayBody 203 = .ok (.aload_n 0, 1) := by decide +kernel
theorem dX6_sayBody_204 : decode cX6_sayBody 204 = .ok (.getfield 24, 3) := by decide +kernel
theorem dX6_sayBody_207 : decode cX6_sayBody 207 = .ok (.iconst 0, 1) := by decide +kernel
theorem dX6_sayBody_208 : decode cX6_sayBody 208 = .ok (.iconst 2, 1) := by decide +kernel
theorem dX6_sayBody_209 : decode cX6_sayBody 209 = .ok (.iload_n 3, 1) := by decide +kernel
theorem dX6_sayBody_210 : decode cX6_sayBody 210 = .ok (.invokevirtual 32, 3) := by decide +kernel
theorem dX6_sayBody_213 : decode cX6_sayBody 213 = .ok (.isub, 1) := by decide +kernel
theorem dX6_sayBody_214 : decode cX6_sayBody 214 = .ok (.ireturn, 1) := by decide +kernel
theorem dX6_sayBody_215 : decode cX6_sayBody 215 = .ok (.aload_n 0, 1) := by decide +kernel
theorem dX6_sayBody_216 : decode cX6_sayBody 216 = .ok (.iconst 5, 1) := by decide +kernel
theorem dX6_sayBody_217 : decode cX6_sayBody 217 = .ok (.iconst 1, 1) := by decide +kernel
theorem dX6_sayBody_218 : decode cX6_sayBody 218 = .ok (.iload_n 2, 1) := by decide +kernel
theorem dX6_sayBody_219 : decode cX6_sayBody 219 = .ok (.iconst 1, 1) := by decide +kernel
theorem dX6_sayBody_220 : decode cX6_sayBody 220 = .ok (.iadd, 1) := by decide +kernel
theorem dX6_sayBody_221 : decode cX6_sayBody 221 = .ok (.iload_n 3, 1) := by decide +kernel
theorem dX6_sayBody_222 : decode cX6_sayBody 222 = .ok (.invokevirtual 52, 3) := by decide +kernel
theorem dX6_sayBody_225 : decode cX6_sayBody 225 = .ok (.ireturn, 1) := by decide +kernel
theorem dX6_sayBody_226 : decode cX6_sayBody 226 = .ok (.aload_n 0, 1) := by decide +kernel
theorem dX6_sayBody_227 : decode cX6_sayBody 227 = .ok (.bipush 6, 2) := by decide +kernel
theorem dX6_sayBody_229 : decode cX6_sayBody 229 = .ok (.iconst 2, 1) := by decide +kernel
theorem dX6_sayBody_230 : decode cX6_sayBody 230 = .ok (.iload_n 2, 1) := by decide +kernel
theorem dX6_sayBody_231 : decode cX6_sayBody 231 = .ok (.iload_n 3, 1) := by decide +kernel
theorem dX6_sayBody_232 : decode cX6_sayBody 232 = .ok (.invokevirtual 52, 3) := by decide +kernel
theorem dX6_sayBody_235 : decode cX6_sayBody 235 = .ok (.aload_n 0, 1) := by decide +kernel
theorem dX6_sayBody_236 : decode cX6_sayBody 236 = .ok (.getfield 25, 3) := by decide +kernel
theorem dX6_sayBody_239 : decode cX6_sayBody 239 = .ok (.ixor, 1) := by decide +kernel
theorem dX6_sayBody_240 : decode cX6_sayBody 240 = .ok (.ireturn, 1) := by decide +kernel
theorem dX6_sayBody_241 : decode cX6_sayBody 241 = .ok (.aload_n 0, 1) := by decide +kernel
theorem dX6_sayBody_242 : decode cX6_sayBody 242 = .ok (.aload_n 0, 1) := by decide +kernel
theorem dX6_sayBody_243 : decode cX6_sayBody 243 = .ok (.getfield 24, 3) := by decide +kernel
theorem dX6_sayBody_246 : decode cX6_sayBody 246 = .ok (.iconst 1, 1) := by decide +kernel
theorem dX6_sayBody_247 : decode cX6_sayBody 247 = .ok (.iload_n 2, 1) := by decide +kernel
theorem dX6_sayBody_248 : decode cX6_sayBody 248 = .ok (.iload_n 3, 1) := by decide +kernel
theorem dX6_sayBody_249 : decode cX6_sayBody 249 = .ok (.invokevirtual 32, 3) := by decide +kernel
theorem dX6_sayBody_252 : decode cX6_sayBody 252 = .ok (.aload_n 0, 1) := by decide +kernel
theorem dX6_sayBody_253 : decode cX6_sayBody 253 = .ok (.bipush 6, 2) := by decide +kernel
theorem dX6_sayBody_255 : decode cX6_sayBody 255 = .ok (.iconst 3, 1) := by decide +kernel
theorem dX6_sayBody_256 : decode cX6_sayBody 256 = .ok (.iload_n 2, 1) := by decide +kernel
theorem dX6_sayBody_257 : decode cX6_sayBody 257 = .ok (.iload_n 3, 1) := by decide +kernel
theorem dX6_sayBody_258 : decode cX6_sayBody 258 = .ok (.invokevirtual 52, 3) := by decide +kernel
theorem dX6_sayBody_261 : decode cX6_sayBody 261 = .ok (.isub, 1) := by decide +kernel
theorem dX6_sayBody_262 : decode cX6_sayBody 262 = .ok (.ireturn, 1) := by decide +kernel
theorem dX6_sayBody_263 : decode cX6_sayBody 263 = .ok (.iconst 0, 1) := by decide +kernel
theorem dX6_sayBody_264 : decode cX6_sayBody 264 = .ok (.ireturn, 1) := by decide +kernel
theorem dX6_sayAbove_0 : decode cX6_sayAbove 0 = .ok (.aload_n 0, 1) := by decide +kernel
theorem dX6_sayAbove_1 : decode cX6_sayAbove 1 = .ok (.iload_n 1, 1) := by decide +kernel
theorem dX6_sayAbove_2 : decode cX6_sayAbove 2 = .ok (.invokestatic 48, 3) := by decide +kernel
theorem dX6_sayAbove_5 : decode cX6_sayAbove 5 = .ok (.iload_n 2, 1) := by decide +kernel
theorem dX6_sayAbove_6 : decode cX6_sayAbove 6 = .ok (.iload_n 3, 1) := by decide +kernel
theorem dX6_sayAbove_7 : decode cX6_sayAbove 7 = .ok (.iload 4, 2) := by decide +kernel
theorem dX6_sayAbove_9 : decode cX6_sayAbove 9 = .ok (.invokevirtual 32, 3) := by decide +kernel
theorem dX6_sayAbove_12 : decode cX6_sayAbove 12 = .ok (.ireturn, 1) := by decide +kernel
def X6_say_L12 (rc : Nat → Int32 → Int32 → Int32 → Int32 → Mem → Option (Int32 × Mem)) : Nat → Int32 → Int32 → Int32 → Int32 → Mem → Option (Unit ⊕ (Int32 × Mem))
  | 0, _, _, _, _, _ => none
  | fu + 1, v2, v3, v4, v5, M => (if v5 < 0 then (some (.inl ())) else (if (X6_bodyOf v5 v2) = 0 then (X6_say_L12 rc fu v2 v3 v4 (X7_kindAbove v5) M) else ((X6_begin (X6_bodyOf v5 v2) M).bind fun q1 => ((rc 1 (X6_bodyOf v5 v2) v3 (v4 + 1) 0 q1).bind fun q2 => (some (.inr (q2.1, q2.2)))))))
set_option maxRecDepth 100000 in
set_option maxHeartbeats 4000000 in
theorem X6_say_L12_ok (rc : Nat → Int32 → Int32 → Int32 → Int32 → Mem → Option (Int32 × Mem))  {d : Nat} (hd0 : 1 ≤ d) (hr0 : ∀ {a0 a1 a2 a3 : Int32} {M N : Mem} {res : Int32 × Mem}, rc 0 a0 a1 a2 a3 M = some res → Spec mt_X6_say d [.inr (.inr (6, 0)), .inl a0, .inl a1, .inl a2, .inl a3] (M, N) (some (.inl res.1)) (res.2, N)) (hr1 : ∀ {a0 a1 a2 a3 : Int32} {M N : Mem} {res : Int32 × Mem}, rc 1 a0 a1 a2 a3 M = some res → Spec mt_X6_sayBody d [.inr (.inr (6, 0)), .inl a0, .inl a1, .inl a2] (M, N) (some (.inl res.1)) (res.2, N)) (hr2 : ∀ {a0 a1 a2 a3 : Int32} {M N : Mem} {res : Int32 × Mem}, rc 2 a0 a1 a2 a3 M = some res → Spec mt_X6_sayAbove d [.inr (.inr (6, 0)), .inl a0, .inl a1, .inl a2, .inl a3] (M, N) (some (.inl res.1)) (res.2, N)) {r : Option AV} {M' : MM} : ∀ (fu : Nat) (v2 : Int32) (v3 : Int32) (v4 : Int32) (v5 : Int32) (M N : Mem) {res : (Unit) ⊕ (Int32 × Mem)} (h : X6_say_L12 rc fu v2 v3 v4 v5 M = some res) (K : ∀ q, res = .inl q → G mt_X6_say (d + 1) r M' 58 [] [] (M, N)) (K2 : ∀ q, res = .inr q → r = (some (.inl q.1)) ∧ M' = (q.2, N)), G mt_X6_say (d + 1) r M' 12 [(0, .inr (.inr (6, 0))), (2, .inl v2), (3, .inl v3), (4, .inl v4), (5, .inl v5)] [] (M, N) := by
  intro fu
  induction fu with
  | zero =>
    intro v2 v3 v4 v5 M N res h
    cases h
  | succ fu ih =>
    intro v2 v3 v4 v5 M N res h K K2
    replace h : (if v5 < 0 then (some (.inl ())) else (if (X6_bodyOf v5 v2) = 0 then (X6_say_L12 rc fu v2 v3 v4 (X7_kindAbove v5) M) else ((X6_begin (X6_bodyOf v5 v2) M).bind fun q1 => ((rc 1 (X6_bodyOf v5 v2) v3 (v4 + 1) 0 q1).bind fun q2 => (some (.inr (q2.1, q2.2))))))) = some res := h
    refine G_iload dX6_say_12 rfl ?_
    refine G_if_lt (tgt := 58) dX6_say_14 (by decide) (fun hc4 => ?_) (fun hc4 => ?_)
    · replace h := (if_pos hc4).symm.trans h
      refine G_sub [] [] rfl ?_
      exact K _ (Option.some.inj h).symm
    · replace h := (if_neg hc4).symm.trans h
      refine G_iload dX6_say_17 rfl ?_
      refine G_iload_n dX6_say_19 rfl ?_
      refine G_callSv  (X6_bodyOf_ok rfl) ok_X6_bodyOf ml_X6_36 (by omega) rfl rfl (Nat.le_of_ble_eq_true rfl) dX6_say_20 ?_
      refine G_istore (L2 := [(6, .inl (X6_bodyOf v5 v2)), (0, .inr (.inr (6, 0))), (2, .inl v2), (3, .inl v3), (4, .inl v4), (5, .inl v5)]) dX6_say_23 (by decide) rfl ?_
      refine G_iload dX6_say_25 rfl ?_
      refine G_if_eq (tgt := 48) dX6_say_27 (by decide) (fun hc5 => ?_) (fun hc5 => ?_)
      · replace h := (if_pos hc5).symm.trans h
        refine G_iload dX6_say_48 rfl ?_
        refine G_callSNv  (X7_kindAbove_ok rfl) ok_X7_kindAbove (by first | exact List.mem_cons_self | exact List.mem_cons_of_mem _ List.mem_cons_self) (by omega) rfl rfl (Nat.le_of_ble_eq_true rfl) dX6_say_50 ?_
        refine G_istore (L2 := [(5, .inl (X7_kindAbove v5)), (6, .inl (X6_bodyOf v5 v2)), (0, .inr (.inr (6, 0))), (2, .inl v2), (3, .inl v3), (4, .inl v4)]) dX6_say_53 (by decide) rfl ?_
        refine G_goto (tgt := 12) dX6_say_55 (by decide) ?_
        refine G_sub [(0, .inr (.inr (6, 0))), (2, .inl v2), (3, .inl v3), (4, .inl v4), (5, .inl (X7_kindAbove v5))] [2, 3, 4, 5, 0] rfl ?_
        exact ih v2 v3 v4 (X7_kindAbove v5) M _  h K K2
      · replace h := (if_neg hc5).symm.trans h
        refine G_aload_n dX6_say_30 rfl ?_
        refine G_iload dX6_say_31 rfl ?_
        obtain ⟨q1, hq1, h⟩ := bnd h
        refine G_callVn (T := TX6) (N := 5) (f := 6) (i := 0) (X6_begin_ok hq1) ok_X6_begin ml_X6_40 (by omega) rfl (by decide) (by decide) (by decide) rfl rfl (Nat.le_of_ble_eq_true rfl) dX6_say_33 ?_
        refine G_aload_n dX6_say_36 rfl ?_
        refine G_iload dX6_say_37 rfl ?_
        refine G_iload_n dX6_say_39 rfl ?_
        refine G_iload dX6_say_40 rfl ?_
        refine G_iconst (v := 1) dX6_say_42 (by decide) ?_
        refine G_iadd dX6_say_43 ?_
        obtain ⟨q2, hq2, h⟩ := bnd h
        refine G_callVv (T := TX6) (N := 5) (f := 6) (i := 0) (hr1 hq2) ok_X6_sayBody ml_X6_44 (by omega) rfl (by decide) (by decide) (by decide) rfl rfl (Nat.le_of_ble_eq_true rfl) dX6_say_44 ?_
        obtain ⟨e1, e2⟩ := K2 _ (Option.some.inj h).symm
        subst e1; subst e2
        exact G_ret dX6_say_47 trivial rfl rfl

def X6_say (rc : Nat → Int32 → Int32 → Int32 → Int32 → Mem → Option (Int32 × Mem)) (v1 : Int32) (v2 : Int32) (v3 : Int32) (v4 : Int32) (M : Mem) : Option (Int32 × Mem) := (if 40 < v4 then (some (0, M)) else ((X6_say_L12 rc 400 v2 v3 v4 v1 M).bind fun q3 => match q3 with
  | .inl q3 => (some (0, M))
  | .inr q3 => some q3))
set_option maxRecDepth 100000 in
set_option maxHeartbeats 4000000 in
theorem X6_say_ok (rc : Nat → Int32 → Int32 → Int32 → Int32 → Mem → Option (Int32 × Mem))  {d : Nat} (hd0 : 1 ≤ d) (hr0 : ∀ {a0 a1 a2 a3 : Int32} {M N : Mem} {res : Int32 × Mem}, rc 0 a0 a1 a2 a3 M = some res → Spec mt_X6_say d [.inr (.inr (6, 0)), .inl a0, .inl a1, .inl a2, .inl a3] (M, N) (some (.inl res.1)) (res.2, N)) (hr1 : ∀ {a0 a1 a2 a3 : Int32} {M N : Mem} {res : Int32 × Mem}, rc 1 a0 a1 a2 a3 M = some res → Spec mt_X6_sayBody d [.inr (.inr (6, 0)), .inl a0, .inl a1, .inl a2] (M, N) (some (.inl res.1)) (res.2, N)) (hr2 : ∀ {a0 a1 a2 a3 : Int32} {M N : Mem} {res : Int32 × Mem}, rc 2 a0 a1 a2 a3 M = some res → Spec mt_X6_sayAbove d [.inr (.inr (6, 0)), .inl a0, .inl a1, .inl a2, .inl a3] (M, N) (some (.inl res.1)) (res.2, N)) {v1 : Int32} {v2 : Int32} {v3 : Int32} {v4 : Int32} {M N : Mem} {res : Int32 × Mem} (h : X6_say rc v1 v2 v3 v4 M = some res) : Spec mt_X6_say (d + 1) [.inr (.inr (6, 0)), .inl v1, .inl v2, .inl v3, .inl v4] (M, N) (some (.inl res.1)) (res.2, N) := by
  unfold X6_say at h
  refine Spec_of_G (by decide) rfl (Nat.le_of_ble_eq_true rfl) ?_
  refine G_sub [(0, .inr (.inr (6, 0))), (1, .inl v1), (2, .inl v2), (3, .inl v3), (4, .inl v4)] [0, 1, 2, 3, 4] rfl ?_
  refine G_iload dX6_say_0 rfl ?_
  refine G_bipush (v := 40) dX6_say_2 (by decide) ?_
  refine G_icmp_le (tgt := 9) dX6_say_4 (by decide) (fun hc1 => ?_) (fun hc1 => ?_)
  · replace h := (if_neg hc1).symm.trans h
    refine G_iload_n dX6_say_9 rfl ?_
    refine G_istore (L2 := [(5, .inl v1), (0, .inr (.inr (6, 0))), (1, .inl v1), (2, .inl v2), (3, .inl v3), (4, .inl v4)]) dX6_say_10 (by decide) rfl ?_
    refine G_sub [(0, .inr (.inr (6, 0))), (2, .inl v2), (3, .inl v3), (4, .inl v4), (5, .inl v1)] [1, 3, 4, 5, 0] rfl ?_
    obtain ⟨q3, hq3, h⟩ := bnd h
    refine X6_say_L12_ok rc  hd0 hr0 hr1 hr2 400 v2 v3 v4 v1 M _  hq3 (fun q3n q3e => ?_) (fun q3n q3e => ?_)
    · subst q3e
      refine G_iconst (v := 0) dX6_say_58 (by decide) ?_
      obtain rfl := Option.some.inj h
      exact G_ret dX6_say_59 trivial rfl rfl
    · subst q3e
      obtain rfl := Option.some.inj h
      exact ⟨rfl, rfl⟩
  · replace h := (if_pos hc1).symm.trans h
    refine G_iconst (v := 0) dX6_say_7 (by decide) ?_
    obtain rfl := Option.some.inj h
    exact G_ret dX6_say_8 trivial rfl rfl

def X6_sayBody (rc : Nat → Int32 → Int32 → Int32 → Int32 → Mem → Option (Int32 × Mem)) (v1 : Int32) (v2 : Int32) (v3 : Int32) (M : Mem) : Option (Int32 × Mem) := (if v1 = 10 then (some ((v2 + (M 6 0 3)), M)) else (if v1 = 11 then ((rc 0 (M 6 0 2) 0 v2 v3 M).bind fun q1 => (some ((q1.1 * 2), q1.2))) else (if v1 = 12 then (some ((v2 - (M 6 0 4)), M)) else (if v1 = 13 then ((rc 0 (M 6 0 2) 1 v2 v3 M).bind fun q2 => ((rc 0 (q2.2 6 0 2) 2 v2 v3 q2.2).bind fun q3 => (some ((q2.1 ^^^ q3.1), q3.2)))) else (if v1 = 20 then ((rc 2 1 0 v2 v3 M).bind fun q4 => (some ((q4.1 * 3), q4.2))) else (if v1 = 30 then ((rc 2 2 1 v2 v3 M).bind fun q5 => ((rc 0 (q5.2 6 0 2) 2 1 v3 q5.2).bind fun q6 => (some ((q5.1 - q6.1), q6.2)))) else (if v1 = 40 then ((rc 2 3 2 v2 v3 M).bind fun q7 => (some ((-q7.1), q7.2))) else (if v1 = 50 then ((rc 2 4 3 v2 v3 M).bind fun q8 => ((rc 0 (q8.2 6 0 2) 0 2 v3 q8.2).bind fun q9 => (some ((q8.1 - q9.1), q9.2)))) else (if v1 = 60 then ((rc 2 5 1 (v2 + 1) v3 M).bind fun q10 => (some (q10.1, q10.2))) else (if v1 = 70 then ((rc 2 6 2 v2 v3 M).bind fun q11 => (some ((q11.1 ^^^ (q11.2 6 0 3)), q11.2))) else (if v1 = 71 then ((rc 0 (M 6 0 2) 1 v2 v3 M).bind fun q12 => ((rc 2 6 3 v2 v3 q12.2).bind fun q13 => (some ((q12.1 - q13.1), q13.2)))) else (some (0, M)))))))))))))
set_option maxRecDepth 100000 in
set_option maxHeartbeats 4000000 in
theorem X6_sayBody_ok (rc : Nat → Int32 → Int32 → Int32 → Int32 → Mem → Option (Int32 × Mem))  {d : Nat} (hd0 : 1 ≤ d) (hr0 : ∀ {a0 a1 a2 a3 : Int32} {M N : Mem} {res : Int32 × Mem}, rc 0 a0 a1 a2 a3 M = some res → Spec mt_X6_say d [.inr (.inr (6, 0)), .inl a0, .inl a1, .inl a2, .inl a3] (M, N) (some (.inl res.1)) (res.2, N)) (hr1 : ∀ {a0 a1 a2 a3 : Int32} {M N : Mem} {res : Int32 × Mem}, rc 1 a0 a1 a2 a3 M = some res → Spec mt_X6_sayBody d [.inr (.inr (6, 0)), .inl a0, .inl a1, .inl a2] (M, N) (some (.inl res.1)) (res.2, N)) (hr2 : ∀ {a0 a1 a2 a3 : Int32} {M N : Mem} {res : Int32 × Mem}, rc 2 a0 a1 a2 a3 M = some res → Spec mt_X6_sayAbove d [.inr (.inr (6, 0)), .inl a0, .inl a1, .inl a2, .inl a3] (M, N) (some (.inl res.1)) (res.2, N)) {v1 : Int32} {v2 : Int32} {v3 : Int32} {M N : Mem} {res : Int32 × Mem} (h : X6_sayBody rc v1 v2 v3 M = some res) : Spec mt_X6_sayBody (d + 1) [.inr (.inr (6, 0)), .inl v1, .inl v2, .inl v3] (M, N) (some (.inl res.1)) (res.2, N) := by
  unfold X6_sayBody at h
  refine Spec_of_G (by decide) rfl (Nat.le_of_ble_eq_true rfl) ?_
  refine G_sub [(0, .inr (.inr (6, 0))), (1, .inl v1), (2, .inl v2), (3, .inl v3)] [0, 1, 2, 3] rfl ?_
  refine G_iload_n dX6_sayBody_0 rfl ?_
  by_cases hc1 : v1 = 10
  · replace h := (if_pos hc1).symm.trans h
    refine G_lookEq (off := 99) (tgt := 100) hc1 dX6_sayBody_1 (by decide) (by decide) (by decide) ?_
    refine G_iload_n dX6_sayBody_100 rfl ?_
    refine G_aload_n dX6_sayBody_101 rfl ?_
    refine fg_X6_25 (v := (M 6 0 3)) rfl rfl (by decide) dX6_sayBody_102 ?_
    refine G_iadd dX6_sayBody_105 ?_
    obtain rfl := Option.some.inj h
    exact G_ret dX6_sayBody_106 trivial rfl rfl
  replace h := (if_neg hc1).symm.trans h
  by_cases hc2 : v1 = 11
  · replace h := (if_pos hc2).symm.trans h
    refine G_lookEq (off := 106) (tgt := 107) hc2 dX6_sayBody_1 (by decide) (by decide) (by decide) ?_
    refine G_aload_n dX6_sayBody_107 rfl ?_
    refine G_aload_n dX6_sayBody_108 rfl ?_
    refine fg_X6_24 (v := (M 6 0 2)) rfl rfl (by decide) dX6_sayBody_109 ?_
    refine G_iconst (v := 0) dX6_sayBody_112 (by decide) ?_
    refine G_iload_n dX6_sayBody_113 rfl ?_
    refine G_iload_n dX6_sayBody_114 rfl ?_
    obtain ⟨q1, hq1, h⟩ := bnd h
    refine G_callVv (T := TX6) (N := 5) (f := 6) (i := 0) (hr0 hq1) ok_X6_say ml_X6_32 (by omega) rfl (by decide) (by decide) (by decide) rfl rfl (Nat.le_of_ble_eq_true rfl) dX6_sayBody_115 ?_
    refine G_iconst (v := 2) dX6_sayBody_118 (by decide) ?_
    refine G_imul dX6_sayBody_119 ?_
    obtain rfl := Option.some.inj h
    exact G_ret dX6_sayBody_120 trivial rfl rfl
  replace h := (if_neg hc2).symm.trans h
  by_cases hc3 : v1 = 12
  · replace h := (if_pos hc3).symm.trans h
    refine G_lookEq (off := 120) (tgt := 121) hc3 dX6_sayBody_1 (by decide) (by decide) (by decide) ?_
    refine G_iload_n dX6_sayBody_121 rfl ?_
    refine G_aload_n dX6_sayBody_122 rfl ?_
    refine fg_X6_31 (v := (M 6 0 4)) rfl rfl (by decide) dX6_sayBody_123 ?_
    refine G_isub dX6_sayBody_126 ?_
    obtain rfl := Option.some.inj h
    exact G_ret dX6_sayBody_127 trivial rfl rfl
  replace h := (if_neg hc3).symm.trans h
  by_cases hc4 : v1 = 13
  · replace h := (if_pos hc4).symm.trans h
    refine G_lookEq (off := 127) (tgt := 128) hc4 dX6_sayBody_1 (by decide) (by decide) (by decide) ?_
    refine G_aload_n dX6_sayBody_128 rfl ?_
    refine G_aload_n dX6_sayBody_129 rfl ?_
    refine fg_X6_24 (v := (M 6 0 2)) rfl rfl (by decide) dX6_sayBody_130 ?_
    refine G_iconst (v := 1) dX6_sayBody_133 (by decide) ?_
    refine G_iload_n dX6_sayBody_134 rfl ?_
    refine G_iload_n dX6_sayBody_135 rfl ?_
    obtain ⟨q2, hq2, h⟩ := bnd h
    refine G_callVv (T := TX6) (N := 5) (f := 6) (i := 0) (hr0 hq2) ok_X6_say ml_X6_32 (by omega) rfl (by decide) (by decide) (by decide) rfl rfl (Nat.le_of_ble_eq_true rfl) dX6_sayBody_136 ?_
    refine G_aload_n dX6_sayBody_139 rfl ?_
    refine G_aload_n dX6_sayBody_140 rfl ?_
    refine fg_X6_24 (v := (q2.2 6 0 2)) rfl rfl (by decide) dX6_sayBody_141 ?_
    refine G_iconst (v := 2) dX6_sayBody_144 (by decide) ?_
    refine G_iload_n dX6_sayBody_145 rfl ?_
    refine G_iload_n dX6_sayBody_146 rfl ?_
    obtain ⟨q3, hq3, h⟩ := bnd h
    refine G_callVv (T := TX6) (N := 5) (f := 6) (i := 0) (hr0 hq3) ok_X6_say ml_X6_32 (by omega) rfl (by decide) (by decide) (by decide) rfl rfl (Nat.le_of_ble_eq_true rfl) dX6_sayBody_147 ?_
    refine G_ixor dX6_sayBody_150 ?_
    obtain rfl := Option.some.inj h
    exact G_ret dX6_sayBody_151 trivial rfl rfl
  replace h := (if_neg hc4).symm.trans h
  by_cases hc5 : v1 = 20
  · replace h := (if_pos hc5).symm.trans h
    refine G_lookEq (off := 151) (tgt := 152) hc5 dX6_sayBody_1 (by decide) (by decide) (by decide) ?_
    refine G_aload_n dX6_sayBody_152 rfl ?_
    refine G_iconst (v := 1) dX6_sayBody_153 (by decide) ?_
    refine G_iconst (v := 0) dX6_sayBody_154 (by decide) ?_
    refine G_iload_n dX6_sayBody_155 rfl ?_
    refine G_iload_n dX6_sayBody_156 rfl ?_
    obtain ⟨q4, hq4, h⟩ := bnd h
    refine G_callVv (T := TX6) (N := 5) (f := 6) (i := 0) (hr2 hq4) ok_X6_sayAbove ml_X6_52 (by omega) rfl (by decide) (by decide) (by decide) rfl rfl (Nat.le_of_ble_eq_true rfl) dX6_sayBody_157 ?_
    refine G_iconst (v := 3) dX6_sayBody_160 (by decide) ?_
    refine G_imul dX6_sayBody_161 ?_
    obtain rfl := Option.some.inj h
    exact G_ret dX6_sayBody_162 trivial rfl rfl
  replace h := (if_neg hc5).symm.trans h
  by_cases hc6 : v1 = 30
  · replace h := (if_pos hc6).symm.trans h
    refine G_lookEq (off := 162) (tgt := 163) hc6 dX6_sayBody_1 (by decide) (by decide) (by decide) ?_
    refine G_aload_n dX6_sayBody_163 rfl ?_
    refine G_iconst (v := 2) dX6_sayBody_164 (by decide) ?_
    refine G_iconst (v := 1) dX6_sayBody_165 (by decide) ?_
    refine G_iload_n dX6_sayBody_166 rfl ?_
    refine G_iload_n dX6_sayBody_167 rfl ?_
    obtain ⟨q5, hq5, h⟩ := bnd h
    refine G_callVv (T := TX6) (N := 5) (f := 6) (i := 0) (hr2 hq5) ok_X6_sayAbove ml_X6_52 (by omega) rfl (by decide) (by decide) (by decide) rfl rfl (Nat.le_of_ble_eq_true rfl) dX6_sayBody_168 ?_
    refine G_aload_n dX6_sayBody_171 rfl ?_
    refine G_aload_n dX6_sayBody_172 rfl ?_
    refine fg_X6_24 (v := (q5.2 6 0 2)) rfl rfl (by decide) dX6_sayBody_173 ?_
    refine G_iconst (v := 2) dX6_sayBody_176 (by decide) ?_
    refine G_iconst (v := 1) dX6_sayBody_177 (by decide) ?_
    refine G_iload_n dX6_sayBody_178 rfl ?_
    obtain ⟨q6, hq6, h⟩ := bnd h
    refine G_callVv (T := TX6) (N := 5) (f := 6) (i := 0) (hr0 hq6) ok_X6_say ml_X6_32 (by omega) rfl (by decide) (by decide) (by decide) rfl rfl (Nat.le_of_ble_eq_true rfl) dX6_sayBody_179 ?_
    refine G_isub dX6_sayBody_182 ?_
    obtain rfl := Option.some.inj h
    exact G_ret dX6_sayBody_183 trivial rfl rfl
  replace h := (if_neg hc6).symm.trans h
  by_cases hc7 : v1 = 40
  · replace h := (if_pos hc7).symm.trans h
    refine G_lookEq (off := 183) (tgt := 184) hc7 dX6_sayBody_1 (by decide) (by decide) (by decide) ?_
    refine G_aload_n dX6_sayBody_184 rfl ?_
    refine G_iconst (v := 3) dX6_sayBody_185 (by decide) ?_
    refine G_iconst (v := 2) dX6_sayBody_186 (by decide) ?_
    refine G_iload_n dX6_sayBody_187 rfl ?_
    refine G_iload_n dX6_sayBody_188 rfl ?_
    obtain ⟨q7, hq7, h⟩ := bnd h
    refine G_callVv (T := TX6) (N := 5) (f := 6) (i := 0) (hr2 hq7) ok_X6_sayAbove ml_X6_52 (by omega) rfl (by decide) (by decide) (by decide) rfl rfl (Nat.le_of_ble_eq_true rfl) dX6_sayBody_189 ?_
    refine G_ineg dX6_sayBody_192 ?_
    obtain rfl := Option.some.inj h
    exact G_ret dX6_sayBody_193 trivial rfl rfl
  replace h := (if_neg hc7).symm.trans h
  by_cases hc8 : v1 = 50
  · replace h := (if_pos hc8).symm.trans h
    refine G_lookEq (off := 193) (tgt := 194) hc8 dX6_sayBody_1 (by decide) (by decide) (by decide) ?_
    refine G_aload_n dX6_sayBody_194 rfl ?_
    refine G_iconst (v := 4) dX6_sayBody_195 (by decide) ?_
    refine G_iconst (v := 3) dX6_sayBody_196 (by decide) ?_
    refine G_iload_n dX6_sayBody_197 rfl ?_
    refine G_iload_n dX6_sayBody_198 rfl ?_
    obtain ⟨q8, hq8, h⟩ := bnd h
    refine G_callVv (T := TX6) (N := 5) (f := 6) (i := 0) (hr2 hq8) ok_X6_sayAbove ml_X6_52 (by omega) rfl (by decide) (by decide) (by decide) rfl rfl (Nat.le_of_ble_eq_true rfl) dX6_sayBody_199 ?_
    refine G_aload_n dX6_sayBody_202 rfl ?_
    refine G_aload_n dX6_sayBody_203 rfl ?_
    refine fg_X6_24 (v := (q8.2 6 0 2)) rfl rfl (by decide) dX6_sayBody_204 ?_
    refine G_iconst (v := 0) dX6_sayBody_207 (by decide) ?_
    refine G_iconst (v := 2) dX6_sayBody_208 (by decide) ?_
    refine G_iload_n dX6_sayBody_209 rfl ?_
    obtain ⟨q9, hq9, h⟩ := bnd h
    refine G_callVv (T := TX6) (N := 5) (f := 6) (i := 0) (hr0 hq9) ok_X6_say ml_X6_32 (by omega) rfl (by decide) (by decide) (by decide) rfl rfl (Nat.le_of_ble_eq_true rfl) dX6_sayBody_210 ?_
    refine G_isub dX6_sayBody_213 ?_
    obtain rfl := Option.some.inj h
    exact G_ret dX6_sayBody_214 trivial rfl rfl
  replace h := (if_neg hc8).symm.trans h
  by_cases hc9 : v1 = 60
  · replace h := (if_pos hc9).symm.trans h
    refine G_lookEq (off := 214) (tgt := 215) hc9 dX6_sayBody_1 (by decide) (by decide) (by decide) ?_
    refine G_aload_n dX6_sayBody_215 rfl ?_
    refine G_iconst (v := 5) dX6_sayBody_216 (by decide) ?_
    refine G_iconst (v := 1) dX6_sayBody_217 (by decide) ?_
    refine G_iload_n dX6_sayBody_218 rfl ?_
    refine G_iconst (v := 1) dX6_sayBody_219 (by decide) ?_
    refine G_iadd dX6_sayBody_220 ?_
    refine G_iload_n dX6_sayBody_221 rfl ?_
    obtain ⟨q10, hq10, h⟩ := bnd h
    refine G_callVv (T := TX6) (N := 5) (f := 6) (i := 0) (hr2 hq10) ok_X6_sayAbove ml_X6_52 (by omega) rfl (by decide) (by decide) (by decide) rfl rfl (Nat.le_of_ble_eq_true rfl) dX6_sayBody_222 ?_
    obtain rfl := Option.some.inj h
    exact G_ret dX6_sayBody_225 trivial rfl rfl
  replace h := (if_neg hc9).symm.trans h
  by_cases hc10 : v1 = 70
  · replace h := (if_pos hc10).symm.trans h
    refine G_lookEq (off := 225) (tgt := 226) hc10 dX6_sayBody_1 (by decide) (by decide) (by decide) ?_
    refine G_aload_n dX6_sayBody_226 rfl ?_
    refine G_bipush (v := 6) dX6_sayBody_227 (by decide) ?_
    refine G_iconst (v := 2) dX6_sayBody_229 (by decide) ?_
    refine G_iload_n dX6_sayBody_230 rfl ?_
    refine G_iload_n dX6_sayBody_231 rfl ?_
    obtain ⟨q11, hq11, h⟩ := bnd h
    refine G_callVv (T := TX6) (N := 5) (f := 6) (i := 0) (hr2 hq11) ok_X6_sayAbove ml_X6_52 (by omega) rfl (by decide) (by decide) (by decide) rfl rfl (Nat.le_of_ble_eq_true rfl) dX6_sayBody_232 ?_
    refine G_aload_n dX6_sayBody_235 rfl ?_
    refine fg_X6_25 (v := (q11.2 6 0 3)) rfl rfl (by decide) dX6_sayBody_236 ?_
    refine G_ixor dX6_sayBody_239 ?_
    obtain rfl := Option.some.inj h
    exact G_ret dX6_sayBody_240 trivial rfl rfl
  replace h := (if_neg hc10).symm.trans h
  by_cases hc11 : v1 = 71
  · replace h := (if_pos hc11).symm.trans h
    refine G_lookEq (off := 240) (tgt := 241) hc11 dX6_sayBody_1 (by decide) (by decide) (by decide) ?_
    refine G_aload_n dX6_sayBody_241 rfl ?_
    refine G_aload_n dX6_sayBody_242 rfl ?_
    refine fg_X6_24 (v := (M 6 0 2)) rfl rfl (by decide) dX6_sayBody_243 ?_
    refine G_iconst (v := 1) dX6_sayBody_246 (by decide) ?_
    refine G_iload_n dX6_sayBody_247 rfl ?_
    refine G_iload_n dX6_sayBody_248 rfl ?_
    obtain ⟨q12, hq12, h⟩ := bnd h
    refine G_callVv (T := TX6) (N := 5) (f := 6) (i := 0) (hr0 hq12) ok_X6_say ml_X6_32 (by omega) rfl (by decide) (by decide) (by decide) rfl rfl (Nat.le_of_ble_eq_true rfl) dX6_sayBody_249 ?_
    refine G_aload_n dX6_sayBody_252 rfl ?_
    refine G_bipush (v := 6) dX6_sayBody_253 (by decide) ?_
    refine G_iconst (v := 3) dX6_sayBody_255 (by decide) ?_
    refine G_iload_n dX6_sayBody_256 rfl ?_
    refine G_iload_n dX6_sayBody_257 rfl ?_
    obtain ⟨q13, hq13, h⟩ := bnd h
    refine G_callVv (T := TX6) (N := 5) (f := 6) (i := 0) (hr2 hq13) ok_X6_sayAbove ml_X6_52 (by omega) rfl (by decide) (by decide) (by decide) rfl rfl (Nat.le_of_ble_eq_true rfl) dX6_sayBody_258 ?_
    refine G_isub dX6_sayBody_261 ?_
    obtain rfl := Option.some.inj h
    exact G_ret dX6_sayBody_262 trivial rfl rfl
  replace h := (if_neg hc11).symm.trans h
  have nhc1 := ne_lit (n := 10) (by decide) hc1
  have nhc2 := ne_lit (n := 11) (by decide) hc2
  have nhc3 := ne_lit (n := 12) (by decide) hc3
  have nhc4 := ne_lit (n := 13) (by decide) hc4
  have nhc5 := ne_lit (n := 20) (by decide) hc5
  have nhc6 := ne_lit (n := 30) (by decide) hc6
  have nhc7 := ne_lit (n := 40) (by decide) hc7
  have nhc8 := ne_lit (n := 50) (by decide) hc8
  have nhc9 := ne_lit (n := 60) (by decide) hc9
  have nhc10 := ne_lit (n := 70) (by decide) hc10
  have nhc11 := ne_lit (n := 71) (by decide) hc11
  refine G_lookup (off := 262) (tgt := 263) dX6_sayBody_1 (by decide) (by generalize (v1 : Int32).toInt = zz at nhc1 nhc2 nhc3 nhc4 nhc5 nhc6 nhc7 nhc8 nhc9 nhc10 nhc11 ⊢; simp [Op.lookupswitch.offset, Ne.symm nhc1, Ne.symm nhc2, Ne.symm nhc3, Ne.symm nhc4, Ne.symm nhc5, Ne.symm nhc6, Ne.symm nhc7, Ne.symm nhc8, Ne.symm nhc9, Ne.symm nhc10, Ne.symm nhc11]; done) (by decide) ?_
  refine G_iconst (v := 0) dX6_sayBody_263 (by decide) ?_
  obtain rfl := Option.some.inj h
  exact G_ret dX6_sayBody_264 trivial rfl rfl

def X6_sayAbove (rc : Nat → Int32 → Int32 → Int32 → Int32 → Mem → Option (Int32 × Mem)) (v1 : Int32) (v2 : Int32) (v3 : Int32) (v4 : Int32) (M : Mem) : Option (Int32 × Mem) := ((rc 0 (X7_kindAbove v1) v2 v3 v4 M).bind fun q1 => (some (q1.1, q1.2)))
set_option maxRecDepth 100000 in
set_option maxHeartbeats 4000000 in
theorem X6_sayAbove_ok (rc : Nat → Int32 → Int32 → Int32 → Int32 → Mem → Option (Int32 × Mem))  {d : Nat} (hd0 : 1 ≤ d) (hr0 : ∀ {a0 a1 a2 a3 : Int32} {M N : Mem} {res : Int32 × Mem}, rc 0 a0 a1 a2 a3 M = some res → Spec mt_X6_say d [.inr (.inr (6, 0)), .inl a0, .inl a1, .inl a2, .inl a3] (M, N) (some (.inl res.1)) (res.2, N)) (hr1 : ∀ {a0 a1 a2 a3 : Int32} {M N : Mem} {res : Int32 × Mem}, rc 1 a0 a1 a2 a3 M = some res → Spec mt_X6_sayBody d [.inr (.inr (6, 0)), .inl a0, .inl a1, .inl a2] (M, N) (some (.inl res.1)) (res.2, N)) (hr2 : ∀ {a0 a1 a2 a3 : Int32} {M N : Mem} {res : Int32 × Mem}, rc 2 a0 a1 a2 a3 M = some res → Spec mt_X6_sayAbove d [.inr (.inr (6, 0)), .inl a0, .inl a1, .inl a2, .inl a3] (M, N) (some (.inl res.1)) (res.2, N)) {v1 : Int32} {v2 : Int32} {v3 : Int32} {v4 : Int32} {M N : Mem} {res : Int32 × Mem} (h : X6_sayAbove rc v1 v2 v3 v4 M = some res) : Spec mt_X6_sayAbove (d + 1) [.inr (.inr (6, 0)), .inl v1, .inl v2, .inl v3, .inl v4] (M, N) (some (.inl res.1)) (res.2, N) := by
  unfold X6_sayAbove at h
  refine Spec_of_G (by decide) rfl (Nat.le_of_ble_eq_true rfl) ?_
  refine G_sub [(0, .inr (.inr (6, 0))), (1, .inl v1), (2, .inl v2), (3, .inl v3), (4, .inl v4)] [0, 1, 2, 3, 4] rfl ?_
  refine G_aload_n dX6_sayAbove_0 rfl ?_
  refine G_iload_n dX6_sayAbove_1 rfl ?_
  refine G_callSNv  (X7_kindAbove_ok rfl) ok_X7_kindAbove (by first | exact List.mem_cons_self | exact List.mem_cons_of_mem _ List.mem_cons_self) (by omega) rfl rfl (Nat.le_of_ble_eq_true rfl) dX6_sayAbove_2 ?_
  refine G_iload_n dX6_sayAbove_5 rfl ?_
  refine G_iload_n dX6_sayAbove_6 rfl ?_
  refine G_iload dX6_sayAbove_7 rfl ?_
  obtain ⟨q1, hq1, h⟩ := bnd h
  refine G_callVv (T := TX6) (N := 5) (f := 6) (i := 0) (hr0 hq1) ok_X6_say ml_X6_32 (by omega) rfl (by decide) (by decide) (by decide) rfl rfl (Nat.le_of_ble_eq_true rfl) dX6_sayAbove_9 ?_
  obtain rfl := Option.some.inj h
  exact G_ret dX6_sayAbove_12 trivial rfl rfl

def X6_rec_say : Nat → Nat → Int32 → Int32 → Int32 → Int32 → Mem → Option (Int32 × Mem)
  | 0, _, _, _, _, _, _ => none
  | fu + 1, tg, a0, a1, a2, a3, M => (if tg = 0 then X6_say (X6_rec_say fu) a0 a1 a2 a3 M else (if tg = 1 then X6_sayBody (X6_rec_say fu) a0 a1 a2 M else (if tg = 2 then X6_sayAbove (X6_rec_say fu) a0 a1 a2 a3 M else none)))
theorem X6_rec_say_ok : ∀ (fu : Nat), (∀ {a0 a1 a2 a3 : Int32} {M N : Mem} {res : Int32 × Mem}, X6_rec_say fu 0 a0 a1 a2 a3 M = some res → Spec mt_X6_say (fu + 1) [.inr (.inr (6, 0)), .inl a0, .inl a1, .inl a2, .inl a3] (M, N) (some (.inl res.1)) (res.2, N)) ∧ (∀ {a0 a1 a2 a3 : Int32} {M N : Mem} {res : Int32 × Mem}, X6_rec_say fu 1 a0 a1 a2 a3 M = some res → Spec mt_X6_sayBody (fu + 1) [.inr (.inr (6, 0)), .inl a0, .inl a1, .inl a2] (M, N) (some (.inl res.1)) (res.2, N)) ∧ (∀ {a0 a1 a2 a3 : Int32} {M N : Mem} {res : Int32 × Mem}, X6_rec_say fu 2 a0 a1 a2 a3 M = some res → Spec mt_X6_sayAbove (fu + 1) [.inr (.inr (6, 0)), .inl a0, .inl a1, .inl a2, .inl a3] (M, N) (some (.inl res.1)) (res.2, N)) := by
  intro fu
  induction fu with
  | zero => exact ⟨fun h => (by cases h), fun h => (by cases h), fun h => (by cases h)⟩
  | succ fu ih =>
    obtain ⟨h0, h1, h2⟩ := ih
    refine ⟨?_, ?_, ?_⟩
    · intro a0 a1 a2 a3 M N res h
      have e := X6_say_ok (X6_rec_say fu) (d := fu + 1) (by omega) h0 h1 h2 (M := M) (N := N) (res := res) h
      rw [show fu + 1 + 1 = fu + 1 + 1 from by omega]
      exact e
    · intro a0 a1 a2 a3 M N res h
      have e := X6_sayBody_ok (X6_rec_say fu) (d := fu + 1) (by omega) h0 h1 h2 (M := M) (N := N) (res := res) h
      rw [show fu + 1 + 1 = fu + 1 + 1 from by omega]
      exact e
    · intro a0 a1 a2 a3 M N res h
      have e := X6_sayAbove_ok (X6_rec_say fu) (d := fu + 1) (by omega) h0 h1 h2 (M := M) (N := N) (res := res) h
      rw [show fu + 1 + 1 = fu + 1 + 1 from by omega]
      exact e
def X6_sayC (a0 : Int32) (a1 : Int32) (a2 : Int32) (a3 : Int32) (M : Mem) : Option (Int32 × Mem) := X6_rec_say 100 0 a0 a1 a2 a3  M
theorem X6_sayC_ok {a0 : Int32} {a1 : Int32} {a2 : Int32} {a3 : Int32} {M N : Mem} {res : Int32 × Mem} (h : X6_sayC a0 a1 a2 a3 M = some res) : Spec mt_X6_say 101 [.inr (.inr (6, 0)), .inl a0, .inl a1, .inl a2, .inl a3] (M, N) (some (.inl res.1)) (res.2, N) := (X6_rec_say_ok 100).1 h
def X6_sayBodyC (a0 : Int32) (a1 : Int32) (a2 : Int32) (M : Mem) : Option (Int32 × Mem) := X6_rec_say 100 1 a0 a1 a2 0 M
theorem X6_sayBodyC_ok {a0 : Int32} {a1 : Int32} {a2 : Int32} {M N : Mem} {res : Int32 × Mem} (h : X6_sayBodyC a0 a1 a2 M = some res) : Spec mt_X6_sayBody 101 [.inr (.inr (6, 0)), .inl a0, .inl a1, .inl a2] (M, N) (some (.inl res.1)) (res.2, N) := (X6_rec_say_ok 100).2.1 h
def X6_sayAboveC (a0 : Int32) (a1 : Int32) (a2 : Int32) (a3 : Int32) (M : Mem) : Option (Int32 × Mem) := X6_rec_say 100 2 a0 a1 a2 a3  M
theorem X6_sayAboveC_ok {a0 : Int32} {a1 : Int32} {a2 : Int32} {a3 : Int32} {M N : Mem} {res : Int32 × Mem} (h : X6_sayAboveC a0 a1 a2 a3 M = some res) : Spec mt_X6_sayAbove 101 [.inr (.inr (6, 0)), .inl a0, .inl a1, .inl a2, .inl a3] (M, N) (some (.inl res.1)) (res.2, N) := (X6_rec_say_ok 100).2.2 h

theorem dX6_speak_0 : decode cX6_speak 0 = .ok (.aload_n 0, 1) := by decide +kernel
theorem dX6_speak_1 : decode cX6_speak 1 = .ok (.iconst 0, 1) := by decide +kernel
theorem dX6_speak_2 : decode cX6_speak 2 = .ok (.putfield 15, 3) := by decide +kernel
theorem dX6_speak_5 : decode cX6_speak 5 = .ok (.aload_n 0, 1) := by decide +kernel
theorem dX6_speak_6 : decode cX6_speak 6 = .ok (.aload_n 1, 1) := by decide +kernel
theorem dX6_speak_7 : decode cX6_speak 7 = .ok (.getfield 19, 3) := by decide +kernel
theorem dX6_speak_10 : decode cX6_speak 10 = .ok (.putfield 24, 3) := by decide +kernel
theorem dX6_speak_13 : decode cX6_speak 13 = .ok (.aload_n 0, 1) := by decide +kernel
theorem dX6_speak_14 : decode cX6_speak 14 = .ok (.iload_n 2, 1) := by decide +kernel
theorem dX6_speak_15 : decode cX6_speak 15 = .ok (.putfield 25, 3) := by decide +kernel
theorem dX6_speak_18 : decode cX6_speak 18 = .ok (.aload_n 0, 1) := by decide +kernel
theorem dX6_speak_19 : decode cX6_speak 19 = .ok (.aload_n 1, 1) := by decide +kernel
theorem dX6_speak_20 : decode cX6_speak 20 = .ok (.getfield 28, 3) := by decide +kernel
theorem dX6_speak_23 : decode cX6_speak 23 = .ok (.putfield 31, 3) := by decide +kernel
theorem dX6_speak_26 : decode cX6_speak 26 = .ok (.aload_n 0, 1) := by decide +kernel
theorem dX6_speak_27 : decode cX6_speak 27 = .ok (.aload_n 0, 1) := by decide +kernel
theorem dX6_speak_28 : decode cX6_speak 28 = .ok (.getfield 24, 3) := by decide +kernel
theorem dX6_speak_31 : decode cX6_speak 31 = .ok (.iload_n 3, 1) := by decide +kernel
theorem dX6_speak_32 : decode cX6_speak 32 = .ok (.iload 4, 2) := by decide +kernel
theorem dX6_speak_34 : decode cX6_speak 34 = .ok (.iconst 0, 1) := by decide +kernel
theorem dX6_speak_35 : decode cX6_speak 35 = .ok (.invokevirtual 32, 3) := by decide +kernel
theorem dX6_speak_38 : decode cX6_speak 38 = .ok (.ireturn, 1) := by decide +kernel
def X6_speak (i1 : Nat) (v2 : Int32) (v3 : Int32) (v4 : Int32) (M : Mem) : Option (Int32 × Mem) := ((X6_sayC (M 3 i1 0) v3 v4 0 (up3 (up3 (up3 (up3 M 6 0 1 0) 6 0 2 (M 3 i1 0)) 6 0 3 v2) 6 0 4 (M 3 i1 1))).bind fun q1 => (some (q1.1, q1.2)))
set_option maxRecDepth 100000 in
set_option maxHeartbeats 4000000 in
theorem X6_speak_ok  {i1 : Nat} {v2 : Int32} {v3 : Int32} {v4 : Int32} {M N : Mem} {res : Int32 × Mem} (hi1 : i1 < 30) (h : X6_speak i1 v2 v3 v4 M = some res) : Spec mt_X6_speak 102 [.inr (.inr (6, 0)), .inr (.inr (3, i1)), .inl v2, .inl v3, .inl v4] (M, N) (some (.inl res.1)) (res.2, N) := by
  unfold X6_speak at h
  refine Spec_of_G (by decide) rfl (Nat.le_of_ble_eq_true rfl) ?_
  refine G_sub [(0, .inr (.inr (6, 0))), (1, .inr (.inr (3, i1))), (2, .inl v2), (3, .inl v3), (4, .inl v4)] [0, 1, 2, 3, 4] rfl ?_
  refine G_aload_n dX6_speak_0 rfl ?_
  refine G_iconst (v := 0) dX6_speak_1 (by decide) ?_
  refine fp_X6_15 rfl (by decide) dX6_speak_2 ?_
  refine G_aload_n dX6_speak_5 rfl ?_
  refine G_aload_n dX6_speak_6 rfl ?_
  refine fg_X6_19 (v := (M 3 i1 0)) (up3_f (by decide)) rfl hi1 dX6_speak_7 ?_
  refine fp_X6_24 rfl (by decide) dX6_speak_10 ?_
  refine G_aload_n dX6_speak_13 rfl ?_
  refine G_iload_n dX6_speak_14 rfl ?_
  refine fp_X6_25 rfl (by decide) dX6_speak_15 ?_
  refine G_aload_n dX6_speak_18 rfl ?_
  refine G_aload_n dX6_speak_19 rfl ?_
  refine fg_X6_28 (v := (M 3 i1 1)) ((up3_f (by decide)).trans ((up3_f (by decide)).trans (up3_f (by decide)))) rfl hi1 dX6_speak_20 ?_
  refine fp_X6_31 rfl (by decide) dX6_speak_23 ?_
  refine G_aload_n dX6_speak_26 rfl ?_
  refine G_aload_n dX6_speak_27 rfl ?_
  refine fg_X6_24 (v := (M 3 i1 0)) ((up3_k (by decide)).trans ((up3_k (by decide)).trans up3_eq)) rfl (by decide) dX6_speak_28 ?_
  refine G_iload_n dX6_speak_31 rfl ?_
  refine G_iload dX6_speak_32 rfl ?_
  refine G_iconst (v := 0) dX6_speak_34 (by decide) ?_
  obtain ⟨q1, hq1, h⟩ := bnd h
  refine G_callVv (T := TX6) (N := 5) (f := 6) (i := 0) (X6_sayC_ok hq1) ok_X6_say ml_X6_32 (by decide) rfl (by decide) (by decide) (by decide) rfl rfl (Nat.le_of_ble_eq_true rfl) dX6_speak_35 ?_
  obtain rfl := Option.some.inj h
  exact G_ret dX6_speak_38 trivial rfl rfl

theorem dX1_falsePots_0 : decode cX1_falsePots 0 = .ok (.iconst 0, 1) := by decide +kernel
theorem dX1_falsePots_1 : decode cX1_falsePots 1 = .ok (.istore_n 1, 1) := by decide +kernel
theorem dX1_falsePots_2 : decode cX1_falsePots 2 = .ok (.iconst 0, 1) := by decide +kernel
theorem dX1_falsePots_3 : decode cX1_falsePots 3 = .ok (.istore_n 2, 1) := by decide +kernel
theorem dX1_falsePots_4 : decode cX1_falsePots 4 = .ok (.iload_n 2, 1) := by decide +kernel
theorem dX1_falsePots_5 : decode cX1_falsePots 5 = .ok (.aload_n 0, 1) := by decide +kernel
theorem dX1_falsePots_6 : decode cX1_falsePots 6 = .ok (.getfield 47, 3) := by decide +kernel
theorem dX1_falsePots_9 : decode cX1_falsePots 9 = .ok (.if_icmp .ge 27, 3) := by decide +kernel
theorem dX1_falsePots_12 : decode cX1_falsePots 12 = .ok (.aload_n 0, 1) := by decide +kernel
theorem dX1_falsePots_13 : decode cX1_falsePots 13 = .ok (.getfield 20, 3) := by decide +kernel
theorem dX1_falsePots_16 : decode cX1_falsePots 16 = .ok (.iload_n 2, 1) := by decide +kernel
theorem dX1_falsePots_17 : decode cX1_falsePots 17 = .ok (.aaload, 1) := by decide +kernel
theorem dX1_falsePots_18 : decode cX1_falsePots 18 = .ok (.getfield 119, 3) := by decide +kernel
theorem dX1_falsePots_21 : decode cX1_falsePots 21 = .ok (.ifCond .eq 9, 3) := by decide +kernel
theorem dX1_falsePots_24 : decode cX1_falsePots 24 = .ok (.iload_n 1, 1) := by decide +kernel
theorem dX1_falsePots_25 : decode cX1_falsePots 25 = .ok (.iconst 1, 1) := by decide +kernel
theorem dX1_falsePots_26 : decode cX1_falsePots 26 = .ok (.iload_n 2, 1) := by decide +kernel
theorem dX1_falsePots_27 : decode cX1_falsePots 27 = .ok (.ishl, 1) := by decide +kernel
theorem dX1_falsePots_28 : decode cX1_falsePots 28 = .ok (.ior, 1) := by decide +kernel
theorem dX1_falsePots_29 : decode cX1_falsePots 29 = .ok (.istore_n 1, 1) := by decide +kernel
theorem dX1_falsePots_30 : decode cX1_falsePots 30 = .ok (.iinc 2 1, 3) := by decide +kernel
theorem dX1_falsePots_33 : decode cX1_falsePots 33 = .ok (.goto (-29), 3) := by decide +kernel
theorem dX1_falsePots_36 : decode cX1_falsePots 36 = .ok (.iload_n 1, 1) := by decide +kernel
theorem dX1_falsePots_37 : decode cX1_falsePots 37 = .ok (.ireturn, 1) := by decide +kernel
def X1_falsePots_L4 : Nat → Nat → Int32 → Int32 → Mem → Option (Int32)
  | 0, _, _, _, _ => none
  | fu + 1, i0, v1, v2, M => (if v2 < (M 1 i0 5) then (if ib v2 10 = true then (if (nbZ (M 3 (10 * i0 + v2.toNatClampNeg) 7)) = 0 then (X1_falsePots_L4 fu i0 v1 (v2 + 1) M) else (X1_falsePots_L4 fu i0 (v1 ||| (1 <<< (v2 &&& 31))) (v2 + 1) M)) else none) else (some v1))
set_option maxRecDepth 100000 in
set_option maxHeartbeats 4000000 in
theorem X1_falsePots_L4_ok  {r : Option AV} {M' : MM} : ∀ (fu : Nat) (i0 : Nat) (v1 : Int32) (v2 : Int32) (M N : Mem) {res : Int32} (hi0 : i0 < 3) (h : X1_falsePots_L4 fu i0 v1 v2 M = some res) (K : G mt_X1_falsePots 0 r M' 36 [(1, .inl res)] [] (M, N)), G mt_X1_falsePots 0 r M' 4 [(0, .inr (.inr (1, i0))), (1, .inl v1), (2, .inl v2)] [] (M, N) := by
  intro fu
  induction fu with
  | zero =>
    intro i0 v1 v2 M N res hi0 h
    cases h
  | succ fu ih =>
    intro i0 v1 v2 M N res hi0 h K
    replace h : (if v2 < (M 1 i0 5) then (if ib v2 10 = true then (if (nbZ (M 3 (10 * i0 + v2.toNatClampNeg) 7)) = 0 then (X1_falsePots_L4 fu i0 v1 (v2 + 1) M) else (X1_falsePots_L4 fu i0 (v1 ||| (1 <<< (v2 &&& 31))) (v2 + 1) M)) else none) else (some v1)) = some res := h
    refine G_iload_n dX1_falsePots_4 rfl ?_
    refine G_aload_n dX1_falsePots_5 rfl ?_
    refine fg_X1_47 (v := (M 1 i0 5)) rfl rfl hi0 dX1_falsePots_6 ?_
    refine G_icmp_ge (tgt := 36) dX1_falsePots_9 (by decide) (fun hc1 => ?_) (fun hc1 => ?_)
    · replace h := (if_neg hc1).symm.trans h
      refine G_sub [(1, .inl v1)] [1] rfl ?_
      obtain rfl := Option.some.inj h
      exact K
    · replace h := (if_pos hc1).symm.trans h
      refine G_aload_n dX1_falsePots_12 rfl ?_
      refine fg_X1_20 rfl hi0 dX1_falsePots_13 ?_
      refine G_iload_n dX1_falsePots_16 rfl ?_
      obtain ⟨hb1, h⟩ := chk h
      have lhb1 := ib_lt hb1
      refine G_aald3 (by decide) (show i0 < 3 from hi0) (by decide) rfl hb1 dX1_falsePots_17 ?_
      refine fg_X1_119 (v := (nbZ (M 3 (10 * i0 + v2.toNatClampNeg) 7))) rfl rfl (by omega) dX1_falsePots_18 ?_
      refine G_if_eq (tgt := 30) dX1_falsePots_21 (by decide) (fun hc2 => ?_) (fun hc2 => ?_)
      · replace h := (if_pos hc2).symm.trans h
        refine G_iinc (v := (v2 + 1)) (L2 := [(2, .inl (v2 + 1)), (0, .inr (.inr (1, i0))), (1, .inl v1)]) dX1_falsePots_30 rfl (by first | rfl | (show _ + Int32.ofInt _ = _; rfl)) (by decide) rfl ?_
        refine G_goto (tgt := 4) dX1_falsePots_33 (by decide) ?_
        refine G_sub [(0, .inr (.inr (1, i0))), (1, .inl v1), (2, .inl (v2 + 1))] [1, 2, 0] rfl ?_
        exact ih i0 v1 (v2 + 1) M _ hi0 h K
      · replace h := (if_neg hc2).symm.trans h
        refine G_iload_n dX1_falsePots_24 rfl ?_
        refine G_iconst (v := 1) dX1_falsePots_25 (by decide) ?_
        refine G_iload_n dX1_falsePots_26 rfl ?_
        refine G_ishl dX1_falsePots_27 ?_
        refine G_ior dX1_falsePots_28 ?_
        refine G_istore_n (L2 := [(1, .inl (v1 ||| (1 <<< (v2 &&& 31)))), (0, .inr (.inr (1, i0))), (2, .inl v2)]) dX1_falsePots_29 (by decide) rfl ?_
        refine G_iinc (v := (v2 + 1)) (L2 := [(2, .inl (v2 + 1)), (1, .inl (v1 ||| (1 <<< (v2 &&& 31)))), (0, .inr (.inr (1, i0)))]) dX1_falsePots_30 rfl (by first | rfl | (show _ + Int32.ofInt _ = _; rfl)) (by decide) rfl ?_
        refine G_goto (tgt := 4) dX1_falsePots_33 (by decide) ?_
        refine G_sub [(0, .inr (.inr (1, i0))), (1, .inl (v1 ||| (1 <<< (v2 &&& 31)))), (2, .inl (v2 + 1))] [2, 1, 0] rfl ?_
        exact ih i0 (v1 ||| (1 <<< (v2 &&& 31))) (v2 + 1) M _ hi0 h K

def X1_falsePots (i0 : Nat) (M : Mem) : Option (Int32) := ((X1_falsePots_L4 400 i0 0 0 M).bind fun q2 => (some q2))
set_option maxRecDepth 100000 in
set_option maxHeartbeats 4000000 in
theorem X1_falsePots_ok  {i0 : Nat} {M N : Mem} {res : Int32} (hi0 : i0 < 3) (h : X1_falsePots i0 M = some res) : Spec mt_X1_falsePots 0 [.inr (.inr (1, i0))] (M, N) (some (.inl res)) (M, N) := by
  unfold X1_falsePots at h
  refine Spec_of_G (by decide) rfl (Nat.le_of_ble_eq_true rfl) ?_
  refine G_sub [(0, .inr (.inr (1, i0)))] [0] rfl ?_
  refine G_iconst (v := 0) dX1_falsePots_0 (by decide) ?_
  refine G_istore_n (L2 := [(1, .inl 0), (0, .inr (.inr (1, i0)))]) dX1_falsePots_1 (by decide) rfl ?_
  refine G_iconst (v := 0) dX1_falsePots_2 (by decide) ?_
  refine G_istore_n (L2 := [(2, .inl 0), (1, .inl 0), (0, .inr (.inr (1, i0)))]) dX1_falsePots_3 (by decide) rfl ?_
  refine G_sub [(0, .inr (.inr (1, i0))), (1, .inl 0), (2, .inl 0)] [2, 1, 0] rfl ?_
  obtain ⟨q2, hq2, h⟩ := bnd h
  refine X1_falsePots_L4_ok  400 i0 0 0 M _ hi0 hq2 ?_
  refine G_iload_n dX1_falsePots_36 rfl ?_
  obtain rfl := Option.some.inj h
  exact G_ret dX1_falsePots_37 trivial rfl rfl
end
