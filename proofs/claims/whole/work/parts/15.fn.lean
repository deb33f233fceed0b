theorem dX8_sets_0 : decode cX8_sets 0 = .ok (.aload_n 0, 1) := by decide +kernel
theorem dX8_sets_1 : decode cX8_sets 1 = .ok (.getfield 7, 3) := by decide +kernel
theorem dX8_sets_4 : decode cX8_sets 4 = .ok (.bipush 16, 2) := by decide +kernel
theorem dX8_sets_6 : decode cX8_sets 6 = .ok (.bipush 8, 2) := by decide +kernel
theorem dX8_sets_8 : decode cX8_sets 8 = .ok (.iload_n 1, 1) := by decide +kernel
theorem dX8_sets_9 : decode cX8_sets 9 = .ok (.imul, 1) := by decide +kernel
theorem dX8_sets_10 : decode cX8_sets 10 = .ok (.iadd, 1) := by decide +kernel
theorem dX8_sets_11 : decode cX8_sets 11 = .ok (.iload_n 2, 1) := by decide +kernel
theorem dX8_sets_12 : decode cX8_sets 12 = .ok (.iadd, 1) := by decide +kernel
theorem dX8_sets_13 : decode cX8_sets 13 = .ok (.iload_n 3, 1) := by decide +kernel
theorem dX8_sets_14 : decode cX8_sets 14 = .ok (.iastore, 1) := by decide +kernel
theorem dX8_sets_15 : decode cX8_sets 15 = .ok (.return_, 1) := by decide +kernel
def X8_sets (v1 : Int32) (v2 : Int32) (v3 : Int32) (M : Mem) : Option (Mem) := (if ib ((16 + (8 * v1)) + v2) 268 = true then (some (up3 M 20 0 (((16 + (8 * v1)) + v2).toNatClampNeg) v3)) else none)
set_option maxRecDepth 100000 in
set_option maxHeartbeats 4000000 in
theorem X8_sets_ok  {v1 : Int32} {v2 : Int32} {v3 : Int32} {M N : Mem} {res : Mem} (h : X8_sets v1 v2 v3 M = some res) : Spec mt_X8_sets 0 [.inr (.inr (19, 0)), .inl v1, .inl v2, .inl v3] (N, M) none (N, res) := by
  unfold X8_sets at h
  refine Spec_of_G (by decide) rfl (Nat.le_of_ble_eq_true rfl) ?_
  refine G_sub [(0, .inr (.inr (19, 0))), (1, .inl v1), (2, .inl v2), (3, .inl v3)] [0, 1, 2, 3] rfl ?_
  refine G_aload_n dX8_sets_0 rfl ?_
  refine fg_X8_7 rfl (by decide) dX8_sets_1 ?_
  refine G_bipush (v := 16) dX8_sets_4 (by decide) ?_
  refine G_bipush (v := 8) dX8_sets_6 (by decide) ?_
  refine G_iload_n dX8_sets_8 rfl ?_
  refine G_imul dX8_sets_9 ?_
  refine G_iadd dX8_sets_10 ?_
  refine G_iload_n dX8_sets_11 rfl ?_
  refine G_iadd dX8_sets_12 ?_
  refine G_iload_n dX8_sets_13 rfl ?_
  obtain ⟨hb1, h⟩ := chk h
  have lhb1 := ib_lt hb1
  refine as_20 (kk := ((16 + (8 * v1)) + v2).toNatClampNeg) (by decide) hb1 rfl dX8_sets_14 ?_
  obtain rfl := Option.some.inj h
  exact G_ret dX8_sets_15 trivial rfl rfl

theorem dX8_pot_0 : decode cX8_pot 0 = .ok (.iload_n 1, 1) := by decide +kernel
theorem dX8_pot_1 : decode cX8_pot 1 = .ok (.i2l, 1) := by decide +kernel
theorem dX8_pot_2 : decode cX8_pot 2 = .ok (.lconst 0, 1) := by decide +kernel
theorem dX8_pot_3 : decode cX8_pot 3 = .ok (.ldc2_w 180, 3) := by decide +kernel
theorem dX8_pot_6 : decode cX8_pot 6 = .ok (.invokestatic 47, 3) := by decide +kernel
theorem dX8_pot_9 : decode cX8_pot 9 = .ok (.ifCond .eq 22, 3) := by decide +kernel
theorem dX8_pot_12 : decode cX8_pot 12 = .ok (.iload_n 2, 1) := by decide +kernel
theorem dX8_pot_13 : decode cX8_pot 13 = .ok (.invokestatic 170, 3) := by decide +kernel
theorem dX8_pot_16 : decode cX8_pot 16 = .ok (.ifCond .eq 15, 3) := by decide +kernel
theorem dX8_pot_19 : decode cX8_pot 19 = .ok (.iload_n 3, 1) := by decide +kernel
theorem dX8_pot_20 : decode cX8_pot 20 = .ok (.i2l, 1) := by decide +kernel
theorem dX8_pot_21 : decode cX8_pot 21 = .ok (.lconst 0, 1) := by decide +kernel
theorem dX8_pot_22 : decode cX8_pot 22 = .ok (.ldc2_w 173, 3) := by decide +kernel
theorem dX8_pot_25 : decode cX8_pot 25 = .ok (.invokestatic 47, 3) := by decide +kernel
theorem dX8_pot_28 : decode cX8_pot 28 = .ok (.ifCond .ne 9, 3) := by decide +kernel
theorem dX8_pot_31 : decode cX8_pot 31 = .ok (.aload_n 0, 1) := by decide +kernel
theorem dX8_pot_32 : decode cX8_pot 32 = .ok (.iconst 1, 1) := by decide +kernel
theorem dX8_pot_33 : decode cX8_pot 33 = .ok (.invokevirtual 130, 3) := by decide +kernel
theorem dX8_pot_36 : decode cX8_pot 36 = .ok (.ireturn, 1) := by decide +kernel
theorem dX8_pot_37 : decode cX8_pot 37 = .ok (.aload_n 0, 1) := by decide +kernel
theorem dX8_pot_38 : decode cX8_pot 38 = .ok (.getfield 7, 3) := by decide +kernel
theorem dX8_pot_41 : decode cX8_pot 41 = .ok (.iconst 0, 1) := by decide +kernel
theorem dX8_pot_42 : decode cX8_pot 42 = .ok (.iaload, 1) := by decide +kernel
theorem dX8_pot_43 : decode cX8_pot 43 = .ok (.bipush 10, 2) := by decide +kernel
theorem dX8_pot_45 : decode cX8_pot 45 = .ok (.if_icmp .ne 9, 3) := by decide +kernel
theorem dX8_pot_48 : decode cX8_pot 48 = .ok (.aload_n 0, 1) := by decide +kernel
theorem dX8_pot_49 : decode cX8_pot 49 = .ok (.iconst 4, 1) := by decide +kernel
theorem dX8_pot_50 : decode cX8_pot 50 = .ok (.invokevirtual 130, 3) := by decide +kernel
theorem dX8_pot_53 : decode cX8_pot 53 = .ok (.ireturn, 1) := by decide +kernel
theorem dX8_pot_54 : decode cX8_pot 54 = .ok (.aload_n 0, 1) := by decide +kernel
theorem dX8_pot_55 : decode cX8_pot 55 = .ok (.getfield 7, 3) := by decide +kernel
theorem dX8_pot_58 : decode cX8_pot 58 = .ok (.iconst 0, 1) := by decide +kernel
theorem dX8_pot_59 : decode cX8_pot 59 = .ok (.iaload, 1) := by decide +kernel
theorem dX8_pot_60 : decode cX8_pot 60 = .ok (.istore 4, 2) := by decide +kernel
theorem dX8_pot_62 : decode cX8_pot 62 = .ok (.aload_n 0, 1) := by decide +kernel
theorem dX8_pot_63 : decode cX8_pot 63 = .ok (.iload 4, 2) := by decide +kernel
theorem dX8_pot_65 : decode cX8_pot 65 = .ok (.iconst 0, 1) := by decide +kernel
theorem dX8_pot_66 : decode cX8_pot 66 = .ok (.iload_n 1, 1) := by decide +kernel
theorem dX8_pot_67 : decode cX8_pot 67 = .ok (.bipush 10, 2) := by decide +kernel
theorem dX8_pot_69 : decode cX8_pot 69 = .ok (.idiv, 1) := by decide +kernel
theorem dX8_pot_70 : decode cX8_pot 70 = .ok (.invokevirtual 149, 3) := by decide +kernel
theorem dX8_pot_73 : decode cX8_pot 73 = .ok (.aload_n 0, 1) := by decide +kernel
theorem dX8_pot_74 : decode cX8_pot 74 = .ok (.iload 4, 2) := by decide +kernel
theorem dX8_pot_76 : decode cX8_pot 76 = .ok (.iconst 1, 1) := by decide +kernel
theorem dX8_pot_77 : decode cX8_pot 77 = .ok (.iload_n 1, 1) := by decide +kernel
theorem dX8_pot_78 : decode cX8_pot 78 = .ok (.bipush 10, 2) := by decide +kernel
theorem dX8_pot_80 : decode cX8_pot 80 = .ok (.irem, 1) := by decide +kernel
theorem dX8_pot_81 : decode cX8_pot 81 = .ok (.invokevirtual 149, 3) := by decide +kernel
theorem dX8_pot_84 : decode cX8_pot 84 = .ok (.aload_n 0, 1) := by decide +kernel
theorem dX8_pot_85 : decode cX8_pot 85 = .ok (.iload 4, 2) := by decide +kernel
theorem dX8_pot_87 : decode cX8_pot 87 = .ok (.iconst 2, 1) := by decide +kernel
theorem dX8_pot_88 : decode cX8_pot 88 = .ok (.iload_n 2, 1) := by decide +kernel
theorem dX8_pot_89 : decode cX8_pot 89 = .ok (.invokevirtual 149, 3) := by decide +kernel
theorem dX8_pot_92 : decode cX8_pot 92 = .ok (.aload_n 0, 1) := by decide +kernel
theorem dX8_pot_93 : decode cX8_pot 93 = .ok (.iload 4, 2) := by decide +kernel
theorem dX8_pot_95 : decode cX8_pot 95 = .ok (.iconst 3, 1) := by decide +kernel
theorem dX8_pot_96 : decode cX8_pot 96 = .ok (.iload_n 3, 1) := by decide +kernel
theorem dX8_pot_97 : decode cX8_pot 97 = .ok (.invokevirtual 149, 3) := by decide +kernel
theorem dX8_pot_100 : decode cX8_pot 100 = .ok (.iconst 4, 1) := by decide +kernel
theorem dX8_pot_101 : decode cX8_pot 101 = .ok (.istore 5, 2) := by decide +kernel
theorem dX8_pot_103 : decode cX8_pot 103 = .ok (.iload 5, 2) := by decide +kernel
theorem dX8_pot_105 : decode cX8_pot 105 = .ok (.bipush 7, 2) := by decide +kernel
theorem dX8_pot_107 : decode cX8_pot 107 = .ok (.if_icmp .gt 18, 3) := by decide +kernel
theorem dX8_pot_110 : decode cX8_pot 110 = .ok (.aload_n 0, 1) := by decide +kernel
theorem dX8_pot_111 : decode cX8_pot 111 = .ok (.iload 4, 2) := by decide +kernel
theorem dX8_pot_113 : decode cX8_pot 113 = .ok (.iload 5, 2) := by decide +kernel
theorem dX8_pot_115 : decode cX8_pot 115 = .ok (.iconst 0, 1) := by decide +kernel
theorem dX8_pot_116 : decode cX8_pot 116 = .ok (.invokevirtual 149, 3) := by decide +kernel
theorem dX8_pot_119 : decode cX8_pot 119 = .ok (.iinc 5 1, 3) := by decide +kernel
theorem dX8_pot_122 : decode cX8_pot 122 = .ok (.goto (-19), 3) := by decide +kernel
theorem dX8_pot_125 : decode cX8_pot 125 = .ok (.aload_n 0, 1) := by decide +kernel
theorem dX8_pot_126 : decode cX8_pot 126 = .ok (.getfield 7, 3) := by decide +kernel
theorem dX8_pot_129 : decode cX8_pot 129 = .ok (.iconst 0, 1) := by decide +kernel
theorem dX8_pot_130 : decode cX8_pot 130 = .ok (.dup2, 1) := by decide +kernel
theorem dX8_pot_131 : decode cX8_pot 131 = .ok (.iaload, 1) := by decide +kernel
theorem dX8_pot_132 : decode cX8_pot 132 = .ok (.iconst 1, 1) := by decide +kernel
theorem dX8_pot_133 : decode cX8_pot 133 = .ok (.iadd, 1) := by decide +kernel
theorem dX8_pot_134 : decode cX8_pot 134 = .ok (.iastore, 1) := by decide +kernel
theorem dX8_pot_135 : decode cX8_pot 135 = .ok (.iload 4, 2) := by decide +kernel
theorem dX8_pot_137 : decode cX8_pot 137 = .ok (.ireturn, 1) := by decide +kernel
def X8_pot_L103 : Nat → Int32 → Int32 → Mem → Option (Mem)
  | 0, _, _, _ => none
  | fu + 1, v4, v5, M => (if 7 < v5 then (some M) else ((X8_sets v4 v5 0 M).bind fun q7 => (X8_pot_L103 fu v4 (v5 + 1) q7)))
set_option maxRecDepth 100000 in
set_option maxHeartbeats 4000000 in
theorem X8_pot_L103_ok  {r : Option AV} {M' : MM} : ∀ (fu : Nat) (v4 : Int32) (v5 : Int32) (M N : Mem) {res : Mem} (h : X8_pot_L103 fu v4 v5 M = some res) (K : G mt_X8_pot 2 r M' 125 [(0, .inr (.inr (19, 0))), (4, .inl v4)] [] (N, res)), G mt_X8_pot 2 r M' 103 [(0, .inr (.inr (19, 0))), (4, .inl v4), (5, .inl v5)] [] (N, M) := by
  intro fu
  induction fu with
  | zero =>
    intro v4 v5 M N res h
    cases h
  | succ fu ih =>
    intro v4 v5 M N res h K
    replace h : (if 7 < v5 then (some M) else ((X8_sets v4 v5 0 M).bind fun q7 => (X8_pot_L103 fu v4 (v5 + 1) q7))) = some res := h
    refine G_iload dX8_pot_103 rfl ?_
    refine G_bipush (v := 7) dX8_pot_105 (by decide) ?_
    refine G_icmp_gt (tgt := 125) dX8_pot_107 (by decide) (fun hc5 => ?_) (fun hc5 => ?_)
    · replace h := (if_pos hc5).symm.trans h
      refine G_sub [(0, .inr (.inr (19, 0))), (4, .inl v4)] [0, 1] rfl ?_
      obtain rfl := Option.some.inj h
      exact K
    · replace h := (if_neg hc5).symm.trans h
      refine G_aload_n dX8_pot_110 rfl ?_
      refine G_iload dX8_pot_111 rfl ?_
      refine G_iload dX8_pot_113 rfl ?_
      refine G_iconst (v := 0) dX8_pot_115 (by decide) ?_
      obtain ⟨q7, hq7, h⟩ := bnd h
      refine G_callVn (T := TX8) (N := 22) (f := 19) (i := 0) (X8_sets_ok hq7) ok_X8_sets ml_X8_149 (by decide) rfl (by decide) (by decide) (by decide) rfl rfl (Nat.le_of_ble_eq_true rfl) dX8_pot_116 ?_
      refine G_iinc (v := (v5 + 1)) (L2 := [(5, .inl (v5 + 1)), (0, .inr (.inr (19, 0))), (4, .inl v4)]) dX8_pot_119 rfl (by first | rfl | (show _ + Int32.ofInt _ = _; rfl)) (by decide) rfl ?_
      refine G_goto (tgt := 103) dX8_pot_122 (by decide) ?_
      refine G_sub [(0, .inr (.inr (19, 0))), (4, .inl v4), (5, .inl (v5 + 1))] [1, 2, 0] rfl ?_
      exact ih v4 (v5 + 1) q7 _  h K

def X8_pot (v1 : Int32) (v2 : Int32) (v3 : Int32) (M : Mem) : Option (Int32 × Mem) := (if (X8_in (v1.toInt64) (0 : Int64) (69 : Int64)) = 0 then ((X8_finds 1 M).bind fun q1 => (some (q1.1, q1.2))) else (if (X8_isHouse v2) = 0 then ((X8_finds 1 M).bind fun q2 => (some (q2.1, q2.2))) else (if (X8_in (v3.toInt64) (0 : Int64) (9 : Int64)) = 0 then ((X8_finds 1 M).bind fun q10 => (some (q10.1, q10.2))) else (if (M 20 0 0) = 10 then ((X8_finds 4 M).bind fun q9 => (some (q9.1, q9.2))) else ((X8_sets (M 20 0 0) 0 (v1 / 10) M).bind fun q3 => ((X8_sets (M 20 0 0) 1 (jrem v1 10) q3).bind fun q4 => ((X8_sets (M 20 0 0) 2 v2 q4).bind fun q5 => ((X8_sets (M 20 0 0) 3 v3 q5).bind fun q6 => ((X8_pot_L103 400 (M 20 0 0) 4 q6).bind fun q8 => (some ((M 20 0 0), (up3 q8 20 0 0 ((q8 20 0 0) + 1)))))))))))))
set_option maxRecDepth 100000 in
set_option maxHeartbeats 4000000 in
theorem X8_pot_ok  {v1 : Int32} {v2 : Int32} {v3 : Int32} {M N : Mem} {res : Int32 × Mem} (h : X8_pot v1 v2 v3 M = some res) : Spec mt_X8_pot 2 [.inr (.inr (19, 0)), .inl v1, .inl v2, .inl v3] (N, M) (some (.inl res.1)) (N, res.2) := by
  unfold X8_pot at h
  refine Spec_of_G (by decide) rfl (Nat.le_of_ble_eq_true rfl) ?_
  refine G_sub [(0, .inr (.inr (19, 0))), (1, .inl v1), (2, .inl v2), (3, .inl v3)] [0, 1, 2, 3] rfl ?_
  refine G_iload_n dX8_pot_0 rfl ?_
  refine G_i2l dX8_pot_1 ?_
  refine G_lconst (v := 0) dX8_pot_2 (by decide) ?_
  refine G_ldc2 ko_X8_180 dX8_pot_3 ?_
  refine G_callSv  (X8_in_ok rfl) ok_X8_in ml_X8_47 (by decide) rfl rfl (Nat.le_of_ble_eq_true rfl) dX8_pot_6 ?_
  refine G_if_eq (tgt := 31) dX8_pot_9 (by decide) (fun hc1 => ?_) (fun hc1 => ?_)
  · replace h := (if_pos hc1).symm.trans h
    refine G_aload_n dX8_pot_31 rfl ?_
    refine G_iconst (v := 1) dX8_pot_32 (by decide) ?_
    obtain ⟨q1, hq1, h⟩ := bnd h
    refine G_callVv (T := TX8) (N := 22) (f := 19) (i := 0) (X8_finds_ok hq1) ok_X8_finds ml_X8_130 (by decide) rfl (by decide) (by decide) (by decide) rfl rfl (Nat.le_of_ble_eq_true rfl) dX8_pot_33 ?_
    obtain rfl := Option.some.inj h
    exact G_ret dX8_pot_36 trivial rfl rfl
  · replace h := (if_neg hc1).symm.trans h
    refine G_iload_n dX8_pot_12 rfl ?_
    refine G_callSv  (X8_isHouse_ok rfl) ok_X8_isHouse ml_X8_170 (by decide) rfl rfl (Nat.le_of_ble_eq_true rfl) dX8_pot_13 ?_
    refine G_if_eq (tgt := 31) dX8_pot_16 (by decide) (fun hc2 => ?_) (fun hc2 => ?_)
    · replace h := (if_pos hc2).symm.trans h
      refine G_aload_n dX8_pot_31 rfl ?_
      refine G_iconst (v := 1) dX8_pot_32 (by decide) ?_
      obtain ⟨q2, hq2, h⟩ := bnd h
      refine G_callVv (T := TX8) (N := 22) (f := 19) (i := 0) (X8_finds_ok hq2) ok_X8_finds ml_X8_130 (by decide) rfl (by decide) (by decide) (by decide) rfl rfl (Nat.le_of_ble_eq_true rfl) dX8_pot_33 ?_
      obtain rfl := Option.some.inj h
      exact G_ret dX8_pot_36 trivial rfl rfl
    · replace h := (if_neg hc2).symm.trans h
      refine G_iload_n dX8_pot_19 rfl ?_
      refine G_i2l dX8_pot_20 ?_
      refine G_lconst (v := 0) dX8_pot_21 (by decide) ?_
      refine G_ldc2 ko_X8_173 dX8_pot_22 ?_
      refine G_callSv  (X8_in_ok rfl) ok_X8_in ml_X8_47 (by decide) rfl rfl (Nat.le_of_ble_eq_true rfl) dX8_pot_25 ?_
      refine G_if_ne (tgt := 37) dX8_pot_28 (by decide) (fun hc3 => ?_) (fun hc3 => ?_)
      · replace h := (if_neg hc3).symm.trans h
        refine G_aload_n dX8_pot_37 rfl ?_
        refine fg_X8_7 rfl (by decide) dX8_pot_38 ?_
        refine G_iconst (v := 0) dX8_pot_41 (by decide) ?_
        refine al_20 (kk := 0) (v := (M 20 0 0)) (by decide) (by decide) (by decide) rfl dX8_pot_42 ?_
        refine G_bipush (v := 10) dX8_pot_43 (by decide) ?_
        refine G_icmp_ne (tgt := 54) dX8_pot_45 (by decide) (fun hc4 => ?_) (fun hc4 => ?_)
        · replace h := (if_neg hc4).symm.trans h
          refine G_aload_n dX8_pot_54 rfl ?_
          refine fg_X8_7 rfl (by decide) dX8_pot_55 ?_
          refine G_iconst (v := 0) dX8_pot_58 (by decide) ?_
          refine al_20 (kk := 0) (v := (M 20 0 0)) (by decide) (by decide) (by decide) rfl dX8_pot_59 ?_
          refine G_istore (L2 := [(4, .inl (M 20 0 0)), (0, .inr (.inr (19, 0))), (1, .inl v1), (2, .inl v2), (3, .inl v3)]) dX8_pot_60 (by decide) rfl ?_
          refine G_aload_n dX8_pot_62 rfl ?_
          refine G_iload dX8_pot_63 rfl ?_
          refine G_iconst (v := 0) dX8_pot_65 (by decide) ?_
          refine G_iload_n dX8_pot_66 rfl ?_
          refine G_bipush (v := 10) dX8_pot_67 (by decide) ?_
          refine G_idiv (by decide) dX8_pot_69 ?_
          obtain ⟨q3, hq3, h⟩ := bnd h
          refine G_callVn (T := TX8) (N := 22) (f := 19) (i := 0) (X8_sets_ok hq3) ok_X8_sets ml_X8_149 (by decide) rfl (by decide) (by decide) (by decide) rfl rfl (Nat.le_of_ble_eq_true rfl) dX8_pot_70 ?_
          refine G_aload_n dX8_pot_73 rfl ?_
          refine G_iload dX8_pot_74 rfl ?_
          refine G_iconst (v := 1) dX8_pot_76 (by decide) ?_
          refine G_iload_n dX8_pot_77 rfl ?_
          refine G_bipush (v := 10) dX8_pot_78 (by decide) ?_
          refine G_irem (by decide) dX8_pot_80 ?_
          obtain ⟨q4, hq4, h⟩ := bnd h
          refine G_callVn (T := TX8) (N := 22) (f := 19) (i := 0) (X8_sets_ok hq4) ok_X8_sets ml_X8_149 (by decide) rfl (by decide) (by decide) (by decide) rfl rfl (Nat.le_of_ble_eq_true rfl) dX8_pot_81 ?_
          refine G_aload_n dX8_pot_84 rfl ?_
          refine G_iload dX8_pot_85 rfl ?_
          refine G_iconst (v := 2) dX8_pot_87 (by decide) ?_
          refine G_iload_n dX8_pot_88 rfl ?_
          obtain ⟨q5, hq5, h⟩ := bnd h
          refine G_callVn (T := TX8) (N := 22) (f := 19) (i := 0) (X8_sets_ok hq5) ok_X8_sets ml_X8_149 (by decide) rfl (by decide) (by decide) (by decide) rfl rfl (Nat.le_of_ble_eq_true rfl) dX8_pot_89 ?_
          refine G_aload_n dX8_pot_92 rfl ?_
          refine G_iload dX8_pot_93 rfl ?_
          refine G_iconst (v := 3) dX8_pot_95 (by decide) ?_
          refine G_iload_n dX8_pot_96 rfl ?_
          obtain ⟨q6, hq6, h⟩ := bnd h
          refine G_callVn (T := TX8) (N := 22) (f := 19) (i := 0) (X8_sets_ok hq6) ok_X8_sets ml_X8_149 (by decide) rfl (by decide) (by decide) (by decide) rfl rfl (Nat.le_of_ble_eq_true rfl) dX8_pot_97 ?_
          refine G_iconst (v := 4) dX8_pot_100 (by decide) ?_
          refine G_istore (L2 := [(5, .inl 4), (4, .inl (M 20 0 0)), (0, .inr (.inr (19, 0))), (1, .inl v1), (2, .inl v2), (3, .inl v3)]) dX8_pot_101 (by decide) rfl ?_
          refine G_sub [(0, .inr (.inr (19, 0))), (4, .inl (M 20 0 0)), (5, .inl 4)] [2, 1, 0] rfl ?_
          obtain ⟨q8, hq8, h⟩ := bnd h
          refine X8_pot_L103_ok  400 (M 20 0 0) 4 q6 _  hq8 ?_
          refine G_aload_n dX8_pot_125 rfl ?_
          refine fg_X8_7 rfl (by decide) dX8_pot_126 ?_
          refine G_iconst (v := 0) dX8_pot_129 (by decide) ?_
          refine G_dup2 rfl rfl dX8_pot_130 ?_
          refine al_20 (kk := 0) (v := (q8 20 0 0)) (by decide) (by decide) (by decide) rfl dX8_pot_131 ?_
          refine G_iconst (v := 1) dX8_pot_132 (by decide) ?_
          refine G_iadd dX8_pot_133 ?_
          refine as_20 (kk := 0) (by decide) (by decide) (by decide) dX8_pot_134 ?_
          refine G_iload dX8_pot_135 rfl ?_
          obtain rfl := Option.some.inj h
          exact G_ret dX8_pot_137 trivial rfl rfl
        · replace h := (if_pos hc4).symm.trans h
          refine G_aload_n dX8_pot_48 rfl ?_
          refine G_iconst (v := 4) dX8_pot_49 (by decide) ?_
          obtain ⟨q9, hq9, h⟩ := bnd h
          refine G_callVv (T := TX8) (N := 22) (f := 19) (i := 0) (X8_finds_ok hq9) ok_X8_finds ml_X8_130 (by decide) rfl (by decide) (by decide) (by decide) rfl rfl (Nat.le_of_ble_eq_true rfl) dX8_pot_50 ?_
          obtain rfl := Option.some.inj h
          exact G_ret dX8_pot_53 trivial rfl rfl
      · replace h := (if_pos hc3).symm.trans h
        refine G_aload_n dX8_pot_31 rfl ?_
        refine G_iconst (v := 1) dX8_pot_32 (by decide) ?_
        obtain ⟨q10, hq10, h⟩ := bnd h
        refine G_callVv (T := TX8) (N := 22) (f := 19) (i := 0) (X8_finds_ok hq10) ok_X8_finds ml_X8_130 (by decide) rfl (by decide) (by decide) (by decide) rfl rfl (Nat.le_of_ble_eq_true rfl) dX8_pot_33 ?_
        obtain rfl := Option.some.inj h
        exact G_ret dX8_pot_36 trivial rfl rfl

theorem dX8_isPot_0 : decode cX8_isPot 0 = .ok (.iload_n 1, 1) := by decide +kernel
theorem dX8_isPot_1 : decode cX8_isPot 1 = .ok (.i2l, 1) := by decide +kernel
theorem dX8_isPot_2 : decode cX8_isPot 2 = .ok (.lconst 0, 1) := by decide +kernel
theorem dX8_isPot_3 : decode cX8_isPot 3 = .ok (.aload_n 0, 1) := by decide +kernel
theorem dX8_isPot_4 : decode cX8_isPot 4 = .ok (.getfield 7, 3) := by decide +kernel
theorem dX8_isPot_7 : decode cX8_isPot 7 = .ok (.iconst 0, 1) := by decide +kernel
theorem dX8_isPot_8 : decode cX8_isPot 8 = .ok (.iaload, 1) := by decide +kernel
theorem dX8_isPot_9 : decode cX8_isPot 9 = .ok (.iconst 1, 1) := by decide +kernel
theorem dX8_isPot_10 : decode cX8_isPot 10 = .ok (.isub, 1) := by decide +kernel
theorem dX8_isPot_11 : decode cX8_isPot 11 = .ok (.i2l, 1) := by decide +kernel
theorem dX8_isPot_12 : decode cX8_isPot 12 = .ok (.invokestatic 47, 3) := by decide +kernel
theorem dX8_isPot_15 : decode cX8_isPot 15 = .ok (.ireturn, 1) := by decide +kernel
def X8_isPot (v1 : Int32) (M : Mem) : Int32 := (X8_in (v1.toInt64) (0 : Int64) (((M 20 0 0) - 1).toInt64))
set_option maxRecDepth 100000 in
set_option maxHeartbeats 4000000 in
theorem X8_isPot_ok  {v1 : Int32} {M N : Mem} {res : Int32} (h : X8_isPot v1 M = res) : Spec mt_X8_isPot 1 [.inr (.inr (19, 0)), .inl v1] (N, M) (some (.inl res)) (N, M) := by
  unfold X8_isPot at h
  refine Spec_of_G (by decide) rfl (Nat.le_of_ble_eq_true rfl) ?_
  refine G_sub [(0, .inr (.inr (19, 0))), (1, .inl v1)] [0, 1] rfl ?_
  refine G_iload_n dX8_isPot_0 rfl ?_
  refine G_i2l dX8_isPot_1 ?_
  refine G_lconst (v := 0) dX8_isPot_2 (by decide) ?_
  refine G_aload_n dX8_isPot_3 rfl ?_
  refine fg_X8_7 rfl (by decide) dX8_isPot_4 ?_
  refine G_iconst (v := 0) dX8_isPot_7 (by decide) ?_
  refine al_20 (kk := 0) (v := (M 20 0 0)) (by decide) (by decide) (by decide) rfl dX8_isPot_8 ?_
  refine G_iconst (v := 1) dX8_isPot_9 (by decide) ?_
  refine G_isub dX8_isPot_10 ?_
  refine G_i2l dX8_isPot_11 ?_
  refine G_callSv  (X8_in_ok rfl) ok_X8_in ml_X8_47 (by decide) rfl rfl (Nat.le_of_ble_eq_true rfl) dX8_isPot_12 ?_
  subst h
  exact G_ret dX8_isPot_15 (X8_in_z ..) rfl rfl
theorem X8_isPot_z {v1 : Int32} {M : Mem} : X8_isPot v1 M = 0 ∨ X8_isPot v1 M = 1 := by
  unfold X8_isPot
  (repeat' split) <;> first | exact Or.inl rfl | exact Or.inr rfl | exact X8_in_z

theorem dX8_wants_0 : decode cX8_wants 0 = .ok (.bipush 50, 2) := by decide +kernel
theorem dX8_wants_2 : decode cX8_wants 2 = .ok (.aload_n 0, 1) := by decide +kernel
theorem dX8_wants_3 : decode cX8_wants 3 = .ok (.iload_n 1, 1) := by decide +kernel
theorem dX8_wants_4 : decode cX8_wants 4 = .ok (.iconst 1, 1) := by decide +kernel
theorem dX8_wants_5 : decode cX8_wants 5 = .ok (.invokevirtual 53, 3) := by decide +kernel
theorem dX8_wants_8 : decode cX8_wants 8 = .ok (.isub, 1) := by decide +kernel
theorem dX8_wants_9 : decode cX8_wants 9 = .ok (.istore_n 2, 1) := by decide +kernel
theorem dX8_wants_10 : decode cX8_wants 10 = .ok (.aload_n 0, 1) := by decide +kernel
theorem dX8_wants_11 : decode cX8_wants 11 = .ok (.iload_n 1, 1) := by decide +kernel
theorem dX8_wants_12 : decode cX8_wants 12 = .ok (.iconst 0, 1) := by decide +kernel
theorem dX8_wants_13 : decode cX8_wants 13 = .ok (.invokevirtual 53, 3) := by decide +kernel
theorem dX8_wants_16 : decode cX8_wants 16 = .ok (.tableswitch 69 1 6 #[40, 43, 45, 40, 48, 66], 40) := by decide +kernel
theorem dX8_wants_56 : decode cX8_wants 56 = .ok (.bipush 100, 2) := by decide +kernel
theorem dX8_wants_58 : decode cX8_wants 58 = .ok (.ireturn, 1) := by decide +kernel
theorem dX8_wants_59 : decode cX8_wants 59 = .ok (.iload_n 2, 1) := by decide +kernel
theorem dX8_wants_60 : decode cX8_wants 60 = .ok (.ireturn, 1) := by decide +kernel
theorem dX8_wants_61 : decode cX8_wants 61 = .ok (.bipush 20, 2) := by decide +kernel
theorem dX8_wants_63 : decode cX8_wants 63 = .ok (.ireturn, 1) := by decide +kernel
theorem dX8_wants_64 : decode cX8_wants 64 = .ok (.aload_n 0, 1) := by decide +kernel
theorem dX8_wants_65 : decode cX8_wants 65 = .ok (.iload_n 1, 1) := by decide +kernel
theorem dX8_wants_66 : decode cX8_wants 66 = .ok (.bipush 6, 2) := by decide +kernel
theorem dX8_wants_68 : decode cX8_wants 68 = .ok (.invokevirtual 53, 3) := by decide +kernel
theorem dX8_wants_71 : decode cX8_wants 71 = .ok (.ifCond .le 9, 3) := by decide +kernel
theorem dX8_wants_74 : decode cX8_wants 74 = .ok (.iconst 2, 1) := by decide +kernel
theorem dX8_wants_75 : decode cX8_wants 75 = .ok (.iload_n 2, 1) := by decide +kernel
theorem dX8_wants_76 : decode cX8_wants 76 = .ok (.imul, 1) := by decide +kernel
theorem dX8_wants_77 : decode cX8_wants 77 = .ok (.goto 4, 3) := by decide +kernel
theorem dX8_wants_80 : decode cX8_wants 80 = .ok (.iload_n 2, 1) := by decide +kernel
theorem dX8_wants_81 : decode cX8_wants 81 = .ok (.ireturn, 1) := by decide +kernel
theorem dX8_wants_82 : decode cX8_wants 82 = .ok (.bipush 30, 2) := by decide +kernel
theorem dX8_wants_84 : decode cX8_wants 84 = .ok (.ireturn, 1) := by decide +kernel
theorem dX8_wants_85 : decode cX8_wants 85 = .ok (.bipush 50, 2) := by decide +kernel
theorem dX8_wants_87 : decode cX8_wants 87 = .ok (.ireturn, 1) := by decide +kernel
def X8_wants (v1 : Int32) (M : Mem) : Option (Int32) := ((X8_of v1 1 M).bind fun q1 => ((X8_of v1 0 M).bind fun q2 => (if q2 = 1 then (some 100) else (if q2 = 2 then (some (50 - q1)) else (if q2 = 3 then (some 20) else (if q2 = 4 then (some 100) else (if q2 = 5 then ((X8_of v1 6 M).bind fun q3 => (if 0 < q3 then (some (2 * (50 - q1))) else (some (50 - q1)))) else (if q2 = 6 then (some 30) else (some 50)))))))))
set_option maxRecDepth 100000 in
set_option maxHeartbeats 4000000 in
theorem X8_wants_ok  {v1 : Int32} {M N : Mem} {res : Int32} (h : X8_wants v1 M = some res) : Spec mt_X8_wants 1 [.inr (.inr (19, 0)), .inl v1] (N, M) (some (.inl res)) (N, M) := by
  unfold X8_wants at h
  refine Spec_of_G (by decide) rfl (Nat.le_of_ble_eq_true rfl) ?_
  refine G_sub [(0, .inr (.inr (19, 0))), (1, .inl v1)] [0, 1] rfl ?_
  refine G_bipush (v := 50) dX8_wants_0 (by decide) ?_
  refine G_aload_n dX8_wants_2 rfl ?_
  refine G_iload_n dX8_wants_3 rfl ?_
  refine G_iconst (v := 1) dX8_wants_4 (by decide) ?_
  obtain ⟨q1, hq1, h⟩ := bnd h
  refine G_callVv (T := TX8) (N := 22) (f := 19) (i := 0) (X8_of_ok hq1) ok_X8_of ml_X8_53 (by decide) rfl (by decide) (by decide) (by decide) rfl rfl (Nat.le_of_ble_eq_true rfl) dX8_wants_5 ?_
  refine G_isub dX8_wants_8 ?_
  refine G_istore_n (L2 := [(2, .inl (50 - q1)), (0, .inr (.inr (19, 0))), (1, .inl v1)]) dX8_wants_9 (by decide) rfl ?_
  refine G_aload_n dX8_wants_10 rfl ?_
  refine G_iload_n dX8_wants_11 rfl ?_
  refine G_iconst (v := 0) dX8_wants_12 (by decide) ?_
  obtain ⟨q2, hq2, h⟩ := bnd h
  refine G_callVv (T := TX8) (N := 22) (f := 19) (i := 0) (X8_of_ok hq2) ok_X8_of ml_X8_53 (by decide) rfl (by decide) (by decide) (by decide) rfl rfl (Nat.le_of_ble_eq_true rfl) dX8_wants_13 ?_
  by_cases hc1 : q2 = 1
  · replace h := (if_pos hc1).symm.trans h
    refine G_tableEq (off := 40) (tgt := 56) hc1 dX8_wants_16 (by decide) (by decide) (by decide) (by decide) ?_
    refine G_bipush (v := 100) dX8_wants_56 (by decide) ?_
    obtain rfl := Option.some.inj h
    exact G_ret dX8_wants_58 trivial rfl rfl
  replace h := (if_neg hc1).symm.trans h
  by_cases hc2 : q2 = 2
  · replace h := (if_pos hc2).symm.trans h
    refine G_tableEq (off := 43) (tgt := 59) hc2 dX8_wants_16 (by decide) (by decide) (by decide) (by decide) ?_
    refine G_iload_n dX8_wants_59 rfl ?_
    obtain rfl := Option.some.inj h
    exact G_ret dX8_wants_60 trivial rfl rfl
  replace h := (if_neg hc2).symm.trans h
  by_cases hc3 : q2 = 3
  · replace h := (if_pos hc3).symm.trans h
    refine G_tableEq (off := 45) (tgt := 61) hc3 dX8_wants_16 (by decide) (by decide) (by decide) (by decide) ?_
    refine G_bipush (v := 20) dX8_wants_61 (by decide) ?_
    obtain rfl := Option.some.inj h
    exact G_ret dX8_wants_63 trivial rfl rfl
  replace h := (if_neg hc3).symm.trans h
  by_cases hc4 : q2 = 4
  · replace h := (if_pos hc4).symm.trans h
    refine G_tableEq (off := 40) (tgt := 56) hc4 dX8_wants_16 (by decide) (by decide) (by decide) (by decide) ?_
    refine G_bipush (v := 100) dX8_wants_56 (by decide) ?_
    obtain rfl := Option.some.inj h
    exact G_ret dX8_wants_58 trivial rfl rfl
  replace h := (if_neg hc4).symm.trans h
  by_cases hc5 : q2 = 5
  · replace h := (if_pos hc5).symm.trans h
    refine G_tableEq (off := 48) (tgt := 64) hc5 dX8_wants_16 (by decide) (by decide) (by decide) (by decide) ?_
    refine G_aload_n dX8_wants_64 rfl ?_
    refine G_iload_n dX8_wants_65 rfl ?_
    refine G_bipush (v := 6) dX8_wants_66 (by decide) ?_
    obtain ⟨q3, hq3, h⟩ := bnd h
    refine G_callVv (T := TX8) (N := 22) (f := 19) (i := 0) (X8_of_ok hq3) ok_X8_of ml_X8_53 (by decide) rfl (by decide) (by decide) (by decide) rfl rfl (Nat.le_of_ble_eq_true rfl) dX8_wants_68 ?_
    refine G_if_le (tgt := 80) dX8_wants_71 (by decide) (fun hc6 => ?_) (fun hc6 => ?_)
    · replace h := (if_neg hc6).symm.trans h
      refine G_iload_n dX8_wants_80 rfl ?_
      obtain rfl := Option.some.inj h
      exact G_ret dX8_wants_81 trivial rfl rfl
    · replace h := (if_pos hc6).symm.trans h
      refine G_iconst (v := 2) dX8_wants_74 (by decide) ?_
      refine G_iload_n dX8_wants_75 rfl ?_
      refine G_imul dX8_wants_76 ?_
      refine G_goto (tgt := 81) dX8_wants_77 (by decide) ?_
      obtain rfl := Option.some.inj h
      exact G_ret dX8_wants_81 trivial rfl rfl
  replace h := (if_neg hc5).symm.trans h
  by_cases hc7 : q2 = 6
  · replace h := (if_pos hc7).symm.trans h
    refine G_tableEq (off := 66) (tgt := 82) hc7 dX8_wants_16 (by decide) (by decide) (by decide) (by decide) ?_
    refine G_bipush (v := 30) dX8_wants_82 (by decide) ?_
    obtain rfl := Option.some.inj h
    exact G_ret dX8_wants_84 trivial rfl rfl
  replace h := (if_neg hc7).symm.trans h
  have nhc1 := ne_lit (n := 1) (by decide) hc1
  have nhc2 := ne_lit (n := 2) (by decide) hc2
  have nhc3 := ne_lit (n := 3) (by decide) hc3
  have nhc4 := ne_lit (n := 4) (by decide) hc4
  have nhc5 := ne_lit (n := 5) (by decide) hc5
  have nhc7 := ne_lit (n := 6) (by decide) hc7
  refine G_tableOut (tgt := 85) dX8_wants_16 (by omega) (by decide) ?_
  refine G_bipush (v := 50) dX8_wants_85 (by decide) ?_
  obtain rfl := Option.some.inj h
  exact G_ret dX8_wants_87 trivial rfl rfl

theorem dX8_bears_0 : decode cX8_bears 0 = .ok (.aload_n 0, 1) := by decide +kernel
theorem dX8_bears_1 : decode cX8_bears 1 = .ok (.iload_n 1, 1) := by decide +kernel
theorem dX8_bears_2 : decode cX8_bears 2 = .ok (.iconst 0, 1) := by decide +kernel
theorem dX8_bears_3 : decode cX8_bears 3 = .ok (.invokevirtual 53, 3) := by decide +kernel
theorem dX8_bears_6 : decode cX8_bears 6 = .ok (.istore_n 2, 1) := by decide +kernel
theorem dX8_bears_7 : decode cX8_bears 7 = .ok (.iload_n 2, 1) := by decide +kernel
theorem dX8_bears_8 : decode cX8_bears 8 = .ok (.iconst 2, 1) := by decide +kernel
theorem dX8_bears_9 : decode cX8_bears 9 = .ok (.if_icmp .ne 7, 3) := by decide +kernel
theorem dX8_bears_12 : decode cX8_bears 12 = .ok (.iconst 2, 1) := by decide +kernel
theorem dX8_bears_13 : decode cX8_bears 13 = .ok (.goto 13, 3) := by decide +kernel
theorem dX8_bears_16 : decode cX8_bears 16 = .ok (.iload_n 2, 1) := by decide +kernel
theorem dX8_bears_17 : decode cX8_bears 17 = .ok (.iconst 5, 1) := by decide +kernel
theorem dX8_bears_18 : decode cX8_bears 18 = .ok (.if_icmp .ne 7, 3) := by decide +kernel
theorem dX8_bears_21 : decode cX8_bears 21 = .ok (.iconst 3, 1) := by decide +kernel
theorem dX8_bears_22 : decode cX8_bears 22 = .ok (.goto 4, 3) := by decide +kernel
theorem dX8_bears_25 : decode cX8_bears 25 = .ok (.iconst 1, 1) := by decide +kernel
theorem dX8_bears_26 : decode cX8_bears 26 = .ok (.ireturn, 1) := by decide +kernel
def X8_bears (v1 : Int32) (M : Mem) : Option (Int32) := ((X8_of v1 0 M).bind fun q1 => (if q1 = 2 then (some 2) else (if q1 = 5 then (some 3) else (some 1))))
set_option maxRecDepth 100000 in
set_option maxHeartbeats 4000000 in
theorem X8_bears_ok  {v1 : Int32} {M N : Mem} {res : Int32} (h : X8_bears v1 M = some res) : Spec mt_X8_bears 1 [.inr (.inr (19, 0)), .inl v1] (N, M) (some (.inl res)) (N, M) := by
  unfold X8_bears at h
  refine Spec_of_G (by decide) rfl (Nat.le_of_ble_eq_true rfl) ?_
  refine G_sub [(0, .inr (.inr (19, 0))), (1, .inl v1)] [0, 1] rfl ?_
  refine G_aload_n dX8_bears_0 rfl ?_
  refine G_iload_n dX8_bears_1 rfl ?_
  refine G_iconst (v := 0) dX8_bears_2 (by decide) ?_
  obtain ⟨q1, hq1, h⟩ := bnd h
  refine G_callVv (T := TX8) (N := 22) (f := 19) (i := 0) (X8_of_ok hq1) ok_X8_of ml_X8_53 (by decide) rfl (by decide) (by decide) (by decide) rfl rfl (Nat.le_of_ble_eq_true rfl) dX8_bears_3 ?_
  refine G_istore_n (L2 := [(2, .inl q1), (0, .inr (.inr (19, 0))), (1, .inl v1)]) dX8_bears_6 (by decide) rfl ?_
  refine G_iload_n dX8_bears_7 rfl ?_
  refine G_iconst (v := 2) dX8_bears_8 (by decide) ?_
  refine G_icmp_ne (tgt := 16) dX8_bears_9 (by decide) (fun hc1 => ?_) (fun hc1 => ?_)
  · replace h := (if_neg hc1).symm.trans h
    refine G_iload_n dX8_bears_16 rfl ?_
    refine G_iconst (v := 5) dX8_bears_17 (by decide) ?_
    refine G_icmp_ne (tgt := 25) dX8_bears_18 (by decide) (fun hc2 => ?_) (fun hc2 => ?_)
    · replace h := (if_neg hc2).symm.trans h
      refine G_iconst (v := 1) dX8_bears_25 (by decide) ?_
      obtain rfl := Option.some.inj h
      exact G_ret dX8_bears_26 trivial rfl rfl
    · replace h := (if_pos hc2).symm.trans h
      refine G_iconst (v := 3) dX8_bears_21 (by decide) ?_
      refine G_goto (tgt := 26) dX8_bears_22 (by decide) ?_
      obtain rfl := Option.some.inj h
      exact G_ret dX8_bears_26 trivial rfl rfl
  · replace h := (if_pos hc1).symm.trans h
    refine G_iconst (v := 2) dX8_bears_12 (by decide) ?_
    refine G_goto (tgt := 26) dX8_bears_13 (by decide) ?_
    obtain rfl := Option.some.inj h
    exact G_ret dX8_bears_26 trivial rfl rfl

theorem dX8_ofPot_0 : decode cX8_ofPot 0 = .ok (.aload_n 0, 1) := by decide +kernel
theorem dX8_ofPot_1 : decode cX8_ofPot 1 = .ok (.iload_n 1, 1) := by decide +kernel
theorem dX8_ofPot_2 : decode cX8_ofPot 2 = .ok (.invokevirtual 182, 3) := by decide +kernel
theorem dX8_ofPot_5 : decode cX8_ofPot 5 = .ok (.ifCond .eq 15, 3) := by decide +kernel
theorem dX8_ofPot_8 : decode cX8_ofPot 8 = .ok (.iload_n 2, 1) := by decide +kernel
theorem dX8_ofPot_9 : decode cX8_ofPot 9 = .ok (.i2l, 1) := by decide +kernel
theorem dX8_ofPot_10 : decode cX8_ofPot 10 = .ok (.lconst 0, 1) := by decide +kernel
theorem dX8_ofPot_11 : decode cX8_ofPot 11 = .ok (.ldc2_w 173, 3) := by decide +kernel
theorem dX8_ofPot_14 : decode cX8_ofPot 14 = .ok (.invokestatic 47, 3) := by decide +kernel
theorem dX8_ofPot_17 : decode cX8_ofPot 17 = .ok (.ifCond .ne 9, 3) := by decide +kernel
theorem dX8_ofPot_20 : decode cX8_ofPot 20 = .ok (.aload_n 0, 1) := by decide +kernel
theorem dX8_ofPot_21 : decode cX8_ofPot 21 = .ok (.iconst 1, 1) := by decide +kernel
theorem dX8_ofPot_22 : decode cX8_ofPot 22 = .ok (.invokevirtual 130, 3) := by decide +kernel
theorem dX8_ofPot_25 : decode cX8_ofPot 25 = .ok (.ireturn, 1) := by decide +kernel
theorem dX8_ofPot_26 : decode cX8_ofPot 26 = .ok (.iload_n 2, 1) := by decide +kernel
theorem dX8_ofPot_27 : decode cX8_ofPot 27 = .ok (.bipush 8, 2) := by decide +kernel
theorem dX8_ofPot_29 : decode cX8_ofPot 29 = .ok (.if_icmp .ge 12, 3) := by decide +kernel
theorem dX8_ofPot_32 : decode cX8_ofPot 32 = .ok (.aload_n 0, 1) := by decide +kernel
theorem dX8_ofPot_33 : decode cX8_ofPot 33 = .ok (.iload_n 1, 1) := by decide +kernel
theorem dX8_ofPot_34 : decode cX8_ofPot 34 = .ok (.iload_n 2, 1) := by decide +kernel
theorem dX8_ofPot_35 : decode cX8_ofPot 35 = .ok (.invokevirtual 53, 3) := by decide +kernel
theorem dX8_ofPot_38 : decode cX8_ofPot 38 = .ok (.goto 22, 3) := by decide +kernel
theorem dX8_ofPot_41 : decode cX8_ofPot 41 = .ok (.iload_n 2, 1) := by decide +kernel
theorem dX8_ofPot_42 : decode cX8_ofPot 42 = .ok (.bipush 8, 2) := by decide +kernel
theorem dX8_ofPot_44 : decode cX8_ofPot 44 = .ok (.if_icmp .ne 11, 3) := by decide +kernel
theorem dX8_ofPot_47 : decode cX8_ofPot 47 = .ok (.aload_n 0, 1) := by decide +kernel
theorem dX8_ofPot_48 : decode cX8_ofPot 48 = .ok (.iload_n 1, 1) := by decide +kernel
theorem dX8_ofPot_49 : decode cX8_ofPot 49 = .ok (.invokevirtual 155, 3) := by decide +kernel
theorem dX8_ofPot_52 : decode cX8_ofPot 52 = .ok (.goto 8, 3) := by decide +kernel
theorem dX8_ofPot_55 : decode cX8_ofPot 55 = .ok (.aload_n 0, 1) := by decide +kernel
theorem dX8_ofPot_56 : decode cX8_ofPot 56 = .ok (.iload_n 1, 1) := by decide +kernel
theorem dX8_ofPot_57 : decode cX8_ofPot 57 = .ok (.invokevirtual 158, 3) := by decide +kernel
theorem dX8_ofPot_60 : decode cX8_ofPot 60 = .ok (.ireturn, 1) := by decide +kernel
def X8_ofPot (v1 : Int32) (v2 : Int32) (M : Mem) : Option (Int32 × Mem) := (if (X8_isPot v1 M) = 0 then ((X8_finds 1 M).bind fun q1 => (some (q1.1, q1.2))) else (if (X8_in (v2.toInt64) (0 : Int64) (9 : Int64)) = 0 then ((X8_finds 1 M).bind fun q5 => (some (q5.1, q5.2))) else (if v2 < 8 then ((X8_of v1 v2 M).bind fun q4 => (some (q4, M))) else (if v2 = 8 then ((X8_wants v1 M).bind fun q3 => (some (q3, M))) else ((X8_bears v1 M).bind fun q2 => (some (q2, M)))))))
set_option maxRecDepth 100000 in
set_option maxHeartbeats 4000000 in
theorem X8_ofPot_ok  {v1 : Int32} {v2 : Int32} {M N : Mem} {res : Int32 × Mem} (h : X8_ofPot v1 v2 M = some res) : Spec mt_X8_ofPot 2 [.inr (.inr (19, 0)), .inl v1, .inl v2] (N, M) (some (.inl res.1)) (N, res.2) := by
  unfold X8_ofPot at h
  refine Spec_of_G (by decide) rfl (Nat.le_of_ble_eq_true rfl) ?_
  refine G_sub [(0, .inr (.inr (19, 0))), (1, .inl v1), (2, .inl v2)] [0, 1, 2] rfl ?_
  refine G_aload_n dX8_ofPot_0 rfl ?_
  refine G_iload_n dX8_ofPot_1 rfl ?_
  refine G_callVv (T := TX8) (N := 22) (f := 19) (i := 0) (X8_isPot_ok rfl) ok_X8_isPot ml_X8_182 (by decide) rfl (by decide) (by decide) (by decide) rfl rfl (Nat.le_of_ble_eq_true rfl) dX8_ofPot_2 ?_
  refine G_if_eq (tgt := 20) dX8_ofPot_5 (by decide) (fun hc1 => ?_) (fun hc1 => ?_)
  · replace h := (if_pos hc1).symm.trans h
    refine G_aload_n dX8_ofPot_20 rfl ?_
    refine G_iconst (v := 1) dX8_ofPot_21 (by decide) ?_
    obtain ⟨q1, hq1, h⟩ := bnd h
    refine G_callVv (T := TX8) (N := 22) (f := 19) (i := 0) (X8_finds_ok hq1) ok_X8_finds ml_X8_130 (by decide) rfl (by decide) (by decide) (by decide) rfl rfl (Nat.le_of_ble_eq_true rfl) dX8_ofPot_22 ?_
    obtain rfl := Option.some.inj h
    exact G_ret dX8_ofPot_25 trivial rfl rfl
  · replace h := (if_neg hc1).symm.trans h
    refine G_iload_n dX8_ofPot_8 rfl ?_
    refine G_i2l dX8_ofPot_9 ?_
    refine G_lconst (v := 0) dX8_ofPot_10 (by decide) ?_
    refine G_ldc2 ko_X8_173 dX8_ofPot_11 ?_
    refine G_callSv  (X8_in_ok rfl) ok_X8_in ml_X8_47 (by decide) rfl rfl (Nat.le_of_ble_eq_true rfl) dX8_ofPot_14 ?_
    refine G_if_ne (tgt := 26) dX8_ofPot_17 (by decide) (fun hc2 => ?_) (fun hc2 => ?_)
    · replace h := (if_neg hc2).symm.trans h
      refine G_iload_n dX8_ofPot_26 rfl ?_
      refine G_bipush (v := 8) dX8_ofPot_27 (by decide) ?_
      refine G_icmp_ge (tgt := 41) dX8_ofPot_29 (by decide) (fun hc3 => ?_) (fun hc3 => ?_)
      · replace h := (if_neg hc3).symm.trans h
        refine G_iload_n dX8_ofPot_41 rfl ?_
        refine G_bipush (v := 8) dX8_ofPot_42 (by decide) ?_
        refine G_icmp_ne (tgt := 55) dX8_ofPot_44 (by decide) (fun hc4 => ?_) (fun hc4 => ?_)
        · replace h := (if_neg hc4).symm.trans h
          refine G_aload_n dX8_ofPot_55 rfl ?_
          refine G_iload_n dX8_ofPot_56 rfl ?_
          obtain ⟨q2, hq2, h⟩ := bnd h
          refine G_callVv (T := TX8) (N := 22) (f := 19) (i := 0) (X8_bears_ok hq2) ok_X8_bears ml_X8_158 (by decide) rfl (by decide) (by decide) (by decide) rfl rfl (Nat.le_of_ble_eq_true rfl) dX8_ofPot_57 ?_
          obtain rfl := Option.some.inj h
          exact G_ret dX8_ofPot_60 trivial rfl rfl
        · replace h := (if_pos hc4).symm.trans h
          refine G_aload_n dX8_ofPot_47 rfl ?_
          refine G_iload_n dX8_ofPot_48 rfl ?_
          obtain ⟨q3, hq3, h⟩ := bnd h
          refine G_callVv (T := TX8) (N := 22) (f := 19) (i := 0) (X8_wants_ok hq3) ok_X8_wants ml_X8_155 (by decide) rfl (by decide) (by decide) (by decide) rfl rfl (Nat.le_of_ble_eq_true rfl) dX8_ofPot_49 ?_
          refine G_goto (tgt := 60) dX8_ofPot_52 (by decide) ?_
          obtain rfl := Option.some.inj h
          exact G_ret dX8_ofPot_60 trivial rfl rfl
      · replace h := (if_pos hc3).symm.trans h
        refine G_aload_n dX8_ofPot_32 rfl ?_
        refine G_iload_n dX8_ofPot_33 rfl ?_
        refine G_iload_n dX8_ofPot_34 rfl ?_
        obtain ⟨q4, hq4, h⟩ := bnd h
        refine G_callVv (T := TX8) (N := 22) (f := 19) (i := 0) (X8_of_ok hq4) ok_X8_of ml_X8_53 (by decide) rfl (by decide) (by decide) (by decide) rfl rfl (Nat.le_of_ble_eq_true rfl) dX8_ofPot_35 ?_
        refine G_goto (tgt := 60) dX8_ofPot_38 (by decide) ?_
        obtain rfl := Option.some.inj h
        exact G_ret dX8_ofPot_60 trivial rfl rfl
    · replace h := (if_pos hc2).symm.trans h
      refine G_aload_n dX8_ofPot_20 rfl ?_
      refine G_iconst (v := 1) dX8_ofPot_21 (by decide) ?_
      obtain ⟨q5, hq5, h⟩ := bnd h
      refine G_callVv (T := TX8) (N := 22) (f := 19) (i := 0) (X8_finds_ok hq5) ok_X8_finds ml_X8_130 (by decide) rfl (by decide) (by decide) (by decide) rfl rfl (Nat.le_of_ble_eq_true rfl) dX8_ofPot_22 ?_
      obtain rfl := Option.some.inj h
      exact G_ret dX8_ofPot_25 trivial rfl rfl

theorem dX8_change_0 : decode cX8_change 0 = .ok (.aload_n 0, 1) := by decide +kernel
theorem dX8_change_1 : decode cX8_change 1 = .ok (.iload_n 1, 1) := by decide +kernel
theorem dX8_change_2 : decode cX8_change 2 = .ok (.invokevirtual 182, 3) := by decide +kernel
theorem dX8_change_5 : decode cX8_change 5 = .ok (.ifCond .eq 37, 3) := by decide +kernel
theorem dX8_change_8 : decode cX8_change 8 = .ok (.iload_n 2, 1) := by decide +kernel
theorem dX8_change_9 : decode cX8_change 9 = .ok (.i2l, 1) := by decide +kernel
theorem dX8_change_10 : decode cX8_change 10 = .ok (.lconst 0, 1) := by decide +kernel
theorem dX8_change_11 : decode cX8_change 11 = .ok (.ldc2_w 175, 3) := by decide +kernel
theorem dX8_change_14 : decode cX8_change 14 = .ok (.invokestatic 47, 3) := by decide +kernel
theorem dX8_change_17 : decode cX8_change 17 = .ok (.ifCond .eq 25, 3) := by decide +kernel
theorem dX8_change_20 : decode cX8_change 20 = .ok (.iload_n 3, 1) := by decide +kernel
theorem dX8_change_21 : decode cX8_change 21 = .ok (.i2l, 1) := by decide +kernel
theorem dX8_change_22 : decode cX8_change 22 = .ok (.lconst 0, 1) := by decide +kernel
theorem dX8_change_23 : decode cX8_change 23 = .ok (.iload_n 2, 1) := by decide +kernel
theorem dX8_change_24 : decode cX8_change 24 = .ok (.ifCond .ne 9, 3) := by decide +kernel
theorem dX8_change_27 : decode cX8_change 27 = .ok (.ldc2_w 173, 3) := by decide +kernel
theorem dX8_change_30 : decode cX8_change 30 = .ok (.goto 6, 3) := by decide +kernel
theorem dX8_change_33 : decode cX8_change 33 = .ok (.ldc2_w 185, 3) := by decide +kernel
theorem dX8_change_36 : decode cX8_change 36 = .ok (.invokestatic 47, 3) := by decide +kernel
theorem dX8_change_39 : decode cX8_change 39 = .ok (.ifCond .ne 9, 3) := by decide +kernel
theorem dX8_change_42 : decode cX8_change 42 = .ok (.aload_n 0, 1) := by decide +kernel
theorem dX8_change_43 : decode cX8_change 43 = .ok (.iconst 1, 1) := by decide +kernel
theorem dX8_change_44 : decode cX8_change 44 = .ok (.invokevirtual 130, 3) := by decide +kernel
theorem dX8_change_47 : decode cX8_change 47 = .ok (.ireturn, 1) := by decide +kernel
theorem dX8_change_48 : decode cX8_change 48 = .ok (.aload_n 0, 1) := by decide +kernel
theorem dX8_change_49 : decode cX8_change 49 = .ok (.iload_n 1, 1) := by decide +kernel
theorem dX8_change_50 : decode cX8_change 50 = .ok (.iconst 3, 1) := by decide +kernel
theorem dX8_change_51 : decode cX8_change 51 = .ok (.iload_n 2, 1) := by decide +kernel
theorem dX8_change_52 : decode cX8_change 52 = .ok (.iadd, 1) := by decide +kernel
theorem dX8_change_53 : decode cX8_change 53 = .ok (.invokevirtual 53, 3) := by decide +kernel
theorem dX8_change_56 : decode cX8_change 56 = .ok (.istore 4, 2) := by decide +kernel
theorem dX8_change_58 : decode cX8_change 58 = .ok (.aload_n 0, 1) := by decide +kernel
theorem dX8_change_59 : decode cX8_change 59 = .ok (.iload_n 1, 1) := by decide +kernel
theorem dX8_change_60 : decode cX8_change 60 = .ok (.iconst 3, 1) := by decide +kernel
theorem dX8_change_61 : decode cX8_change 61 = .ok (.iload_n 2, 1) := by decide +kernel
theorem dX8_change_62 : decode cX8_change 62 = .ok (.iadd, 1) := by decide +kernel
theorem dX8_change_63 : decode cX8_change 63 = .ok (.iload_n 3, 1) := by decide +kernel
theorem dX8_change_64 : decode cX8_change 64 = .ok (.invokevirtual 149, 3) := by decide +kernel
theorem dX8_change_67 : decode cX8_change 67 = .ok (.iload 4, 2) := by decide +kernel
theorem dX8_change_69 : decode cX8_change 69 = .ok (.ireturn, 1) := by decide +kernel
def X8_change_J36 (v1 : Int32) (v2 : Int32) (v3 : Int32) (s0 : Int64) (s1 : Int64) (s2 : Int64) (M : Mem) : Option (Int32 × Mem) := (if (X8_in s2 s1 s0) = 0 then ((X8_finds 1 M).bind fun q5 => (some (q5.1, q5.2))) else ((X8_of v1 (3 + v2) M).bind fun q3 => ((X8_sets v1 (3 + v2) v3 M).bind fun q4 => (some (q3, q4)))))
set_option maxRecDepth 100000 in
set_option maxHeartbeats 4000000 in
theorem X8_change_J36_ok  {v1 : Int32} {v2 : Int32} {v3 : Int32} {s0 : Int64} {s1 : Int64} {s2 : Int64} {M N : Mem} {res : Int32 × Mem} (h : X8_change_J36 v1 v2 v3 s0 s1 s2 M = some res) : G mt_X8_change 2 (some (.inl res.1)) (N, res.2) 36 [(0, .inr (.inr (19, 0))), (1, .inl v1), (2, .inl v2), (3, .inl v3)] [.inr (.inl s0), .inr (.inl s1), .inr (.inl s2)] (N, M) := by
  unfold X8_change_J36 at h
  refine G_callSv  (X8_in_ok rfl) ok_X8_in ml_X8_47 (by decide) rfl rfl (Nat.le_of_ble_eq_true rfl) dX8_change_36 ?_
  refine G_if_ne (tgt := 48) dX8_change_39 (by decide) (fun hc4 => ?_) (fun hc4 => ?_)
  · replace h := (if_neg hc4).symm.trans h
    refine G_aload_n dX8_change_48 rfl ?_
    refine G_iload_n dX8_change_49 rfl ?_
    refine G_iconst (v := 3) dX8_change_50 (by decide) ?_
    refine G_iload_n dX8_change_51 rfl ?_
    refine G_iadd dX8_change_52 ?_
    obtain ⟨q3, hq3, h⟩ := bnd h
    refine G_callVv (T := TX8) (N := 22) (f := 19) (i := 0) (X8_of_ok hq3) ok_X8_of ml_X8_53 (by decide) rfl (by decide) (by decide) (by decide) rfl rfl (Nat.le_of_ble_eq_true rfl) dX8_change_53 ?_
    refine G_istore (L2 := [(4, .inl q3), (0, .inr (.inr (19, 0))), (1, .inl v1), (2, .inl v2), (3, .inl v3)]) dX8_change_56 (by decide) rfl ?_
    refine G_aload_n dX8_change_58 rfl ?_
    refine G_iload_n dX8_change_59 rfl ?_
    refine G_iconst (v := 3) dX8_change_60 (by decide) ?_
    refine G_iload_n dX8_change_61 rfl ?_
    refine G_iadd dX8_change_62 ?_
    refine G_iload_n dX8_change_63 rfl ?_
    obtain ⟨q4, hq4, h⟩ := bnd h
    refine G_callVn (T := TX8) (N := 22) (f := 19) (i := 0) (X8_sets_ok hq4) ok_X8_sets ml_X8_149 (by decide) rfl (by decide) (by decide) (by decide) rfl rfl (Nat.le_of_ble_eq_true rfl) dX8_change_64 ?_
    refine G_iload dX8_change_67 rfl ?_
    obtain rfl := Option.some.inj h
    exact G_ret dX8_change_69 trivial rfl rfl
  · replace h := (if_pos hc4).symm.trans h
    refine G_aload_n dX8_change_42 rfl ?_
    refine G_iconst (v := 1) dX8_change_43 (by decide) ?_
    obtain ⟨q5, hq5, h⟩ := bnd h
    refine G_callVv (T := TX8) (N := 22) (f := 19) (i := 0) (X8_finds_ok hq5) ok_X8_finds ml_X8_130 (by decide) rfl (by decide) (by decide) (by decide) rfl rfl (Nat.le_of_ble_eq_true rfl) dX8_change_44 ?_
    obtain rfl := Option.some.inj h
    exact G_ret dX8_change_47 trivial rfl rfl

def X8_change (v1 : Int32) (v2 : Int32) (v3 : Int32) (M : Mem) : Option (Int32 × Mem) := (if (X8_isPot v1 M) = 0 then ((X8_finds 1 M).bind fun q1 => (some (q1.1, q1.2))) else (if (X8_in (v2.toInt64) (0 : Int64) (2 : Int64)) = 0 then ((X8_finds 1 M).bind fun q2 => (some (q2.1, q2.2))) else (if v2 = 0 then (X8_change_J36 v1 v2 v3 (9 : Int64) (0 : Int64) (v3.toInt64) M) else (X8_change_J36 v1 v2 v3 (999 : Int64) (0 : Int64) (v3.toInt64) M))))
set_option maxRecDepth 100000 in
set_option maxHeartbeats 4000000 in
theorem X8_change_ok  {v1 : Int32} {v2 : Int32} {v3 : Int32} {M N : Mem} {res : Int32 × Mem} (h : X8_change v1 v2 v3 M = some res) : Spec mt_X8_change 2 [.inr (.inr (19, 0)), .inl v1, .inl v2, .inl v3] (N, M) (some (.inl res.1)) (N, res.2) := by
  unfold X8_change at h
  refine Spec_of_G (by decide) rfl (Nat.le_of_ble_eq_true rfl) ?_
  refine G_sub [(0, .inr (.inr (19, 0))), (1, .inl v1), (2, .inl v2), (3, .inl v3)] [0, 1, 2, 3] rfl ?_
  refine G_aload_n dX8_change_0 rfl ?_
  refine G_iload_n dX8_change_1 rfl ?_
  refine G_callVv (T := TX8) (N := 22) (f := 19) (i := 0) (X8_isPot_ok rfl) ok_X8_isPot ml_X8_182 (by decide) rfl (by decide) (by decide) (by decide) rfl rfl (Nat.le_of_ble_eq_true rfl) dX8_change_2 ?_
  refine G_if_eq (tgt := 42) dX8_change_5 (by decide) (fun hc1 => ?_) (fun hc1 => ?_)
  · replace h := (if_pos hc1).symm.trans h
    refine G_aload_n dX8_change_42 rfl ?_
    refine G_iconst (v := 1) dX8_change_43 (by decide) ?_
    obtain ⟨q1, hq1, h⟩ := bnd h
    refine G_callVv (T := TX8) (N := 22) (f := 19) (i := 0) (X8_finds_ok hq1) ok_X8_finds ml_X8_130 (by decide) rfl (by decide) (by decide) (by decide) rfl rfl (Nat.le_of_ble_eq_true rfl) dX8_change_44 ?_
    obtain rfl := Option.some.inj h
    exact G_ret dX8_change_47 trivial rfl rfl
  · replace h := (if_neg hc1).symm.trans h
    refine G_iload_n dX8_change_8 rfl ?_
    refine G_i2l dX8_change_9 ?_
    refine G_lconst (v := 0) dX8_change_10 (by decide) ?_
    refine G_ldc2 ko_X8_175 dX8_change_11 ?_
    refine G_callSv  (X8_in_ok rfl) ok_X8_in ml_X8_47 (by decide) rfl rfl (Nat.le_of_ble_eq_true rfl) dX8_change_14 ?_
    refine G_if_eq (tgt := 42) dX8_change_17 (by decide) (fun hc2 => ?_) (fun hc2 => ?_)
    · replace h := (if_pos hc2).symm.trans h
      refine G_aload_n dX8_change_42 rfl ?_
      refine G_iconst (v := 1) dX8_change_43 (by decide) ?_
      obtain ⟨q2, hq2, h⟩ := bnd h
      refine G_callVv (T := TX8) (N := 22) (f := 19) (i := 0) (X8_finds_ok hq2) ok_X8_finds ml_X8_130 (by decide) rfl (by decide) (by decide) (by decide) rfl rfl (Nat.le_of_ble_eq_true rfl) dX8_change_44 ?_
      obtain rfl := Option.some.inj h
      exact G_ret dX8_change_47 trivial rfl rfl
    · replace h := (if_neg hc2).symm.trans h
      refine G_iload_n dX8_change_20 rfl ?_
      refine G_i2l dX8_change_21 ?_
      refine G_lconst (v := 0) dX8_change_22 (by decide) ?_
      refine G_iload_n dX8_change_23 rfl ?_
      refine G_if_ne (tgt := 33) dX8_change_24 (by decide) (fun hc3 => ?_) (fun hc3 => ?_)
      · replace h := (if_neg hc3).symm.trans h
        refine G_ldc2 ko_X8_185 dX8_change_33 ?_
        exact X8_change_J36_ok   h
      · replace h := (if_pos hc3).symm.trans h
        refine G_ldc2 ko_X8_173 dX8_change_27 ?_
        refine G_goto (tgt := 36) dX8_change_30 (by decide) ?_
        exact X8_change_J36_ok   h

theorem dX8_moves_0 : decode cX8_moves 0 = .ok (.aload_n 0, 1) := by decide +kernel
theorem dX8_moves_1 : decode cX8_moves 1 = .ok (.iload_n 1, 1) := by decide +kernel
theorem dX8_moves_2 : decode cX8_moves 2 = .ok (.iconst 2, 1) := by decide +kernel
theorem dX8_moves_3 : decode cX8_moves 3 = .ok (.iload_n 2, 1) := by decide +kernel
theorem dX8_moves_4 : decode cX8_moves 4 = .ok (.invokevirtual 149, 3) := by decide +kernel
theorem dX8_moves_7 : decode cX8_moves 7 = .ok (.aload_n 0, 1) := by decide +kernel
theorem dX8_moves_8 : decode cX8_moves 8 = .ok (.iload_n 1, 1) := by decide +kernel
theorem dX8_moves_9 : decode cX8_moves 9 = .ok (.iconst 5, 1) := by decide +kernel
theorem dX8_moves_10 : decode cX8_moves 10 = .ok (.iconst 0, 1) := by decide +kernel
theorem dX8_moves_11 : decode cX8_moves 11 = .ok (.invokevirtual 149, 3) := by decide +kernel
theorem dX8_moves_14 : decode cX8_moves 14 = .ok (.aload_n 0, 1) := by decide +kernel
theorem dX8_moves_15 : decode cX8_moves 15 = .ok (.iload_n 1, 1) := by decide +kernel
theorem dX8_moves_16 : decode cX8_moves 16 = .ok (.iconst 4, 1) := by decide +kernel
theorem dX8_moves_17 : decode cX8_moves 17 = .ok (.aload_n 0, 1) := by decide +kernel
theorem dX8_moves_18 : decode cX8_moves 18 = .ok (.iload_n 1, 1) := by decide +kernel
theorem dX8_moves_19 : decode cX8_moves 19 = .ok (.iconst 4, 1) := by decide +kernel
theorem dX8_moves_20 : decode cX8_moves 20 = .ok (.invokevirtual 53, 3) := by decide +kernel
theorem dX8_moves_23 : decode cX8_moves 23 = .ok (.iconst 2, 1) := by decide +kernel
theorem dX8_moves_24 : decode cX8_moves 24 = .ok (.idiv, 1) := by decide +kernel
theorem dX8_moves_25 : decode cX8_moves 25 = .ok (.invokevirtual 149, 3) := by decide +kernel
theorem dX8_moves_28 : decode cX8_moves 28 = .ok (.aload_n 0, 1) := by decide +kernel
theorem dX8_moves_29 : decode cX8_moves 29 = .ok (.iload_n 1, 1) := by decide +kernel
theorem dX8_moves_30 : decode cX8_moves 30 = .ok (.bipush 6, 2) := by decide +kernel
theorem dX8_moves_32 : decode cX8_moves 32 = .ok (.aload_n 0, 1) := by decide +kernel
theorem dX8_moves_33 : decode cX8_moves 33 = .ok (.iload_n 1, 1) := by decide +kernel
theorem dX8_moves_34 : decode cX8_moves 34 = .ok (.bipush 7, 2) := by decide +kernel
theorem dX8_moves_36 : decode cX8_moves 36 = .ok (.invokevirtual 53, 3) := by decide +kernel
theorem dX8_moves_39 : decode cX8_moves 39 = .ok (.iconst 1, 1) := by decide +kernel
theorem dX8_moves_40 : decode cX8_moves 40 = .ok (.if_icmp .ne 7, 3) := by decide +kernel
theorem dX8_moves_43 : decode cX8_moves 43 = .ok (.iconst 0, 1) := by decide +kernel
theorem dX8_moves_44 : decode cX8_moves 44 = .ok (.goto 10, 3) := by decide +kernel
theorem dX8_moves_47 : decode cX8_moves 47 = .ok (.aload_n 0, 1) := by decide +kernel
theorem dX8_moves_48 : decode cX8_moves 48 = .ok (.iload_n 1, 1) := by decide +kernel
theorem dX8_moves_49 : decode cX8_moves 49 = .ok (.bipush 6, 2) := by decide +kernel
theorem dX8_moves_51 : decode cX8_moves 51 = .ok (.invokevirtual 53, 3) := by decide +kernel
theorem dX8_moves_54 : decode cX8_moves 54 = .ok (.invokevirtual 149, 3) := by decide +kernel
theorem dX8_moves_57 : decode cX8_moves 57 = .ok (.aload_n 0, 1) := by decide +kernel
theorem dX8_moves_58 : decode cX8_moves 58 = .ok (.iload_n 1, 1) := by decide +kernel
theorem dX8_moves_59 : decode cX8_moves 59 = .ok (.bipush 7, 2) := by decide +kernel
theorem dX8_moves_61 : decode cX8_moves 61 = .ok (.iconst 0, 1) := by decide +kernel
theorem dX8_moves_62 : decode cX8_moves 62 = .ok (.invokevirtual 149, 3) := by decide +kernel
theorem dX8_moves_65 : decode cX8_moves 65 = .ok (.return_, 1) := by decide +kernel
def X8_moves_J54 (v1 : Int32) (s0 : Int32) (s1 : Int32) (s2 : Int32) (M : Mem) : Option (Mem) := ((X8_sets s2 s1 s0 M).bind fun q7 => ((X8_sets v1 7 0 q7).bind fun q8 => (some q8)))
set_option maxRecDepth 100000 in
set_option maxHeartbeats 4000000 in
theorem X8_moves_J54_ok  {v1 : Int32} {s0 : Int32} {s1 : Int32} {s2 : Int32} {M N : Mem} {res : Mem} (h : X8_moves_J54 v1 s0 s1 s2 M = some res) : G mt_X8_moves 1 none (N, res) 54 [(0, .inr (.inr (19, 0))), (1, .inl v1)] [.inl s0, .inl s1, .inl s2, .inr (.inr (19, 0))] (N, M) := by
  unfold X8_moves_J54 at h
  obtain ⟨q7, hq7, h⟩ := bnd h
  refine G_callVn (T := TX8) (N := 22) (f := 19) (i := 0) (X8_sets_ok hq7) ok_X8_sets ml_X8_149 (by decide) rfl (by decide) (by decide) (by decide) rfl rfl (Nat.le_of_ble_eq_true rfl) dX8_moves_54 ?_
  refine G_aload_n dX8_moves_57 rfl ?_
  refine G_iload_n dX8_moves_58 rfl ?_
  refine G_bipush (v := 7) dX8_moves_59 (by decide) ?_
  refine G_iconst (v := 0) dX8_moves_61 (by decide) ?_
  obtain ⟨q8, hq8, h⟩ := bnd h
  refine G_callVn (T := TX8) (N := 22) (f := 19) (i := 0) (X8_sets_ok hq8) ok_X8_sets ml_X8_149 (by decide) rfl (by decide) (by decide) (by decide) rfl rfl (Nat.le_of_ble_eq_true rfl) dX8_moves_62 ?_
  obtain rfl := Option.some.inj h
  exact G_ret dX8_moves_65 trivial rfl rfl

def X8_moves (v1 : Int32) (v2 : Int32) (M : Mem) : Option (Mem) := ((X8_sets v1 2 v2 M).bind fun q1 => ((X8_sets v1 5 0 q1).bind fun q2 => ((X8_of v1 4 q2).bind fun q3 => ((X8_sets v1 4 (q3 / 2) q2).bind fun q4 => ((X8_of v1 7 q4).bind fun q5 => (if q5 = 1 then (X8_moves_J54 v1 0 6 v1 q4) else ((X8_of v1 6 q4).bind fun q6 => (X8_moves_J54 v1 q6 6 v1 q4))))))))
set_option maxRecDepth 100000 in
set_option maxHeartbeats 4000000 in
theorem X8_moves_ok  {v1 : Int32} {v2 : Int32} {M N : Mem} {res : Mem} (h : X8_moves v1 v2 M = some res) : Spec mt_X8_moves 1 [.inr (.inr (19, 0)), .inl v1, .inl v2] (N, M) none (N, res) := by
  unfold X8_moves at h
  refine Spec_of_G (by decide) rfl (Nat.le_of_ble_eq_true rfl) ?_
  refine G_sub [(0, .inr (.inr (19, 0))), (1, .inl v1), (2, .inl v2)] [0, 1, 2] rfl ?_
  refine G_aload_n dX8_moves_0 rfl ?_
  refine G_iload_n dX8_moves_1 rfl ?_
  refine G_iconst (v := 2) dX8_moves_2 (by decide) ?_
  refine G_iload_n dX8_moves_3 rfl ?_
  obtain ⟨q1, hq1, h⟩ := bnd h
  refine G_callVn (T := TX8) (N := 22) (f := 19) (i := 0) (X8_sets_ok hq1) ok_X8_sets ml_X8_149 (by decide) rfl (by decide) (by decide) (by decide) rfl rfl (Nat.le_of_ble_eq_true rfl) dX8_moves_4 ?_
  refine G_aload_n dX8_moves_7 rfl ?_
  refine G_iload_n dX8_moves_8 rfl ?_
  refine G_iconst (v := 5) dX8_moves_9 (by decide) ?_
  refine G_iconst (v := 0) dX8_moves_10 (by decide) ?_
  obtain ⟨q2, hq2, h⟩ := bnd h
  refine G_callVn (T := TX8) (N := 22) (f := 19) (i := 0) (X8_sets_ok hq2) ok_X8_sets ml_X8_149 (by decide) rfl (by decide) (by decide) (by decide) rfl rfl (Nat.le_of_ble_eq_true rfl) dX8_moves_11 ?_
  refine G_aload_n dX8_moves_14 rfl ?_
  refine G_iload_n dX8_moves_15 rfl ?_
  refine G_iconst (v := 4) dX8_moves_16 (by decide) ?_
  refine G_aload_n dX8_moves_17 rfl ?_
  refine G_iload_n dX8_moves_18 rfl ?_
  refine G_iconst (v := 4) dX8_moves_19 (by decide) ?_
  obtain ⟨q3, hq3, h⟩ := bnd h
  refine G_callVv (T := TX8) (N := 22) (f := 19) (i := 0) (X8_of_ok hq3) ok_X8_of ml_X8_53 (by decide) rfl (by decide) (by decide) (by decide) rfl rfl (Nat.le_of_ble_eq_true rfl) dX8_moves_20 ?_
  refine G_iconst (v := 2) dX8_moves_23 (by decide) ?_
  refine G_idiv (by decide) dX8_moves_24 ?_
  obtain ⟨q4, hq4, h⟩ := bnd h
  refine G_callVn (T := TX8) (N := 22) (f := 19) (i := 0) (X8_sets_ok hq4) ok_X8_sets ml_X8_149 (by decide) rfl (by decide) (by decide) (by decide) rfl rfl (Nat.le_of_ble_eq_true rfl) dX8_moves_25 ?_
  refine G_aload_n dX8_moves_28 rfl ?_
  refine G_iload_n dX8_moves_29 rfl ?_
  refine G_bipush (v := 6) dX8_moves_30 (by decide) ?_
  refine G_aload_n dX8_moves_32 rfl ?_
  refine G_iload_n dX8_moves_33 rfl ?_
  refine G_bipush (v := 7) dX8_moves_34 (by decide) ?_
  obtain ⟨q5, hq5, h⟩ := bnd h
  refine G_callVv (T := TX8) (N := 22) (f := 19) (i := 0) (X8_of_ok hq5) ok_X8_of ml_X8_53 (by decide) rfl (by decide) (by decide) (by decide) rfl rfl (Nat.le_of_ble_eq_true rfl) dX8_moves_36 ?_
  refine G_iconst (v := 1) dX8_moves_39 (by decide) ?_
  refine G_icmp_ne (tgt := 47) dX8_moves_40 (by decide) (fun hc1 => ?_) (fun hc1 => ?_)
  · replace h := (if_neg hc1).symm.trans h
    refine G_aload_n dX8_moves_47 rfl ?_
    refine G_iload_n dX8_moves_48 rfl ?_
    refine G_bipush (v := 6) dX8_moves_49 (by decide) ?_
    obtain ⟨q6, hq6, h⟩ := bnd h
    refine G_callVv (T := TX8) (N := 22) (f := 19) (i := 0) (X8_of_ok hq6) ok_X8_of ml_X8_53 (by decide) rfl (by decide) (by decide) (by decide) rfl rfl (Nat.le_of_ble_eq_true rfl) dX8_moves_51 ?_
    refine G_sub [(0, .inr (.inr (19, 0))), (1, .inl v1)] [0, 1] rfl ?_
    exact X8_moves_J54_ok   h
  · replace h := (if_pos hc1).symm.trans h
    refine G_iconst (v := 0) dX8_moves_43 (by decide) ?_
    refine G_goto (tgt := 54) dX8_moves_44 (by decide) ?_
    refine G_sub [(0, .inr (.inr (19, 0))), (1, .inl v1)] [0, 1] rfl ?_
    exact X8_moves_J54_ok   h

theorem dX8_shift_0 : decode cX8_shift 0 = .ok (.aload_n 0, 1) := by decide +kernel
theorem dX8_shift_1 : decode cX8_shift 1 = .ok (.iload_n 1, 1) := by decide +kernel
theorem dX8_shift_2 : decode cX8_shift 2 = .ok (.invokevirtual 182, 3) := by decide +kernel
theorem dX8_shift_5 : decode cX8_shift 5 = .ok (.ifCond .eq 10, 3) := by decide +kernel
theorem dX8_shift_8 : decode cX8_shift 8 = .ok (.iload_n 2, 1) := by decide +kernel
theorem dX8_shift_9 : decode cX8_shift 9 = .ok (.invokestatic 170, 3) := by decide +kernel
theorem dX8_shift_12 : decode cX8_shift 12 = .ok (.ifCond .ne 9, 3) := by decide +kernel
theorem dX8_shift_15 : decode cX8_shift 15 = .ok (.aload_n 0, 1) := by decide +kernel
theorem dX8_shift_16 : decode cX8_shift 16 = .ok (.iconst 1, 1) := by decide +kernel
theorem dX8_shift_17 : decode cX8_shift 17 = .ok (.invokevirtual 130, 3) := by decide +kernel
theorem dX8_shift_20 : decode cX8_shift 20 = .ok (.ireturn, 1) := by decide +kernel
theorem dX8_shift_21 : decode cX8_shift 21 = .ok (.aload_n 0, 1) := by decide +kernel
theorem dX8_shift_22 : decode cX8_shift 22 = .ok (.iload_n 1, 1) := by decide +kernel
theorem dX8_shift_23 : decode cX8_shift 23 = .ok (.iconst 2, 1) := by decide +kernel
theorem dX8_shift_24 : decode cX8_shift 24 = .ok (.invokevirtual 53, 3) := by decide +kernel
theorem dX8_shift_27 : decode cX8_shift 27 = .ok (.istore_n 3, 1) := by decide +kernel
theorem dX8_shift_28 : decode cX8_shift 28 = .ok (.iload_n 3, 1) := by decide +kernel
theorem dX8_shift_29 : decode cX8_shift 29 = .ok (.ifCond .lt 8, 3) := by decide +kernel
theorem dX8_shift_32 : decode cX8_shift 32 = .ok (.iload_n 3, 1) := by decide +kernel
theorem dX8_shift_33 : decode cX8_shift 33 = .ok (.iload_n 2, 1) := by decide +kernel
theorem dX8_shift_34 : decode cX8_shift 34 = .ok (.if_icmp .ne 9, 3) := by decide +kernel
theorem dX8_shift_37 : decode cX8_shift 37 = .ok (.aload_n 0, 1) := by decide +kernel
theorem dX8_shift_38 : decode cX8_shift 38 = .ok (.iconst 3, 1) := by decide +kernel
theorem dX8_shift_39 : decode cX8_shift 39 = .ok (.invokevirtual 130, 3) := by decide +kernel
theorem dX8_shift_42 : decode cX8_shift 42 = .ok (.ireturn, 1) := by decide +kernel
theorem dX8_shift_43 : decode cX8_shift 43 = .ok (.aload_n 0, 1) := by decide +kernel
theorem dX8_shift_44 : decode cX8_shift 44 = .ok (.iload_n 1, 1) := by decide +kernel
theorem dX8_shift_45 : decode cX8_shift 45 = .ok (.iload_n 2, 1) := by decide +kernel
theorem dX8_shift_46 : decode cX8_shift 46 = .ok (.invokevirtual 187, 3) := by decide +kernel
theorem dX8_shift_49 : decode cX8_shift 49 = .ok (.iload_n 3, 1) := by decide +kernel
theorem dX8_shift_50 : decode cX8_shift 50 = .ok (.ireturn, 1) := by decide +kernel
def X8_shift (v1 : Int32) (v2 : Int32) (M : Mem) : Option (Int32 × Mem) := (if (X8_isPot v1 M) = 0 then ((X8_finds 1 M).bind fun q1 => (some (q1.1, q1.2))) else (if (X8_isHouse v2) = 0 then ((X8_finds 1 M).bind fun q6 => (some (q6.1, q6.2))) else ((X8_of v1 2 M).bind fun q2 => (if q2 < 0 then ((X8_finds 3 M).bind fun q3 => (some (q3.1, q3.2))) else (if q2 = v2 then ((X8_finds 3 M).bind fun q5 => (some (q5.1, q5.2))) else ((X8_moves v1 v2 M).bind fun q4 => (some (q2, q4))))))))
set_option maxRecDepth 100000 in
set_option maxHeartbeats 4000000 in
theorem X8_shift_ok  {v1 : Int32} {v2 : Int32} {M N : Mem} {res : Int32 × Mem} (h : X8_shift v1 v2 M = some res) : Spec mt_X8_shift 2 [.inr (.inr (19, 0)), .inl v1, .inl v2] (N, M) (some (.inl res.1)) (N, res.2) := by
  unfold X8_shift at h
  refine Spec_of_G (by decide) rfl (Nat.le_of_ble_eq_true rfl) ?_
  refine G_sub [(0, .inr (.inr (19, 0))), (1, .inl v1), (2, .inl v2)] [0, 1, 2] rfl ?_
  refine G_aload_n dX8_shift_0 rfl ?_
  refine G_iload_n dX8_shift_1 rfl ?_
  refine G_callVv (T := TX8) (N := 22) (f := 19) (i := 0) (X8_isPot_ok rfl) ok_X8_isPot ml_X8_182 (by decide) rfl (by decide) (by decide) (by decide) rfl rfl (Nat.le_of_ble_eq_true rfl) dX8_shift_2 ?_
  refine G_if_eq (tgt := 15) dX8_shift_5 (by decide) (fun hc1 => ?_) (fun hc1 => ?_)
  · replace h := (if_pos hc1).symm.trans h
    refine G_aload_n dX8_shift_15 rfl ?_
    refine G_iconst (v := 1) dX8_shift_16 (by decide) ?_
    obtain ⟨q1, hq1, h⟩ := bnd h
    refine G_callVv (T := TX8) (N := 22) (f := 19) (i := 0) (X8_finds_ok hq1) ok_X8_finds ml_X8_130 (by decide) rfl (by decide) (by decide) (by decide) rfl rfl (Nat.le_of_ble_eq_true rfl) dX8_shift_17 ?_
    obtain rfl := Option.some.inj h
    exact G_ret dX8_shift_20 trivial rfl rfl
  · replace h := (if_neg hc1).symm.trans h
    refine G_iload_n dX8_shift_8 rfl ?_
    refine G_callSv  (X8_isHouse_ok rfl) ok_X8_isHouse ml_X8_170 (by decide) rfl rfl (Nat.le_of_ble_eq_true rfl) dX8_shift_9 ?_
    refine G_if_ne (tgt := 21) dX8_shift_12 (by decide) (fun hc2 => ?_) (fun hc2 => ?_)
    · replace h := (if_neg hc2).symm.trans h
      refine G_aload_n dX8_shift_21 rfl ?_
      refine G_iload_n dX8_shift_22 rfl ?_
      refine G_iconst (v := 2) dX8_shift_23 (by decide) ?_
      obtain ⟨q2, hq2, h⟩ := bnd h
      refine G_callVv (T := TX8) (N := 22) (f := 19) (i := 0) (X8_of_ok hq2) ok_X8_of ml_X8_53 (by decide) rfl (by decide) (by decide) (by decide) rfl rfl (Nat.le_of_ble_eq_true rfl) dX8_shift_24 ?_
      refine G_istore_n (L2 := [(3, .inl q2), (0, .inr (.inr (19, 0))), (1, .inl v1), (2, .inl v2)]) dX8_shift_27 (by decide) rfl ?_
      refine G_iload_n dX8_shift_28 rfl ?_
      refine G_if_lt (tgt := 37) dX8_shift_29 (by decide) (fun hc3 => ?_) (fun hc3 => ?_)
      · replace h := (if_pos hc3).symm.trans h
        refine G_aload_n dX8_shift_37 rfl ?_
        refine G_iconst (v := 3) dX8_shift_38 (by decide) ?_
        obtain ⟨q3, hq3, h⟩ := bnd h
        refine G_callVv (T := TX8) (N := 22) (f := 19) (i := 0) (X8_finds_ok hq3) ok_X8_finds ml_X8_130 (by decide) rfl (by decide) (by decide) (by decide) rfl rfl (Nat.le_of_ble_eq_true rfl) dX8_shift_39 ?_
        obtain rfl := Option.some.inj h
        exact G_ret dX8_shift_42 trivial rfl rfl
      · replace h := (if_neg hc3).symm.trans h
        refine G_iload_n dX8_shift_32 rfl ?_
        refine G_iload_n dX8_shift_33 rfl ?_
        refine G_icmp_ne (tgt := 43) dX8_shift_34 (by decide) (fun hc4 => ?_) (fun hc4 => ?_)
        · replace h := (if_neg hc4).symm.trans h
          refine G_aload_n dX8_shift_43 rfl ?_
          refine G_iload_n dX8_shift_44 rfl ?_
          refine G_iload_n dX8_shift_45 rfl ?_
          obtain ⟨q4, hq4, h⟩ := bnd h
          refine G_callVn (T := TX8) (N := 22) (f := 19) (i := 0) (X8_moves_ok hq4) ok_X8_moves ml_X8_187 (by decide) rfl (by decide) (by decide) (by decide) rfl rfl (Nat.le_of_ble_eq_true rfl) dX8_shift_46 ?_
          refine G_iload_n dX8_shift_49 rfl ?_
          obtain rfl := Option.some.inj h
          exact G_ret dX8_shift_50 trivial rfl rfl
        · replace h := (if_pos hc4).symm.trans h
          refine G_aload_n dX8_shift_37 rfl ?_
          refine G_iconst (v := 3) dX8_shift_38 (by decide) ?_
          obtain ⟨q5, hq5, h⟩ := bnd h
          refine G_callVv (T := TX8) (N := 22) (f := 19) (i := 0) (X8_finds_ok hq5) ok_X8_finds ml_X8_130 (by decide) rfl (by decide) (by decide) (by decide) rfl rfl (Nat.le_of_ble_eq_true rfl) dX8_shift_39 ?_
          obtain rfl := Option.some.inj h
          exact G_ret dX8_shift_42 trivial rfl rfl
    · replace h := (if_pos hc2).symm.trans h
      refine G_aload_n dX8_shift_15 rfl ?_
      refine G_iconst (v := 1) dX8_shift_16 (by decide) ?_
      obtain ⟨q6, hq6, h⟩ := bnd h
      refine G_callVv (T := TX8) (N := 22) (f := 19) (i := 0) (X8_finds_ok hq6) ok_X8_finds ml_X8_130 (by decide) rfl (by decide) (by decide) (by decide) rfl rfl (Nat.le_of_ble_eq_true rfl) dX8_shift_17 ?_
      obtain rfl := Option.some.inj h
      exact G_ret dX8_shift_20 trivial rfl rfl

theorem dX8_stick_0 : decode cX8_stick 0 = .ok (.aload_n 0, 1) := by decide +kernel
theorem dX8_stick_1 : decode cX8_stick 1 = .ok (.iload_n 1, 1) := by decide +kernel
theorem dX8_stick_2 : decode cX8_stick 2 = .ok (.invokevirtual 182, 3) := by decide +kernel
theorem dX8_stick_5 : decode cX8_stick 5 = .ok (.ifCond .ne 9, 3) := by decide +kernel
theorem dX8_stick_8 : decode cX8_stick 8 = .ok (.aload_n 0, 1) := by decide +kernel
theorem dX8_stick_9 : decode cX8_stick 9 = .ok (.iconst 1, 1) := by decide +kernel
theorem dX8_stick_10 : decode cX8_stick 10 = .ok (.invokevirtual 130, 3) := by decide +kernel
theorem dX8_stick_13 : decode cX8_stick 13 = .ok (.ireturn, 1) := by decide +kernel
theorem dX8_stick_14 : decode cX8_stick 14 = .ok (.aload_n 0, 1) := by decide +kernel
theorem dX8_stick_15 : decode cX8_stick 15 = .ok (.iload_n 1, 1) := by decide +kernel
theorem dX8_stick_16 : decode cX8_stick 16 = .ok (.invokevirtual 164, 3) := by decide +kernel
theorem dX8_stick_19 : decode cX8_stick 19 = .ok (.ifCond .ne 13, 3) := by decide +kernel
theorem dX8_stick_22 : decode cX8_stick 22 = .ok (.aload_n 0, 1) := by decide +kernel
theorem dX8_stick_23 : decode cX8_stick 23 = .ok (.iload_n 1, 1) := by decide +kernel
theorem dX8_stick_24 : decode cX8_stick 24 = .ok (.bipush 6, 2) := by decide +kernel
theorem dX8_stick_26 : decode cX8_stick 26 = .ok (.invokevirtual 53, 3) := by decide +kernel
theorem dX8_stick_29 : decode cX8_stick 29 = .ok (.ifCond .le 9, 3) := by decide +kernel
theorem dX8_stick_32 : decode cX8_stick 32 = .ok (.aload_n 0, 1) := by decide +kernel
theorem dX8_stick_33 : decode cX8_stick 33 = .ok (.iconst 3, 1) := by decide +kernel
theorem dX8_stick_34 : decode cX8_stick 34 = .ok (.invokevirtual 130, 3) := by decide +kernel
theorem dX8_stick_37 : decode cX8_stick 37 = .ok (.ireturn, 1) := by decide +kernel
theorem dX8_stick_38 : decode cX8_stick 38 = .ok (.aload_n 0, 1) := by decide +kernel
theorem dX8_stick_39 : decode cX8_stick 39 = .ok (.iload_n 1, 1) := by decide +kernel
theorem dX8_stick_40 : decode cX8_stick 40 = .ok (.bipush 6, 2) := by decide +kernel
theorem dX8_stick_42 : decode cX8_stick 42 = .ok (.iconst 1, 1) := by decide +kernel
theorem dX8_stick_43 : decode cX8_stick 43 = .ok (.invokevirtual 149, 3) := by decide +kernel
theorem dX8_stick_46 : decode cX8_stick 46 = .ok (.aload_n 0, 1) := by decide +kernel
theorem dX8_stick_47 : decode cX8_stick 47 = .ok (.iload_n 1, 1) := by decide +kernel
theorem dX8_stick_48 : decode cX8_stick 48 = .ok (.bipush 7, 2) := by decide +kernel
theorem dX8_stick_50 : decode cX8_stick 50 = .ok (.iconst 1, 1) := by decide +kernel
theorem dX8_stick_51 : decode cX8_stick 51 = .ok (.invokevirtual 149, 3) := by decide +kernel
theorem dX8_stick_54 : decode cX8_stick 54 = .ok (.aload_n 0, 1) := by decide +kernel
theorem dX8_stick_55 : decode cX8_stick 55 = .ok (.iload_n 1, 1) := by decide +kernel
theorem dX8_stick_56 : decode cX8_stick 56 = .ok (.iconst 4, 1) := by decide +kernel
theorem dX8_stick_57 : decode cX8_stick 57 = .ok (.invokevirtual 53, 3) := by decide +kernel
theorem dX8_stick_60 : decode cX8_stick 60 = .ok (.ireturn, 1) := by decide +kernel
def X8_stick (v1 : Int32) (M : Mem) : Option (Int32 × Mem) := (if (X8_isPot v1 M) = 0 then ((X8_finds 1 M).bind fun q8 => (some (q8.1, q8.2))) else ((X8_isBroken v1 M).bind fun q1 => (if q1 = 0 then ((X8_of v1 6 M).bind fun q3 => (if 0 < q3 then ((X8_finds 3 M).bind fun q7 => (some (q7.1, q7.2))) else ((X8_sets v1 6 1 M).bind fun q4 => ((X8_sets v1 7 1 q4).bind fun q5 => ((X8_of v1 4 q5).bind fun q6 => (some (q6, q5))))))) else ((X8_finds 3 M).bind fun q2 => (some (q2.1, q2.2))))))
set_option maxRecDepth 100000 in
set_option maxHeartbeats 4000000 in
theorem X8_stick_ok  {v1 : Int32} {M N : Mem} {res : Int32 × Mem} (h : X8_stick v1 M = some res) : Spec mt_X8_stick 2 [.inr (.inr (19, 0)), .inl v1] (N, M) (some (.inl res.1)) (N, res.2) := by
  unfold X8_stick at h
  refine Spec_of_G (by decide) rfl (Nat.le_of_ble_eq_true rfl) ?_
  refine G_sub [(0, .inr (.inr (19, 0))), (1, .inl v1)] [0, 1] rfl ?_
  refine G_aload_n dX8_stick_0 rfl ?_
  refine G_iload_n dX8_stick_1 rfl ?_
  refine G_callVv (T := TX8) (N := 22) (f := 19) (i := 0) (X8_isPot_ok rfl) ok_X8_isPot ml_X8_182 (by decide) rfl (by decide) (by decide) (by decide) rfl rfl (Nat.le_of_ble_eq_true rfl) dX8_stick_2 ?_
  refine G_if_ne (tgt := 14) dX8_stick_5 (by decide) (fun hc1 => ?_) (fun hc1 => ?_)
  · replace h := (if_neg hc1).symm.trans h
    refine G_aload_n dX8_stick_14 rfl ?_
    refine G_iload_n dX8_stick_15 rfl ?_
    obtain ⟨q1, hq1, h⟩ := bnd h
    refine G_callVv (T := TX8) (N := 22) (f := 19) (i := 0) (X8_isBroken_ok hq1) ok_X8_isBroken ml_X8_164 (by decide) rfl (by decide) (by decide) (by decide) rfl rfl (Nat.le_of_ble_eq_true rfl) dX8_stick_16 ?_
    refine G_if_ne (tgt := 32) dX8_stick_19 (by decide) (fun hc2 => ?_) (fun hc2 => ?_)
    · replace h := (if_neg hc2).symm.trans h
      refine G_aload_n dX8_stick_32 rfl ?_
      refine G_iconst (v := 3) dX8_stick_33 (by decide) ?_
      obtain ⟨q2, hq2, h⟩ := bnd h
      refine G_callVv (T := TX8) (N := 22) (f := 19) (i := 0) (X8_finds_ok hq2) ok_X8_finds ml_X8_130 (by decide) rfl (by decide) (by decide) (by decide) rfl rfl (Nat.le_of_ble_eq_true rfl) dX8_stick_34 ?_
      obtain rfl := Option.some.inj h
      exact G_ret dX8_stick_37 trivial rfl rfl
    · replace h := (if_pos hc2).symm.trans h
      refine G_aload_n dX8_stick_22 rfl ?_
      refine G_iload_n dX8_stick_23 rfl ?_
      refine G_bipush (v := 6) dX8_stick_24 (by decide) ?_
      obtain ⟨q3, hq3, h⟩ := bnd h
      refine G_callVv (T := TX8) (N := 22) (f := 19) (i := 0) (X8_of_ok hq3) ok_X8_of ml_X8_53 (by decide) rfl (by decide) (by decide) (by decide) rfl rfl (Nat.le_of_ble_eq_true rfl) dX8_stick_26 ?_
      refine G_if_le (tgt := 38) dX8_stick_29 (by decide) (fun hc3 => ?_) (fun hc3 => ?_)
      · replace h := (if_neg hc3).symm.trans h
        refine G_aload_n dX8_stick_38 rfl ?_
        refine G_iload_n dX8_stick_39 rfl ?_
        refine G_bipush (v := 6) dX8_stick_40 (by decide) ?_
        refine G_iconst (v := 1) dX8_stick_42 (by decide) ?_
        obtain ⟨q4, hq4, h⟩ := bnd h
        refine G_callVn (T := TX8) (N := 22) (f := 19) (i := 0) (X8_sets_ok hq4) ok_X8_sets ml_X8_149 (by decide) rfl (by decide) (by decide) (by decide) rfl rfl (Nat.le_of_ble_eq_true rfl) dX8_stick_43 ?_
        refine G_aload_n dX8_stick_46 rfl ?_
        refine G_iload_n dX8_stick_47 rfl ?_
        refine G_bipush (v := 7) dX8_stick_48 (by decide) ?_
        refine G_iconst (v := 1) dX8_stick_50 (by decide) ?_
        obtain ⟨q5, hq5, h⟩ := bnd h
        refine G_callVn (T := TX8) (N := 22) (f := 19) (i := 0) (X8_sets_ok hq5) ok_X8_sets ml_X8_149 (by decide) rfl (by decide) (by decide) (by decide) rfl rfl (Nat.le_of_ble_eq_true rfl) dX8_stick_51 ?_
        refine G_aload_n dX8_stick_54 rfl ?_
        refine G_iload_n dX8_stick_55 rfl ?_
        refine G_iconst (v := 4) dX8_stick_56 (by decide) ?_
        obtain ⟨q6, hq6, h⟩ := bnd h
        refine G_callVv (T := TX8) (N := 22) (f := 19) (i := 0) (X8_of_ok hq6) ok_X8_of ml_X8_53 (by decide) rfl (by decide) (by decide) (by decide) rfl rfl (Nat.le_of_ble_eq_true rfl) dX8_stick_57 ?_
        obtain rfl := Option.some.inj h
        exact G_ret dX8_stick_60 trivial rfl rfl
      · replace h := (if_pos hc3).symm.trans h
        refine G_aload_n dX8_stick_32 rfl ?_
        refine G_iconst (v := 3) dX8_stick_33 (by decide) ?_
        obtain ⟨q7, hq7, h⟩ := bnd h
        refine G_callVv (T := TX8) (N := 22) (f := 19) (i := 0) (X8_finds_ok hq7) ok_X8_finds ml_X8_130 (by decide) rfl (by decide) (by decide) (by decide) rfl rfl (Nat.le_of_ble_eq_true rfl) dX8_stick_34 ?_
        obtain rfl := Option.some.inj h
        exact G_ret dX8_stick_37 trivial rfl rfl
  · replace h := (if_pos hc1).symm.trans h
    refine G_aload_n dX8_stick_8 rfl ?_
    refine G_iconst (v := 1) dX8_stick_9 (by decide) ?_
    obtain ⟨q8, hq8, h⟩ := bnd h
    refine G_callVv (T := TX8) (N := 22) (f := 19) (i := 0) (X8_finds_ok hq8) ok_X8_finds ml_X8_130 (by decide) rfl (by decide) (by decide) (by decide) rfl rfl (Nat.le_of_ble_eq_true rfl) dX8_stick_10 ?_
    obtain rfl := Option.some.inj h
    exact G_ret dX8_stick_13 trivial rfl rfl

theorem dX8_become_0 : decode cX8_become 0 = .ok (.aload_n 0, 1) := by decide +kernel
theorem dX8_become_1 : decode cX8_become 1 = .ok (.iload_n 1, 1) := by decide +kernel
theorem dX8_become_2 : decode cX8_become 2 = .ok (.invokevirtual 182, 3) := by decide +kernel
theorem dX8_become_5 : decode cX8_become 5 = .ok (.ifCond .eq 15, 3) := by decide +kernel
theorem dX8_become_8 : decode cX8_become 8 = .ok (.iload_n 2, 1) := by decide +kernel
theorem dX8_become_9 : decode cX8_become 9 = .ok (.i2l, 1) := by decide +kernel
theorem dX8_become_10 : decode cX8_become 10 = .ok (.lconst 0, 1) := by decide +kernel
theorem dX8_become_11 : decode cX8_become 11 = .ok (.ldc2_w 180, 3) := by decide +kernel
theorem dX8_become_14 : decode cX8_become 14 = .ok (.invokestatic 47, 3) := by decide +kernel
theorem dX8_become_17 : decode cX8_become 17 = .ok (.ifCond .ne 9, 3) := by decide +kernel
theorem dX8_become_20 : decode cX8_become 20 = .ok (.aload_n 0, 1) := by decide +kernel
theorem dX8_become_21 : decode cX8_become 21 = .ok (.iconst 1, 1) := by decide +kernel
theorem dX8_become_22 : decode cX8_become 22 = .ok (.invokevirtual 130, 3) := by decide +kernel
theorem dX8_become_25 : decode cX8_become 25 = .ok (.ireturn, 1) := by decide +kernel
theorem dX8_become_26 : decode cX8_become 26 = .ok (.aload_n 0, 1) := by decide +kernel
theorem dX8_become_27 : decode cX8_become 27 = .ok (.iload_n 1, 1) := by decide +kernel
theorem dX8_become_28 : decode cX8_become 28 = .ok (.iconst 0, 1) := by decide +kernel
theorem dX8_become_29 : decode cX8_become 29 = .ok (.invokevirtual 53, 3) := by decide +kernel
theorem dX8_become_32 : decode cX8_become 32 = .ok (.istore_n 3, 1) := by decide +kernel
theorem dX8_become_33 : decode cX8_become 33 = .ok (.aload_n 0, 1) := by decide +kernel
theorem dX8_become_34 : decode cX8_become 34 = .ok (.iload_n 1, 1) := by decide +kernel
theorem dX8_become_35 : decode cX8_become 35 = .ok (.iconst 0, 1) := by decide +kernel
theorem dX8_become_36 : decode cX8_become 36 = .ok (.iload_n 2, 1) := by decide +kernel
theorem dX8_become_37 : decode cX8_become 37 = .ok (.bipush 10, 2) := by decide +kernel
theorem dX8_become_39 : decode cX8_become 39 = .ok (.idiv, 1) := by decide +kernel
theorem dX8_become_40 : decode cX8_become 40 = .ok (.invokevirtual 149, 3) := by decide +kernel
theorem dX8_become_43 : decode cX8_become 43 = .ok (.aload_n 0, 1) := by decide +kernel
theorem dX8_become_44 : decode cX8_become 44 = .ok (.iload_n 1, 1) := by decide +kernel
theorem dX8_become_45 : decode cX8_become 45 = .ok (.iconst 1, 1) := by decide +kernel
theorem dX8_become_46 : decode cX8_become 46 = .ok (.iload_n 2, 1) := by decide +kernel
theorem dX8_become_47 : decode cX8_become 47 = .ok (.bipush 10, 2) := by decide +kernel
theorem dX8_become_49 : decode cX8_become 49 = .ok (.irem, 1) := by decide +kernel
theorem dX8_become_50 : decode cX8_become 50 = .ok (.invokevirtual 149, 3) := by decide +kernel
theorem dX8_become_53 : decode cX8_become 53 = .ok (.iload_n 3, 1) := by decide +kernel
theorem dX8_become_54 : decode cX8_become 54 = .ok (.ireturn, 1) := by decide +kernel
def X8_become (v1 : Int32) (v2 : Int32) (M : Mem) : Option (Int32 × Mem) := (if (X8_isPot v1 M) = 0 then ((X8_finds 1 M).bind fun q1 => (some (q1.1, q1.2))) else (if (X8_in (v2.toInt64) (0 : Int64) (69 : Int64)) = 0 then ((X8_finds 1 M).bind fun q5 => (some (q5.1, q5.2))) else ((X8_of v1 0 M).bind fun q2 => ((X8_sets v1 0 (v2 / 10) M).bind fun q3 => ((X8_sets v1 1 (jrem v2 10) q3).bind fun q4 => (some (q2, q4)))))))
set_option maxRecDepth 100000 in
set_option maxHeartbeats 4000000 in
theorem X8_become_ok  {v1 : Int32} {v2 : Int32} {M N : Mem} {res : Int32 × Mem} (h : X8_become v1 v2 M = some res) : Spec mt_X8_become 2 [.inr (.inr (19, 0)), .inl v1, .inl v2] (N, M) (some (.inl res.1)) (N, res.2) := by
  unfold X8_become at h
  refine Spec_of_G (by decide) rfl (Nat.le_of_ble_eq_true rfl) ?_
  refine G_sub [(0, .inr (.inr (19, 0))), (1, .inl v1), (2, .inl v2)] [0, 1, 2] rfl ?_
  refine G_aload_n dX8_become_0 rfl ?_
  refine G_iload_n dX8_become_1 rfl ?_
  refine G_callVv (T := TX8) (N := 22) (f := 19) (i := 0) (X8_isPot_ok rfl) ok_X8_isPot ml_X8_182 (by decide) rfl (by decide) (by decide) (by decide) rfl rfl (Nat.le_of_ble_eq_true rfl) dX8_become_2 ?_
  refine G_if_eq (tgt := 20) dX8_become_5 (by decide) (fun hc1 => ?_) (fun hc1 => ?_)
  · replace h := (if_pos hc1).symm.trans h
    refine G_aload_n dX8_become_20 rfl ?_
    refine G_iconst (v := 1) dX8_become_21 (by decide) ?_
    obtain ⟨q1, hq1, h⟩ := bnd h
    refine G_callVv (T := TX8) (N := 22) (f := 19) (i := 0) (X8_finds_ok hq1) ok_X8_finds ml_X8_130 (by decide) rfl (by decide) (by decide) (by decide) rfl rfl (Nat.le_of_ble_eq_true rfl) dX8_become_22 ?_
    obtain rfl := Option.some.inj h
    exact G_ret dX8_become_25 trivial rfl rfl
  · replace h := (if_neg hc1).symm.trans h
    refine G_iload_n dX8_become_8 rfl ?_
    refine G_i2l dX8_become_9 ?_
    refine G_lconst (v := 0) dX8_become_10 (by decide) ?_
    refine G_ldc2 ko_X8_180 dX8_become_11 ?_
    refine G_callSv  (X8_in_ok rfl) ok_X8_in ml_X8_47 (by decide) rfl rfl (Nat.le_of_ble_eq_true rfl) dX8_become_14 ?_
    refine G_if_ne (tgt := 26) dX8_become_17 (by decide) (fun hc2 => ?_) (fun hc2 => ?_)
    · replace h := (if_neg hc2).symm.trans h
      refine G_aload_n dX8_become_26 rfl ?_
      refine G_iload_n dX8_become_27 rfl ?_
      refine G_iconst (v := 0) dX8_become_28 (by decide) ?_
      obtain ⟨q2, hq2, h⟩ := bnd h
      refine G_callVv (T := TX8) (N := 22) (f := 19) (i := 0) (X8_of_ok hq2) ok_X8_of ml_X8_53 (by decide) rfl (by decide) (by decide) (by decide) rfl rfl (Nat.le_of_ble_eq_true rfl) dX8_become_29 ?_
      refine G_istore_n (L2 := [(3, .inl q2), (0, .inr (.inr (19, 0))), (1, .inl v1), (2, .inl v2)]) dX8_become_32 (by decide) rfl ?_
      refine G_aload_n dX8_become_33 rfl ?_
      refine G_iload_n dX8_become_34 rfl ?_
      refine G_iconst (v := 0) dX8_become_35 (by decide) ?_
      refine G_iload_n dX8_become_36 rfl ?_
      refine G_bipush (v := 10) dX8_become_37 (by decide) ?_
      refine G_idiv (by decide) dX8_become_39 ?_
      obtain ⟨q3, hq3, h⟩ := bnd h
      refine G_callVn (T := TX8) (N := 22) (f := 19) (i := 0) (X8_sets_ok hq3) ok_X8_sets ml_X8_149 (by decide) rfl (by decide) (by decide) (by decide) rfl rfl (Nat.le_of_ble_eq_true rfl) dX8_become_40 ?_
      refine G_aload_n dX8_become_43 rfl ?_
      refine G_iload_n dX8_become_44 rfl ?_
      refine G_iconst (v := 1) dX8_become_45 (by decide) ?_
      refine G_iload_n dX8_become_46 rfl ?_
      refine G_bipush (v := 10) dX8_become_47 (by decide) ?_
      refine G_irem (by decide) dX8_become_49 ?_
      obtain ⟨q4, hq4, h⟩ := bnd h
      refine G_callVn (T := TX8) (N := 22) (f := 19) (i := 0) (X8_sets_ok hq4) ok_X8_sets ml_X8_149 (by decide) rfl (by decide) (by decide) (by decide) rfl rfl (Nat.le_of_ble_eq_true rfl) dX8_become_50 ?_
      refine G_iload_n dX8_become_53 rfl ?_
      obtain rfl := Option.some.inj h
      exact G_ret dX8_become_54 trivial rfl rfl
    · replace h := (if_pos hc2).symm.trans h
      refine G_aload_n dX8_become_20 rfl ?_
      refine G_iconst (v := 1) dX8_become_21 (by decide) ?_
      obtain ⟨q5, hq5, h⟩ := bnd h
      refine G_callVv (T := TX8) (N := 22) (f := 19) (i := 0) (X8_finds_ok hq5) ok_X8_finds ml_X8_130 (by decide) rfl (by decide) (by decide) (by decide) rfl rfl (Nat.le_of_ble_eq_true rfl) dX8_become_22 ?_
      obtain rfl := Option.some.inj h
      exact G_ret dX8_become_25 trivial rfl rfl

theorem dX8_above_0 : decode cX8_above 0 = .ok (.iload_n 0, 1) := by decide +kernel
theorem dX8_above_1 : decode cX8_above 1 = .ok (.iconst 3, 1) := by decide +kernel
theorem dX8_above_2 : decode cX8_above 2 = .ok (.if_icmp .le 9, 3) := by decide +kernel
theorem dX8_above_5 : decode cX8_above 5 = .ok (.iload_n 0, 1) := by decide +kernel
theorem dX8_above_6 : decode cX8_above 6 = .ok (.iconst 3, 1) := by decide +kernel
theorem dX8_above_7 : decode cX8_above 7 = .ok (.isub, 1) := by decide +kernel
theorem dX8_above_8 : decode cX8_above 8 = .ok (.goto 4, 3) := by decide +kernel
theorem dX8_above_11 : decode cX8_above 11 = .ok (.iconst 0, 1) := by decide +kernel
theorem dX8_above_12 : decode cX8_above 12 = .ok (.ireturn, 1) := by decide +kernel
def X8_above (v0 : Int32) : Int32 := (if 3 < v0 then (v0 - 3) else 0)
set_option maxRecDepth 100000 in
set_option maxHeartbeats 4000000 in
theorem X8_above_ok  {v0 : Int32} {MM0 : MM} {res : Int32} (h : X8_above v0 = res) : Spec mt_X8_above 0 [.inl v0] MM0 (some (.inl res)) MM0 := by
  unfold X8_above at h
  refine Spec_of_G (by decide) rfl (Nat.le_of_ble_eq_true rfl) ?_
  refine G_sub [(0, .inl v0)] [0] rfl ?_
  refine G_iload_n dX8_above_0 rfl ?_
  refine G_iconst (v := 3) dX8_above_1 (by decide) ?_
  refine G_icmp_le (tgt := 11) dX8_above_2 (by decide) (fun hc1 => ?_) (fun hc1 => ?_)
  · replace h := (if_neg hc1).symm.trans h
    refine G_iconst (v := 0) dX8_above_11 (by decide) ?_
    subst h
    exact G_ret dX8_above_12 trivial rfl rfl
  · replace h := (if_pos hc1).symm.trans h
    refine G_iload_n dX8_above_5 rfl ?_
    refine G_iconst (v := 3) dX8_above_6 (by decide) ?_
    refine G_isub dX8_above_7 ?_
    refine G_goto (tgt := 12) dX8_above_8 (by decide) ?_
    subst h
    exact G_ret dX8_above_12 trivial rfl rfl

theorem dX8_as_0 : decode cX8_as 0 = .ok (.aload_n 0, 1) := by decide +kernel
theorem dX8_as_1 : decode cX8_as 1 = .ok (.iload_n 1, 1) := by decide +kernel
theorem dX8_as_2 : decode cX8_as 2 = .ok (.invokevirtual 182, 3) := by decide +kernel
theorem dX8_as_5 : decode cX8_as 5 = .ok (.ifCond .eq 15, 3) := by decide +kernel
theorem dX8_as_8 : decode cX8_as 8 = .ok (.iload_n 2, 1) := by decide +kernel
theorem dX8_as_9 : decode cX8_as 9 = .ok (.i2l, 1) := by decide +kernel
theorem dX8_as_10 : decode cX8_as 10 = .ok (.lconst 0, 1) := by decide +kernel
theorem dX8_as_11 : decode cX8_as 11 = .ok (.ldc2_w 191, 3) := by decide +kernel
theorem dX8_as_14 : decode cX8_as 14 = .ok (.invokestatic 47, 3) := by decide +kernel
theorem dX8_as_17 : decode cX8_as 17 = .ok (.ifCond .ne 9, 3) := by decide +kernel
theorem dX8_as_20 : decode cX8_as 20 = .ok (.aload_n 0, 1) := by decide +kernel
theorem dX8_as_21 : decode cX8_as 21 = .ok (.iconst 1, 1) := by decide +kernel
theorem dX8_as_22 : decode cX8_as 22 = .ok (.invokevirtual 130, 3) := by decide +kernel
theorem dX8_as_25 : decode cX8_as 25 = .ok (.ireturn, 1) := by decide +kernel
theorem dX8_as_26 : decode cX8_as 26 = .ok (.aload_n 0, 1) := by decide +kernel
theorem dX8_as_27 : decode cX8_as 27 = .ok (.iload_n 1, 1) := by decide +kernel
theorem dX8_as_28 : decode cX8_as 28 = .ok (.iconst 0, 1) := by decide +kernel
theorem dX8_as_29 : decode cX8_as 29 = .ok (.invokevirtual 53, 3) := by decide +kernel
theorem dX8_as_32 : decode cX8_as 32 = .ok (.istore_n 3, 1) := by decide +kernel
theorem dX8_as_33 : decode cX8_as 33 = .ok (.iload_n 2, 1) := by decide +kernel
theorem dX8_as_34 : decode cX8_as 34 = .ok (.ifCond .eq 16, 3) := by decide +kernel
theorem dX8_as_37 : decode cX8_as 37 = .ok (.iload_n 3, 1) := by decide +kernel
theorem dX8_as_38 : decode cX8_as 38 = .ok (.iload_n 2, 1) := by decide +kernel
theorem dX8_as_39 : decode cX8_as 39 = .ok (.if_icmp .eq 11, 3) := by decide +kernel
theorem dX8_as_42 : decode cX8_as 42 = .ok (.iload_n 3, 1) := by decide +kernel
theorem dX8_as_43 : decode cX8_as 43 = .ok (.invokestatic 193, 3) := by decide +kernel
theorem dX8_as_46 : decode cX8_as 46 = .ok (.iload_n 2, 1) := by decide +kernel
theorem dX8_as_47 : decode cX8_as 47 = .ok (.if_icmp .ne 12, 3) := by decide +kernel
theorem dX8_as_50 : decode cX8_as 50 = .ok (.aload_n 0, 1) := by decide +kernel
theorem dX8_as_51 : decode cX8_as 51 = .ok (.iload_n 1, 1) := by decide +kernel
theorem dX8_as_52 : decode cX8_as 52 = .ok (.iconst 1, 1) := by decide +kernel
theorem dX8_as_53 : decode cX8_as 53 = .ok (.invokevirtual 53, 3) := by decide +kernel
theorem dX8_as_56 : decode cX8_as 56 = .ok (.goto 8, 3) := by decide +kernel
theorem dX8_as_59 : decode cX8_as 59 = .ok (.aload_n 0, 1) := by decide +kernel
theorem dX8_as_60 : decode cX8_as 60 = .ok (.iconst 5, 1) := by decide +kernel
theorem dX8_as_61 : decode cX8_as 61 = .ok (.invokevirtual 130, 3) := by decide +kernel
theorem dX8_as_64 : decode cX8_as 64 = .ok (.ireturn, 1) := by decide +kernel
def X8_as_J50 (v1 : Int32) (M : Mem) : Option (Int32 × Mem) := ((X8_of v1 1 M).bind fun q3 => (some (q3, M)))
set_option maxRecDepth 100000 in
set_option maxHeartbeats 4000000 in
theorem X8_as_J50_ok  {v1 : Int32} {M N : Mem} {res : Int32 × Mem} (h : X8_as_J50 v1 M = some res) : G mt_X8_as 2 (some (.inl res.1)) (N, res.2) 50 [(0, .inr (.inr (19, 0))), (1, .inl v1)] [] (N, M) := by
  unfold X8_as_J50 at h
  refine G_aload_n dX8_as_50 rfl ?_
  refine G_iload_n dX8_as_51 rfl ?_
  refine G_iconst (v := 1) dX8_as_52 (by decide) ?_
  obtain ⟨q3, hq3, h⟩ := bnd h
  refine G_callVv (T := TX8) (N := 22) (f := 19) (i := 0) (X8_of_ok hq3) ok_X8_of ml_X8_53 (by decide) rfl (by decide) (by decide) (by decide) rfl rfl (Nat.le_of_ble_eq_true rfl) dX8_as_53 ?_
  refine G_goto (tgt := 64) dX8_as_56 (by decide) ?_
  obtain rfl := Option.some.inj h
  exact G_ret dX8_as_64 trivial rfl rfl

def X8_as (v1 : Int32) (v2 : Int32) (M : Mem) : Option (Int32 × Mem) := (if (X8_isPot v1 M) = 0 then ((X8_finds 1 M).bind fun q1 => (some (q1.1, q1.2))) else (if (X8_in (v2.toInt64) (0 : Int64) (6 : Int64)) = 0 then ((X8_finds 1 M).bind fun q5 => (some (q5.1, q5.2))) else ((X8_of v1 0 M).bind fun q2 => (if v2 = 0 then (X8_as_J50 v1 M) else (if q2 = v2 then (X8_as_J50 v1 M) else (if (X8_above q2) = v2 then (X8_as_J50 v1 M) else ((X8_finds 5 M).bind fun q4 => (some (q4.1, q4.2)))))))))
set_option maxRecDepth 100000 in
set_option maxHeartbeats 4000000 in
theorem X8_as_ok  {v1 : Int32} {v2 : Int32} {M N : Mem} {res : Int32 × Mem} (h : X8_as v1 v2 M = some res) : Spec mt_X8_as 2 [.inr (.inr (19, 0)), .inl v1, .inl v2] (N, M) (some (.inl res.1)) (N, res.2) := by
  unfold X8_as at h
  refine Spec_of_G (by decide) rfl (Nat.le_of_ble_eq_true rfl) ?_
  refine G_sub [(0, .inr (.inr (19, 0))), (1, .inl v1), (2, .inl v2)] [0, 1, 2] rfl ?_
  refine G_aload_n dX8_as_0 rfl ?_
  refine G_iload_n dX8_as_1 rfl ?_
  refine G_callVv (T := TX8) (N := 22) (f := 19) (i := 0) (X8_isPot_ok rfl) ok_X8_isPot ml_X8_182 (by decide) rfl (by decide) (by decide) (by decide) rfl rfl (Nat.le_of_ble_eq_true rfl) dX8_as_2 ?_
  refine G_if_eq (tgt := 20) dX8_as_5 (by decide) (fun hc1 => ?_) (fun hc1 => ?_)
  · replace h := (if_pos hc1).symm.trans h
    refine G_aload_n dX8_as_20 rfl ?_
    refine G_iconst (v := 1) dX8_as_21 (by decide) ?_
    obtain ⟨q1, hq1, h⟩ := bnd h
    refine G_callVv (T := TX8) (N := 22) (f := 19) (i := 0) (X8_finds_ok hq1) ok_X8_finds ml_X8_130 (by decide) rfl (by decide) (by decide) (by decide) rfl rfl (Nat.le_of_ble_eq_true rfl) dX8_as_22 ?_
    obtain rfl := Option.some.inj h
    exact G_ret dX8_as_25 trivial rfl rfl
  · replace h := (if_neg hc1).symm.trans h
    refine G_iload_n dX8_as_8 rfl ?_
    refine G_i2l dX8_as_9 ?_
    refine G_lconst (v := 0) dX8_as_10 (by decide) ?_
    refine G_ldc2 ko_X8_191 dX8_as_11 ?_
    refine G_callSv  (X8_in_ok rfl) ok_X8_in ml_X8_47 (by decide) rfl rfl (Nat.le_of_ble_eq_true rfl) dX8_as_14 ?_
    refine G_if_ne (tgt := 26) dX8_as_17 (by decide) (fun hc2 => ?_) (fun hc2 => ?_)
    · replace h := (if_neg hc2).symm.trans h
      refine G_aload_n dX8_as_26 rfl ?_
      refine G_iload_n dX8_as_27 rfl ?_
      refine G_iconst (v := 0) dX8_as_28 (by decide) ?_
      obtain ⟨q2, hq2, h⟩ := bnd h
      refine G_callVv (T := TX8) (N := 22) (f := 19) (i := 0) (X8_of_ok hq2) ok_X8_of ml_X8_53 (by decide) rfl (by decide) (by decide) (by decide) rfl rfl (Nat.le_of_ble_eq_true rfl) dX8_as_29 ?_
      refine G_istore_n (L2 := [(3, .inl q2), (0, .inr (.inr (19, 0))), (1, .inl v1), (2, .inl v2)]) dX8_as_32 (by decide) rfl ?_
      refine G_iload_n dX8_as_33 rfl ?_
      refine G_if_eq (tgt := 50) dX8_as_34 (by decide) (fun hc3 => ?_) (fun hc3 => ?_)
      · replace h := (if_pos hc3).symm.trans h
        refine G_sub [(0, .inr (.inr (19, 0))), (1, .inl v1)] [1, 2] rfl ?_
        exact X8_as_J50_ok   h
      · replace h := (if_neg hc3).symm.trans h
        refine G_iload_n dX8_as_37 rfl ?_
        refine G_iload_n dX8_as_38 rfl ?_
        refine G_icmp_eq (tgt := 50) dX8_as_39 (by decide) (fun hc4 => ?_) (fun hc4 => ?_)
        · replace h := (if_pos hc4).symm.trans h
          refine G_sub [(0, .inr (.inr (19, 0))), (1, .inl v1)] [1, 2] rfl ?_
          exact X8_as_J50_ok   h
        · replace h := (if_neg hc4).symm.trans h
          refine G_iload_n dX8_as_42 rfl ?_
          refine G_callSv  (X8_above_ok rfl) ok_X8_above ml_X8_193 (by decide) rfl rfl (Nat.le_of_ble_eq_true rfl) dX8_as_43 ?_
          refine G_iload_n dX8_as_46 rfl ?_
          refine G_icmp_ne (tgt := 59) dX8_as_47 (by decide) (fun hc5 => ?_) (fun hc5 => ?_)
          · replace h := (if_neg hc5).symm.trans h
            refine G_aload_n dX8_as_59 rfl ?_
            refine G_iconst (v := 5) dX8_as_60 (by decide) ?_
            obtain ⟨q4, hq4, h⟩ := bnd h
            refine G_callVv (T := TX8) (N := 22) (f := 19) (i := 0) (X8_finds_ok hq4) ok_X8_finds ml_X8_130 (by decide) rfl (by decide) (by decide) (by decide) rfl rfl (Nat.le_of_ble_eq_true rfl) dX8_as_61 ?_
            obtain rfl := Option.some.inj h
            exact G_ret dX8_as_64 trivial rfl rfl
          · replace h := (if_pos hc5).symm.trans h
            refine G_sub [(0, .inr (.inr (19, 0))), (1, .inl v1)] [1, 2] rfl ?_
            exact X8_as_J50_ok   h
    · replace h := (if_pos hc2).symm.trans h
      refine G_aload_n dX8_as_20 rfl ?_
      refine G_iconst (v := 1) dX8_as_21 (by decide) ?_
      obtain ⟨q5, hq5, h⟩ := bnd h
      refine G_callVv (T := TX8) (N := 22) (f := 19) (i := 0) (X8_finds_ok hq5) ok_X8_finds ml_X8_130 (by decide) rfl (by decide) (by decide) (by decide) rfl rfl (Nat.le_of_ble_eq_true rfl) dX8_as_22 ?_
      obtain rfl := Option.some.inj h
      exact G_ret dX8_as_25 trivial rfl rfl

theorem dX8_warms_0 : decode cX8_warms 0 = .ok (.aload_n 0, 1) := by decide +kernel
theorem dX8_warms_1 : decode cX8_warms 1 = .ok (.iload_n 1, 1) := by decide +kernel
theorem dX8_warms_2 : decode cX8_warms 2 = .ok (.iconst 2, 1) := by decide +kernel
theorem dX8_warms_3 : decode cX8_warms 3 = .ok (.invokevirtual 53, 3) := by decide +kernel
theorem dX8_warms_6 : decode cX8_warms 6 = .ok (.istore_n 2, 1) := by decide +kernel
theorem dX8_warms_7 : decode cX8_warms 7 = .ok (.aload_n 0, 1) := by decide +kernel
theorem dX8_warms_8 : decode cX8_warms 8 = .ok (.iconst 0, 1) := by decide +kernel
theorem dX8_warms_9 : decode cX8_warms 9 = .ok (.aload_n 0, 1) := by decide +kernel
theorem dX8_warms_10 : decode cX8_warms 10 = .ok (.iload_n 1, 1) := by decide +kernel
theorem dX8_warms_11 : decode cX8_warms 11 = .ok (.iconst 3, 1) := by decide +kernel
theorem dX8_warms_12 : decode cX8_warms 12 = .ok (.invokevirtual 53, 3) := by decide +kernel
theorem dX8_warms_15 : decode cX8_warms 15 = .ok (.aload_n 0, 1) := by decide +kernel
theorem dX8_warms_16 : decode cX8_warms 16 = .ok (.getfield 7, 3) := by decide +kernel
theorem dX8_warms_19 : decode cX8_warms 19 = .ok (.bipush 6, 2) := by decide +kernel
theorem dX8_warms_21 : decode cX8_warms 21 = .ok (.iconst 2, 1) := by decide +kernel
theorem dX8_warms_22 : decode cX8_warms 22 = .ok (.iload_n 2, 1) := by decide +kernel
theorem dX8_warms_23 : decode cX8_warms 23 = .ok (.imul, 1) := by decide +kernel
theorem dX8_warms_24 : decode cX8_warms 24 = .ok (.iadd, 1) := by decide +kernel
theorem dX8_warms_25 : decode cX8_warms 25 = .ok (.iconst 1, 1) := by decide +kernel
theorem dX8_warms_26 : decode cX8_warms 26 = .ok (.iadd, 1) := by decide +kernel
theorem dX8_warms_27 : decode cX8_warms 27 = .ok (.iaload, 1) := by decide +kernel
theorem dX8_warms_28 : decode cX8_warms 28 = .ok (.aload_n 0, 1) := by decide +kernel
theorem dX8_warms_29 : decode cX8_warms 29 = .ok (.getfield 7, 3) := by decide +kernel
theorem dX8_warms_32 : decode cX8_warms 32 = .ok (.bipush 6, 2) := by decide +kernel
theorem dX8_warms_34 : decode cX8_warms 34 = .ok (.iconst 2, 1) := by decide +kernel
theorem dX8_warms_35 : decode cX8_warms 35 = .ok (.iload_n 2, 1) := by decide +kernel
theorem dX8_warms_36 : decode cX8_warms 36 = .ok (.imul, 1) := by decide +kernel
theorem dX8_warms_37 : decode cX8_warms 37 = .ok (.iadd, 1) := by decide +kernel
theorem dX8_warms_38 : decode cX8_warms 38 = .ok (.iaload, 1) := by decide +kernel
theorem dX8_warms_39 : decode cX8_warms 39 = .ok (.invokevirtual 145, 3) := by decide +kernel
theorem dX8_warms_42 : decode cX8_warms 42 = .ok (.istore_n 3, 1) := by decide +kernel
theorem dX8_warms_43 : decode cX8_warms 43 = .ok (.aload_n 0, 1) := by decide +kernel
theorem dX8_warms_44 : decode cX8_warms 44 = .ok (.iload_n 1, 1) := by decide +kernel
theorem dX8_warms_45 : decode cX8_warms 45 = .ok (.iconst 0, 1) := by decide +kernel
theorem dX8_warms_46 : decode cX8_warms 46 = .ok (.invokevirtual 53, 3) := by decide +kernel
theorem dX8_warms_49 : decode cX8_warms 49 = .ok (.tableswitch 104 1 6 #[39, 48, 52, 56, 79, 91], 39) := by decide +kernel
theorem dX8_warms_88 : decode cX8_warms 88 = .ok (.iload_n 3, 1) := by decide +kernel
theorem dX8_warms_89 : decode cX8_warms 89 = .ok (.aload_n 0, 1) := by decide +kernel
theorem dX8_warms_90 : decode cX8_warms 90 = .ok (.iload_n 1, 1) := by decide +kernel
theorem dX8_warms_91 : decode cX8_warms 91 = .ok (.iconst 1, 1) := by decide +kernel
theorem dX8_warms_92 : decode cX8_warms 92 = .ok (.invokevirtual 53, 3) := by decide +kernel
theorem dX8_warms_95 : decode cX8_warms 95 = .ok (.iadd, 1) := by decide +kernel
theorem dX8_warms_96 : decode cX8_warms 96 = .ok (.ireturn, 1) := by decide +kernel
theorem dX8_warms_97 : decode cX8_warms 97 = .ok (.iconst 2, 1) := by decide +kernel
theorem dX8_warms_98 : decode cX8_warms 98 = .ok (.iload_n 3, 1) := by decide +kernel
theorem dX8_warms_99 : decode cX8_warms 99 = .ok (.imul, 1) := by decide +kernel
theorem dX8_warms_100 : decode cX8_warms 100 = .ok (.ireturn, 1) := by decide +kernel
theorem dX8_warms_101 : decode cX8_warms 101 = .ok (.iload_n 3, 1) := by decide +kernel
theorem dX8_warms_102 : decode cX8_warms 102 = .ok (.iconst 2, 1) := by decide +kernel
theorem dX8_warms_103 : decode cX8_warms 103 = .ok (.idiv, 1) := by decide +kernel
theorem dX8_warms_104 : decode cX8_warms 104 = .ok (.ireturn, 1) := by decide +kernel
theorem dX8_warms_105 : decode cX8_warms 105 = .ok (.aload_n 0, 1) := by decide +kernel
theorem dX8_warms_106 : decode cX8_warms 106 = .ok (.iload_n 1, 1) := by decide +kernel
theorem dX8_warms_107 : decode cX8_warms 107 = .ok (.bipush 6, 2) := by decide +kernel
theorem dX8_warms_109 : decode cX8_warms 109 = .ok (.invokevirtual 53, 3) := by decide +kernel
theorem dX8_warms_112 : decode cX8_warms 112 = .ok (.ifCond .le 7, 3) := by decide +kernel
theorem dX8_warms_115 : decode cX8_warms 115 = .ok (.iconst 0, 1) := by decide +kernel
theorem dX8_warms_116 : decode cX8_warms 116 = .ok (.goto 11, 3) := by decide +kernel
theorem dX8_warms_119 : decode cX8_warms 119 = .ok (.iload_n 3, 1) := by decide +kernel
theorem dX8_warms_120 : decode cX8_warms 120 = .ok (.aload_n 0, 1) := by decide +kernel
theorem dX8_warms_121 : decode cX8_warms 121 = .ok (.iload_n 1, 1) := by decide +kernel
theorem dX8_warms_122 : decode cX8_warms 122 = .ok (.iconst 1, 1) := by decide +kernel
theorem dX8_warms_123 : decode cX8_warms 123 = .ok (.invokevirtual 53, 3) := by decide +kernel
theorem dX8_warms_126 : decode cX8_warms 126 = .ok (.iadd, 1) := by decide +kernel
theorem dX8_warms_127 : decode cX8_warms 127 = .ok (.ireturn, 1) := by decide +kernel
theorem dX8_warms_128 : decode cX8_warms 128 = .ok (.iconst 2, 1) := by decide +kernel
theorem dX8_warms_129 : decode cX8_warms 129 = .ok (.iload_n 3, 1) := by decide +kernel
theorem dX8_warms_130 : decode cX8_warms 130 = .ok (.imul, 1) := by decide +kernel
theorem dX8_warms_131 : decode cX8_warms 131 = .ok (.aload_n 0, 1) := by decide +kernel
theorem dX8_warms_132 : decode cX8_warms 132 = .ok (.iload_n 1, 1) := by decide +kernel
theorem dX8_warms_133 : decode cX8_warms 133 = .ok (.bipush 6, 2) := by decide +kernel
theorem dX8_warms_135 : decode cX8_warms 135 = .ok (.invokevirtual 53, 3) := by decide +kernel
theorem dX8_warms_138 : decode cX8_warms 138 = .ok (.iadd, 1) := by decide +kernel
theorem dX8_warms_139 : decode cX8_warms 139 = .ok (.ireturn, 1) := by decide +kernel
theorem dX8_warms_140 : decode cX8_warms 140 = .ok (.iload_n 3, 1) := by decide +kernel
theorem dX8_warms_141 : decode cX8_warms 141 = .ok (.iconst 2, 1) := by decide +kernel
theorem dX8_warms_142 : decode cX8_warms 142 = .ok (.idiv, 1) := by decide +kernel
theorem dX8_warms_143 : decode cX8_warms 143 = .ok (.iconst 1, 1) := by decide +kernel
theorem dX8_warms_144 : decode cX8_warms 144 = .ok (.isub, 1) := by decide +kernel
theorem dX8_warms_145 : decode cX8_warms 145 = .ok (.iconst 0, 1) := by decide +kernel
theorem dX8_warms_146 : decode cX8_warms 146 = .ok (.sipush 999, 3) := by decide +kernel
theorem dX8_warms_149 : decode cX8_warms 149 = .ok (.invokestatic 142, 3) := by decide +kernel
theorem dX8_warms_152 : decode cX8_warms 152 = .ok (.ireturn, 1) := by decide +kernel
theorem dX8_warms_153 : decode cX8_warms 153 = .ok (.iload_n 3, 1) := by decide +kernel
theorem dX8_warms_154 : decode cX8_warms 154 = .ok (.ireturn, 1) := by decide +kernel
def X8_warms (v1 : Int32) (M : Mem) : Option (Int32 × Mem) := ((X8_of v1 2 M).bind fun q1 => ((X8_of v1 3 M).bind fun q2 => (if ib ((6 + (2 * q1)) + 1) 268 = true then (if ib (6 + (2 * q1)) 268 = true then ((X8_textGives 0 q2 (M 20 0 (((6 + (2 * q1)) + 1).toNatClampNeg)) (M 20 0 ((6 + (2 * q1)).toNatClampNeg)) M).bind fun q5 => ((X8_of v1 0 q5.2).bind fun q6 => (if q6 = 1 then ((X8_of v1 1 q5.2).bind fun q7 => (some ((q5.1 + q7), q5.2))) else (if q6 = 2 then (some ((2 * q5.1), q5.2)) else (if q6 = 3 then (some ((q5.1 / 2), q5.2)) else (if q6 = 4 then ((X8_of v1 6 q5.2).bind fun q8 => (if 0 < q8 then (some (0, q5.2)) else ((X8_of v1 1 q5.2).bind fun q9 => (some ((q5.1 + q9), q5.2))))) else (if q6 = 5 then ((X8_of v1 6 q5.2).bind fun q10 => (some (((2 * q5.1) + q10), q5.2))) else (if q6 = 6 then (some ((X8_held ((q5.1 / 2) - 1) 0 999), q5.2)) else (some (q5.1, q5.2)))))))))) else none) else none)))
set_option maxRecDepth 100000 in
set_option maxHeartbeats 4000000 in
theorem X8_warms_ok  {v1 : Int32} {M N : Mem} {res : Int32 × Mem} (h : X8_warms v1 M = some res) : Spec mt_X8_warms 3 [.inr (.inr (19, 0)), .inl v1] (N, M) (some (.inl res.1)) (N, res.2) := by
  unfold X8_warms at h
  refine Spec_of_G (by decide) rfl (Nat.le_of_ble_eq_true rfl) ?_
  refine G_sub [(0, .inr (.inr (19, 0))), (1, .inl v1)] [0, 1] rfl ?_
  refine G_aload_n dX8_warms_0 rfl ?_
  refine G_iload_n dX8_warms_1 rfl ?_
  refine G_iconst (v := 2) dX8_warms_2 (by decide) ?_
  obtain ⟨q1, hq1, h⟩ := bnd h
  refine G_callVv (T := TX8) (N := 22) (f := 19) (i := 0) (X8_of_ok hq1) ok_X8_of ml_X8_53 (by decide) rfl (by decide) (by decide) (by decide) rfl rfl (Nat.le_of_ble_eq_true rfl) dX8_warms_3 ?_
  refine G_istore_n (L2 := [(2, .inl q1), (0, .inr (.inr (19, 0))), (1, .inl v1)]) dX8_warms_6 (by decide) rfl ?_
  refine G_aload_n dX8_warms_7 rfl ?_
  refine G_iconst (v := 0) dX8_warms_8 (by decide) ?_
  refine G_aload_n dX8_warms_9 rfl ?_
  refine G_iload_n dX8_warms_10 rfl ?_
  refine G_iconst (v := 3) dX8_warms_11 (by decide) ?_
  obtain ⟨q2, hq2, h⟩ := bnd h
  refine G_callVv (T := TX8) (N := 22) (f := 19) (i := 0) (X8_of_ok hq2) ok_X8_of ml_X8_53 (by decide) rfl (by decide) (by decide) (by decide) rfl rfl (Nat.le_of_ble_eq_true rfl) dX8_warms_12 ?_
  refine G_aload_n dX8_warms_15 rfl ?_
  refine fg_X8_7 rfl (by decide) dX8_warms_16 ?_
  refine G_bipush (v := 6) dX8_warms_19 (by decide) ?_
  refine G_iconst (v := 2) dX8_warms_21 (by decide) ?_
  refine G_iload_n dX8_warms_22 rfl ?_
  refine G_imul dX8_warms_23 ?_
  refine G_iadd dX8_warms_24 ?_
  refine G_iconst (v := 1) dX8_warms_25 (by decide) ?_
  refine G_iadd dX8_warms_26 ?_
  obtain ⟨hb3, h⟩ := chk h
  have lhb3 := ib_lt hb3
  refine al_20 (kk := ((6 + (2 * q1)) + 1).toNatClampNeg) (v := (M 20 0 (((6 + (2 * q1)) + 1).toNatClampNeg))) (by decide) hb3 rfl rfl dX8_warms_27 ?_
  refine G_aload_n dX8_warms_28 rfl ?_
  refine fg_X8_7 rfl (by decide) dX8_warms_29 ?_
  refine G_bipush (v := 6) dX8_warms_32 (by decide) ?_
  refine G_iconst (v := 2) dX8_warms_34 (by decide) ?_
  refine G_iload_n dX8_warms_35 rfl ?_
  refine G_imul dX8_warms_36 ?_
  refine G_iadd dX8_warms_37 ?_
  obtain ⟨hb4, h⟩ := chk h
  have lhb4 := ib_lt hb4
  refine al_20 (kk := (6 + (2 * q1)).toNatClampNeg) (v := (M 20 0 ((6 + (2 * q1)).toNatClampNeg))) (by decide) hb4 rfl rfl dX8_warms_38 ?_
  obtain ⟨q5, hq5, h⟩ := bnd h
  refine G_callVv (T := TX8) (N := 22) (f := 19) (i := 0) (X8_textGives_ok hq5) ok_X8_textGives ml_X8_145 (by decide) rfl (by decide) (by decide) (by decide) rfl rfl (Nat.le_of_ble_eq_true rfl) dX8_warms_39 ?_
  refine G_istore_n (L2 := [(3, .inl q5.1), (2, .inl q1), (0, .inr (.inr (19, 0))), (1, .inl v1)]) dX8_warms_42 (by decide) rfl ?_
  refine G_aload_n dX8_warms_43 rfl ?_
  refine G_iload_n dX8_warms_44 rfl ?_
  refine G_iconst (v := 0) dX8_warms_45 (by decide) ?_
  obtain ⟨q6, hq6, h⟩ := bnd h
  refine G_callVv (T := TX8) (N := 22) (f := 19) (i := 0) (X8_of_ok hq6) ok_X8_of ml_X8_53 (by decide) rfl (by decide) (by decide) (by decide) rfl rfl (Nat.le_of_ble_eq_true rfl) dX8_warms_46 ?_
  by_cases hc1 : q6 = 1
  · replace h := (if_pos hc1).symm.trans h
    refine G_tableEq (off := 39) (tgt := 88) hc1 dX8_warms_49 (by decide) (by decide) (by decide) (by decide) ?_
    refine G_iload_n dX8_warms_88 rfl ?_
    refine G_aload_n dX8_warms_89 rfl ?_
    refine G_iload_n dX8_warms_90 rfl ?_
    refine G_iconst (v := 1) dX8_warms_91 (by decide) ?_
    obtain ⟨q7, hq7, h⟩ := bnd h
    refine G_callVv (T := TX8) (N := 22) (f := 19) (i := 0) (X8_of_ok hq7) ok_X8_of ml_X8_53 (by decide) rfl (by decide) (by decide) (by decide) rfl rfl (Nat.le_of_ble_eq_true rfl) dX8_warms_92 ?_
    refine G_iadd dX8_warms_95 ?_
    obtain rfl := Option.some.inj h
    exact G_ret dX8_warms_96 trivial rfl rfl
  replace h := (if_neg hc1).symm.trans h
  by_cases hc2 : q6 = 2
  · replace h := (if_pos hc2).symm.trans h
    refine G_tableEq (off := 48) (tgt := 97) hc2 dX8_warms_49 (by decide) (by decide) (by decide) (by decide) ?_
    refine G_iconst (v := 2) dX8_warms_97 (by decide) ?_
    refine G_iload_n dX8_warms_98 rfl ?_
    refine G_imul dX8_warms_99 ?_
    obtain rfl := Option.some.inj h
    exact G_ret dX8_warms_100 trivial rfl rfl
  replace h := (if_neg hc2).symm.trans h
  by_cases hc3 : q6 = 3
  · replace h := (if_pos hc3).symm.trans h
    refine G_tableEq (off := 52) (tgt := 101) hc3 dX8_warms_49 (by decide) (by decide) (by decide) (by decide) ?_
    refine G_iload_n dX8_warms_101 rfl ?_
    refine G_iconst (v := 2) dX8_warms_102 (by decide) ?_
    refine G_idiv (by decide) dX8_warms_103 ?_
    obtain rfl := Option.some.inj h
    exact G_ret dX8_warms_104 trivial rfl rfl
  replace h := (if_neg hc3).symm.trans h
  by_cases hc4 : q6 = 4
  · replace h := (if_pos hc4).symm.trans h
    refine G_tableEq (off := 56) (tgt := 105) hc4 dX8_warms_49 (by decide) (by decide) (by decide) (by decide) ?_
    refine G_aload_n dX8_warms_105 rfl ?_
    refine G_iload_n dX8_warms_106 rfl ?_
    refine G_bipush (v := 6) dX8_warms_107 (by decide) ?_
    obtain ⟨q8, hq8, h⟩ := bnd h
    refine G_callVv (T := TX8) (N := 22) (f := 19) (i := 0) (X8_of_ok hq8) ok_X8_of ml_X8_53 (by decide) rfl (by decide) (by decide) (by decide) rfl rfl (Nat.le_of_ble_eq_true rfl) dX8_warms_109 ?_
    refine G_if_le (tgt := 119) dX8_warms_112 (by decide) (fun hc5 => ?_) (fun hc5 => ?_)
    · replace h := (if_neg hc5).symm.trans h
      refine G_iload_n dX8_warms_119 rfl ?_
      refine G_aload_n dX8_warms_120 rfl ?_
      refine G_iload_n dX8_warms_121 rfl ?_
      refine G_iconst (v := 1) dX8_warms_122 (by decide) ?_
      obtain ⟨q9, hq9, h⟩ := bnd h
      refine G_callVv (T := TX8) (N := 22) (f := 19) (i := 0) (X8_of_ok hq9) ok_X8_of ml_X8_53 (by decide) rfl (by decide) (by decide) (by decide) rfl rfl (Nat.le_of_ble_eq_true rfl) dX8_warms_123 ?_
      refine G_iadd dX8_warms_126 ?_
      obtain rfl := Option.some.inj h
      exact G_ret dX8_warms_127 trivial rfl rfl
    · replace h := (if_pos hc5).symm.trans h
      refine G_iconst (v := 0) dX8_warms_115 (by decide) ?_
      refine G_goto (tgt := 127) dX8_warms_116 (by decide) ?_
      obtain rfl := Option.some.inj h
      exact G_ret dX8_warms_127 trivial rfl rfl
  replace h := (if_neg hc4).symm.trans h
  by_cases hc6 : q6 = 5
  · replace h := (if_pos hc6).symm.trans h
    refine G_tableEq (off := 79) (tgt := 128) hc6 dX8_warms_49 (by decide) (by decide) (by decide) (by decide) ?_
    refine G_iconst (v := 2) dX8_warms_128 (by decide) ?_
    refine G_iload_n dX8_warms_129 rfl ?_
    refine G_imul dX8_warms_130 ?_
    refine G_aload_n dX8_warms_131 rfl ?_
    refine G_iload_n dX8_warms_132 rfl ?_
    refine G_bipush (v := 6) dX8_warms_133 (by decide) ?_
    obtain ⟨q10, hq10, h⟩ := bnd h
    refine G_callVv (T := TX8) (N := 22) (f := 19) (i := 0) (X8_of_ok hq10) ok_X8_of ml_X8_53 (by decide) rfl (by decide) (by decide) (by decide) rfl rfl (Nat.le_of_ble_eq_true rfl) dX8_warms_135 ?_
    refine G_iadd dX8_warms_138 ?_
    obtain rfl := Option.some.inj h
    exact G_ret dX8_warms_139 trivial rfl rfl
  replace h := (if_neg hc6).symm.trans h
  by_cases hc7 : q6 = 6
  · replace h := (if_pos hc7).symm.trans h
    refine G_tableEq (off := 91) (tgt := 140) hc7 dX8_warms_49 (by decide) (by decide) (by decide) (by decide) ?_
    refine G_iload_n dX8_warms_140 rfl ?_
    refine G_iconst (v := 2) dX8_warms_141 (by decide) ?_
    refine G_idiv (by decide) dX8_warms_142 ?_
    refine G_iconst (v := 1) dX8_warms_143 (by decide) ?_
    refine G_isub dX8_warms_144 ?_
    refine G_iconst (v := 0) dX8_warms_145 (by decide) ?_
    refine G_sipush (v := 999) dX8_warms_146 (by decide) ?_
    refine G_callSv  (X8_held_ok rfl) ok_X8_held ml_X8_142 (by decide) rfl rfl (Nat.le_of_ble_eq_true rfl) dX8_warms_149 ?_
    obtain rfl := Option.some.inj h
    exact G_ret dX8_warms_152 trivial rfl rfl
  replace h := (if_neg hc7).symm.trans h
  have nhc1 := ne_lit (n := 1) (by decide) hc1
  have nhc2 := ne_lit (n := 2) (by decide) hc2
  have nhc3 := ne_lit (n := 3) (by decide) hc3
  have nhc4 := ne_lit (n := 4) (by decide) hc4
  have nhc6 := ne_lit (n := 5) (by decide) hc6
  have nhc7 := ne_lit (n := 6) (by decide) hc7
  refine G_tableOut (tgt := 153) dX8_warms_49 (by omega) (by decide) ?_
  refine G_iload_n dX8_warms_153 rfl ?_
  obtain rfl := Option.some.inj h
  exact G_ret dX8_warms_154 trivial rfl rfl

theorem dX8_manyIn_0 : decode cX8_manyIn 0 = .ok (.iconst 0, 1) := by decide +kernel
theorem dX8_manyIn_1 : decode cX8_manyIn 1 = .ok (.istore_n 2, 1) := by decide +kernel
theorem dX8_manyIn_2 : decode cX8_manyIn 2 = .ok (.iconst 0, 1) := by decide +kernel
theorem dX8_manyIn_3 : decode cX8_manyIn 3 = .ok (.istore_n 3, 1) := by decide +kernel
theorem dX8_manyIn_4 : decode cX8_manyIn 4 = .ok (.iload_n 3, 1) := by decide +kernel
theorem dX8_manyIn_5 : decode cX8_manyIn 5 = .ok (.aload_n 0, 1) := by decide +kernel
theorem dX8_manyIn_6 : decode cX8_manyIn 6 = .ok (.getfield 7, 3) := by decide +kernel
theorem dX8_manyIn_9 : decode cX8_manyIn 9 = .ok (.iconst 0, 1) := by decide +kernel
theorem dX8_manyIn_10 : decode cX8_manyIn 10 = .ok (.iaload, 1) := by decide +kernel
theorem dX8_manyIn_11 : decode cX8_manyIn 11 = .ok (.if_icmp .ge 27, 3) := by decide +kernel
theorem dX8_manyIn_14 : decode cX8_manyIn 14 = .ok (.iload_n 2, 1) := by decide +kernel
theorem dX8_manyIn_15 : decode cX8_manyIn 15 = .ok (.aload_n 0, 1) := by decide +kernel
theorem dX8_manyIn_16 : decode cX8_manyIn 16 = .ok (.iload_n 3, 1) := by decide +kernel
theorem dX8_manyIn_17 : decode cX8_manyIn 17 = .ok (.iconst 2, 1) := by decide +kernel
theorem dX8_manyIn_18 : decode cX8_manyIn 18 = .ok (.invokevirtual 53, 3) := by decide +kernel
theorem dX8_manyIn_21 : decode cX8_manyIn 21 = .ok (.iload_n 1, 1) := by decide +kernel
theorem dX8_manyIn_22 : decode cX8_manyIn 22 = .ok (.if_icmp .ne 7, 3) := by decide +kernel
theorem dX8_manyIn_25 : decode cX8_manyIn 25 = .ok (.iconst 1, 1) := by decide +kernel
theorem dX8_manyIn_26 : decode cX8_manyIn 26 = .ok (.goto 4, 3) := by decide +kernel
theorem dX8_manyIn_29 : decode cX8_manyIn 29 = .ok (.iconst 0, 1) := by decide +kernel
theorem dX8_manyIn_30 : decode cX8_manyIn 30 = .ok (.iadd, 1) := by decide +kernel
theorem dX8_manyIn_31 : decode cX8_manyIn 31 = .ok (.istore_n 2, 1) := by decide +kernel
theorem dX8_manyIn_32 : decode cX8_manyIn 32 = .ok (.iinc 3 1, 3) := by decide +kernel
theorem dX8_manyIn_35 : decode cX8_manyIn 35 = .ok (.goto (-31), 3) := by decide +kernel
theorem dX8_manyIn_38 : decode cX8_manyIn 38 = .ok (.iload_n 2, 1) := by decide +kernel
theorem dX8_manyIn_39 : decode cX8_manyIn 39 = .ok (.ireturn, 1) := by decide +kernel
def X8_manyIn_L4 : Nat → Int32 → Int32 → Int32 → Mem → Option (Int32)
  | 0, _, _, _, _ => none
  | fu + 1, v1, v2, v3, M => (if v3 < (M 20 0 0) then ((X8_of v3 2 M).bind fun q1 => (if q1 = v1 then (X8_manyIn_L4 fu v1 (v2 + 1) (v3 + 1) M) else (X8_manyIn_L4 fu v1 (v2 + 0) (v3 + 1) M))) else (some v2))
set_option maxRecDepth 100000 in
set_option maxHeartbeats 4000000 in
theorem X8_manyIn_L4_ok  {r : Option AV} {M' : MM} : ∀ (fu : Nat) (v1 : Int32) (v2 : Int32) (v3 : Int32) (M N : Mem) {res : Int32} (h : X8_manyIn_L4 fu v1 v2 v3 M = some res) (K : G mt_X8_manyIn 1 r M' 38 [(2, .inl res)] [] (N, M)), G mt_X8_manyIn 1 r M' 4 [(0, .inr (.inr (19, 0))), (1, .inl v1), (2, .inl v2), (3, .inl v3)] [] (N, M) := by
  intro fu
  induction fu with
  | zero =>
    intro v1 v2 v3 M N res h
    cases h
  | succ fu ih =>
    intro v1 v2 v3 M N res h K
    replace h : (if v3 < (M 20 0 0) then ((X8_of v3 2 M).bind fun q1 => (if q1 = v1 then (X8_manyIn_L4 fu v1 (v2 + 1) (v3 + 1) M) else (X8_manyIn_L4 fu v1 (v2 + 0) (v3 + 1) M))) else (some v2)) = some res := h
    refine G_iload_n dX8_manyIn_4 rfl ?_
    refine G_aload_n dX8_manyIn_5 rfl ?_
    refine fg_X8_7 rfl (by decide) dX8_manyIn_6 ?_
    refine G_iconst (v := 0) dX8_manyIn_9 (by decide) ?_
    refine al_20 (kk := 0) (v := (M 20 0 0)) (by decide) (by decide) (by decide) rfl dX8_manyIn_10 ?_
    refine G_icmp_ge (tgt := 38) dX8_manyIn_11 (by decide) (fun hc1 => ?_) (fun hc1 => ?_)
    · replace h := (if_neg hc1).symm.trans h
      refine G_sub [(2, .inl v2)] [2] rfl ?_
      obtain rfl := Option.some.inj h
      exact K
    · replace h := (if_pos hc1).symm.trans h
      refine G_iload_n dX8_manyIn_14 rfl ?_
      refine G_aload_n dX8_manyIn_15 rfl ?_
      refine G_iload_n dX8_manyIn_16 rfl ?_
      refine G_iconst (v := 2) dX8_manyIn_17 (by decide) ?_
      obtain ⟨q1, hq1, h⟩ := bnd h
      refine G_callVv (T := TX8) (N := 22) (f := 19) (i := 0) (X8_of_ok hq1) ok_X8_of ml_X8_53 (by decide) rfl (by decide) (by decide) (by decide) rfl rfl (Nat.le_of_ble_eq_true rfl) dX8_manyIn_18 ?_
      refine G_iload_n dX8_manyIn_21 rfl ?_
      refine G_icmp_ne (tgt := 29) dX8_manyIn_22 (by decide) (fun hc2 => ?_) (fun hc2 => ?_)
      · replace h := (if_neg hc2).symm.trans h
        refine G_iconst (v := 0) dX8_manyIn_29 (by decide) ?_
        refine G_iadd dX8_manyIn_30 ?_
        refine G_istore_n (L2 := [(2, .inl (v2 + 0)), (0, .inr (.inr (19, 0))), (1, .inl v1), (3, .inl v3)]) dX8_manyIn_31 (by decide) rfl ?_
        refine G_iinc (v := (v3 + 1)) (L2 := [(3, .inl (v3 + 1)), (2, .inl (v2 + 0)), (0, .inr (.inr (19, 0))), (1, .inl v1)]) dX8_manyIn_32 rfl (by first | rfl | (show _ + Int32.ofInt _ = _; rfl)) (by decide) rfl ?_
        refine G_goto (tgt := 4) dX8_manyIn_35 (by decide) ?_
        refine G_sub [(0, .inr (.inr (19, 0))), (1, .inl v1), (2, .inl (v2 + 0)), (3, .inl (v3 + 1))] [2, 3, 1, 0] rfl ?_
        exact ih v1 (v2 + 0) (v3 + 1) M _  h K
      · replace h := (if_pos hc2).symm.trans h
        refine G_iconst (v := 1) dX8_manyIn_25 (by decide) ?_
        refine G_goto (tgt := 30) dX8_manyIn_26 (by decide) ?_
        refine G_iadd dX8_manyIn_30 ?_
        refine G_istore_n (L2 := [(2, .inl (v2 + 1)), (0, .inr (.inr (19, 0))), (1, .inl v1), (3, .inl v3)]) dX8_manyIn_31 (by decide) rfl ?_
        refine G_iinc (v := (v3 + 1)) (L2 := [(3, .inl (v3 + 1)), (2, .inl (v2 + 1)), (0, .inr (.inr (19, 0))), (1, .inl v1)]) dX8_manyIn_32 rfl (by first | rfl | (show _ + Int32.ofInt _ = _; rfl)) (by decide) rfl ?_
        refine G_goto (tgt := 4) dX8_manyIn_35 (by decide) ?_
        refine G_sub [(0, .inr (.inr (19, 0))), (1, .inl v1), (2, .inl (v2 + 1)), (3, .inl (v3 + 1))] [2, 3, 1, 0] rfl ?_
        exact ih v1 (v2 + 1) (v3 + 1) M _  h K

def X8_manyIn (v1 : Int32) (M : Mem) : Option (Int32) := ((X8_manyIn_L4 400 v1 0 0 M).bind fun q2 => (some q2))
set_option maxRecDepth 100000 in
set_option maxHeartbeats 4000000 in
theorem X8_manyIn_ok  {v1 : Int32} {M N : Mem} {res : Int32} (h : X8_manyIn v1 M = some res) : Spec mt_X8_manyIn 1 [.inr (.inr (19, 0)), .inl v1] (N, M) (some (.inl res)) (N, M) := by
  unfold X8_manyIn at h
  refine Spec_of_G (by decide) rfl (Nat.le_of_ble_eq_true rfl) ?_
  refine G_sub [(0, .inr (.inr (19, 0))), (1, .inl v1)] [0, 1] rfl ?_
  refine G_iconst (v := 0) dX8_manyIn_0 (by decide) ?_
  refine G_istore_n (L2 := [(2, .inl 0), (0, .inr (.inr (19, 0))), (1, .inl v1)]) dX8_manyIn_1 (by decide) rfl ?_
  refine G_iconst (v := 0) dX8_manyIn_2 (by decide) ?_
  refine G_istore_n (L2 := [(3, .inl 0), (2, .inl 0), (0, .inr (.inr (19, 0))), (1, .inl v1)]) dX8_manyIn_3 (by decide) rfl ?_
  refine G_sub [(0, .inr (.inr (19, 0))), (1, .inl v1), (2, .inl 0), (3, .inl 0)] [2, 3, 1, 0] rfl ?_
  obtain ⟨q2, hq2, h⟩ := bnd h
  refine X8_manyIn_L4_ok  400 v1 0 0 M _  hq2 ?_
  refine G_iload_n dX8_manyIn_38 rfl ?_
  obtain rfl := Option.some.inj h
  exact G_ret dX8_manyIn_39 trivial rfl rfl

theorem dX8_potGoes_0 : decode cX8_potGoes 0 = .ok (.aload_n 0, 1) := by decide +kernel
theorem dX8_potGoes_1 : decode cX8_potGoes 1 = .ok (.iload_n 1, 1) := by decide +kernel
theorem dX8_potGoes_2 : decode cX8_potGoes 2 = .ok (.iconst 2, 1) := by decide +kernel
theorem dX8_potGoes_3 : decode cX8_potGoes 3 = .ok (.invokevirtual 53, 3) := by decide +kernel
theorem dX8_potGoes_6 : decode cX8_potGoes 6 = .ok (.istore_n 2, 1) := by decide +kernel
theorem dX8_potGoes_7 : decode cX8_potGoes 7 = .ok (.aload_n 0, 1) := by decide +kernel
theorem dX8_potGoes_8 : decode cX8_potGoes 8 = .ok (.iload_n 1, 1) := by decide +kernel
theorem dX8_potGoes_9 : decode cX8_potGoes 9 = .ok (.iconst 4, 1) := by decide +kernel
theorem dX8_potGoes_10 : decode cX8_potGoes 10 = .ok (.aload_n 0, 1) := by decide +kernel
theorem dX8_potGoes_11 : decode cX8_potGoes 11 = .ok (.iload_n 1, 1) := by decide +kernel
theorem dX8_potGoes_12 : decode cX8_potGoes 12 = .ok (.iconst 4, 1) := by decide +kernel
theorem dX8_potGoes_13 : decode cX8_potGoes 13 = .ok (.invokevirtual 53, 3) := by decide +kernel
theorem dX8_potGoes_16 : decode cX8_potGoes 16 = .ok (.aload_n 0, 1) := by decide +kernel
theorem dX8_potGoes_17 : decode cX8_potGoes 17 = .ok (.iload_n 1, 1) := by decide +kernel
theorem dX8_potGoes_18 : decode cX8_potGoes 18 = .ok (.invokevirtual 152, 3) := by decide +kernel
theorem dX8_potGoes_21 : decode cX8_potGoes 21 = .ok (.iadd, 1) := by decide +kernel
theorem dX8_potGoes_22 : decode cX8_potGoes 22 = .ok (.iconst 0, 1) := by decide +kernel
theorem dX8_potGoes_23 : decode cX8_potGoes 23 = .ok (.sipush 999, 3) := by decide +kernel
theorem dX8_potGoes_26 : decode cX8_potGoes 26 = .ok (.invokestatic 142, 3) := by decide +kernel
theorem dX8_potGoes_29 : decode cX8_potGoes 29 = .ok (.invokevirtual 149, 3) := by decide +kernel
theorem dX8_potGoes_32 : decode cX8_potGoes 32 = .ok (.aload_n 0, 1) := by decide +kernel
theorem dX8_potGoes_33 : decode cX8_potGoes 33 = .ok (.iload_n 1, 1) := by decide +kernel
theorem dX8_potGoes_34 : decode cX8_potGoes 34 = .ok (.iconst 5, 1) := by decide +kernel
theorem dX8_potGoes_35 : decode cX8_potGoes 35 = .ok (.aload_n 0, 1) := by decide +kernel
theorem dX8_potGoes_36 : decode cX8_potGoes 36 = .ok (.iload_n 1, 1) := by decide +kernel
theorem dX8_potGoes_37 : decode cX8_potGoes 37 = .ok (.iconst 5, 1) := by decide +kernel
theorem dX8_potGoes_38 : decode cX8_potGoes 38 = .ok (.invokevirtual 53, 3) := by decide +kernel
theorem dX8_potGoes_41 : decode cX8_potGoes 41 = .ok (.iconst 1, 1) := by decide +kernel
theorem dX8_potGoes_42 : decode cX8_potGoes 42 = .ok (.iadd, 1) := by decide +kernel
theorem dX8_potGoes_43 : decode cX8_potGoes 43 = .ok (.iconst 0, 1) := by decide +kernel
theorem dX8_potGoes_44 : decode cX8_potGoes 44 = .ok (.sipush 999, 3) := by decide +kernel
theorem dX8_potGoes_47 : decode cX8_potGoes 47 = .ok (.invokestatic 142, 3) := by decide +kernel
theorem dX8_potGoes_50 : decode cX8_potGoes 50 = .ok (.invokevirtual 149, 3) := by decide +kernel
theorem dX8_potGoes_53 : decode cX8_potGoes 53 = .ok (.aload_n 0, 1) := by decide +kernel
theorem dX8_potGoes_54 : decode cX8_potGoes 54 = .ok (.iload_n 1, 1) := by decide +kernel
theorem dX8_potGoes_55 : decode cX8_potGoes 55 = .ok (.invokevirtual 155, 3) := by decide +kernel
theorem dX8_potGoes_58 : decode cX8_potGoes 58 = .ok (.istore_n 3, 1) := by decide +kernel
theorem dX8_potGoes_59 : decode cX8_potGoes 59 = .ok (.aload_n 0, 1) := by decide +kernel
theorem dX8_potGoes_60 : decode cX8_potGoes 60 = .ok (.iload_n 1, 1) := by decide +kernel
theorem dX8_potGoes_61 : decode cX8_potGoes 61 = .ok (.iconst 5, 1) := by decide +kernel
theorem dX8_potGoes_62 : decode cX8_potGoes 62 = .ok (.invokevirtual 53, 3) := by decide +kernel
theorem dX8_potGoes_65 : decode cX8_potGoes 65 = .ok (.bipush 11, 2) := by decide +kernel
theorem dX8_potGoes_67 : decode cX8_potGoes 67 = .ok (.if_icmp .lt 58, 3) := by decide +kernel
theorem dX8_potGoes_70 : decode cX8_potGoes 70 = .ok (.aload_n 0, 1) := by decide +kernel
theorem dX8_potGoes_71 : decode cX8_potGoes 71 = .ok (.iload_n 1, 1) := by decide +kernel
theorem dX8_potGoes_72 : decode cX8_potGoes 72 = .ok (.iconst 4, 1) := by decide +kernel
theorem dX8_potGoes_73 : decode cX8_potGoes 73 = .ok (.invokevirtual 53, 3) := by decide +kernel
theorem dX8_potGoes_76 : decode cX8_potGoes 76 = .ok (.iload_n 3, 1) := by decide +kernel
theorem dX8_potGoes_77 : decode cX8_potGoes 77 = .ok (.if_icmp .lt 48, 3) := by decide +kernel
theorem dX8_potGoes_80 : decode cX8_potGoes 80 = .ok (.aload_n 0, 1) := by decide +kernel
theorem dX8_potGoes_81 : decode cX8_potGoes 81 = .ok (.iload_n 1, 1) := by decide +kernel
theorem dX8_potGoes_82 : decode cX8_potGoes 82 = .ok (.bipush 6, 2) := by decide +kernel
theorem dX8_potGoes_84 : decode cX8_potGoes 84 = .ok (.invokevirtual 53, 3) := by decide +kernel
theorem dX8_potGoes_87 : decode cX8_potGoes 87 = .ok (.aload_n 0, 1) := by decide +kernel
theorem dX8_potGoes_88 : decode cX8_potGoes 88 = .ok (.iload_n 1, 1) := by decide +kernel
theorem dX8_potGoes_89 : decode cX8_potGoes 89 = .ok (.invokevirtual 158, 3) := by decide +kernel
theorem dX8_potGoes_92 : decode cX8_potGoes 92 = .ok (.if_icmp .ge 33, 3) := by decide +kernel
theorem dX8_potGoes_95 : decode cX8_potGoes 95 = .ok (.aload_n 0, 1) := by decide +kernel
theorem dX8_potGoes_96 : decode cX8_potGoes 96 = .ok (.iload_n 1, 1) := by decide +kernel
theorem dX8_potGoes_97 : decode cX8_potGoes 97 = .ok (.bipush 6, 2) := by decide +kernel
theorem dX8_potGoes_99 : decode cX8_potGoes 99 = .ok (.aload_n 0, 1) := by decide +kernel
theorem dX8_potGoes_100 : decode cX8_potGoes 100 = .ok (.iload_n 1, 1) := by decide +kernel
theorem dX8_potGoes_101 : decode cX8_potGoes 101 = .ok (.bipush 6, 2) := by decide +kernel
theorem dX8_potGoes_103 : decode cX8_potGoes 103 = .ok (.invokevirtual 53, 3) := by decide +kernel
theorem dX8_potGoes_106 : decode cX8_potGoes 106 = .ok (.iconst 1, 1) := by decide +kernel
theorem dX8_potGoes_107 : decode cX8_potGoes 107 = .ok (.iadd, 1) := by decide +kernel
theorem dX8_potGoes_108 : decode cX8_potGoes 108 = .ok (.invokevirtual 149, 3) := by decide +kernel
theorem dX8_potGoes_111 : decode cX8_potGoes 111 = .ok (.aload_n 0, 1) := by decide +kernel
theorem dX8_potGoes_112 : decode cX8_potGoes 112 = .ok (.iload_n 1, 1) := by decide +kernel
theorem dX8_potGoes_113 : decode cX8_potGoes 113 = .ok (.iconst 4, 1) := by decide +kernel
theorem dX8_potGoes_114 : decode cX8_potGoes 114 = .ok (.aload_n 0, 1) := by decide +kernel
theorem dX8_potGoes_115 : decode cX8_potGoes 115 = .ok (.iload_n 1, 1) := by decide +kernel
theorem dX8_potGoes_116 : decode cX8_potGoes 116 = .ok (.iconst 4, 1) := by decide +kernel
theorem dX8_potGoes_117 : decode cX8_potGoes 117 = .ok (.invokevirtual 53, 3) := by decide +kernel
theorem dX8_potGoes_120 : decode cX8_potGoes 120 = .ok (.iload_n 3, 1) := by decide +kernel
theorem dX8_potGoes_121 : decode cX8_potGoes 121 = .ok (.isub, 1) := by decide +kernel
theorem dX8_potGoes_122 : decode cX8_potGoes 122 = .ok (.invokevirtual 149, 3) := by decide +kernel
theorem dX8_potGoes_125 : decode cX8_potGoes 125 = .ok (.aload_n 0, 1) := by decide +kernel
theorem dX8_potGoes_126 : decode cX8_potGoes 126 = .ok (.iconst 1, 1) := by decide +kernel
theorem dX8_potGoes_127 : decode cX8_potGoes 127 = .ok (.aload_n 0, 1) := by decide +kernel
theorem dX8_potGoes_128 : decode cX8_potGoes 128 = .ok (.iload_n 1, 1) := by decide +kernel
theorem dX8_potGoes_129 : decode cX8_potGoes 129 = .ok (.iconst 3, 1) := by decide +kernel
theorem dX8_potGoes_130 : decode cX8_potGoes 130 = .ok (.invokevirtual 53, 3) := by decide +kernel
theorem dX8_potGoes_133 : decode cX8_potGoes 133 = .ok (.aload_n 0, 1) := by decide +kernel
theorem dX8_potGoes_134 : decode cX8_potGoes 134 = .ok (.getfield 7, 3) := by decide +kernel
theorem dX8_potGoes_137 : decode cX8_potGoes 137 = .ok (.iconst 1, 1) := by decide +kernel
theorem dX8_potGoes_138 : decode cX8_potGoes 138 = .ok (.iaload, 1) := by decide +kernel
theorem dX8_potGoes_139 : decode cX8_potGoes 139 = .ok (.bipush 13, 2) := by decide +kernel
theorem dX8_potGoes_141 : decode cX8_potGoes 141 = .ok (.irem, 1) := by decide +kernel
theorem dX8_potGoes_142 : decode cX8_potGoes 142 = .ok (.aload_n 0, 1) := by decide +kernel
theorem dX8_potGoes_143 : decode cX8_potGoes 143 = .ok (.iload_n 2, 1) := by decide +kernel
theorem dX8_potGoes_144 : decode cX8_potGoes 144 = .ok (.invokevirtual 161, 3) := by decide +kernel
theorem dX8_potGoes_147 : decode cX8_potGoes 147 = .ok (.invokevirtual 145, 3) := by decide +kernel
theorem dX8_potGoes_150 : decode cX8_potGoes 150 = .ok (.aload_n 0, 1) := by decide +kernel
theorem dX8_potGoes_151 : decode cX8_potGoes 151 = .ok (.getfield 7, 3) := by decide +kernel
theorem dX8_potGoes_154 : decode cX8_potGoes 154 = .ok (.bipush 6, 2) := by decide +kernel
theorem dX8_potGoes_156 : decode cX8_potGoes 156 = .ok (.iconst 2, 1) := by decide +kernel
theorem dX8_potGoes_157 : decode cX8_potGoes 157 = .ok (.iload_n 2, 1) := by decide +kernel
theorem dX8_potGoes_158 : decode cX8_potGoes 158 = .ok (.imul, 1) := by decide +kernel
theorem dX8_potGoes_159 : decode cX8_potGoes 159 = .ok (.iadd, 1) := by decide +kernel
theorem dX8_potGoes_160 : decode cX8_potGoes 160 = .ok (.iconst 1, 1) := by decide +kernel
theorem dX8_potGoes_161 : decode cX8_potGoes 161 = .ok (.iadd, 1) := by decide +kernel
theorem dX8_potGoes_162 : decode cX8_potGoes 162 = .ok (.iaload, 1) := by decide +kernel
theorem dX8_potGoes_163 : decode cX8_potGoes 163 = .ok (.if_icmp .le 31, 3) := by decide +kernel
theorem dX8_potGoes_166 : decode cX8_potGoes 166 = .ok (.aload_n 0, 1) := by decide +kernel
theorem dX8_potGoes_167 : decode cX8_potGoes 167 = .ok (.iload_n 1, 1) := by decide +kernel
theorem dX8_potGoes_168 : decode cX8_potGoes 168 = .ok (.iconst 2, 1) := by decide +kernel
theorem dX8_potGoes_169 : decode cX8_potGoes 169 = .ok (.iconst (-1), 1) := by decide +kernel
theorem dX8_potGoes_170 : decode cX8_potGoes 170 = .ok (.invokevirtual 149, 3) := by decide +kernel
theorem dX8_potGoes_173 : decode cX8_potGoes 173 = .ok (.aload_n 0, 1) := by decide +kernel
theorem dX8_potGoes_174 : decode cX8_potGoes 174 = .ok (.getfield 7, 3) := by decide +kernel
theorem dX8_potGoes_177 : decode cX8_potGoes 177 = .ok (.iconst 2, 1) := by decide +kernel
theorem dX8_potGoes_178 : decode cX8_potGoes 178 = .ok (.aload_n 0, 1) := by decide +kernel
theorem dX8_potGoes_179 : decode cX8_potGoes 179 = .ok (.getfield 7, 3) := by decide +kernel
theorem dX8_potGoes_182 : decode cX8_potGoes 182 = .ok (.iconst 2, 1) := by decide +kernel
theorem dX8_potGoes_183 : decode cX8_potGoes 183 = .ok (.iaload, 1) := by decide +kernel
theorem dX8_potGoes_184 : decode cX8_potGoes 184 = .ok (.iconst 1, 1) := by decide +kernel
theorem dX8_potGoes_185 : decode cX8_potGoes 185 = .ok (.iadd, 1) := by decide +kernel
theorem dX8_potGoes_186 : decode cX8_potGoes 186 = .ok (.iconst 0, 1) := by decide +kernel
theorem dX8_potGoes_187 : decode cX8_potGoes 187 = .ok (.sipush 999, 3) := by decide +kernel
theorem dX8_potGoes_190 : decode cX8_potGoes 190 = .ok (.invokestatic 142, 3) := by decide +kernel
theorem dX8_potGoes_193 : decode cX8_potGoes 193 = .ok (.iastore, 1) := by decide +kernel
theorem dX8_potGoes_194 : decode cX8_potGoes 194 = .ok (.return_, 1) := by decide +kernel
def X8_potGoes_J125 (v1 : Int32) (v2 : Int32) (M : Mem) : Option (Mem) := ((X8_of v1 3 M).bind fun q9 => ((X8_manyIn v2 M).bind fun q10 => ((X8_textGives 1 q9 (jrem (M 20 0 1) 13) q10 M).bind fun q11 => (if ib ((6 + (2 * v2)) + 1) 268 = true then (if (q11.2 20 0 (((6 + (2 * v2)) + 1).toNatClampNeg)) < q11.1 then ((X8_sets v1 2 (-1) q11.2).bind fun q13 => (some (up3 q13 20 0 2 (X8_held ((q13 20 0 2) + 1) 0 999)))) else (some q11.2)) else none))))
set_option maxRecDepth 100000 in
set_option maxHeartbeats 4000000 in
theorem X8_potGoes_J125_ok  {v1 : Int32} {v2 : Int32} {M N : Mem} {res : Mem} (h : X8_potGoes_J125 v1 v2 M = some res) : G mt_X8_potGoes 4 none (N, res) 125 [(0, .inr (.inr (19, 0))), (1, .inl v1), (2, .inl v2)] [] (N, M) := by
  unfold X8_potGoes_J125 at h
  refine G_aload_n dX8_potGoes_125 rfl ?_
  refine G_iconst (v := 1) dX8_potGoes_126 (by decide) ?_
  refine G_aload_n dX8_potGoes_127 rfl ?_
  refine G_iload_n dX8_potGoes_128 rfl ?_
  refine G_iconst (v := 3) dX8_potGoes_129 (by decide) ?_
  obtain ⟨q9, hq9, h⟩ := bnd h
  refine G_callVv (T := TX8) (N := 22) (f := 19) (i := 0) (X8_of_ok hq9) ok_X8_of ml_X8_53 (by decide) rfl (by decide) (by decide) (by decide) rfl rfl (Nat.le_of_ble_eq_true rfl) dX8_potGoes_130 ?_
  refine G_aload_n dX8_potGoes_133 rfl ?_
  refine fg_X8_7 rfl (by decide) dX8_potGoes_134 ?_
  refine G_iconst (v := 1) dX8_potGoes_137 (by decide) ?_
  refine al_20 (kk := 1) (v := (M 20 0 1)) (by decide) (by decide) (by decide) rfl dX8_potGoes_138 ?_
  refine G_bipush (v := 13) dX8_potGoes_139 (by decide) ?_
  refine G_irem (by decide) dX8_potGoes_141 ?_
  refine G_aload_n dX8_potGoes_142 rfl ?_
  refine G_iload_n dX8_potGoes_143 rfl ?_
  obtain ⟨q10, hq10, h⟩ := bnd h
  refine G_callVv (T := TX8) (N := 22) (f := 19) (i := 0) (X8_manyIn_ok hq10) ok_X8_manyIn ml_X8_161 (by decide) rfl (by decide) (by decide) (by decide) rfl rfl (Nat.le_of_ble_eq_true rfl) dX8_potGoes_144 ?_
  obtain ⟨q11, hq11, h⟩ := bnd h
  refine G_callVv (T := TX8) (N := 22) (f := 19) (i := 0) (X8_textGives_ok hq11) ok_X8_textGives ml_X8_145 (by decide) rfl (by decide) (by decide) (by decide) rfl rfl (Nat.le_of_ble_eq_true rfl) dX8_potGoes_147 ?_
  refine G_aload_n dX8_potGoes_150 rfl ?_
  refine fg_X8_7 rfl (by decide) dX8_potGoes_151 ?_
  refine G_bipush (v := 6) dX8_potGoes_154 (by decide) ?_
  refine G_iconst (v := 2) dX8_potGoes_156 (by decide) ?_
  refine G_iload_n dX8_potGoes_157 rfl ?_
  refine G_imul dX8_potGoes_158 ?_
  refine G_iadd dX8_potGoes_159 ?_
  refine G_iconst (v := 1) dX8_potGoes_160 (by decide) ?_
  refine G_iadd dX8_potGoes_161 ?_
  obtain ⟨hb12, h⟩ := chk h
  have lhb12 := ib_lt hb12
  refine al_20 (kk := ((6 + (2 * v2)) + 1).toNatClampNeg) (v := (q11.2 20 0 (((6 + (2 * v2)) + 1).toNatClampNeg))) (by decide) hb12 rfl rfl dX8_potGoes_162 ?_
  refine G_icmp_le (tgt := 194) dX8_potGoes_163 (by decide) (fun hc2 => ?_) (fun hc2 => ?_)
  · replace h := (if_neg hc2).symm.trans h
    obtain rfl := Option.some.inj h
    exact G_ret dX8_potGoes_194 trivial rfl rfl
  · replace h := (if_pos hc2).symm.trans h
    refine G_aload_n dX8_potGoes_166 rfl ?_
    refine G_iload_n dX8_potGoes_167 rfl ?_
    refine G_iconst (v := 2) dX8_potGoes_168 (by decide) ?_
    refine G_iconst (v := (-1)) dX8_potGoes_169 (by decide) ?_
    obtain ⟨q13, hq13, h⟩ := bnd h
    refine G_callVn (T := TX8) (N := 22) (f := 19) (i := 0) (X8_sets_ok hq13) ok_X8_sets ml_X8_149 (by decide) rfl (by decide) (by decide) (by decide) rfl rfl (Nat.le_of_ble_eq_true rfl) dX8_potGoes_170 ?_
    refine G_aload_n dX8_potGoes_173 rfl ?_
    refine fg_X8_7 rfl (by decide) dX8_potGoes_174 ?_
    refine G_iconst (v := 2) dX8_potGoes_177 (by decide) ?_
    refine G_aload_n dX8_potGoes_178 rfl ?_
    refine fg_X8_7 rfl (by decide) dX8_potGoes_179 ?_
    refine G_iconst (v := 2) dX8_potGoes_182 (by decide) ?_
    refine al_20 (kk := 2) (v := (q13 20 0 2)) (by decide) (by decide) (by decide) rfl dX8_potGoes_183 ?_
    refine G_iconst (v := 1) dX8_potGoes_184 (by decide) ?_
    refine G_iadd dX8_potGoes_185 ?_
    refine G_iconst (v := 0) dX8_potGoes_186 (by decide) ?_
    refine G_sipush (v := 999) dX8_potGoes_187 (by decide) ?_
    refine G_callSv  (X8_held_ok rfl) ok_X8_held ml_X8_142 (by decide) rfl rfl (Nat.le_of_ble_eq_true rfl) dX8_potGoes_190 ?_
    refine as_20 (kk := 2) (by decide) (by decide) (by decide) dX8_potGoes_193 ?_
    obtain rfl := Option.some.inj h
    exact G_ret dX8_potGoes_194 trivial rfl rfl

def X8_potGoes (v1 : Int32) (M : Mem) : Option (Mem) := ((X8_of v1 2 M).bind fun q1 => ((X8_of v1 4 M).bind fun q2 => ((X8_warms v1 M).bind fun q3 => ((X8_sets v1 4 (X8_held (q2 + q3.1) 0 999) q3.2).bind fun q4 => ((X8_of v1 5 q4).bind fun q5 => ((X8_sets v1 5 (X8_held (q5 + 1) 0 999) q4).bind fun q6 => ((X8_wants v1 q6).bind fun q7 => ((X8_of v1 5 q6).bind fun q8 => (if q8 < 11 then (X8_potGoes_J125 v1 q1 q6) else ((X8_of v1 4 q6).bind fun q14 => (if q14 < q7 then (X8_potGoes_J125 v1 q1 q6) else ((X8_of v1 6 q6).bind fun q15 => ((X8_bears v1 q6).bind fun q16 => (if q15 < q16 then ((X8_of v1 6 q6).bind fun q17 => ((X8_sets v1 6 (q17 + 1) q6).bind fun q18 => ((X8_of v1 4 q18).bind fun q19 => ((X8_sets v1 4 (q19 - q7) q18).bind fun q20 => (X8_potGoes_J125 v1 q1 q20))))) else (X8_potGoes_J125 v1 q1 q6)))))))))))))))
set_option maxRecDepth 100000 in
set_option maxHeartbeats 4000000 in
theorem X8_potGoes_ok  {v1 : Int32} {M N : Mem} {res : Mem} (h : X8_potGoes v1 M = some res) : Spec mt_X8_potGoes 4 [.inr (.inr (19, 0)), .inl v1] (N, M) none (N, res) := by
  unfold X8_potGoes at h
  refine Spec_of_G (by decide) rfl (Nat.le_of_ble_eq_true rfl) ?_
  refine G_sub [(0, .inr (.inr (19, 0))), (1, .inl v1)] [0, 1] rfl ?_
  refine G_aload_n dX8_potGoes_0 rfl ?_
  refine G_iload_n dX8_potGoes_1 rfl ?_
  refine G_iconst (v := 2) dX8_potGoes_2 (by decide) ?_
  obtain ⟨q1, hq1, h⟩ := bnd h
  refine G_callVv (T := TX8) (N := 22) (f := 19) (i := 0) (X8_of_ok hq1) ok_X8_of ml_X8_53 (by decide) rfl (by decide) (by decide) (by decide) rfl rfl (Nat.le_of_ble_eq_true rfl) dX8_potGoes_3 ?_
  refine G_istore_n (L2 := [(2, .inl q1), (0, .inr (.inr (19, 0))), (1, .inl v1)]) dX8_potGoes_6 (by decide) rfl ?_
  refine G_aload_n dX8_potGoes_7 rfl ?_
  refine G_iload_n dX8_potGoes_8 rfl ?_
  refine G_iconst (v := 4) dX8_potGoes_9 (by decide) ?_
  refine G_aload_n dX8_potGoes_10 rfl ?_
  refine G_iload_n dX8_potGoes_11 rfl ?_
  refine G_iconst (v := 4) dX8_potGoes_12 (by decide) ?_
  obtain ⟨q2, hq2, h⟩ := bnd h
  refine G_callVv (T := TX8) (N := 22) (f := 19) (i := 0) (X8_of_ok hq2) ok_X8_of ml_X8_53 (by decide) rfl (by decide) (by decide) (by decide) rfl rfl (Nat.le_of_ble_eq_true rfl) dX8_potGoes_13 ?_
  refine G_aload_n dX8_potGoes_16 rfl ?_
  refine G_iload_n dX8_potGoes_17 rfl ?_
  obtain ⟨q3, hq3, h⟩ := bnd h
  refine G_callVv (T := TX8) (N := 22) (f := 19) (i := 0) (X8_warms_ok hq3) ok_X8_warms ml_X8_152 (by decide) rfl (by decide) (by decide) (by decide) rfl rfl (Nat.le_of_ble_eq_true rfl) dX8_potGoes_18 ?_
  refine G_iadd dX8_potGoes_21 ?_
  refine G_iconst (v := 0) dX8_potGoes_22 (by decide) ?_
  refine G_sipush (v := 999) dX8_potGoes_23 (by decide) ?_
  refine G_callSv  (X8_held_ok rfl) ok_X8_held ml_X8_142 (by decide) rfl rfl (Nat.le_of_ble_eq_true rfl) dX8_potGoes_26 ?_
  obtain ⟨q4, hq4, h⟩ := bnd h
  refine G_callVn (T := TX8) (N := 22) (f := 19) (i := 0) (X8_sets_ok hq4) ok_X8_sets ml_X8_149 (by decide) rfl (by decide) (by decide) (by decide) rfl rfl (Nat.le_of_ble_eq_true rfl) dX8_potGoes_29 ?_
  refine G_aload_n dX8_potGoes_32 rfl ?_
  refine G_iload_n dX8_potGoes_33 rfl ?_
  refine G_iconst (v := 5) dX8_potGoes_34 (by decide) ?_
  refine G_aload_n dX8_potGoes_35 rfl ?_
  refine G_iload_n dX8_potGoes_36 rfl ?_
  refine G_iconst (v := 5) dX8_potGoes_37 (by decide) ?_
  obtain ⟨q5, hq5, h⟩ := bnd h
  refine G_callVv (T := TX8) (N := 22) (f := 19) (i := 0) (X8_of_ok hq5) ok_X8_of ml_X8_53 (by decide) rfl (by decide) (by decide) (by decide) rfl rfl (Nat.le_of_ble_eq_true rfl) dX8_potGoes_38 ?_
  refine G_iconst (v := 1) dX8_potGoes_41 (by decide) ?_
  refine G_iadd dX8_potGoes_42 ?_
  refine G_iconst (v := 0) dX8_potGoes_43 (by decide) ?_
  refine G_sipush (v := 999) dX8_potGoes_44 (by decide) ?_
  refine G_callSv  (X8_held_ok rfl) ok_X8_held ml_X8_142 (by decide) rfl rfl (Nat.le_of_ble_eq_true rfl) dX8_potGoes_47 ?_
  obtain ⟨q6, hq6, h⟩ := bnd h
  refine G_callVn (T := TX8) (N := 22) (f := 19) (i := 0) (X8_sets_ok hq6) ok_X8_sets ml_X8_149 (by decide) rfl (by decide) (by decide) (by decide) rfl rfl (Nat.le_of_ble_eq_true rfl) dX8_potGoes_50 ?_
  refine G_aload_n dX8_potGoes_53 rfl ?_
  refine G_iload_n dX8_potGoes_54 rfl ?_
  obtain ⟨q7, hq7, h⟩ := bnd h
  refine G_callVv (T := TX8) (N := 22) (f := 19) (i := 0) (X8_wants_ok hq7) ok_X8_wants ml_X8_155 (by decide) rfl (by decide) (by decide) (by decide) rfl rfl (Nat.le_of_ble_eq_true rfl) dX8_potGoes_55 ?_
  refine G_istore_n (L2 := [(3, .inl q7), (2, .inl q1), (0, .inr (.inr (19, 0))), (1, .inl v1)]) dX8_potGoes_58 (by decide) rfl ?_
  refine G_aload_n dX8_potGoes_59 rfl ?_
  refine G_iload_n dX8_potGoes_60 rfl ?_
  refine G_iconst (v := 5) dX8_potGoes_61 (by decide) ?_
  obtain ⟨q8, hq8, h⟩ := bnd h
  refine G_callVv (T := TX8) (N := 22) (f := 19) (i := 0) (X8_of_ok hq8) ok_X8_of ml_X8_53 (by decide) rfl (by decide) (by decide) (by decide) rfl rfl (Nat.le_of_ble_eq_true rfl) dX8_potGoes_62 ?_
  refine G_bipush (v := 11) dX8_potGoes_65 (by decide) ?_
  refine G_icmp_lt (tgt := 125) dX8_potGoes_67 (by decide) (fun hc1 => ?_) (fun hc1 => ?_)
  · replace h := (if_pos hc1).symm.trans h
    refine G_sub [(0, .inr (.inr (19, 0))), (1, .inl v1), (2, .inl q1)] [2, 3, 1] rfl ?_
    exact X8_potGoes_J125_ok   h
  · replace h := (if_neg hc1).symm.trans h
    refine G_aload_n dX8_potGoes_70 rfl ?_
    refine G_iload_n dX8_potGoes_71 rfl ?_
    refine G_iconst (v := 4) dX8_potGoes_72 (by decide) ?_
    obtain ⟨q14, hq14, h⟩ := bnd h
    refine G_callVv (T := TX8) (N := 22) (f := 19) (i := 0) (X8_of_ok hq14) ok_X8_of ml_X8_53 (by decide) rfl (by decide) (by decide) (by decide) rfl rfl (Nat.le_of_ble_eq_true rfl) dX8_potGoes_73 ?_
    refine G_iload_n dX8_potGoes_76 rfl ?_
    refine G_icmp_lt (tgt := 125) dX8_potGoes_77 (by decide) (fun hc3 => ?_) (fun hc3 => ?_)
    · replace h := (if_pos hc3).symm.trans h
      refine G_sub [(0, .inr (.inr (19, 0))), (1, .inl v1), (2, .inl q1)] [2, 3, 1] rfl ?_
      exact X8_potGoes_J125_ok   h
    · replace h := (if_neg hc3).symm.trans h
      refine G_aload_n dX8_potGoes_80 rfl ?_
      refine G_iload_n dX8_potGoes_81 rfl ?_
      refine G_bipush (v := 6) dX8_potGoes_82 (by decide) ?_
      obtain ⟨q15, hq15, h⟩ := bnd h
      refine G_callVv (T := TX8) (N := 22) (f := 19) (i := 0) (X8_of_ok hq15) ok_X8_of ml_X8_53 (by decide) rfl (by decide) (by decide) (by decide) rfl rfl (Nat.le_of_ble_eq_true rfl) dX8_potGoes_84 ?_
      refine G_aload_n dX8_potGoes_87 rfl ?_
      refine G_iload_n dX8_potGoes_88 rfl ?_
      obtain ⟨q16, hq16, h⟩ := bnd h
      refine G_callVv (T := TX8) (N := 22) (f := 19) (i := 0) (X8_bears_ok hq16) ok_X8_bears ml_X8_158 (by decide) rfl (by decide) (by decide) (by decide) rfl rfl (Nat.le_of_ble_eq_true rfl) dX8_potGoes_89 ?_
      refine G_icmp_ge (tgt := 125) dX8_potGoes_92 (by decide) (fun hc4 => ?_) (fun hc4 => ?_)
      · replace h := (if_neg hc4).symm.trans h
        refine G_sub [(0, .inr (.inr (19, 0))), (1, .inl v1), (2, .inl q1)] [2, 3, 1] rfl ?_
        exact X8_potGoes_J125_ok   h
      · replace h := (if_pos hc4).symm.trans h
        refine G_aload_n dX8_potGoes_95 rfl ?_
        refine G_iload_n dX8_potGoes_96 rfl ?_
        refine G_bipush (v := 6) dX8_potGoes_97 (by decide) ?_
        refine G_aload_n dX8_potGoes_99 rfl ?_
        refine G_iload_n dX8_potGoes_100 rfl ?_
        refine G_bipush (v := 6) dX8_potGoes_101 (by decide) ?_
        obtain ⟨q17, hq17, h⟩ := bnd h
        refine G_callVv (T := TX8) (N := 22) (f := 19) (i := 0) (X8_of_ok hq17) ok_X8_of ml_X8_53 (by decide) rfl (by decide) (by decide) (by decide) rfl rfl (Nat.le_of_ble_eq_true rfl) dX8_potGoes_103 ?_
        refine G_iconst (v := 1) dX8_potGoes_106 (by decide) ?_
        refine G_iadd dX8_potGoes_107 ?_
        obtain ⟨q18, hq18, h⟩ := bnd h
        refine G_callVn (T := TX8) (N := 22) (f := 19) (i := 0) (X8_sets_ok hq18) ok_X8_sets ml_X8_149 (by decide) rfl (by decide) (by decide) (by decide) rfl rfl (Nat.le_of_ble_eq_true rfl) dX8_potGoes_108 ?_
        refine G_aload_n dX8_potGoes_111 rfl ?_
        refine G_iload_n dX8_potGoes_112 rfl ?_
        refine G_iconst (v := 4) dX8_potGoes_113 (by decide) ?_
        refine G_aload_n dX8_potGoes_114 rfl ?_
        refine G_iload_n dX8_potGoes_115 rfl ?_
        refine G_iconst (v := 4) dX8_potGoes_116 (by decide) ?_
        obtain ⟨q19, hq19, h⟩ := bnd h
        refine G_callVv (T := TX8) (N := 22) (f := 19) (i := 0) (X8_of_ok hq19) ok_X8_of ml_X8_53 (by decide) rfl (by decide) (by decide) (by decide) rfl rfl (Nat.le_of_ble_eq_true rfl) dX8_potGoes_117 ?_
        refine G_iload_n dX8_potGoes_120 rfl ?_
        refine G_isub dX8_potGoes_121 ?_
        obtain ⟨q20, hq20, h⟩ := bnd h
        refine G_callVn (T := TX8) (N := 22) (f := 19) (i := 0) (X8_sets_ok hq20) ok_X8_sets ml_X8_149 (by decide) rfl (by decide) (by decide) (by decide) rfl rfl (Nat.le_of_ble_eq_true rfl) dX8_potGoes_122 ?_
        refine G_sub [(0, .inr (.inr (19, 0))), (1, .inl v1), (2, .inl q1)] [2, 3, 1] rfl ?_
        exact X8_potGoes_J125_ok   h

theorem dX8_yearsGo_0 : decode cX8_yearsGo 0 = .ok (.iconst 0, 1) := by decide +kernel
theorem dX8_yearsGo_1 : decode cX8_yearsGo 1 = .ok (.istore_n 2, 1) := by decide +kernel
theorem dX8_yearsGo_2 : decode cX8_yearsGo 2 = .ok (.iload_n 2, 1) := by decide +kernel
theorem dX8_yearsGo_3 : decode cX8_yearsGo 3 = .ok (.iload_n 1, 1) := by decide +kernel
theorem dX8_yearsGo_4 : decode cX8_yearsGo 4 = .ok (.if_icmp .ge 50, 3) := by decide +kernel
theorem dX8_yearsGo_7 : decode cX8_yearsGo 7 = .ok (.iconst 0, 1) := by decide +kernel
theorem dX8_yearsGo_8 : decode cX8_yearsGo 8 = .ok (.istore_n 3, 1) := by decide +kernel
theorem dX8_yearsGo_9 : decode cX8_yearsGo 9 = .ok (.iload_n 3, 1) := by decide +kernel
theorem dX8_yearsGo_10 : decode cX8_yearsGo 10 = .ok (.aload_n 0, 1) := by decide +kernel
theorem dX8_yearsGo_11 : decode cX8_yearsGo 11 = .ok (.getfield 7, 3) := by decide +kernel
theorem dX8_yearsGo_14 : decode cX8_yearsGo 14 = .ok (.iconst 0, 1) := by decide +kernel
theorem dX8_yearsGo_15 : decode cX8_yearsGo 15 = .ok (.iaload, 1) := by decide +kernel
theorem dX8_yearsGo_16 : decode cX8_yearsGo 16 = .ok (.if_icmp .ge 22, 3) := by decide +kernel
theorem dX8_yearsGo_19 : decode cX8_yearsGo 19 = .ok (.aload_n 0, 1) := by decide +kernel
theorem dX8_yearsGo_20 : decode cX8_yearsGo 20 = .ok (.iload_n 3, 1) := by decide +kernel
theorem dX8_yearsGo_21 : decode cX8_yearsGo 21 = .ok (.invokevirtual 164, 3) := by decide +kernel
theorem dX8_yearsGo_24 : decode cX8_yearsGo 24 = .ok (.ifCond .ne 8, 3) := by decide +kernel
theorem dX8_yearsGo_27 : decode cX8_yearsGo 27 = .ok (.aload_n 0, 1) := by decide +kernel
theorem dX8_yearsGo_28 : decode cX8_yearsGo 28 = .ok (.iload_n 3, 1) := by decide +kernel
theorem dX8_yearsGo_29 : decode cX8_yearsGo 29 = .ok (.invokevirtual 167, 3) := by decide +kernel
theorem dX8_yearsGo_32 : decode cX8_yearsGo 32 = .ok (.iinc 3 1, 3) := by decide +kernel
theorem dX8_yearsGo_35 : decode cX8_yearsGo 35 = .ok (.goto (-26), 3) := by decide +kernel
theorem dX8_yearsGo_38 : decode cX8_yearsGo 38 = .ok (.aload_n 0, 1) := by decide +kernel
theorem dX8_yearsGo_39 : decode cX8_yearsGo 39 = .ok (.getfield 7, 3) := by decide +kernel
theorem dX8_yearsGo_42 : decode cX8_yearsGo 42 = .ok (.iconst 1, 1) := by decide +kernel
theorem dX8_yearsGo_43 : decode cX8_yearsGo 43 = .ok (.dup2, 1) := by decide +kernel
theorem dX8_yearsGo_44 : decode cX8_yearsGo 44 = .ok (.iaload, 1) := by decide +kernel
theorem dX8_yearsGo_45 : decode cX8_yearsGo 45 = .ok (.iconst 1, 1) := by decide +kernel
theorem dX8_yearsGo_46 : decode cX8_yearsGo 46 = .ok (.iadd, 1) := by decide +kernel
theorem dX8_yearsGo_47 : decode cX8_yearsGo 47 = .ok (.iastore, 1) := by decide +kernel
theorem dX8_yearsGo_48 : decode cX8_yearsGo 48 = .ok (.iinc 2 1, 3) := by decide +kernel
theorem dX8_yearsGo_51 : decode cX8_yearsGo 51 = .ok (.goto (-49), 3) := by decide +kernel
theorem dX8_yearsGo_54 : decode cX8_yearsGo 54 = .ok (.return_, 1) := by decide +kernel
def X8_yearsGo_L9 : Nat → Int32 → Int32 → Int32 → Mem → Option (Mem)
  | 0, _, _, _, _ => none
  | fu + 1, v1, v2, v3, M => (if v3 < (M 20 0 0) then ((X8_isBroken v3 M).bind fun q1 => (if q1 = 0 then ((X8_potGoes v3 M).bind fun q2 => (X8_yearsGo_L9 fu v1 v2 (v3 + 1) q2)) else (X8_yearsGo_L9 fu v1 v2 (v3 + 1) M))) else (some M))
set_option maxRecDepth 100000 in
set_option maxHeartbeats 4000000 in
theorem X8_yearsGo_L9_ok  {r : Option AV} {M' : MM} : ∀ (fu : Nat) (v1 : Int32) (v2 : Int32) (v3 : Int32) (M N : Mem) {res : Mem} (h : X8_yearsGo_L9 fu v1 v2 v3 M = some res) (K : G mt_X8_yearsGo 5 r M' 38 [(0, .inr (.inr (19, 0))), (1, .inl v1), (2, .inl v2)] [] (N, res)), G mt_X8_yearsGo 5 r M' 9 [(0, .inr (.inr (19, 0))), (1, .inl v1), (2, .inl v2), (3, .inl v3)] [] (N, M) := by
  intro fu
  induction fu with
  | zero =>
    intro v1 v2 v3 M N res h
    cases h
  | succ fu ih =>
    intro v1 v2 v3 M N res h K
    replace h : (if v3 < (M 20 0 0) then ((X8_isBroken v3 M).bind fun q1 => (if q1 = 0 then ((X8_potGoes v3 M).bind fun q2 => (X8_yearsGo_L9 fu v1 v2 (v3 + 1) q2)) else (X8_yearsGo_L9 fu v1 v2 (v3 + 1) M))) else (some M)) = some res := h
    refine G_iload_n dX8_yearsGo_9 rfl ?_
    refine G_aload_n dX8_yearsGo_10 rfl ?_
    refine fg_X8_7 rfl (by decide) dX8_yearsGo_11 ?_
    refine G_iconst (v := 0) dX8_yearsGo_14 (by decide) ?_
    refine al_20 (kk := 0) (v := (M 20 0 0)) (by decide) (by decide) (by decide) rfl dX8_yearsGo_15 ?_
    refine G_icmp_ge (tgt := 38) dX8_yearsGo_16 (by decide) (fun hc2 => ?_) (fun hc2 => ?_)
    · replace h := (if_neg hc2).symm.trans h
      refine G_sub [(0, .inr (.inr (19, 0))), (1, .inl v1), (2, .inl v2)] [0, 1, 2] rfl ?_
      obtain rfl := Option.some.inj h
      exact K
    · replace h := (if_pos hc2).symm.trans h
      refine G_aload_n dX8_yearsGo_19 rfl ?_
      refine G_iload_n dX8_yearsGo_20 rfl ?_
      obtain ⟨q1, hq1, h⟩ := bnd h
      refine G_callVv (T := TX8) (N := 22) (f := 19) (i := 0) (X8_isBroken_ok hq1) ok_X8_isBroken ml_X8_164 (by decide) rfl (by decide) (by decide) (by decide) rfl rfl (Nat.le_of_ble_eq_true rfl) dX8_yearsGo_21 ?_
      refine G_if_ne (tgt := 32) dX8_yearsGo_24 (by decide) (fun hc3 => ?_) (fun hc3 => ?_)
      · replace h := (if_neg hc3).symm.trans h
        refine G_iinc (v := (v3 + 1)) (L2 := [(3, .inl (v3 + 1)), (0, .inr (.inr (19, 0))), (1, .inl v1), (2, .inl v2)]) dX8_yearsGo_32 rfl (by first | rfl | (show _ + Int32.ofInt _ = _; rfl)) (by decide) rfl ?_
        refine G_goto (tgt := 9) dX8_yearsGo_35 (by decide) ?_
        refine G_sub [(0, .inr (.inr (19, 0))), (1, .inl v1), (2, .inl v2), (3, .inl (v3 + 1))] [1, 2, 3, 0] rfl ?_
        exact ih v1 v2 (v3 + 1) M _  h K
      · replace h := (if_pos hc3).symm.trans h
        refine G_aload_n dX8_yearsGo_27 rfl ?_
        refine G_iload_n dX8_yearsGo_28 rfl ?_
        obtain ⟨q2, hq2, h⟩ := bnd h
        refine G_callVn (T := TX8) (N := 22) (f := 19) (i := 0) (X8_potGoes_ok hq2) ok_X8_potGoes ml_X8_167 (by decide) rfl (by decide) (by decide) (by decide) rfl rfl (Nat.le_of_ble_eq_true rfl) dX8_yearsGo_29 ?_
        refine G_iinc (v := (v3 + 1)) (L2 := [(3, .inl (v3 + 1)), (0, .inr (.inr (19, 0))), (1, .inl v1), (2, .inl v2)]) dX8_yearsGo_32 rfl (by first | rfl | (show _ + Int32.ofInt _ = _; rfl)) (by decide) rfl ?_
        refine G_goto (tgt := 9) dX8_yearsGo_35 (by decide) ?_
        refine G_sub [(0, .inr (.inr (19, 0))), (1, .inl v1), (2, .inl v2), (3, .inl (v3 + 1))] [1, 2, 3, 0] rfl ?_
        exact ih v1 v2 (v3 + 1) q2 _  h K

def X8_yearsGo_L2 : Nat → Int32 → Int32 → Mem → Option (Mem)
  | 0, _, _, _ => none
  | fu + 1, v1, v2, M => (if v2 < v1 then ((X8_yearsGo_L9 400 v1 v2 0 M).bind fun q3 => (X8_yearsGo_L2 fu v1 (v2 + 1) (up3 q3 20 0 1 ((q3 20 0 1) + 1)))) else (some M))
set_option maxRecDepth 100000 in
set_option maxHeartbeats 4000000 in
theorem X8_yearsGo_L2_ok  {r : Option AV} {M' : MM} : ∀ (fu : Nat) (v1 : Int32) (v2 : Int32) (M N : Mem) {res : Mem} (h : X8_yearsGo_L2 fu v1 v2 M = some res) (K : G mt_X8_yearsGo 5 r M' 54 [] [] (N, res)), G mt_X8_yearsGo 5 r M' 2 [(0, .inr (.inr (19, 0))), (1, .inl v1), (2, .inl v2)] [] (N, M) := by
  intro fu
  induction fu with
  | zero =>
    intro v1 v2 M N res h
    cases h
  | succ fu ih =>
    intro v1 v2 M N res h K
    replace h : (if v2 < v1 then ((X8_yearsGo_L9 400 v1 v2 0 M).bind fun q3 => (X8_yearsGo_L2 fu v1 (v2 + 1) (up3 q3 20 0 1 ((q3 20 0 1) + 1)))) else (some M)) = some res := h
    refine G_iload_n dX8_yearsGo_2 rfl ?_
    refine G_iload_n dX8_yearsGo_3 rfl ?_
    refine G_icmp_ge (tgt := 54) dX8_yearsGo_4 (by decide) (fun hc1 => ?_) (fun hc1 => ?_)
    · replace h := (if_neg hc1).symm.trans h
      refine G_sub [] [] rfl ?_
      obtain rfl := Option.some.inj h
      exact K
    · replace h := (if_pos hc1).symm.trans h
      refine G_iconst (v := 0) dX8_yearsGo_7 (by decide) ?_
      refine G_istore_n (L2 := [(3, .inl 0), (0, .inr (.inr (19, 0))), (1, .inl v1), (2, .inl v2)]) dX8_yearsGo_8 (by decide) rfl ?_
      refine G_sub [(0, .inr (.inr (19, 0))), (1, .inl v1), (2, .inl v2), (3, .inl 0)] [1, 2, 3, 0] rfl ?_
      obtain ⟨q3, hq3, h⟩ := bnd h
      refine X8_yearsGo_L9_ok  400 v1 v2 0 M _  hq3 ?_
      refine G_aload_n dX8_yearsGo_38 rfl ?_
      refine fg_X8_7 rfl (by decide) dX8_yearsGo_39 ?_
      refine G_iconst (v := 1) dX8_yearsGo_42 (by decide) ?_
      refine G_dup2 rfl rfl dX8_yearsGo_43 ?_
      refine al_20 (kk := 1) (v := (q3 20 0 1)) (by decide) (by decide) (by decide) rfl dX8_yearsGo_44 ?_
      refine G_iconst (v := 1) dX8_yearsGo_45 (by decide) ?_
      refine G_iadd dX8_yearsGo_46 ?_
      refine as_20 (kk := 1) (by decide) (by decide) (by decide) dX8_yearsGo_47 ?_
      refine G_iinc (v := (v2 + 1)) (L2 := [(2, .inl (v2 + 1)), (0, .inr (.inr (19, 0))), (1, .inl v1)]) dX8_yearsGo_48 rfl (by first | rfl | (show _ + Int32.ofInt _ = _; rfl)) (by decide) rfl ?_
      refine G_goto (tgt := 2) dX8_yearsGo_51 (by decide) ?_
      refine G_sub [(0, .inr (.inr (19, 0))), (1, .inl v1), (2, .inl (v2 + 1))] [1, 2, 0] rfl ?_
      exact ih v1 (v2 + 1) (up3 q3 20 0 1 ((q3 20 0 1) + 1)) _  h K

def X8_yearsGo (v1 : Int32) (M : Mem) : Option (Mem) := ((X8_yearsGo_L2 400 v1 0 M).bind fun q4 => (some q4))
set_option maxRecDepth 100000 in
set_option maxHeartbeats 4000000 in
theorem X8_yearsGo_ok  {v1 : Int32} {M N : Mem} {res : Mem} (h : X8_yearsGo v1 M = some res) : Spec mt_X8_yearsGo 5 [.inr (.inr (19, 0)), .inl v1] (N, M) none (N, res) := by
  unfold X8_yearsGo at h
  refine Spec_of_G (by decide) rfl (Nat.le_of_ble_eq_true rfl) ?_
  refine G_sub [(0, .inr (.inr (19, 0))), (1, .inl v1)] [0, 1] rfl ?_
  refine G_iconst (v := 0) dX8_yearsGo_0 (by decide) ?_
  refine G_istore_n (L2 := [(2, .inl 0), (0, .inr (.inr (19, 0))), (1, .inl v1)]) dX8_yearsGo_1 (by decide) rfl ?_
  refine G_sub [(0, .inr (.inr (19, 0))), (1, .inl v1), (2, .inl 0)] [1, 2, 0] rfl ?_
  obtain ⟨q4, hq4, h⟩ := bnd h
  refine X8_yearsGo_L2_ok  400 v1 0 M _  hq4 ?_
  obtain rfl := Option.some.inj h
  exact G_ret dX8_yearsGo_54 trivial rfl rfl

theorem dX8_handles_0 : decode cX8_handles 0 = .ok (.iconst 0, 1) := by decide +kernel
theorem dX8_handles_1 : decode cX8_handles 1 = .ok (.istore_n 1, 1) := by decide +kernel
theorem dX8_handles_2 : decode cX8_handles 2 = .ok (.iconst 0, 1) := by decide +kernel
theorem dX8_handles_3 : decode cX8_handles 3 = .ok (.istore_n 2, 1) := by decide +kernel
theorem dX8_handles_4 : decode cX8_handles 4 = .ok (.iload_n 2, 1) := by decide +kernel
theorem dX8_handles_5 : decode cX8_handles 5 = .ok (.aload_n 0, 1) := by decide +kernel
theorem dX8_handles_6 : decode cX8_handles 6 = .ok (.getfield 7, 3) := by decide +kernel
theorem dX8_handles_9 : decode cX8_handles 9 = .ok (.iconst 0, 1) := by decide +kernel
theorem dX8_handles_10 : decode cX8_handles 10 = .ok (.iaload, 1) := by decide +kernel
theorem dX8_handles_11 : decode cX8_handles 11 = .ok (.if_icmp .ge 19, 3) := by decide +kernel
theorem dX8_handles_14 : decode cX8_handles 14 = .ok (.iload_n 1, 1) := by decide +kernel
theorem dX8_handles_15 : decode cX8_handles 15 = .ok (.aload_n 0, 1) := by decide +kernel
theorem dX8_handles_16 : decode cX8_handles 16 = .ok (.iload_n 2, 1) := by decide +kernel
theorem dX8_handles_17 : decode cX8_handles 17 = .ok (.bipush 6, 2) := by decide +kernel
theorem dX8_handles_19 : decode cX8_handles 19 = .ok (.invokevirtual 53, 3) := by decide +kernel
theorem dX8_handles_22 : decode cX8_handles 22 = .ok (.iadd, 1) := by decide +kernel
theorem dX8_handles_23 : decode cX8_handles 23 = .ok (.istore_n 1, 1) := by decide +kernel
theorem dX8_handles_24 : decode cX8_handles 24 = .ok (.iinc 2 1, 3) := by decide +kernel
theorem dX8_handles_27 : decode cX8_handles 27 = .ok (.goto (-23), 3) := by decide +kernel
theorem dX8_handles_30 : decode cX8_handles 30 = .ok (.iload_n 1, 1) := by decide +kernel
theorem dX8_handles_31 : decode cX8_handles 31 = .ok (.ireturn, 1) := by decide +kernel
def X8_handles_L4 : Nat → Int32 → Int32 → Mem → Option (Int32)
  | 0, _, _, _ => none
  | fu + 1, v1, v2, M => (if v2 < (M 20 0 0) then ((X8_of v2 6 M).bind fun q1 => (X8_handles_L4 fu (v1 + q1) (v2 + 1) M)) else (some v1))
set_option maxRecDepth 100000 in
set_option maxHeartbeats 4000000 in
theorem X8_handles_L4_ok  {r : Option AV} {M' : MM} : ∀ (fu : Nat) (v1 : Int32) (v2 : Int32) (M N : Mem) {res : Int32} (h : X8_handles_L4 fu v1 v2 M = some res) (K : G mt_X8_handles 1 r M' 30 [(1, .inl res)] [] (N, M)), G mt_X8_handles 1 r M' 4 [(0, .inr (.inr (19, 0))), (1, .inl v1), (2, .inl v2)] [] (N, M) := by
  intro fu
  induction fu with
  | zero =>
    intro v1 v2 M N res h
    cases h
  | succ fu ih =>
    intro v1 v2 M N res h K
    replace h : (if v2 < (M 20 0 0) then ((X8_of v2 6 M).bind fun q1 => (X8_handles_L4 fu (v1 + q1) (v2 + 1) M)) else (some v1)) = some res := h
    refine G_iload_n dX8_handles_4 rfl ?_
    refine G_aload_n dX8_handles_5 rfl ?_
    refine fg_X8_7 rfl (by decide) dX8_handles_6 ?_
    refine G_iconst (v := 0) dX8_handles_9 (by decide) ?_
    refine al_20 (kk := 0) (v := (M 20 0 0)) (by decide) (by decide) (by decide) rfl dX8_handles_10 ?_
    refine G_icmp_ge (tgt := 30) dX8_handles_11 (by decide) (fun hc1 => ?_) (fun hc1 => ?_)
    · replace h := (if_neg hc1).symm.trans h
      refine G_sub [(1, .inl v1)] [1] rfl ?_
      obtain rfl := Option.some.inj h
      exact K
    · replace h := (if_pos hc1).symm.trans h
      refine G_iload_n dX8_handles_14 rfl ?_
      refine G_aload_n dX8_handles_15 rfl ?_
      refine G_iload_n dX8_handles_16 rfl ?_
      refine G_bipush (v := 6) dX8_handles_17 (by decide) ?_
      obtain ⟨q1, hq1, h⟩ := bnd h
      refine G_callVv (T := TX8) (N := 22) (f := 19) (i := 0) (X8_of_ok hq1) ok_X8_of ml_X8_53 (by decide) rfl (by decide) (by decide) (by decide) rfl rfl (Nat.le_of_ble_eq_true rfl) dX8_handles_19 ?_
      refine G_iadd dX8_handles_22 ?_
      refine G_istore_n (L2 := [(1, .inl (v1 + q1)), (0, .inr (.inr (19, 0))), (2, .inl v2)]) dX8_handles_23 (by decide) rfl ?_
      refine G_iinc (v := (v2 + 1)) (L2 := [(2, .inl (v2 + 1)), (1, .inl (v1 + q1)), (0, .inr (.inr (19, 0)))]) dX8_handles_24 rfl (by first | rfl | (show _ + Int32.ofInt _ = _; rfl)) (by decide) rfl ?_
      refine G_goto (tgt := 4) dX8_handles_27 (by decide) ?_
      refine G_sub [(0, .inr (.inr (19, 0))), (1, .inl (v1 + q1)), (2, .inl (v2 + 1))] [2, 1, 0] rfl ?_
      exact ih (v1 + q1) (v2 + 1) M _  h K

def X8_handles  (M : Mem) : Option (Int32) := ((X8_handles_L4 400 0 0 M).bind fun q2 => (some q2))
set_option maxRecDepth 100000 in
set_option maxHeartbeats 4000000 in
theorem X8_handles_ok  {M N : Mem} {res : Int32} (h : X8_handles M = some res) : Spec mt_X8_handles 1 [.inr (.inr (19, 0))] (N, M) (some (.inl res)) (N, M) := by
  unfold X8_handles at h
  refine Spec_of_G (by decide) rfl (Nat.le_of_ble_eq_true rfl) ?_
  refine G_sub [(0, .inr (.inr (19, 0)))] [0] rfl ?_
  refine G_iconst (v := 0) dX8_handles_0 (by decide) ?_
  refine G_istore_n (L2 := [(1, .inl 0), (0, .inr (.inr (19, 0)))]) dX8_handles_1 (by decide) rfl ?_
  refine G_iconst (v := 0) dX8_handles_2 (by decide) ?_
  refine G_istore_n (L2 := [(2, .inl 0), (1, .inl 0), (0, .inr (.inr (19, 0)))]) dX8_handles_3 (by decide) rfl ?_
  refine G_sub [(0, .inr (.inr (19, 0))), (1, .inl 0), (2, .inl 0)] [2, 1, 0] rfl ?_
  obtain ⟨q2, hq2, h⟩ := bnd h
  refine X8_handles_L4_ok  400 0 0 M _  hq2 ?_
  refine G_iload_n dX8_handles_30 rfl ?_
  obtain rfl := Option.some.inj h
  exact G_ret dX8_handles_31 trivial rfl rfl

theorem dX8_years_0 : decode cX8_years 0 = .ok (.iload_n 1, 1) := by decide +kernel
theorem dX8_years_1 : decode cX8_years 1 = .ok (.i2l, 1) := by decide +kernel
theorem dX8_years_2 : decode cX8_years 2 = .ok (.lconst 1, 1) := by decide +kernel
theorem dX8_years_3 : decode cX8_years 3 = .ok (.ldc2_w 196, 3) := by decide +kernel
theorem dX8_years_6 : decode cX8_years 6 = .ok (.invokestatic 47, 3) := by decide +kernel
theorem dX8_years_9 : decode cX8_years 9 = .ok (.ifCond .ne 9, 3) := by decide +kernel
theorem dX8_years_12 : decode cX8_years 12 = .ok (.aload_n 0, 1) := by decide +kernel
theorem dX8_years_13 : decode cX8_years 13 = .ok (.iconst 1, 1) := by decide +kernel
theorem dX8_years_14 : decode cX8_years 14 = .ok (.invokevirtual 130, 3) := by decide +kernel
theorem dX8_years_17 : decode cX8_years 17 = .ok (.ireturn, 1) := by decide +kernel
theorem dX8_years_18 : decode cX8_years 18 = .ok (.aload_n 0, 1) := by decide +kernel
theorem dX8_years_19 : decode cX8_years 19 = .ok (.getfield 7, 3) := by decide +kernel
theorem dX8_years_22 : decode cX8_years 22 = .ok (.iconst 1, 1) := by decide +kernel
theorem dX8_years_23 : decode cX8_years 23 = .ok (.iaload, 1) := by decide +kernel
theorem dX8_years_24 : decode cX8_years 24 = .ok (.iload_n 1, 1) := by decide +kernel
theorem dX8_years_25 : decode cX8_years 25 = .ok (.iadd, 1) := by decide +kernel
theorem dX8_years_26 : decode cX8_years 26 = .ok (.sipush 9999, 3) := by decide +kernel
theorem dX8_years_29 : decode cX8_years 29 = .ok (.if_icmp .le 9, 3) := by decide +kernel
theorem dX8_years_32 : decode cX8_years 32 = .ok (.aload_n 0, 1) := by decide +kernel
theorem dX8_years_33 : decode cX8_years 33 = .ok (.iconst 3, 1) := by decide +kernel
theorem dX8_years_34 : decode cX8_years 34 = .ok (.invokevirtual 130, 3) := by decide +kernel
theorem dX8_years_37 : decode cX8_years 37 = .ok (.ireturn, 1) := by decide +kernel
theorem dX8_years_38 : decode cX8_years 38 = .ok (.aload_n 0, 1) := by decide +kernel
theorem dX8_years_39 : decode cX8_years 39 = .ok (.iload_n 1, 1) := by decide +kernel
theorem dX8_years_40 : decode cX8_years 40 = .ok (.invokevirtual 198, 3) := by decide +kernel
theorem dX8_years_43 : decode cX8_years 43 = .ok (.aload_n 0, 1) := by decide +kernel
theorem dX8_years_44 : decode cX8_years 44 = .ok (.invokevirtual 201, 3) := by decide +kernel
theorem dX8_years_47 : decode cX8_years 47 = .ok (.ireturn, 1) := by decide +kernel
def X8_years (v1 : Int32) (M : Mem) : Option (Int32 × Mem) := (if (X8_in (v1.toInt64) (1 : Int64) (60 : Int64)) = 0 then ((X8_finds 1 M).bind fun q4 => (some (q4.1, q4.2))) else (if 9999 < ((M 20 0 1) + v1) then ((X8_finds 3 M).bind fun q3 => (some (q3.1, q3.2))) else ((X8_yearsGo v1 M).bind fun q1 => ((X8_handles q1).bind fun q2 => (some (q2, q1))))))
set_option maxRecDepth 100000 in
set_option maxHeartbeats 4000000 in
theorem X8_years_ok  {v1 : Int32} {M N : Mem} {res : Int32 × Mem} (h : X8_years v1 M = some res) : Spec mt_X8_years 6 [.inr (.inr (19, 0)), .inl v1] (N, M) (some (.inl res.1)) (N, res.2) := by
  unfold X8_years at h
  refine Spec_of_G (by decide) rfl (Nat.le_of_ble_eq_true rfl) ?_
  refine G_sub [(0, .inr (.inr (19, 0))), (1, .inl v1)] [0, 1] rfl ?_
  refine G_iload_n dX8_years_0 rfl ?_
  refine G_i2l dX8_years_1 ?_
  refine G_lconst (v := 1) dX8_years_2 (by decide) ?_
  refine G_ldc2 ko_X8_196 dX8_years_3 ?_
  refine G_callSv  (X8_in_ok rfl) ok_X8_in ml_X8_47 (by decide) rfl rfl (Nat.le_of_ble_eq_true rfl) dX8_years_6 ?_
  refine G_if_ne (tgt := 18) dX8_years_9 (by decide) (fun hc1 => ?_) (fun hc1 => ?_)
  · replace h := (if_neg hc1).symm.trans h
    refine G_aload_n dX8_years_18 rfl ?_
    refine fg_X8_7 rfl (by decide) dX8_years_19 ?_
    refine G_iconst (v := 1) dX8_years_22 (by decide) ?_
    refine al_20 (kk := 1) (v := (M 20 0 1)) (by decide) (by decide) (by decide) rfl dX8_years_23 ?_
    refine G_iload_n dX8_years_24 rfl ?_
    refine G_iadd dX8_years_25 ?_
    refine G_sipush (v := 9999) dX8_years_26 (by decide) ?_
    refine G_icmp_le (tgt := 38) dX8_years_29 (by decide) (fun hc2 => ?_) (fun hc2 => ?_)
    · replace h := (if_neg hc2).symm.trans h
      refine G_aload_n dX8_years_38 rfl ?_
      refine G_iload_n dX8_years_39 rfl ?_
      obtain ⟨q1, hq1, h⟩ := bnd h
      refine G_callVn (T := TX8) (N := 22) (f := 19) (i := 0) (X8_yearsGo_ok hq1) ok_X8_yearsGo ml_X8_198 (by decide) rfl (by decide) (by decide) (by decide) rfl rfl (Nat.le_of_ble_eq_true rfl) dX8_years_40 ?_
      refine G_aload_n dX8_years_43 rfl ?_
      obtain ⟨q2, hq2, h⟩ := bnd h
      refine G_callVv (T := TX8) (N := 22) (f := 19) (i := 0) (X8_handles_ok hq2) ok_X8_handles ml_X8_201 (by decide) rfl (by decide) (by decide) (by decide) rfl rfl (Nat.le_of_ble_eq_true rfl) dX8_years_44 ?_
      obtain rfl := Option.some.inj h
      exact G_ret dX8_years_47 trivial rfl rfl
    · replace h := (if_pos hc2).symm.trans h
      refine G_aload_n dX8_years_32 rfl ?_
      refine G_iconst (v := 3) dX8_years_33 (by decide) ?_
      obtain ⟨q3, hq3, h⟩ := bnd h
      refine G_callVv (T := TX8) (N := 22) (f := 19) (i := 0) (X8_finds_ok hq3) ok_X8_finds ml_X8_130 (by decide) rfl (by decide) (by decide) (by decide) rfl rfl (Nat.le_of_ble_eq_true rfl) dX8_years_34 ?_
      obtain rfl := Option.some.inj h
      exact G_ret dX8_years_37 trivial rfl rfl
  · replace h := (if_pos hc1).symm.trans h
    refine G_aload_n dX8_years_12 rfl ?_
    refine G_iconst (v := 1) dX8_years_13 (by decide) ?_
    obtain ⟨q4, hq4, h⟩ := bnd h
    refine G_callVv (T := TX8) (N := 22) (f := 19) (i := 0) (X8_finds_ok hq4) ok_X8_finds ml_X8_130 (by decide) rfl (by decide) (by decide) (by decide) rfl rfl (Nat.le_of_ble_eq_true rfl) dX8_years_14 ?_
    obtain rfl := Option.some.inj h
    exact G_ret dX8_years_17 trivial rfl rfl

theorem dX8_drawn_0 : decode cX8_drawn 0 = .ok (.aload_n 0, 1) := by decide +kernel
theorem dX8_drawn_1 : decode cX8_drawn 1 = .ok (.getfield 7, 3) := by decide +kernel
theorem dX8_drawn_4 : decode cX8_drawn 4 = .ok (.iconst 3, 1) := by decide +kernel
theorem dX8_drawn_5 : decode cX8_drawn 5 = .ok (.aload_n 0, 1) := by decide +kernel
theorem dX8_drawn_6 : decode cX8_drawn 6 = .ok (.getfield 7, 3) := by decide +kernel
theorem dX8_drawn_9 : decode cX8_drawn 9 = .ok (.iconst 3, 1) := by decide +kernel
theorem dX8_drawn_10 : decode cX8_drawn 10 = .ok (.iaload, 1) := by decide +kernel
theorem dX8_drawn_11 : decode cX8_drawn 11 = .ok (.ldc 204, 2) := by decide +kernel
theorem dX8_drawn_13 : decode cX8_drawn 13 = .ok (.imul, 1) := by decide +kernel
theorem dX8_drawn_14 : decode cX8_drawn 14 = .ok (.sipush 12345, 3) := by decide +kernel
theorem dX8_drawn_17 : decode cX8_drawn 17 = .ok (.iadd, 1) := by decide +kernel
theorem dX8_drawn_18 : decode cX8_drawn 18 = .ok (.iastore, 1) := by decide +kernel
theorem dX8_drawn_19 : decode cX8_drawn 19 = .ok (.aload_n 0, 1) := by decide +kernel
theorem dX8_drawn_20 : decode cX8_drawn 20 = .ok (.getfield 7, 3) := by decide +kernel
theorem dX8_drawn_23 : decode cX8_drawn 23 = .ok (.iconst 3, 1) := by decide +kernel
theorem dX8_drawn_24 : decode cX8_drawn 24 = .ok (.iaload, 1) := by decide +kernel
theorem dX8_drawn_25 : decode cX8_drawn 25 = .ok (.bipush 8, 2) := by decide +kernel
theorem dX8_drawn_27 : decode cX8_drawn 27 = .ok (.iushr, 1) := by decide +kernel
theorem dX8_drawn_28 : decode cX8_drawn 28 = .ok (.ireturn, 1) := by decide +kernel
def X8_drawn  (M : Mem) : Option (Int32 × Mem) := (some ((jushr (((M 20 0 3) * 1103515245) + 12345) 8), (up3 M 20 0 3 (((M 20 0 3) * 1103515245) + 12345))))
set_option maxRecDepth 100000 in
set_option maxHeartbeats 4000000 in
theorem X8_drawn_ok  {M N : Mem} {res : Int32 × Mem} (h : X8_drawn M = some res) : Spec mt_X8_drawn 0 [.inr (.inr (19, 0))] (N, M) (some (.inl res.1)) (N, res.2) := by
  unfold X8_drawn at h
  refine Spec_of_G (by decide) rfl (Nat.le_of_ble_eq_true rfl) ?_
  refine G_sub [(0, .inr (.inr (19, 0)))] [0] rfl ?_
  refine G_aload_n dX8_drawn_0 rfl ?_
  refine fg_X8_7 rfl (by decide) dX8_drawn_1 ?_
  refine G_iconst (v := 3) dX8_drawn_4 (by decide) ?_
  refine G_aload_n dX8_drawn_5 rfl ?_
  refine fg_X8_7 rfl (by decide) dX8_drawn_6 ?_
  refine G_iconst (v := 3) dX8_drawn_9 (by decide) ?_
  refine al_20 (kk := 3) (v := (M 20 0 3)) (by decide) (by decide) (by decide) rfl dX8_drawn_10 ?_
  refine G_ldc ko_X8_204 dX8_drawn_11 ?_
  refine G_imul dX8_drawn_13 ?_
  refine G_sipush (v := 12345) dX8_drawn_14 (by decide) ?_
  refine G_iadd dX8_drawn_17 ?_
  refine as_20 (kk := 3) (by decide) (by decide) (by decide) dX8_drawn_18 ?_
  refine G_aload_n dX8_drawn_19 rfl ?_
  refine fg_X8_7 rfl (by decide) dX8_drawn_20 ?_
  refine G_iconst (v := 3) dX8_drawn_23 (by decide) ?_
  refine al_20 (kk := 3) (v := (((M 20 0 3) * 1103515245) + 12345)) (by decide) (by decide) (by decide) up3_eq dX8_drawn_24 ?_
  refine G_bipush (v := 8) dX8_drawn_25 (by decide) ?_
  refine G_iushr dX8_drawn_27 ?_
  obtain rfl := Option.some.inj h
  exact G_ret dX8_drawn_28 trivial rfl rfl

theorem dX8_loose_0 : decode cX8_loose 0 = .ok (.iload_n 1, 1) := by decide +kernel
theorem dX8_loose_1 : decode cX8_loose 1 = .ok (.i2l, 1) := by decide +kernel
theorem dX8_loose_2 : decode cX8_loose 2 = .ok (.lconst 1, 1) := by decide +kernel
theorem dX8_loose_3 : decode cX8_loose 3 = .ok (.ldc2_w 205, 3) := by decide +kernel
theorem dX8_loose_6 : decode cX8_loose 6 = .ok (.invokestatic 47, 3) := by decide +kernel
theorem dX8_loose_9 : decode cX8_loose 9 = .ok (.ifCond .ne 9, 3) := by decide +kernel
theorem dX8_loose_12 : decode cX8_loose 12 = .ok (.aload_n 0, 1) := by decide +kernel
theorem dX8_loose_13 : decode cX8_loose 13 = .ok (.iconst 1, 1) := by decide +kernel
theorem dX8_loose_14 : decode cX8_loose 14 = .ok (.invokevirtual 130, 3) := by decide +kernel
theorem dX8_loose_17 : decode cX8_loose 17 = .ok (.ireturn, 1) := by decide +kernel
theorem dX8_loose_18 : decode cX8_loose 18 = .ok (.aload_n 0, 1) := by decide +kernel
theorem dX8_loose_19 : decode cX8_loose 19 = .ok (.getfield 7, 3) := by decide +kernel
theorem dX8_loose_22 : decode cX8_loose 22 = .ok (.iconst 1, 1) := by decide +kernel
theorem dX8_loose_23 : decode cX8_loose 23 = .ok (.iaload, 1) := by decide +kernel
theorem dX8_loose_24 : decode cX8_loose 24 = .ok (.iload_n 1, 1) := by decide +kernel
theorem dX8_loose_25 : decode cX8_loose 25 = .ok (.iadd, 1) := by decide +kernel
theorem dX8_loose_26 : decode cX8_loose 26 = .ok (.sipush 9999, 3) := by decide +kernel
theorem dX8_loose_29 : decode cX8_loose 29 = .ok (.if_icmp .le 9, 3) := by decide +kernel
theorem dX8_loose_32 : decode cX8_loose 32 = .ok (.aload_n 0, 1) := by decide +kernel
theorem dX8_loose_33 : decode cX8_loose 33 = .ok (.iconst 3, 1) := by decide +kernel
theorem dX8_loose_34 : decode cX8_loose 34 = .ok (.invokevirtual 130, 3) := by decide +kernel
theorem dX8_loose_37 : decode cX8_loose 37 = .ok (.ireturn, 1) := by decide +kernel
theorem dX8_loose_38 : decode cX8_loose 38 = .ok (.iconst 0, 1) := by decide +kernel
theorem dX8_loose_39 : decode cX8_loose 39 = .ok (.istore_n 2, 1) := by decide +kernel
theorem dX8_loose_40 : decode cX8_loose 40 = .ok (.iload_n 2, 1) := by decide +kernel
theorem dX8_loose_41 : decode cX8_loose 41 = .ok (.iload_n 1, 1) := by decide +kernel
theorem dX8_loose_42 : decode cX8_loose 42 = .ok (.if_icmp .ge 48, 3) := by decide +kernel
theorem dX8_loose_45 : decode cX8_loose 45 = .ok (.aload_n 0, 1) := by decide +kernel
theorem dX8_loose_46 : decode cX8_loose 46 = .ok (.invokevirtual 207, 3) := by decide +kernel
theorem dX8_loose_49 : decode cX8_loose 49 = .ok (.istore_n 3, 1) := by decide +kernel
theorem dX8_loose_50 : decode cX8_loose 50 = .ok (.aload_n 0, 1) := by decide +kernel
theorem dX8_loose_51 : decode cX8_loose 51 = .ok (.getfield 7, 3) := by decide +kernel
theorem dX8_loose_54 : decode cX8_loose 54 = .ok (.iconst 0, 1) := by decide +kernel
theorem dX8_loose_55 : decode cX8_loose 55 = .ok (.iaload, 1) := by decide +kernel
theorem dX8_loose_56 : decode cX8_loose 56 = .ok (.ifCond .le 23, 3) := by decide +kernel
theorem dX8_loose_59 : decode cX8_loose 59 = .ok (.aload_n 0, 1) := by decide +kernel
theorem dX8_loose_60 : decode cX8_loose 60 = .ok (.iload_n 3, 1) := by decide +kernel
theorem dX8_loose_61 : decode cX8_loose 61 = .ok (.aload_n 0, 1) := by decide +kernel
theorem dX8_loose_62 : decode cX8_loose 62 = .ok (.getfield 7, 3) := by decide +kernel
theorem dX8_loose_65 : decode cX8_loose 65 = .ok (.iconst 0, 1) := by decide +kernel
theorem dX8_loose_66 : decode cX8_loose 66 = .ok (.iaload, 1) := by decide +kernel
theorem dX8_loose_67 : decode cX8_loose 67 = .ok (.irem, 1) := by decide +kernel
theorem dX8_loose_68 : decode cX8_loose 68 = .ok (.iconst 3, 1) := by decide +kernel
theorem dX8_loose_69 : decode cX8_loose 69 = .ok (.iload_n 3, 1) := by decide +kernel
theorem dX8_loose_70 : decode cX8_loose 70 = .ok (.bipush 8, 2) := by decide +kernel
theorem dX8_loose_72 : decode cX8_loose 72 = .ok (.idiv, 1) := by decide +kernel
theorem dX8_loose_73 : decode cX8_loose 73 = .ok (.bipush 10, 2) := by decide +kernel
theorem dX8_loose_75 : decode cX8_loose 75 = .ok (.irem, 1) := by decide +kernel
theorem dX8_loose_76 : decode cX8_loose 76 = .ok (.invokevirtual 149, 3) := by decide +kernel
theorem dX8_loose_79 : decode cX8_loose 79 = .ok (.aload_n 0, 1) := by decide +kernel
theorem dX8_loose_80 : decode cX8_loose 80 = .ok (.iconst 1, 1) := by decide +kernel
theorem dX8_loose_81 : decode cX8_loose 81 = .ok (.invokevirtual 198, 3) := by decide +kernel
theorem dX8_loose_84 : decode cX8_loose 84 = .ok (.iinc 2 1, 3) := by decide +kernel
theorem dX8_loose_87 : decode cX8_loose 87 = .ok (.goto (-47), 3) := by decide +kernel
theorem dX8_loose_90 : decode cX8_loose 90 = .ok (.aload_n 0, 1) := by decide +kernel
theorem dX8_loose_91 : decode cX8_loose 91 = .ok (.invokevirtual 201, 3) := by decide +kernel
theorem dX8_loose_94 : decode cX8_loose 94 = .ok (.ireturn, 1) := by decide +kernel
def X8_loose_L40 : Nat → Int32 → Int32 → Mem → Option (Mem)
  | 0, _, _, _ => none
  | fu + 1, v1, v2, M => (if v2 < v1 then ((X8_drawn M).bind fun q1 => (if 0 < (q1.2 20 0 0) then (if (q1.2 20 0 0) = 0 then none else ((X8_sets (jrem q1.1 (q1.2 20 0 0)) 3 (jrem (q1.1 / 8) 10) q1.2).bind fun q4 => ((X8_yearsGo 1 q4).bind fun q5 => (X8_loose_L40 fu v1 (v2 + 1) q5)))) else ((X8_yearsGo 1 q1.2).bind fun q2 => (X8_loose_L40 fu v1 (v2 + 1) q2)))) else (some M))
set_option maxRecDepth 100000 in
set_option maxHeartbeats 4000000 in
theorem X8_loose_L40_ok  {r : Option AV} {M' : MM} : ∀ (fu : Nat) (v1 : Int32) (v2 : Int32) (M N : Mem) {res : Mem} (h : X8_loose_L40 fu v1 v2 M = some res) (K : G mt_X8_loose 6 r M' 90 [(0, .inr (.inr (19, 0)))] [] (N, res)), G mt_X8_loose 6 r M' 40 [(0, .inr (.inr (19, 0))), (1, .inl v1), (2, .inl v2)] [] (N, M) := by
  intro fu
  induction fu with
  | zero =>
    intro v1 v2 M N res h
    cases h
  | succ fu ih =>
    intro v1 v2 M N res h K
    replace h : (if v2 < v1 then ((X8_drawn M).bind fun q1 => (if 0 < (q1.2 20 0 0) then (if (q1.2 20 0 0) = 0 then none else ((X8_sets (jrem q1.1 (q1.2 20 0 0)) 3 (jrem (q1.1 / 8) 10) q1.2).bind fun q4 => ((X8_yearsGo 1 q4).bind fun q5 => (X8_loose_L40 fu v1 (v2 + 1) q5)))) else ((X8_yearsGo 1 q1.2).bind fun q2 => (X8_loose_L40 fu v1 (v2 + 1) q2)))) else (some M)) = some res := h
    refine G_iload_n dX8_loose_40 rfl ?_
    refine G_iload_n dX8_loose_41 rfl ?_
    refine G_icmp_ge (tgt := 90) dX8_loose_42 (by decide) (fun hc3 => ?_) (fun hc3 => ?_)
    · replace h := (if_neg hc3).symm.trans h
      refine G_sub [(0, .inr (.inr (19, 0)))] [0] rfl ?_
      obtain rfl := Option.some.inj h
      exact K
    · replace h := (if_pos hc3).symm.trans h
      refine G_aload_n dX8_loose_45 rfl ?_
      obtain ⟨q1, hq1, h⟩ := bnd h
      refine G_callVv (T := TX8) (N := 22) (f := 19) (i := 0) (X8_drawn_ok hq1) ok_X8_drawn ml_X8_207 (by decide) rfl (by decide) (by decide) (by decide) rfl rfl (Nat.le_of_ble_eq_true rfl) dX8_loose_46 ?_
      refine G_istore_n (L2 := [(3, .inl q1.1), (0, .inr (.inr (19, 0))), (1, .inl v1), (2, .inl v2)]) dX8_loose_49 (by decide) rfl ?_
      refine G_aload_n dX8_loose_50 rfl ?_
      refine fg_X8_7 rfl (by decide) dX8_loose_51 ?_
      refine G_iconst (v := 0) dX8_loose_54 (by decide) ?_
      refine al_20 (kk := 0) (v := (q1.2 20 0 0)) (by decide) (by decide) (by decide) rfl dX8_loose_55 ?_
      refine G_if_le (tgt := 79) dX8_loose_56 (by decide) (fun hc4 => ?_) (fun hc4 => ?_)
      · replace h := (if_neg hc4).symm.trans h
        refine G_aload_n dX8_loose_79 rfl ?_
        refine G_iconst (v := 1) dX8_loose_80 (by decide) ?_
        obtain ⟨q2, hq2, h⟩ := bnd h
        refine G_callVn (T := TX8) (N := 22) (f := 19) (i := 0) (X8_yearsGo_ok hq2) ok_X8_yearsGo ml_X8_198 (by decide) rfl (by decide) (by decide) (by decide) rfl rfl (Nat.le_of_ble_eq_true rfl) dX8_loose_81 ?_
        refine G_iinc (v := (v2 + 1)) (L2 := [(2, .inl (v2 + 1)), (3, .inl q1.1), (0, .inr (.inr (19, 0))), (1, .inl v1)]) dX8_loose_84 rfl (by first | rfl | (show _ + Int32.ofInt _ = _; rfl)) (by decide) rfl ?_
        refine G_goto (tgt := 40) dX8_loose_87 (by decide) ?_
        refine G_sub [(0, .inr (.inr (19, 0))), (1, .inl v1), (2, .inl (v2 + 1))] [2, 3, 0] rfl ?_
        exact ih v1 (v2 + 1) q2 _  h K
      · replace h := (if_pos hc4).symm.trans h
        refine G_aload_n dX8_loose_59 rfl ?_
        refine G_iload_n dX8_loose_60 rfl ?_
        refine G_aload_n dX8_loose_61 rfl ?_
        refine fg_X8_7 rfl (by decide) dX8_loose_62 ?_
        refine G_iconst (v := 0) dX8_loose_65 (by decide) ?_
        refine al_20 (kk := 0) (v := (q1.2 20 0 0)) (by decide) (by decide) (by decide) rfl dX8_loose_66 ?_
        obtain ⟨hz3, h⟩ := chkn h
        refine G_irem hz3 dX8_loose_67 ?_
        refine G_iconst (v := 3) dX8_loose_68 (by decide) ?_
        refine G_iload_n dX8_loose_69 rfl ?_
        refine G_bipush (v := 8) dX8_loose_70 (by decide) ?_
        refine G_idiv (by decide) dX8_loose_72 ?_
        refine G_bipush (v := 10) dX8_loose_73 (by decide) ?_
        refine G_irem (by decide) dX8_loose_75 ?_
        obtain ⟨q4, hq4, h⟩ := bnd h
        refine G_callVn (T := TX8) (N := 22) (f := 19) (i := 0) (X8_sets_ok hq4) ok_X8_sets ml_X8_149 (by decide) rfl (by decide) (by decide) (by decide) rfl rfl (Nat.le_of_ble_eq_true rfl) dX8_loose_76 ?_
        refine G_aload_n dX8_loose_79 rfl ?_
        refine G_iconst (v := 1) dX8_loose_80 (by decide) ?_
        obtain ⟨q5, hq5, h⟩ := bnd h
        refine G_callVn (T := TX8) (N := 22) (f := 19) (i := 0) (X8_yearsGo_ok hq5) ok_X8_yearsGo ml_X8_198 (by decide) rfl (by decide) (by decide) (by decide) rfl rfl (Nat.le_of_ble_eq_true rfl) dX8_loose_81 ?_
        refine G_iinc (v := (v2 + 1)) (L2 := [(2, .inl (v2 + 1)), (3, .inl q1.1), (0, .inr (.inr (19, 0))), (1, .inl v1)]) dX8_loose_84 rfl (by first | rfl | (show _ + Int32.ofInt _ = _; rfl)) (by decide) rfl ?_
        refine G_goto (tgt := 40) dX8_loose_87 (by decide) ?_
        refine G_sub [(0, .inr (.inr (19, 0))), (1, .inl v1), (2, .inl (v2 + 1))] [2, 3, 0] rfl ?_
        exact ih v1 (v2 + 1) q5 _  h K

def X8_loose (v1 : Int32) (M : Mem) : Option (Int32 × Mem) := (if (X8_in (v1.toInt64) (1 : Int64) (40 : Int64)) = 0 then ((X8_finds 1 M).bind fun q9 => (some (q9.1, q9.2))) else (if 9999 < ((M 20 0 1) + v1) then ((X8_finds 3 M).bind fun q8 => (some (q8.1, q8.2))) else ((X8_loose_L40 400 v1 0 M).bind fun q6 => ((X8_handles q6).bind fun q7 => (some (q7, q6))))))
set_option maxRecDepth 100000 in
set_option maxHeartbeats 4000000 in
theorem X8_loose_ok  {v1 : Int32} {M N : Mem} {res : Int32 × Mem} (h : X8_loose v1 M = some res) : Spec mt_X8_loose 6 [.inr (.inr (19, 0)), .inl v1] (N, M) (some (.inl res.1)) (N, res.2) := by
  unfold X8_loose at h
  refine Spec_of_G (by decide) rfl (Nat.le_of_ble_eq_true rfl) ?_
  refine G_sub [(0, .inr (.inr (19, 0))), (1, .inl v1)] [0, 1] rfl ?_
  refine G_iload_n dX8_loose_0 rfl ?_
  refine G_i2l dX8_loose_1 ?_
  refine G_lconst (v := 1) dX8_loose_2 (by decide) ?_
  refine G_ldc2 ko_X8_205 dX8_loose_3 ?_
  refine G_callSv  (X8_in_ok rfl) ok_X8_in ml_X8_47 (by decide) rfl rfl (Nat.le_of_ble_eq_true rfl) dX8_loose_6 ?_
  refine G_if_ne (tgt := 18) dX8_loose_9 (by decide) (fun hc1 => ?_) (fun hc1 => ?_)
  · replace h := (if_neg hc1).symm.trans h
    refine G_aload_n dX8_loose_18 rfl ?_
    refine fg_X8_7 rfl (by decide) dX8_loose_19 ?_
    refine G_iconst (v := 1) dX8_loose_22 (by decide) ?_
    refine al_20 (kk := 1) (v := (M 20 0 1)) (by decide) (by decide) (by decide) rfl dX8_loose_23 ?_
    refine G_iload_n dX8_loose_24 rfl ?_
    refine G_iadd dX8_loose_25 ?_
    refine G_sipush (v := 9999) dX8_loose_26 (by decide) ?_
    refine G_icmp_le (tgt := 38) dX8_loose_29 (by decide) (fun hc2 => ?_) (fun hc2 => ?_)
    · replace h := (if_neg hc2).symm.trans h
      refine G_iconst (v := 0) dX8_loose_38 (by decide) ?_
      refine G_istore_n (L2 := [(2, .inl 0), (0, .inr (.inr (19, 0))), (1, .inl v1)]) dX8_loose_39 (by decide) rfl ?_
      refine G_sub [(0, .inr (.inr (19, 0))), (1, .inl v1), (2, .inl 0)] [1, 2, 0] rfl ?_
      obtain ⟨q6, hq6, h⟩ := bnd h
      refine X8_loose_L40_ok  400 v1 0 M _  hq6 ?_
      refine G_aload_n dX8_loose_90 rfl ?_
      obtain ⟨q7, hq7, h⟩ := bnd h
      refine G_callVv (T := TX8) (N := 22) (f := 19) (i := 0) (X8_handles_ok hq7) ok_X8_handles ml_X8_201 (by decide) rfl (by decide) (by decide) (by decide) rfl rfl (Nat.le_of_ble_eq_true rfl) dX8_loose_91 ?_
      obtain rfl := Option.some.inj h
      exact G_ret dX8_loose_94 trivial rfl rfl
    · replace h := (if_pos hc2).symm.trans h
      refine G_aload_n dX8_loose_32 rfl ?_
      refine G_iconst (v := 3) dX8_loose_33 (by decide) ?_
      obtain ⟨q8, hq8, h⟩ := bnd h
      refine G_callVv (T := TX8) (N := 22) (f := 19) (i := 0) (X8_finds_ok hq8) ok_X8_finds ml_X8_130 (by decide) rfl (by decide) (by decide) (by decide) rfl rfl (Nat.le_of_ble_eq_true rfl) dX8_loose_34 ?_
      obtain rfl := Option.some.inj h
      exact G_ret dX8_loose_37 trivial rfl rfl
  · replace h := (if_pos hc1).symm.trans h
    refine G_aload_n dX8_loose_12 rfl ?_
    refine G_iconst (v := 1) dX8_loose_13 (by decide) ?_
    obtain ⟨q9, hq9, h⟩ := bnd h
    refine G_callVv (T := TX8) (N := 22) (f := 19) (i := 0) (X8_finds_ok hq9) ok_X8_finds ml_X8_130 (by decide) rfl (by decide) (by decide) (by decide) rfl rfl (Nat.le_of_ble_eq_true rfl) dX8_loose_14 ?_
    obtain rfl := Option.some.inj h
    exact G_ret dX8_loose_17 trivial rfl rfl

theorem dX8_keepAside_0 : decode cX8_keepAside 0 = .ok (.iconst 0, 1) := by decide +kernel
theorem dX8_keepAside_1 : decode cX8_keepAside 1 = .ok (.istore_n 1, 1) := by decide +kernel
theorem dX8_keepAside_2 : decode cX8_keepAside 2 = .ok (.iload_n 1, 1) := by decide +kernel
theorem dX8_keepAside_3 : decode cX8_keepAside 3 = .ok (.bipush 96, 2) := by decide +kernel
theorem dX8_keepAside_5 : decode cX8_keepAside 5 = .ok (.if_icmp .ge 21, 3) := by decide +kernel
theorem dX8_keepAside_8 : decode cX8_keepAside 8 = .ok (.aload_n 0, 1) := by decide +kernel
theorem dX8_keepAside_9 : decode cX8_keepAside 9 = .ok (.getfield 16, 3) := by decide +kernel
theorem dX8_keepAside_12 : decode cX8_keepAside 12 = .ok (.iload_n 1, 1) := by decide +kernel
theorem dX8_keepAside_13 : decode cX8_keepAside 13 = .ok (.aload_n 0, 1) := by decide +kernel
theorem dX8_keepAside_14 : decode cX8_keepAside 14 = .ok (.getfield 7, 3) := by decide +kernel
theorem dX8_keepAside_17 : decode cX8_keepAside 17 = .ok (.iload_n 1, 1) := by decide +kernel
theorem dX8_keepAside_18 : decode cX8_keepAside 18 = .ok (.iaload, 1) := by decide +kernel
theorem dX8_keepAside_19 : decode cX8_keepAside 19 = .ok (.iastore, 1) := by decide +kernel
theorem dX8_keepAside_20 : decode cX8_keepAside 20 = .ok (.iinc 1 1, 3) := by decide +kernel
theorem dX8_keepAside_23 : decode cX8_keepAside 23 = .ok (.goto (-21), 3) := by decide +kernel
theorem dX8_keepAside_26 : decode cX8_keepAside 26 = .ok (.return_, 1) := by decide +kernel
def X8_keepAside_L2 : Nat → Int32 → Mem → Option (Mem)
  | 0, _, _ => none
  | fu + 1, v1, M => (if v1 < 96 then (if ib v1 268 = true then (if ib v1 96 = true then (X8_keepAside_L2 fu (v1 + 1) (up3 M 22 0 v1.toNatClampNeg (M 20 0 v1.toNatClampNeg))) else none) else none) else (some M))
set_option maxRecDepth 100000 in
set_option maxHeartbeats 4000000 in
theorem X8_keepAside_L2_ok  {r : Option AV} {M' : MM} : ∀ (fu : Nat) (v1 : Int32) (M N : Mem) {res : Mem} (h : X8_keepAside_L2 fu v1 M = some res) (K : G mt_X8_keepAside 0 r M' 26 [] [] (N, res)), G mt_X8_keepAside 0 r M' 2 [(0, .inr (.inr (19, 0))), (1, .inl v1)] [] (N, M) := by
  intro fu
  induction fu with
  | zero =>
    intro v1 M N res h
    cases h
  | succ fu ih =>
    intro v1 M N res h K
    replace h : (if v1 < 96 then (if ib v1 268 = true then (if ib v1 96 = true then (X8_keepAside_L2 fu (v1 + 1) (up3 M 22 0 v1.toNatClampNeg (M 20 0 v1.toNatClampNeg))) else none) else none) else (some M)) = some res := h
    refine G_iload_n dX8_keepAside_2 rfl ?_
    refine G_bipush (v := 96) dX8_keepAside_3 (by decide) ?_
    refine G_icmp_ge (tgt := 26) dX8_keepAside_5 (by decide) (fun hc1 => ?_) (fun hc1 => ?_)
    · replace h := (if_neg hc1).symm.trans h
      refine G_sub [] [] rfl ?_
      obtain rfl := Option.some.inj h
      exact K
    · replace h := (if_pos hc1).symm.trans h
      refine G_aload_n dX8_keepAside_8 rfl ?_
      refine fg_X8_16 rfl (by decide) dX8_keepAside_9 ?_
      refine G_iload_n dX8_keepAside_12 rfl ?_
      refine G_aload_n dX8_keepAside_13 rfl ?_
      refine fg_X8_7 rfl (by decide) dX8_keepAside_14 ?_
      refine G_iload_n dX8_keepAside_17 rfl ?_
      obtain ⟨hb1, h⟩ := chk h
      have lhb1 := ib_lt hb1
      refine al_20 (kk := v1.toNatClampNeg) (v := (M 20 0 v1.toNatClampNeg)) (by decide) hb1 rfl rfl dX8_keepAside_18 ?_
      obtain ⟨hb2, h⟩ := chk h
      have lhb2 := ib_lt hb2
      refine as_22 (kk := v1.toNatClampNeg) (by decide) hb2 rfl dX8_keepAside_19 ?_
      refine G_iinc (v := (v1 + 1)) (L2 := [(1, .inl (v1 + 1)), (0, .inr (.inr (19, 0)))]) dX8_keepAside_20 rfl (by first | rfl | (show _ + Int32.ofInt _ = _; rfl)) (by decide) rfl ?_
      refine G_goto (tgt := 2) dX8_keepAside_23 (by decide) ?_
      refine G_sub [(0, .inr (.inr (19, 0))), (1, .inl (v1 + 1))] [1, 0] rfl ?_
      exact ih (v1 + 1) (up3 M 22 0 v1.toNatClampNeg (M 20 0 v1.toNatClampNeg)) _  h K

def X8_keepAside  (M : Mem) : Option (Mem) := ((X8_keepAside_L2 400 0 M).bind fun q3 => (some q3))
set_option maxRecDepth 100000 in
set_option maxHeartbeats 4000000 in
theorem X8_keepAside_ok  {M N : Mem} {res : Mem} (h : X8_keepAside M = some res) : Spec mt_X8_keepAside 0 [.inr (.inr (19, 0))] (N, M) none (N, res) := by
  unfold X8_keepAside at h
  refine Spec_of_G (by decide) rfl (Nat.le_of_ble_eq_true rfl) ?_
  refine G_sub [(0, .inr (.inr (19, 0)))] [0] rfl ?_
  refine G_iconst (v := 0) dX8_keepAside_0 (by decide) ?_
  refine G_istore_n (L2 := [(1, .inl 0), (0, .inr (.inr (19, 0)))]) dX8_keepAside_1 (by decide) rfl ?_
  refine G_sub [(0, .inr (.inr (19, 0))), (1, .inl 0)] [1, 0] rfl ?_
  obtain ⟨q3, hq3, h⟩ := bnd h
  refine X8_keepAside_L2_ok  400 0 M _  hq3 ?_
  obtain rfl := Option.some.inj h
  exact G_ret dX8_keepAside_26 trivial rfl rfl

theorem dX8_putBack_0 : decode cX8_putBack 0 = .ok (.iconst 0, 1) := by decide +kernel
theorem dX8_putBack_1 : decode cX8_putBack 1 = .ok (.istore_n 1, 1) := by decide +kernel
theorem dX8_putBack_2 : decode cX8_putBack 2 = .ok (.iload_n 1, 1) := by decide +kernel
theorem dX8_putBack_3 : decode cX8_putBack 3 = .ok (.bipush 96, 2) := by decide +kernel
theorem dX8_putBack_5 : decode cX8_putBack 5 = .ok (.if_icmp .ge 21, 3) := by decide +kernel
theorem dX8_putBack_8 : decode cX8_putBack 8 = .ok (.aload_n 0, 1) := by decide +kernel
theorem dX8_putBack_9 : decode cX8_putBack 9 = .ok (.getfield 7, 3) := by decide +kernel
theorem dX8_putBack_12 : decode cX8_putBack 12 = .ok (.iload_n 1, 1) := by decide +kernel
theorem dX8_putBack_13 : decode cX8_putBack 13 = .ok (.aload_n 0, 1) := by decide +kernel
theorem dX8_putBack_14 : decode cX8_putBack 14 = .ok (.getfield 16, 3) := by decide +kernel
theorem dX8_putBack_17 : decode cX8_putBack 17 = .ok (.iload_n 1, 1) := by decide +kernel
theorem dX8_putBack_18 : decode cX8_putBack 18 = .ok (.iaload, 1) := by decide +kernel
theorem dX8_putBack_19 : decode cX8_putBack 19 = .ok (.iastore, 1) := by decide +kernel
theorem dX8_putBack_20 : decode cX8_putBack 20 = .ok (.iinc 1 1, 3) := by decide +kernel
theorem dX8_putBack_23 : decode cX8_putBack 23 = .ok (.goto (-21), 3) := by decide +kernel
theorem dX8_putBack_26 : decode cX8_putBack 26 = .ok (.return_, 1) := by decide +kernel
def X8_putBack_L2 : Nat → Int32 → Mem → Option (Mem)
  | 0, _, _ => none
  | fu + 1, v1, M => (if v1 < 96 then (if ib v1 96 = true then (if ib v1 268 = true then (X8_putBack_L2 fu (v1 + 1) (up3 M 20 0 v1.toNatClampNeg (M 22 0 v1.toNatClampNeg))) else none) else none) else (some M))
set_option maxRecDepth 100000 in
set_option maxHeartbeats 4000000 in
theorem X8_putBack_L2_ok  {r : Option AV} {M' : MM} : ∀ (fu : Nat) (v1 : Int32) (M N : Mem) {res : Mem} (h : X8_putBack_L2 fu v1 M = some res) (K : G mt_X8_putBack 0 r M' 26 [] [] (N, res)), G mt_X8_putBack 0 r M' 2 [(0, .inr (.inr (19, 0))), (1, .inl v1)] [] (N, M) := by
  intro fu
  induction fu with
  | zero =>
    intro v1 M N res h
    cases h
  | succ fu ih =>
    intro v1 M N res h K
    replace h : (if v1 < 96 then (if ib v1 96 = true then (if ib v1 268 = true then (X8_putBack_L2 fu (v1 + 1) (up3 M 20 0 v1.toNatClampNeg (M 22 0 v1.toNatClampNeg))) else none) else none) else (some M)) = some res := h
    refine G_iload_n dX8_putBack_2 rfl ?_
    refine G_bipush (v := 96) dX8_putBack_3 (by decide) ?_
    refine G_icmp_ge (tgt := 26) dX8_putBack_5 (by decide) (fun hc1 => ?_) (fun hc1 => ?_)
    · replace h := (if_neg hc1).symm.trans h
      refine G_sub [] [] rfl ?_
      obtain rfl := Option.some.inj h
      exact K
    · replace h := (if_pos hc1).symm.trans h
      refine G_aload_n dX8_putBack_8 rfl ?_
      refine fg_X8_7 rfl (by decide) dX8_putBack_9 ?_
      refine G_iload_n dX8_putBack_12 rfl ?_
      refine G_aload_n dX8_putBack_13 rfl ?_
      refine fg_X8_16 rfl (by decide) dX8_putBack_14 ?_
      refine G_iload_n dX8_putBack_17 rfl ?_
      obtain ⟨hb1, h⟩ := chk h
      have lhb1 := ib_lt hb1
      refine al_22 (kk := v1.toNatClampNeg) (v := (M 22 0 v1.toNatClampNeg)) (by decide) hb1 rfl rfl dX8_putBack_18 ?_
      obtain ⟨hb2, h⟩ := chk h
      have lhb2 := ib_lt hb2
      refine as_20 (kk := v1.toNatClampNeg) (by decide) hb2 rfl dX8_putBack_19 ?_
      refine G_iinc (v := (v1 + 1)) (L2 := [(1, .inl (v1 + 1)), (0, .inr (.inr (19, 0)))]) dX8_putBack_20 rfl (by first | rfl | (show _ + Int32.ofInt _ = _; rfl)) (by decide) rfl ?_
      refine G_goto (tgt := 2) dX8_putBack_23 (by decide) ?_
      refine G_sub [(0, .inr (.inr (19, 0))), (1, .inl (v1 + 1))] [1, 0] rfl ?_
      exact ih (v1 + 1) (up3 M 20 0 v1.toNatClampNeg (M 22 0 v1.toNatClampNeg)) _  h K

def X8_putBack  (M : Mem) : Option (Mem) := ((X8_putBack_L2 400 0 M).bind fun q3 => (some q3))
set_option maxRecDepth 100000 in
set_option maxHeartbeats 4000000 in
theorem X8_putBack_ok  {M N : Mem} {res : Mem} (h : X8_putBack M = some res) : Spec mt_X8_putBack 0 [.inr (.inr (19, 0))] (N, M) none (N, res) := by
  unfold X8_putBack at h
  refine Spec_of_G (by decide) rfl (Nat.le_of_ble_eq_true rfl) ?_
  refine G_sub [(0, .inr (.inr (19, 0)))] [0] rfl ?_
  refine G_iconst (v := 0) dX8_putBack_0 (by decide) ?_
  refine G_istore_n (L2 := [(1, .inl 0), (0, .inr (.inr (19, 0)))]) dX8_putBack_1 (by decide) rfl ?_
  refine G_sub [(0, .inr (.inr (19, 0))), (1, .inl 0)] [1, 0] rfl ?_
  obtain ⟨q3, hq3, h⟩ := bnd h
  refine X8_putBack_L2_ok  400 0 M _  hq3 ?_
  obtain rfl := Option.some.inj h
  exact G_ret dX8_putBack_26 trivial rfl rfl

theorem dX8_then_0 : decode cX8_then 0 = .ok (.iload_n 1, 1) := by decide +kernel
theorem dX8_then_1 : decode cX8_then 1 = .ok (.i2l, 1) := by decide +kernel
theorem dX8_then_2 : decode cX8_then 2 = .ok (.lconst 0, 1) := by decide +kernel
theorem dX8_then_3 : decode cX8_then 3 = .ok (.ldc2_w 196, 3) := by decide +kernel
theorem dX8_then_6 : decode cX8_then 6 = .ok (.invokestatic 47, 3) := by decide +kernel
theorem dX8_then_9 : decode cX8_then 9 = .ok (.ifCond .eq 23, 3) := by decide +kernel
theorem dX8_then_12 : decode cX8_then 12 = .ok (.aload_n 0, 1) := by decide +kernel
theorem dX8_then_13 : decode cX8_then 13 = .ok (.iload_n 2, 1) := by decide +kernel
theorem dX8_then_14 : decode cX8_then 14 = .ok (.invokevirtual 182, 3) := by decide +kernel
theorem dX8_then_17 : decode cX8_then 17 = .ok (.ifCond .eq 15, 3) := by decide +kernel
theorem dX8_then_20 : decode cX8_then 20 = .ok (.iload_n 3, 1) := by decide +kernel
theorem dX8_then_21 : decode cX8_then 21 = .ok (.i2l, 1) := by decide +kernel
theorem dX8_then_22 : decode cX8_then 22 = .ok (.lconst 0, 1) := by decide +kernel
theorem dX8_then_23 : decode cX8_then 23 = .ok (.ldc2_w 175, 3) := by decide +kernel
theorem dX8_then_26 : decode cX8_then 26 = .ok (.invokestatic 47, 3) := by decide +kernel
theorem dX8_then_29 : decode cX8_then 29 = .ok (.ifCond .ne 9, 3) := by decide +kernel
theorem dX8_then_32 : decode cX8_then 32 = .ok (.aload_n 0, 1) := by decide +kernel
theorem dX8_then_33 : decode cX8_then 33 = .ok (.iconst 1, 1) := by decide +kernel
theorem dX8_then_34 : decode cX8_then 34 = .ok (.invokevirtual 130, 3) := by decide +kernel
theorem dX8_then_37 : decode cX8_then 37 = .ok (.ireturn, 1) := by decide +kernel
theorem dX8_then_38 : decode cX8_then 38 = .ok (.aload_n 0, 1) := by decide +kernel
theorem dX8_then_39 : decode cX8_then 39 = .ok (.invokevirtual 210, 3) := by decide +kernel
theorem dX8_then_42 : decode cX8_then 42 = .ok (.aload_n 0, 1) := by decide +kernel
theorem dX8_then_43 : decode cX8_then 43 = .ok (.iload_n 1, 1) := by decide +kernel
theorem dX8_then_44 : decode cX8_then 44 = .ok (.invokevirtual 198, 3) := by decide +kernel
theorem dX8_then_47 : decode cX8_then 47 = .ok (.aload_n 0, 1) := by decide +kernel
theorem dX8_then_48 : decode cX8_then 48 = .ok (.iload_n 2, 1) := by decide +kernel
theorem dX8_then_49 : decode cX8_then 49 = .ok (.iload_n 3, 1) := by decide +kernel
theorem dX8_then_50 : decode cX8_then 50 = .ok (.ifCond .ne 7, 3) := by decide +kernel
theorem dX8_then_53 : decode cX8_then 53 = .ok (.iconst 4, 1) := by decide +kernel
theorem dX8_then_54 : decode cX8_then 54 = .ok (.goto 14, 3) := by decide +kernel
theorem dX8_then_57 : decode cX8_then 57 = .ok (.iload_n 3, 1) := by decide +kernel
theorem dX8_then_58 : decode cX8_then 58 = .ok (.iconst 1, 1) := by decide +kernel
theorem dX8_then_59 : decode cX8_then 59 = .ok (.if_icmp .ne 8, 3) := by decide +kernel
theorem dX8_then_62 : decode cX8_then 62 = .ok (.bipush 6, 2) := by decide +kernel
theorem dX8_then_64 : decode cX8_then 64 = .ok (.goto 4, 3) := by decide +kernel
theorem dX8_then_67 : decode cX8_then 67 = .ok (.iconst 2, 1) := by decide +kernel
theorem dX8_then_68 : decode cX8_then 68 = .ok (.invokevirtual 53, 3) := by decide +kernel
theorem dX8_then_71 : decode cX8_then 71 = .ok (.istore 4, 2) := by decide +kernel
theorem dX8_then_73 : decode cX8_then 73 = .ok (.aload_n 0, 1) := by decide +kernel
theorem dX8_then_74 : decode cX8_then 74 = .ok (.invokevirtual 213, 3) := by decide +kernel
theorem dX8_then_77 : decode cX8_then 77 = .ok (.iload 4, 2) := by decide +kernel
theorem dX8_then_79 : decode cX8_then 79 = .ok (.ireturn, 1) := by decide +kernel
def X8_then_J68 (s0 : Int32) (s1 : Int32) (M : Mem) : Option (Int32 × Mem) := ((X8_of s1 s0 M).bind fun q5 => ((X8_putBack M).bind fun q6 => (some (q5, q6))))
set_option maxRecDepth 100000 in
set_option maxHeartbeats 4000000 in
theorem X8_then_J68_ok  {s0 : Int32} {s1 : Int32} {M N : Mem} {res : Int32 × Mem} (h : X8_then_J68 s0 s1 M = some res) : G mt_X8_then 6 (some (.inl res.1)) (N, res.2) 68 [(0, .inr (.inr (19, 0)))] [.inl s0, .inl s1, .inr (.inr (19, 0))] (N, M) := by
  unfold X8_then_J68 at h
  obtain ⟨q5, hq5, h⟩ := bnd h
  refine G_callVv (T := TX8) (N := 22) (f := 19) (i := 0) (X8_of_ok hq5) ok_X8_of ml_X8_53 (by decide) rfl (by decide) (by decide) (by decide) rfl rfl (Nat.le_of_ble_eq_true rfl) dX8_then_68 ?_
  refine G_istore (L2 := [(4, .inl q5), (0, .inr (.inr (19, 0)))]) dX8_then_71 (by decide) rfl ?_
  refine G_aload_n dX8_then_73 rfl ?_
  obtain ⟨q6, hq6, h⟩ := bnd h
  refine G_callVn (T := TX8) (N := 22) (f := 19) (i := 0) (X8_putBack_ok hq6) ok_X8_putBack ml_X8_213 (by decide) rfl (by decide) (by decide) (by decide) rfl rfl (Nat.le_of_ble_eq_true rfl) dX8_then_74 ?_
  refine G_iload dX8_then_77 rfl ?_
  obtain rfl := Option.some.inj h
  exact G_ret dX8_then_79 trivial rfl rfl

def X8_then (v1 : Int32) (v2 : Int32) (v3 : Int32) (M : Mem) : Option (Int32 × Mem) := (if (X8_in (v1.toInt64) (0 : Int64) (60 : Int64)) = 0 then ((X8_finds 1 M).bind fun q1 => (some (q1.1, q1.2))) else (if (X8_isPot v2 M) = 0 then ((X8_finds 1 M).bind fun q2 => (some (q2.1, q2.2))) else (if (X8_in (v3.toInt64) (0 : Int64) (2 : Int64)) = 0 then ((X8_finds 1 M).bind fun q7 => (some (q7.1, q7.2))) else ((X8_keepAside M).bind fun q3 => ((X8_yearsGo v1 q3).bind fun q4 => (if v3 = 0 then (X8_then_J68 4 v2 q4) else (if v3 = 1 then (X8_then_J68 6 v2 q4) else (X8_then_J68 2 v2 q4))))))))
set_option maxRecDepth 100000 in
set_option maxHeartbeats 4000000 in
theorem X8_then_ok  {v1 : Int32} {v2 : Int32} {v3 : Int32} {M N : Mem} {res : Int32 × Mem} (h : X8_then v1 v2 v3 M = some res) : Spec mt_X8_then 6 [.inr (.inr (19, 0)), .inl v1, .inl v2, .inl v3] (N, M) (some (.inl res.1)) (N, res.2) := by
  unfold X8_then at h
  refine Spec_of_G (by decide) rfl (Nat.le_of_ble_eq_true rfl) ?_
  refine G_sub [(0, .inr (.inr (19, 0))), (1, .inl v1), (2, .inl v2), (3, .inl v3)] [0, 1, 2, 3] rfl ?_
  refine G_iload_n dX8_then_0 rfl ?_
  refine G_i2l dX8_then_1 ?_
  refine G_lconst (v := 0) dX8_then_2 (by decide) ?_
  refine G_ldc2 ko_X8_196 dX8_then_3 ?_
  refine G_callSv  (X8_in_ok rfl) ok_X8_in ml_X8_47 (by decide) rfl rfl (Nat.le_of_ble_eq_true rfl) dX8_then_6 ?_
  refine G_if_eq (tgt := 32) dX8_then_9 (by decide) (fun hc1 => ?_) (fun hc1 => ?_)
  · replace h := (if_pos hc1).symm.trans h
    refine G_aload_n dX8_then_32 rfl ?_
    refine G_iconst (v := 1) dX8_then_33 (by decide) ?_
    obtain ⟨q1, hq1, h⟩ := bnd h
    refine G_callVv (T := TX8) (N := 22) (f := 19) (i := 0) (X8_finds_ok hq1) ok_X8_finds ml_X8_130 (by decide) rfl (by decide) (by decide) (by decide) rfl rfl (Nat.le_of_ble_eq_true rfl) dX8_then_34 ?_
    obtain rfl := Option.some.inj h
    exact G_ret dX8_then_37 trivial rfl rfl
  · replace h := (if_neg hc1).symm.trans h
    refine G_aload_n dX8_then_12 rfl ?_
    refine G_iload_n dX8_then_13 rfl ?_
    refine G_callVv (T := TX8) (N := 22) (f := 19) (i := 0) (X8_isPot_ok rfl) ok_X8_isPot ml_X8_182 (by decide) rfl (by decide) (by decide) (by decide) rfl rfl (Nat.le_of_ble_eq_true rfl) dX8_then_14 ?_
    refine G_if_eq (tgt := 32) dX8_then_17 (by decide) (fun hc2 => ?_) (fun hc2 => ?_)
    · replace h := (if_pos hc2).symm.trans h
      refine G_aload_n dX8_then_32 rfl ?_
      refine G_iconst (v := 1) dX8_then_33 (by decide) ?_
      obtain ⟨q2, hq2, h⟩ := bnd h
      refine G_callVv (T := TX8) (N := 22) (f := 19) (i := 0) (X8_finds_ok hq2) ok_X8_finds ml_X8_130 (by decide) rfl (by decide) (by decide) (by decide) rfl rfl (Nat.le_of_ble_eq_true rfl) dX8_then_34 ?_
      obtain rfl := Option.some.inj h
      exact G_ret dX8_then_37 trivial rfl rfl
    · replace h := (if_neg hc2).symm.trans h
      refine G_iload_n dX8_then_20 rfl ?_
      refine G_i2l dX8_then_21 ?_
      refine G_lconst (v := 0) dX8_then_22 (by decide) ?_
      refine G_ldc2 ko_X8_175 dX8_then_23 ?_
      refine G_callSv  (X8_in_ok rfl) ok_X8_in ml_X8_47 (by decide) rfl rfl (Nat.le_of_ble_eq_true rfl) dX8_then_26 ?_
      refine G_if_ne (tgt := 38) dX8_then_29 (by decide) (fun hc3 => ?_) (fun hc3 => ?_)
      · replace h := (if_neg hc3).symm.trans h
        refine G_aload_n dX8_then_38 rfl ?_
        obtain ⟨q3, hq3, h⟩ := bnd h
        refine G_callVn (T := TX8) (N := 22) (f := 19) (i := 0) (X8_keepAside_ok hq3) ok_X8_keepAside ml_X8_210 (by decide) rfl (by decide) (by decide) (by decide) rfl rfl (Nat.le_of_ble_eq_true rfl) dX8_then_39 ?_
        refine G_aload_n dX8_then_42 rfl ?_
        refine G_iload_n dX8_then_43 rfl ?_
        obtain ⟨q4, hq4, h⟩ := bnd h
        refine G_callVn (T := TX8) (N := 22) (f := 19) (i := 0) (X8_yearsGo_ok hq4) ok_X8_yearsGo ml_X8_198 (by decide) rfl (by decide) (by decide) (by decide) rfl rfl (Nat.le_of_ble_eq_true rfl) dX8_then_44 ?_
        refine G_aload_n dX8_then_47 rfl ?_
        refine G_iload_n dX8_then_48 rfl ?_
        refine G_iload_n dX8_then_49 rfl ?_
        refine G_if_ne (tgt := 57) dX8_then_50 (by decide) (fun hc4 => ?_) (fun hc4 => ?_)
        · replace h := (if_neg hc4).symm.trans h
          refine G_iload_n dX8_then_57 rfl ?_
          refine G_iconst (v := 1) dX8_then_58 (by decide) ?_
          refine G_icmp_ne (tgt := 67) dX8_then_59 (by decide) (fun hc5 => ?_) (fun hc5 => ?_)
          · replace h := (if_neg hc5).symm.trans h
            refine G_iconst (v := 2) dX8_then_67 (by decide) ?_
            refine G_sub [(0, .inr (.inr (19, 0)))] [0] rfl ?_
            exact X8_then_J68_ok   h
          · replace h := (if_pos hc5).symm.trans h
            refine G_bipush (v := 6) dX8_then_62 (by decide) ?_
            refine G_goto (tgt := 68) dX8_then_64 (by decide) ?_
            refine G_sub [(0, .inr (.inr (19, 0)))] [0] rfl ?_
            exact X8_then_J68_ok   h
        · replace h := (if_pos hc4).symm.trans h
          refine G_iconst (v := 4) dX8_then_53 (by decide) ?_
          refine G_goto (tgt := 68) dX8_then_54 (by decide) ?_
          refine G_sub [(0, .inr (.inr (19, 0)))] [0] rfl ?_
          exact X8_then_J68_ok   h
      · replace h := (if_pos hc3).symm.trans h
        refine G_aload_n dX8_then_32 rfl ?_
        refine G_iconst (v := 1) dX8_then_33 (by decide) ?_
        obtain ⟨q7, hq7, h⟩ := bnd h
        refine G_callVv (T := TX8) (N := 22) (f := 19) (i := 0) (X8_finds_ok hq7) ok_X8_finds ml_X8_130 (by decide) rfl (by decide) (by decide) (by decide) rfl rfl (Nat.le_of_ble_eq_true rfl) dX8_then_34 ?_
        obtain rfl := Option.some.inj h
        exact G_ret dX8_then_37 trivial rfl rfl

theorem dX8_isSheet_0 : decode cX8_isSheet 0 = .ok (.iload_n 0, 1) := by decide +kernel
theorem dX8_isSheet_1 : decode cX8_isSheet 1 = .ok (.i2l, 1) := by decide +kernel
theorem dX8_isSheet_2 : decode cX8_isSheet 2 = .ok (.lconst 0, 1) := by decide +kernel
theorem dX8_isSheet_3 : decode cX8_isSheet 3 = .ok (.ldc2_w 250, 3) := by decide +kernel
theorem dX8_isSheet_6 : decode cX8_isSheet 6 = .ok (.invokestatic 47, 3) := by decide +kernel
theorem dX8_isSheet_9 : decode cX8_isSheet 9 = .ok (.ireturn, 1) := by decide +kernel
def X8_isSheet (v0 : Int32) : Int32 := (X8_in (v0.toInt64) (0 : Int64) (3 : Int64))
set_option maxRecDepth 100000 in
set_option maxHeartbeats 4000000 in
theorem X8_isSheet_ok  {v0 : Int32} {MM0 : MM} {res : Int32} (h : X8_isSheet v0 = res) : Spec mt_X8_isSheet 1 [.inl v0] MM0 (some (.inl res)) MM0 := by
  unfold X8_isSheet at h
  refine Spec_of_G (by decide) rfl (Nat.le_of_ble_eq_true rfl) ?_
  refine G_sub [(0, .inl v0)] [0] rfl ?_
  refine G_iload_n dX8_isSheet_0 rfl ?_
  refine G_i2l dX8_isSheet_1 ?_
  refine G_lconst (v := 0) dX8_isSheet_2 (by decide) ?_
  refine G_ldc2 ko_X8_250 dX8_isSheet_3 ?_
  refine G_callSv  (X8_in_ok rfl) ok_X8_in ml_X8_47 (by decide) rfl rfl (Nat.le_of_ble_eq_true rfl) dX8_isSheet_6 ?_
  subst h
  exact G_ret dX8_isSheet_9 (X8_in_z ..) rfl rfl
theorem X8_isSheet_z {v0 : Int32} : X8_isSheet v0 = 0 ∨ X8_isSheet v0 = 1 := by
  unfold X8_isSheet
  (repeat' split) <;> first | exact Or.inl rfl | exact Or.inr rfl | exact X8_in_z

