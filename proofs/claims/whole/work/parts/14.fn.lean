theorem dX8_in_0 : decode cX8_in 0 = .ok (.lload_n 0, 1) := by decide +kernel
theorem dX8_in_1 : decode cX8_in 1 = .ok (.lload_n 2, 1) := by decide +kernel
theorem dX8_in_2 : decode cX8_in 2 = .ok (.lcmp, 1) := by decide +kernel
theorem dX8_in_3 : decode cX8_in 3 = .ok (.ifCond .lt 14, 3) := by decide +kernel
theorem dX8_in_6 : decode cX8_in 6 = .ok (.lload_n 0, 1) := by decide +kernel
theorem dX8_in_7 : decode cX8_in 7 = .ok (.lload 4, 2) := by decide +kernel
theorem dX8_in_9 : decode cX8_in 9 = .ok (.lcmp, 1) := by decide +kernel
theorem dX8_in_10 : decode cX8_in 10 = .ok (.ifCond .gt 7, 3) := by decide +kernel
theorem dX8_in_13 : decode cX8_in 13 = .ok (.iconst 1, 1) := by decide +kernel
theorem dX8_in_14 : decode cX8_in 14 = .ok (.goto 4, 3) := by decide +kernel
theorem dX8_in_17 : decode cX8_in 17 = .ok (.iconst 0, 1) := by decide +kernel
theorem dX8_in_18 : decode cX8_in 18 = .ok (.ireturn, 1) := by decide +kernel
def X8_in (j0 : Int64) (j2 : Int64) (j4 : Int64) : Int32 := (if (lg_cmp j0 j2) < 0 then 0 else (if 0 < (lg_cmp j0 j4) then 0 else 1))
set_option maxRecDepth 100000 in
set_option maxHeartbeats 4000000 in
theorem X8_in_ok  {j0 : Int64} {j2 : Int64} {j4 : Int64} {MM0 : MM} {res : Int32} (h : X8_in j0 j2 j4 = res) : Spec mt_X8_in 0 [.inr (.inl j0), .inr (.inl j2), .inr (.inl j4)] MM0 (some (.inl res)) MM0 := by
  unfold X8_in at h
  refine Spec_of_G (by decide) rfl (Nat.le_of_ble_eq_true rfl) ?_
  refine G_sub [(0, .inr (.inl j0)), (2, .inr (.inl j2)), (4, .inr (.inl j4))] [0, 1, 2] rfl ?_
  refine G_lload_n dX8_in_0 rfl ?_
  refine G_lload_n dX8_in_1 rfl ?_
  refine G_lcmp dX8_in_2 ?_
  refine G_if_lt (tgt := 17) dX8_in_3 (by decide) (fun hc1 => ?_) (fun hc1 => ?_)
  · replace h := (if_pos hc1).symm.trans h
    refine G_iconst (v := 0) dX8_in_17 (by decide) ?_
    subst h
    exact G_ret dX8_in_18 (Or.inl rfl) rfl rfl
  · replace h := (if_neg hc1).symm.trans h
    refine G_lload_n dX8_in_6 rfl ?_
    refine G_lload dX8_in_7 rfl ?_
    refine G_lcmp dX8_in_9 ?_
    refine G_if_gt (tgt := 17) dX8_in_10 (by decide) (fun hc2 => ?_) (fun hc2 => ?_)
    · replace h := (if_pos hc2).symm.trans h
      refine G_iconst (v := 0) dX8_in_17 (by decide) ?_
      subst h
      exact G_ret dX8_in_18 (Or.inl rfl) rfl rfl
    · replace h := (if_neg hc2).symm.trans h
      refine G_iconst (v := 1) dX8_in_13 (by decide) ?_
      refine G_goto (tgt := 18) dX8_in_14 (by decide) ?_
      subst h
      exact G_ret dX8_in_18 (Or.inr rfl) rfl rfl
theorem X8_in_z {j0 : Int64} {j2 : Int64} {j4 : Int64} : X8_in j0 j2 j4 = 0 ∨ X8_in j0 j2 j4 = 1 := by
  unfold X8_in
  (repeat' split) <;> first | exact Or.inl rfl | exact Or.inr rfl | exact X8_in_z

theorem dX8_finds_0 : decode cX8_finds 0 = .ok (.aload_n 0, 1) := by decide +kernel
theorem dX8_finds_1 : decode cX8_finds 1 = .ok (.getfield 19, 3) := by decide +kernel
theorem dX8_finds_4 : decode cX8_finds 4 = .ok (.iload_n 1, 1) := by decide +kernel
theorem dX8_finds_5 : decode cX8_finds 5 = .ok (.dup2, 1) := by decide +kernel
theorem dX8_finds_6 : decode cX8_finds 6 = .ok (.iaload, 1) := by decide +kernel
theorem dX8_finds_7 : decode cX8_finds 7 = .ok (.iconst 1, 1) := by decide +kernel
theorem dX8_finds_8 : decode cX8_finds 8 = .ok (.iadd, 1) := by decide +kernel
theorem dX8_finds_9 : decode cX8_finds 9 = .ok (.iastore, 1) := by decide +kernel
theorem dX8_finds_10 : decode cX8_finds 10 = .ok (.ldc 46, 2) := by decide +kernel
theorem dX8_finds_12 : decode cX8_finds 12 = .ok (.iload_n 1, 1) := by decide +kernel
theorem dX8_finds_13 : decode cX8_finds 13 = .ok (.isub, 1) := by decide +kernel
theorem dX8_finds_14 : decode cX8_finds 14 = .ok (.ireturn, 1) := by decide +kernel
def X8_finds (v1 : Int32) (M : Mem) : Option (Int32 × Mem) := (if ib v1 6 = true then (some (((-1000000000) - v1), (up3 M 23 0 v1.toNatClampNeg ((M 23 0 v1.toNatClampNeg) + 1)))) else none)
set_option maxRecDepth 100000 in
set_option maxHeartbeats 4000000 in
theorem X8_finds_ok  {v1 : Int32} {M N : Mem} {res : Int32 × Mem} (h : X8_finds v1 M = some res) : Spec mt_X8_finds 0 [.inr (.inr (19, 0)), .inl v1] (N, M) (some (.inl res.1)) (N, res.2) := by
  unfold X8_finds at h
  refine Spec_of_G (by decide) rfl (Nat.le_of_ble_eq_true rfl) ?_
  refine G_sub [(0, .inr (.inr (19, 0))), (1, .inl v1)] [0, 1] rfl ?_
  refine G_aload_n dX8_finds_0 rfl ?_
  refine fg_X8_19 rfl (by decide) dX8_finds_1 ?_
  refine G_iload_n dX8_finds_4 rfl ?_
  refine G_dup2 rfl rfl dX8_finds_5 ?_
  obtain ⟨hb1, h⟩ := chk h
  have lhb1 := ib_lt hb1
  refine al_23 (kk := v1.toNatClampNeg) (v := (M 23 0 v1.toNatClampNeg)) (by decide) hb1 rfl rfl dX8_finds_6 ?_
  refine G_iconst (v := 1) dX8_finds_7 (by decide) ?_
  refine G_iadd dX8_finds_8 ?_
  refine as_23 (kk := v1.toNatClampNeg) (by decide) hb1 rfl dX8_finds_9 ?_
  refine G_ldc ko_X8_46 dX8_finds_10 ?_
  refine G_iload_n dX8_finds_12 rfl ?_
  refine G_isub dX8_finds_13 ?_
  obtain rfl := Option.some.inj h
  exact G_ret dX8_finds_14 trivial rfl rfl

theorem dX8_feed_0 : decode cX8_feed 0 = .ok (.iload_n 3, 1) := by decide +kernel
theorem dX8_feed_1 : decode cX8_feed 1 = .ok (.i2l, 1) := by decide +kernel
theorem dX8_feed_2 : decode cX8_feed 2 = .ok (.lconst 1, 1) := by decide +kernel
theorem dX8_feed_3 : decode cX8_feed 3 = .ok (.ldc2_w 128, 3) := by decide +kernel
theorem dX8_feed_6 : decode cX8_feed 6 = .ok (.invokestatic 47, 3) := by decide +kernel
theorem dX8_feed_9 : decode cX8_feed 9 = .ok (.ifCond .ne 9, 3) := by decide +kernel
theorem dX8_feed_12 : decode cX8_feed 12 = .ok (.aload_n 0, 1) := by decide +kernel
theorem dX8_feed_13 : decode cX8_feed 13 = .ok (.iconst 1, 1) := by decide +kernel
theorem dX8_feed_14 : decode cX8_feed 14 = .ok (.invokevirtual 130, 3) := by decide +kernel
theorem dX8_feed_17 : decode cX8_feed 17 = .ok (.ireturn, 1) := by decide +kernel
theorem dX8_feed_18 : decode cX8_feed 18 = .ok (.aload_n 0, 1) := by decide +kernel
theorem dX8_feed_19 : decode cX8_feed 19 = .ok (.getfield 7, 3) := by decide +kernel
theorem dX8_feed_22 : decode cX8_feed 22 = .ok (.iconst 4, 1) := by decide +kernel
theorem dX8_feed_23 : decode cX8_feed 23 = .ok (.iaload, 1) := by decide +kernel
theorem dX8_feed_24 : decode cX8_feed 24 = .ok (.iload_n 3, 1) := by decide +kernel
theorem dX8_feed_25 : decode cX8_feed 25 = .ok (.iadd, 1) := by decide +kernel
theorem dX8_feed_26 : decode cX8_feed 26 = .ok (.bipush 50, 2) := by decide +kernel
theorem dX8_feed_28 : decode cX8_feed 28 = .ok (.if_icmp .le 9, 3) := by decide +kernel
theorem dX8_feed_31 : decode cX8_feed 31 = .ok (.aload_n 0, 1) := by decide +kernel
theorem dX8_feed_32 : decode cX8_feed 32 = .ok (.iconst 4, 1) := by decide +kernel
theorem dX8_feed_33 : decode cX8_feed 33 = .ok (.invokevirtual 130, 3) := by decide +kernel
theorem dX8_feed_36 : decode cX8_feed 36 = .ok (.ireturn, 1) := by decide +kernel
theorem dX8_feed_37 : decode cX8_feed 37 = .ok (.iconst 0, 1) := by decide +kernel
theorem dX8_feed_38 : decode cX8_feed 38 = .ok (.istore 4, 2) := by decide +kernel
theorem dX8_feed_40 : decode cX8_feed 40 = .ok (.iload 4, 2) := by decide +kernel
theorem dX8_feed_42 : decode cX8_feed 42 = .ok (.iload_n 3, 1) := by decide +kernel
theorem dX8_feed_43 : decode cX8_feed 43 = .ok (.if_icmp .ge 46, 3) := by decide +kernel
theorem dX8_feed_46 : decode cX8_feed 46 = .ok (.aload_n 0, 1) := by decide +kernel
theorem dX8_feed_47 : decode cX8_feed 47 = .ok (.getfield 7, 3) := by decide +kernel
theorem dX8_feed_50 : decode cX8_feed 50 = .ok (.sipush 218, 3) := by decide +kernel
theorem dX8_feed_53 : decode cX8_feed 53 = .ok (.aload_n 0, 1) := by decide +kernel
theorem dX8_feed_54 : decode cX8_feed 54 = .ok (.getfield 7, 3) := by decide +kernel
theorem dX8_feed_57 : decode cX8_feed 57 = .ok (.iconst 4, 1) := by decide +kernel
theorem dX8_feed_58 : decode cX8_feed 58 = .ok (.iaload, 1) := by decide +kernel
theorem dX8_feed_59 : decode cX8_feed 59 = .ok (.iadd, 1) := by decide +kernel
theorem dX8_feed_60 : decode cX8_feed 60 = .ok (.lload_n 1, 1) := by decide +kernel
theorem dX8_feed_61 : decode cX8_feed 61 = .ok (.bipush 8, 2) := by decide +kernel
theorem dX8_feed_63 : decode cX8_feed 63 = .ok (.iload 4, 2) := by decide +kernel
theorem dX8_feed_65 : decode cX8_feed 65 = .ok (.imul, 1) := by decide +kernel
theorem dX8_feed_66 : decode cX8_feed 66 = .ok (.lshr, 1) := by decide +kernel
theorem dX8_feed_67 : decode cX8_feed 67 = .ok (.ldc2_w 133, 3) := by decide +kernel
theorem dX8_feed_70 : decode cX8_feed 70 = .ok (.land, 1) := by decide +kernel
theorem dX8_feed_71 : decode cX8_feed 71 = .ok (.l2i, 1) := by decide +kernel
theorem dX8_feed_72 : decode cX8_feed 72 = .ok (.iastore, 1) := by decide +kernel
theorem dX8_feed_73 : decode cX8_feed 73 = .ok (.aload_n 0, 1) := by decide +kernel
theorem dX8_feed_74 : decode cX8_feed 74 = .ok (.getfield 7, 3) := by decide +kernel
theorem dX8_feed_77 : decode cX8_feed 77 = .ok (.iconst 4, 1) := by decide +kernel
theorem dX8_feed_78 : decode cX8_feed 78 = .ok (.dup2, 1) := by decide +kernel
theorem dX8_feed_79 : decode cX8_feed 79 = .ok (.iaload, 1) := by decide +kernel
theorem dX8_feed_80 : decode cX8_feed 80 = .ok (.iconst 1, 1) := by decide +kernel
theorem dX8_feed_81 : decode cX8_feed 81 = .ok (.iadd, 1) := by decide +kernel
theorem dX8_feed_82 : decode cX8_feed 82 = .ok (.iastore, 1) := by decide +kernel
theorem dX8_feed_83 : decode cX8_feed 83 = .ok (.iinc 4 1, 3) := by decide +kernel
theorem dX8_feed_86 : decode cX8_feed 86 = .ok (.goto (-46), 3) := by decide +kernel
theorem dX8_feed_89 : decode cX8_feed 89 = .ok (.aload_n 0, 1) := by decide +kernel
theorem dX8_feed_90 : decode cX8_feed 90 = .ok (.getfield 7, 3) := by decide +kernel
theorem dX8_feed_93 : decode cX8_feed 93 = .ok (.iconst 4, 1) := by decide +kernel
theorem dX8_feed_94 : decode cX8_feed 94 = .ok (.iaload, 1) := by decide +kernel
theorem dX8_feed_95 : decode cX8_feed 95 = .ok (.ireturn, 1) := by decide +kernel
def X8_feed_L40 : Nat → Int64 → Int32 → Int32 → Mem → Option (Mem)
  | 0, _, _, _, _ => none
  | fu + 1, j1, v3, v4, M => (if v4 < v3 then (if ib (218 + (M 20 0 4)) 268 = true then (X8_feed_L40 fu j1 v3 (v4 + 1) (up3 (up3 M 20 0 ((218 + (M 20 0 4)).toNatClampNeg) (((j1 >>> ((8 * v4).toInt64 &&& 63)) &&& (255 : Int64)).toInt32)) 20 0 4 (((up3 M 20 0 ((218 + (M 20 0 4)).toNatClampNeg) (((j1 >>> ((8 * v4).toInt64 &&& 63)) &&& (255 : Int64)).toInt32)) 20 0 4) + 1))) else none) else (some M))
set_option maxRecDepth 100000 in
set_option maxHeartbeats 4000000 in
theorem X8_feed_L40_ok  {r : Option AV} {M' : MM} : ∀ (fu : Nat) (j1 : Int64) (v3 : Int32) (v4 : Int32) (M N : Mem) {res : Mem} (h : X8_feed_L40 fu j1 v3 v4 M = some res) (K : G mt_X8_feed 1 r M' 89 [(0, .inr (.inr (19, 0)))] [] (N, res)), G mt_X8_feed 1 r M' 40 [(0, .inr (.inr (19, 0))), (1, .inr (.inl j1)), (3, .inl v3), (4, .inl v4)] [] (N, M) := by
  intro fu
  induction fu with
  | zero =>
    intro j1 v3 v4 M N res h
    cases h
  | succ fu ih =>
    intro j1 v3 v4 M N res h K
    replace h : (if v4 < v3 then (if ib (218 + (M 20 0 4)) 268 = true then (X8_feed_L40 fu j1 v3 (v4 + 1) (up3 (up3 M 20 0 ((218 + (M 20 0 4)).toNatClampNeg) (((j1 >>> ((8 * v4).toInt64 &&& 63)) &&& (255 : Int64)).toInt32)) 20 0 4 (((up3 M 20 0 ((218 + (M 20 0 4)).toNatClampNeg) (((j1 >>> ((8 * v4).toInt64 &&& 63)) &&& (255 : Int64)).toInt32)) 20 0 4) + 1))) else none) else (some M)) = some res := h
    refine G_iload dX8_feed_40 rfl ?_
    refine G_iload_n dX8_feed_42 rfl ?_
    refine G_icmp_ge (tgt := 89) dX8_feed_43 (by decide) (fun hc3 => ?_) (fun hc3 => ?_)
    · replace h := (if_neg hc3).symm.trans h
      refine G_sub [(0, .inr (.inr (19, 0)))] [0] rfl ?_
      obtain rfl := Option.some.inj h
      exact K
    · replace h := (if_pos hc3).symm.trans h
      refine G_aload_n dX8_feed_46 rfl ?_
      refine fg_X8_7 rfl (by decide) dX8_feed_47 ?_
      refine G_sipush (v := 218) dX8_feed_50 (by decide) ?_
      refine G_aload_n dX8_feed_53 rfl ?_
      refine fg_X8_7 rfl (by decide) dX8_feed_54 ?_
      refine G_iconst (v := 4) dX8_feed_57 (by decide) ?_
      refine al_20 (kk := 4) (v := (M 20 0 4)) (by decide) (by decide) (by decide) rfl dX8_feed_58 ?_
      refine G_iadd dX8_feed_59 ?_
      refine G_lload_n dX8_feed_60 rfl ?_
      refine G_bipush (v := 8) dX8_feed_61 (by decide) ?_
      refine G_iload dX8_feed_63 rfl ?_
      refine G_imul dX8_feed_65 ?_
      refine G_lshr dX8_feed_66 ?_
      refine G_ldc2 ko_X8_133 dX8_feed_67 ?_
      refine G_land dX8_feed_70 ?_
      refine G_l2i dX8_feed_71 ?_
      obtain ⟨hb1, h⟩ := chk h
      have lhb1 := ib_lt hb1
      refine as_20 (kk := (218 + (M 20 0 4)).toNatClampNeg) (by decide) hb1 rfl dX8_feed_72 ?_
      refine G_aload_n dX8_feed_73 rfl ?_
      refine fg_X8_7 rfl (by decide) dX8_feed_74 ?_
      refine G_iconst (v := 4) dX8_feed_77 (by decide) ?_
      refine G_dup2 rfl rfl dX8_feed_78 ?_
      refine al_20 (kk := 4) (v := ((up3 M 20 0 ((218 + (M 20 0 4)).toNatClampNeg) (((j1 >>> ((8 * v4).toInt64 &&& 63)) &&& (255 : Int64)).toInt32)) 20 0 4)) (by decide) (by decide) (by decide) rfl dX8_feed_79 ?_
      refine G_iconst (v := 1) dX8_feed_80 (by decide) ?_
      refine G_iadd dX8_feed_81 ?_
      refine as_20 (kk := 4) (by decide) (by decide) (by decide) dX8_feed_82 ?_
      refine G_iinc (v := (v4 + 1)) (L2 := [(4, .inl (v4 + 1)), (0, .inr (.inr (19, 0))), (1, .inr (.inl j1)), (3, .inl v3)]) dX8_feed_83 rfl (by first | rfl | (show _ + Int32.ofInt _ = _; rfl)) (by decide) rfl ?_
      refine G_goto (tgt := 40) dX8_feed_86 (by decide) ?_
      refine G_sub [(0, .inr (.inr (19, 0))), (1, .inr (.inl j1)), (3, .inl v3), (4, .inl (v4 + 1))] [1, 2, 3, 0] rfl ?_
      exact ih j1 v3 (v4 + 1) (up3 (up3 M 20 0 ((218 + (M 20 0 4)).toNatClampNeg) (((j1 >>> ((8 * v4).toInt64 &&& 63)) &&& (255 : Int64)).toInt32)) 20 0 4 (((up3 M 20 0 ((218 + (M 20 0 4)).toNatClampNeg) (((j1 >>> ((8 * v4).toInt64 &&& 63)) &&& (255 : Int64)).toInt32)) 20 0 4) + 1)) _  h K

def X8_feed (j1 : Int64) (v3 : Int32) (M : Mem) : Option (Int32 × Mem) := (if (X8_in (v3.toInt64) (1 : Int64) (8 : Int64)) = 0 then ((X8_finds 1 M).bind fun q4 => (some (q4.1, q4.2))) else (if 50 < ((M 20 0 4) + v3) then ((X8_finds 4 M).bind fun q3 => (some (q3.1, q3.2))) else ((X8_feed_L40 400 j1 v3 0 M).bind fun q2 => (some ((q2 20 0 4), q2)))))
set_option maxRecDepth 100000 in
set_option maxHeartbeats 4000000 in
theorem X8_feed_ok  {j1 : Int64} {v3 : Int32} {M N : Mem} {res : Int32 × Mem} (h : X8_feed j1 v3 M = some res) : Spec mt_X8_feed 1 [.inr (.inr (19, 0)), .inr (.inl j1), .inl v3] (N, M) (some (.inl res.1)) (N, res.2) := by
  unfold X8_feed at h
  refine Spec_of_G (by decide) rfl (Nat.le_of_ble_eq_true rfl) ?_
  refine G_sub [(0, .inr (.inr (19, 0))), (1, .inr (.inl j1)), (3, .inl v3)] [0, 1, 2] rfl ?_
  refine G_iload_n dX8_feed_0 rfl ?_
  refine G_i2l dX8_feed_1 ?_
  refine G_lconst (v := 1) dX8_feed_2 (by decide) ?_
  refine G_ldc2 ko_X8_128 dX8_feed_3 ?_
  refine G_callSv  (X8_in_ok rfl) ok_X8_in ml_X8_47 (by decide) rfl rfl (Nat.le_of_ble_eq_true rfl) dX8_feed_6 ?_
  refine G_if_ne (tgt := 18) dX8_feed_9 (by decide) (fun hc1 => ?_) (fun hc1 => ?_)
  · replace h := (if_neg hc1).symm.trans h
    refine G_aload_n dX8_feed_18 rfl ?_
    refine fg_X8_7 rfl (by decide) dX8_feed_19 ?_
    refine G_iconst (v := 4) dX8_feed_22 (by decide) ?_
    refine al_20 (kk := 4) (v := (M 20 0 4)) (by decide) (by decide) (by decide) rfl dX8_feed_23 ?_
    refine G_iload_n dX8_feed_24 rfl ?_
    refine G_iadd dX8_feed_25 ?_
    refine G_bipush (v := 50) dX8_feed_26 (by decide) ?_
    refine G_icmp_le (tgt := 37) dX8_feed_28 (by decide) (fun hc2 => ?_) (fun hc2 => ?_)
    · replace h := (if_neg hc2).symm.trans h
      refine G_iconst (v := 0) dX8_feed_37 (by decide) ?_
      refine G_istore (L2 := [(4, .inl 0), (0, .inr (.inr (19, 0))), (1, .inr (.inl j1)), (3, .inl v3)]) dX8_feed_38 (by decide) rfl ?_
      refine G_sub [(0, .inr (.inr (19, 0))), (1, .inr (.inl j1)), (3, .inl v3), (4, .inl 0)] [1, 2, 3, 0] rfl ?_
      obtain ⟨q2, hq2, h⟩ := bnd h
      refine X8_feed_L40_ok  400 j1 v3 0 M _  hq2 ?_
      refine G_aload_n dX8_feed_89 rfl ?_
      refine fg_X8_7 rfl (by decide) dX8_feed_90 ?_
      refine G_iconst (v := 4) dX8_feed_93 (by decide) ?_
      refine al_20 (kk := 4) (v := (q2 20 0 4)) (by decide) (by decide) (by decide) rfl dX8_feed_94 ?_
      obtain rfl := Option.some.inj h
      exact G_ret dX8_feed_95 trivial rfl rfl
    · replace h := (if_pos hc2).symm.trans h
      refine G_aload_n dX8_feed_31 rfl ?_
      refine G_iconst (v := 4) dX8_feed_32 (by decide) ?_
      obtain ⟨q3, hq3, h⟩ := bnd h
      refine G_callVv (T := TX8) (N := 22) (f := 19) (i := 0) (X8_finds_ok hq3) ok_X8_finds ml_X8_130 (by decide) rfl (by decide) (by decide) (by decide) rfl rfl (Nat.le_of_ble_eq_true rfl) dX8_feed_33 ?_
      obtain rfl := Option.some.inj h
      exact G_ret dX8_feed_36 trivial rfl rfl
  · replace h := (if_pos hc1).symm.trans h
    refine G_aload_n dX8_feed_12 rfl ?_
    refine G_iconst (v := 1) dX8_feed_13 (by decide) ?_
    obtain ⟨q4, hq4, h⟩ := bnd h
    refine G_callVv (T := TX8) (N := 22) (f := 19) (i := 0) (X8_finds_ok hq4) ok_X8_finds ml_X8_130 (by decide) rfl (by decide) (by decide) (by decide) rfl rfl (Nat.le_of_ble_eq_true rfl) dX8_feed_14 ?_
    obtain rfl := Option.some.inj h
    exact G_ret dX8_feed_17 trivial rfl rfl

theorem dX8_here_0 : decode cX8_here 0 = .ok (.aload_n 0, 1) := by decide +kernel
theorem dX8_here_1 : decode cX8_here 1 = .ok (.getfield 57, 3) := by decide +kernel
theorem dX8_here_4 : decode cX8_here 4 = .ok (.aload_n 0, 1) := by decide +kernel
theorem dX8_here_5 : decode cX8_here 5 = .ok (.getfield 61, 3) := by decide +kernel
theorem dX8_here_8 : decode cX8_here 8 = .ok (.if_icmp .ge 27, 3) := by decide +kernel
theorem dX8_here_11 : decode cX8_here 11 = .ok (.aload_n 0, 1) := by decide +kernel
theorem dX8_here_12 : decode cX8_here 12 = .ok (.getfield 64, 3) := by decide +kernel
theorem dX8_here_15 : decode cX8_here 15 = .ok (.ifCond .ge 20, 3) := by decide +kernel
theorem dX8_here_18 : decode cX8_here 18 = .ok (.aload_n 0, 1) := by decide +kernel
theorem dX8_here_19 : decode cX8_here 19 = .ok (.getfield 7, 3) := by decide +kernel
theorem dX8_here_22 : decode cX8_here 22 = .ok (.aload_n 0, 1) := by decide +kernel
theorem dX8_here_23 : decode cX8_here 23 = .ok (.getfield 67, 3) := by decide +kernel
theorem dX8_here_26 : decode cX8_here 26 = .ok (.aload_n 0, 1) := by decide +kernel
theorem dX8_here_27 : decode cX8_here 27 = .ok (.getfield 57, 3) := by decide +kernel
theorem dX8_here_30 : decode cX8_here 30 = .ok (.iadd, 1) := by decide +kernel
theorem dX8_here_31 : decode cX8_here 31 = .ok (.iaload, 1) := by decide +kernel
theorem dX8_here_32 : decode cX8_here 32 = .ok (.goto 4, 3) := by decide +kernel
theorem dX8_here_35 : decode cX8_here 35 = .ok (.iconst (-1), 1) := by decide +kernel
theorem dX8_here_36 : decode cX8_here 36 = .ok (.ireturn, 1) := by decide +kernel
def X8_here  (M : Mem) : Option (Int32) := (if (M 19 0 6) < (M 19 0 7) then (if (M 19 0 8) < 0 then (if ib ((M 19 0 5) + (M 19 0 6)) 268 = true then (some (M 20 0 (((M 19 0 5) + (M 19 0 6)).toNatClampNeg))) else none) else (some (-1))) else (some (-1)))
set_option maxRecDepth 100000 in
set_option maxHeartbeats 4000000 in
theorem X8_here_ok  {M N : Mem} {res : Int32} (h : X8_here M = some res) : Spec mt_X8_here 0 [.inr (.inr (19, 0))] (N, M) (some (.inl res)) (N, M) := by
  unfold X8_here at h
  refine Spec_of_G (by decide) rfl (Nat.le_of_ble_eq_true rfl) ?_
  refine G_sub [(0, .inr (.inr (19, 0)))] [0] rfl ?_
  refine G_aload_n dX8_here_0 rfl ?_
  refine fg_X8_57 (v := (M 19 0 6)) rfl rfl (by decide) dX8_here_1 ?_
  refine G_aload_n dX8_here_4 rfl ?_
  refine fg_X8_61 (v := (M 19 0 7)) rfl rfl (by decide) dX8_here_5 ?_
  refine G_icmp_ge (tgt := 35) dX8_here_8 (by decide) (fun hc1 => ?_) (fun hc1 => ?_)
  · replace h := (if_neg hc1).symm.trans h
    refine G_iconst (v := (-1)) dX8_here_35 (by decide) ?_
    obtain rfl := Option.some.inj h
    exact G_ret dX8_here_36 trivial rfl rfl
  · replace h := (if_pos hc1).symm.trans h
    refine G_aload_n dX8_here_11 rfl ?_
    refine fg_X8_64 (v := (M 19 0 8)) rfl rfl (by decide) dX8_here_12 ?_
    refine G_if_ge (tgt := 35) dX8_here_15 (by decide) (fun hc2 => ?_) (fun hc2 => ?_)
    · replace h := (if_neg hc2).symm.trans h
      refine G_iconst (v := (-1)) dX8_here_35 (by decide) ?_
      obtain rfl := Option.some.inj h
      exact G_ret dX8_here_36 trivial rfl rfl
    · replace h := (if_pos hc2).symm.trans h
      refine G_aload_n dX8_here_18 rfl ?_
      refine fg_X8_7 rfl (by decide) dX8_here_19 ?_
      refine G_aload_n dX8_here_22 rfl ?_
      refine fg_X8_67 (v := (M 19 0 5)) rfl rfl (by decide) dX8_here_23 ?_
      refine G_aload_n dX8_here_26 rfl ?_
      refine fg_X8_57 (v := (M 19 0 6)) rfl rfl (by decide) dX8_here_27 ?_
      refine G_iadd dX8_here_30 ?_
      obtain ⟨hb1, h⟩ := chk h
      have lhb1 := ib_lt hb1
      refine al_20 (kk := ((M 19 0 5) + (M 19 0 6)).toNatClampNeg) (v := (M 20 0 (((M 19 0 5) + (M 19 0 6)).toNatClampNeg))) (by decide) hb1 rfl rfl dX8_here_31 ?_
      refine G_goto (tgt := 36) dX8_here_32 (by decide) ?_
      obtain rfl := Option.some.inj h
      exact G_ret dX8_here_36 trivial rfl rfl

theorem dX8_wrong_0 : decode cX8_wrong 0 = .ok (.aload_n 0, 1) := by decide +kernel
theorem dX8_wrong_1 : decode cX8_wrong 1 = .ok (.aload_n 0, 1) := by decide +kernel
theorem dX8_wrong_2 : decode cX8_wrong 2 = .ok (.getfield 64, 3) := by decide +kernel
theorem dX8_wrong_5 : decode cX8_wrong 5 = .ok (.ifCond .ge 10, 3) := by decide +kernel
theorem dX8_wrong_8 : decode cX8_wrong 8 = .ok (.aload_n 0, 1) := by decide +kernel
theorem dX8_wrong_9 : decode cX8_wrong 9 = .ok (.getfield 57, 3) := by decide +kernel
theorem dX8_wrong_12 : decode cX8_wrong 12 = .ok (.goto 7, 3) := by decide +kernel
theorem dX8_wrong_15 : decode cX8_wrong 15 = .ok (.aload_n 0, 1) := by decide +kernel
theorem dX8_wrong_16 : decode cX8_wrong 16 = .ok (.getfield 64, 3) := by decide +kernel
theorem dX8_wrong_19 : decode cX8_wrong 19 = .ok (.putfield 64, 3) := by decide +kernel
theorem dX8_wrong_22 : decode cX8_wrong 22 = .ok (.return_, 1) := by decide +kernel
def X8_wrong  (M : Mem) : Option (Mem) := (if (M 19 0 8) < 0 then (some (up3 M 19 0 8 (M 19 0 6))) else (some (up3 M 19 0 8 (M 19 0 8))))
set_option maxRecDepth 100000 in
set_option maxHeartbeats 4000000 in
theorem X8_wrong_ok  {M N : Mem} {res : Mem} (h : X8_wrong M = some res) : Spec mt_X8_wrong 0 [.inr (.inr (19, 0))] (N, M) none (N, res) := by
  unfold X8_wrong at h
  refine Spec_of_G (by decide) rfl (Nat.le_of_ble_eq_true rfl) ?_
  refine G_sub [(0, .inr (.inr (19, 0)))] [0] rfl ?_
  refine G_aload_n dX8_wrong_0 rfl ?_
  refine G_aload_n dX8_wrong_1 rfl ?_
  refine fg_X8_64 (v := (M 19 0 8)) rfl rfl (by decide) dX8_wrong_2 ?_
  refine G_if_ge (tgt := 15) dX8_wrong_5 (by decide) (fun hc1 => ?_) (fun hc1 => ?_)
  · replace h := (if_neg hc1).symm.trans h
    refine G_aload_n dX8_wrong_15 rfl ?_
    refine fg_X8_64 (v := (M 19 0 8)) rfl rfl (by decide) dX8_wrong_16 ?_
    refine fp_X8_64 rfl (by decide) dX8_wrong_19 ?_
    obtain rfl := Option.some.inj h
    exact G_ret dX8_wrong_22 trivial rfl rfl
  · replace h := (if_pos hc1).symm.trans h
    refine G_aload_n dX8_wrong_8 rfl ?_
    refine fg_X8_57 (v := (M 19 0 6)) rfl rfl (by decide) dX8_wrong_9 ?_
    refine G_goto (tgt := 19) dX8_wrong_12 (by decide) ?_
    refine fp_X8_64 rfl (by decide) dX8_wrong_19 ?_
    obtain rfl := Option.some.inj h
    exact G_ret dX8_wrong_22 trivial rfl rfl

theorem dX8_lay_0 : decode cX8_lay 0 = .ok (.aload_n 0, 1) := by decide +kernel
theorem dX8_lay_1 : decode cX8_lay 1 = .ok (.getfield 64, 3) := by decide +kernel
theorem dX8_lay_4 : decode cX8_lay 4 = .ok (.ifCond .ge 23, 3) := by decide +kernel
theorem dX8_lay_7 : decode cX8_lay 7 = .ok (.aload_n 0, 1) := by decide +kernel
theorem dX8_lay_8 : decode cX8_lay 8 = .ok (.getfield 25, 3) := by decide +kernel
theorem dX8_lay_11 : decode cX8_lay 11 = .ok (.aload_n 0, 1) := by decide +kernel
theorem dX8_lay_12 : decode cX8_lay 12 = .ok (.getfield 78, 3) := by decide +kernel
theorem dX8_lay_15 : decode cX8_lay 15 = .ok (.iload_n 1, 1) := by decide +kernel
theorem dX8_lay_16 : decode cX8_lay 16 = .ok (.iastore, 1) := by decide +kernel
theorem dX8_lay_17 : decode cX8_lay 17 = .ok (.aload_n 0, 1) := by decide +kernel
theorem dX8_lay_18 : decode cX8_lay 18 = .ok (.dup, 1) := by decide +kernel
theorem dX8_lay_19 : decode cX8_lay 19 = .ok (.getfield 78, 3) := by decide +kernel
theorem dX8_lay_22 : decode cX8_lay 22 = .ok (.iconst 1, 1) := by decide +kernel
theorem dX8_lay_23 : decode cX8_lay 23 = .ok (.iadd, 1) := by decide +kernel
theorem dX8_lay_24 : decode cX8_lay 24 = .ok (.putfield 78, 3) := by decide +kernel
theorem dX8_lay_27 : decode cX8_lay 27 = .ok (.return_, 1) := by decide +kernel
def X8_lay (v1 : Int32) (M : Mem) : Option (Mem) := (if (M 19 0 8) < 0 then (if ib (M 19 0 13) 60 = true then (some (up3 (up3 M 25 0 ((M 19 0 13).toNatClampNeg) v1) 19 0 13 ((M 19 0 13) + 1))) else none) else (some M))
set_option maxRecDepth 100000 in
set_option maxHeartbeats 4000000 in
theorem X8_lay_ok  {v1 : Int32} {M N : Mem} {res : Mem} (h : X8_lay v1 M = some res) : Spec mt_X8_lay 0 [.inr (.inr (19, 0)), .inl v1] (N, M) none (N, res) := by
  unfold X8_lay at h
  refine Spec_of_G (by decide) rfl (Nat.le_of_ble_eq_true rfl) ?_
  refine G_sub [(0, .inr (.inr (19, 0))), (1, .inl v1)] [0, 1] rfl ?_
  refine G_aload_n dX8_lay_0 rfl ?_
  refine fg_X8_64 (v := (M 19 0 8)) rfl rfl (by decide) dX8_lay_1 ?_
  refine G_if_ge (tgt := 27) dX8_lay_4 (by decide) (fun hc1 => ?_) (fun hc1 => ?_)
  · replace h := (if_neg hc1).symm.trans h
    obtain rfl := Option.some.inj h
    exact G_ret dX8_lay_27 trivial rfl rfl
  · replace h := (if_pos hc1).symm.trans h
    refine G_aload_n dX8_lay_7 rfl ?_
    refine fg_X8_25 rfl (by decide) dX8_lay_8 ?_
    refine G_aload_n dX8_lay_11 rfl ?_
    refine fg_X8_78 (v := (M 19 0 13)) rfl rfl (by decide) dX8_lay_12 ?_
    refine G_iload_n dX8_lay_15 rfl ?_
    obtain ⟨hb1, h⟩ := chk h
    have lhb1 := ib_lt hb1
    refine as_25 (kk := (M 19 0 13).toNatClampNeg) (by decide) hb1 rfl dX8_lay_16 ?_
    refine G_aload_n dX8_lay_17 rfl ?_
    refine G_dup rfl dX8_lay_18 ?_
    refine fg_X8_78 (v := (M 19 0 13)) (up3_f (by decide)) rfl (by decide) dX8_lay_19 ?_
    refine G_iconst (v := 1) dX8_lay_22 (by decide) ?_
    refine G_iadd dX8_lay_23 ?_
    refine fp_X8_78 rfl (by decide) dX8_lay_24 ?_
    obtain rfl := Option.some.inj h
    exact G_ret dX8_lay_27 trivial rfl rfl

theorem dX8_takes_0 : decode cX8_takes 0 = .ok (.aload_n 0, 1) := by decide +kernel
theorem dX8_takes_1 : decode cX8_takes 1 = .ok (.invokevirtual 70, 3) := by decide +kernel
theorem dX8_takes_4 : decode cX8_takes 4 = .ok (.iload_n 1, 1) := by decide +kernel
theorem dX8_takes_5 : decode cX8_takes 5 = .ok (.if_icmp .eq 5, 3) := by decide +kernel
theorem dX8_takes_8 : decode cX8_takes 8 = .ok (.iconst 0, 1) := by decide +kernel
theorem dX8_takes_9 : decode cX8_takes 9 = .ok (.ireturn, 1) := by decide +kernel
theorem dX8_takes_10 : decode cX8_takes 10 = .ok (.aload_n 0, 1) := by decide +kernel
theorem dX8_takes_11 : decode cX8_takes 11 = .ok (.dup, 1) := by decide +kernel
theorem dX8_takes_12 : decode cX8_takes 12 = .ok (.getfield 57, 3) := by decide +kernel
theorem dX8_takes_15 : decode cX8_takes 15 = .ok (.iconst 1, 1) := by decide +kernel
theorem dX8_takes_16 : decode cX8_takes 16 = .ok (.iadd, 1) := by decide +kernel
theorem dX8_takes_17 : decode cX8_takes 17 = .ok (.putfield 57, 3) := by decide +kernel
theorem dX8_takes_20 : decode cX8_takes 20 = .ok (.iconst 1, 1) := by decide +kernel
theorem dX8_takes_21 : decode cX8_takes 21 = .ok (.ireturn, 1) := by decide +kernel
def X8_takes (v1 : Int32) (M : Mem) : Option (Int32 × Mem) := ((X8_here M).bind fun q1 => (if q1 = v1 then (some (1, (up3 M 19 0 6 ((M 19 0 6) + 1)))) else (some (0, M))))
set_option maxRecDepth 100000 in
set_option maxHeartbeats 4000000 in
theorem X8_takes_ok  {v1 : Int32} {M N : Mem} {res : Int32 × Mem} (h : X8_takes v1 M = some res) : Spec mt_X8_takes 1 [.inr (.inr (19, 0)), .inl v1] (N, M) (some (.inl res.1)) (N, res.2) := by
  unfold X8_takes at h
  refine Spec_of_G (by decide) rfl (Nat.le_of_ble_eq_true rfl) ?_
  refine G_sub [(0, .inr (.inr (19, 0))), (1, .inl v1)] [0, 1] rfl ?_
  refine G_aload_n dX8_takes_0 rfl ?_
  obtain ⟨q1, hq1, h⟩ := bnd h
  refine G_callVv (T := TX8) (N := 22) (f := 19) (i := 0) (X8_here_ok hq1) ok_X8_here ml_X8_70 (by decide) rfl (by decide) (by decide) (by decide) rfl rfl (Nat.le_of_ble_eq_true rfl) dX8_takes_1 ?_
  refine G_iload_n dX8_takes_4 rfl ?_
  refine G_icmp_eq (tgt := 10) dX8_takes_5 (by decide) (fun hc1 => ?_) (fun hc1 => ?_)
  · replace h := (if_pos hc1).symm.trans h
    refine G_aload_n dX8_takes_10 rfl ?_
    refine G_dup rfl dX8_takes_11 ?_
    refine fg_X8_57 (v := (M 19 0 6)) rfl rfl (by decide) dX8_takes_12 ?_
    refine G_iconst (v := 1) dX8_takes_15 (by decide) ?_
    refine G_iadd dX8_takes_16 ?_
    refine fp_X8_57 rfl (by decide) dX8_takes_17 ?_
    refine G_iconst (v := 1) dX8_takes_20 (by decide) ?_
    obtain rfl := Option.some.inj h
    exact G_ret dX8_takes_21 (Or.inr rfl) rfl rfl
  · replace h := (if_neg hc1).symm.trans h
    refine G_iconst (v := 0) dX8_takes_8 (by decide) ?_
    obtain rfl := Option.some.inj h
    exact G_ret dX8_takes_9 (Or.inl rfl) rfl rfl

theorem dX8_nameOf_0 : decode cX8_nameOf 0 = .ok (.iload_n 1, 1) := by decide +kernel
theorem dX8_nameOf_1 : decode cX8_nameOf 1 = .ok (.bipush 117, 2) := by decide +kernel
theorem dX8_nameOf_3 : decode cX8_nameOf 3 = .ok (.if_icmp .ne 7, 3) := by decide +kernel
theorem dX8_nameOf_6 : decode cX8_nameOf 6 = .ok (.iconst 0, 1) := by decide +kernel
theorem dX8_nameOf_7 : decode cX8_nameOf 7 = .ok (.goto 48, 3) := by decide +kernel
theorem dX8_nameOf_10 : decode cX8_nameOf 10 = .ok (.iload_n 1, 1) := by decide +kernel
theorem dX8_nameOf_11 : decode cX8_nameOf 11 = .ok (.aload_n 0, 1) := by decide +kernel
theorem dX8_nameOf_12 : decode cX8_nameOf 12 = .ok (.getfield 74, 3) := by decide +kernel
theorem dX8_nameOf_15 : decode cX8_nameOf 15 = .ok (.ifCond .eq 8, 3) := by decide +kernel
theorem dX8_nameOf_18 : decode cX8_nameOf 18 = .ok (.bipush 121, 2) := by decide +kernel
theorem dX8_nameOf_20 : decode cX8_nameOf 20 = .ok (.goto 5, 3) := by decide +kernel
theorem dX8_nameOf_23 : decode cX8_nameOf 23 = .ok (.bipush 99, 2) := by decide +kernel
theorem dX8_nameOf_25 : decode cX8_nameOf 25 = .ok (.if_icmp .ne 7, 3) := by decide +kernel
theorem dX8_nameOf_28 : decode cX8_nameOf 28 = .ok (.iconst 1, 1) := by decide +kernel
theorem dX8_nameOf_29 : decode cX8_nameOf 29 = .ok (.goto 26, 3) := by decide +kernel
theorem dX8_nameOf_32 : decode cX8_nameOf 32 = .ok (.iload_n 1, 1) := by decide +kernel
theorem dX8_nameOf_33 : decode cX8_nameOf 33 = .ok (.aload_n 0, 1) := by decide +kernel
theorem dX8_nameOf_34 : decode cX8_nameOf 34 = .ok (.getfield 74, 3) := by decide +kernel
theorem dX8_nameOf_37 : decode cX8_nameOf 37 = .ok (.ifCond .eq 8, 3) := by decide +kernel
theorem dX8_nameOf_40 : decode cX8_nameOf 40 = .ok (.bipush 110, 2) := by decide +kernel
theorem dX8_nameOf_42 : decode cX8_nameOf 42 = .ok (.goto 5, 3) := by decide +kernel
theorem dX8_nameOf_45 : decode cX8_nameOf 45 = .ok (.bipush 104, 2) := by decide +kernel
theorem dX8_nameOf_47 : decode cX8_nameOf 47 = .ok (.if_icmp .ne 7, 3) := by decide +kernel
theorem dX8_nameOf_50 : decode cX8_nameOf 50 = .ok (.iconst 2, 1) := by decide +kernel
theorem dX8_nameOf_51 : decode cX8_nameOf 51 = .ok (.goto 4, 3) := by decide +kernel
theorem dX8_nameOf_54 : decode cX8_nameOf 54 = .ok (.iconst (-1), 1) := by decide +kernel
theorem dX8_nameOf_55 : decode cX8_nameOf 55 = .ok (.ireturn, 1) := by decide +kernel
def X8_nameOf_J47 (s0 : Int32) (s1 : Int32) (M : Mem) : Int32 := (if s1 = s0 then 2 else (-1))
set_option maxRecDepth 100000 in
set_option maxHeartbeats 4000000 in
theorem X8_nameOf_J47_ok  {s0 : Int32} {s1 : Int32} {M N : Mem} {res : Int32} (h : X8_nameOf_J47 s0 s1 M = res) : G mt_X8_nameOf 0 (some (.inl res)) (N, M) 47 [] [.inl s0, .inl s1] (N, M) := by
  unfold X8_nameOf_J47 at h
  refine G_icmp_ne (tgt := 54) dX8_nameOf_47 (by decide) (fun hc5 => ?_) (fun hc5 => ?_)
  · replace h := (if_neg hc5).symm.trans h
    refine G_iconst (v := (-1)) dX8_nameOf_54 (by decide) ?_
    subst h
    exact G_ret dX8_nameOf_55 trivial rfl rfl
  · replace h := (if_pos hc5).symm.trans h
    refine G_iconst (v := 2) dX8_nameOf_50 (by decide) ?_
    refine G_goto (tgt := 55) dX8_nameOf_51 (by decide) ?_
    subst h
    exact G_ret dX8_nameOf_55 trivial rfl rfl

def X8_nameOf_J25 (v1 : Int32) (s0 : Int32) (s1 : Int32) (M : Mem) : Int32 := (if s1 = s0 then 1 else (if (nbZ (M 19 0 10)) = 0 then (X8_nameOf_J47 104 v1 M) else (X8_nameOf_J47 110 v1 M)))
set_option maxRecDepth 100000 in
set_option maxHeartbeats 4000000 in
theorem X8_nameOf_J25_ok  {v1 : Int32} {s0 : Int32} {s1 : Int32} {M N : Mem} {res : Int32} (h : X8_nameOf_J25 v1 s0 s1 M = res) : G mt_X8_nameOf 0 (some (.inl res)) (N, M) 25 [(0, .inr (.inr (19, 0))), (1, .inl v1)] [.inl s0, .inl s1] (N, M) := by
  unfold X8_nameOf_J25 at h
  refine G_icmp_ne (tgt := 32) dX8_nameOf_25 (by decide) (fun hc3 => ?_) (fun hc3 => ?_)
  · replace h := (if_neg hc3).symm.trans h
    refine G_iload_n dX8_nameOf_32 rfl ?_
    refine G_aload_n dX8_nameOf_33 rfl ?_
    refine fg_X8_74 (v := (nbZ (M 19 0 10))) rfl rfl (by decide) dX8_nameOf_34 ?_
    refine G_if_eq (tgt := 45) dX8_nameOf_37 (by decide) (fun hc4 => ?_) (fun hc4 => ?_)
    · replace h := (if_pos hc4).symm.trans h
      refine G_bipush (v := 104) dX8_nameOf_45 (by decide) ?_
      refine G_sub [] [] rfl ?_
      exact X8_nameOf_J47_ok   h
    · replace h := (if_neg hc4).symm.trans h
      refine G_bipush (v := 110) dX8_nameOf_40 (by decide) ?_
      refine G_goto (tgt := 47) dX8_nameOf_42 (by decide) ?_
      refine G_sub [] [] rfl ?_
      exact X8_nameOf_J47_ok   h
  · replace h := (if_pos hc3).symm.trans h
    refine G_iconst (v := 1) dX8_nameOf_28 (by decide) ?_
    refine G_goto (tgt := 55) dX8_nameOf_29 (by decide) ?_
    subst h
    exact G_ret dX8_nameOf_55 trivial rfl rfl

def X8_nameOf (v1 : Int32) (M : Mem) : Int32 := (if v1 = 117 then 0 else (if (nbZ (M 19 0 10)) = 0 then (X8_nameOf_J25 v1 99 v1 M) else (X8_nameOf_J25 v1 121 v1 M)))
set_option maxRecDepth 100000 in
set_option maxHeartbeats 4000000 in
theorem X8_nameOf_ok  {v1 : Int32} {M N : Mem} {res : Int32} (h : X8_nameOf v1 M = res) : Spec mt_X8_nameOf 0 [.inr (.inr (19, 0)), .inl v1] (N, M) (some (.inl res)) (N, M) := by
  unfold X8_nameOf at h
  refine Spec_of_G (by decide) rfl (Nat.le_of_ble_eq_true rfl) ?_
  refine G_sub [(0, .inr (.inr (19, 0))), (1, .inl v1)] [0, 1] rfl ?_
  refine G_iload_n dX8_nameOf_0 rfl ?_
  refine G_bipush (v := 117) dX8_nameOf_1 (by decide) ?_
  refine G_icmp_ne (tgt := 10) dX8_nameOf_3 (by decide) (fun hc1 => ?_) (fun hc1 => ?_)
  · replace h := (if_neg hc1).symm.trans h
    refine G_iload_n dX8_nameOf_10 rfl ?_
    refine G_aload_n dX8_nameOf_11 rfl ?_
    refine fg_X8_74 (v := (nbZ (M 19 0 10))) rfl rfl (by decide) dX8_nameOf_12 ?_
    refine G_if_eq (tgt := 23) dX8_nameOf_15 (by decide) (fun hc2 => ?_) (fun hc2 => ?_)
    · replace h := (if_pos hc2).symm.trans h
      refine G_bipush (v := 99) dX8_nameOf_23 (by decide) ?_
      exact X8_nameOf_J25_ok   h
    · replace h := (if_neg hc2).symm.trans h
      refine G_bipush (v := 121) dX8_nameOf_18 (by decide) ?_
      refine G_goto (tgt := 25) dX8_nameOf_20 (by decide) ?_
      exact X8_nameOf_J25_ok   h
  · replace h := (if_pos hc1).symm.trans h
    refine G_iconst (v := 0) dX8_nameOf_6 (by decide) ?_
    refine G_goto (tgt := 55) dX8_nameOf_7 (by decide) ?_
    subst h
    exact G_ret dX8_nameOf_55 trivial rfl rfl

theorem dX8_either_0 : decode cX8_either 0 = .ok (.aload_n 0, 1) := by decide +kernel
theorem dX8_either_1 : decode cX8_either 1 = .ok (.invokevirtual 81, 3) := by decide +kernel
theorem dX8_either_4 : decode cX8_either 4 = .ok (.aload_n 0, 1) := by decide +kernel
theorem dX8_either_5 : decode cX8_either 5 = .ok (.bipush 124, 2) := by decide +kernel
theorem dX8_either_7 : decode cX8_either 7 = .ok (.invokevirtual 84, 3) := by decide +kernel
theorem dX8_either_10 : decode cX8_either 10 = .ok (.ifCond .eq 17, 3) := by decide +kernel
theorem dX8_either_13 : decode cX8_either 13 = .ok (.aload_n 0, 1) := by decide +kernel
theorem dX8_either_14 : decode cX8_either 14 = .ok (.invokevirtual 81, 3) := by decide +kernel
theorem dX8_either_17 : decode cX8_either 17 = .ok (.aload_n 0, 1) := by decide +kernel
theorem dX8_either_18 : decode cX8_either 18 = .ok (.sipush 20124, 3) := by decide +kernel
theorem dX8_either_21 : decode cX8_either 21 = .ok (.invokevirtual 88, 3) := by decide +kernel
theorem dX8_either_24 : decode cX8_either 24 = .ok (.goto (-20), 3) := by decide +kernel
theorem dX8_either_27 : decode cX8_either 27 = .ok (.return_, 1) := by decide +kernel
theorem dX8_both_0 : decode cX8_both 0 = .ok (.aload_n 0, 1) := by decide +kernel
theorem dX8_both_1 : decode cX8_both 1 = .ok (.invokevirtual 92, 3) := by decide +kernel
theorem dX8_both_4 : decode cX8_both 4 = .ok (.aload_n 0, 1) := by decide +kernel
theorem dX8_both_5 : decode cX8_both 5 = .ok (.bipush 38, 2) := by decide +kernel
theorem dX8_both_7 : decode cX8_both 7 = .ok (.invokevirtual 84, 3) := by decide +kernel
theorem dX8_both_10 : decode cX8_both 10 = .ok (.ifCond .eq 17, 3) := by decide +kernel
theorem dX8_both_13 : decode cX8_both 13 = .ok (.aload_n 0, 1) := by decide +kernel
theorem dX8_both_14 : decode cX8_both 14 = .ok (.invokevirtual 92, 3) := by decide +kernel
theorem dX8_both_17 : decode cX8_both 17 = .ok (.aload_n 0, 1) := by decide +kernel
theorem dX8_both_18 : decode cX8_both 18 = .ok (.sipush 20038, 3) := by decide +kernel
theorem dX8_both_21 : decode cX8_both 21 = .ok (.invokevirtual 88, 3) := by decide +kernel
theorem dX8_both_24 : decode cX8_both 24 = .ok (.goto (-20), 3) := by decide +kernel
theorem dX8_both_27 : decode cX8_both 27 = .ok (.return_, 1) := by decide +kernel
theorem dX8_compared_0 : decode cX8_compared 0 = .ok (.aload_n 0, 1) := by decide +kernel
theorem dX8_compared_1 : decode cX8_compared 1 = .ok (.invokevirtual 95, 3) := by decide +kernel
theorem dX8_compared_4 : decode cX8_compared 4 = .ok (.aload_n 0, 1) := by decide +kernel
theorem dX8_compared_5 : decode cX8_compared 5 = .ok (.invokevirtual 70, 3) := by decide +kernel
theorem dX8_compared_8 : decode cX8_compared 8 = .ok (.istore_n 1, 1) := by decide +kernel
theorem dX8_compared_9 : decode cX8_compared 9 = .ok (.iload_n 1, 1) := by decide +kernel
theorem dX8_compared_10 : decode cX8_compared 10 = .ok (.bipush 60, 2) := by decide +kernel
theorem dX8_compared_12 : decode cX8_compared 12 = .ok (.if_icmp .eq 15, 3) := by decide +kernel
theorem dX8_compared_15 : decode cX8_compared 15 = .ok (.iload_n 1, 1) := by decide +kernel
theorem dX8_compared_16 : decode cX8_compared 16 = .ok (.bipush 61, 2) := by decide +kernel
theorem dX8_compared_18 : decode cX8_compared 18 = .ok (.if_icmp .eq 9, 3) := by decide +kernel
theorem dX8_compared_21 : decode cX8_compared 21 = .ok (.iload_n 1, 1) := by decide +kernel
theorem dX8_compared_22 : decode cX8_compared 22 = .ok (.bipush 62, 2) := by decide +kernel
theorem dX8_compared_24 : decode cX8_compared 24 = .ok (.if_icmp .ne 26, 3) := by decide +kernel
theorem dX8_compared_27 : decode cX8_compared 27 = .ok (.aload_n 0, 1) := by decide +kernel
theorem dX8_compared_28 : decode cX8_compared 28 = .ok (.dup, 1) := by decide +kernel
theorem dX8_compared_29 : decode cX8_compared 29 = .ok (.getfield 57, 3) := by decide +kernel
theorem dX8_compared_32 : decode cX8_compared 32 = .ok (.iconst 1, 1) := by decide +kernel
theorem dX8_compared_33 : decode cX8_compared 33 = .ok (.iadd, 1) := by decide +kernel
theorem dX8_compared_34 : decode cX8_compared 34 = .ok (.putfield 57, 3) := by decide +kernel
theorem dX8_compared_37 : decode cX8_compared 37 = .ok (.aload_n 0, 1) := by decide +kernel
theorem dX8_compared_38 : decode cX8_compared 38 = .ok (.invokevirtual 95, 3) := by decide +kernel
theorem dX8_compared_41 : decode cX8_compared 41 = .ok (.aload_n 0, 1) := by decide +kernel
theorem dX8_compared_42 : decode cX8_compared 42 = .ok (.sipush 20000, 3) := by decide +kernel
theorem dX8_compared_45 : decode cX8_compared 45 = .ok (.iload_n 1, 1) := by decide +kernel
theorem dX8_compared_46 : decode cX8_compared 46 = .ok (.iadd, 1) := by decide +kernel
theorem dX8_compared_47 : decode cX8_compared 47 = .ok (.invokevirtual 88, 3) := by decide +kernel
theorem dX8_compared_50 : decode cX8_compared 50 = .ok (.return_, 1) := by decide +kernel
theorem dX8_sum_0 : decode cX8_sum 0 = .ok (.aload_n 0, 1) := by decide +kernel
theorem dX8_sum_1 : decode cX8_sum 1 = .ok (.invokevirtual 98, 3) := by decide +kernel
theorem dX8_sum_4 : decode cX8_sum 4 = .ok (.aload_n 0, 1) := by decide +kernel
theorem dX8_sum_5 : decode cX8_sum 5 = .ok (.invokevirtual 70, 3) := by decide +kernel
theorem dX8_sum_8 : decode cX8_sum 8 = .ok (.bipush 43, 2) := by decide +kernel
theorem dX8_sum_10 : decode cX8_sum 10 = .ok (.if_icmp .eq 12, 3) := by decide +kernel
theorem dX8_sum_13 : decode cX8_sum 13 = .ok (.aload_n 0, 1) := by decide +kernel
theorem dX8_sum_14 : decode cX8_sum 14 = .ok (.invokevirtual 70, 3) := by decide +kernel
theorem dX8_sum_17 : decode cX8_sum 17 = .ok (.bipush 45, 2) := by decide +kernel
theorem dX8_sum_19 : decode cX8_sum 19 = .ok (.if_icmp .ne 34, 3) := by decide +kernel
theorem dX8_sum_22 : decode cX8_sum 22 = .ok (.aload_n 0, 1) := by decide +kernel
theorem dX8_sum_23 : decode cX8_sum 23 = .ok (.invokevirtual 70, 3) := by decide +kernel
theorem dX8_sum_26 : decode cX8_sum 26 = .ok (.istore_n 1, 1) := by decide +kernel
theorem dX8_sum_27 : decode cX8_sum 27 = .ok (.aload_n 0, 1) := by decide +kernel
theorem dX8_sum_28 : decode cX8_sum 28 = .ok (.dup, 1) := by decide +kernel
theorem dX8_sum_29 : decode cX8_sum 29 = .ok (.getfield 57, 3) := by decide +kernel
theorem dX8_sum_32 : decode cX8_sum 32 = .ok (.iconst 1, 1) := by decide +kernel
theorem dX8_sum_33 : decode cX8_sum 33 = .ok (.iadd, 1) := by decide +kernel
theorem dX8_sum_34 : decode cX8_sum 34 = .ok (.putfield 57, 3) := by decide +kernel
theorem dX8_sum_37 : decode cX8_sum 37 = .ok (.aload_n 0, 1) := by decide +kernel
theorem dX8_sum_38 : decode cX8_sum 38 = .ok (.invokevirtual 98, 3) := by decide +kernel
theorem dX8_sum_41 : decode cX8_sum 41 = .ok (.aload_n 0, 1) := by decide +kernel
theorem dX8_sum_42 : decode cX8_sum 42 = .ok (.sipush 20000, 3) := by decide +kernel
theorem dX8_sum_45 : decode cX8_sum 45 = .ok (.iload_n 1, 1) := by decide +kernel
theorem dX8_sum_46 : decode cX8_sum 46 = .ok (.iadd, 1) := by decide +kernel
theorem dX8_sum_47 : decode cX8_sum 47 = .ok (.invokevirtual 88, 3) := by decide +kernel
theorem dX8_sum_50 : decode cX8_sum 50 = .ok (.goto (-46), 3) := by decide +kernel
theorem dX8_sum_53 : decode cX8_sum 53 = .ok (.return_, 1) := by decide +kernel
theorem dX8_product_0 : decode cX8_product 0 = .ok (.aload_n 0, 1) := by decide +kernel
theorem dX8_product_1 : decode cX8_product 1 = .ok (.invokevirtual 101, 3) := by decide +kernel
theorem dX8_product_4 : decode cX8_product 4 = .ok (.aload_n 0, 1) := by decide +kernel
theorem dX8_product_5 : decode cX8_product 5 = .ok (.invokevirtual 70, 3) := by decide +kernel
theorem dX8_product_8 : decode cX8_product 8 = .ok (.bipush 42, 2) := by decide +kernel
theorem dX8_product_10 : decode cX8_product 10 = .ok (.if_icmp .eq 21, 3) := by decide +kernel
theorem dX8_product_13 : decode cX8_product 13 = .ok (.aload_n 0, 1) := by decide +kernel
theorem dX8_product_14 : decode cX8_product 14 = .ok (.invokevirtual 70, 3) := by decide +kernel
theorem dX8_product_17 : decode cX8_product 17 = .ok (.bipush 47, 2) := by decide +kernel
theorem dX8_product_19 : decode cX8_product 19 = .ok (.if_icmp .eq 12, 3) := by decide +kernel
theorem dX8_product_22 : decode cX8_product 22 = .ok (.aload_n 0, 1) := by decide +kernel
theorem dX8_product_23 : decode cX8_product 23 = .ok (.invokevirtual 70, 3) := by decide +kernel
theorem dX8_product_26 : decode cX8_product 26 = .ok (.bipush 37, 2) := by decide +kernel
theorem dX8_product_28 : decode cX8_product 28 = .ok (.if_icmp .ne 34, 3) := by decide +kernel
theorem dX8_product_31 : decode cX8_product 31 = .ok (.aload_n 0, 1) := by decide +kernel
theorem dX8_product_32 : decode cX8_product 32 = .ok (.invokevirtual 70, 3) := by decide +kernel
theorem dX8_product_35 : decode cX8_product 35 = .ok (.istore_n 1, 1) := by decide +kernel
theorem dX8_product_36 : decode cX8_product 36 = .ok (.aload_n 0, 1) := by decide +kernel
theorem dX8_product_37 : decode cX8_product 37 = .ok (.dup, 1) := by decide +kernel
theorem dX8_product_38 : decode cX8_product 38 = .ok (.getfield 57, 3) := by decide +kernel
theorem dX8_product_41 : decode cX8_product 41 = .ok (.iconst 1, 1) := by decide +kernel
theorem dX8_product_42 : decode cX8_product 42 = .ok (.iadd, 1) := by decide +kernel
theorem dX8_product_43 : decode cX8_product 43 = .ok (.putfield 57, 3) := by decide +kernel
theorem dX8_product_46 : decode cX8_product 46 = .ok (.aload_n 0, 1) := by decide +kernel
theorem dX8_product_47 : decode cX8_product 47 = .ok (.invokevirtual 101, 3) := by decide +kernel
theorem dX8_product_50 : decode cX8_product 50 = .ok (.aload_n 0, 1) := by decide +kernel
theorem dX8_product_51 : decode cX8_product 51 = .ok (.sipush 20000, 3) := by decide +kernel
theorem dX8_product_54 : decode cX8_product 54 = .ok (.iload_n 1, 1) := by decide +kernel
theorem dX8_product_55 : decode cX8_product 55 = .ok (.iadd, 1) := by decide +kernel
theorem dX8_product_56 : decode cX8_product 56 = .ok (.invokevirtual 88, 3) := by decide +kernel
theorem dX8_product_59 : decode cX8_product 59 = .ok (.goto (-55), 3) := by decide +kernel
theorem dX8_product_62 : decode cX8_product 62 = .ok (.return_, 1) := by decide +kernel
theorem dX8_unit_0 : decode cX8_unit 0 = .ok (.aload_n 0, 1) := by decide +kernel
theorem dX8_unit_1 : decode cX8_unit 1 = .ok (.invokevirtual 70, 3) := by decide +kernel
theorem dX8_unit_4 : decode cX8_unit 4 = .ok (.istore_n 1, 1) := by decide +kernel
theorem dX8_unit_5 : decode cX8_unit 5 = .ok (.iload_n 1, 1) := by decide +kernel
theorem dX8_unit_6 : decode cX8_unit 6 = .ok (.bipush 33, 2) := by decide +kernel
theorem dX8_unit_8 : decode cX8_unit 8 = .ok (.if_icmp .eq 9, 3) := by decide +kernel
theorem dX8_unit_11 : decode cX8_unit 11 = .ok (.iload_n 1, 1) := by decide +kernel
theorem dX8_unit_12 : decode cX8_unit 12 = .ok (.bipush 40, 2) := by decide +kernel
theorem dX8_unit_14 : decode cX8_unit 14 = .ok (.if_icmp .ne 9, 3) := by decide +kernel
theorem dX8_unit_17 : decode cX8_unit 17 = .ok (.aload_n 0, 1) := by decide +kernel
theorem dX8_unit_18 : decode cX8_unit 18 = .ok (.iload_n 1, 1) := by decide +kernel
theorem dX8_unit_19 : decode cX8_unit 19 = .ok (.invokevirtual 113, 3) := by decide +kernel
theorem dX8_unit_22 : decode cX8_unit 22 = .ok (.return_, 1) := by decide +kernel
theorem dX8_unit_23 : decode cX8_unit 23 = .ok (.aload_n 0, 1) := by decide +kernel
theorem dX8_unit_24 : decode cX8_unit 24 = .ok (.iload_n 1, 1) := by decide +kernel
theorem dX8_unit_25 : decode cX8_unit 25 = .ok (.invokevirtual 116, 3) := by decide +kernel
theorem dX8_unit_28 : decode cX8_unit 28 = .ok (.istore_n 2, 1) := by decide +kernel
theorem dX8_unit_29 : decode cX8_unit 29 = .ok (.iload_n 2, 1) := by decide +kernel
theorem dX8_unit_30 : decode cX8_unit 30 = .ok (.ifCond .lt 23, 3) := by decide +kernel
theorem dX8_unit_33 : decode cX8_unit 33 = .ok (.aload_n 0, 1) := by decide +kernel
theorem dX8_unit_34 : decode cX8_unit 34 = .ok (.dup, 1) := by decide +kernel
theorem dX8_unit_35 : decode cX8_unit 35 = .ok (.getfield 57, 3) := by decide +kernel
theorem dX8_unit_38 : decode cX8_unit 38 = .ok (.iconst 1, 1) := by decide +kernel
theorem dX8_unit_39 : decode cX8_unit 39 = .ok (.iadd, 1) := by decide +kernel
theorem dX8_unit_40 : decode cX8_unit 40 = .ok (.putfield 57, 3) := by decide +kernel
theorem dX8_unit_43 : decode cX8_unit 43 = .ok (.aload_n 0, 1) := by decide +kernel
theorem dX8_unit_44 : decode cX8_unit 44 = .ok (.sipush 10000, 3) := by decide +kernel
theorem dX8_unit_47 : decode cX8_unit 47 = .ok (.iload_n 2, 1) := by decide +kernel
theorem dX8_unit_48 : decode cX8_unit 48 = .ok (.iadd, 1) := by decide +kernel
theorem dX8_unit_49 : decode cX8_unit 49 = .ok (.invokevirtual 88, 3) := by decide +kernel
theorem dX8_unit_52 : decode cX8_unit 52 = .ok (.return_, 1) := by decide +kernel
theorem dX8_unit_53 : decode cX8_unit 53 = .ok (.iconst 0, 1) := by decide +kernel
theorem dX8_unit_54 : decode cX8_unit 54 = .ok (.istore_n 3, 1) := by decide +kernel
theorem dX8_unit_55 : decode cX8_unit 55 = .ok (.iconst 0, 1) := by decide +kernel
theorem dX8_unit_56 : decode cX8_unit 56 = .ok (.istore 4, 2) := by decide +kernel
theorem dX8_unit_58 : decode cX8_unit 58 = .ok (.iload 4, 2) := by decide +kernel
theorem dX8_unit_60 : decode cX8_unit 60 = .ok (.iconst 4, 1) := by decide +kernel
theorem dX8_unit_61 : decode cX8_unit 61 = .ok (.if_icmp .ge 49, 3) := by decide +kernel
theorem dX8_unit_64 : decode cX8_unit 64 = .ok (.aload_n 0, 1) := by decide +kernel
theorem dX8_unit_65 : decode cX8_unit 65 = .ok (.invokevirtual 70, 3) := by decide +kernel
theorem dX8_unit_68 : decode cX8_unit 68 = .ok (.i2l, 1) := by decide +kernel
theorem dX8_unit_69 : decode cX8_unit 69 = .ok (.ldc2_w 120, 3) := by decide +kernel
theorem dX8_unit_72 : decode cX8_unit 72 = .ok (.ldc2_w 122, 3) := by decide +kernel
theorem dX8_unit_75 : decode cX8_unit 75 = .ok (.invokestatic 47, 3) := by decide +kernel
theorem dX8_unit_78 : decode cX8_unit 78 = .ok (.ifCond .eq 32, 3) := by decide +kernel
theorem dX8_unit_81 : decode cX8_unit 81 = .ok (.bipush 10, 2) := by decide +kernel
theorem dX8_unit_83 : decode cX8_unit 83 = .ok (.iload_n 3, 1) := by decide +kernel
theorem dX8_unit_84 : decode cX8_unit 84 = .ok (.imul, 1) := by decide +kernel
theorem dX8_unit_85 : decode cX8_unit 85 = .ok (.aload_n 0, 1) := by decide +kernel
theorem dX8_unit_86 : decode cX8_unit 86 = .ok (.invokevirtual 70, 3) := by decide +kernel
theorem dX8_unit_89 : decode cX8_unit 89 = .ok (.iadd, 1) := by decide +kernel
theorem dX8_unit_90 : decode cX8_unit 90 = .ok (.bipush 48, 2) := by decide +kernel
theorem dX8_unit_92 : decode cX8_unit 92 = .ok (.isub, 1) := by decide +kernel
theorem dX8_unit_93 : decode cX8_unit 93 = .ok (.istore_n 3, 1) := by decide +kernel
theorem dX8_unit_94 : decode cX8_unit 94 = .ok (.aload_n 0, 1) := by decide +kernel
theorem dX8_unit_95 : decode cX8_unit 95 = .ok (.dup, 1) := by decide +kernel
theorem dX8_unit_96 : decode cX8_unit 96 = .ok (.getfield 57, 3) := by decide +kernel
theorem dX8_unit_99 : decode cX8_unit 99 = .ok (.iconst 1, 1) := by decide +kernel
theorem dX8_unit_100 : decode cX8_unit 100 = .ok (.iadd, 1) := by decide +kernel
theorem dX8_unit_101 : decode cX8_unit 101 = .ok (.putfield 57, 3) := by decide +kernel
theorem dX8_unit_104 : decode cX8_unit 104 = .ok (.iinc 4 1, 3) := by decide +kernel
theorem dX8_unit_107 : decode cX8_unit 107 = .ok (.goto (-49), 3) := by decide +kernel
theorem dX8_unit_110 : decode cX8_unit 110 = .ok (.iload 4, 2) := by decide +kernel
theorem dX8_unit_112 : decode cX8_unit 112 = .ok (.ifCond .ne 7, 3) := by decide +kernel
theorem dX8_unit_115 : decode cX8_unit 115 = .ok (.aload_n 0, 1) := by decide +kernel
theorem dX8_unit_116 : decode cX8_unit 116 = .ok (.invokevirtual 107, 3) := by decide +kernel
theorem dX8_unit_119 : decode cX8_unit 119 = .ok (.aload_n 0, 1) := by decide +kernel
theorem dX8_unit_120 : decode cX8_unit 120 = .ok (.iload_n 3, 1) := by decide +kernel
theorem dX8_unit_121 : decode cX8_unit 121 = .ok (.invokevirtual 88, 3) := by decide +kernel
theorem dX8_unit_124 : decode cX8_unit 124 = .ok (.return_, 1) := by decide +kernel
theorem dX8_opens_0 : decode cX8_opens 0 = .ok (.aload_n 0, 1) := by decide +kernel
theorem dX8_opens_1 : decode cX8_opens 1 = .ok (.getfield 104, 3) := by decide +kernel
theorem dX8_opens_4 : decode cX8_opens 4 = .ok (.iconst 5, 1) := by decide +kernel
theorem dX8_opens_5 : decode cX8_opens 5 = .ok (.if_icmp .ne 8, 3) := by decide +kernel
theorem dX8_opens_8 : decode cX8_opens 8 = .ok (.aload_n 0, 1) := by decide +kernel
theorem dX8_opens_9 : decode cX8_opens 9 = .ok (.invokevirtual 107, 3) := by decide +kernel
theorem dX8_opens_12 : decode cX8_opens 12 = .ok (.return_, 1) := by decide +kernel
theorem dX8_opens_13 : decode cX8_opens 13 = .ok (.aload_n 0, 1) := by decide +kernel
theorem dX8_opens_14 : decode cX8_opens 14 = .ok (.dup, 1) := by decide +kernel
theorem dX8_opens_15 : decode cX8_opens 15 = .ok (.getfield 104, 3) := by decide +kernel
theorem dX8_opens_18 : decode cX8_opens 18 = .ok (.iconst 1, 1) := by decide +kernel
theorem dX8_opens_19 : decode cX8_opens 19 = .ok (.iadd, 1) := by decide +kernel
theorem dX8_opens_20 : decode cX8_opens 20 = .ok (.putfield 104, 3) := by decide +kernel
theorem dX8_opens_23 : decode cX8_opens 23 = .ok (.aload_n 0, 1) := by decide +kernel
theorem dX8_opens_24 : decode cX8_opens 24 = .ok (.dup, 1) := by decide +kernel
theorem dX8_opens_25 : decode cX8_opens 25 = .ok (.getfield 57, 3) := by decide +kernel
theorem dX8_opens_28 : decode cX8_opens 28 = .ok (.iconst 1, 1) := by decide +kernel
theorem dX8_opens_29 : decode cX8_opens 29 = .ok (.iadd, 1) := by decide +kernel
theorem dX8_opens_30 : decode cX8_opens 30 = .ok (.putfield 57, 3) := by decide +kernel
theorem dX8_opens_33 : decode cX8_opens 33 = .ok (.iload_n 1, 1) := by decide +kernel
theorem dX8_opens_34 : decode cX8_opens 34 = .ok (.bipush 33, 2) := by decide +kernel
theorem dX8_opens_36 : decode cX8_opens 36 = .ok (.if_icmp .ne 17, 3) := by decide +kernel
theorem dX8_opens_39 : decode cX8_opens 39 = .ok (.aload_n 0, 1) := by decide +kernel
theorem dX8_opens_40 : decode cX8_opens 40 = .ok (.invokevirtual 101, 3) := by decide +kernel
theorem dX8_opens_43 : decode cX8_opens 43 = .ok (.aload_n 0, 1) := by decide +kernel
theorem dX8_opens_44 : decode cX8_opens 44 = .ok (.sipush 20033, 3) := by decide +kernel
theorem dX8_opens_47 : decode cX8_opens 47 = .ok (.invokevirtual 88, 3) := by decide +kernel
theorem dX8_opens_50 : decode cX8_opens 50 = .ok (.goto 20, 3) := by decide +kernel
theorem dX8_opens_53 : decode cX8_opens 53 = .ok (.aload_n 0, 1) := by decide +kernel
theorem dX8_opens_54 : decode cX8_opens 54 = .ok (.invokevirtual 110, 3) := by decide +kernel
theorem dX8_opens_57 : decode cX8_opens 57 = .ok (.aload_n 0, 1) := by decide +kernel
theorem dX8_opens_58 : decode cX8_opens 58 = .ok (.bipush 41, 2) := by decide +kernel
theorem dX8_opens_60 : decode cX8_opens 60 = .ok (.invokevirtual 84, 3) := by decide +kernel
theorem dX8_opens_63 : decode cX8_opens 63 = .ok (.ifCond .ne 7, 3) := by decide +kernel
theorem dX8_opens_66 : decode cX8_opens 66 = .ok (.aload_n 0, 1) := by decide +kernel
theorem dX8_opens_67 : decode cX8_opens 67 = .ok (.invokevirtual 107, 3) := by decide +kernel
theorem dX8_opens_70 : decode cX8_opens 70 = .ok (.aload_n 0, 1) := by decide +kernel
theorem dX8_opens_71 : decode cX8_opens 71 = .ok (.dup, 1) := by decide +kernel
theorem dX8_opens_72 : decode cX8_opens 72 = .ok (.getfield 104, 3) := by decide +kernel
theorem dX8_opens_75 : decode cX8_opens 75 = .ok (.iconst 1, 1) := by decide +kernel
theorem dX8_opens_76 : decode cX8_opens 76 = .ok (.isub, 1) := by decide +kernel
theorem dX8_opens_77 : decode cX8_opens 77 = .ok (.putfield 104, 3) := by decide +kernel
theorem dX8_opens_80 : decode cX8_opens 80 = .ok (.return_, 1) := by decide +kernel
def X8_either_L4 (rc : Nat → Int32 → Mem → Option (Mem)) : Nat → Mem → Option (Mem)
  | 0, _ => none
  | fu + 1, M => ((X8_takes 124 M).bind fun q2 => (if q2.1 = 0 then (some q2.2) else ((rc 1 0 q2.2).bind fun q3 => ((X8_lay 20124 q3).bind fun q4 => (X8_either_L4 rc fu q4)))))
set_option maxRecDepth 100000 in
set_option maxHeartbeats 4000000 in
theorem X8_either_L4_ok (rc : Nat → Int32 → Mem → Option (Mem))  {d : Nat} (hd0 : 2 ≤ d) (hr0 : ∀ {a0 : Int32} {M N : Mem} {res : Mem}, rc 0 a0 M = some res → Spec mt_X8_either d [.inr (.inr (19, 0))] (N, M) none (N, res)) (hr1 : ∀ {a0 : Int32} {M N : Mem} {res : Mem}, rc 1 a0 M = some res → Spec mt_X8_both d [.inr (.inr (19, 0))] (N, M) none (N, res)) (hr2 : ∀ {a0 : Int32} {M N : Mem} {res : Mem}, rc 2 a0 M = some res → Spec mt_X8_compared d [.inr (.inr (19, 0))] (N, M) none (N, res)) (hr3 : ∀ {a0 : Int32} {M N : Mem} {res : Mem}, rc 3 a0 M = some res → Spec mt_X8_sum d [.inr (.inr (19, 0))] (N, M) none (N, res)) (hr4 : ∀ {a0 : Int32} {M N : Mem} {res : Mem}, rc 4 a0 M = some res → Spec mt_X8_product d [.inr (.inr (19, 0))] (N, M) none (N, res)) (hr5 : ∀ {a0 : Int32} {M N : Mem} {res : Mem}, rc 5 a0 M = some res → Spec mt_X8_unit d [.inr (.inr (19, 0))] (N, M) none (N, res)) (hr6 : ∀ {a0 : Int32} {M N : Mem} {res : Mem}, rc 6 a0 M = some res → Spec mt_X8_opens d [.inr (.inr (19, 0)), .inl a0] (N, M) none (N, res)) {r : Option AV} {M' : MM} : ∀ (fu : Nat) (M N : Mem) {res : Mem} (h : X8_either_L4 rc fu M = some res) (K : G mt_X8_either (d + 1) r M' 27 [] [] (N, res)), G mt_X8_either (d + 1) r M' 4 [(0, .inr (.inr (19, 0)))] [] (N, M) := by
  intro fu
  induction fu with
  | zero =>
    intro M N res h
    cases h
  | succ fu ih =>
    intro M N res h K
    replace h : ((X8_takes 124 M).bind fun q2 => (if q2.1 = 0 then (some q2.2) else ((rc 1 0 q2.2).bind fun q3 => ((X8_lay 20124 q3).bind fun q4 => (X8_either_L4 rc fu q4))))) = some res := h
    refine G_aload_n dX8_either_4 rfl ?_
    refine G_bipush (v := 124) dX8_either_5 (by decide) ?_
    obtain ⟨q2, hq2, h⟩ := bnd h
    refine G_callVv (T := TX8) (N := 22) (f := 19) (i := 0) (X8_takes_ok hq2) ok_X8_takes ml_X8_84 (by omega) rfl (by decide) (by decide) (by decide) rfl rfl (Nat.le_of_ble_eq_true rfl) dX8_either_7 ?_
    refine G_if_eq (tgt := 27) dX8_either_10 (by decide) (fun hc1 => ?_) (fun hc1 => ?_)
    · replace h := (if_pos hc1).symm.trans h
      refine G_sub [] [] rfl ?_
      obtain rfl := Option.some.inj h
      exact K
    · replace h := (if_neg hc1).symm.trans h
      refine G_aload_n dX8_either_13 rfl ?_
      obtain ⟨q3, hq3, h⟩ := bnd h
      refine G_callVn (T := TX8) (N := 22) (f := 19) (i := 0) (hr1 hq3) ok_X8_both ml_X8_81 (by omega) rfl (by decide) (by decide) (by decide) rfl rfl (Nat.le_of_ble_eq_true rfl) dX8_either_14 ?_
      refine G_aload_n dX8_either_17 rfl ?_
      refine G_sipush (v := 20124) dX8_either_18 (by decide) ?_
      obtain ⟨q4, hq4, h⟩ := bnd h
      refine G_callVn (T := TX8) (N := 22) (f := 19) (i := 0) (X8_lay_ok hq4) ok_X8_lay ml_X8_88 (by omega) rfl (by decide) (by decide) (by decide) rfl rfl (Nat.le_of_ble_eq_true rfl) dX8_either_21 ?_
      refine G_goto (tgt := 4) dX8_either_24 (by decide) ?_
      exact ih  q4 _  h K

def X8_either (rc : Nat → Int32 → Mem → Option (Mem))  (M : Mem) : Option (Mem) := ((rc 1 0 M).bind fun q1 => ((X8_either_L4 rc 400 q1).bind fun q5 => (some q5)))
set_option maxRecDepth 100000 in
set_option maxHeartbeats 4000000 in
theorem X8_either_ok (rc : Nat → Int32 → Mem → Option (Mem))  {d : Nat} (hd0 : 2 ≤ d) (hr0 : ∀ {a0 : Int32} {M N : Mem} {res : Mem}, rc 0 a0 M = some res → Spec mt_X8_either d [.inr (.inr (19, 0))] (N, M) none (N, res)) (hr1 : ∀ {a0 : Int32} {M N : Mem} {res : Mem}, rc 1 a0 M = some res → Spec mt_X8_both d [.inr (.inr (19, 0))] (N, M) none (N, res)) (hr2 : ∀ {a0 : Int32} {M N : Mem} {res : Mem}, rc 2 a0 M = some res → Spec mt_X8_compared d [.inr (.inr (19, 0))] (N, M) none (N, res)) (hr3 : ∀ {a0 : Int32} {M N : Mem} {res : Mem}, rc 3 a0 M = some res → Spec mt_X8_sum d [.inr (.inr (19, 0))] (N, M) none (N, res)) (hr4 : ∀ {a0 : Int32} {M N : Mem} {res : Mem}, rc 4 a0 M = some res → Spec mt_X8_product d [.inr (.inr (19, 0))] (N, M) none (N, res)) (hr5 : ∀ {a0 : Int32} {M N : Mem} {res : Mem}, rc 5 a0 M = some res → Spec mt_X8_unit d [.inr (.inr (19, 0))] (N, M) none (N, res)) (hr6 : ∀ {a0 : Int32} {M N : Mem} {res : Mem}, rc 6 a0 M = some res → Spec mt_X8_opens d [.inr (.inr (19, 0)), .inl a0] (N, M) none (N, res)) {M N : Mem} {res : Mem} (h : X8_either rc M = some res) : Spec mt_X8_either (d + 1) [.inr (.inr (19, 0))] (N, M) none (N, res) := by
  unfold X8_either at h
  refine Spec_of_G (by decide) rfl (Nat.le_of_ble_eq_true rfl) ?_
  refine G_sub [(0, .inr (.inr (19, 0)))] [0] rfl ?_
  refine G_aload_n dX8_either_0 rfl ?_
  obtain ⟨q1, hq1, h⟩ := bnd h
  refine G_callVn (T := TX8) (N := 22) (f := 19) (i := 0) (hr1 hq1) ok_X8_both ml_X8_81 (by omega) rfl (by decide) (by decide) (by decide) rfl rfl (Nat.le_of_ble_eq_true rfl) dX8_either_1 ?_
  obtain ⟨q5, hq5, h⟩ := bnd h
  refine X8_either_L4_ok rc  hd0 hr0 hr1 hr2 hr3 hr4 hr5 hr6 400  q1 _  hq5 ?_
  obtain rfl := Option.some.inj h
  exact G_ret dX8_either_27 trivial rfl rfl

def X8_both_L4 (rc : Nat → Int32 → Mem → Option (Mem)) : Nat → Mem → Option (Mem)
  | 0, _ => none
  | fu + 1, M => ((X8_takes 38 M).bind fun q2 => (if q2.1 = 0 then (some q2.2) else ((rc 2 0 q2.2).bind fun q3 => ((X8_lay 20038 q3).bind fun q4 => (X8_both_L4 rc fu q4)))))
set_option maxRecDepth 100000 in
set_option maxHeartbeats 4000000 in
theorem X8_both_L4_ok (rc : Nat → Int32 → Mem → Option (Mem))  {d : Nat} (hd0 : 2 ≤ d) (hr0 : ∀ {a0 : Int32} {M N : Mem} {res : Mem}, rc 0 a0 M = some res → Spec mt_X8_either d [.inr (.inr (19, 0))] (N, M) none (N, res)) (hr1 : ∀ {a0 : Int32} {M N : Mem} {res : Mem}, rc 1 a0 M = some res → Spec mt_X8_both d [.inr (.inr (19, 0))] (N, M) none (N, res)) (hr2 : ∀ {a0 : Int32} {M N : Mem} {res : Mem}, rc 2 a0 M = some res → Spec mt_X8_compared d [.inr (.inr (19, 0))] (N, M) none (N, res)) (hr3 : ∀ {a0 : Int32} {M N : Mem} {res : Mem}, rc 3 a0 M = some res → Spec mt_X8_sum d [.inr (.inr (19, 0))] (N, M) none (N, res)) (hr4 : ∀ {a0 : Int32} {M N : Mem} {res : Mem}, rc 4 a0 M = some res → Spec mt_X8_product d [.inr (.inr (19, 0))] (N, M) none (N, res)) (hr5 : ∀ {a0 : Int32} {M N : Mem} {res : Mem}, rc 5 a0 M = some res → Spec mt_X8_unit d [.inr (.inr (19, 0))] (N, M) none (N, res)) (hr6 : ∀ {a0 : Int32} {M N : Mem} {res : Mem}, rc 6 a0 M = some res → Spec mt_X8_opens d [.inr (.inr (19, 0)), .inl a0] (N, M) none (N, res)) {r : Option AV} {M' : MM} : ∀ (fu : Nat) (M N : Mem) {res : Mem} (h : X8_both_L4 rc fu M = some res) (K : G mt_X8_both (d + 1) r M' 27 [] [] (N, res)), G mt_X8_both (d + 1) r M' 4 [(0, .inr (.inr (19, 0)))] [] (N, M) := by
  intro fu
  induction fu with
  | zero =>
    intro M N res h
    cases h
  | succ fu ih =>
    intro M N res h K
    replace h : ((X8_takes 38 M).bind fun q2 => (if q2.1 = 0 then (some q2.2) else ((rc 2 0 q2.2).bind fun q3 => ((X8_lay 20038 q3).bind fun q4 => (X8_both_L4 rc fu q4))))) = some res := h
    refine G_aload_n dX8_both_4 rfl ?_
    refine G_bipush (v := 38) dX8_both_5 (by decide) ?_
    obtain ⟨q2, hq2, h⟩ := bnd h
    refine G_callVv (T := TX8) (N := 22) (f := 19) (i := 0) (X8_takes_ok hq2) ok_X8_takes ml_X8_84 (by omega) rfl (by decide) (by decide) (by decide) rfl rfl (Nat.le_of_ble_eq_true rfl) dX8_both_7 ?_
    refine G_if_eq (tgt := 27) dX8_both_10 (by decide) (fun hc1 => ?_) (fun hc1 => ?_)
    · replace h := (if_pos hc1).symm.trans h
      refine G_sub [] [] rfl ?_
      obtain rfl := Option.some.inj h
      exact K
    · replace h := (if_neg hc1).symm.trans h
      refine G_aload_n dX8_both_13 rfl ?_
      obtain ⟨q3, hq3, h⟩ := bnd h
      refine G_callVn (T := TX8) (N := 22) (f := 19) (i := 0) (hr2 hq3) ok_X8_compared ml_X8_92 (by omega) rfl (by decide) (by decide) (by decide) rfl rfl (Nat.le_of_ble_eq_true rfl) dX8_both_14 ?_
      refine G_aload_n dX8_both_17 rfl ?_
      refine G_sipush (v := 20038) dX8_both_18 (by decide) ?_
      obtain ⟨q4, hq4, h⟩ := bnd h
      refine G_callVn (T := TX8) (N := 22) (f := 19) (i := 0) (X8_lay_ok hq4) ok_X8_lay ml_X8_88 (by omega) rfl (by decide) (by decide) (by decide) rfl rfl (Nat.le_of_ble_eq_true rfl) dX8_both_21 ?_
      refine G_goto (tgt := 4) dX8_both_24 (by decide) ?_
      exact ih  q4 _  h K

def X8_both (rc : Nat → Int32 → Mem → Option (Mem))  (M : Mem) : Option (Mem) := ((rc 2 0 M).bind fun q1 => ((X8_both_L4 rc 400 q1).bind fun q5 => (some q5)))
set_option maxRecDepth 100000 in
set_option maxHeartbeats 4000000 in
theorem X8_both_ok (rc : Nat → Int32 → Mem → Option (Mem))  {d : Nat} (hd0 : 2 ≤ d) (hr0 : ∀ {a0 : Int32} {M N : Mem} {res : Mem}, rc 0 a0 M = some res → Spec mt_X8_either d [.inr (.inr (19, 0))] (N, M) none (N, res)) (hr1 : ∀ {a0 : Int32} {M N : Mem} {res : Mem}, rc 1 a0 M = some res → Spec mt_X8_both d [.inr (.inr (19, 0))] (N, M) none (N, res)) (hr2 : ∀ {a0 : Int32} {M N : Mem} {res : Mem}, rc 2 a0 M = some res → Spec mt_X8_compared d [.inr (.inr (19, 0))] (N, M) none (N, res)) (hr3 : ∀ {a0 : Int32} {M N : Mem} {res : Mem}, rc 3 a0 M = some res → Spec mt_X8_sum d [.inr (.inr (19, 0))] (N, M) none (N, res)) (hr4 : ∀ {a0 : Int32} {M N : Mem} {res : Mem}, rc 4 a0 M = some res → Spec mt_X8_product d [.inr (.inr (19, 0))] (N, M) none (N, res)) (hr5 : ∀ {a0 : Int32} {M N : Mem} {res : Mem}, rc 5 a0 M = some res → Spec mt_X8_unit d [.inr (.inr (19, 0))] (N, M) none (N, res)) (hr6 : ∀ {a0 : Int32} {M N : Mem} {res : Mem}, rc 6 a0 M = some res → Spec mt_X8_opens d [.inr (.inr (19, 0)), .inl a0] (N, M) none (N, res)) {M N : Mem} {res : Mem} (h : X8_both rc M = some res) : Spec mt_X8_both (d + 1) [.inr (.inr (19, 0))] (N, M) none (N, res) := by
  unfold X8_both at h
  refine Spec_of_G (by decide) rfl (Nat.le_of_ble_eq_true rfl) ?_
  refine G_sub [(0, .inr (.inr (19, 0)))] [0] rfl ?_
  refine G_aload_n dX8_both_0 rfl ?_
  obtain ⟨q1, hq1, h⟩ := bnd h
  refine G_callVn (T := TX8) (N := 22) (f := 19) (i := 0) (hr2 hq1) ok_X8_compared ml_X8_92 (by omega) rfl (by decide) (by decide) (by decide) rfl rfl (Nat.le_of_ble_eq_true rfl) dX8_both_1 ?_
  obtain ⟨q5, hq5, h⟩ := bnd h
  refine X8_both_L4_ok rc  hd0 hr0 hr1 hr2 hr3 hr4 hr5 hr6 400  q1 _  hq5 ?_
  obtain rfl := Option.some.inj h
  exact G_ret dX8_both_27 trivial rfl rfl

def X8_compared_J27 (rc : Nat → Int32 → Mem → Option (Mem)) (v1 : Int32) (M : Mem) : Option (Mem) := ((rc 3 0 (up3 M 19 0 6 ((M 19 0 6) + 1))).bind fun q3 => ((X8_lay (20000 + v1) q3).bind fun q4 => (some q4)))
set_option maxRecDepth 100000 in
set_option maxHeartbeats 4000000 in
theorem X8_compared_J27_ok (rc : Nat → Int32 → Mem → Option (Mem))  {d : Nat} (hd0 : 2 ≤ d) (hr0 : ∀ {a0 : Int32} {M N : Mem} {res : Mem}, rc 0 a0 M = some res → Spec mt_X8_either d [.inr (.inr (19, 0))] (N, M) none (N, res)) (hr1 : ∀ {a0 : Int32} {M N : Mem} {res : Mem}, rc 1 a0 M = some res → Spec mt_X8_both d [.inr (.inr (19, 0))] (N, M) none (N, res)) (hr2 : ∀ {a0 : Int32} {M N : Mem} {res : Mem}, rc 2 a0 M = some res → Spec mt_X8_compared d [.inr (.inr (19, 0))] (N, M) none (N, res)) (hr3 : ∀ {a0 : Int32} {M N : Mem} {res : Mem}, rc 3 a0 M = some res → Spec mt_X8_sum d [.inr (.inr (19, 0))] (N, M) none (N, res)) (hr4 : ∀ {a0 : Int32} {M N : Mem} {res : Mem}, rc 4 a0 M = some res → Spec mt_X8_product d [.inr (.inr (19, 0))] (N, M) none (N, res)) (hr5 : ∀ {a0 : Int32} {M N : Mem} {res : Mem}, rc 5 a0 M = some res → Spec mt_X8_unit d [.inr (.inr (19, 0))] (N, M) none (N, res)) (hr6 : ∀ {a0 : Int32} {M N : Mem} {res : Mem}, rc 6 a0 M = some res → Spec mt_X8_opens d [.inr (.inr (19, 0)), .inl a0] (N, M) none (N, res)) {v1 : Int32} {M N : Mem} {res : Mem} (h : X8_compared_J27 rc v1 M = some res) : G mt_X8_compared (d + 1) none (N, res) 27 [(0, .inr (.inr (19, 0))), (1, .inl v1)] [] (N, M) := by
  unfold X8_compared_J27 at h
  refine G_aload_n dX8_compared_27 rfl ?_
  refine G_dup rfl dX8_compared_28 ?_
  refine fg_X8_57 (v := (M 19 0 6)) rfl rfl (by decide) dX8_compared_29 ?_
  refine G_iconst (v := 1) dX8_compared_32 (by decide) ?_
  refine G_iadd dX8_compared_33 ?_
  refine fp_X8_57 rfl (by decide) dX8_compared_34 ?_
  refine G_aload_n dX8_compared_37 rfl ?_
  obtain ⟨q3, hq3, h⟩ := bnd h
  refine G_callVn (T := TX8) (N := 22) (f := 19) (i := 0) (hr3 hq3) ok_X8_sum ml_X8_95 (by omega) rfl (by decide) (by decide) (by decide) rfl rfl (Nat.le_of_ble_eq_true rfl) dX8_compared_38 ?_
  refine G_aload_n dX8_compared_41 rfl ?_
  refine G_sipush (v := 20000) dX8_compared_42 (by decide) ?_
  refine G_iload_n dX8_compared_45 rfl ?_
  refine G_iadd dX8_compared_46 ?_
  obtain ⟨q4, hq4, h⟩ := bnd h
  refine G_callVn (T := TX8) (N := 22) (f := 19) (i := 0) (X8_lay_ok hq4) ok_X8_lay ml_X8_88 (by omega) rfl (by decide) (by decide) (by decide) rfl rfl (Nat.le_of_ble_eq_true rfl) dX8_compared_47 ?_
  obtain rfl := Option.some.inj h
  exact G_ret dX8_compared_50 trivial rfl rfl

def X8_compared (rc : Nat → Int32 → Mem → Option (Mem))  (M : Mem) : Option (Mem) := ((rc 3 0 M).bind fun q1 => ((X8_here q1).bind fun q2 => (if q2 = 60 then (X8_compared_J27 rc q2 q1) else (if q2 = 61 then (X8_compared_J27 rc q2 q1) else (if q2 = 62 then (X8_compared_J27 rc q2 q1) else (some q1))))))
set_option maxRecDepth 100000 in
set_option maxHeartbeats 4000000 in
theorem X8_compared_ok (rc : Nat → Int32 → Mem → Option (Mem))  {d : Nat} (hd0 : 2 ≤ d) (hr0 : ∀ {a0 : Int32} {M N : Mem} {res : Mem}, rc 0 a0 M = some res → Spec mt_X8_either d [.inr (.inr (19, 0))] (N, M) none (N, res)) (hr1 : ∀ {a0 : Int32} {M N : Mem} {res : Mem}, rc 1 a0 M = some res → Spec mt_X8_both d [.inr (.inr (19, 0))] (N, M) none (N, res)) (hr2 : ∀ {a0 : Int32} {M N : Mem} {res : Mem}, rc 2 a0 M = some res → Spec mt_X8_compared d [.inr (.inr (19, 0))] (N, M) none (N, res)) (hr3 : ∀ {a0 : Int32} {M N : Mem} {res : Mem}, rc 3 a0 M = some res → Spec mt_X8_sum d [.inr (.inr (19, 0))] (N, M) none (N, res)) (hr4 : ∀ {a0 : Int32} {M N : Mem} {res : Mem}, rc 4 a0 M = some res → Spec mt_X8_product d [.inr (.inr (19, 0))] (N, M) none (N, res)) (hr5 : ∀ {a0 : Int32} {M N : Mem} {res : Mem}, rc 5 a0 M = some res → Spec mt_X8_unit d [.inr (.inr (19, 0))] (N, M) none (N, res)) (hr6 : ∀ {a0 : Int32} {M N : Mem} {res : Mem}, rc 6 a0 M = some res → Spec mt_X8_opens d [.inr (.inr (19, 0)), .inl a0] (N, M) none (N, res)) {M N : Mem} {res : Mem} (h : X8_compared rc M = some res) : Spec mt_X8_compared (d + 1) [.inr (.inr (19, 0))] (N, M) none (N, res) := by
  unfold X8_compared at h
  refine Spec_of_G (by decide) rfl (Nat.le_of_ble_eq_true rfl) ?_
  refine G_sub [(0, .inr (.inr (19, 0)))] [0] rfl ?_
  refine G_aload_n dX8_compared_0 rfl ?_
  obtain ⟨q1, hq1, h⟩ := bnd h
  refine G_callVn (T := TX8) (N := 22) (f := 19) (i := 0) (hr3 hq1) ok_X8_sum ml_X8_95 (by omega) rfl (by decide) (by decide) (by decide) rfl rfl (Nat.le_of_ble_eq_true rfl) dX8_compared_1 ?_
  refine G_aload_n dX8_compared_4 rfl ?_
  obtain ⟨q2, hq2, h⟩ := bnd h
  refine G_callVv (T := TX8) (N := 22) (f := 19) (i := 0) (X8_here_ok hq2) ok_X8_here ml_X8_70 (by omega) rfl (by decide) (by decide) (by decide) rfl rfl (Nat.le_of_ble_eq_true rfl) dX8_compared_5 ?_
  refine G_istore_n (L2 := [(1, .inl q2), (0, .inr (.inr (19, 0)))]) dX8_compared_8 (by decide) rfl ?_
  refine G_iload_n dX8_compared_9 rfl ?_
  refine G_bipush (v := 60) dX8_compared_10 (by decide) ?_
  refine G_icmp_eq (tgt := 27) dX8_compared_12 (by decide) (fun hc1 => ?_) (fun hc1 => ?_)
  · replace h := (if_pos hc1).symm.trans h
    refine G_sub [(0, .inr (.inr (19, 0))), (1, .inl q2)] [1, 0] rfl ?_
    exact X8_compared_J27_ok rc  hd0 hr0 hr1 hr2 hr3 hr4 hr5 hr6  h
  · replace h := (if_neg hc1).symm.trans h
    refine G_iload_n dX8_compared_15 rfl ?_
    refine G_bipush (v := 61) dX8_compared_16 (by decide) ?_
    refine G_icmp_eq (tgt := 27) dX8_compared_18 (by decide) (fun hc2 => ?_) (fun hc2 => ?_)
    · replace h := (if_pos hc2).symm.trans h
      refine G_sub [(0, .inr (.inr (19, 0))), (1, .inl q2)] [1, 0] rfl ?_
      exact X8_compared_J27_ok rc  hd0 hr0 hr1 hr2 hr3 hr4 hr5 hr6  h
    · replace h := (if_neg hc2).symm.trans h
      refine G_iload_n dX8_compared_21 rfl ?_
      refine G_bipush (v := 62) dX8_compared_22 (by decide) ?_
      refine G_icmp_ne (tgt := 50) dX8_compared_24 (by decide) (fun hc3 => ?_) (fun hc3 => ?_)
      · replace h := (if_neg hc3).symm.trans h
        obtain rfl := Option.some.inj h
        exact G_ret dX8_compared_50 trivial rfl rfl
      · replace h := (if_pos hc3).symm.trans h
        refine G_sub [(0, .inr (.inr (19, 0))), (1, .inl q2)] [1, 0] rfl ?_
        exact X8_compared_J27_ok rc  hd0 hr0 hr1 hr2 hr3 hr4 hr5 hr6  h

def X8_sum_L4 (rc : Nat → Int32 → Mem → Option (Mem)) : Nat → Mem → Option (Mem)
  | 0, _ => none
  | fu + 1, M => ((X8_here M).bind fun q2 => (if q2 = 43 then ((X8_here M).bind fun q3 => ((rc 4 0 (up3 M 19 0 6 ((M 19 0 6) + 1))).bind fun q4 => ((X8_lay (20000 + q3) q4).bind fun q5 => (X8_sum_L4 rc fu q5)))) else ((X8_here M).bind fun q6 => (if q6 = 45 then ((X8_here M).bind fun q7 => ((rc 4 0 (up3 M 19 0 6 ((M 19 0 6) + 1))).bind fun q8 => ((X8_lay (20000 + q7) q8).bind fun q9 => (X8_sum_L4 rc fu q9)))) else (some M)))))
set_option maxRecDepth 100000 in
set_option maxHeartbeats 4000000 in
theorem X8_sum_L4_ok (rc : Nat → Int32 → Mem → Option (Mem))  {d : Nat} (hd0 : 2 ≤ d) (hr0 : ∀ {a0 : Int32} {M N : Mem} {res : Mem}, rc 0 a0 M = some res → Spec mt_X8_either d [.inr (.inr (19, 0))] (N, M) none (N, res)) (hr1 : ∀ {a0 : Int32} {M N : Mem} {res : Mem}, rc 1 a0 M = some res → Spec mt_X8_both d [.inr (.inr (19, 0))] (N, M) none (N, res)) (hr2 : ∀ {a0 : Int32} {M N : Mem} {res : Mem}, rc 2 a0 M = some res → Spec mt_X8_compared d [.inr (.inr (19, 0))] (N, M) none (N, res)) (hr3 : ∀ {a0 : Int32} {M N : Mem} {res : Mem}, rc 3 a0 M = some res → Spec mt_X8_sum d [.inr (.inr (19, 0))] (N, M) none (N, res)) (hr4 : ∀ {a0 : Int32} {M N : Mem} {res : Mem}, rc 4 a0 M = some res → Spec mt_X8_product d [.inr (.inr (19, 0))] (N, M) none (N, res)) (hr5 : ∀ {a0 : Int32} {M N : Mem} {res : Mem}, rc 5 a0 M = some res → Spec mt_X8_unit d [.inr (.inr (19, 0))] (N, M) none (N, res)) (hr6 : ∀ {a0 : Int32} {M N : Mem} {res : Mem}, rc 6 a0 M = some res → Spec mt_X8_opens d [.inr (.inr (19, 0)), .inl a0] (N, M) none (N, res)) {r : Option AV} {M' : MM} : ∀ (fu : Nat) (M N : Mem) {res : Mem} (h : X8_sum_L4 rc fu M = some res) (K : G mt_X8_sum (d + 1) r M' 53 [] [] (N, res)), G mt_X8_sum (d + 1) r M' 4 [(0, .inr (.inr (19, 0)))] [] (N, M) := by
  intro fu
  induction fu with
  | zero =>
    intro M N res h
    cases h
  | succ fu ih =>
    intro M N res h K
    replace h : ((X8_here M).bind fun q2 => (if q2 = 43 then ((X8_here M).bind fun q3 => ((rc 4 0 (up3 M 19 0 6 ((M 19 0 6) + 1))).bind fun q4 => ((X8_lay (20000 + q3) q4).bind fun q5 => (X8_sum_L4 rc fu q5)))) else ((X8_here M).bind fun q6 => (if q6 = 45 then ((X8_here M).bind fun q7 => ((rc 4 0 (up3 M 19 0 6 ((M 19 0 6) + 1))).bind fun q8 => ((X8_lay (20000 + q7) q8).bind fun q9 => (X8_sum_L4 rc fu q9)))) else (some M))))) = some res := h
    refine G_aload_n dX8_sum_4 rfl ?_
    obtain ⟨q2, hq2, h⟩ := bnd h
    refine G_callVv (T := TX8) (N := 22) (f := 19) (i := 0) (X8_here_ok hq2) ok_X8_here ml_X8_70 (by omega) rfl (by decide) (by decide) (by decide) rfl rfl (Nat.le_of_ble_eq_true rfl) dX8_sum_5 ?_
    refine G_bipush (v := 43) dX8_sum_8 (by decide) ?_
    refine G_icmp_eq (tgt := 22) dX8_sum_10 (by decide) (fun hc1 => ?_) (fun hc1 => ?_)
    · replace h := (if_pos hc1).symm.trans h
      refine G_aload_n dX8_sum_22 rfl ?_
      obtain ⟨q3, hq3, h⟩ := bnd h
      refine G_callVv (T := TX8) (N := 22) (f := 19) (i := 0) (X8_here_ok hq3) ok_X8_here ml_X8_70 (by omega) rfl (by decide) (by decide) (by decide) rfl rfl (Nat.le_of_ble_eq_true rfl) dX8_sum_23 ?_
      refine G_istore_n (L2 := [(1, .inl q3), (0, .inr (.inr (19, 0)))]) dX8_sum_26 (by decide) rfl ?_
      refine G_aload_n dX8_sum_27 rfl ?_
      refine G_dup rfl dX8_sum_28 ?_
      refine fg_X8_57 (v := (M 19 0 6)) rfl rfl (by decide) dX8_sum_29 ?_
      refine G_iconst (v := 1) dX8_sum_32 (by decide) ?_
      refine G_iadd dX8_sum_33 ?_
      refine fp_X8_57 rfl (by decide) dX8_sum_34 ?_
      refine G_aload_n dX8_sum_37 rfl ?_
      obtain ⟨q4, hq4, h⟩ := bnd h
      refine G_callVn (T := TX8) (N := 22) (f := 19) (i := 0) (hr4 hq4) ok_X8_product ml_X8_98 (by omega) rfl (by decide) (by decide) (by decide) rfl rfl (Nat.le_of_ble_eq_true rfl) dX8_sum_38 ?_
      refine G_aload_n dX8_sum_41 rfl ?_
      refine G_sipush (v := 20000) dX8_sum_42 (by decide) ?_
      refine G_iload_n dX8_sum_45 rfl ?_
      refine G_iadd dX8_sum_46 ?_
      obtain ⟨q5, hq5, h⟩ := bnd h
      refine G_callVn (T := TX8) (N := 22) (f := 19) (i := 0) (X8_lay_ok hq5) ok_X8_lay ml_X8_88 (by omega) rfl (by decide) (by decide) (by decide) rfl rfl (Nat.le_of_ble_eq_true rfl) dX8_sum_47 ?_
      refine G_goto (tgt := 4) dX8_sum_50 (by decide) ?_
      refine G_sub [(0, .inr (.inr (19, 0)))] [1] rfl ?_
      exact ih  q5 _  h K
    · replace h := (if_neg hc1).symm.trans h
      refine G_aload_n dX8_sum_13 rfl ?_
      obtain ⟨q6, hq6, h⟩ := bnd h
      refine G_callVv (T := TX8) (N := 22) (f := 19) (i := 0) (X8_here_ok hq6) ok_X8_here ml_X8_70 (by omega) rfl (by decide) (by decide) (by decide) rfl rfl (Nat.le_of_ble_eq_true rfl) dX8_sum_14 ?_
      refine G_bipush (v := 45) dX8_sum_17 (by decide) ?_
      refine G_icmp_ne (tgt := 53) dX8_sum_19 (by decide) (fun hc2 => ?_) (fun hc2 => ?_)
      · replace h := (if_neg hc2).symm.trans h
        refine G_sub [] [] rfl ?_
        obtain rfl := Option.some.inj h
        exact K
      · replace h := (if_pos hc2).symm.trans h
        refine G_aload_n dX8_sum_22 rfl ?_
        obtain ⟨q7, hq7, h⟩ := bnd h
        refine G_callVv (T := TX8) (N := 22) (f := 19) (i := 0) (X8_here_ok hq7) ok_X8_here ml_X8_70 (by omega) rfl (by decide) (by decide) (by decide) rfl rfl (Nat.le_of_ble_eq_true rfl) dX8_sum_23 ?_
        refine G_istore_n (L2 := [(1, .inl q7), (0, .inr (.inr (19, 0)))]) dX8_sum_26 (by decide) rfl ?_
        refine G_aload_n dX8_sum_27 rfl ?_
        refine G_dup rfl dX8_sum_28 ?_
        refine fg_X8_57 (v := (M 19 0 6)) rfl rfl (by decide) dX8_sum_29 ?_
        refine G_iconst (v := 1) dX8_sum_32 (by decide) ?_
        refine G_iadd dX8_sum_33 ?_
        refine fp_X8_57 rfl (by decide) dX8_sum_34 ?_
        refine G_aload_n dX8_sum_37 rfl ?_
        obtain ⟨q8, hq8, h⟩ := bnd h
        refine G_callVn (T := TX8) (N := 22) (f := 19) (i := 0) (hr4 hq8) ok_X8_product ml_X8_98 (by omega) rfl (by decide) (by decide) (by decide) rfl rfl (Nat.le_of_ble_eq_true rfl) dX8_sum_38 ?_
        refine G_aload_n dX8_sum_41 rfl ?_
        refine G_sipush (v := 20000) dX8_sum_42 (by decide) ?_
        refine G_iload_n dX8_sum_45 rfl ?_
        refine G_iadd dX8_sum_46 ?_
        obtain ⟨q9, hq9, h⟩ := bnd h
        refine G_callVn (T := TX8) (N := 22) (f := 19) (i := 0) (X8_lay_ok hq9) ok_X8_lay ml_X8_88 (by omega) rfl (by decide) (by decide) (by decide) rfl rfl (Nat.le_of_ble_eq_true rfl) dX8_sum_47 ?_
        refine G_goto (tgt := 4) dX8_sum_50 (by decide) ?_
        refine G_sub [(0, .inr (.inr (19, 0)))] [1] rfl ?_
        exact ih  q9 _  h K

def X8_sum (rc : Nat → Int32 → Mem → Option (Mem))  (M : Mem) : Option (Mem) := ((rc 4 0 M).bind fun q1 => ((X8_sum_L4 rc 400 q1).bind fun q10 => (some q10)))
set_option maxRecDepth 100000 in
set_option maxHeartbeats 4000000 in
theorem X8_sum_ok (rc : Nat → Int32 → Mem → Option (Mem))  {d : Nat} (hd0 : 2 ≤ d) (hr0 : ∀ {a0 : Int32} {M N : Mem} {res : Mem}, rc 0 a0 M = some res → Spec mt_X8_either d [.inr (.inr (19, 0))] (N, M) none (N, res)) (hr1 : ∀ {a0 : Int32} {M N : Mem} {res : Mem}, rc 1 a0 M = some res → Spec mt_X8_both d [.inr (.inr (19, 0))] (N, M) none (N, res)) (hr2 : ∀ {a0 : Int32} {M N : Mem} {res : Mem}, rc 2 a0 M = some res → Spec mt_X8_compared d [.inr (.inr (19, 0))] (N, M) none (N, res)) (hr3 : ∀ {a0 : Int32} {M N : Mem} {res : Mem}, rc 3 a0 M = some res → Spec mt_X8_sum d [.inr (.inr (19, 0))] (N, M) none (N, res)) (hr4 : ∀ {a0 : Int32} {M N : Mem} {res : Mem}, rc 4 a0 M = some res → Spec mt_X8_product d [.inr (.inr (19, 0))] (N, M) none (N, res)) (hr5 : ∀ {a0 : Int32} {M N : Mem} {res : Mem}, rc 5 a0 M = some res → Spec mt_X8_unit d [.inr (.inr (19, 0))] (N, M) none (N, res)) (hr6 : ∀ {a0 : Int32} {M N : Mem} {res : Mem}, rc 6 a0 M = some res → Spec mt_X8_opens d [.inr (.inr (19, 0)), .inl a0] (N, M) none (N, res)) {M N : Mem} {res : Mem} (h : X8_sum rc M = some res) : Spec mt_X8_sum (d + 1) [.inr (.inr (19, 0))] (N, M) none (N, res) := by
  unfold X8_sum at h
  refine Spec_of_G (by decide) rfl (Nat.le_of_ble_eq_true rfl) ?_
  refine G_sub [(0, .inr (.inr (19, 0)))] [0] rfl ?_
  refine G_aload_n dX8_sum_0 rfl ?_
  obtain ⟨q1, hq1, h⟩ := bnd h
  refine G_callVn (T := TX8) (N := 22) (f := 19) (i := 0) (hr4 hq1) ok_X8_product ml_X8_98 (by omega) rfl (by decide) (by decide) (by decide) rfl rfl (Nat.le_of_ble_eq_true rfl) dX8_sum_1 ?_
  obtain ⟨q10, hq10, h⟩ := bnd h
  refine X8_sum_L4_ok rc  hd0 hr0 hr1 hr2 hr3 hr4 hr5 hr6 400  q1 _  hq10 ?_
  obtain rfl := Option.some.inj h
  exact G_ret dX8_sum_53 trivial rfl rfl

def X8_product_L4 (rc : Nat → Int32 → Mem → Option (Mem)) : Nat → Mem → Option (Mem)
  | 0, _ => none
  | fu + 1, M => ((X8_here M).bind fun q2 => (if q2 = 42 then ((X8_here M).bind fun q3 => ((rc 5 0 (up3 M 19 0 6 ((M 19 0 6) + 1))).bind fun q4 => ((X8_lay (20000 + q3) q4).bind fun q5 => (X8_product_L4 rc fu q5)))) else ((X8_here M).bind fun q6 => (if q6 = 47 then ((X8_here M).bind fun q7 => ((rc 5 0 (up3 M 19 0 6 ((M 19 0 6) + 1))).bind fun q8 => ((X8_lay (20000 + q7) q8).bind fun q9 => (X8_product_L4 rc fu q9)))) else ((X8_here M).bind fun q10 => (if q10 = 37 then ((X8_here M).bind fun q11 => ((rc 5 0 (up3 M 19 0 6 ((M 19 0 6) + 1))).bind fun q12 => ((X8_lay (20000 + q11) q12).bind fun q13 => (X8_product_L4 rc fu q13)))) else (some M)))))))
set_option maxRecDepth 100000 in
set_option maxHeartbeats 4000000 in
theorem X8_product_L4_ok (rc : Nat → Int32 → Mem → Option (Mem))  {d : Nat} (hd0 : 2 ≤ d) (hr0 : ∀ {a0 : Int32} {M N : Mem} {res : Mem}, rc 0 a0 M = some res → Spec mt_X8_either d [.inr (.inr (19, 0))] (N, M) none (N, res)) (hr1 : ∀ {a0 : Int32} {M N : Mem} {res : Mem}, rc 1 a0 M = some res → Spec mt_X8_both d [.inr (.inr (19, 0))] (N, M) none (N, res)) (hr2 : ∀ {a0 : Int32} {M N : Mem} {res : Mem}, rc 2 a0 M = some res → Spec mt_X8_compared d [.inr (.inr (19, 0))] (N, M) none (N, res)) (hr3 : ∀ {a0 : Int32} {M N : Mem} {res : Mem}, rc 3 a0 M = some res → Spec mt_X8_sum d [.inr (.inr (19, 0))] (N, M) none (N, res)) (hr4 : ∀ {a0 : Int32} {M N : Mem} {res : Mem}, rc 4 a0 M = some res → Spec mt_X8_product d [.inr (.inr (19, 0))] (N, M) none (N, res)) (hr5 : ∀ {a0 : Int32} {M N : Mem} {res : Mem}, rc 5 a0 M = some res → Spec mt_X8_unit d [.inr (.inr (19, 0))] (N, M) none (N, res)) (hr6 : ∀ {a0 : Int32} {M N : Mem} {res : Mem}, rc 6 a0 M = some res → Spec mt_X8_opens d [.inr (.inr (19, 0)), .inl a0] (N, M) none (N, res)) {r : Option AV} {M' : MM} : ∀ (fu : Nat) (M N : Mem) {res : Mem} (h : X8_product_L4 rc fu M = some res) (K : G mt_X8_product (d + 1) r M' 62 [] [] (N, res)), G mt_X8_product (d + 1) r M' 4 [(0, .inr (.inr (19, 0)))] [] (N, M) := by
  intro fu
  induction fu with
  | zero =>
    intro M N res h
    cases h
  | succ fu ih =>
    intro M N res h K
    replace h : ((X8_here M).bind fun q2 => (if q2 = 42 then ((X8_here M).bind fun q3 => ((rc 5 0 (up3 M 19 0 6 ((M 19 0 6) + 1))).bind fun q4 => ((X8_lay (20000 + q3) q4).bind fun q5 => (X8_product_L4 rc fu q5)))) else ((X8_here M).bind fun q6 => (if q6 = 47 then ((X8_here M).bind fun q7 => ((rc 5 0 (up3 M 19 0 6 ((M 19 0 6) + 1))).bind fun q8 => ((X8_lay (20000 + q7) q8).bind fun q9 => (X8_product_L4 rc fu q9)))) else ((X8_here M).bind fun q10 => (if q10 = 37 then ((X8_here M).bind fun q11 => ((rc 5 0 (up3 M 19 0 6 ((M 19 0 6) + 1))).bind fun q12 => ((X8_lay (20000 + q11) q12).bind fun q13 => (X8_product_L4 rc fu q13)))) else (some M))))))) = some res := h
    refine G_aload_n dX8_product_4 rfl ?_
    obtain ⟨q2, hq2, h⟩ := bnd h
    refine G_callVv (T := TX8) (N := 22) (f := 19) (i := 0) (X8_here_ok hq2) ok_X8_here ml_X8_70 (by omega) rfl (by decide) (by decide) (by decide) rfl rfl (Nat.le_of_ble_eq_true rfl) dX8_product_5 ?_
    refine G_bipush (v := 42) dX8_product_8 (by decide) ?_
    refine G_icmp_eq (tgt := 31) dX8_product_10 (by decide) (fun hc1 => ?_) (fun hc1 => ?_)
    · replace h := (if_pos hc1).symm.trans h
      refine G_aload_n dX8_product_31 rfl ?_
      obtain ⟨q3, hq3, h⟩ := bnd h
      refine G_callVv (T := TX8) (N := 22) (f := 19) (i := 0) (X8_here_ok hq3) ok_X8_here ml_X8_70 (by omega) rfl (by decide) (by decide) (by decide) rfl rfl (Nat.le_of_ble_eq_true rfl) dX8_product_32 ?_
      refine G_istore_n (L2 := [(1, .inl q3), (0, .inr (.inr (19, 0)))]) dX8_product_35 (by decide) rfl ?_
      refine G_aload_n dX8_product_36 rfl ?_
      refine G_dup rfl dX8_product_37 ?_
      refine fg_X8_57 (v := (M 19 0 6)) rfl rfl (by decide) dX8_product_38 ?_
      refine G_iconst (v := 1) dX8_product_41 (by decide) ?_
      refine G_iadd dX8_product_42 ?_
      refine fp_X8_57 rfl (by decide) dX8_product_43 ?_
      refine G_aload_n dX8_product_46 rfl ?_
      obtain ⟨q4, hq4, h⟩ := bnd h
      refine G_callVn (T := TX8) (N := 22) (f := 19) (i := 0) (hr5 hq4) ok_X8_unit ml_X8_101 (by omega) rfl (by decide) (by decide) (by decide) rfl rfl (Nat.le_of_ble_eq_true rfl) dX8_product_47 ?_
      refine G_aload_n dX8_product_50 rfl ?_
      refine G_sipush (v := 20000) dX8_product_51 (by decide) ?_
      refine G_iload_n dX8_product_54 rfl ?_
      refine G_iadd dX8_product_55 ?_
      obtain ⟨q5, hq5, h⟩ := bnd h
      refine G_callVn (T := TX8) (N := 22) (f := 19) (i := 0) (X8_lay_ok hq5) ok_X8_lay ml_X8_88 (by omega) rfl (by decide) (by decide) (by decide) rfl rfl (Nat.le_of_ble_eq_true rfl) dX8_product_56 ?_
      refine G_goto (tgt := 4) dX8_product_59 (by decide) ?_
      refine G_sub [(0, .inr (.inr (19, 0)))] [1] rfl ?_
      exact ih  q5 _  h K
    · replace h := (if_neg hc1).symm.trans h
      refine G_aload_n dX8_product_13 rfl ?_
      obtain ⟨q6, hq6, h⟩ := bnd h
      refine G_callVv (T := TX8) (N := 22) (f := 19) (i := 0) (X8_here_ok hq6) ok_X8_here ml_X8_70 (by omega) rfl (by decide) (by decide) (by decide) rfl rfl (Nat.le_of_ble_eq_true rfl) dX8_product_14 ?_
      refine G_bipush (v := 47) dX8_product_17 (by decide) ?_
      refine G_icmp_eq (tgt := 31) dX8_product_19 (by decide) (fun hc2 => ?_) (fun hc2 => ?_)
      · replace h := (if_pos hc2).symm.trans h
        refine G_aload_n dX8_product_31 rfl ?_
        obtain ⟨q7, hq7, h⟩ := bnd h
        refine G_callVv (T := TX8) (N := 22) (f := 19) (i := 0) (X8_here_ok hq7) ok_X8_here ml_X8_70 (by omega) rfl (by decide) (by decide) (by decide) rfl rfl (Nat.le_of_ble_eq_true rfl) dX8_product_32 ?_
        refine G_istore_n (L2 := [(1, .inl q7), (0, .inr (.inr (19, 0)))]) dX8_product_35 (by decide) rfl ?_
        refine G_aload_n dX8_product_36 rfl ?_
        refine G_dup rfl dX8_product_37 ?_
        refine fg_X8_57 (v := (M 19 0 6)) rfl rfl (by decide) dX8_product_38 ?_
        refine G_iconst (v := 1) dX8_product_41 (by decide) ?_
        refine G_iadd dX8_product_42 ?_
        refine fp_X8_57 rfl (by decide) dX8_product_43 ?_
        refine G_aload_n dX8_product_46 rfl ?_
        obtain ⟨q8, hq8, h⟩ := bnd h
        refine G_callVn (T := TX8) (N := 22) (f := 19) (i := 0) (hr5 hq8) ok_X8_unit ml_X8_101 (by omega) rfl (by decide) (by decide) (by decide) rfl rfl (Nat.le_of_ble_eq_true rfl) dX8_product_47 ?_
        refine G_aload_n dX8_product_50 rfl ?_
        refine G_sipush (v := 20000) dX8_product_51 (by decide) ?_
        refine G_iload_n dX8_product_54 rfl ?_
        refine G_iadd dX8_product_55 ?_
        obtain ⟨q9, hq9, h⟩ := bnd h
        refine G_callVn (T := TX8) (N := 22) (f := 19) (i := 0) (X8_lay_ok hq9) ok_X8_lay ml_X8_88 (by omega) rfl (by decide) (by decide) (by decide) rfl rfl (Nat.le_of_ble_eq_true rfl) dX8_product_56 ?_
        refine G_goto (tgt := 4) dX8_product_59 (by decide) ?_
        refine G_sub [(0, .inr (.inr (19, 0)))] [1] rfl ?_
        exact ih  q9 _  h K
      · replace h := (if_neg hc2).symm.trans h
        refine G_aload_n dX8_product_22 rfl ?_
        obtain ⟨q10, hq10, h⟩ := bnd h
        refine G_callVv (T := TX8) (N := 22) (f := 19) (i := 0) (X8_here_ok hq10) ok_X8_here ml_X8_70 (by omega) rfl (by decide) (by decide) (by decide) rfl rfl (Nat.le_of_ble_eq_true rfl) dX8_product_23 ?_
        refine G_bipush (v := 37) dX8_product_26 (by decide) ?_
        refine G_icmp_ne (tgt := 62) dX8_product_28 (by decide) (fun hc3 => ?_) (fun hc3 => ?_)
        · replace h := (if_neg hc3).symm.trans h
          refine G_sub [] [] rfl ?_
          obtain rfl := Option.some.inj h
          exact K
        · replace h := (if_pos hc3).symm.trans h
          refine G_aload_n dX8_product_31 rfl ?_
          obtain ⟨q11, hq11, h⟩ := bnd h
          refine G_callVv (T := TX8) (N := 22) (f := 19) (i := 0) (X8_here_ok hq11) ok_X8_here ml_X8_70 (by omega) rfl (by decide) (by decide) (by decide) rfl rfl (Nat.le_of_ble_eq_true rfl) dX8_product_32 ?_
          refine G_istore_n (L2 := [(1, .inl q11), (0, .inr (.inr (19, 0)))]) dX8_product_35 (by decide) rfl ?_
          refine G_aload_n dX8_product_36 rfl ?_
          refine G_dup rfl dX8_product_37 ?_
          refine fg_X8_57 (v := (M 19 0 6)) rfl rfl (by decide) dX8_product_38 ?_
          refine G_iconst (v := 1) dX8_product_41 (by decide) ?_
          refine G_iadd dX8_product_42 ?_
          refine fp_X8_57 rfl (by decide) dX8_product_43 ?_
          refine G_aload_n dX8_product_46 rfl ?_
          obtain ⟨q12, hq12, h⟩ := bnd h
          refine G_callVn (T := TX8) (N := 22) (f := 19) (i := 0) (hr5 hq12) ok_X8_unit ml_X8_101 (by omega) rfl (by decide) (by decide) (by decide) rfl rfl (Nat.le_of_ble_eq_true rfl) dX8_product_47 ?_
          refine G_aload_n dX8_product_50 rfl ?_
          refine G_sipush (v := 20000) dX8_product_51 (by decide) ?_
          refine G_iload_n dX8_product_54 rfl ?_
          refine G_iadd dX8_product_55 ?_
          obtain ⟨q13, hq13, h⟩ := bnd h
          refine G_callVn (T := TX8) (N := 22) (f := 19) (i := 0) (X8_lay_ok hq13) ok_X8_lay ml_X8_88 (by omega) rfl (by decide) (by decide) (by decide) rfl rfl (Nat.le_of_ble_eq_true rfl) dX8_product_56 ?_
          refine G_goto (tgt := 4) dX8_product_59 (by decide) ?_
          refine G_sub [(0, .inr (.inr (19, 0)))] [1] rfl ?_
          exact ih  q13 _  h K

def X8_product (rc : Nat → Int32 → Mem → Option (Mem))  (M : Mem) : Option (Mem) := ((rc 5 0 M).bind fun q1 => ((X8_product_L4 rc 400 q1).bind fun q14 => (some q14)))
set_option maxRecDepth 100000 in
set_option maxHeartbeats 4000000 in
theorem X8_product_ok (rc : Nat → Int32 → Mem → Option (Mem))  {d : Nat} (hd0 : 2 ≤ d) (hr0 : ∀ {a0 : Int32} {M N : Mem} {res : Mem}, rc 0 a0 M = some res → Spec mt_X8_either d [.inr (.inr (19, 0))] (N, M) none (N, res)) (hr1 : ∀ {a0 : Int32} {M N : Mem} {res : Mem}, rc 1 a0 M = some res → Spec mt_X8_both d [.inr (.inr (19, 0))] (N, M) none (N, res)) (hr2 : ∀ {a0 : Int32} {M N : Mem} {res : Mem}, rc 2 a0 M = some res → Spec mt_X8_compared d [.inr (.inr (19, 0))] (N, M) none (N, res)) (hr3 : ∀ {a0 : Int32} {M N : Mem} {res : Mem}, rc 3 a0 M = some res → Spec mt_X8_sum d [.inr (.inr (19, 0))] (N, M) none (N, res)) (hr4 : ∀ {a0 : Int32} {M N : Mem} {res : Mem}, rc 4 a0 M = some res → Spec mt_X8_product d [.inr (.inr (19, 0))] (N, M) none (N, res)) (hr5 : ∀ {a0 : Int32} {M N : Mem} {res : Mem}, rc 5 a0 M = some res → Spec mt_X8_unit d [.inr (.inr (19, 0))] (N, M) none (N, res)) (hr6 : ∀ {a0 : Int32} {M N : Mem} {res : Mem}, rc 6 a0 M = some res → Spec mt_X8_opens d [.inr (.inr (19, 0)), .inl a0] (N, M) none (N, res)) {M N : Mem} {res : Mem} (h : X8_product rc M = some res) : Spec mt_X8_product (d + 1) [.inr (.inr (19, 0))] (N, M) none (N, res) := by
  unfold X8_product at h
  refine Spec_of_G (by decide) rfl (Nat.le_of_ble_eq_true rfl) ?_
  refine G_sub [(0, .inr (.inr (19, 0)))] [0] rfl ?_
  refine G_aload_n dX8_product_0 rfl ?_
  obtain ⟨q1, hq1, h⟩ := bnd h
  refine G_callVn (T := TX8) (N := 22) (f := 19) (i := 0) (hr5 hq1) ok_X8_unit ml_X8_101 (by omega) rfl (by decide) (by decide) (by decide) rfl rfl (Nat.le_of_ble_eq_true rfl) dX8_product_1 ?_
  obtain ⟨q14, hq14, h⟩ := bnd h
  refine X8_product_L4_ok rc  hd0 hr0 hr1 hr2 hr3 hr4 hr5 hr6 400  q1 _  hq14 ?_
  obtain rfl := Option.some.inj h
  exact G_ret dX8_product_62 trivial rfl rfl

def X8_unit_J17 (rc : Nat → Int32 → Mem → Option (Mem)) (v1 : Int32) (M : Mem) : Option (Mem) := ((rc 6 v1 M).bind fun q2 => (some q2))
set_option maxRecDepth 100000 in
set_option maxHeartbeats 4000000 in
theorem X8_unit_J17_ok (rc : Nat → Int32 → Mem → Option (Mem))  {d : Nat} (hd0 : 2 ≤ d) (hr0 : ∀ {a0 : Int32} {M N : Mem} {res : Mem}, rc 0 a0 M = some res → Spec mt_X8_either d [.inr (.inr (19, 0))] (N, M) none (N, res)) (hr1 : ∀ {a0 : Int32} {M N : Mem} {res : Mem}, rc 1 a0 M = some res → Spec mt_X8_both d [.inr (.inr (19, 0))] (N, M) none (N, res)) (hr2 : ∀ {a0 : Int32} {M N : Mem} {res : Mem}, rc 2 a0 M = some res → Spec mt_X8_compared d [.inr (.inr (19, 0))] (N, M) none (N, res)) (hr3 : ∀ {a0 : Int32} {M N : Mem} {res : Mem}, rc 3 a0 M = some res → Spec mt_X8_sum d [.inr (.inr (19, 0))] (N, M) none (N, res)) (hr4 : ∀ {a0 : Int32} {M N : Mem} {res : Mem}, rc 4 a0 M = some res → Spec mt_X8_product d [.inr (.inr (19, 0))] (N, M) none (N, res)) (hr5 : ∀ {a0 : Int32} {M N : Mem} {res : Mem}, rc 5 a0 M = some res → Spec mt_X8_unit d [.inr (.inr (19, 0))] (N, M) none (N, res)) (hr6 : ∀ {a0 : Int32} {M N : Mem} {res : Mem}, rc 6 a0 M = some res → Spec mt_X8_opens d [.inr (.inr (19, 0)), .inl a0] (N, M) none (N, res)) {v1 : Int32} {M N : Mem} {res : Mem} (h : X8_unit_J17 rc v1 M = some res) : G mt_X8_unit (d + 1) none (N, res) 17 [(0, .inr (.inr (19, 0))), (1, .inl v1)] [] (N, M) := by
  unfold X8_unit_J17 at h
  refine G_aload_n dX8_unit_17 rfl ?_
  refine G_iload_n dX8_unit_18 rfl ?_
  obtain ⟨q2, hq2, h⟩ := bnd h
  refine G_callVn (T := TX8) (N := 22) (f := 19) (i := 0) (hr6 hq2) ok_X8_opens ml_X8_113 (by omega) rfl (by decide) (by decide) (by decide) rfl rfl (Nat.le_of_ble_eq_true rfl) dX8_unit_19 ?_
  obtain rfl := Option.some.inj h
  exact G_ret dX8_unit_22 trivial rfl rfl

def X8_unit_L58 (rc : Nat → Int32 → Mem → Option (Mem)) : Nat → Int32 → Int32 → Mem → Option (Int32 × Int32 × Mem)
  | 0, _, _, _ => none
  | fu + 1, v3, v4, M => (if v4 < 4 then ((X8_here M).bind fun q3 => (if (X8_in (q3.toInt64) (48 : Int64) (57 : Int64)) = 0 then (some (v3, v4, M)) else ((X8_here M).bind fun q4 => (X8_unit_L58 rc fu (((10 * v3) + q4) - 48) (v4 + 1) (up3 M 19 0 6 ((M 19 0 6) + 1)))))) else (some (v3, v4, M)))
set_option maxRecDepth 100000 in
set_option maxHeartbeats 4000000 in
theorem X8_unit_L58_ok (rc : Nat → Int32 → Mem → Option (Mem))  {d : Nat} (hd0 : 2 ≤ d) (hr0 : ∀ {a0 : Int32} {M N : Mem} {res : Mem}, rc 0 a0 M = some res → Spec mt_X8_either d [.inr (.inr (19, 0))] (N, M) none (N, res)) (hr1 : ∀ {a0 : Int32} {M N : Mem} {res : Mem}, rc 1 a0 M = some res → Spec mt_X8_both d [.inr (.inr (19, 0))] (N, M) none (N, res)) (hr2 : ∀ {a0 : Int32} {M N : Mem} {res : Mem}, rc 2 a0 M = some res → Spec mt_X8_compared d [.inr (.inr (19, 0))] (N, M) none (N, res)) (hr3 : ∀ {a0 : Int32} {M N : Mem} {res : Mem}, rc 3 a0 M = some res → Spec mt_X8_sum d [.inr (.inr (19, 0))] (N, M) none (N, res)) (hr4 : ∀ {a0 : Int32} {M N : Mem} {res : Mem}, rc 4 a0 M = some res → Spec mt_X8_product d [.inr (.inr (19, 0))] (N, M) none (N, res)) (hr5 : ∀ {a0 : Int32} {M N : Mem} {res : Mem}, rc 5 a0 M = some res → Spec mt_X8_unit d [.inr (.inr (19, 0))] (N, M) none (N, res)) (hr6 : ∀ {a0 : Int32} {M N : Mem} {res : Mem}, rc 6 a0 M = some res → Spec mt_X8_opens d [.inr (.inr (19, 0)), .inl a0] (N, M) none (N, res)) {r : Option AV} {M' : MM} : ∀ (fu : Nat) (v3 : Int32) (v4 : Int32) (M N : Mem) {res : Int32 × Int32 × Mem} (h : X8_unit_L58 rc fu v3 v4 M = some res) (K : G mt_X8_unit (d + 1) r M' 110 [(0, .inr (.inr (19, 0))), (3, .inl res.1), (4, .inl res.2.1)] [] (N, res.2.2)), G mt_X8_unit (d + 1) r M' 58 [(0, .inr (.inr (19, 0))), (3, .inl v3), (4, .inl v4)] [] (N, M) := by
  intro fu
  induction fu with
  | zero =>
    intro v3 v4 M N res h
    cases h
  | succ fu ih =>
    intro v3 v4 M N res h K
    replace h : (if v4 < 4 then ((X8_here M).bind fun q3 => (if (X8_in (q3.toInt64) (48 : Int64) (57 : Int64)) = 0 then (some (v3, v4, M)) else ((X8_here M).bind fun q4 => (X8_unit_L58 rc fu (((10 * v3) + q4) - 48) (v4 + 1) (up3 M 19 0 6 ((M 19 0 6) + 1)))))) else (some (v3, v4, M))) = some res := h
    refine G_iload dX8_unit_58 rfl ?_
    refine G_iconst (v := 4) dX8_unit_60 (by decide) ?_
    refine G_icmp_ge (tgt := 110) dX8_unit_61 (by decide) (fun hc4 => ?_) (fun hc4 => ?_)
    · replace h := (if_neg hc4).symm.trans h
      obtain rfl := Option.some.inj h
      exact K
    · replace h := (if_pos hc4).symm.trans h
      refine G_aload_n dX8_unit_64 rfl ?_
      obtain ⟨q3, hq3, h⟩ := bnd h
      refine G_callVv (T := TX8) (N := 22) (f := 19) (i := 0) (X8_here_ok hq3) ok_X8_here ml_X8_70 (by omega) rfl (by decide) (by decide) (by decide) rfl rfl (Nat.le_of_ble_eq_true rfl) dX8_unit_65 ?_
      refine G_i2l dX8_unit_68 ?_
      refine G_ldc2 ko_X8_120 dX8_unit_69 ?_
      refine G_ldc2 ko_X8_122 dX8_unit_72 ?_
      refine G_callSv  (X8_in_ok rfl) ok_X8_in ml_X8_47 (by omega) rfl rfl (Nat.le_of_ble_eq_true rfl) dX8_unit_75 ?_
      refine G_if_eq (tgt := 110) dX8_unit_78 (by decide) (fun hc5 => ?_) (fun hc5 => ?_)
      · replace h := (if_pos hc5).symm.trans h
        obtain rfl := Option.some.inj h
        exact K
      · replace h := (if_neg hc5).symm.trans h
        refine G_bipush (v := 10) dX8_unit_81 (by decide) ?_
        refine G_iload_n dX8_unit_83 rfl ?_
        refine G_imul dX8_unit_84 ?_
        refine G_aload_n dX8_unit_85 rfl ?_
        obtain ⟨q4, hq4, h⟩ := bnd h
        refine G_callVv (T := TX8) (N := 22) (f := 19) (i := 0) (X8_here_ok hq4) ok_X8_here ml_X8_70 (by omega) rfl (by decide) (by decide) (by decide) rfl rfl (Nat.le_of_ble_eq_true rfl) dX8_unit_86 ?_
        refine G_iadd dX8_unit_89 ?_
        refine G_bipush (v := 48) dX8_unit_90 (by decide) ?_
        refine G_isub dX8_unit_92 ?_
        refine G_istore_n (L2 := [(3, .inl (((10 * v3) + q4) - 48)), (0, .inr (.inr (19, 0))), (4, .inl v4)]) dX8_unit_93 (by decide) rfl ?_
        refine G_aload_n dX8_unit_94 rfl ?_
        refine G_dup rfl dX8_unit_95 ?_
        refine fg_X8_57 (v := (M 19 0 6)) rfl rfl (by decide) dX8_unit_96 ?_
        refine G_iconst (v := 1) dX8_unit_99 (by decide) ?_
        refine G_iadd dX8_unit_100 ?_
        refine fp_X8_57 rfl (by decide) dX8_unit_101 ?_
        refine G_iinc (v := (v4 + 1)) (L2 := [(4, .inl (v4 + 1)), (3, .inl (((10 * v3) + q4) - 48)), (0, .inr (.inr (19, 0)))]) dX8_unit_104 rfl (by first | rfl | (show _ + Int32.ofInt _ = _; rfl)) (by decide) rfl ?_
        refine G_goto (tgt := 58) dX8_unit_107 (by decide) ?_
        refine G_sub [(0, .inr (.inr (19, 0))), (3, .inl (((10 * v3) + q4) - 48)), (4, .inl (v4 + 1))] [2, 1, 0] rfl ?_
        exact ih (((10 * v3) + q4) - 48) (v4 + 1) (up3 M 19 0 6 ((M 19 0 6) + 1)) _  h K

def X8_unit_J119 (rc : Nat → Int32 → Mem → Option (Mem)) (v3 : Int32) (M : Mem) : Option (Mem) := ((X8_lay v3 M).bind fun q6 => (some q6))
set_option maxRecDepth 100000 in
set_option maxHeartbeats 4000000 in
theorem X8_unit_J119_ok (rc : Nat → Int32 → Mem → Option (Mem))  {d : Nat} (hd0 : 2 ≤ d) (hr0 : ∀ {a0 : Int32} {M N : Mem} {res : Mem}, rc 0 a0 M = some res → Spec mt_X8_either d [.inr (.inr (19, 0))] (N, M) none (N, res)) (hr1 : ∀ {a0 : Int32} {M N : Mem} {res : Mem}, rc 1 a0 M = some res → Spec mt_X8_both d [.inr (.inr (19, 0))] (N, M) none (N, res)) (hr2 : ∀ {a0 : Int32} {M N : Mem} {res : Mem}, rc 2 a0 M = some res → Spec mt_X8_compared d [.inr (.inr (19, 0))] (N, M) none (N, res)) (hr3 : ∀ {a0 : Int32} {M N : Mem} {res : Mem}, rc 3 a0 M = some res → Spec mt_X8_sum d [.inr (.inr (19, 0))] (N, M) none (N, res)) (hr4 : ∀ {a0 : Int32} {M N : Mem} {res : Mem}, rc 4 a0 M = some res → Spec mt_X8_product d [.inr (.inr (19, 0))] (N, M) none (N, res)) (hr5 : ∀ {a0 : Int32} {M N : Mem} {res : Mem}, rc 5 a0 M = some res → Spec mt_X8_unit d [.inr (.inr (19, 0))] (N, M) none (N, res)) (hr6 : ∀ {a0 : Int32} {M N : Mem} {res : Mem}, rc 6 a0 M = some res → Spec mt_X8_opens d [.inr (.inr (19, 0)), .inl a0] (N, M) none (N, res)) {v3 : Int32} {M N : Mem} {res : Mem} (h : X8_unit_J119 rc v3 M = some res) : G mt_X8_unit (d + 1) none (N, res) 119 [(0, .inr (.inr (19, 0))), (3, .inl v3)] [] (N, M) := by
  unfold X8_unit_J119 at h
  refine G_aload_n dX8_unit_119 rfl ?_
  refine G_iload_n dX8_unit_120 rfl ?_
  obtain ⟨q6, hq6, h⟩ := bnd h
  refine G_callVn (T := TX8) (N := 22) (f := 19) (i := 0) (X8_lay_ok hq6) ok_X8_lay ml_X8_88 (by omega) rfl (by decide) (by decide) (by decide) rfl rfl (Nat.le_of_ble_eq_true rfl) dX8_unit_121 ?_
  obtain rfl := Option.some.inj h
  exact G_ret dX8_unit_124 trivial rfl rfl

def X8_unit_J110 (rc : Nat → Int32 → Mem → Option (Mem)) (v3 : Int32) (v4 : Int32) (M : Mem) : Option (Mem) := (if v4 = 0 then ((X8_wrong M).bind fun q7 => (X8_unit_J119 rc v3 q7)) else (X8_unit_J119 rc v3 M))
set_option maxRecDepth 100000 in
set_option maxHeartbeats 4000000 in
theorem X8_unit_J110_ok (rc : Nat → Int32 → Mem → Option (Mem))  {d : Nat} (hd0 : 2 ≤ d) (hr0 : ∀ {a0 : Int32} {M N : Mem} {res : Mem}, rc 0 a0 M = some res → Spec mt_X8_either d [.inr (.inr (19, 0))] (N, M) none (N, res)) (hr1 : ∀ {a0 : Int32} {M N : Mem} {res : Mem}, rc 1 a0 M = some res → Spec mt_X8_both d [.inr (.inr (19, 0))] (N, M) none (N, res)) (hr2 : ∀ {a0 : Int32} {M N : Mem} {res : Mem}, rc 2 a0 M = some res → Spec mt_X8_compared d [.inr (.inr (19, 0))] (N, M) none (N, res)) (hr3 : ∀ {a0 : Int32} {M N : Mem} {res : Mem}, rc 3 a0 M = some res → Spec mt_X8_sum d [.inr (.inr (19, 0))] (N, M) none (N, res)) (hr4 : ∀ {a0 : Int32} {M N : Mem} {res : Mem}, rc 4 a0 M = some res → Spec mt_X8_product d [.inr (.inr (19, 0))] (N, M) none (N, res)) (hr5 : ∀ {a0 : Int32} {M N : Mem} {res : Mem}, rc 5 a0 M = some res → Spec mt_X8_unit d [.inr (.inr (19, 0))] (N, M) none (N, res)) (hr6 : ∀ {a0 : Int32} {M N : Mem} {res : Mem}, rc 6 a0 M = some res → Spec mt_X8_opens d [.inr (.inr (19, 0)), .inl a0] (N, M) none (N, res)) {v3 : Int32} {v4 : Int32} {M N : Mem} {res : Mem} (h : X8_unit_J110 rc v3 v4 M = some res) : G mt_X8_unit (d + 1) none (N, res) 110 [(0, .inr (.inr (19, 0))), (3, .inl v3), (4, .inl v4)] [] (N, M) := by
  unfold X8_unit_J110 at h
  refine G_iload dX8_unit_110 rfl ?_
  refine G_if_ne (tgt := 119) dX8_unit_112 (by decide) (fun hc6 => ?_) (fun hc6 => ?_)
  · replace h := (if_neg hc6).symm.trans h
    refine G_sub [(0, .inr (.inr (19, 0))), (3, .inl v3)] [0, 1] rfl ?_
    exact X8_unit_J119_ok rc  hd0 hr0 hr1 hr2 hr3 hr4 hr5 hr6  h
  · replace h := (if_pos hc6).symm.trans h
    refine G_aload_n dX8_unit_115 rfl ?_
    obtain ⟨q7, hq7, h⟩ := bnd h
    refine G_callVn (T := TX8) (N := 22) (f := 19) (i := 0) (X8_wrong_ok hq7) ok_X8_wrong ml_X8_107 (by omega) rfl (by decide) (by decide) (by decide) rfl rfl (Nat.le_of_ble_eq_true rfl) dX8_unit_116 ?_
    refine G_sub [(0, .inr (.inr (19, 0))), (3, .inl v3)] [0, 1] rfl ?_
    exact X8_unit_J119_ok rc  hd0 hr0 hr1 hr2 hr3 hr4 hr5 hr6  h

def X8_unit (rc : Nat → Int32 → Mem → Option (Mem))  (M : Mem) : Option (Mem) := ((X8_here M).bind fun q1 => (if q1 = 33 then (X8_unit_J17 rc q1 M) else (if q1 = 40 then (X8_unit_J17 rc q1 M) else (if (X8_nameOf q1 M) < 0 then ((X8_unit_L58 rc 400 0 0 M).bind fun q5 => (X8_unit_J110 rc q5.1 q5.2.1 q5.2.2)) else ((X8_lay (10000 + (X8_nameOf q1 M)) (up3 M 19 0 6 ((M 19 0 6) + 1))).bind fun q8 => (some q8))))))
set_option maxRecDepth 100000 in
set_option maxHeartbeats 4000000 in
theorem X8_unit_ok (rc : Nat → Int32 → Mem → Option (Mem))  {d : Nat} (hd0 : 2 ≤ d) (hr0 : ∀ {a0 : Int32} {M N : Mem} {res : Mem}, rc 0 a0 M = some res → Spec mt_X8_either d [.inr (.inr (19, 0))] (N, M) none (N, res)) (hr1 : ∀ {a0 : Int32} {M N : Mem} {res : Mem}, rc 1 a0 M = some res → Spec mt_X8_both d [.inr (.inr (19, 0))] (N, M) none (N, res)) (hr2 : ∀ {a0 : Int32} {M N : Mem} {res : Mem}, rc 2 a0 M = some res → Spec mt_X8_compared d [.inr (.inr (19, 0))] (N, M) none (N, res)) (hr3 : ∀ {a0 : Int32} {M N : Mem} {res : Mem}, rc 3 a0 M = some res → Spec mt_X8_sum d [.inr (.inr (19, 0))] (N, M) none (N, res)) (hr4 : ∀ {a0 : Int32} {M N : Mem} {res : Mem}, rc 4 a0 M = some res → Spec mt_X8_product d [.inr (.inr (19, 0))] (N, M) none (N, res)) (hr5 : ∀ {a0 : Int32} {M N : Mem} {res : Mem}, rc 5 a0 M = some res → Spec mt_X8_unit d [.inr (.inr (19, 0))] (N, M) none (N, res)) (hr6 : ∀ {a0 : Int32} {M N : Mem} {res : Mem}, rc 6 a0 M = some res → Spec mt_X8_opens d [.inr (.inr (19, 0)), .inl a0] (N, M) none (N, res)) {M N : Mem} {res : Mem} (h : X8_unit rc M = some res) : Spec mt_X8_unit (d + 1) [.inr (.inr (19, 0))] (N, M) none (N, res) := by
  unfold X8_unit at h
  refine Spec_of_G (by decide) rfl (Nat.le_of_ble_eq_true rfl) ?_
  refine G_sub [(0, .inr (.inr (19, 0)))] [0] rfl ?_
  refine G_aload_n dX8_unit_0 rfl ?_
  obtain ⟨q1, hq1, h⟩ := bnd h
  refine G_callVv (T := TX8) (N := 22) (f := 19) (i := 0) (X8_here_ok hq1) ok_X8_here ml_X8_70 (by omega) rfl (by decide) (by decide) (by decide) rfl rfl (Nat.le_of_ble_eq_true rfl) dX8_unit_1 ?_
  refine G_istore_n (L2 := [(1, .inl q1), (0, .inr (.inr (19, 0)))]) dX8_unit_4 (by decide) rfl ?_
  refine G_iload_n dX8_unit_5 rfl ?_
  refine G_bipush (v := 33) dX8_unit_6 (by decide) ?_
  refine G_icmp_eq (tgt := 17) dX8_unit_8 (by decide) (fun hc1 => ?_) (fun hc1 => ?_)
  · replace h := (if_pos hc1).symm.trans h
    refine G_sub [(0, .inr (.inr (19, 0))), (1, .inl q1)] [1, 0] rfl ?_
    exact X8_unit_J17_ok rc  hd0 hr0 hr1 hr2 hr3 hr4 hr5 hr6  h
  · replace h := (if_neg hc1).symm.trans h
    refine G_iload_n dX8_unit_11 rfl ?_
    refine G_bipush (v := 40) dX8_unit_12 (by decide) ?_
    refine G_icmp_ne (tgt := 23) dX8_unit_14 (by decide) (fun hc2 => ?_) (fun hc2 => ?_)
    · replace h := (if_neg hc2).symm.trans h
      refine G_aload_n dX8_unit_23 rfl ?_
      refine G_iload_n dX8_unit_24 rfl ?_
      refine G_callVv (T := TX8) (N := 22) (f := 19) (i := 0) (X8_nameOf_ok rfl) ok_X8_nameOf ml_X8_116 (by omega) rfl (by decide) (by decide) (by decide) rfl rfl (Nat.le_of_ble_eq_true rfl) dX8_unit_25 ?_
      refine G_istore_n (L2 := [(2, .inl (X8_nameOf q1 M)), (1, .inl q1), (0, .inr (.inr (19, 0)))]) dX8_unit_28 (by decide) rfl ?_
      refine G_iload_n dX8_unit_29 rfl ?_
      refine G_if_lt (tgt := 53) dX8_unit_30 (by decide) (fun hc3 => ?_) (fun hc3 => ?_)
      · replace h := (if_pos hc3).symm.trans h
        refine G_iconst (v := 0) dX8_unit_53 (by decide) ?_
        refine G_istore_n (L2 := [(3, .inl 0), (2, .inl (X8_nameOf q1 M)), (1, .inl q1), (0, .inr (.inr (19, 0)))]) dX8_unit_54 (by decide) rfl ?_
        refine G_iconst (v := 0) dX8_unit_55 (by decide) ?_
        refine G_istore (L2 := [(4, .inl 0), (3, .inl 0), (2, .inl (X8_nameOf q1 M)), (1, .inl q1), (0, .inr (.inr (19, 0)))]) dX8_unit_56 (by decide) rfl ?_
        refine G_sub [(0, .inr (.inr (19, 0))), (3, .inl 0), (4, .inl 0)] [4, 1, 0] rfl ?_
        obtain ⟨q5, hq5, h⟩ := bnd h
        refine X8_unit_L58_ok rc  hd0 hr0 hr1 hr2 hr3 hr4 hr5 hr6 400 0 0 M _  hq5 ?_
        exact X8_unit_J110_ok rc  hd0 hr0 hr1 hr2 hr3 hr4 hr5 hr6  h
      · replace h := (if_neg hc3).symm.trans h
        refine G_aload_n dX8_unit_33 rfl ?_
        refine G_dup rfl dX8_unit_34 ?_
        refine fg_X8_57 (v := (M 19 0 6)) rfl rfl (by decide) dX8_unit_35 ?_
        refine G_iconst (v := 1) dX8_unit_38 (by decide) ?_
        refine G_iadd dX8_unit_39 ?_
        refine fp_X8_57 rfl (by decide) dX8_unit_40 ?_
        refine G_aload_n dX8_unit_43 rfl ?_
        refine G_sipush (v := 10000) dX8_unit_44 (by decide) ?_
        refine G_iload_n dX8_unit_47 rfl ?_
        refine G_iadd dX8_unit_48 ?_
        obtain ⟨q8, hq8, h⟩ := bnd h
        refine G_callVn (T := TX8) (N := 22) (f := 19) (i := 0) (X8_lay_ok hq8) ok_X8_lay ml_X8_88 (by omega) rfl (by decide) (by decide) (by decide) rfl rfl (Nat.le_of_ble_eq_true rfl) dX8_unit_49 ?_
        obtain rfl := Option.some.inj h
        exact G_ret dX8_unit_52 trivial rfl rfl
    · replace h := (if_pos hc2).symm.trans h
      refine G_sub [(0, .inr (.inr (19, 0))), (1, .inl q1)] [1, 0] rfl ?_
      exact X8_unit_J17_ok rc  hd0 hr0 hr1 hr2 hr3 hr4 hr5 hr6  h

def X8_opens (rc : Nat → Int32 → Mem → Option (Mem)) (v1 : Int32) (M : Mem) : Option (Mem) := (if (M 19 0 9) = 5 then ((X8_wrong M).bind fun q6 => (some q6)) else (if v1 = 33 then ((rc 5 0 (up3 (up3 M 19 0 9 ((M 19 0 9) + 1)) 19 0 6 ((M 19 0 6) + 1))).bind fun q4 => ((X8_lay 20033 q4).bind fun q5 => (some (up3 q5 19 0 9 ((q5 19 0 9) - 1))))) else ((rc 0 0 (up3 (up3 M 19 0 9 ((M 19 0 9) + 1)) 19 0 6 ((M 19 0 6) + 1))).bind fun q1 => ((X8_takes 41 q1).bind fun q2 => (if q2.1 = 0 then ((X8_wrong q2.2).bind fun q3 => (some (up3 q3 19 0 9 ((q3 19 0 9) - 1)))) else (some (up3 q2.2 19 0 9 ((q2.2 19 0 9) - 1))))))))
set_option maxRecDepth 100000 in
set_option maxHeartbeats 4000000 in
theorem X8_opens_ok (rc : Nat → Int32 → Mem → Option (Mem))  {d : Nat} (hd0 : 2 ≤ d) (hr0 : ∀ {a0 : Int32} {M N : Mem} {res : Mem}, rc 0 a0 M = some res → Spec mt_X8_either d [.inr (.inr (19, 0))] (N, M) none (N, res)) (hr1 : ∀ {a0 : Int32} {M N : Mem} {res : Mem}, rc 1 a0 M = some res → Spec mt_X8_both d [.inr (.inr (19, 0))] (N, M) none (N, res)) (hr2 : ∀ {a0 : Int32} {M N : Mem} {res : Mem}, rc 2 a0 M = some res → Spec mt_X8_compared d [.inr (.inr (19, 0))] (N, M) none (N, res)) (hr3 : ∀ {a0 : Int32} {M N : Mem} {res : Mem}, rc 3 a0 M = some res → Spec mt_X8_sum d [.inr (.inr (19, 0))] (N, M) none (N, res)) (hr4 : ∀ {a0 : Int32} {M N : Mem} {res : Mem}, rc 4 a0 M = some res → Spec mt_X8_product d [.inr (.inr (19, 0))] (N, M) none (N, res)) (hr5 : ∀ {a0 : Int32} {M N : Mem} {res : Mem}, rc 5 a0 M = some res → Spec mt_X8_unit d [.inr (.inr (19, 0))] (N, M) none (N, res)) (hr6 : ∀ {a0 : Int32} {M N : Mem} {res : Mem}, rc 6 a0 M = some res → Spec mt_X8_opens d [.inr (.inr (19, 0)), .inl a0] (N, M) none (N, res)) {v1 : Int32} {M N : Mem} {res : Mem} (h : X8_opens rc v1 M = some res) : Spec mt_X8_opens (d + 1) [.inr (.inr (19, 0)), .inl v1] (N, M) none (N, res) := by
  unfold X8_opens at h
  refine Spec_of_G (by decide) rfl (Nat.le_of_ble_eq_true rfl) ?_
  refine G_sub [(0, .inr (.inr (19, 0))), (1, .inl v1)] [0, 1] rfl ?_
  refine G_aload_n dX8_opens_0 rfl ?_
  refine fg_X8_104 (v := (M 19 0 9)) rfl rfl (by decide) dX8_opens_1 ?_
  refine G_iconst (v := 5) dX8_opens_4 (by decide) ?_
  refine G_icmp_ne (tgt := 13) dX8_opens_5 (by decide) (fun hc1 => ?_) (fun hc1 => ?_)
  · replace h := (if_neg hc1).symm.trans h
    refine G_aload_n dX8_opens_13 rfl ?_
    refine G_dup rfl dX8_opens_14 ?_
    refine fg_X8_104 (v := (M 19 0 9)) rfl rfl (by decide) dX8_opens_15 ?_
    refine G_iconst (v := 1) dX8_opens_18 (by decide) ?_
    refine G_iadd dX8_opens_19 ?_
    refine fp_X8_104 rfl (by decide) dX8_opens_20 ?_
    refine G_aload_n dX8_opens_23 rfl ?_
    refine G_dup rfl dX8_opens_24 ?_
    refine fg_X8_57 (v := (M 19 0 6)) (up3_k (by decide)) rfl (by decide) dX8_opens_25 ?_
    refine G_iconst (v := 1) dX8_opens_28 (by decide) ?_
    refine G_iadd dX8_opens_29 ?_
    refine fp_X8_57 rfl (by decide) dX8_opens_30 ?_
    refine G_iload_n dX8_opens_33 rfl ?_
    refine G_bipush (v := 33) dX8_opens_34 (by decide) ?_
    refine G_icmp_ne (tgt := 53) dX8_opens_36 (by decide) (fun hc2 => ?_) (fun hc2 => ?_)
    · replace h := (if_neg hc2).symm.trans h
      refine G_aload_n dX8_opens_53 rfl ?_
      obtain ⟨q1, hq1, h⟩ := bnd h
      refine G_callVn (T := TX8) (N := 22) (f := 19) (i := 0) (hr0 hq1) ok_X8_either ml_X8_110 (by omega) rfl (by decide) (by decide) (by decide) rfl rfl (Nat.le_of_ble_eq_true rfl) dX8_opens_54 ?_
      refine G_aload_n dX8_opens_57 rfl ?_
      refine G_bipush (v := 41) dX8_opens_58 (by decide) ?_
      obtain ⟨q2, hq2, h⟩ := bnd h
      refine G_callVv (T := TX8) (N := 22) (f := 19) (i := 0) (X8_takes_ok hq2) ok_X8_takes ml_X8_84 (by omega) rfl (by decide) (by decide) (by decide) rfl rfl (Nat.le_of_ble_eq_true rfl) dX8_opens_60 ?_
      refine G_if_ne (tgt := 70) dX8_opens_63 (by decide) (fun hc3 => ?_) (fun hc3 => ?_)
      · replace h := (if_neg hc3).symm.trans h
        refine G_aload_n dX8_opens_70 rfl ?_
        refine G_dup rfl dX8_opens_71 ?_
        refine fg_X8_104 (v := (q2.2 19 0 9)) rfl rfl (by decide) dX8_opens_72 ?_
        refine G_iconst (v := 1) dX8_opens_75 (by decide) ?_
        refine G_isub dX8_opens_76 ?_
        refine fp_X8_104 rfl (by decide) dX8_opens_77 ?_
        obtain rfl := Option.some.inj h
        exact G_ret dX8_opens_80 trivial rfl rfl
      · replace h := (if_pos hc3).symm.trans h
        refine G_aload_n dX8_opens_66 rfl ?_
        obtain ⟨q3, hq3, h⟩ := bnd h
        refine G_callVn (T := TX8) (N := 22) (f := 19) (i := 0) (X8_wrong_ok hq3) ok_X8_wrong ml_X8_107 (by omega) rfl (by decide) (by decide) (by decide) rfl rfl (Nat.le_of_ble_eq_true rfl) dX8_opens_67 ?_
        refine G_aload_n dX8_opens_70 rfl ?_
        refine G_dup rfl dX8_opens_71 ?_
        refine fg_X8_104 (v := (q3 19 0 9)) rfl rfl (by decide) dX8_opens_72 ?_
        refine G_iconst (v := 1) dX8_opens_75 (by decide) ?_
        refine G_isub dX8_opens_76 ?_
        refine fp_X8_104 rfl (by decide) dX8_opens_77 ?_
        obtain rfl := Option.some.inj h
        exact G_ret dX8_opens_80 trivial rfl rfl
    · replace h := (if_pos hc2).symm.trans h
      refine G_aload_n dX8_opens_39 rfl ?_
      obtain ⟨q4, hq4, h⟩ := bnd h
      refine G_callVn (T := TX8) (N := 22) (f := 19) (i := 0) (hr5 hq4) ok_X8_unit ml_X8_101 (by omega) rfl (by decide) (by decide) (by decide) rfl rfl (Nat.le_of_ble_eq_true rfl) dX8_opens_40 ?_
      refine G_aload_n dX8_opens_43 rfl ?_
      refine G_sipush (v := 20033) dX8_opens_44 (by decide) ?_
      obtain ⟨q5, hq5, h⟩ := bnd h
      refine G_callVn (T := TX8) (N := 22) (f := 19) (i := 0) (X8_lay_ok hq5) ok_X8_lay ml_X8_88 (by omega) rfl (by decide) (by decide) (by decide) rfl rfl (Nat.le_of_ble_eq_true rfl) dX8_opens_47 ?_
      refine G_goto (tgt := 70) dX8_opens_50 (by decide) ?_
      refine G_aload_n dX8_opens_70 rfl ?_
      refine G_dup rfl dX8_opens_71 ?_
      refine fg_X8_104 (v := (q5 19 0 9)) rfl rfl (by decide) dX8_opens_72 ?_
      refine G_iconst (v := 1) dX8_opens_75 (by decide) ?_
      refine G_isub dX8_opens_76 ?_
      refine fp_X8_104 rfl (by decide) dX8_opens_77 ?_
      obtain rfl := Option.some.inj h
      exact G_ret dX8_opens_80 trivial rfl rfl
  · replace h := (if_pos hc1).symm.trans h
    refine G_aload_n dX8_opens_8 rfl ?_
    obtain ⟨q6, hq6, h⟩ := bnd h
    refine G_callVn (T := TX8) (N := 22) (f := 19) (i := 0) (X8_wrong_ok hq6) ok_X8_wrong ml_X8_107 (by omega) rfl (by decide) (by decide) (by decide) rfl rfl (Nat.le_of_ble_eq_true rfl) dX8_opens_9 ?_
    obtain rfl := Option.some.inj h
    exact G_ret dX8_opens_12 trivial rfl rfl

def X8_rec_either : Nat → Nat → Int32 → Mem → Option (Mem)
  | 0, _, _, _ => none
  | fu + 1, tg, a0, M => (if tg = 0 then X8_either (X8_rec_either fu)  M else (if tg = 1 then X8_both (X8_rec_either fu)  M else (if tg = 2 then X8_compared (X8_rec_either fu)  M else (if tg = 3 then X8_sum (X8_rec_either fu)  M else (if tg = 4 then X8_product (X8_rec_either fu)  M else (if tg = 5 then X8_unit (X8_rec_either fu)  M else (if tg = 6 then X8_opens (X8_rec_either fu) a0 M else none)))))))
theorem X8_rec_either_ok : ∀ (fu : Nat), (∀ {a0 : Int32} {M N : Mem} {res : Mem}, X8_rec_either fu 0 a0 M = some res → Spec mt_X8_either (fu + 2) [.inr (.inr (19, 0))] (N, M) none (N, res)) ∧ (∀ {a0 : Int32} {M N : Mem} {res : Mem}, X8_rec_either fu 1 a0 M = some res → Spec mt_X8_both (fu + 2) [.inr (.inr (19, 0))] (N, M) none (N, res)) ∧ (∀ {a0 : Int32} {M N : Mem} {res : Mem}, X8_rec_either fu 2 a0 M = some res → Spec mt_X8_compared (fu + 2) [.inr (.inr (19, 0))] (N, M) none (N, res)) ∧ (∀ {a0 : Int32} {M N : Mem} {res : Mem}, X8_rec_either fu 3 a0 M = some res → Spec mt_X8_sum (fu + 2) [.inr (.inr (19, 0))] (N, M) none (N, res)) ∧ (∀ {a0 : Int32} {M N : Mem} {res : Mem}, X8_rec_either fu 4 a0 M = some res → Spec mt_X8_product (fu + 2) [.inr (.inr (19, 0))] (N, M) none (N, res)) ∧ (∀ {a0 : Int32} {M N : Mem} {res : Mem}, X8_rec_either fu 5 a0 M = some res → Spec mt_X8_unit (fu + 2) [.inr (.inr (19, 0))] (N, M) none (N, res)) ∧ (∀ {a0 : Int32} {M N : Mem} {res : Mem}, X8_rec_either fu 6 a0 M = some res → Spec mt_X8_opens (fu + 2) [.inr (.inr (19, 0)), .inl a0] (N, M) none (N, res)) := by
  intro fu
  induction fu with
  | zero => exact ⟨fun h => (by cases h), fun h => (by cases h), fun h => (by cases h), fun h => (by cases h), fun h => (by cases h), fun h => (by cases h), fun h => (by cases h)⟩
  | succ fu ih =>
    obtain ⟨h0, h1, h2, h3, h4, h5, h6⟩ := ih
    refine ⟨?_, ?_, ?_, ?_, ?_, ?_, ?_⟩
    · intro a0 M N res h
      have e := X8_either_ok (X8_rec_either fu) (d := fu + 2) (by omega) h0 h1 h2 h3 h4 h5 h6 (M := M) (N := N) (res := res) h
      rw [show fu + 1 + 2 = fu + 2 + 1 from by omega]
      exact e
    · intro a0 M N res h
      have e := X8_both_ok (X8_rec_either fu) (d := fu + 2) (by omega) h0 h1 h2 h3 h4 h5 h6 (M := M) (N := N) (res := res) h
      rw [show fu + 1 + 2 = fu + 2 + 1 from by omega]
      exact e
    · intro a0 M N res h
      have e := X8_compared_ok (X8_rec_either fu) (d := fu + 2) (by omega) h0 h1 h2 h3 h4 h5 h6 (M := M) (N := N) (res := res) h
      rw [show fu + 1 + 2 = fu + 2 + 1 from by omega]
      exact e
    · intro a0 M N res h
      have e := X8_sum_ok (X8_rec_either fu) (d := fu + 2) (by omega) h0 h1 h2 h3 h4 h5 h6 (M := M) (N := N) (res := res) h
      rw [show fu + 1 + 2 = fu + 2 + 1 from by omega]
      exact e
    · intro a0 M N res h
      have e := X8_product_ok (X8_rec_either fu) (d := fu + 2) (by omega) h0 h1 h2 h3 h4 h5 h6 (M := M) (N := N) (res := res) h
      rw [show fu + 1 + 2 = fu + 2 + 1 from by omega]
      exact e
    · intro a0 M N res h
      have e := X8_unit_ok (X8_rec_either fu) (d := fu + 2) (by omega) h0 h1 h2 h3 h4 h5 h6 (M := M) (N := N) (res := res) h
      rw [show fu + 1 + 2 = fu + 2 + 1 from by omega]
      exact e
    · intro a0 M N res h
      have e := X8_opens_ok (X8_rec_either fu) (d := fu + 2) (by omega) h0 h1 h2 h3 h4 h5 h6 (M := M) (N := N) (res := res) h
      rw [show fu + 1 + 2 = fu + 2 + 1 from by omega]
      exact e
def X8_eitherC (M : Mem) : Option (Mem) := X8_rec_either 100 0  0 M
theorem X8_eitherC_ok {M N : Mem} {res : Mem} (h : X8_eitherC  M = some res) : Spec mt_X8_either 102 [.inr (.inr (19, 0))] (N, M) none (N, res) := (X8_rec_either_ok 100).1 h
def X8_bothC (M : Mem) : Option (Mem) := X8_rec_either 100 1  0 M
theorem X8_bothC_ok {M N : Mem} {res : Mem} (h : X8_bothC  M = some res) : Spec mt_X8_both 102 [.inr (.inr (19, 0))] (N, M) none (N, res) := (X8_rec_either_ok 100).2.1 h
def X8_comparedC (M : Mem) : Option (Mem) := X8_rec_either 100 2  0 M
theorem X8_comparedC_ok {M N : Mem} {res : Mem} (h : X8_comparedC  M = some res) : Spec mt_X8_compared 102 [.inr (.inr (19, 0))] (N, M) none (N, res) := (X8_rec_either_ok 100).2.2.1 h
def X8_sumC (M : Mem) : Option (Mem) := X8_rec_either 100 3  0 M
theorem X8_sumC_ok {M N : Mem} {res : Mem} (h : X8_sumC  M = some res) : Spec mt_X8_sum 102 [.inr (.inr (19, 0))] (N, M) none (N, res) := (X8_rec_either_ok 100).2.2.2.1 h
def X8_productC (M : Mem) : Option (Mem) := X8_rec_either 100 4  0 M
theorem X8_productC_ok {M N : Mem} {res : Mem} (h : X8_productC  M = some res) : Spec mt_X8_product 102 [.inr (.inr (19, 0))] (N, M) none (N, res) := (X8_rec_either_ok 100).2.2.2.2.1 h
def X8_unitC (M : Mem) : Option (Mem) := X8_rec_either 100 5  0 M
theorem X8_unitC_ok {M N : Mem} {res : Mem} (h : X8_unitC  M = some res) : Spec mt_X8_unit 102 [.inr (.inr (19, 0))] (N, M) none (N, res) := (X8_rec_either_ok 100).2.2.2.2.2.1 h
def X8_opensC (a0 : Int32) (M : Mem) : Option (Mem) := X8_rec_either 100 6 a0  M
theorem X8_opensC_ok {a0 : Int32} {M N : Mem} {res : Mem} (h : X8_opensC a0 M = some res) : Spec mt_X8_opens 102 [.inr (.inr (19, 0)), .inl a0] (N, M) none (N, res) := (X8_rec_either_ok 100).2.2.2.2.2.2 h

theorem dX8_reads_0 : decode cX8_reads 0 = .ok (.aload_n 0, 1) := by decide +kernel
theorem dX8_reads_1 : decode cX8_reads 1 = .ok (.iload_n 1, 1) := by decide +kernel
theorem dX8_reads_2 : decode cX8_reads 2 = .ok (.putfield 67, 3) := by decide +kernel
theorem dX8_reads_5 : decode cX8_reads 5 = .ok (.aload_n 0, 1) := by decide +kernel
theorem dX8_reads_6 : decode cX8_reads 6 = .ok (.iconst 0, 1) := by decide +kernel
theorem dX8_reads_7 : decode cX8_reads 7 = .ok (.putfield 57, 3) := by decide +kernel
theorem dX8_reads_10 : decode cX8_reads 10 = .ok (.aload_n 0, 1) := by decide +kernel
theorem dX8_reads_11 : decode cX8_reads 11 = .ok (.iload_n 2, 1) := by decide +kernel
theorem dX8_reads_12 : decode cX8_reads 12 = .ok (.putfield 61, 3) := by decide +kernel
theorem dX8_reads_15 : decode cX8_reads 15 = .ok (.aload_n 0, 1) := by decide +kernel
theorem dX8_reads_16 : decode cX8_reads 16 = .ok (.iconst (-1), 1) := by decide +kernel
theorem dX8_reads_17 : decode cX8_reads 17 = .ok (.putfield 64, 3) := by decide +kernel
theorem dX8_reads_20 : decode cX8_reads 20 = .ok (.aload_n 0, 1) := by decide +kernel
theorem dX8_reads_21 : decode cX8_reads 21 = .ok (.iconst 0, 1) := by decide +kernel
theorem dX8_reads_22 : decode cX8_reads 22 = .ok (.putfield 104, 3) := by decide +kernel
theorem dX8_reads_25 : decode cX8_reads 25 = .ok (.aload_n 0, 1) := by decide +kernel
theorem dX8_reads_26 : decode cX8_reads 26 = .ok (.iconst 0, 1) := by decide +kernel
theorem dX8_reads_27 : decode cX8_reads 27 = .ok (.putfield 78, 3) := by decide +kernel
theorem dX8_reads_30 : decode cX8_reads 30 = .ok (.aload_n 0, 1) := by decide +kernel
theorem dX8_reads_31 : decode cX8_reads 31 = .ok (.iload_n 3, 1) := by decide +kernel
theorem dX8_reads_32 : decode cX8_reads 32 = .ok (.iconst 1, 1) := by decide +kernel
theorem dX8_reads_33 : decode cX8_reads 33 = .ok (.if_icmp .ne 7, 3) := by decide +kernel
theorem dX8_reads_36 : decode cX8_reads 36 = .ok (.iconst 1, 1) := by decide +kernel
theorem dX8_reads_37 : decode cX8_reads 37 = .ok (.goto 4, 3) := by decide +kernel
theorem dX8_reads_40 : decode cX8_reads 40 = .ok (.iconst 0, 1) := by decide +kernel
theorem dX8_reads_41 : decode cX8_reads 41 = .ok (.putfield 74, 3) := by decide +kernel
theorem dX8_reads_44 : decode cX8_reads 44 = .ok (.aload_n 0, 1) := by decide +kernel
theorem dX8_reads_45 : decode cX8_reads 45 = .ok (.invokevirtual 110, 3) := by decide +kernel
theorem dX8_reads_48 : decode cX8_reads 48 = .ok (.aload_n 0, 1) := by decide +kernel
theorem dX8_reads_49 : decode cX8_reads 49 = .ok (.getfield 64, 3) := by decide +kernel
theorem dX8_reads_52 : decode cX8_reads 52 = .ok (.ifCond .ge 18, 3) := by decide +kernel
theorem dX8_reads_55 : decode cX8_reads 55 = .ok (.aload_n 0, 1) := by decide +kernel
theorem dX8_reads_56 : decode cX8_reads 56 = .ok (.getfield 57, 3) := by decide +kernel
theorem dX8_reads_59 : decode cX8_reads 59 = .ok (.aload_n 0, 1) := by decide +kernel
theorem dX8_reads_60 : decode cX8_reads 60 = .ok (.getfield 61, 3) := by decide +kernel
theorem dX8_reads_63 : decode cX8_reads 63 = .ok (.if_icmp .ge 7, 3) := by decide +kernel
theorem dX8_reads_66 : decode cX8_reads 66 = .ok (.aload_n 0, 1) := by decide +kernel
theorem dX8_reads_67 : decode cX8_reads 67 = .ok (.invokevirtual 107, 3) := by decide +kernel
theorem dX8_reads_70 : decode cX8_reads 70 = .ok (.return_, 1) := by decide +kernel
def X8_reads (v1 : Int32) (v2 : Int32) (v3 : Int32) (M : Mem) : Option (Mem) := (if v3 = 1 then ((X8_eitherC (up3 (up3 (up3 (up3 (up3 (up3 (up3 M 19 0 5 v1) 19 0 6 0) 19 0 7 v2) 19 0 8 (-1)) 19 0 9 0) 19 0 13 0) 19 0 10 1)).bind fun q3 => (if (q3 19 0 8) < 0 then (if (q3 19 0 6) < (q3 19 0 7) then ((X8_wrong q3).bind fun q4 => (some q4)) else (some q3)) else (some q3))) else ((X8_eitherC (up3 (up3 (up3 (up3 (up3 (up3 (up3 M 19 0 5 v1) 19 0 6 0) 19 0 7 v2) 19 0 8 (-1)) 19 0 9 0) 19 0 13 0) 19 0 10 0)).bind fun q1 => (if (q1 19 0 8) < 0 then (if (q1 19 0 6) < (q1 19 0 7) then ((X8_wrong q1).bind fun q2 => (some q2)) else (some q1)) else (some q1))))
set_option maxRecDepth 100000 in
set_option maxHeartbeats 4000000 in
theorem X8_reads_ok  {v1 : Int32} {v2 : Int32} {v3 : Int32} {M N : Mem} {res : Mem} (h : X8_reads v1 v2 v3 M = some res) : Spec mt_X8_reads 103 [.inr (.inr (19, 0)), .inl v1, .inl v2, .inl v3] (N, M) none (N, res) := by
  unfold X8_reads at h
  refine Spec_of_G (by decide) rfl (Nat.le_of_ble_eq_true rfl) ?_
  refine G_sub [(0, .inr (.inr (19, 0))), (1, .inl v1), (2, .inl v2), (3, .inl v3)] [0, 1, 2, 3] rfl ?_
  refine G_aload_n dX8_reads_0 rfl ?_
  refine G_iload_n dX8_reads_1 rfl ?_
  refine fp_X8_67 rfl (by decide) dX8_reads_2 ?_
  refine G_aload_n dX8_reads_5 rfl ?_
  refine G_iconst (v := 0) dX8_reads_6 (by decide) ?_
  refine fp_X8_57 rfl (by decide) dX8_reads_7 ?_
  refine G_aload_n dX8_reads_10 rfl ?_
  refine G_iload_n dX8_reads_11 rfl ?_
  refine fp_X8_61 rfl (by decide) dX8_reads_12 ?_
  refine G_aload_n dX8_reads_15 rfl ?_
  refine G_iconst (v := (-1)) dX8_reads_16 (by decide) ?_
  refine fp_X8_64 rfl (by decide) dX8_reads_17 ?_
  refine G_aload_n dX8_reads_20 rfl ?_
  refine G_iconst (v := 0) dX8_reads_21 (by decide) ?_
  refine fp_X8_104 rfl (by decide) dX8_reads_22 ?_
  refine G_aload_n dX8_reads_25 rfl ?_
  refine G_iconst (v := 0) dX8_reads_26 (by decide) ?_
  refine fp_X8_78 rfl (by decide) dX8_reads_27 ?_
  refine G_aload_n dX8_reads_30 rfl ?_
  refine G_iload_n dX8_reads_31 rfl ?_
  refine G_iconst (v := 1) dX8_reads_32 (by decide) ?_
  refine G_icmp_ne (tgt := 40) dX8_reads_33 (by decide) (fun hc1 => ?_) (fun hc1 => ?_)
  · replace h := (if_neg hc1).symm.trans h
    refine G_iconst (v := 0) dX8_reads_40 (by decide) ?_
    refine fp_X8_74 (by decide) rfl (by decide) dX8_reads_41 ?_
    refine G_aload_n dX8_reads_44 rfl ?_
    obtain ⟨q1, hq1, h⟩ := bnd h
    refine G_callVn (T := TX8) (N := 22) (f := 19) (i := 0) (X8_eitherC_ok hq1) ok_X8_either ml_X8_110 (by decide) rfl (by decide) (by decide) (by decide) rfl rfl (Nat.le_of_ble_eq_true rfl) dX8_reads_45 ?_
    refine G_aload_n dX8_reads_48 rfl ?_
    refine fg_X8_64 (v := (q1 19 0 8)) rfl rfl (by decide) dX8_reads_49 ?_
    refine G_if_ge (tgt := 70) dX8_reads_52 (by decide) (fun hc2 => ?_) (fun hc2 => ?_)
    · replace h := (if_neg hc2).symm.trans h
      obtain rfl := Option.some.inj h
      exact G_ret dX8_reads_70 trivial rfl rfl
    · replace h := (if_pos hc2).symm.trans h
      refine G_aload_n dX8_reads_55 rfl ?_
      refine fg_X8_57 (v := (q1 19 0 6)) rfl rfl (by decide) dX8_reads_56 ?_
      refine G_aload_n dX8_reads_59 rfl ?_
      refine fg_X8_61 (v := (q1 19 0 7)) rfl rfl (by decide) dX8_reads_60 ?_
      refine G_icmp_ge (tgt := 70) dX8_reads_63 (by decide) (fun hc3 => ?_) (fun hc3 => ?_)
      · replace h := (if_neg hc3).symm.trans h
        obtain rfl := Option.some.inj h
        exact G_ret dX8_reads_70 trivial rfl rfl
      · replace h := (if_pos hc3).symm.trans h
        refine G_aload_n dX8_reads_66 rfl ?_
        obtain ⟨q2, hq2, h⟩ := bnd h
        refine G_callVn (T := TX8) (N := 22) (f := 19) (i := 0) (X8_wrong_ok hq2) ok_X8_wrong ml_X8_107 (by decide) rfl (by decide) (by decide) (by decide) rfl rfl (Nat.le_of_ble_eq_true rfl) dX8_reads_67 ?_
        obtain rfl := Option.some.inj h
        exact G_ret dX8_reads_70 trivial rfl rfl
  · replace h := (if_pos hc1).symm.trans h
    refine G_iconst (v := 1) dX8_reads_36 (by decide) ?_
    refine G_goto (tgt := 41) dX8_reads_37 (by decide) ?_
    refine fp_X8_74 (by decide) rfl (by decide) dX8_reads_41 ?_
    refine G_aload_n dX8_reads_44 rfl ?_
    obtain ⟨q3, hq3, h⟩ := bnd h
    refine G_callVn (T := TX8) (N := 22) (f := 19) (i := 0) (X8_eitherC_ok hq3) ok_X8_either ml_X8_110 (by decide) rfl (by decide) (by decide) (by decide) rfl rfl (Nat.le_of_ble_eq_true rfl) dX8_reads_45 ?_
    refine G_aload_n dX8_reads_48 rfl ?_
    refine fg_X8_64 (v := (q3 19 0 8)) rfl rfl (by decide) dX8_reads_49 ?_
    refine G_if_ge (tgt := 70) dX8_reads_52 (by decide) (fun hc4 => ?_) (fun hc4 => ?_)
    · replace h := (if_neg hc4).symm.trans h
      obtain rfl := Option.some.inj h
      exact G_ret dX8_reads_70 trivial rfl rfl
    · replace h := (if_pos hc4).symm.trans h
      refine G_aload_n dX8_reads_55 rfl ?_
      refine fg_X8_57 (v := (q3 19 0 6)) rfl rfl (by decide) dX8_reads_56 ?_
      refine G_aload_n dX8_reads_59 rfl ?_
      refine fg_X8_61 (v := (q3 19 0 7)) rfl rfl (by decide) dX8_reads_60 ?_
      refine G_icmp_ge (tgt := 70) dX8_reads_63 (by decide) (fun hc5 => ?_) (fun hc5 => ?_)
      · replace h := (if_neg hc5).symm.trans h
        obtain rfl := Option.some.inj h
        exact G_ret dX8_reads_70 trivial rfl rfl
      · replace h := (if_pos hc5).symm.trans h
        refine G_aload_n dX8_reads_66 rfl ?_
        obtain ⟨q4, hq4, h⟩ := bnd h
        refine G_callVn (T := TX8) (N := 22) (f := 19) (i := 0) (X8_wrong_ok hq4) ok_X8_wrong ml_X8_107 (by decide) rfl (by decide) (by decide) (by decide) rfl rfl (Nat.le_of_ble_eq_true rfl) dX8_reads_67 ?_
        obtain rfl := Option.some.inj h
        exact G_ret dX8_reads_70 trivial rfl rfl

theorem dX8_text_0 : decode cX8_text 0 = .ok (.iload_n 1, 1) := by decide +kernel
theorem dX8_text_1 : decode cX8_text 1 = .ok (.i2l, 1) := by decide +kernel
theorem dX8_text_2 : decode cX8_text 2 = .ok (.lconst 0, 1) := by decide +kernel
theorem dX8_text_3 : decode cX8_text 3 = .ok (.lconst 1, 1) := by decide +kernel
theorem dX8_text_4 : decode cX8_text 4 = .ok (.invokestatic 47, 3) := by decide +kernel
theorem dX8_text_7 : decode cX8_text 7 = .ok (.ifCond .ne 9, 3) := by decide +kernel
theorem dX8_text_10 : decode cX8_text 10 = .ok (.aload_n 0, 1) := by decide +kernel
theorem dX8_text_11 : decode cX8_text 11 = .ok (.iconst 1, 1) := by decide +kernel
theorem dX8_text_12 : decode cX8_text 12 = .ok (.invokevirtual 130, 3) := by decide +kernel
theorem dX8_text_15 : decode cX8_text 15 = .ok (.ireturn, 1) := by decide +kernel
theorem dX8_text_16 : decode cX8_text 16 = .ok (.aload_n 0, 1) := by decide +kernel
theorem dX8_text_17 : decode cX8_text 17 = .ok (.getfield 7, 3) := by decide +kernel
theorem dX8_text_20 : decode cX8_text 20 = .ok (.iconst 4, 1) := by decide +kernel
theorem dX8_text_21 : decode cX8_text 21 = .ok (.iaload, 1) := by decide +kernel
theorem dX8_text_22 : decode cX8_text 22 = .ok (.istore_n 2, 1) := by decide +kernel
theorem dX8_text_23 : decode cX8_text 23 = .ok (.aload_n 0, 1) := by decide +kernel
theorem dX8_text_24 : decode cX8_text 24 = .ok (.getfield 7, 3) := by decide +kernel
theorem dX8_text_27 : decode cX8_text 27 = .ok (.iconst 4, 1) := by decide +kernel
theorem dX8_text_28 : decode cX8_text 28 = .ok (.iconst 0, 1) := by decide +kernel
theorem dX8_text_29 : decode cX8_text 29 = .ok (.iastore, 1) := by decide +kernel
theorem dX8_text_30 : decode cX8_text 30 = .ok (.aload_n 0, 1) := by decide +kernel
theorem dX8_text_31 : decode cX8_text 31 = .ok (.sipush 218, 3) := by decide +kernel
theorem dX8_text_34 : decode cX8_text 34 = .ok (.iload_n 2, 1) := by decide +kernel
theorem dX8_text_35 : decode cX8_text 35 = .ok (.iload_n 1, 1) := by decide +kernel
theorem dX8_text_36 : decode cX8_text 36 = .ok (.invokevirtual 135, 3) := by decide +kernel
theorem dX8_text_39 : decode cX8_text 39 = .ok (.aload_n 0, 1) := by decide +kernel
theorem dX8_text_40 : decode cX8_text 40 = .ok (.getfield 64, 3) := by decide +kernel
theorem dX8_text_43 : decode cX8_text 43 = .ok (.ifCond .lt 11, 3) := by decide +kernel
theorem dX8_text_46 : decode cX8_text 46 = .ok (.bipush (-10), 2) := by decide +kernel
theorem dX8_text_48 : decode cX8_text 48 = .ok (.aload_n 0, 1) := by decide +kernel
theorem dX8_text_49 : decode cX8_text 49 = .ok (.getfield 64, 3) := by decide +kernel
theorem dX8_text_52 : decode cX8_text 52 = .ok (.isub, 1) := by decide +kernel
theorem dX8_text_53 : decode cX8_text 53 = .ok (.ireturn, 1) := by decide +kernel
theorem dX8_text_54 : decode cX8_text 54 = .ok (.aload_n 0, 1) := by decide +kernel
theorem dX8_text_55 : decode cX8_text 55 = .ok (.getfield 7, 3) := by decide +kernel
theorem dX8_text_58 : decode cX8_text 58 = .ok (.bipush 96, 2) := by decide +kernel
theorem dX8_text_60 : decode cX8_text 60 = .ok (.iload_n 1, 1) := by decide +kernel
theorem dX8_text_61 : decode cX8_text 61 = .ok (.iadd, 1) := by decide +kernel
theorem dX8_text_62 : decode cX8_text 62 = .ok (.aload_n 0, 1) := by decide +kernel
theorem dX8_text_63 : decode cX8_text 63 = .ok (.getfield 78, 3) := by decide +kernel
theorem dX8_text_66 : decode cX8_text 66 = .ok (.iastore, 1) := by decide +kernel
theorem dX8_text_67 : decode cX8_text 67 = .ok (.iconst 0, 1) := by decide +kernel
theorem dX8_text_68 : decode cX8_text 68 = .ok (.istore_n 3, 1) := by decide +kernel
theorem dX8_text_69 : decode cX8_text 69 = .ok (.iload_n 3, 1) := by decide +kernel
theorem dX8_text_70 : decode cX8_text 70 = .ok (.aload_n 0, 1) := by decide +kernel
theorem dX8_text_71 : decode cX8_text 71 = .ok (.getfield 78, 3) := by decide +kernel
theorem dX8_text_74 : decode cX8_text 74 = .ok (.if_icmp .ge 29, 3) := by decide +kernel
theorem dX8_text_77 : decode cX8_text 77 = .ok (.aload_n 0, 1) := by decide +kernel
theorem dX8_text_78 : decode cX8_text 78 = .ok (.getfield 7, 3) := by decide +kernel
theorem dX8_text_81 : decode cX8_text 81 = .ok (.bipush 118, 2) := by decide +kernel
theorem dX8_text_83 : decode cX8_text 83 = .ok (.bipush 50, 2) := by decide +kernel
theorem dX8_text_85 : decode cX8_text 85 = .ok (.iload_n 1, 1) := by decide +kernel
theorem dX8_text_86 : decode cX8_text 86 = .ok (.imul, 1) := by decide +kernel
theorem dX8_text_87 : decode cX8_text 87 = .ok (.iadd, 1) := by decide +kernel
theorem dX8_text_88 : decode cX8_text 88 = .ok (.iload_n 3, 1) := by decide +kernel
theorem dX8_text_89 : decode cX8_text 89 = .ok (.iadd, 1) := by decide +kernel
theorem dX8_text_90 : decode cX8_text 90 = .ok (.aload_n 0, 1) := by decide +kernel
theorem dX8_text_91 : decode cX8_text 91 = .ok (.getfield 25, 3) := by decide +kernel
theorem dX8_text_94 : decode cX8_text 94 = .ok (.iload_n 3, 1) := by decide +kernel
theorem dX8_text_95 : decode cX8_text 95 = .ok (.iaload, 1) := by decide +kernel
theorem dX8_text_96 : decode cX8_text 96 = .ok (.iastore, 1) := by decide +kernel
theorem dX8_text_97 : decode cX8_text 97 = .ok (.iinc 3 1, 3) := by decide +kernel
theorem dX8_text_100 : decode cX8_text 100 = .ok (.goto (-31), 3) := by decide +kernel
theorem dX8_text_103 : decode cX8_text 103 = .ok (.iconst 1, 1) := by decide +kernel
theorem dX8_text_104 : decode cX8_text 104 = .ok (.ireturn, 1) := by decide +kernel
def X8_text_L69 : Nat → Int32 → Int32 → Mem → Option (Mem)
  | 0, _, _, _ => none
  | fu + 1, v1, v3, M => (if v3 < (M 19 0 13) then (if ib v3 60 = true then (if ib ((118 + (50 * v1)) + v3) 268 = true then (X8_text_L69 fu v1 (v3 + 1) (up3 M 20 0 (((118 + (50 * v1)) + v3).toNatClampNeg) (M 25 0 v3.toNatClampNeg))) else none) else none) else (some M))
set_option maxRecDepth 100000 in
set_option maxHeartbeats 4000000 in
theorem X8_text_L69_ok  {r : Option AV} {M' : MM} : ∀ (fu : Nat) (v1 : Int32) (v3 : Int32) (M N : Mem) {res : Mem} (h : X8_text_L69 fu v1 v3 M = some res) (K : G mt_X8_text 104 r M' 103 [] [] (N, res)), G mt_X8_text 104 r M' 69 [(0, .inr (.inr (19, 0))), (1, .inl v1), (3, .inl v3)] [] (N, M) := by
  intro fu
  induction fu with
  | zero =>
    intro v1 v3 M N res h
    cases h
  | succ fu ih =>
    intro v1 v3 M N res h K
    replace h : (if v3 < (M 19 0 13) then (if ib v3 60 = true then (if ib ((118 + (50 * v1)) + v3) 268 = true then (X8_text_L69 fu v1 (v3 + 1) (up3 M 20 0 (((118 + (50 * v1)) + v3).toNatClampNeg) (M 25 0 v3.toNatClampNeg))) else none) else none) else (some M)) = some res := h
    refine G_iload_n dX8_text_69 rfl ?_
    refine G_aload_n dX8_text_70 rfl ?_
    refine fg_X8_78 (v := (M 19 0 13)) rfl rfl (by decide) dX8_text_71 ?_
    refine G_icmp_ge (tgt := 103) dX8_text_74 (by decide) (fun hc3 => ?_) (fun hc3 => ?_)
    · replace h := (if_neg hc3).symm.trans h
      refine G_sub [] [] rfl ?_
      obtain rfl := Option.some.inj h
      exact K
    · replace h := (if_pos hc3).symm.trans h
      refine G_aload_n dX8_text_77 rfl ?_
      refine fg_X8_7 rfl (by decide) dX8_text_78 ?_
      refine G_bipush (v := 118) dX8_text_81 (by decide) ?_
      refine G_bipush (v := 50) dX8_text_83 (by decide) ?_
      refine G_iload_n dX8_text_85 rfl ?_
      refine G_imul dX8_text_86 ?_
      refine G_iadd dX8_text_87 ?_
      refine G_iload_n dX8_text_88 rfl ?_
      refine G_iadd dX8_text_89 ?_
      refine G_aload_n dX8_text_90 rfl ?_
      refine fg_X8_25 rfl (by decide) dX8_text_91 ?_
      refine G_iload_n dX8_text_94 rfl ?_
      obtain ⟨hb3, h⟩ := chk h
      have lhb3 := ib_lt hb3
      refine al_25 (kk := v3.toNatClampNeg) (v := (M 25 0 v3.toNatClampNeg)) (by decide) hb3 rfl rfl dX8_text_95 ?_
      obtain ⟨hb4, h⟩ := chk h
      have lhb4 := ib_lt hb4
      refine as_20 (kk := ((118 + (50 * v1)) + v3).toNatClampNeg) (by decide) hb4 rfl dX8_text_96 ?_
      refine G_iinc (v := (v3 + 1)) (L2 := [(3, .inl (v3 + 1)), (0, .inr (.inr (19, 0))), (1, .inl v1)]) dX8_text_97 rfl (by first | rfl | (show _ + Int32.ofInt _ = _; rfl)) (by decide) rfl ?_
      refine G_goto (tgt := 69) dX8_text_100 (by decide) ?_
      refine G_sub [(0, .inr (.inr (19, 0))), (1, .inl v1), (3, .inl (v3 + 1))] [1, 2, 0] rfl ?_
      exact ih v1 (v3 + 1) (up3 M 20 0 (((118 + (50 * v1)) + v3).toNatClampNeg) (M 25 0 v3.toNatClampNeg)) _  h K

def X8_text (v1 : Int32) (M : Mem) : Option (Int32 × Mem) := (if (X8_in (v1.toInt64) (0 : Int64) (1 : Int64)) = 0 then ((X8_finds 1 M).bind fun q6 => (some (q6.1, q6.2))) else ((X8_reads 218 (M 20 0 4) v1 (up3 M 20 0 4 0)).bind fun q1 => (if (q1 19 0 8) < 0 then (if ib (96 + v1) 268 = true then ((X8_text_L69 400 v1 0 (up3 q1 20 0 ((96 + v1).toNatClampNeg) (q1 19 0 13))).bind fun q5 => (some (1, q5))) else none) else (some (((-10) - (q1 19 0 8)), q1)))))
set_option maxRecDepth 100000 in
set_option maxHeartbeats 4000000 in
theorem X8_text_ok  {v1 : Int32} {M N : Mem} {res : Int32 × Mem} (h : X8_text v1 M = some res) : Spec mt_X8_text 104 [.inr (.inr (19, 0)), .inl v1] (N, M) (some (.inl res.1)) (N, res.2) := by
  unfold X8_text at h
  refine Spec_of_G (by decide) rfl (Nat.le_of_ble_eq_true rfl) ?_
  refine G_sub [(0, .inr (.inr (19, 0))), (1, .inl v1)] [0, 1] rfl ?_
  refine G_iload_n dX8_text_0 rfl ?_
  refine G_i2l dX8_text_1 ?_
  refine G_lconst (v := 0) dX8_text_2 (by decide) ?_
  refine G_lconst (v := 1) dX8_text_3 (by decide) ?_
  refine G_callSv  (X8_in_ok rfl) ok_X8_in ml_X8_47 (by decide) rfl rfl (Nat.le_of_ble_eq_true rfl) dX8_text_4 ?_
  refine G_if_ne (tgt := 16) dX8_text_7 (by decide) (fun hc1 => ?_) (fun hc1 => ?_)
  · replace h := (if_neg hc1).symm.trans h
    refine G_aload_n dX8_text_16 rfl ?_
    refine fg_X8_7 rfl (by decide) dX8_text_17 ?_
    refine G_iconst (v := 4) dX8_text_20 (by decide) ?_
    refine al_20 (kk := 4) (v := (M 20 0 4)) (by decide) (by decide) (by decide) rfl dX8_text_21 ?_
    refine G_istore_n (L2 := [(2, .inl (M 20 0 4)), (0, .inr (.inr (19, 0))), (1, .inl v1)]) dX8_text_22 (by decide) rfl ?_
    refine G_aload_n dX8_text_23 rfl ?_
    refine fg_X8_7 rfl (by decide) dX8_text_24 ?_
    refine G_iconst (v := 4) dX8_text_27 (by decide) ?_
    refine G_iconst (v := 0) dX8_text_28 (by decide) ?_
    refine as_20 (kk := 4) (by decide) (by decide) (by decide) dX8_text_29 ?_
    refine G_aload_n dX8_text_30 rfl ?_
    refine G_sipush (v := 218) dX8_text_31 (by decide) ?_
    refine G_iload_n dX8_text_34 rfl ?_
    refine G_iload_n dX8_text_35 rfl ?_
    obtain ⟨q1, hq1, h⟩ := bnd h
    refine G_callVn (T := TX8) (N := 22) (f := 19) (i := 0) (X8_reads_ok hq1) ok_X8_reads ml_X8_135 (by decide) rfl (by decide) (by decide) (by decide) rfl rfl (Nat.le_of_ble_eq_true rfl) dX8_text_36 ?_
    refine G_aload_n dX8_text_39 rfl ?_
    refine fg_X8_64 (v := (q1 19 0 8)) rfl rfl (by decide) dX8_text_40 ?_
    refine G_if_lt (tgt := 54) dX8_text_43 (by decide) (fun hc2 => ?_) (fun hc2 => ?_)
    · replace h := (if_pos hc2).symm.trans h
      refine G_aload_n dX8_text_54 rfl ?_
      refine fg_X8_7 rfl (by decide) dX8_text_55 ?_
      refine G_bipush (v := 96) dX8_text_58 (by decide) ?_
      refine G_iload_n dX8_text_60 rfl ?_
      refine G_iadd dX8_text_61 ?_
      refine G_aload_n dX8_text_62 rfl ?_
      refine fg_X8_78 (v := (q1 19 0 13)) rfl rfl (by decide) dX8_text_63 ?_
      obtain ⟨hb2, h⟩ := chk h
      have lhb2 := ib_lt hb2
      refine as_20 (kk := (96 + v1).toNatClampNeg) (by decide) hb2 rfl dX8_text_66 ?_
      refine G_iconst (v := 0) dX8_text_67 (by decide) ?_
      refine G_istore_n (L2 := [(3, .inl 0), (2, .inl (M 20 0 4)), (0, .inr (.inr (19, 0))), (1, .inl v1)]) dX8_text_68 (by decide) rfl ?_
      refine G_sub [(0, .inr (.inr (19, 0))), (1, .inl v1), (3, .inl 0)] [2, 3, 0] rfl ?_
      obtain ⟨q5, hq5, h⟩ := bnd h
      refine X8_text_L69_ok  400 v1 0 (up3 q1 20 0 ((96 + v1).toNatClampNeg) (q1 19 0 13)) _  hq5 ?_
      refine G_iconst (v := 1) dX8_text_103 (by decide) ?_
      obtain rfl := Option.some.inj h
      exact G_ret dX8_text_104 trivial rfl rfl
    · replace h := (if_neg hc2).symm.trans h
      refine G_bipush (v := (-10)) dX8_text_46 (by decide) ?_
      refine G_aload_n dX8_text_48 rfl ?_
      refine fg_X8_64 (v := (q1 19 0 8)) rfl rfl (by decide) dX8_text_49 ?_
      refine G_isub dX8_text_52 ?_
      obtain rfl := Option.some.inj h
      exact G_ret dX8_text_53 trivial rfl rfl
  · replace h := (if_pos hc1).symm.trans h
    refine G_aload_n dX8_text_10 rfl ?_
    refine G_iconst (v := 1) dX8_text_11 (by decide) ?_
    obtain ⟨q6, hq6, h⟩ := bnd h
    refine G_callVv (T := TX8) (N := 22) (f := 19) (i := 0) (X8_finds_ok hq6) ok_X8_finds ml_X8_130 (by decide) rfl (by decide) (by decide) (by decide) rfl rfl (Nat.le_of_ble_eq_true rfl) dX8_text_12 ?_
    obtain rfl := Option.some.inj h
    exact G_ret dX8_text_15 trivial rfl rfl

theorem dX8_done_0 : decode cX8_done 0 = .ok (.iload_n 0, 1) := by decide +kernel
theorem dX8_done_1 : decode cX8_done 1 = .ok (.lookupswitch 168 #[(38, 97), (42, 152), (43, 144), (45, 148), (47, 156), (60, 111), (61, 122), (62, 133), (124, 83)], 83) := by decide +kernel
theorem dX8_done_84 : decode cX8_done 84 = .ok (.iload_n 1, 1) := by decide +kernel
theorem dX8_done_85 : decode cX8_done 85 = .ok (.ifCond .ne 7, 3) := by decide +kernel
theorem dX8_done_88 : decode cX8_done 88 = .ok (.iload_n 2, 1) := by decide +kernel
theorem dX8_done_89 : decode cX8_done 89 = .ok (.ifCond .eq 7, 3) := by decide +kernel
theorem dX8_done_92 : decode cX8_done 92 = .ok (.iconst 1, 1) := by decide +kernel
theorem dX8_done_93 : decode cX8_done 93 = .ok (.goto 4, 3) := by decide +kernel
theorem dX8_done_96 : decode cX8_done 96 = .ok (.iconst 0, 1) := by decide +kernel
theorem dX8_done_97 : decode cX8_done 97 = .ok (.ireturn, 1) := by decide +kernel
theorem dX8_done_98 : decode cX8_done 98 = .ok (.iload_n 1, 1) := by decide +kernel
theorem dX8_done_99 : decode cX8_done 99 = .ok (.ifCond .eq 11, 3) := by decide +kernel
theorem dX8_done_102 : decode cX8_done 102 = .ok (.iload_n 2, 1) := by decide +kernel
theorem dX8_done_103 : decode cX8_done 103 = .ok (.ifCond .eq 7, 3) := by decide +kernel
theorem dX8_done_106 : decode cX8_done 106 = .ok (.iconst 1, 1) := by decide +kernel
theorem dX8_done_107 : decode cX8_done 107 = .ok (.goto 4, 3) := by decide +kernel
theorem dX8_done_110 : decode cX8_done 110 = .ok (.iconst 0, 1) := by decide +kernel
theorem dX8_done_111 : decode cX8_done 111 = .ok (.ireturn, 1) := by decide +kernel
theorem dX8_done_112 : decode cX8_done 112 = .ok (.iload_n 1, 1) := by decide +kernel
theorem dX8_done_113 : decode cX8_done 113 = .ok (.iload_n 2, 1) := by decide +kernel
theorem dX8_done_114 : decode cX8_done 114 = .ok (.if_icmp .ge 7, 3) := by decide +kernel
theorem dX8_done_117 : decode cX8_done 117 = .ok (.iconst 1, 1) := by decide +kernel
theorem dX8_done_118 : decode cX8_done 118 = .ok (.goto 4, 3) := by decide +kernel
theorem dX8_done_121 : decode cX8_done 121 = .ok (.iconst 0, 1) := by decide +kernel
theorem dX8_done_122 : decode cX8_done 122 = .ok (.ireturn, 1) := by decide +kernel
theorem dX8_done_123 : decode cX8_done 123 = .ok (.iload_n 1, 1) := by decide +kernel
theorem dX8_done_124 : decode cX8_done 124 = .ok (.iload_n 2, 1) := by decide +kernel
theorem dX8_done_125 : decode cX8_done 125 = .ok (.if_icmp .ne 7, 3) := by decide +kernel
theorem dX8_done_128 : decode cX8_done 128 = .ok (.iconst 1, 1) := by decide +kernel
theorem dX8_done_129 : decode cX8_done 129 = .ok (.goto 4, 3) := by decide +kernel
theorem dX8_done_132 : decode cX8_done 132 = .ok (.iconst 0, 1) := by decide +kernel
theorem dX8_done_133 : decode cX8_done 133 = .ok (.ireturn, 1) := by decide +kernel
theorem dX8_done_134 : decode cX8_done 134 = .ok (.iload_n 1, 1) := by decide +kernel
theorem dX8_done_135 : decode cX8_done 135 = .ok (.iload_n 2, 1) := by decide +kernel
theorem dX8_done_136 : decode cX8_done 136 = .ok (.if_icmp .le 7, 3) := by decide +kernel
theorem dX8_done_139 : decode cX8_done 139 = .ok (.iconst 1, 1) := by decide +kernel
theorem dX8_done_140 : decode cX8_done 140 = .ok (.goto 4, 3) := by decide +kernel
theorem dX8_done_143 : decode cX8_done 143 = .ok (.iconst 0, 1) := by decide +kernel
theorem dX8_done_144 : decode cX8_done 144 = .ok (.ireturn, 1) := by decide +kernel
theorem dX8_done_145 : decode cX8_done 145 = .ok (.iload_n 1, 1) := by decide +kernel
theorem dX8_done_146 : decode cX8_done 146 = .ok (.iload_n 2, 1) := by decide +kernel
theorem dX8_done_147 : decode cX8_done 147 = .ok (.iadd, 1) := by decide +kernel
theorem dX8_done_148 : decode cX8_done 148 = .ok (.ireturn, 1) := by decide +kernel
theorem dX8_done_149 : decode cX8_done 149 = .ok (.iload_n 1, 1) := by decide +kernel
theorem dX8_done_150 : decode cX8_done 150 = .ok (.iload_n 2, 1) := by decide +kernel
theorem dX8_done_151 : decode cX8_done 151 = .ok (.isub, 1) := by decide +kernel
theorem dX8_done_152 : decode cX8_done 152 = .ok (.ireturn, 1) := by decide +kernel
theorem dX8_done_153 : decode cX8_done 153 = .ok (.iload_n 1, 1) := by decide +kernel
theorem dX8_done_154 : decode cX8_done 154 = .ok (.iload_n 2, 1) := by decide +kernel
theorem dX8_done_155 : decode cX8_done 155 = .ok (.imul, 1) := by decide +kernel
theorem dX8_done_156 : decode cX8_done 156 = .ok (.ireturn, 1) := by decide +kernel
theorem dX8_done_157 : decode cX8_done 157 = .ok (.iload_n 2, 1) := by decide +kernel
theorem dX8_done_158 : decode cX8_done 158 = .ok (.ifCond .ne 7, 3) := by decide +kernel
theorem dX8_done_161 : decode cX8_done 161 = .ok (.iconst 0, 1) := by decide +kernel
theorem dX8_done_162 : decode cX8_done 162 = .ok (.goto 6, 3) := by decide +kernel
theorem dX8_done_165 : decode cX8_done 165 = .ok (.iload_n 1, 1) := by decide +kernel
theorem dX8_done_166 : decode cX8_done 166 = .ok (.iload_n 2, 1) := by decide +kernel
theorem dX8_done_167 : decode cX8_done 167 = .ok (.idiv, 1) := by decide +kernel
theorem dX8_done_168 : decode cX8_done 168 = .ok (.ireturn, 1) := by decide +kernel
theorem dX8_done_169 : decode cX8_done 169 = .ok (.iload_n 2, 1) := by decide +kernel
theorem dX8_done_170 : decode cX8_done 170 = .ok (.ifCond .ne 7, 3) := by decide +kernel
theorem dX8_done_173 : decode cX8_done 173 = .ok (.iconst 0, 1) := by decide +kernel
theorem dX8_done_174 : decode cX8_done 174 = .ok (.goto 6, 3) := by decide +kernel
theorem dX8_done_177 : decode cX8_done 177 = .ok (.iload_n 1, 1) := by decide +kernel
theorem dX8_done_178 : decode cX8_done 178 = .ok (.iload_n 2, 1) := by decide +kernel
theorem dX8_done_179 : decode cX8_done 179 = .ok (.irem, 1) := by decide +kernel
theorem dX8_done_180 : decode cX8_done 180 = .ok (.ireturn, 1) := by decide +kernel
def X8_done (v0 : Int32) (v1 : Int32) (v2 : Int32) : Int32 := (if v0 = 38 then (if v1 = 0 then 0 else (if v2 = 0 then 0 else 1)) else (if v0 = 42 then (v1 * v2) else (if v0 = 43 then (v1 + v2) else (if v0 = 45 then (v1 - v2) else (if v0 = 47 then (if v2 = 0 then 0 else (v1 / v2)) else (if v0 = 60 then (if v1 < v2 then 1 else 0) else (if v0 = 61 then (if v1 = v2 then 1 else 0) else (if v0 = 62 then (if v2 < v1 then 1 else 0) else (if v0 = 124 then (if v1 = 0 then (if v2 = 0 then 0 else 1) else 1) else (if v2 = 0 then 0 else (jrem v1 v2)))))))))))
set_option maxRecDepth 100000 in
set_option maxHeartbeats 4000000 in
theorem X8_done_ok  {v0 : Int32} {v1 : Int32} {v2 : Int32} {MM0 : MM} {res : Int32} (h : X8_done v0 v1 v2 = res) : Spec mt_X8_done 0 [.inl v0, .inl v1, .inl v2] MM0 (some (.inl res)) MM0 := by
  unfold X8_done at h
  refine Spec_of_G (by decide) rfl (Nat.le_of_ble_eq_true rfl) ?_
  refine G_sub [(0, .inl v0), (1, .inl v1), (2, .inl v2)] [0, 1, 2] rfl ?_
  refine G_iload_n dX8_done_0 rfl ?_
  by_cases hc1 : v0 = 38
  · replace h := (if_pos hc1).symm.trans h
    refine G_lookEq (off := 97) (tgt := 98) hc1 dX8_done_1 (by decide) (by decide) (by decide) ?_
    refine G_iload_n dX8_done_98 rfl ?_
    refine G_if_eq (tgt := 110) dX8_done_99 (by decide) (fun hc2 => ?_) (fun hc2 => ?_)
    · replace h := (if_pos hc2).symm.trans h
      refine G_iconst (v := 0) dX8_done_110 (by decide) ?_
      subst h
      exact G_ret dX8_done_111 trivial rfl rfl
    · replace h := (if_neg hc2).symm.trans h
      refine G_iload_n dX8_done_102 rfl ?_
      refine G_if_eq (tgt := 110) dX8_done_103 (by decide) (fun hc3 => ?_) (fun hc3 => ?_)
      · replace h := (if_pos hc3).symm.trans h
        refine G_iconst (v := 0) dX8_done_110 (by decide) ?_
        subst h
        exact G_ret dX8_done_111 trivial rfl rfl
      · replace h := (if_neg hc3).symm.trans h
        refine G_iconst (v := 1) dX8_done_106 (by decide) ?_
        refine G_goto (tgt := 111) dX8_done_107 (by decide) ?_
        subst h
        exact G_ret dX8_done_111 trivial rfl rfl
  replace h := (if_neg hc1).symm.trans h
  by_cases hc4 : v0 = 42
  · replace h := (if_pos hc4).symm.trans h
    refine G_lookEq (off := 152) (tgt := 153) hc4 dX8_done_1 (by decide) (by decide) (by decide) ?_
    refine G_iload_n dX8_done_153 rfl ?_
    refine G_iload_n dX8_done_154 rfl ?_
    refine G_imul dX8_done_155 ?_
    subst h
    exact G_ret dX8_done_156 trivial rfl rfl
  replace h := (if_neg hc4).symm.trans h
  by_cases hc5 : v0 = 43
  · replace h := (if_pos hc5).symm.trans h
    refine G_lookEq (off := 144) (tgt := 145) hc5 dX8_done_1 (by decide) (by decide) (by decide) ?_
    refine G_iload_n dX8_done_145 rfl ?_
    refine G_iload_n dX8_done_146 rfl ?_
    refine G_iadd dX8_done_147 ?_
    subst h
    exact G_ret dX8_done_148 trivial rfl rfl
  replace h := (if_neg hc5).symm.trans h
  by_cases hc6 : v0 = 45
  · replace h := (if_pos hc6).symm.trans h
    refine G_lookEq (off := 148) (tgt := 149) hc6 dX8_done_1 (by decide) (by decide) (by decide) ?_
    refine G_iload_n dX8_done_149 rfl ?_
    refine G_iload_n dX8_done_150 rfl ?_
    refine G_isub dX8_done_151 ?_
    subst h
    exact G_ret dX8_done_152 trivial rfl rfl
  replace h := (if_neg hc6).symm.trans h
  by_cases hc7 : v0 = 47
  · replace h := (if_pos hc7).symm.trans h
    refine G_lookEq (off := 156) (tgt := 157) hc7 dX8_done_1 (by decide) (by decide) (by decide) ?_
    refine G_iload_n dX8_done_157 rfl ?_
    refine G_if_ne (tgt := 165) dX8_done_158 (by decide) (fun hc8 => ?_) (fun hc8 => ?_)
    · replace h := (if_neg hc8).symm.trans h
      refine G_iload_n dX8_done_165 rfl ?_
      refine G_iload_n dX8_done_166 rfl ?_
      refine G_idiv hc8 dX8_done_167 ?_
      subst h
      exact G_ret dX8_done_168 trivial rfl rfl
    · replace h := (if_pos hc8).symm.trans h
      refine G_iconst (v := 0) dX8_done_161 (by decide) ?_
      refine G_goto (tgt := 168) dX8_done_162 (by decide) ?_
      subst h
      exact G_ret dX8_done_168 trivial rfl rfl
  replace h := (if_neg hc7).symm.trans h
  by_cases hc9 : v0 = 60
  · replace h := (if_pos hc9).symm.trans h
    refine G_lookEq (off := 111) (tgt := 112) hc9 dX8_done_1 (by decide) (by decide) (by decide) ?_
    refine G_iload_n dX8_done_112 rfl ?_
    refine G_iload_n dX8_done_113 rfl ?_
    refine G_icmp_ge (tgt := 121) dX8_done_114 (by decide) (fun hc10 => ?_) (fun hc10 => ?_)
    · replace h := (if_neg hc10).symm.trans h
      refine G_iconst (v := 0) dX8_done_121 (by decide) ?_
      subst h
      exact G_ret dX8_done_122 trivial rfl rfl
    · replace h := (if_pos hc10).symm.trans h
      refine G_iconst (v := 1) dX8_done_117 (by decide) ?_
      refine G_goto (tgt := 122) dX8_done_118 (by decide) ?_
      subst h
      exact G_ret dX8_done_122 trivial rfl rfl
  replace h := (if_neg hc9).symm.trans h
  by_cases hc11 : v0 = 61
  · replace h := (if_pos hc11).symm.trans h
    refine G_lookEq (off := 122) (tgt := 123) hc11 dX8_done_1 (by decide) (by decide) (by decide) ?_
    refine G_iload_n dX8_done_123 rfl ?_
    refine G_iload_n dX8_done_124 rfl ?_
    refine G_icmp_ne (tgt := 132) dX8_done_125 (by decide) (fun hc12 => ?_) (fun hc12 => ?_)
    · replace h := (if_neg hc12).symm.trans h
      refine G_iconst (v := 0) dX8_done_132 (by decide) ?_
      subst h
      exact G_ret dX8_done_133 trivial rfl rfl
    · replace h := (if_pos hc12).symm.trans h
      refine G_iconst (v := 1) dX8_done_128 (by decide) ?_
      refine G_goto (tgt := 133) dX8_done_129 (by decide) ?_
      subst h
      exact G_ret dX8_done_133 trivial rfl rfl
  replace h := (if_neg hc11).symm.trans h
  by_cases hc13 : v0 = 62
  · replace h := (if_pos hc13).symm.trans h
    refine G_lookEq (off := 133) (tgt := 134) hc13 dX8_done_1 (by decide) (by decide) (by decide) ?_
    refine G_iload_n dX8_done_134 rfl ?_
    refine G_iload_n dX8_done_135 rfl ?_
    refine G_icmp_le (tgt := 143) dX8_done_136 (by decide) (fun hc14 => ?_) (fun hc14 => ?_)
    · replace h := (if_neg hc14).symm.trans h
      refine G_iconst (v := 0) dX8_done_143 (by decide) ?_
      subst h
      exact G_ret dX8_done_144 trivial rfl rfl
    · replace h := (if_pos hc14).symm.trans h
      refine G_iconst (v := 1) dX8_done_139 (by decide) ?_
      refine G_goto (tgt := 144) dX8_done_140 (by decide) ?_
      subst h
      exact G_ret dX8_done_144 trivial rfl rfl
  replace h := (if_neg hc13).symm.trans h
  by_cases hc15 : v0 = 124
  · replace h := (if_pos hc15).symm.trans h
    refine G_lookEq (off := 83) (tgt := 84) hc15 dX8_done_1 (by decide) (by decide) (by decide) ?_
    refine G_iload_n dX8_done_84 rfl ?_
    refine G_if_ne (tgt := 92) dX8_done_85 (by decide) (fun hc16 => ?_) (fun hc16 => ?_)
    · replace h := (if_neg hc16).symm.trans h
      refine G_iconst (v := 1) dX8_done_92 (by decide) ?_
      refine G_goto (tgt := 97) dX8_done_93 (by decide) ?_
      subst h
      exact G_ret dX8_done_97 trivial rfl rfl
    · replace h := (if_pos hc16).symm.trans h
      refine G_iload_n dX8_done_88 rfl ?_
      refine G_if_eq (tgt := 96) dX8_done_89 (by decide) (fun hc17 => ?_) (fun hc17 => ?_)
      · replace h := (if_pos hc17).symm.trans h
        refine G_iconst (v := 0) dX8_done_96 (by decide) ?_
        subst h
        exact G_ret dX8_done_97 trivial rfl rfl
      · replace h := (if_neg hc17).symm.trans h
        refine G_iconst (v := 1) dX8_done_92 (by decide) ?_
        refine G_goto (tgt := 97) dX8_done_93 (by decide) ?_
        subst h
        exact G_ret dX8_done_97 trivial rfl rfl
  replace h := (if_neg hc15).symm.trans h
  have nhc1 := ne_lit (n := 38) (by decide) hc1
  have nhc4 := ne_lit (n := 42) (by decide) hc4
  have nhc5 := ne_lit (n := 43) (by decide) hc5
  have nhc6 := ne_lit (n := 45) (by decide) hc6
  have nhc7 := ne_lit (n := 47) (by decide) hc7
  have nhc9 := ne_lit (n := 60) (by decide) hc9
  have nhc11 := ne_lit (n := 61) (by decide) hc11
  have nhc13 := ne_lit (n := 62) (by decide) hc13
  have nhc15 := ne_lit (n := 124) (by decide) hc15
  refine G_lookup (off := 168) (tgt := 169) dX8_done_1 (by decide) (by generalize (v0 : Int32).toInt = zz at nhc1 nhc4 nhc5 nhc6 nhc7 nhc9 nhc11 nhc13 nhc15 ⊢; simp [Op.lookupswitch.offset, Ne.symm nhc1, Ne.symm nhc4, Ne.symm nhc5, Ne.symm nhc6, Ne.symm nhc7, Ne.symm nhc9, Ne.symm nhc11, Ne.symm nhc13, Ne.symm nhc15]; done) (by decide) ?_
  refine G_iload_n dX8_done_169 rfl ?_
  refine G_if_ne (tgt := 177) dX8_done_170 (by decide) (fun hc18 => ?_) (fun hc18 => ?_)
  · replace h := (if_neg hc18).symm.trans h
    refine G_iload_n dX8_done_177 rfl ?_
    refine G_iload_n dX8_done_178 rfl ?_
    refine G_irem hc18 dX8_done_179 ?_
    subst h
    exact G_ret dX8_done_180 trivial rfl rfl
  · replace h := (if_pos hc18).symm.trans h
    refine G_iconst (v := 0) dX8_done_173 (by decide) ?_
    refine G_goto (tgt := 180) dX8_done_174 (by decide) ?_
    subst h
    exact G_ret dX8_done_180 trivial rfl rfl

theorem dX8_worked_0 : decode cX8_worked 0 = .ok (.iconst 0, 1) := by decide +kernel
theorem dX8_worked_1 : decode cX8_worked 1 = .ok (.istore_n 3, 1) := by decide +kernel
theorem dX8_worked_2 : decode cX8_worked 2 = .ok (.iload_n 1, 1) := by decide +kernel
theorem dX8_worked_3 : decode cX8_worked 3 = .ok (.istore 4, 2) := by decide +kernel
theorem dX8_worked_5 : decode cX8_worked 5 = .ok (.iload 4, 2) := by decide +kernel
theorem dX8_worked_7 : decode cX8_worked 7 = .ok (.iload_n 1, 1) := by decide +kernel
theorem dX8_worked_8 : decode cX8_worked 8 = .ok (.iload_n 2, 1) := by decide +kernel
theorem dX8_worked_9 : decode cX8_worked 9 = .ok (.iadd, 1) := by decide +kernel
theorem dX8_worked_10 : decode cX8_worked 10 = .ok (.if_icmp .ge 131, 3) := by decide +kernel
theorem dX8_worked_13 : decode cX8_worked 13 = .ok (.aload_n 0, 1) := by decide +kernel
theorem dX8_worked_14 : decode cX8_worked 14 = .ok (.getfield 7, 3) := by decide +kernel
theorem dX8_worked_17 : decode cX8_worked 17 = .ok (.iload 4, 2) := by decide +kernel
theorem dX8_worked_19 : decode cX8_worked 19 = .ok (.iaload, 1) := by decide +kernel
theorem dX8_worked_20 : decode cX8_worked 20 = .ok (.istore 5, 2) := by decide +kernel
theorem dX8_worked_22 : decode cX8_worked 22 = .ok (.iload 5, 2) := by decide +kernel
theorem dX8_worked_24 : decode cX8_worked 24 = .ok (.sipush 20000, 3) := by decide +kernel
theorem dX8_worked_27 : decode cX8_worked 27 = .ok (.if_icmp .ge 39, 3) := by decide +kernel
theorem dX8_worked_30 : decode cX8_worked 30 = .ok (.aload_n 0, 1) := by decide +kernel
theorem dX8_worked_31 : decode cX8_worked 31 = .ok (.getfield 28, 3) := by decide +kernel
theorem dX8_worked_34 : decode cX8_worked 34 = .ok (.iload_n 3, 1) := by decide +kernel
theorem dX8_worked_35 : decode cX8_worked 35 = .ok (.iload 5, 2) := by decide +kernel
theorem dX8_worked_37 : decode cX8_worked 37 = .ok (.sipush 10000, 3) := by decide +kernel
theorem dX8_worked_40 : decode cX8_worked 40 = .ok (.if_icmp .ge 8, 3) := by decide +kernel
theorem dX8_worked_43 : decode cX8_worked 43 = .ok (.iload 5, 2) := by decide +kernel
theorem dX8_worked_45 : decode cX8_worked 45 = .ok (.goto 14, 3) := by decide +kernel
theorem dX8_worked_48 : decode cX8_worked 48 = .ok (.aload_n 0, 1) := by decide +kernel
theorem dX8_worked_49 : decode cX8_worked 49 = .ok (.getfield 22, 3) := by decide +kernel
theorem dX8_worked_52 : decode cX8_worked 52 = .ok (.iload 5, 2) := by decide +kernel
theorem dX8_worked_54 : decode cX8_worked 54 = .ok (.sipush 10000, 3) := by decide +kernel
theorem dX8_worked_57 : decode cX8_worked 57 = .ok (.isub, 1) := by decide +kernel
theorem dX8_worked_58 : decode cX8_worked 58 = .ok (.iaload, 1) := by decide +kernel
theorem dX8_worked_59 : decode cX8_worked 59 = .ok (.iastore, 1) := by decide +kernel
theorem dX8_worked_60 : decode cX8_worked 60 = .ok (.iinc 3 1, 3) := by decide +kernel
theorem dX8_worked_63 : decode cX8_worked 63 = .ok (.goto 72, 3) := by decide +kernel
theorem dX8_worked_66 : decode cX8_worked 66 = .ok (.iload 5, 2) := by decide +kernel
theorem dX8_worked_68 : decode cX8_worked 68 = .ok (.sipush 20033, 3) := by decide +kernel
theorem dX8_worked_71 : decode cX8_worked 71 = .ok (.if_icmp .ne 30, 3) := by decide +kernel
theorem dX8_worked_74 : decode cX8_worked 74 = .ok (.aload_n 0, 1) := by decide +kernel
theorem dX8_worked_75 : decode cX8_worked 75 = .ok (.getfield 28, 3) := by decide +kernel
theorem dX8_worked_78 : decode cX8_worked 78 = .ok (.iload_n 3, 1) := by decide +kernel
theorem dX8_worked_79 : decode cX8_worked 79 = .ok (.iconst 1, 1) := by decide +kernel
theorem dX8_worked_80 : decode cX8_worked 80 = .ok (.isub, 1) := by decide +kernel
theorem dX8_worked_81 : decode cX8_worked 81 = .ok (.aload_n 0, 1) := by decide +kernel
theorem dX8_worked_82 : decode cX8_worked 82 = .ok (.getfield 28, 3) := by decide +kernel
theorem dX8_worked_85 : decode cX8_worked 85 = .ok (.iload_n 3, 1) := by decide +kernel
theorem dX8_worked_86 : decode cX8_worked 86 = .ok (.iconst 1, 1) := by decide +kernel
theorem dX8_worked_87 : decode cX8_worked 87 = .ok (.isub, 1) := by decide +kernel
theorem dX8_worked_88 : decode cX8_worked 88 = .ok (.iaload, 1) := by decide +kernel
theorem dX8_worked_89 : decode cX8_worked 89 = .ok (.ifCond .ne 7, 3) := by decide +kernel
theorem dX8_worked_92 : decode cX8_worked 92 = .ok (.iconst 1, 1) := by decide +kernel
theorem dX8_worked_93 : decode cX8_worked 93 = .ok (.goto 4, 3) := by decide +kernel
theorem dX8_worked_96 : decode cX8_worked 96 = .ok (.iconst 0, 1) := by decide +kernel
theorem dX8_worked_97 : decode cX8_worked 97 = .ok (.iastore, 1) := by decide +kernel
theorem dX8_worked_98 : decode cX8_worked 98 = .ok (.goto 37, 3) := by decide +kernel
theorem dX8_worked_101 : decode cX8_worked 101 = .ok (.iinc 3 (-1), 3) := by decide +kernel
theorem dX8_worked_104 : decode cX8_worked 104 = .ok (.aload_n 0, 1) := by decide +kernel
theorem dX8_worked_105 : decode cX8_worked 105 = .ok (.getfield 28, 3) := by decide +kernel
theorem dX8_worked_108 : decode cX8_worked 108 = .ok (.iload_n 3, 1) := by decide +kernel
theorem dX8_worked_109 : decode cX8_worked 109 = .ok (.iconst 1, 1) := by decide +kernel
theorem dX8_worked_110 : decode cX8_worked 110 = .ok (.isub, 1) := by decide +kernel
theorem dX8_worked_111 : decode cX8_worked 111 = .ok (.iload 5, 2) := by decide +kernel
theorem dX8_worked_113 : decode cX8_worked 113 = .ok (.sipush 20000, 3) := by decide +kernel
theorem dX8_worked_116 : decode cX8_worked 116 = .ok (.isub, 1) := by decide +kernel
theorem dX8_worked_117 : decode cX8_worked 117 = .ok (.aload_n 0, 1) := by decide +kernel
theorem dX8_worked_118 : decode cX8_worked 118 = .ok (.getfield 28, 3) := by decide +kernel
theorem dX8_worked_121 : decode cX8_worked 121 = .ok (.iload_n 3, 1) := by decide +kernel
theorem dX8_worked_122 : decode cX8_worked 122 = .ok (.iconst 1, 1) := by decide +kernel
theorem dX8_worked_123 : decode cX8_worked 123 = .ok (.isub, 1) := by decide +kernel
theorem dX8_worked_124 : decode cX8_worked 124 = .ok (.iaload, 1) := by decide +kernel
theorem dX8_worked_125 : decode cX8_worked 125 = .ok (.aload_n 0, 1) := by decide +kernel
theorem dX8_worked_126 : decode cX8_worked 126 = .ok (.getfield 28, 3) := by decide +kernel
theorem dX8_worked_129 : decode cX8_worked 129 = .ok (.iload_n 3, 1) := by decide +kernel
theorem dX8_worked_130 : decode cX8_worked 130 = .ok (.iaload, 1) := by decide +kernel
theorem dX8_worked_131 : decode cX8_worked 131 = .ok (.invokestatic 124, 3) := by decide +kernel
theorem dX8_worked_134 : decode cX8_worked 134 = .ok (.iastore, 1) := by decide +kernel
theorem dX8_worked_135 : decode cX8_worked 135 = .ok (.iinc 4 1, 3) := by decide +kernel
theorem dX8_worked_138 : decode cX8_worked 138 = .ok (.goto (-133), 3) := by decide +kernel
theorem dX8_worked_141 : decode cX8_worked 141 = .ok (.aload_n 0, 1) := by decide +kernel
theorem dX8_worked_142 : decode cX8_worked 142 = .ok (.getfield 28, 3) := by decide +kernel
theorem dX8_worked_145 : decode cX8_worked 145 = .ok (.iconst 0, 1) := by decide +kernel
theorem dX8_worked_146 : decode cX8_worked 146 = .ok (.iaload, 1) := by decide +kernel
theorem dX8_worked_147 : decode cX8_worked 147 = .ok (.ireturn, 1) := by decide +kernel
def X8_worked_L5 : Nat → Int32 → Int32 → Int32 → Int32 → Mem → Option (Mem)
  | 0, _, _, _, _, _ => none
  | fu + 1, v1, v2, v3, v4, M => (if v4 < (v1 + v2) then (if ib v4 268 = true then (if (M 20 0 v4.toNatClampNeg) < 20000 then (if (M 20 0 v4.toNatClampNeg) < 10000 then (if ib v3 60 = true then (X8_worked_L5 fu v1 v2 (v3 + 1) (v4 + 1) (up3 M 26 0 v3.toNatClampNeg (M 20 0 v4.toNatClampNeg))) else none) else (if ib ((M 20 0 v4.toNatClampNeg) - 10000) 3 = true then (if ib v3 60 = true then (X8_worked_L5 fu v1 v2 (v3 + 1) (v4 + 1) (up3 M 26 0 v3.toNatClampNeg (M 24 0 (((M 20 0 v4.toNatClampNeg) - 10000).toNatClampNeg)))) else none) else none)) else (if (M 20 0 v4.toNatClampNeg) = 20033 then (if ib (v3 - 1) 60 = true then (if (M 26 0 ((v3 - 1).toNatClampNeg)) = 0 then (X8_worked_L5 fu v1 v2 v3 (v4 + 1) (up3 M 26 0 ((v3 - 1).toNatClampNeg) 1)) else (X8_worked_L5 fu v1 v2 v3 (v4 + 1) (up3 M 26 0 ((v3 - 1).toNatClampNeg) 0))) else none) else (if ib ((v3 + (-1)) - 1) 60 = true then (if ib (v3 + (-1)) 60 = true then (X8_worked_L5 fu v1 v2 (v3 + (-1)) (v4 + 1) (up3 M 26 0 (((v3 + (-1)) - 1).toNatClampNeg) (X8_done ((M 20 0 v4.toNatClampNeg) - 20000) (M 26 0 (((v3 + (-1)) - 1).toNatClampNeg)) (M 26 0 ((v3 + (-1)).toNatClampNeg))))) else none) else none))) else none) else (some M))
set_option maxRecDepth 100000 in
set_option maxHeartbeats 4000000 in
theorem X8_worked_L5_ok  {r : Option AV} {M' : MM} : ∀ (fu : Nat) (v1 : Int32) (v2 : Int32) (v3 : Int32) (v4 : Int32) (M N : Mem) {res : Mem} (h : X8_worked_L5 fu v1 v2 v3 v4 M = some res) (K : G mt_X8_worked 1 r M' 141 [(0, .inr (.inr (19, 0)))] [] (N, res)), G mt_X8_worked 1 r M' 5 [(0, .inr (.inr (19, 0))), (1, .inl v1), (2, .inl v2), (3, .inl v3), (4, .inl v4)] [] (N, M) := by
  intro fu
  induction fu with
  | zero =>
    intro v1 v2 v3 v4 M N res h
    cases h
  | succ fu ih =>
    intro v1 v2 v3 v4 M N res h K
    replace h : (if v4 < (v1 + v2) then (if ib v4 268 = true then (if (M 20 0 v4.toNatClampNeg) < 20000 then (if (M 20 0 v4.toNatClampNeg) < 10000 then (if ib v3 60 = true then (X8_worked_L5 fu v1 v2 (v3 + 1) (v4 + 1) (up3 M 26 0 v3.toNatClampNeg (M 20 0 v4.toNatClampNeg))) else none) else (if ib ((M 20 0 v4.toNatClampNeg) - 10000) 3 = true then (if ib v3 60 = true then (X8_worked_L5 fu v1 v2 (v3 + 1) (v4 + 1) (up3 M 26 0 v3.toNatClampNeg (M 24 0 (((M 20 0 v4.toNatClampNeg) - 10000).toNatClampNeg)))) else none) else none)) else (if (M 20 0 v4.toNatClampNeg) = 20033 then (if ib (v3 - 1) 60 = true then (if (M 26 0 ((v3 - 1).toNatClampNeg)) = 0 then (X8_worked_L5 fu v1 v2 v3 (v4 + 1) (up3 M 26 0 ((v3 - 1).toNatClampNeg) 1)) else (X8_worked_L5 fu v1 v2 v3 (v4 + 1) (up3 M 26 0 ((v3 - 1).toNatClampNeg) 0))) else none) else (if ib ((v3 + (-1)) - 1) 60 = true then (if ib (v3 + (-1)) 60 = true then (X8_worked_L5 fu v1 v2 (v3 + (-1)) (v4 + 1) (up3 M 26 0 (((v3 + (-1)) - 1).toNatClampNeg) (X8_done ((M 20 0 v4.toNatClampNeg) - 20000) (M 26 0 (((v3 + (-1)) - 1).toNatClampNeg)) (M 26 0 ((v3 + (-1)).toNatClampNeg))))) else none) else none))) else none) else (some M)) = some res := h
    refine G_iload dX8_worked_5 rfl ?_
    refine G_iload_n dX8_worked_7 rfl ?_
    refine G_iload_n dX8_worked_8 rfl ?_
    refine G_iadd dX8_worked_9 ?_
    refine G_icmp_ge (tgt := 141) dX8_worked_10 (by decide) (fun hc1 => ?_) (fun hc1 => ?_)
    · replace h := (if_neg hc1).symm.trans h
      refine G_sub [(0, .inr (.inr (19, 0)))] [0] rfl ?_
      obtain rfl := Option.some.inj h
      exact K
    · replace h := (if_pos hc1).symm.trans h
      refine G_aload_n dX8_worked_13 rfl ?_
      refine fg_X8_7 rfl (by decide) dX8_worked_14 ?_
      refine G_iload dX8_worked_17 rfl ?_
      obtain ⟨hb1, h⟩ := chk h
      have lhb1 := ib_lt hb1
      refine al_20 (kk := v4.toNatClampNeg) (v := (M 20 0 v4.toNatClampNeg)) (by decide) hb1 rfl rfl dX8_worked_19 ?_
      refine G_istore (L2 := [(5, .inl (M 20 0 v4.toNatClampNeg)), (0, .inr (.inr (19, 0))), (1, .inl v1), (2, .inl v2), (3, .inl v3), (4, .inl v4)]) dX8_worked_20 (by decide) rfl ?_
      refine G_iload dX8_worked_22 rfl ?_
      refine G_sipush (v := 20000) dX8_worked_24 (by decide) ?_
      refine G_icmp_ge (tgt := 66) dX8_worked_27 (by decide) (fun hc2 => ?_) (fun hc2 => ?_)
      · replace h := (if_neg hc2).symm.trans h
        refine G_iload dX8_worked_66 rfl ?_
        refine G_sipush (v := 20033) dX8_worked_68 (by decide) ?_
        refine G_icmp_ne (tgt := 101) dX8_worked_71 (by decide) (fun hc3 => ?_) (fun hc3 => ?_)
        · replace h := (if_neg hc3).symm.trans h
          refine G_iinc (v := (v3 + (-1))) (L2 := [(3, .inl (v3 + (-1))), (5, .inl (M 20 0 v4.toNatClampNeg)), (0, .inr (.inr (19, 0))), (1, .inl v1), (2, .inl v2), (4, .inl v4)]) dX8_worked_101 rfl (by first | rfl | (show _ + Int32.ofInt _ = _; rfl)) (by decide) rfl ?_
          refine G_aload_n dX8_worked_104 rfl ?_
          refine fg_X8_28 rfl (by decide) dX8_worked_105 ?_
          refine G_iload_n dX8_worked_108 rfl ?_
          refine G_iconst (v := 1) dX8_worked_109 (by decide) ?_
          refine G_isub dX8_worked_110 ?_
          refine G_iload dX8_worked_111 rfl ?_
          refine G_sipush (v := 20000) dX8_worked_113 (by decide) ?_
          refine G_isub dX8_worked_116 ?_
          refine G_aload_n dX8_worked_117 rfl ?_
          refine fg_X8_28 rfl (by decide) dX8_worked_118 ?_
          refine G_iload_n dX8_worked_121 rfl ?_
          refine G_iconst (v := 1) dX8_worked_122 (by decide) ?_
          refine G_isub dX8_worked_123 ?_
          obtain ⟨hb2, h⟩ := chk h
          have lhb2 := ib_lt hb2
          refine al_26 (kk := ((v3 + (-1)) - 1).toNatClampNeg) (v := (M 26 0 (((v3 + (-1)) - 1).toNatClampNeg))) (by decide) hb2 rfl rfl dX8_worked_124 ?_
          refine G_aload_n dX8_worked_125 rfl ?_
          refine fg_X8_28 rfl (by decide) dX8_worked_126 ?_
          refine G_iload_n dX8_worked_129 rfl ?_
          obtain ⟨hb3, h⟩ := chk h
          have lhb3 := ib_lt hb3
          refine al_26 (kk := (v3 + (-1)).toNatClampNeg) (v := (M 26 0 ((v3 + (-1)).toNatClampNeg))) (by decide) hb3 rfl rfl dX8_worked_130 ?_
          refine G_callSv  (X8_done_ok rfl) ok_X8_done ml_X8_124 (by decide) rfl rfl (Nat.le_of_ble_eq_true rfl) dX8_worked_131 ?_
          refine as_26 (kk := ((v3 + (-1)) - 1).toNatClampNeg) (by decide) hb2 rfl dX8_worked_134 ?_
          refine G_iinc (v := (v4 + 1)) (L2 := [(4, .inl (v4 + 1)), (3, .inl (v3 + (-1))), (5, .inl (M 20 0 v4.toNatClampNeg)), (0, .inr (.inr (19, 0))), (1, .inl v1), (2, .inl v2)]) dX8_worked_135 rfl (by first | rfl | (show _ + Int32.ofInt _ = _; rfl)) (by decide) rfl ?_
          refine G_goto (tgt := 5) dX8_worked_138 (by decide) ?_
          refine G_sub [(0, .inr (.inr (19, 0))), (1, .inl v1), (2, .inl v2), (3, .inl (v3 + (-1))), (4, .inl (v4 + 1))] [3, 4, 5, 1, 0] rfl ?_
          exact ih v1 v2 (v3 + (-1)) (v4 + 1) (up3 M 26 0 (((v3 + (-1)) - 1).toNatClampNeg) (X8_done ((M 20 0 v4.toNatClampNeg) - 20000) (M 26 0 (((v3 + (-1)) - 1).toNatClampNeg)) (M 26 0 ((v3 + (-1)).toNatClampNeg)))) _  h K
        · replace h := (if_pos hc3).symm.trans h
          refine G_aload_n dX8_worked_74 rfl ?_
          refine fg_X8_28 rfl (by decide) dX8_worked_75 ?_
          refine G_iload_n dX8_worked_78 rfl ?_
          refine G_iconst (v := 1) dX8_worked_79 (by decide) ?_
          refine G_isub dX8_worked_80 ?_
          refine G_aload_n dX8_worked_81 rfl ?_
          refine fg_X8_28 rfl (by decide) dX8_worked_82 ?_
          refine G_iload_n dX8_worked_85 rfl ?_
          refine G_iconst (v := 1) dX8_worked_86 (by decide) ?_
          refine G_isub dX8_worked_87 ?_
          obtain ⟨hb4, h⟩ := chk h
          have lhb4 := ib_lt hb4
          refine al_26 (kk := (v3 - 1).toNatClampNeg) (v := (M 26 0 ((v3 - 1).toNatClampNeg))) (by decide) hb4 rfl rfl dX8_worked_88 ?_
          refine G_if_ne (tgt := 96) dX8_worked_89 (by decide) (fun hc4 => ?_) (fun hc4 => ?_)
          · replace h := (if_neg hc4).symm.trans h
            refine G_iconst (v := 0) dX8_worked_96 (by decide) ?_
            refine as_26 (kk := (v3 - 1).toNatClampNeg) (by decide) hb4 rfl dX8_worked_97 ?_
            refine G_goto (tgt := 135) dX8_worked_98 (by decide) ?_
            refine G_iinc (v := (v4 + 1)) (L2 := [(4, .inl (v4 + 1)), (5, .inl (M 20 0 v4.toNatClampNeg)), (0, .inr (.inr (19, 0))), (1, .inl v1), (2, .inl v2), (3, .inl v3)]) dX8_worked_135 rfl (by first | rfl | (show _ + Int32.ofInt _ = _; rfl)) (by decide) rfl ?_
            refine G_goto (tgt := 5) dX8_worked_138 (by decide) ?_
            refine G_sub [(0, .inr (.inr (19, 0))), (1, .inl v1), (2, .inl v2), (3, .inl v3), (4, .inl (v4 + 1))] [2, 3, 4, 5, 0] rfl ?_
            exact ih v1 v2 v3 (v4 + 1) (up3 M 26 0 ((v3 - 1).toNatClampNeg) 0) _  h K
          · replace h := (if_pos hc4).symm.trans h
            refine G_iconst (v := 1) dX8_worked_92 (by decide) ?_
            refine G_goto (tgt := 97) dX8_worked_93 (by decide) ?_
            refine as_26 (kk := (v3 - 1).toNatClampNeg) (by decide) hb4 rfl dX8_worked_97 ?_
            refine G_goto (tgt := 135) dX8_worked_98 (by decide) ?_
            refine G_iinc (v := (v4 + 1)) (L2 := [(4, .inl (v4 + 1)), (5, .inl (M 20 0 v4.toNatClampNeg)), (0, .inr (.inr (19, 0))), (1, .inl v1), (2, .inl v2), (3, .inl v3)]) dX8_worked_135 rfl (by first | rfl | (show _ + Int32.ofInt _ = _; rfl)) (by decide) rfl ?_
            refine G_goto (tgt := 5) dX8_worked_138 (by decide) ?_
            refine G_sub [(0, .inr (.inr (19, 0))), (1, .inl v1), (2, .inl v2), (3, .inl v3), (4, .inl (v4 + 1))] [2, 3, 4, 5, 0] rfl ?_
            exact ih v1 v2 v3 (v4 + 1) (up3 M 26 0 ((v3 - 1).toNatClampNeg) 1) _  h K
      · replace h := (if_pos hc2).symm.trans h
        refine G_aload_n dX8_worked_30 rfl ?_
        refine fg_X8_28 rfl (by decide) dX8_worked_31 ?_
        refine G_iload_n dX8_worked_34 rfl ?_
        refine G_iload dX8_worked_35 rfl ?_
        refine G_sipush (v := 10000) dX8_worked_37 (by decide) ?_
        refine G_icmp_ge (tgt := 48) dX8_worked_40 (by decide) (fun hc5 => ?_) (fun hc5 => ?_)
        · replace h := (if_neg hc5).symm.trans h
          refine G_aload_n dX8_worked_48 rfl ?_
          refine fg_X8_22 rfl (by decide) dX8_worked_49 ?_
          refine G_iload dX8_worked_52 rfl ?_
          refine G_sipush (v := 10000) dX8_worked_54 (by decide) ?_
          refine G_isub dX8_worked_57 ?_
          obtain ⟨hb5, h⟩ := chk h
          have lhb5 := ib_lt hb5
          refine al_24 (kk := ((M 20 0 v4.toNatClampNeg) - 10000).toNatClampNeg) (v := (M 24 0 (((M 20 0 v4.toNatClampNeg) - 10000).toNatClampNeg))) (by decide) hb5 rfl rfl dX8_worked_58 ?_
          obtain ⟨hb6, h⟩ := chk h
          have lhb6 := ib_lt hb6
          refine as_26 (kk := v3.toNatClampNeg) (by decide) hb6 rfl dX8_worked_59 ?_
          refine G_iinc (v := (v3 + 1)) (L2 := [(3, .inl (v3 + 1)), (5, .inl (M 20 0 v4.toNatClampNeg)), (0, .inr (.inr (19, 0))), (1, .inl v1), (2, .inl v2), (4, .inl v4)]) dX8_worked_60 rfl (by first | rfl | (show _ + Int32.ofInt _ = _; rfl)) (by decide) rfl ?_
          refine G_goto (tgt := 135) dX8_worked_63 (by decide) ?_
          refine G_iinc (v := (v4 + 1)) (L2 := [(4, .inl (v4 + 1)), (3, .inl (v3 + 1)), (5, .inl (M 20 0 v4.toNatClampNeg)), (0, .inr (.inr (19, 0))), (1, .inl v1), (2, .inl v2)]) dX8_worked_135 rfl (by first | rfl | (show _ + Int32.ofInt _ = _; rfl)) (by decide) rfl ?_
          refine G_goto (tgt := 5) dX8_worked_138 (by decide) ?_
          refine G_sub [(0, .inr (.inr (19, 0))), (1, .inl v1), (2, .inl v2), (3, .inl (v3 + 1)), (4, .inl (v4 + 1))] [3, 4, 5, 1, 0] rfl ?_
          exact ih v1 v2 (v3 + 1) (v4 + 1) (up3 M 26 0 v3.toNatClampNeg (M 24 0 (((M 20 0 v4.toNatClampNeg) - 10000).toNatClampNeg))) _  h K
        · replace h := (if_pos hc5).symm.trans h
          refine G_iload dX8_worked_43 rfl ?_
          refine G_goto (tgt := 59) dX8_worked_45 (by decide) ?_
          obtain ⟨hb7, h⟩ := chk h
          have lhb7 := ib_lt hb7
          refine as_26 (kk := v3.toNatClampNeg) (by decide) hb7 rfl dX8_worked_59 ?_
          refine G_iinc (v := (v3 + 1)) (L2 := [(3, .inl (v3 + 1)), (5, .inl (M 20 0 v4.toNatClampNeg)), (0, .inr (.inr (19, 0))), (1, .inl v1), (2, .inl v2), (4, .inl v4)]) dX8_worked_60 rfl (by first | rfl | (show _ + Int32.ofInt _ = _; rfl)) (by decide) rfl ?_
          refine G_goto (tgt := 135) dX8_worked_63 (by decide) ?_
          refine G_iinc (v := (v4 + 1)) (L2 := [(4, .inl (v4 + 1)), (3, .inl (v3 + 1)), (5, .inl (M 20 0 v4.toNatClampNeg)), (0, .inr (.inr (19, 0))), (1, .inl v1), (2, .inl v2)]) dX8_worked_135 rfl (by first | rfl | (show _ + Int32.ofInt _ = _; rfl)) (by decide) rfl ?_
          refine G_goto (tgt := 5) dX8_worked_138 (by decide) ?_
          refine G_sub [(0, .inr (.inr (19, 0))), (1, .inl v1), (2, .inl v2), (3, .inl (v3 + 1)), (4, .inl (v4 + 1))] [3, 4, 5, 1, 0] rfl ?_
          exact ih v1 v2 (v3 + 1) (v4 + 1) (up3 M 26 0 v3.toNatClampNeg (M 20 0 v4.toNatClampNeg)) _  h K

def X8_worked (v1 : Int32) (v2 : Int32) (M : Mem) : Option (Int32 × Mem) := ((X8_worked_L5 400 v1 v2 0 v1 M).bind fun q8 => (some ((q8 26 0 0), q8)))
set_option maxRecDepth 100000 in
set_option maxHeartbeats 4000000 in
theorem X8_worked_ok  {v1 : Int32} {v2 : Int32} {M N : Mem} {res : Int32 × Mem} (h : X8_worked v1 v2 M = some res) : Spec mt_X8_worked 1 [.inr (.inr (19, 0)), .inl v1, .inl v2] (N, M) (some (.inl res.1)) (N, res.2) := by
  unfold X8_worked at h
  refine Spec_of_G (by decide) rfl (Nat.le_of_ble_eq_true rfl) ?_
  refine G_sub [(0, .inr (.inr (19, 0))), (1, .inl v1), (2, .inl v2)] [0, 1, 2] rfl ?_
  refine G_iconst (v := 0) dX8_worked_0 (by decide) ?_
  refine G_istore_n (L2 := [(3, .inl 0), (0, .inr (.inr (19, 0))), (1, .inl v1), (2, .inl v2)]) dX8_worked_1 (by decide) rfl ?_
  refine G_iload_n dX8_worked_2 rfl ?_
  refine G_istore (L2 := [(4, .inl v1), (3, .inl 0), (0, .inr (.inr (19, 0))), (1, .inl v1), (2, .inl v2)]) dX8_worked_3 (by decide) rfl ?_
  refine G_sub [(0, .inr (.inr (19, 0))), (1, .inl v1), (2, .inl v2), (3, .inl 0), (4, .inl v1)] [2, 3, 4, 1, 0] rfl ?_
  obtain ⟨q8, hq8, h⟩ := bnd h
  refine X8_worked_L5_ok  400 v1 v2 0 v1 M _  hq8 ?_
  refine G_aload_n dX8_worked_141 rfl ?_
  refine fg_X8_28 rfl (by decide) dX8_worked_142 ?_
  refine G_iconst (v := 0) dX8_worked_145 (by decide) ?_
  refine al_26 (kk := 0) (v := (q8 26 0 0)) (by decide) (by decide) (by decide) rfl dX8_worked_146 ?_
  obtain rfl := Option.some.inj h
  exact G_ret dX8_worked_147 trivial rfl rfl

theorem dX8_held_0 : decode cX8_held 0 = .ok (.iload_n 0, 1) := by decide +kernel
theorem dX8_held_1 : decode cX8_held 1 = .ok (.iload_n 1, 1) := by decide +kernel
theorem dX8_held_2 : decode cX8_held 2 = .ok (.if_icmp .ge 7, 3) := by decide +kernel
theorem dX8_held_5 : decode cX8_held 5 = .ok (.iload_n 1, 1) := by decide +kernel
theorem dX8_held_6 : decode cX8_held 6 = .ok (.goto 13, 3) := by decide +kernel
theorem dX8_held_9 : decode cX8_held 9 = .ok (.iload_n 0, 1) := by decide +kernel
theorem dX8_held_10 : decode cX8_held 10 = .ok (.iload_n 2, 1) := by decide +kernel
theorem dX8_held_11 : decode cX8_held 11 = .ok (.if_icmp .le 7, 3) := by decide +kernel
theorem dX8_held_14 : decode cX8_held 14 = .ok (.iload_n 2, 1) := by decide +kernel
theorem dX8_held_15 : decode cX8_held 15 = .ok (.goto 4, 3) := by decide +kernel
theorem dX8_held_18 : decode cX8_held 18 = .ok (.iload_n 0, 1) := by decide +kernel
theorem dX8_held_19 : decode cX8_held 19 = .ok (.ireturn, 1) := by decide +kernel
def X8_held (v0 : Int32) (v1 : Int32) (v2 : Int32) : Int32 := (if v0 < v1 then v1 else (if v2 < v0 then v2 else v0))
set_option maxRecDepth 100000 in
set_option maxHeartbeats 4000000 in
theorem X8_held_ok  {v0 : Int32} {v1 : Int32} {v2 : Int32} {MM0 : MM} {res : Int32} (h : X8_held v0 v1 v2 = res) : Spec mt_X8_held 0 [.inl v0, .inl v1, .inl v2] MM0 (some (.inl res)) MM0 := by
  unfold X8_held at h
  refine Spec_of_G (by decide) rfl (Nat.le_of_ble_eq_true rfl) ?_
  refine G_sub [(0, .inl v0), (1, .inl v1), (2, .inl v2)] [0, 1, 2] rfl ?_
  refine G_iload_n dX8_held_0 rfl ?_
  refine G_iload_n dX8_held_1 rfl ?_
  refine G_icmp_ge (tgt := 9) dX8_held_2 (by decide) (fun hc1 => ?_) (fun hc1 => ?_)
  · replace h := (if_neg hc1).symm.trans h
    refine G_iload_n dX8_held_9 rfl ?_
    refine G_iload_n dX8_held_10 rfl ?_
    refine G_icmp_le (tgt := 18) dX8_held_11 (by decide) (fun hc2 => ?_) (fun hc2 => ?_)
    · replace h := (if_neg hc2).symm.trans h
      refine G_iload_n dX8_held_18 rfl ?_
      subst h
      exact G_ret dX8_held_19 trivial rfl rfl
    · replace h := (if_pos hc2).symm.trans h
      refine G_iload_n dX8_held_14 rfl ?_
      refine G_goto (tgt := 19) dX8_held_15 (by decide) ?_
      subst h
      exact G_ret dX8_held_19 trivial rfl rfl
  · replace h := (if_pos hc1).symm.trans h
    refine G_iload_n dX8_held_5 rfl ?_
    refine G_goto (tgt := 19) dX8_held_6 (by decide) ?_
    subst h
    exact G_ret dX8_held_19 trivial rfl rfl

theorem dX8_textGives_0 : decode cX8_textGives 0 = .ok (.iload_n 1, 1) := by decide +kernel
theorem dX8_textGives_1 : decode cX8_textGives 1 = .ok (.ifCond .ne 11, 3) := by decide +kernel
theorem dX8_textGives_4 : decode cX8_textGives 4 = .ok (.iload_n 2, 1) := by decide +kernel
theorem dX8_textGives_5 : decode cX8_textGives 5 = .ok (.iload_n 3, 1) := by decide +kernel
theorem dX8_textGives_6 : decode cX8_textGives 6 = .ok (.imul, 1) := by decide +kernel
theorem dX8_textGives_7 : decode cX8_textGives 7 = .ok (.iconst 5, 1) := by decide +kernel
theorem dX8_textGives_8 : decode cX8_textGives 8 = .ok (.idiv, 1) := by decide +kernel
theorem dX8_textGives_9 : decode cX8_textGives 9 = .ok (.goto 4, 3) := by decide +kernel
theorem dX8_textGives_12 : decode cX8_textGives 12 = .ok (.iconst 0, 1) := by decide +kernel
theorem dX8_textGives_13 : decode cX8_textGives 13 = .ok (.istore 5, 2) := by decide +kernel
theorem dX8_textGives_15 : decode cX8_textGives 15 = .ok (.aload_n 0, 1) := by decide +kernel
theorem dX8_textGives_16 : decode cX8_textGives 16 = .ok (.getfield 7, 3) := by decide +kernel
theorem dX8_textGives_19 : decode cX8_textGives 19 = .ok (.bipush 96, 2) := by decide +kernel
theorem dX8_textGives_21 : decode cX8_textGives 21 = .ok (.iload_n 1, 1) := by decide +kernel
theorem dX8_textGives_22 : decode cX8_textGives 22 = .ok (.iadd, 1) := by decide +kernel
theorem dX8_textGives_23 : decode cX8_textGives 23 = .ok (.iaload, 1) := by decide +kernel
theorem dX8_textGives_24 : decode cX8_textGives 24 = .ok (.ifCond .le 47, 3) := by decide +kernel
theorem dX8_textGives_27 : decode cX8_textGives 27 = .ok (.aload_n 0, 1) := by decide +kernel
theorem dX8_textGives_28 : decode cX8_textGives 28 = .ok (.getfield 22, 3) := by decide +kernel
theorem dX8_textGives_31 : decode cX8_textGives 31 = .ok (.iconst 0, 1) := by decide +kernel
theorem dX8_textGives_32 : decode cX8_textGives 32 = .ok (.iload_n 2, 1) := by decide +kernel
theorem dX8_textGives_33 : decode cX8_textGives 33 = .ok (.iastore, 1) := by decide +kernel
theorem dX8_textGives_34 : decode cX8_textGives 34 = .ok (.aload_n 0, 1) := by decide +kernel
theorem dX8_textGives_35 : decode cX8_textGives 35 = .ok (.getfield 22, 3) := by decide +kernel
theorem dX8_textGives_38 : decode cX8_textGives 38 = .ok (.iconst 1, 1) := by decide +kernel
theorem dX8_textGives_39 : decode cX8_textGives 39 = .ok (.iload_n 3, 1) := by decide +kernel
theorem dX8_textGives_40 : decode cX8_textGives 40 = .ok (.iastore, 1) := by decide +kernel
theorem dX8_textGives_41 : decode cX8_textGives 41 = .ok (.aload_n 0, 1) := by decide +kernel
theorem dX8_textGives_42 : decode cX8_textGives 42 = .ok (.getfield 22, 3) := by decide +kernel
theorem dX8_textGives_45 : decode cX8_textGives 45 = .ok (.iconst 2, 1) := by decide +kernel
theorem dX8_textGives_46 : decode cX8_textGives 46 = .ok (.iload 4, 2) := by decide +kernel
theorem dX8_textGives_48 : decode cX8_textGives 48 = .ok (.iastore, 1) := by decide +kernel
theorem dX8_textGives_49 : decode cX8_textGives 49 = .ok (.aload_n 0, 1) := by decide +kernel
theorem dX8_textGives_50 : decode cX8_textGives 50 = .ok (.bipush 118, 2) := by decide +kernel
theorem dX8_textGives_52 : decode cX8_textGives 52 = .ok (.bipush 50, 2) := by decide +kernel
theorem dX8_textGives_54 : decode cX8_textGives 54 = .ok (.iload_n 1, 1) := by decide +kernel
theorem dX8_textGives_55 : decode cX8_textGives 55 = .ok (.imul, 1) := by decide +kernel
theorem dX8_textGives_56 : decode cX8_textGives 56 = .ok (.iadd, 1) := by decide +kernel
theorem dX8_textGives_57 : decode cX8_textGives 57 = .ok (.aload_n 0, 1) := by decide +kernel
theorem dX8_textGives_58 : decode cX8_textGives 58 = .ok (.getfield 7, 3) := by decide +kernel
theorem dX8_textGives_61 : decode cX8_textGives 61 = .ok (.bipush 96, 2) := by decide +kernel
theorem dX8_textGives_63 : decode cX8_textGives 63 = .ok (.iload_n 1, 1) := by decide +kernel
theorem dX8_textGives_64 : decode cX8_textGives 64 = .ok (.iadd, 1) := by decide +kernel
theorem dX8_textGives_65 : decode cX8_textGives 65 = .ok (.iaload, 1) := by decide +kernel
theorem dX8_textGives_66 : decode cX8_textGives 66 = .ok (.invokevirtual 139, 3) := by decide +kernel
theorem dX8_textGives_69 : decode cX8_textGives 69 = .ok (.istore 5, 2) := by decide +kernel
theorem dX8_textGives_71 : decode cX8_textGives 71 = .ok (.iload 5, 2) := by decide +kernel
theorem dX8_textGives_73 : decode cX8_textGives 73 = .ok (.iconst 0, 1) := by decide +kernel
theorem dX8_textGives_74 : decode cX8_textGives 74 = .ok (.bipush 99, 2) := by decide +kernel
theorem dX8_textGives_76 : decode cX8_textGives 76 = .ok (.invokestatic 142, 3) := by decide +kernel
theorem dX8_textGives_79 : decode cX8_textGives 79 = .ok (.ireturn, 1) := by decide +kernel
def X8_textGives_J13 (v1 : Int32) (v2 : Int32) (v3 : Int32) (v4 : Int32) (s0 : Int32) (M : Mem) : Option (Int32 × Mem) := (if ib (96 + v1) 268 = true then (if 0 < (M 20 0 ((96 + v1).toNatClampNeg)) then ((X8_worked (118 + (50 * v1)) (M 20 0 ((96 + v1).toNatClampNeg)) (up3 (up3 (up3 M 24 0 0 v2) 24 0 1 v3) 24 0 2 v4)).bind fun q2 => (some ((X8_held q2.1 0 99), q2.2))) else (some ((X8_held s0 0 99), M))) else none)
set_option maxRecDepth 100000 in
set_option maxHeartbeats 4000000 in
theorem X8_textGives_J13_ok  {v1 : Int32} {v2 : Int32} {v3 : Int32} {v4 : Int32} {s0 : Int32} {M N : Mem} {res : Int32 × Mem} (h : X8_textGives_J13 v1 v2 v3 v4 s0 M = some res) : G mt_X8_textGives 2 (some (.inl res.1)) (N, res.2) 13 [(0, .inr (.inr (19, 0))), (1, .inl v1), (2, .inl v2), (3, .inl v3), (4, .inl v4)] [.inl s0] (N, M) := by
  unfold X8_textGives_J13 at h
  refine G_istore (L2 := [(5, .inl s0), (0, .inr (.inr (19, 0))), (1, .inl v1), (2, .inl v2), (3, .inl v3), (4, .inl v4)]) dX8_textGives_13 (by decide) rfl ?_
  refine G_aload_n dX8_textGives_15 rfl ?_
  refine fg_X8_7 rfl (by decide) dX8_textGives_16 ?_
  refine G_bipush (v := 96) dX8_textGives_19 (by decide) ?_
  refine G_iload_n dX8_textGives_21 rfl ?_
  refine G_iadd dX8_textGives_22 ?_
  obtain ⟨hb1, h⟩ := chk h
  have lhb1 := ib_lt hb1
  refine al_20 (kk := (96 + v1).toNatClampNeg) (v := (M 20 0 ((96 + v1).toNatClampNeg))) (by decide) hb1 rfl rfl dX8_textGives_23 ?_
  refine G_if_le (tgt := 71) dX8_textGives_24 (by decide) (fun hc2 => ?_) (fun hc2 => ?_)
  · replace h := (if_neg hc2).symm.trans h
    refine G_iload dX8_textGives_71 rfl ?_
    refine G_iconst (v := 0) dX8_textGives_73 (by decide) ?_
    refine G_bipush (v := 99) dX8_textGives_74 (by decide) ?_
    refine G_callSv  (X8_held_ok rfl) ok_X8_held ml_X8_142 (by decide) rfl rfl (Nat.le_of_ble_eq_true rfl) dX8_textGives_76 ?_
    obtain rfl := Option.some.inj h
    exact G_ret dX8_textGives_79 trivial rfl rfl
  · replace h := (if_pos hc2).symm.trans h
    refine G_aload_n dX8_textGives_27 rfl ?_
    refine fg_X8_22 rfl (by decide) dX8_textGives_28 ?_
    refine G_iconst (v := 0) dX8_textGives_31 (by decide) ?_
    refine G_iload_n dX8_textGives_32 rfl ?_
    refine as_24 (kk := 0) (by decide) (by decide) (by decide) dX8_textGives_33 ?_
    refine G_aload_n dX8_textGives_34 rfl ?_
    refine fg_X8_22 rfl (by decide) dX8_textGives_35 ?_
    refine G_iconst (v := 1) dX8_textGives_38 (by decide) ?_
    refine G_iload_n dX8_textGives_39 rfl ?_
    refine as_24 (kk := 1) (by decide) (by decide) (by decide) dX8_textGives_40 ?_
    refine G_aload_n dX8_textGives_41 rfl ?_
    refine fg_X8_22 rfl (by decide) dX8_textGives_42 ?_
    refine G_iconst (v := 2) dX8_textGives_45 (by decide) ?_
    refine G_iload dX8_textGives_46 rfl ?_
    refine as_24 (kk := 2) (by decide) (by decide) (by decide) dX8_textGives_48 ?_
    refine G_aload_n dX8_textGives_49 rfl ?_
    refine G_bipush (v := 118) dX8_textGives_50 (by decide) ?_
    refine G_bipush (v := 50) dX8_textGives_52 (by decide) ?_
    refine G_iload_n dX8_textGives_54 rfl ?_
    refine G_imul dX8_textGives_55 ?_
    refine G_iadd dX8_textGives_56 ?_
    refine G_aload_n dX8_textGives_57 rfl ?_
    refine fg_X8_7 rfl (by decide) dX8_textGives_58 ?_
    refine G_bipush (v := 96) dX8_textGives_61 (by decide) ?_
    refine G_iload_n dX8_textGives_63 rfl ?_
    refine G_iadd dX8_textGives_64 ?_
    refine al_20 (kk := (96 + v1).toNatClampNeg) (v := (M 20 0 ((96 + v1).toNatClampNeg))) (by decide) hb1 rfl ((up3_f (by decide)).trans ((up3_f (by decide)).trans (up3_f (by decide)))) dX8_textGives_65 ?_
    obtain ⟨q2, hq2, h⟩ := bnd h
    refine G_callVv (T := TX8) (N := 22) (f := 19) (i := 0) (X8_worked_ok hq2) ok_X8_worked ml_X8_139 (by decide) rfl (by decide) (by decide) (by decide) rfl rfl (Nat.le_of_ble_eq_true rfl) dX8_textGives_66 ?_
    refine G_istore (L2 := [(5, .inl q2.1), (0, .inr (.inr (19, 0))), (1, .inl v1), (2, .inl v2), (3, .inl v3), (4, .inl v4)]) dX8_textGives_69 (by decide) rfl ?_
    refine G_iload dX8_textGives_71 rfl ?_
    refine G_iconst (v := 0) dX8_textGives_73 (by decide) ?_
    refine G_bipush (v := 99) dX8_textGives_74 (by decide) ?_
    refine G_callSv  (X8_held_ok rfl) ok_X8_held ml_X8_142 (by decide) rfl rfl (Nat.le_of_ble_eq_true rfl) dX8_textGives_76 ?_
    obtain rfl := Option.some.inj h
    exact G_ret dX8_textGives_79 trivial rfl rfl

def X8_textGives (v1 : Int32) (v2 : Int32) (v3 : Int32) (v4 : Int32) (M : Mem) : Option (Int32 × Mem) := (if v1 = 0 then (X8_textGives_J13 v1 v2 v3 v4 ((v2 * v3) / 5) M) else (X8_textGives_J13 v1 v2 v3 v4 0 M))
set_option maxRecDepth 100000 in
set_option maxHeartbeats 4000000 in
theorem X8_textGives_ok  {v1 : Int32} {v2 : Int32} {v3 : Int32} {v4 : Int32} {M N : Mem} {res : Int32 × Mem} (h : X8_textGives v1 v2 v3 v4 M = some res) : Spec mt_X8_textGives 2 [.inr (.inr (19, 0)), .inl v1, .inl v2, .inl v3, .inl v4] (N, M) (some (.inl res.1)) (N, res.2) := by
  unfold X8_textGives at h
  refine Spec_of_G (by decide) rfl (Nat.le_of_ble_eq_true rfl) ?_
  refine G_sub [(0, .inr (.inr (19, 0))), (1, .inl v1), (2, .inl v2), (3, .inl v3), (4, .inl v4)] [0, 1, 2, 3, 4] rfl ?_
  refine G_iload_n dX8_textGives_0 rfl ?_
  refine G_if_ne (tgt := 12) dX8_textGives_1 (by decide) (fun hc1 => ?_) (fun hc1 => ?_)
  · replace h := (if_neg hc1).symm.trans h
    refine G_iconst (v := 0) dX8_textGives_12 (by decide) ?_
    exact X8_textGives_J13_ok   h
  · replace h := (if_pos hc1).symm.trans h
    refine G_iload_n dX8_textGives_4 rfl ?_
    refine G_iload_n dX8_textGives_5 rfl ?_
    refine G_imul dX8_textGives_6 ?_
    refine G_iconst (v := 5) dX8_textGives_7 (by decide) ?_
    refine G_idiv (by decide) dX8_textGives_8 ?_
    refine G_goto (tgt := 13) dX8_textGives_9 (by decide) ?_
    exact X8_textGives_J13_ok   h

theorem dX8_law_0 : decode cX8_law 0 = .ok (.iload_n 1, 1) := by decide +kernel
theorem dX8_law_1 : decode cX8_law 1 = .ok (.i2l, 1) := by decide +kernel
theorem dX8_law_2 : decode cX8_law 2 = .ok (.lconst 0, 1) := by decide +kernel
theorem dX8_law_3 : decode cX8_law 3 = .ok (.lconst 1, 1) := by decide +kernel
theorem dX8_law_4 : decode cX8_law 4 = .ok (.invokestatic 47, 3) := by decide +kernel
theorem dX8_law_7 : decode cX8_law 7 = .ok (.ifCond .eq 15, 3) := by decide +kernel
theorem dX8_law_10 : decode cX8_law 10 = .ok (.aload_n 0, 1) := by decide +kernel
theorem dX8_law_11 : decode cX8_law 11 = .ok (.iload_n 1, 1) := by decide +kernel
theorem dX8_law_12 : decode cX8_law 12 = .ok (.iload_n 2, 1) := by decide +kernel
theorem dX8_law_13 : decode cX8_law 13 = .ok (.iload_n 3, 1) := by decide +kernel
theorem dX8_law_14 : decode cX8_law 14 = .ok (.iload 4, 2) := by decide +kernel
theorem dX8_law_16 : decode cX8_law 16 = .ok (.invokevirtual 145, 3) := by decide +kernel
theorem dX8_law_19 : decode cX8_law 19 = .ok (.goto 8, 3) := by decide +kernel
theorem dX8_law_22 : decode cX8_law 22 = .ok (.aload_n 0, 1) := by decide +kernel
theorem dX8_law_23 : decode cX8_law 23 = .ok (.iconst 1, 1) := by decide +kernel
theorem dX8_law_24 : decode cX8_law 24 = .ok (.invokevirtual 130, 3) := by decide +kernel
theorem dX8_law_27 : decode cX8_law 27 = .ok (.ireturn, 1) := by decide +kernel
def X8_law (v1 : Int32) (v2 : Int32) (v3 : Int32) (v4 : Int32) (M : Mem) : Option (Int32 × Mem) := (if (X8_in (v1.toInt64) (0 : Int64) (1 : Int64)) = 0 then ((X8_finds 1 M).bind fun q1 => (some (q1.1, q1.2))) else ((X8_textGives v1 v2 v3 v4 M).bind fun q2 => (some (q2.1, q2.2))))
set_option maxRecDepth 100000 in
set_option maxHeartbeats 4000000 in
theorem X8_law_ok  {v1 : Int32} {v2 : Int32} {v3 : Int32} {v4 : Int32} {M N : Mem} {res : Int32 × Mem} (h : X8_law v1 v2 v3 v4 M = some res) : Spec mt_X8_law 3 [.inr (.inr (19, 0)), .inl v1, .inl v2, .inl v3, .inl v4] (N, M) (some (.inl res.1)) (N, res.2) := by
  unfold X8_law at h
  refine Spec_of_G (by decide) rfl (Nat.le_of_ble_eq_true rfl) ?_
  refine G_sub [(0, .inr (.inr (19, 0))), (1, .inl v1), (2, .inl v2), (3, .inl v3), (4, .inl v4)] [0, 1, 2, 3, 4] rfl ?_
  refine G_iload_n dX8_law_0 rfl ?_
  refine G_i2l dX8_law_1 ?_
  refine G_lconst (v := 0) dX8_law_2 (by decide) ?_
  refine G_lconst (v := 1) dX8_law_3 (by decide) ?_
  refine G_callSv  (X8_in_ok rfl) ok_X8_in ml_X8_47 (by decide) rfl rfl (Nat.le_of_ble_eq_true rfl) dX8_law_4 ?_
  refine G_if_eq (tgt := 22) dX8_law_7 (by decide) (fun hc1 => ?_) (fun hc1 => ?_)
  · replace h := (if_pos hc1).symm.trans h
    refine G_aload_n dX8_law_22 rfl ?_
    refine G_iconst (v := 1) dX8_law_23 (by decide) ?_
    obtain ⟨q1, hq1, h⟩ := bnd h
    refine G_callVv (T := TX8) (N := 22) (f := 19) (i := 0) (X8_finds_ok hq1) ok_X8_finds ml_X8_130 (by decide) rfl (by decide) (by decide) (by decide) rfl rfl (Nat.le_of_ble_eq_true rfl) dX8_law_24 ?_
    obtain rfl := Option.some.inj h
    exact G_ret dX8_law_27 trivial rfl rfl
  · replace h := (if_neg hc1).symm.trans h
    refine G_aload_n dX8_law_10 rfl ?_
    refine G_iload_n dX8_law_11 rfl ?_
    refine G_iload_n dX8_law_12 rfl ?_
    refine G_iload_n dX8_law_13 rfl ?_
    refine G_iload dX8_law_14 rfl ?_
    obtain ⟨q2, hq2, h⟩ := bnd h
    refine G_callVv (T := TX8) (N := 22) (f := 19) (i := 0) (X8_textGives_ok hq2) ok_X8_textGives ml_X8_145 (by decide) rfl (by decide) (by decide) (by decide) rfl rfl (Nat.le_of_ble_eq_true rfl) dX8_law_16 ?_
    refine G_goto (tgt := 27) dX8_law_19 (by decide) ?_
    obtain rfl := Option.some.inj h
    exact G_ret dX8_law_27 trivial rfl rfl

theorem dX8_isHouse_0 : decode cX8_isHouse 0 = .ok (.iload_n 0, 1) := by decide +kernel
theorem dX8_isHouse_1 : decode cX8_isHouse 1 = .ok (.i2l, 1) := by decide +kernel
theorem dX8_isHouse_2 : decode cX8_isHouse 2 = .ok (.lconst 0, 1) := by decide +kernel
theorem dX8_isHouse_3 : decode cX8_isHouse 3 = .ok (.ldc2_w 51, 3) := by decide +kernel
theorem dX8_isHouse_6 : decode cX8_isHouse 6 = .ok (.invokestatic 47, 3) := by decide +kernel
theorem dX8_isHouse_9 : decode cX8_isHouse 9 = .ok (.ireturn, 1) := by decide +kernel
def X8_isHouse (v0 : Int32) : Int32 := (X8_in (v0.toInt64) (0 : Int64) (4 : Int64))
set_option maxRecDepth 100000 in
set_option maxHeartbeats 4000000 in
theorem X8_isHouse_ok  {v0 : Int32} {MM0 : MM} {res : Int32} (h : X8_isHouse v0 = res) : Spec mt_X8_isHouse 1 [.inl v0] MM0 (some (.inl res)) MM0 := by
  unfold X8_isHouse at h
  refine Spec_of_G (by decide) rfl (Nat.le_of_ble_eq_true rfl) ?_
  refine G_sub [(0, .inl v0)] [0] rfl ?_
  refine G_iload_n dX8_isHouse_0 rfl ?_
  refine G_i2l dX8_isHouse_1 ?_
  refine G_lconst (v := 0) dX8_isHouse_2 (by decide) ?_
  refine G_ldc2 ko_X8_51 dX8_isHouse_3 ?_
  refine G_callSv  (X8_in_ok rfl) ok_X8_in ml_X8_47 (by decide) rfl rfl (Nat.le_of_ble_eq_true rfl) dX8_isHouse_6 ?_
  subst h
  exact G_ret dX8_isHouse_9 (X8_in_z ..) rfl rfl
theorem X8_isHouse_z {v0 : Int32} : X8_isHouse v0 = 0 ∨ X8_isHouse v0 = 1 := by
  unfold X8_isHouse
  (repeat' split) <;> first | exact Or.inl rfl | exact Or.inr rfl | exact X8_in_z

theorem dX8_house_0 : decode cX8_house 0 = .ok (.iload_n 1, 1) := by decide +kernel
theorem dX8_house_1 : decode cX8_house 1 = .ok (.invokestatic 170, 3) := by decide +kernel
theorem dX8_house_4 : decode cX8_house 4 = .ok (.ifCond .eq 25, 3) := by decide +kernel
theorem dX8_house_7 : decode cX8_house 7 = .ok (.iload_n 2, 1) := by decide +kernel
theorem dX8_house_8 : decode cX8_house 8 = .ok (.i2l, 1) := by decide +kernel
theorem dX8_house_9 : decode cX8_house 9 = .ok (.lconst 0, 1) := by decide +kernel
theorem dX8_house_10 : decode cX8_house 10 = .ok (.lconst 1, 1) := by decide +kernel
theorem dX8_house_11 : decode cX8_house 11 = .ok (.invokestatic 47, 3) := by decide +kernel
theorem dX8_house_14 : decode cX8_house 14 = .ok (.ifCond .eq 15, 3) := by decide +kernel
theorem dX8_house_17 : decode cX8_house 17 = .ok (.iload_n 3, 1) := by decide +kernel
theorem dX8_house_18 : decode cX8_house 18 = .ok (.i2l, 1) := by decide +kernel
theorem dX8_house_19 : decode cX8_house 19 = .ok (.lconst 0, 1) := by decide +kernel
theorem dX8_house_20 : decode cX8_house 20 = .ok (.ldc2_w 173, 3) := by decide +kernel
theorem dX8_house_23 : decode cX8_house 23 = .ok (.invokestatic 47, 3) := by decide +kernel
theorem dX8_house_26 : decode cX8_house 26 = .ok (.ifCond .ne 9, 3) := by decide +kernel
theorem dX8_house_29 : decode cX8_house 29 = .ok (.aload_n 0, 1) := by decide +kernel
theorem dX8_house_30 : decode cX8_house 30 = .ok (.iconst 1, 1) := by decide +kernel
theorem dX8_house_31 : decode cX8_house 31 = .ok (.invokevirtual 130, 3) := by decide +kernel
theorem dX8_house_34 : decode cX8_house 34 = .ok (.ireturn, 1) := by decide +kernel
theorem dX8_house_35 : decode cX8_house 35 = .ok (.aload_n 0, 1) := by decide +kernel
theorem dX8_house_36 : decode cX8_house 36 = .ok (.getfield 7, 3) := by decide +kernel
theorem dX8_house_39 : decode cX8_house 39 = .ok (.bipush 6, 2) := by decide +kernel
theorem dX8_house_41 : decode cX8_house 41 = .ok (.iconst 2, 1) := by decide +kernel
theorem dX8_house_42 : decode cX8_house 42 = .ok (.iload_n 1, 1) := by decide +kernel
theorem dX8_house_43 : decode cX8_house 43 = .ok (.imul, 1) := by decide +kernel
theorem dX8_house_44 : decode cX8_house 44 = .ok (.iadd, 1) := by decide +kernel
theorem dX8_house_45 : decode cX8_house 45 = .ok (.iload_n 2, 1) := by decide +kernel
theorem dX8_house_46 : decode cX8_house 46 = .ok (.iadd, 1) := by decide +kernel
theorem dX8_house_47 : decode cX8_house 47 = .ok (.iaload, 1) := by decide +kernel
theorem dX8_house_48 : decode cX8_house 48 = .ok (.istore 4, 2) := by decide +kernel
theorem dX8_house_50 : decode cX8_house 50 = .ok (.aload_n 0, 1) := by decide +kernel
theorem dX8_house_51 : decode cX8_house 51 = .ok (.getfield 7, 3) := by decide +kernel
theorem dX8_house_54 : decode cX8_house 54 = .ok (.bipush 6, 2) := by decide +kernel
theorem dX8_house_56 : decode cX8_house 56 = .ok (.iconst 2, 1) := by decide +kernel
theorem dX8_house_57 : decode cX8_house 57 = .ok (.iload_n 1, 1) := by decide +kernel
theorem dX8_house_58 : decode cX8_house 58 = .ok (.imul, 1) := by decide +kernel
theorem dX8_house_59 : decode cX8_house 59 = .ok (.iadd, 1) := by decide +kernel
theorem dX8_house_60 : decode cX8_house 60 = .ok (.iload_n 2, 1) := by decide +kernel
theorem dX8_house_61 : decode cX8_house 61 = .ok (.iadd, 1) := by decide +kernel
theorem dX8_house_62 : decode cX8_house 62 = .ok (.iload_n 3, 1) := by decide +kernel
theorem dX8_house_63 : decode cX8_house 63 = .ok (.iastore, 1) := by decide +kernel
theorem dX8_house_64 : decode cX8_house 64 = .ok (.iload 4, 2) := by decide +kernel
theorem dX8_house_66 : decode cX8_house 66 = .ok (.ireturn, 1) := by decide +kernel
def X8_house (v1 : Int32) (v2 : Int32) (v3 : Int32) (M : Mem) : Option (Int32 × Mem) := (if (X8_isHouse v1) = 0 then ((X8_finds 1 M).bind fun q1 => (some (q1.1, q1.2))) else (if (X8_in (v2.toInt64) (0 : Int64) (1 : Int64)) = 0 then ((X8_finds 1 M).bind fun q2 => (some (q2.1, q2.2))) else (if (X8_in (v3.toInt64) (0 : Int64) (9 : Int64)) = 0 then ((X8_finds 1 M).bind fun q4 => (some (q4.1, q4.2))) else (if ib ((6 + (2 * v1)) + v2) 268 = true then (some ((M 20 0 (((6 + (2 * v1)) + v2).toNatClampNeg)), (up3 M 20 0 (((6 + (2 * v1)) + v2).toNatClampNeg) v3))) else none))))
set_option maxRecDepth 100000 in
set_option maxHeartbeats 4000000 in
theorem X8_house_ok  {v1 : Int32} {v2 : Int32} {v3 : Int32} {M N : Mem} {res : Int32 × Mem} (h : X8_house v1 v2 v3 M = some res) : Spec mt_X8_house 2 [.inr (.inr (19, 0)), .inl v1, .inl v2, .inl v3] (N, M) (some (.inl res.1)) (N, res.2) := by
  unfold X8_house at h
  refine Spec_of_G (by decide) rfl (Nat.le_of_ble_eq_true rfl) ?_
  refine G_sub [(0, .inr (.inr (19, 0))), (1, .inl v1), (2, .inl v2), (3, .inl v3)] [0, 1, 2, 3] rfl ?_
  refine G_iload_n dX8_house_0 rfl ?_
  refine G_callSv  (X8_isHouse_ok rfl) ok_X8_isHouse ml_X8_170 (by decide) rfl rfl (Nat.le_of_ble_eq_true rfl) dX8_house_1 ?_
  refine G_if_eq (tgt := 29) dX8_house_4 (by decide) (fun hc1 => ?_) (fun hc1 => ?_)
  · replace h := (if_pos hc1).symm.trans h
    refine G_aload_n dX8_house_29 rfl ?_
    refine G_iconst (v := 1) dX8_house_30 (by decide) ?_
    obtain ⟨q1, hq1, h⟩ := bnd h
    refine G_callVv (T := TX8) (N := 22) (f := 19) (i := 0) (X8_finds_ok hq1) ok_X8_finds ml_X8_130 (by decide) rfl (by decide) (by decide) (by decide) rfl rfl (Nat.le_of_ble_eq_true rfl) dX8_house_31 ?_
    obtain rfl := Option.some.inj h
    exact G_ret dX8_house_34 trivial rfl rfl
  · replace h := (if_neg hc1).symm.trans h
    refine G_iload_n dX8_house_7 rfl ?_
    refine G_i2l dX8_house_8 ?_
    refine G_lconst (v := 0) dX8_house_9 (by decide) ?_
    refine G_lconst (v := 1) dX8_house_10 (by decide) ?_
    refine G_callSv  (X8_in_ok rfl) ok_X8_in ml_X8_47 (by decide) rfl rfl (Nat.le_of_ble_eq_true rfl) dX8_house_11 ?_
    refine G_if_eq (tgt := 29) dX8_house_14 (by decide) (fun hc2 => ?_) (fun hc2 => ?_)
    · replace h := (if_pos hc2).symm.trans h
      refine G_aload_n dX8_house_29 rfl ?_
      refine G_iconst (v := 1) dX8_house_30 (by decide) ?_
      obtain ⟨q2, hq2, h⟩ := bnd h
      refine G_callVv (T := TX8) (N := 22) (f := 19) (i := 0) (X8_finds_ok hq2) ok_X8_finds ml_X8_130 (by decide) rfl (by decide) (by decide) (by decide) rfl rfl (Nat.le_of_ble_eq_true rfl) dX8_house_31 ?_
      obtain rfl := Option.some.inj h
      exact G_ret dX8_house_34 trivial rfl rfl
    · replace h := (if_neg hc2).symm.trans h
      refine G_iload_n dX8_house_17 rfl ?_
      refine G_i2l dX8_house_18 ?_
      refine G_lconst (v := 0) dX8_house_19 (by decide) ?_
      refine G_ldc2 ko_X8_173 dX8_house_20 ?_
      refine G_callSv  (X8_in_ok rfl) ok_X8_in ml_X8_47 (by decide) rfl rfl (Nat.le_of_ble_eq_true rfl) dX8_house_23 ?_
      refine G_if_ne (tgt := 35) dX8_house_26 (by decide) (fun hc3 => ?_) (fun hc3 => ?_)
      · replace h := (if_neg hc3).symm.trans h
        refine G_aload_n dX8_house_35 rfl ?_
        refine fg_X8_7 rfl (by decide) dX8_house_36 ?_
        refine G_bipush (v := 6) dX8_house_39 (by decide) ?_
        refine G_iconst (v := 2) dX8_house_41 (by decide) ?_
        refine G_iload_n dX8_house_42 rfl ?_
        refine G_imul dX8_house_43 ?_
        refine G_iadd dX8_house_44 ?_
        refine G_iload_n dX8_house_45 rfl ?_
        refine G_iadd dX8_house_46 ?_
        obtain ⟨hb3, h⟩ := chk h
        have lhb3 := ib_lt hb3
        refine al_20 (kk := ((6 + (2 * v1)) + v2).toNatClampNeg) (v := (M 20 0 (((6 + (2 * v1)) + v2).toNatClampNeg))) (by decide) hb3 rfl rfl dX8_house_47 ?_
        refine G_istore (L2 := [(4, .inl (M 20 0 (((6 + (2 * v1)) + v2).toNatClampNeg))), (0, .inr (.inr (19, 0))), (1, .inl v1), (2, .inl v2), (3, .inl v3)]) dX8_house_48 (by decide) rfl ?_
        refine G_aload_n dX8_house_50 rfl ?_
        refine fg_X8_7 rfl (by decide) dX8_house_51 ?_
        refine G_bipush (v := 6) dX8_house_54 (by decide) ?_
        refine G_iconst (v := 2) dX8_house_56 (by decide) ?_
        refine G_iload_n dX8_house_57 rfl ?_
        refine G_imul dX8_house_58 ?_
        refine G_iadd dX8_house_59 ?_
        refine G_iload_n dX8_house_60 rfl ?_
        refine G_iadd dX8_house_61 ?_
        refine G_iload_n dX8_house_62 rfl ?_
        refine as_20 (kk := ((6 + (2 * v1)) + v2).toNatClampNeg) (by decide) hb3 rfl dX8_house_63 ?_
        refine G_iload dX8_house_64 rfl ?_
        obtain rfl := Option.some.inj h
        exact G_ret dX8_house_66 trivial rfl rfl
      · replace h := (if_pos hc3).symm.trans h
        refine G_aload_n dX8_house_29 rfl ?_
        refine G_iconst (v := 1) dX8_house_30 (by decide) ?_
        obtain ⟨q4, hq4, h⟩ := bnd h
        refine G_callVv (T := TX8) (N := 22) (f := 19) (i := 0) (X8_finds_ok hq4) ok_X8_finds ml_X8_130 (by decide) rfl (by decide) (by decide) (by decide) rfl rfl (Nat.le_of_ble_eq_true rfl) dX8_house_31 ?_
        obtain rfl := Option.some.inj h
        exact G_ret dX8_house_34 trivial rfl rfl

theorem dX8_of_0 : decode cX8_of 0 = .ok (.aload_n 0, 1) := by decide +kernel
theorem dX8_of_1 : decode cX8_of 1 = .ok (.getfield 7, 3) := by decide +kernel
theorem dX8_of_4 : decode cX8_of 4 = .ok (.bipush 16, 2) := by decide +kernel
theorem dX8_of_6 : decode cX8_of 6 = .ok (.bipush 8, 2) := by decide +kernel
theorem dX8_of_8 : decode cX8_of 8 = .ok (.iload_n 1, 1) := by decide +kernel
theorem dX8_of_9 : decode cX8_of 9 = .ok (.imul, 1) := by decide +kernel
theorem dX8_of_10 : decode cX8_of 10 = .ok (.iadd, 1) := by decide +kernel
theorem dX8_of_11 : decode cX8_of 11 = .ok (.iload_n 2, 1) := by decide +kernel
theorem dX8_of_12 : decode cX8_of 12 = .ok (.iadd, 1) := by decide +kernel
theorem dX8_of_13 : decode cX8_of 13 = .ok (.iaload, 1) := by decide +kernel
theorem dX8_of_14 : decode cX8_of 14 = .ok (.ireturn, 1) := by decide +kernel
def X8_of (v1 : Int32) (v2 : Int32) (M : Mem) : Option (Int32) := (if ib ((16 + (8 * v1)) + v2) 268 = true then (some (M 20 0 (((16 + (8 * v1)) + v2).toNatClampNeg))) else none)
set_option maxRecDepth 100000 in
set_option maxHeartbeats 4000000 in
theorem X8_of_ok  {v1 : Int32} {v2 : Int32} {M N : Mem} {res : Int32} (h : X8_of v1 v2 M = some res) : Spec mt_X8_of 0 [.inr (.inr (19, 0)), .inl v1, .inl v2] (N, M) (some (.inl res)) (N, M) := by
  unfold X8_of at h
  refine Spec_of_G (by decide) rfl (Nat.le_of_ble_eq_true rfl) ?_
  refine G_sub [(0, .inr (.inr (19, 0))), (1, .inl v1), (2, .inl v2)] [0, 1, 2] rfl ?_
  refine G_aload_n dX8_of_0 rfl ?_
  refine fg_X8_7 rfl (by decide) dX8_of_1 ?_
  refine G_bipush (v := 16) dX8_of_4 (by decide) ?_
  refine G_bipush (v := 8) dX8_of_6 (by decide) ?_
  refine G_iload_n dX8_of_8 rfl ?_
  refine G_imul dX8_of_9 ?_
  refine G_iadd dX8_of_10 ?_
  refine G_iload_n dX8_of_11 rfl ?_
  refine G_iadd dX8_of_12 ?_
  obtain ⟨hb1, h⟩ := chk h
  have lhb1 := ib_lt hb1
  refine al_20 (kk := ((16 + (8 * v1)) + v2).toNatClampNeg) (v := (M 20 0 (((16 + (8 * v1)) + v2).toNatClampNeg))) (by decide) hb1 rfl rfl dX8_of_13 ?_
  obtain rfl := Option.some.inj h
  exact G_ret dX8_of_14 trivial rfl rfl

theorem dX8_isBroken_0 : decode cX8_isBroken 0 = .ok (.aload_n 0, 1) := by decide +kernel
theorem dX8_isBroken_1 : decode cX8_isBroken 1 = .ok (.iload_n 1, 1) := by decide +kernel
theorem dX8_isBroken_2 : decode cX8_isBroken 2 = .ok (.iconst 2, 1) := by decide +kernel
theorem dX8_isBroken_3 : decode cX8_isBroken 3 = .ok (.invokevirtual 53, 3) := by decide +kernel
theorem dX8_isBroken_6 : decode cX8_isBroken 6 = .ok (.ifCond .ge 7, 3) := by decide +kernel
theorem dX8_isBroken_9 : decode cX8_isBroken 9 = .ok (.iconst 1, 1) := by decide +kernel
theorem dX8_isBroken_10 : decode cX8_isBroken 10 = .ok (.goto 4, 3) := by decide +kernel
theorem dX8_isBroken_13 : decode cX8_isBroken 13 = .ok (.iconst 0, 1) := by decide +kernel
theorem dX8_isBroken_14 : decode cX8_isBroken 14 = .ok (.ireturn, 1) := by decide +kernel
def X8_isBroken (v1 : Int32) (M : Mem) : Option (Int32) := ((X8_of v1 2 M).bind fun q1 => (if q1 < 0 then (some 1) else (some 0)))
set_option maxRecDepth 100000 in
set_option maxHeartbeats 4000000 in
theorem X8_isBroken_ok  {v1 : Int32} {M N : Mem} {res : Int32} (h : X8_isBroken v1 M = some res) : Spec mt_X8_isBroken 1 [.inr (.inr (19, 0)), .inl v1] (N, M) (some (.inl res)) (N, M) := by
  unfold X8_isBroken at h
  refine Spec_of_G (by decide) rfl (Nat.le_of_ble_eq_true rfl) ?_
  refine G_sub [(0, .inr (.inr (19, 0))), (1, .inl v1)] [0, 1] rfl ?_
  refine G_aload_n dX8_isBroken_0 rfl ?_
  refine G_iload_n dX8_isBroken_1 rfl ?_
  refine G_iconst (v := 2) dX8_isBroken_2 (by decide) ?_
  obtain ⟨q1, hq1, h⟩ := bnd h
  refine G_callVv (T := TX8) (N := 22) (f := 19) (i := 0) (X8_of_ok hq1) ok_X8_of ml_X8_53 (by decide) rfl (by decide) (by decide) (by decide) rfl rfl (Nat.le_of_ble_eq_true rfl) dX8_isBroken_3 ?_
  refine G_if_ge (tgt := 13) dX8_isBroken_6 (by decide) (fun hc1 => ?_) (fun hc1 => ?_)
  · replace h := (if_neg hc1).symm.trans h
    refine G_iconst (v := 0) dX8_isBroken_13 (by decide) ?_
    obtain rfl := Option.some.inj h
    exact G_ret dX8_isBroken_14 (Or.inl rfl) rfl rfl
  · replace h := (if_pos hc1).symm.trans h
    refine G_iconst (v := 1) dX8_isBroken_9 (by decide) ?_
    refine G_goto (tgt := 14) dX8_isBroken_10 (by decide) ?_
    obtain rfl := Option.some.inj h
    exact G_ret dX8_isBroken_14 (Or.inr rfl) rfl rfl

theorem dX8_setOf_0 : decode cX8_setOf 0 = .ok (.iconst 0, 1) := by decide +kernel
theorem dX8_setOf_1 : decode cX8_setOf 1 = .ok (.istore_n 2, 1) := by decide +kernel
theorem dX8_setOf_2 : decode cX8_setOf 2 = .ok (.iconst 0, 1) := by decide +kernel
theorem dX8_setOf_3 : decode cX8_setOf 3 = .ok (.istore_n 3, 1) := by decide +kernel
theorem dX8_setOf_4 : decode cX8_setOf 4 = .ok (.iload_n 3, 1) := by decide +kernel
theorem dX8_setOf_5 : decode cX8_setOf 5 = .ok (.aload_n 0, 1) := by decide +kernel
theorem dX8_setOf_6 : decode cX8_setOf 6 = .ok (.getfield 7, 3) := by decide +kernel
theorem dX8_setOf_9 : decode cX8_setOf 9 = .ok (.iconst 0, 1) := by decide +kernel
theorem dX8_setOf_10 : decode cX8_setOf 10 = .ok (.iaload, 1) := by decide +kernel
theorem dX8_setOf_11 : decode cX8_setOf 11 = .ok (.if_icmp .ge 103, 3) := by decide +kernel
theorem dX8_setOf_14 : decode cX8_setOf 14 = .ok (.iload_n 1, 1) := by decide +kernel
theorem dX8_setOf_15 : decode cX8_setOf 15 = .ok (.iconst 5, 1) := by decide +kernel
theorem dX8_setOf_16 : decode cX8_setOf 16 = .ok (.if_icmp .ne 22, 3) := by decide +kernel
theorem dX8_setOf_19 : decode cX8_setOf 19 = .ok (.aload_n 0, 1) := by decide +kernel
theorem dX8_setOf_20 : decode cX8_setOf 20 = .ok (.iload_n 3, 1) := by decide +kernel
theorem dX8_setOf_21 : decode cX8_setOf 21 = .ok (.bipush 7, 2) := by decide +kernel
theorem dX8_setOf_23 : decode cX8_setOf 23 = .ok (.invokevirtual 53, 3) := by decide +kernel
theorem dX8_setOf_26 : decode cX8_setOf 26 = .ok (.iconst 1, 1) := by decide +kernel
theorem dX8_setOf_27 : decode cX8_setOf 27 = .ok (.if_icmp .ne 7, 3) := by decide +kernel
theorem dX8_setOf_30 : decode cX8_setOf 30 = .ok (.iconst 1, 1) := by decide +kernel
theorem dX8_setOf_31 : decode cX8_setOf 31 = .ok (.goto 60, 3) := by decide +kernel
theorem dX8_setOf_34 : decode cX8_setOf 34 = .ok (.iconst 0, 1) := by decide +kernel
theorem dX8_setOf_35 : decode cX8_setOf 35 = .ok (.goto 56, 3) := by decide +kernel
theorem dX8_setOf_38 : decode cX8_setOf 38 = .ok (.iload_n 1, 1) := by decide +kernel
theorem dX8_setOf_39 : decode cX8_setOf 39 = .ok (.bipush 6, 2) := by decide +kernel
theorem dX8_setOf_41 : decode cX8_setOf 41 = .ok (.if_icmp .ne 11, 3) := by decide +kernel
theorem dX8_setOf_44 : decode cX8_setOf 44 = .ok (.aload_n 0, 1) := by decide +kernel
theorem dX8_setOf_45 : decode cX8_setOf 45 = .ok (.iload_n 3, 1) := by decide +kernel
theorem dX8_setOf_46 : decode cX8_setOf 46 = .ok (.invokevirtual 164, 3) := by decide +kernel
theorem dX8_setOf_49 : decode cX8_setOf 49 = .ok (.goto 42, 3) := by decide +kernel
theorem dX8_setOf_52 : decode cX8_setOf 52 = .ok (.iload_n 1, 1) := by decide +kernel
theorem dX8_setOf_53 : decode cX8_setOf 53 = .ok (.bipush 7, 2) := by decide +kernel
theorem dX8_setOf_55 : decode cX8_setOf 55 = .ok (.if_icmp .ne 21, 3) := by decide +kernel
theorem dX8_setOf_58 : decode cX8_setOf 58 = .ok (.aload_n 0, 1) := by decide +kernel
theorem dX8_setOf_59 : decode cX8_setOf 59 = .ok (.iload_n 3, 1) := by decide +kernel
theorem dX8_setOf_60 : decode cX8_setOf 60 = .ok (.bipush 6, 2) := by decide +kernel
theorem dX8_setOf_62 : decode cX8_setOf 62 = .ok (.invokevirtual 53, 3) := by decide +kernel
theorem dX8_setOf_65 : decode cX8_setOf 65 = .ok (.ifCond .le 7, 3) := by decide +kernel
theorem dX8_setOf_68 : decode cX8_setOf 68 = .ok (.iconst 1, 1) := by decide +kernel
theorem dX8_setOf_69 : decode cX8_setOf 69 = .ok (.goto 22, 3) := by decide +kernel
theorem dX8_setOf_72 : decode cX8_setOf 72 = .ok (.iconst 0, 1) := by decide +kernel
theorem dX8_setOf_73 : decode cX8_setOf 73 = .ok (.goto 18, 3) := by decide +kernel
theorem dX8_setOf_76 : decode cX8_setOf 76 = .ok (.aload_n 0, 1) := by decide +kernel
theorem dX8_setOf_77 : decode cX8_setOf 77 = .ok (.iload_n 3, 1) := by decide +kernel
theorem dX8_setOf_78 : decode cX8_setOf 78 = .ok (.iconst 2, 1) := by decide +kernel
theorem dX8_setOf_79 : decode cX8_setOf 79 = .ok (.invokevirtual 53, 3) := by decide +kernel
theorem dX8_setOf_82 : decode cX8_setOf 82 = .ok (.iload_n 1, 1) := by decide +kernel
theorem dX8_setOf_83 : decode cX8_setOf 83 = .ok (.if_icmp .ne 7, 3) := by decide +kernel
theorem dX8_setOf_86 : decode cX8_setOf 86 = .ok (.iconst 1, 1) := by decide +kernel
theorem dX8_setOf_87 : decode cX8_setOf 87 = .ok (.goto 4, 3) := by decide +kernel
theorem dX8_setOf_90 : decode cX8_setOf 90 = .ok (.iconst 0, 1) := by decide +kernel
theorem dX8_setOf_91 : decode cX8_setOf 91 = .ok (.istore 4, 2) := by decide +kernel
theorem dX8_setOf_93 : decode cX8_setOf 93 = .ok (.iload_n 2, 1) := by decide +kernel
theorem dX8_setOf_94 : decode cX8_setOf 94 = .ok (.iload 4, 2) := by decide +kernel
theorem dX8_setOf_96 : decode cX8_setOf 96 = .ok (.ifCond .eq 9, 3) := by decide +kernel
theorem dX8_setOf_99 : decode cX8_setOf 99 = .ok (.iconst 1, 1) := by decide +kernel
theorem dX8_setOf_100 : decode cX8_setOf 100 = .ok (.iload_n 3, 1) := by decide +kernel
theorem dX8_setOf_101 : decode cX8_setOf 101 = .ok (.ishl, 1) := by decide +kernel
theorem dX8_setOf_102 : decode cX8_setOf 102 = .ok (.goto 4, 3) := by decide +kernel
theorem dX8_setOf_105 : decode cX8_setOf 105 = .ok (.iconst 0, 1) := by decide +kernel
theorem dX8_setOf_106 : decode cX8_setOf 106 = .ok (.ior, 1) := by decide +kernel
theorem dX8_setOf_107 : decode cX8_setOf 107 = .ok (.istore_n 2, 1) := by decide +kernel
theorem dX8_setOf_108 : decode cX8_setOf 108 = .ok (.iinc 3 1, 3) := by decide +kernel
theorem dX8_setOf_111 : decode cX8_setOf 111 = .ok (.goto (-107), 3) := by decide +kernel
theorem dX8_setOf_114 : decode cX8_setOf 114 = .ok (.iload_n 2, 1) := by decide +kernel
theorem dX8_setOf_115 : decode cX8_setOf 115 = .ok (.ireturn, 1) := by decide +kernel
def X8_setOf_L4 : Nat → Int32 → Int32 → Int32 → Mem → Option (Int32)
  | 0, _, _, _, _ => none
  | fu + 1, v1, v2, v3, M => (if v3 < (M 20 0 0) then (if v1 = 5 then ((X8_of v3 7 M).bind fun q4 => (if q4 = 1 then (X8_setOf_L4 fu v1 (v2 ||| (1 <<< (v3 &&& 31))) (v3 + 1) M) else (X8_setOf_L4 fu v1 (v2 ||| 0) (v3 + 1) M))) else (if v1 = 6 then ((X8_isBroken v3 M).bind fun q3 => (if q3 = 0 then (X8_setOf_L4 fu v1 (v2 ||| 0) (v3 + 1) M) else (X8_setOf_L4 fu v1 (v2 ||| (1 <<< (v3 &&& 31))) (v3 + 1) M))) else (if v1 = 7 then ((X8_of v3 6 M).bind fun q2 => (if 0 < q2 then (X8_setOf_L4 fu v1 (v2 ||| (1 <<< (v3 &&& 31))) (v3 + 1) M) else (X8_setOf_L4 fu v1 (v2 ||| 0) (v3 + 1) M))) else ((X8_of v3 2 M).bind fun q1 => (if q1 = v1 then (X8_setOf_L4 fu v1 (v2 ||| (1 <<< (v3 &&& 31))) (v3 + 1) M) else (X8_setOf_L4 fu v1 (v2 ||| 0) (v3 + 1) M)))))) else (some v2))
set_option maxRecDepth 100000 in
set_option maxHeartbeats 4000000 in
theorem X8_setOf_L4_ok  {r : Option AV} {M' : MM} : ∀ (fu : Nat) (v1 : Int32) (v2 : Int32) (v3 : Int32) (M N : Mem) {res : Int32} (h : X8_setOf_L4 fu v1 v2 v3 M = some res) (K : G mt_X8_setOf 2 r M' 114 [(2, .inl res)] [] (N, M)), G mt_X8_setOf 2 r M' 4 [(0, .inr (.inr (19, 0))), (1, .inl v1), (2, .inl v2), (3, .inl v3)] [] (N, M) := by
  intro fu
  induction fu with
  | zero =>
    intro v1 v2 v3 M N res h
    cases h
  | succ fu ih =>
    intro v1 v2 v3 M N res h K
    replace h : (if v3 < (M 20 0 0) then (if v1 = 5 then ((X8_of v3 7 M).bind fun q4 => (if q4 = 1 then (X8_setOf_L4 fu v1 (v2 ||| (1 <<< (v3 &&& 31))) (v3 + 1) M) else (X8_setOf_L4 fu v1 (v2 ||| 0) (v3 + 1) M))) else (if v1 = 6 then ((X8_isBroken v3 M).bind fun q3 => (if q3 = 0 then (X8_setOf_L4 fu v1 (v2 ||| 0) (v3 + 1) M) else (X8_setOf_L4 fu v1 (v2 ||| (1 <<< (v3 &&& 31))) (v3 + 1) M))) else (if v1 = 7 then ((X8_of v3 6 M).bind fun q2 => (if 0 < q2 then (X8_setOf_L4 fu v1 (v2 ||| (1 <<< (v3 &&& 31))) (v3 + 1) M) else (X8_setOf_L4 fu v1 (v2 ||| 0) (v3 + 1) M))) else ((X8_of v3 2 M).bind fun q1 => (if q1 = v1 then (X8_setOf_L4 fu v1 (v2 ||| (1 <<< (v3 &&& 31))) (v3 + 1) M) else (X8_setOf_L4 fu v1 (v2 ||| 0) (v3 + 1) M)))))) else (some v2)) = some res := h
    refine G_iload_n dX8_setOf_4 rfl ?_
    refine G_aload_n dX8_setOf_5 rfl ?_
    refine fg_X8_7 rfl (by decide) dX8_setOf_6 ?_
    refine G_iconst (v := 0) dX8_setOf_9 (by decide) ?_
    refine al_20 (kk := 0) (v := (M 20 0 0)) (by decide) (by decide) (by decide) rfl dX8_setOf_10 ?_
    refine G_icmp_ge (tgt := 114) dX8_setOf_11 (by decide) (fun hc1 => ?_) (fun hc1 => ?_)
    · replace h := (if_neg hc1).symm.trans h
      refine G_sub [(2, .inl v2)] [2] rfl ?_
      obtain rfl := Option.some.inj h
      exact K
    · replace h := (if_pos hc1).symm.trans h
      refine G_iload_n dX8_setOf_14 rfl ?_
      refine G_iconst (v := 5) dX8_setOf_15 (by decide) ?_
      refine G_icmp_ne (tgt := 38) dX8_setOf_16 (by decide) (fun hc2 => ?_) (fun hc2 => ?_)
      · replace h := (if_neg hc2).symm.trans h
        refine G_iload_n dX8_setOf_38 rfl ?_
        refine G_bipush (v := 6) dX8_setOf_39 (by decide) ?_
        refine G_icmp_ne (tgt := 52) dX8_setOf_41 (by decide) (fun hc3 => ?_) (fun hc3 => ?_)
        · replace h := (if_neg hc3).symm.trans h
          refine G_iload_n dX8_setOf_52 rfl ?_
          refine G_bipush (v := 7) dX8_setOf_53 (by decide) ?_
          refine G_icmp_ne (tgt := 76) dX8_setOf_55 (by decide) (fun hc4 => ?_) (fun hc4 => ?_)
          · replace h := (if_neg hc4).symm.trans h
            refine G_aload_n dX8_setOf_76 rfl ?_
            refine G_iload_n dX8_setOf_77 rfl ?_
            refine G_iconst (v := 2) dX8_setOf_78 (by decide) ?_
            obtain ⟨q1, hq1, h⟩ := bnd h
            refine G_callVv (T := TX8) (N := 22) (f := 19) (i := 0) (X8_of_ok hq1) ok_X8_of ml_X8_53 (by decide) rfl (by decide) (by decide) (by decide) rfl rfl (Nat.le_of_ble_eq_true rfl) dX8_setOf_79 ?_
            refine G_iload_n dX8_setOf_82 rfl ?_
            refine G_icmp_ne (tgt := 90) dX8_setOf_83 (by decide) (fun hc5 => ?_) (fun hc5 => ?_)
            · replace h := (if_neg hc5).symm.trans h
              refine G_iconst (v := 0) dX8_setOf_90 (by decide) ?_
              refine G_istore (L2 := [(4, .inl 0), (0, .inr (.inr (19, 0))), (1, .inl v1), (2, .inl v2), (3, .inl v3)]) dX8_setOf_91 (by decide) rfl ?_
              refine G_iload_n dX8_setOf_93 rfl ?_
              refine G_iload dX8_setOf_94 rfl ?_
              refine G_if_eq (tgt := 105) dX8_setOf_96 (by decide) (fun hc6 => ?_) (fun hc6 => ?_)
              · clear hc6
                refine G_iconst (v := 0) dX8_setOf_105 (by decide) ?_
                refine G_ior dX8_setOf_106 ?_
                refine G_istore_n (L2 := [(2, .inl (v2 ||| 0)), (4, .inl 0), (0, .inr (.inr (19, 0))), (1, .inl v1), (3, .inl v3)]) dX8_setOf_107 (by decide) rfl ?_
                refine G_iinc (v := (v3 + 1)) (L2 := [(3, .inl (v3 + 1)), (2, .inl (v2 ||| 0)), (4, .inl 0), (0, .inr (.inr (19, 0))), (1, .inl v1)]) dX8_setOf_108 rfl (by first | rfl | (show _ + Int32.ofInt _ = _; rfl)) (by decide) rfl ?_
                refine G_goto (tgt := 4) dX8_setOf_111 (by decide) ?_
                refine G_sub [(0, .inr (.inr (19, 0))), (1, .inl v1), (2, .inl (v2 ||| 0)), (3, .inl (v3 + 1))] [3, 4, 1, 0] rfl ?_
                exact ih v1 (v2 ||| 0) (v3 + 1) M _  h K
              · exact absurd hc6 (by decide)
            · replace h := (if_pos hc5).symm.trans h
              refine G_iconst (v := 1) dX8_setOf_86 (by decide) ?_
              refine G_goto (tgt := 91) dX8_setOf_87 (by decide) ?_
              refine G_istore (L2 := [(4, .inl 1), (0, .inr (.inr (19, 0))), (1, .inl v1), (2, .inl v2), (3, .inl v3)]) dX8_setOf_91 (by decide) rfl ?_
              refine G_iload_n dX8_setOf_93 rfl ?_
              refine G_iload dX8_setOf_94 rfl ?_
              refine G_if_eq (tgt := 105) dX8_setOf_96 (by decide) (fun hc7 => ?_) (fun hc7 => ?_)
              · exact absurd hc7 (by decide)
              · clear hc7
                refine G_iconst (v := 1) dX8_setOf_99 (by decide) ?_
                refine G_iload_n dX8_setOf_100 rfl ?_
                refine G_ishl dX8_setOf_101 ?_
                refine G_goto (tgt := 106) dX8_setOf_102 (by decide) ?_
                refine G_ior dX8_setOf_106 ?_
                refine G_istore_n (L2 := [(2, .inl (v2 ||| (1 <<< (v3 &&& 31)))), (4, .inl 1), (0, .inr (.inr (19, 0))), (1, .inl v1), (3, .inl v3)]) dX8_setOf_107 (by decide) rfl ?_
                refine G_iinc (v := (v3 + 1)) (L2 := [(3, .inl (v3 + 1)), (2, .inl (v2 ||| (1 <<< (v3 &&& 31)))), (4, .inl 1), (0, .inr (.inr (19, 0))), (1, .inl v1)]) dX8_setOf_108 rfl (by first | rfl | (show _ + Int32.ofInt _ = _; rfl)) (by decide) rfl ?_
                refine G_goto (tgt := 4) dX8_setOf_111 (by decide) ?_
                refine G_sub [(0, .inr (.inr (19, 0))), (1, .inl v1), (2, .inl (v2 ||| (1 <<< (v3 &&& 31)))), (3, .inl (v3 + 1))] [3, 4, 1, 0] rfl ?_
                exact ih v1 (v2 ||| (1 <<< (v3 &&& 31))) (v3 + 1) M _  h K
          · replace h := (if_pos hc4).symm.trans h
            refine G_aload_n dX8_setOf_58 rfl ?_
            refine G_iload_n dX8_setOf_59 rfl ?_
            refine G_bipush (v := 6) dX8_setOf_60 (by decide) ?_
            obtain ⟨q2, hq2, h⟩ := bnd h
            refine G_callVv (T := TX8) (N := 22) (f := 19) (i := 0) (X8_of_ok hq2) ok_X8_of ml_X8_53 (by decide) rfl (by decide) (by decide) (by decide) rfl rfl (Nat.le_of_ble_eq_true rfl) dX8_setOf_62 ?_
            refine G_if_le (tgt := 72) dX8_setOf_65 (by decide) (fun hc8 => ?_) (fun hc8 => ?_)
            · replace h := (if_neg hc8).symm.trans h
              refine G_iconst (v := 0) dX8_setOf_72 (by decide) ?_
              refine G_goto (tgt := 91) dX8_setOf_73 (by decide) ?_
              refine G_istore (L2 := [(4, .inl 0), (0, .inr (.inr (19, 0))), (1, .inl v1), (2, .inl v2), (3, .inl v3)]) dX8_setOf_91 (by decide) rfl ?_
              refine G_iload_n dX8_setOf_93 rfl ?_
              refine G_iload dX8_setOf_94 rfl ?_
              refine G_if_eq (tgt := 105) dX8_setOf_96 (by decide) (fun hc9 => ?_) (fun hc9 => ?_)
              · clear hc9
                refine G_iconst (v := 0) dX8_setOf_105 (by decide) ?_
                refine G_ior dX8_setOf_106 ?_
                refine G_istore_n (L2 := [(2, .inl (v2 ||| 0)), (4, .inl 0), (0, .inr (.inr (19, 0))), (1, .inl v1), (3, .inl v3)]) dX8_setOf_107 (by decide) rfl ?_
                refine G_iinc (v := (v3 + 1)) (L2 := [(3, .inl (v3 + 1)), (2, .inl (v2 ||| 0)), (4, .inl 0), (0, .inr (.inr (19, 0))), (1, .inl v1)]) dX8_setOf_108 rfl (by first | rfl | (show _ + Int32.ofInt _ = _; rfl)) (by decide) rfl ?_
                refine G_goto (tgt := 4) dX8_setOf_111 (by decide) ?_
                refine G_sub [(0, .inr (.inr (19, 0))), (1, .inl v1), (2, .inl (v2 ||| 0)), (3, .inl (v3 + 1))] [3, 4, 1, 0] rfl ?_
                exact ih v1 (v2 ||| 0) (v3 + 1) M _  h K
              · exact absurd hc9 (by decide)
            · replace h := (if_pos hc8).symm.trans h
              refine G_iconst (v := 1) dX8_setOf_68 (by decide) ?_
              refine G_goto (tgt := 91) dX8_setOf_69 (by decide) ?_
              refine G_istore (L2 := [(4, .inl 1), (0, .inr (.inr (19, 0))), (1, .inl v1), (2, .inl v2), (3, .inl v3)]) dX8_setOf_91 (by decide) rfl ?_
              refine G_iload_n dX8_setOf_93 rfl ?_
              refine G_iload dX8_setOf_94 rfl ?_
              refine G_if_eq (tgt := 105) dX8_setOf_96 (by decide) (fun hc10 => ?_) (fun hc10 => ?_)
              · exact absurd hc10 (by decide)
              · clear hc10
                refine G_iconst (v := 1) dX8_setOf_99 (by decide) ?_
                refine G_iload_n dX8_setOf_100 rfl ?_
                refine G_ishl dX8_setOf_101 ?_
                refine G_goto (tgt := 106) dX8_setOf_102 (by decide) ?_
                refine G_ior dX8_setOf_106 ?_
                refine G_istore_n (L2 := [(2, .inl (v2 ||| (1 <<< (v3 &&& 31)))), (4, .inl 1), (0, .inr (.inr (19, 0))), (1, .inl v1), (3, .inl v3)]) dX8_setOf_107 (by decide) rfl ?_
                refine G_iinc (v := (v3 + 1)) (L2 := [(3, .inl (v3 + 1)), (2, .inl (v2 ||| (1 <<< (v3 &&& 31)))), (4, .inl 1), (0, .inr (.inr (19, 0))), (1, .inl v1)]) dX8_setOf_108 rfl (by first | rfl | (show _ + Int32.ofInt _ = _; rfl)) (by decide) rfl ?_
                refine G_goto (tgt := 4) dX8_setOf_111 (by decide) ?_
                refine G_sub [(0, .inr (.inr (19, 0))), (1, .inl v1), (2, .inl (v2 ||| (1 <<< (v3 &&& 31)))), (3, .inl (v3 + 1))] [3, 4, 1, 0] rfl ?_
                exact ih v1 (v2 ||| (1 <<< (v3 &&& 31))) (v3 + 1) M _  h K
        · replace h := (if_pos hc3).symm.trans h
          refine G_aload_n dX8_setOf_44 rfl ?_
          refine G_iload_n dX8_setOf_45 rfl ?_
          obtain ⟨q3, hq3, h⟩ := bnd h
          refine G_callVv (T := TX8) (N := 22) (f := 19) (i := 0) (X8_isBroken_ok hq3) ok_X8_isBroken ml_X8_164 (by decide) rfl (by decide) (by decide) (by decide) rfl rfl (Nat.le_of_ble_eq_true rfl) dX8_setOf_46 ?_
          refine G_goto (tgt := 91) dX8_setOf_49 (by decide) ?_
          refine G_istore (L2 := [(4, .inl q3), (0, .inr (.inr (19, 0))), (1, .inl v1), (2, .inl v2), (3, .inl v3)]) dX8_setOf_91 (by decide) rfl ?_
          refine G_iload_n dX8_setOf_93 rfl ?_
          refine G_iload dX8_setOf_94 rfl ?_
          refine G_if_eq (tgt := 105) dX8_setOf_96 (by decide) (fun hc11 => ?_) (fun hc11 => ?_)
          · replace h := (if_pos hc11).symm.trans h
            refine G_iconst (v := 0) dX8_setOf_105 (by decide) ?_
            refine G_ior dX8_setOf_106 ?_
            refine G_istore_n (L2 := [(2, .inl (v2 ||| 0)), (4, .inl q3), (0, .inr (.inr (19, 0))), (1, .inl v1), (3, .inl v3)]) dX8_setOf_107 (by decide) rfl ?_
            refine G_iinc (v := (v3 + 1)) (L2 := [(3, .inl (v3 + 1)), (2, .inl (v2 ||| 0)), (4, .inl q3), (0, .inr (.inr (19, 0))), (1, .inl v1)]) dX8_setOf_108 rfl (by first | rfl | (show _ + Int32.ofInt _ = _; rfl)) (by decide) rfl ?_
            refine G_goto (tgt := 4) dX8_setOf_111 (by decide) ?_
            refine G_sub [(0, .inr (.inr (19, 0))), (1, .inl v1), (2, .inl (v2 ||| 0)), (3, .inl (v3 + 1))] [3, 4, 1, 0] rfl ?_
            exact ih v1 (v2 ||| 0) (v3 + 1) M _  h K
          · replace h := (if_neg hc11).symm.trans h
            refine G_iconst (v := 1) dX8_setOf_99 (by decide) ?_
            refine G_iload_n dX8_setOf_100 rfl ?_
            refine G_ishl dX8_setOf_101 ?_
            refine G_goto (tgt := 106) dX8_setOf_102 (by decide) ?_
            refine G_ior dX8_setOf_106 ?_
            refine G_istore_n (L2 := [(2, .inl (v2 ||| (1 <<< (v3 &&& 31)))), (4, .inl q3), (0, .inr (.inr (19, 0))), (1, .inl v1), (3, .inl v3)]) dX8_setOf_107 (by decide) rfl ?_
            refine G_iinc (v := (v3 + 1)) (L2 := [(3, .inl (v3 + 1)), (2, .inl (v2 ||| (1 <<< (v3 &&& 31)))), (4, .inl q3), (0, .inr (.inr (19, 0))), (1, .inl v1)]) dX8_setOf_108 rfl (by first | rfl | (show _ + Int32.ofInt _ = _; rfl)) (by decide) rfl ?_
            refine G_goto (tgt := 4) dX8_setOf_111 (by decide) ?_
            refine G_sub [(0, .inr (.inr (19, 0))), (1, .inl v1), (2, .inl (v2 ||| (1 <<< (v3 &&& 31)))), (3, .inl (v3 + 1))] [3, 4, 1, 0] rfl ?_
            exact ih v1 (v2 ||| (1 <<< (v3 &&& 31))) (v3 + 1) M _  h K
      · replace h := (if_pos hc2).symm.trans h
        refine G_aload_n dX8_setOf_19 rfl ?_
        refine G_iload_n dX8_setOf_20 rfl ?_
        refine G_bipush (v := 7) dX8_setOf_21 (by decide) ?_
        obtain ⟨q4, hq4, h⟩ := bnd h
        refine G_callVv (T := TX8) (N := 22) (f := 19) (i := 0) (X8_of_ok hq4) ok_X8_of ml_X8_53 (by decide) rfl (by decide) (by decide) (by decide) rfl rfl (Nat.le_of_ble_eq_true rfl) dX8_setOf_23 ?_
        refine G_iconst (v := 1) dX8_setOf_26 (by decide) ?_
        refine G_icmp_ne (tgt := 34) dX8_setOf_27 (by decide) (fun hc12 => ?_) (fun hc12 => ?_)
        · replace h := (if_neg hc12).symm.trans h
          refine G_iconst (v := 0) dX8_setOf_34 (by decide) ?_
          refine G_goto (tgt := 91) dX8_setOf_35 (by decide) ?_
          refine G_istore (L2 := [(4, .inl 0), (0, .inr (.inr (19, 0))), (1, .inl v1), (2, .inl v2), (3, .inl v3)]) dX8_setOf_91 (by decide) rfl ?_
          refine G_iload_n dX8_setOf_93 rfl ?_
          refine G_iload dX8_setOf_94 rfl ?_
          refine G_if_eq (tgt := 105) dX8_setOf_96 (by decide) (fun hc13 => ?_) (fun hc13 => ?_)
          · clear hc13
            refine G_iconst (v := 0) dX8_setOf_105 (by decide) ?_
            refine G_ior dX8_setOf_106 ?_
            refine G_istore_n (L2 := [(2, .inl (v2 ||| 0)), (4, .inl 0), (0, .inr (.inr (19, 0))), (1, .inl v1), (3, .inl v3)]) dX8_setOf_107 (by decide) rfl ?_
            refine G_iinc (v := (v3 + 1)) (L2 := [(3, .inl (v3 + 1)), (2, .inl (v2 ||| 0)), (4, .inl 0), (0, .inr (.inr (19, 0))), (1, .inl v1)]) dX8_setOf_108 rfl (by first | rfl | (show _ + Int32.ofInt _ = _; rfl)) (by decide) rfl ?_
            refine G_goto (tgt := 4) dX8_setOf_111 (by decide) ?_
            refine G_sub [(0, .inr (.inr (19, 0))), (1, .inl v1), (2, .inl (v2 ||| 0)), (3, .inl (v3 + 1))] [3, 4, 1, 0] rfl ?_
            exact ih v1 (v2 ||| 0) (v3 + 1) M _  h K
          · exact absurd hc13 (by decide)
        · replace h := (if_pos hc12).symm.trans h
          refine G_iconst (v := 1) dX8_setOf_30 (by decide) ?_
          refine G_goto (tgt := 91) dX8_setOf_31 (by decide) ?_
          refine G_istore (L2 := [(4, .inl 1), (0, .inr (.inr (19, 0))), (1, .inl v1), (2, .inl v2), (3, .inl v3)]) dX8_setOf_91 (by decide) rfl ?_
          refine G_iload_n dX8_setOf_93 rfl ?_
          refine G_iload dX8_setOf_94 rfl ?_
          refine G_if_eq (tgt := 105) dX8_setOf_96 (by decide) (fun hc14 => ?_) (fun hc14 => ?_)
          · exact absurd hc14 (by decide)
          · clear hc14
            refine G_iconst (v := 1) dX8_setOf_99 (by decide) ?_
            refine G_iload_n dX8_setOf_100 rfl ?_
            refine G_ishl dX8_setOf_101 ?_
            refine G_goto (tgt := 106) dX8_setOf_102 (by decide) ?_
            refine G_ior dX8_setOf_106 ?_
            refine G_istore_n (L2 := [(2, .inl (v2 ||| (1 <<< (v3 &&& 31)))), (4, .inl 1), (0, .inr (.inr (19, 0))), (1, .inl v1), (3, .inl v3)]) dX8_setOf_107 (by decide) rfl ?_
            refine G_iinc (v := (v3 + 1)) (L2 := [(3, .inl (v3 + 1)), (2, .inl (v2 ||| (1 <<< (v3 &&& 31)))), (4, .inl 1), (0, .inr (.inr (19, 0))), (1, .inl v1)]) dX8_setOf_108 rfl (by first | rfl | (show _ + Int32.ofInt _ = _; rfl)) (by decide) rfl ?_
            refine G_goto (tgt := 4) dX8_setOf_111 (by decide) ?_
            refine G_sub [(0, .inr (.inr (19, 0))), (1, .inl v1), (2, .inl (v2 ||| (1 <<< (v3 &&& 31)))), (3, .inl (v3 + 1))] [3, 4, 1, 0] rfl ?_
            exact ih v1 (v2 ||| (1 <<< (v3 &&& 31))) (v3 + 1) M _  h K

def X8_setOf (v1 : Int32) (M : Mem) : Option (Int32) := ((X8_setOf_L4 400 v1 0 0 M).bind fun q5 => (some q5))
set_option maxRecDepth 100000 in
set_option maxHeartbeats 4000000 in
theorem X8_setOf_ok  {v1 : Int32} {M N : Mem} {res : Int32} (h : X8_setOf v1 M = some res) : Spec mt_X8_setOf 2 [.inr (.inr (19, 0)), .inl v1] (N, M) (some (.inl res)) (N, M) := by
  unfold X8_setOf at h
  refine Spec_of_G (by decide) rfl (Nat.le_of_ble_eq_true rfl) ?_
  refine G_sub [(0, .inr (.inr (19, 0))), (1, .inl v1)] [0, 1] rfl ?_
  refine G_iconst (v := 0) dX8_setOf_0 (by decide) ?_
  refine G_istore_n (L2 := [(2, .inl 0), (0, .inr (.inr (19, 0))), (1, .inl v1)]) dX8_setOf_1 (by decide) rfl ?_
  refine G_iconst (v := 0) dX8_setOf_2 (by decide) ?_
  refine G_istore_n (L2 := [(3, .inl 0), (2, .inl 0), (0, .inr (.inr (19, 0))), (1, .inl v1)]) dX8_setOf_3 (by decide) rfl ?_
  refine G_sub [(0, .inr (.inr (19, 0))), (1, .inl v1), (2, .inl 0), (3, .inl 0)] [2, 3, 1, 0] rfl ?_
  obtain ⟨q5, hq5, h⟩ := bnd h
  refine X8_setOf_L4_ok  400 v1 0 0 M _  hq5 ?_
  refine G_iload_n dX8_setOf_114 rfl ?_
  obtain rfl := Option.some.inj h
  exact G_ret dX8_setOf_115 trivial rfl rfl

theorem dX8_ofHouse_0 : decode cX8_ofHouse 0 = .ok (.iload_n 1, 1) := by decide +kernel
theorem dX8_ofHouse_1 : decode cX8_ofHouse 1 = .ok (.invokestatic 170, 3) := by decide +kernel
theorem dX8_ofHouse_4 : decode cX8_ofHouse 4 = .ok (.ifCond .eq 15, 3) := by decide +kernel
theorem dX8_ofHouse_7 : decode cX8_ofHouse 7 = .ok (.iload_n 2, 1) := by decide +kernel
theorem dX8_ofHouse_8 : decode cX8_ofHouse 8 = .ok (.i2l, 1) := by decide +kernel
theorem dX8_ofHouse_9 : decode cX8_ofHouse 9 = .ok (.lconst 0, 1) := by decide +kernel
theorem dX8_ofHouse_10 : decode cX8_ofHouse 10 = .ok (.ldc2_w 175, 3) := by decide +kernel
theorem dX8_ofHouse_13 : decode cX8_ofHouse 13 = .ok (.invokestatic 47, 3) := by decide +kernel
theorem dX8_ofHouse_16 : decode cX8_ofHouse 16 = .ok (.ifCond .ne 9, 3) := by decide +kernel
theorem dX8_ofHouse_19 : decode cX8_ofHouse 19 = .ok (.aload_n 0, 1) := by decide +kernel
theorem dX8_ofHouse_20 : decode cX8_ofHouse 20 = .ok (.iconst 1, 1) := by decide +kernel
theorem dX8_ofHouse_21 : decode cX8_ofHouse 21 = .ok (.invokevirtual 130, 3) := by decide +kernel
theorem dX8_ofHouse_24 : decode cX8_ofHouse 24 = .ok (.ireturn, 1) := by decide +kernel
theorem dX8_ofHouse_25 : decode cX8_ofHouse 25 = .ok (.iload_n 2, 1) := by decide +kernel
theorem dX8_ofHouse_26 : decode cX8_ofHouse 26 = .ok (.iconst 2, 1) := by decide +kernel
theorem dX8_ofHouse_27 : decode cX8_ofHouse 27 = .ok (.if_icmp .ne 11, 3) := by decide +kernel
theorem dX8_ofHouse_30 : decode cX8_ofHouse 30 = .ok (.aload_n 0, 1) := by decide +kernel
theorem dX8_ofHouse_31 : decode cX8_ofHouse 31 = .ok (.iload_n 1, 1) := by decide +kernel
theorem dX8_ofHouse_32 : decode cX8_ofHouse 32 = .ok (.invokevirtual 177, 3) := by decide +kernel
theorem dX8_ofHouse_35 : decode cX8_ofHouse 35 = .ok (.goto 16, 3) := by decide +kernel
theorem dX8_ofHouse_38 : decode cX8_ofHouse 38 = .ok (.aload_n 0, 1) := by decide +kernel
theorem dX8_ofHouse_39 : decode cX8_ofHouse 39 = .ok (.getfield 7, 3) := by decide +kernel
theorem dX8_ofHouse_42 : decode cX8_ofHouse 42 = .ok (.bipush 6, 2) := by decide +kernel
theorem dX8_ofHouse_44 : decode cX8_ofHouse 44 = .ok (.iconst 2, 1) := by decide +kernel
theorem dX8_ofHouse_45 : decode cX8_ofHouse 45 = .ok (.iload_n 1, 1) := by decide +kernel
theorem dX8_ofHouse_46 : decode cX8_ofHouse 46 = .ok (.imul, 1) := by decide +kernel
theorem dX8_ofHouse_47 : decode cX8_ofHouse 47 = .ok (.iadd, 1) := by decide +kernel
theorem dX8_ofHouse_48 : decode cX8_ofHouse 48 = .ok (.iload_n 2, 1) := by decide +kernel
theorem dX8_ofHouse_49 : decode cX8_ofHouse 49 = .ok (.iadd, 1) := by decide +kernel
theorem dX8_ofHouse_50 : decode cX8_ofHouse 50 = .ok (.iaload, 1) := by decide +kernel
theorem dX8_ofHouse_51 : decode cX8_ofHouse 51 = .ok (.ireturn, 1) := by decide +kernel
def X8_ofHouse (v1 : Int32) (v2 : Int32) (M : Mem) : Option (Int32 × Mem) := (if (X8_isHouse v1) = 0 then ((X8_finds 1 M).bind fun q1 => (some (q1.1, q1.2))) else (if (X8_in (v2.toInt64) (0 : Int64) (2 : Int64)) = 0 then ((X8_finds 1 M).bind fun q4 => (some (q4.1, q4.2))) else (if v2 = 2 then ((X8_setOf v1 M).bind fun q3 => (some (q3, M))) else (if ib ((6 + (2 * v1)) + v2) 268 = true then (some ((M 20 0 (((6 + (2 * v1)) + v2).toNatClampNeg)), M)) else none))))
set_option maxRecDepth 100000 in
set_option maxHeartbeats 4000000 in
theorem X8_ofHouse_ok  {v1 : Int32} {v2 : Int32} {M N : Mem} {res : Int32 × Mem} (h : X8_ofHouse v1 v2 M = some res) : Spec mt_X8_ofHouse 3 [.inr (.inr (19, 0)), .inl v1, .inl v2] (N, M) (some (.inl res.1)) (N, res.2) := by
  unfold X8_ofHouse at h
  refine Spec_of_G (by decide) rfl (Nat.le_of_ble_eq_true rfl) ?_
  refine G_sub [(0, .inr (.inr (19, 0))), (1, .inl v1), (2, .inl v2)] [0, 1, 2] rfl ?_
  refine G_iload_n dX8_ofHouse_0 rfl ?_
  refine G_callSv  (X8_isHouse_ok rfl) ok_X8_isHouse ml_X8_170 (by decide) rfl rfl (Nat.le_of_ble_eq_true rfl) dX8_ofHouse_1 ?_
  refine G_if_eq (tgt := 19) dX8_ofHouse_4 (by decide) (fun hc1 => ?_) (fun hc1 => ?_)
  · replace h := (if_pos hc1).symm.trans h
    refine G_aload_n dX8_ofHouse_19 rfl ?_
    refine G_iconst (v := 1) dX8_ofHouse_20 (by decide) ?_
    obtain ⟨q1, hq1, h⟩ := bnd h
    refine G_callVv (T := TX8) (N := 22) (f := 19) (i := 0) (X8_finds_ok hq1) ok_X8_finds ml_X8_130 (by decide) rfl (by decide) (by decide) (by decide) rfl rfl (Nat.le_of_ble_eq_true rfl) dX8_ofHouse_21 ?_
    obtain rfl := Option.some.inj h
    exact G_ret dX8_ofHouse_24 trivial rfl rfl
  · replace h := (if_neg hc1).symm.trans h
    refine G_iload_n dX8_ofHouse_7 rfl ?_
    refine G_i2l dX8_ofHouse_8 ?_
    refine G_lconst (v := 0) dX8_ofHouse_9 (by decide) ?_
    refine G_ldc2 ko_X8_175 dX8_ofHouse_10 ?_
    refine G_callSv  (X8_in_ok rfl) ok_X8_in ml_X8_47 (by decide) rfl rfl (Nat.le_of_ble_eq_true rfl) dX8_ofHouse_13 ?_
    refine G_if_ne (tgt := 25) dX8_ofHouse_16 (by decide) (fun hc2 => ?_) (fun hc2 => ?_)
    · replace h := (if_neg hc2).symm.trans h
      refine G_iload_n dX8_ofHouse_25 rfl ?_
      refine G_iconst (v := 2) dX8_ofHouse_26 (by decide) ?_
      refine G_icmp_ne (tgt := 38) dX8_ofHouse_27 (by decide) (fun hc3 => ?_) (fun hc3 => ?_)
      · replace h := (if_neg hc3).symm.trans h
        refine G_aload_n dX8_ofHouse_38 rfl ?_
        refine fg_X8_7 rfl (by decide) dX8_ofHouse_39 ?_
        refine G_bipush (v := 6) dX8_ofHouse_42 (by decide) ?_
        refine G_iconst (v := 2) dX8_ofHouse_44 (by decide) ?_
        refine G_iload_n dX8_ofHouse_45 rfl ?_
        refine G_imul dX8_ofHouse_46 ?_
        refine G_iadd dX8_ofHouse_47 ?_
        refine G_iload_n dX8_ofHouse_48 rfl ?_
        refine G_iadd dX8_ofHouse_49 ?_
        obtain ⟨hb2, h⟩ := chk h
        have lhb2 := ib_lt hb2
        refine al_20 (kk := ((6 + (2 * v1)) + v2).toNatClampNeg) (v := (M 20 0 (((6 + (2 * v1)) + v2).toNatClampNeg))) (by decide) hb2 rfl rfl dX8_ofHouse_50 ?_
        obtain rfl := Option.some.inj h
        exact G_ret dX8_ofHouse_51 trivial rfl rfl
      · replace h := (if_pos hc3).symm.trans h
        refine G_aload_n dX8_ofHouse_30 rfl ?_
        refine G_iload_n dX8_ofHouse_31 rfl ?_
        obtain ⟨q3, hq3, h⟩ := bnd h
        refine G_callVv (T := TX8) (N := 22) (f := 19) (i := 0) (X8_setOf_ok hq3) ok_X8_setOf ml_X8_177 (by decide) rfl (by decide) (by decide) (by decide) rfl rfl (Nat.le_of_ble_eq_true rfl) dX8_ofHouse_32 ?_
        refine G_goto (tgt := 51) dX8_ofHouse_35 (by decide) ?_
        obtain rfl := Option.some.inj h
        exact G_ret dX8_ofHouse_51 trivial rfl rfl
    · replace h := (if_pos hc2).symm.trans h
      refine G_aload_n dX8_ofHouse_19 rfl ?_
      refine G_iconst (v := 1) dX8_ofHouse_20 (by decide) ?_
      obtain ⟨q4, hq4, h⟩ := bnd h
      refine G_callVv (T := TX8) (N := 22) (f := 19) (i := 0) (X8_finds_ok hq4) ok_X8_finds ml_X8_130 (by decide) rfl (by decide) (by decide) (by decide) rfl rfl (Nat.le_of_ble_eq_true rfl) dX8_ofHouse_21 ?_
      obtain rfl := Option.some.inj h
      exact G_ret dX8_ofHouse_24 trivial rfl rfl

