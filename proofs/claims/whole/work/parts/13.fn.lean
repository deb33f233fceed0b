theorem dX7_richest_0 : decode cX7_richest 0 = .ok (.iload_n 1, 1) := by decide +kernel
theorem dX7_richest_1 : decode cX7_richest 1 = .ok (.bipush 60, 2) := by decide +kernel
theorem dX7_richest_3 : decode cX7_richest 3 = .ok (.invokestatic 61, 3) := by decide +kernel
theorem dX7_richest_6 : decode cX7_richest 6 = .ok (.ifCond .eq 11, 3) := by decide +kernel
theorem dX7_richest_9 : decode cX7_richest 9 = .ok (.iload_n 2, 1) := by decide +kernel
theorem dX7_richest_10 : decode cX7_richest 10 = .ok (.iconst 1, 1) := by decide +kernel
theorem dX7_richest_11 : decode cX7_richest 11 = .ok (.invokestatic 61, 3) := by decide +kernel
theorem dX7_richest_14 : decode cX7_richest 14 = .ok (.ifCond .ne 9, 3) := by decide +kernel
theorem dX7_richest_17 : decode cX7_richest 17 = .ok (.aload_n 0, 1) := by decide +kernel
theorem dX7_richest_18 : decode cX7_richest 18 = .ok (.iconst 1, 1) := by decide +kernel
theorem dX7_richest_19 : decode cX7_richest 19 = .ok (.invokevirtual 65, 3) := by decide +kernel
theorem dX7_richest_22 : decode cX7_richest 22 = .ok (.ireturn, 1) := by decide +kernel
theorem dX7_richest_23 : decode cX7_richest 23 = .ok (.aload_n 0, 1) := by decide +kernel
theorem dX7_richest_24 : decode cX7_richest 24 = .ok (.iload_n 1, 1) := by decide +kernel
theorem dX7_richest_25 : decode cX7_richest 25 = .ok (.invokevirtual 188, 3) := by decide +kernel
theorem dX7_richest_28 : decode cX7_richest 28 = .ok (.astore_n 3, 1) := by decide +kernel
theorem dX7_richest_29 : decode cX7_richest 29 = .ok (.iconst 0, 1) := by decide +kernel
theorem dX7_richest_30 : decode cX7_richest 30 = .ok (.istore 4, 2) := by decide +kernel
theorem dX7_richest_32 : decode cX7_richest 32 = .ok (.iconst (-1), 1) := by decide +kernel
theorem dX7_richest_33 : decode cX7_richest 33 = .ok (.istore 5, 2) := by decide +kernel
theorem dX7_richest_35 : decode cX7_richest 35 = .ok (.iconst 0, 1) := by decide +kernel
theorem dX7_richest_36 : decode cX7_richest 36 = .ok (.istore 6, 2) := by decide +kernel
theorem dX7_richest_38 : decode cX7_richest 38 = .ok (.iload 6, 2) := by decide +kernel
theorem dX7_richest_40 : decode cX7_richest 40 = .ok (.iconst 5, 1) := by decide +kernel
theorem dX7_richest_41 : decode cX7_richest 41 = .ok (.if_icmp .ge 32, 3) := by decide +kernel
theorem dX7_richest_44 : decode cX7_richest 44 = .ok (.aload_n 3, 1) := by decide +kernel
theorem dX7_richest_45 : decode cX7_richest 45 = .ok (.iload 6, 2) := by decide +kernel
theorem dX7_richest_47 : decode cX7_richest 47 = .ok (.invokevirtual 231, 3) := by decide +kernel
theorem dX7_richest_50 : decode cX7_richest 50 = .ok (.istore 7, 2) := by decide +kernel
theorem dX7_richest_52 : decode cX7_richest 52 = .ok (.iload 7, 2) := by decide +kernel
theorem dX7_richest_54 : decode cX7_richest 54 = .ok (.iload 5, 2) := by decide +kernel
theorem dX7_richest_56 : decode cX7_richest 56 = .ok (.if_icmp .le 11, 3) := by decide +kernel
theorem dX7_richest_59 : decode cX7_richest 59 = .ok (.iload 6, 2) := by decide +kernel
theorem dX7_richest_61 : decode cX7_richest 61 = .ok (.istore 4, 2) := by decide +kernel
theorem dX7_richest_63 : decode cX7_richest 63 = .ok (.iload 7, 2) := by decide +kernel
theorem dX7_richest_65 : decode cX7_richest 65 = .ok (.istore 5, 2) := by decide +kernel
theorem dX7_richest_67 : decode cX7_richest 67 = .ok (.iinc 6 1, 3) := by decide +kernel
theorem dX7_richest_70 : decode cX7_richest 70 = .ok (.goto (-32), 3) := by decide +kernel
theorem dX7_richest_73 : decode cX7_richest 73 = .ok (.iload_n 2, 1) := by decide +kernel
theorem dX7_richest_74 : decode cX7_richest 74 = .ok (.ifCond .ne 8, 3) := by decide +kernel
theorem dX7_richest_77 : decode cX7_richest 77 = .ok (.iload 4, 2) := by decide +kernel
theorem dX7_richest_79 : decode cX7_richest 79 = .ok (.goto 5, 3) := by decide +kernel
theorem dX7_richest_82 : decode cX7_richest 82 = .ok (.iload 5, 2) := by decide +kernel
theorem dX7_richest_84 : decode cX7_richest 84 = .ok (.ireturn, 1) := by decide +kernel
def X7_richest_L38 : Nat → Int32 → Nat → Int32 → Int32 → Int32 → Mem → Option (Int32 × Int32)
  | 0, _, _, _, _, _, _ => none
  | fu + 1, v2, i3, v4, v5, v6, M => (if v6 < 5 then ((X1_handlesIn i3 v6 M).bind fun q3 => (if v5 < q3 then (X7_richest_L38 fu v2 i3 v6 q3 (v6 + 1) M) else (X7_richest_L38 fu v2 i3 v4 v5 (v6 + 1) M))) else (some (v4, v5)))
set_option maxRecDepth 100000 in
set_option maxHeartbeats 4000000 in
theorem X7_richest_L38_ok  {r : Option AV} {M' : MM} : ∀ (fu : Nat) (v2 : Int32) (i3 : Nat) (v4 : Int32) (v5 : Int32) (v6 : Int32) (M N : Mem) {res : Int32 × Int32} (hi3 : i3 < 3) (h : X7_richest_L38 fu v2 i3 v4 v5 v6 M = some res) (K : G mt_X7_richest 6 r M' 73 [(2, .inl v2), (4, .inl res.1), (5, .inl res.2)] [] (M, N)), G mt_X7_richest 6 r M' 38 [(2, .inl v2), (3, .inr (.inr (1, i3))), (4, .inl v4), (5, .inl v5), (6, .inl v6)] [] (M, N) := by
  intro fu
  induction fu with
  | zero =>
    intro v2 i3 v4 v5 v6 M N res hi3 h
    cases h
  | succ fu ih =>
    intro v2 i3 v4 v5 v6 M N res hi3 h K
    replace h : (if v6 < 5 then ((X1_handlesIn i3 v6 M).bind fun q3 => (if v5 < q3 then (X7_richest_L38 fu v2 i3 v6 q3 (v6 + 1) M) else (X7_richest_L38 fu v2 i3 v4 v5 (v6 + 1) M))) else (some (v4, v5))) = some res := h
    refine G_iload dX7_richest_38 rfl ?_
    refine G_iconst (v := 5) dX7_richest_40 (by decide) ?_
    refine G_icmp_ge (tgt := 73) dX7_richest_41 (by decide) (fun hc3 => ?_) (fun hc3 => ?_)
    · replace h := (if_neg hc3).symm.trans h
      refine G_sub [(2, .inl v2), (4, .inl v4), (5, .inl v5)] [0, 2, 3] rfl ?_
      obtain rfl := Option.some.inj h
      exact K
    · replace h := (if_pos hc3).symm.trans h
      refine G_aload_n dX7_richest_44 rfl ?_
      refine G_iload dX7_richest_45 rfl ?_
      obtain ⟨q3, hq3, h⟩ := bnd h
      refine G_callVv (T := TX1) (N := 8) (f := 1) (i := i3) (X1_handlesIn_ok hi3 hq3) ok_X1_handlesIn ml_X7_231 (by decide) rfl (by decide) (show i3 < 3 from hi3) (by decide) rfl rfl (Nat.le_of_ble_eq_true rfl) dX7_richest_47 ?_
      refine G_istore (L2 := [(7, .inl q3), (2, .inl v2), (3, .inr (.inr (1, i3))), (4, .inl v4), (5, .inl v5), (6, .inl v6)]) dX7_richest_50 (by decide) rfl ?_
      refine G_iload dX7_richest_52 rfl ?_
      refine G_iload dX7_richest_54 rfl ?_
      refine G_icmp_le (tgt := 67) dX7_richest_56 (by decide) (fun hc4 => ?_) (fun hc4 => ?_)
      · replace h := (if_neg hc4).symm.trans h
        refine G_iinc (v := (v6 + 1)) (L2 := [(6, .inl (v6 + 1)), (7, .inl q3), (2, .inl v2), (3, .inr (.inr (1, i3))), (4, .inl v4), (5, .inl v5)]) dX7_richest_67 rfl (by first | rfl | (show _ + Int32.ofInt _ = _; rfl)) (by decide) rfl ?_
        refine G_goto (tgt := 38) dX7_richest_70 (by decide) ?_
        refine G_sub [(2, .inl v2), (3, .inr (.inr (1, i3))), (4, .inl v4), (5, .inl v5), (6, .inl (v6 + 1))] [2, 3, 4, 5, 0] rfl ?_
        exact ih v2 i3 v4 v5 (v6 + 1) M _ hi3 h K
      · replace h := (if_pos hc4).symm.trans h
        refine G_iload dX7_richest_59 rfl ?_
        refine G_istore (L2 := [(4, .inl v6), (7, .inl q3), (2, .inl v2), (3, .inr (.inr (1, i3))), (5, .inl v5), (6, .inl v6)]) dX7_richest_61 (by decide) rfl ?_
        refine G_iload dX7_richest_63 rfl ?_
        refine G_istore (L2 := [(5, .inl q3), (4, .inl v6), (7, .inl q3), (2, .inl v2), (3, .inr (.inr (1, i3))), (6, .inl v6)]) dX7_richest_65 (by decide) rfl ?_
        refine G_iinc (v := (v6 + 1)) (L2 := [(6, .inl (v6 + 1)), (5, .inl q3), (4, .inl v6), (7, .inl q3), (2, .inl v2), (3, .inr (.inr (1, i3)))]) dX7_richest_67 rfl (by first | rfl | (show _ + Int32.ofInt _ = _; rfl)) (by decide) rfl ?_
        refine G_goto (tgt := 38) dX7_richest_70 (by decide) ?_
        refine G_sub [(2, .inl v2), (3, .inr (.inr (1, i3))), (4, .inl v6), (5, .inl q3), (6, .inl (v6 + 1))] [4, 5, 2, 1, 0] rfl ?_
        exact ih v2 i3 v6 q3 (v6 + 1) M _ hi3 h K

def X7_richest (v1 : Int32) (v2 : Int32) (M : Mem) : Option (Int32 × Mem) := (if (X7_isWithin v1 60) = 0 then ((X7_fail 1 M).bind fun q1 => (some (q1.1, q1.2))) else (if (X7_isWithin v2 1) = 0 then ((X7_fail 1 M).bind fun q5 => (some (q5.1, q5.2))) else ((X7_behind v1 M).bind fun q2 => (if q2.1 < 3 then ((X7_richest_L38 400 v2 q2.1 0 (-1) 0 q2.2).bind fun q4 => (if v2 = 0 then (some (q4.1, q2.2)) else (some (q4.2, q2.2)))) else none))))
set_option maxRecDepth 100000 in
set_option maxHeartbeats 4000000 in
theorem X7_richest_ok  {v1 : Int32} {v2 : Int32} {M N : Mem} {res : Int32 × Mem} (h : X7_richest v1 v2 M = some res) : Spec mt_X7_richest 6 [.inr (.inr (7, 0)), .inl v1, .inl v2] (M, N) (some (.inl res.1)) (res.2, N) := by
  unfold X7_richest at h
  refine Spec_of_G (by decide) rfl (Nat.le_of_ble_eq_true rfl) ?_
  refine G_sub [(0, .inr (.inr (7, 0))), (1, .inl v1), (2, .inl v2)] [0, 1, 2] rfl ?_
  refine G_iload_n dX7_richest_0 rfl ?_
  refine G_bipush (v := 60) dX7_richest_1 (by decide) ?_
  refine G_callSv  (X7_isWithin_ok rfl) ok_X7_isWithin ml_X7_61 (by decide) rfl rfl (Nat.le_of_ble_eq_true rfl) dX7_richest_3 ?_
  refine G_if_eq (tgt := 17) dX7_richest_6 (by decide) (fun hc1 => ?_) (fun hc1 => ?_)
  · replace h := (if_pos hc1).symm.trans h
    refine G_aload_n dX7_richest_17 rfl ?_
    refine G_iconst (v := 1) dX7_richest_18 (by decide) ?_
    obtain ⟨q1, hq1, h⟩ := bnd h
    refine G_callVv (T := TX7) (N := 10) (f := 7) (i := 0) (X7_fail_ok hq1) ok_X7_fail ml_X7_65 (by decide) rfl (by decide) (by decide) (by decide) rfl rfl (Nat.le_of_ble_eq_true rfl) dX7_richest_19 ?_
    obtain rfl := Option.some.inj h
    exact G_ret dX7_richest_22 trivial rfl rfl
  · replace h := (if_neg hc1).symm.trans h
    refine G_iload_n dX7_richest_9 rfl ?_
    refine G_iconst (v := 1) dX7_richest_10 (by decide) ?_
    refine G_callSv  (X7_isWithin_ok rfl) ok_X7_isWithin ml_X7_61 (by decide) rfl rfl (Nat.le_of_ble_eq_true rfl) dX7_richest_11 ?_
    refine G_if_ne (tgt := 23) dX7_richest_14 (by decide) (fun hc2 => ?_) (fun hc2 => ?_)
    · replace h := (if_neg hc2).symm.trans h
      refine G_aload_n dX7_richest_23 rfl ?_
      refine G_iload_n dX7_richest_24 rfl ?_
      obtain ⟨q2, hq2, h⟩ := bnd h
      refine G_callVv (T := TX7) (N := 10) (f := 7) (i := 0) (X7_behind_ok hq2) ok_X7_behind ml_X7_188 (by decide) rfl (by decide) (by decide) (by decide) rfl rfl (Nat.le_of_ble_eq_true rfl) dX7_richest_25 ?_
      obtain ⟨lq2, h⟩ := chk h
      refine G_astore_n (L2 := [(3, .inr (.inr (1, q2.1))), (0, .inr (.inr (7, 0))), (1, .inl v1), (2, .inl v2)]) dX7_richest_28 (by decide) rfl ?_
      refine G_iconst (v := 0) dX7_richest_29 (by decide) ?_
      refine G_istore (L2 := [(4, .inl 0), (3, .inr (.inr (1, q2.1))), (0, .inr (.inr (7, 0))), (1, .inl v1), (2, .inl v2)]) dX7_richest_30 (by decide) rfl ?_
      refine G_iconst (v := (-1)) dX7_richest_32 (by decide) ?_
      refine G_istore (L2 := [(5, .inl (-1)), (4, .inl 0), (3, .inr (.inr (1, q2.1))), (0, .inr (.inr (7, 0))), (1, .inl v1), (2, .inl v2)]) dX7_richest_33 (by decide) rfl ?_
      refine G_iconst (v := 0) dX7_richest_35 (by decide) ?_
      refine G_istore (L2 := [(6, .inl 0), (5, .inl (-1)), (4, .inl 0), (3, .inr (.inr (1, q2.1))), (0, .inr (.inr (7, 0))), (1, .inl v1), (2, .inl v2)]) dX7_richest_36 (by decide) rfl ?_
      refine G_sub [(2, .inl v2), (3, .inr (.inr (1, q2.1))), (4, .inl 0), (5, .inl (-1)), (6, .inl 0)] [6, 3, 2, 1, 0] rfl ?_
      obtain ⟨q4, hq4, h⟩ := bnd h
      refine X7_richest_L38_ok  400 v2 q2.1 0 (-1) 0 q2.2 _ (by omega) hq4 ?_
      refine G_iload_n dX7_richest_73 rfl ?_
      refine G_if_ne (tgt := 82) dX7_richest_74 (by decide) (fun hc5 => ?_) (fun hc5 => ?_)
      · replace h := (if_neg hc5).symm.trans h
        refine G_iload dX7_richest_82 rfl ?_
        obtain rfl := Option.some.inj h
        exact G_ret dX7_richest_84 trivial rfl rfl
      · replace h := (if_pos hc5).symm.trans h
        refine G_iload dX7_richest_77 rfl ?_
        refine G_goto (tgt := 84) dX7_richest_79 (by decide) ?_
        obtain rfl := Option.some.inj h
        exact G_ret dX7_richest_84 trivial rfl rfl
    · replace h := (if_pos hc2).symm.trans h
      refine G_aload_n dX7_richest_17 rfl ?_
      refine G_iconst (v := 1) dX7_richest_18 (by decide) ?_
      obtain ⟨q5, hq5, h⟩ := bnd h
      refine G_callVv (T := TX7) (N := 10) (f := 7) (i := 0) (X7_fail_ok hq5) ok_X7_fail ml_X7_65 (by decide) rfl (by decide) (by decide) (by decide) rfl rfl (Nat.le_of_ble_eq_true rfl) dX7_richest_19 ?_
      obtain rfl := Option.some.inj h
      exact G_ret dX7_richest_22 trivial rfl rfl

theorem dX7_handlesIfStuck_0 : decode cX7_handlesIfStuck 0 = .ok (.aload_n 0, 1) := by decide +kernel
theorem dX7_handlesIfStuck_1 : decode cX7_handlesIfStuck 1 = .ok (.invokevirtual 192, 3) := by decide +kernel
theorem dX7_handlesIfStuck_4 : decode cX7_handlesIfStuck 4 = .ok (.astore_n 3, 1) := by decide +kernel
theorem dX7_handlesIfStuck_5 : decode cX7_handlesIfStuck 5 = .ok (.aload_n 3, 1) := by decide +kernel
theorem dX7_handlesIfStuck_6 : decode cX7_handlesIfStuck 6 = .ok (.getfield 85, 3) := by decide +kernel
theorem dX7_handlesIfStuck_9 : decode cX7_handlesIfStuck 9 = .ok (.iload_n 1, 1) := by decide +kernel
theorem dX7_handlesIfStuck_10 : decode cX7_handlesIfStuck 10 = .ok (.aaload, 1) := by decide +kernel
theorem dX7_handlesIfStuck_11 : decode cX7_handlesIfStuck 11 = .ok (.invokevirtual 134, 3) := by decide +kernel
theorem dX7_handlesIfStuck_14 : decode cX7_handlesIfStuck 14 = .ok (.ifCond .eq 12, 3) := by decide +kernel
theorem dX7_handlesIfStuck_17 : decode cX7_handlesIfStuck 17 = .ok (.aload_n 3, 1) := by decide +kernel
theorem dX7_handlesIfStuck_18 : decode cX7_handlesIfStuck 18 = .ok (.getfield 85, 3) := by decide +kernel
theorem dX7_handlesIfStuck_21 : decode cX7_handlesIfStuck 21 = .ok (.iload_n 1, 1) := by decide +kernel
theorem dX7_handlesIfStuck_22 : decode cX7_handlesIfStuck 22 = .ok (.aaload, 1) := by decide +kernel
theorem dX7_handlesIfStuck_23 : decode cX7_handlesIfStuck 23 = .ok (.invokevirtual 138, 3) := by decide +kernel
theorem dX7_handlesIfStuck_26 : decode cX7_handlesIfStuck 26 = .ok (.aload_n 3, 1) := by decide +kernel
theorem dX7_handlesIfStuck_27 : decode cX7_handlesIfStuck 27 = .ok (.iload_n 2, 1) := by decide +kernel
theorem dX7_handlesIfStuck_28 : decode cX7_handlesIfStuck 28 = .ok (.invokevirtual 179, 3) := by decide +kernel
theorem dX7_handlesIfStuck_31 : decode cX7_handlesIfStuck 31 = .ok (.aload_n 3, 1) := by decide +kernel
theorem dX7_handlesIfStuck_32 : decode cX7_handlesIfStuck 32 = .ok (.invokevirtual 182, 3) := by decide +kernel
theorem dX7_handlesIfStuck_35 : decode cX7_handlesIfStuck 35 = .ok (.ireturn, 1) := by decide +kernel
def X7_handlesIfStuck_J26 (v2 : Int32) (i3 : Nat) (M : Mem) : Option (Int32 × Mem) := ((X1_passYears i3 v2 M).bind fun q3 => ((X1_allHandles i3 q3).bind fun q4 => (some (q4, q3))))
set_option maxRecDepth 100000 in
set_option maxHeartbeats 4000000 in
theorem X7_handlesIfStuck_J26_ok  {v2 : Int32} {i3 : Nat} {M N : Mem} {res : Int32 × Mem} (hi3 : i3 < 3) (h : X7_handlesIfStuck_J26 v2 i3 M = some res) : G mt_X7_handlesIfStuck 5 (some (.inl res.1)) (res.2, N) 26 [(2, .inl v2), (3, .inr (.inr (1, i3)))] [] (M, N) := by
  unfold X7_handlesIfStuck_J26 at h
  refine G_aload_n dX7_handlesIfStuck_26 rfl ?_
  refine G_iload_n dX7_handlesIfStuck_27 rfl ?_
  obtain ⟨q3, hq3, h⟩ := bnd h
  refine G_callVn (T := TX1) (N := 8) (f := 1) (i := i3) (X1_passYears_ok hi3 hq3) ok_X1_passYears ml_X7_179 (by decide) rfl (by decide) (show i3 < 3 from hi3) (by decide) rfl rfl (Nat.le_of_ble_eq_true rfl) dX7_handlesIfStuck_28 ?_
  refine G_aload_n dX7_handlesIfStuck_31 rfl ?_
  obtain ⟨q4, hq4, h⟩ := bnd h
  refine G_callVv (T := TX1) (N := 8) (f := 1) (i := i3) (X1_allHandles_ok hi3 hq4) ok_X1_allHandles ml_X7_182 (by decide) rfl (by decide) (show i3 < 3 from hi3) (by decide) rfl rfl (Nat.le_of_ble_eq_true rfl) dX7_handlesIfStuck_32 ?_
  obtain rfl := Option.some.inj h
  exact G_ret dX7_handlesIfStuck_35 trivial rfl rfl

def X7_handlesIfStuck (v1 : Int32) (v2 : Int32) (M : Mem) : Option (Int32 × Mem) := ((X7_asNow M).bind fun q1 => (if q1.1 < 3 then (if ib v1 10 = true then (if (X3_canTakeFalseHandle (10 * q1.1 + v1.toNatClampNeg) q1.2) = 0 then (X7_handlesIfStuck_J26 v2 q1.1 q1.2) else ((X3_takeFalseHandle (10 * q1.1 + v1.toNatClampNeg) q1.2).bind fun q5 => (X7_handlesIfStuck_J26 v2 q1.1 q5))) else none) else none))
set_option maxRecDepth 100000 in
set_option maxHeartbeats 4000000 in
theorem X7_handlesIfStuck_ok  {v1 : Int32} {v2 : Int32} {M N : Mem} {res : Int32 × Mem} (h : X7_handlesIfStuck v1 v2 M = some res) : Spec mt_X7_handlesIfStuck 5 [.inr (.inr (7, 0)), .inl v1, .inl v2] (M, N) (some (.inl res.1)) (res.2, N) := by
  unfold X7_handlesIfStuck at h
  refine Spec_of_G (by decide) rfl (Nat.le_of_ble_eq_true rfl) ?_
  refine G_sub [(0, .inr (.inr (7, 0))), (1, .inl v1), (2, .inl v2)] [0, 1, 2] rfl ?_
  refine G_aload_n dX7_handlesIfStuck_0 rfl ?_
  obtain ⟨q1, hq1, h⟩ := bnd h
  refine G_callVv (T := TX7) (N := 10) (f := 7) (i := 0) (X7_asNow_ok hq1) ok_X7_asNow ml_X7_192 (by decide) rfl (by decide) (by decide) (by decide) rfl rfl (Nat.le_of_ble_eq_true rfl) dX7_handlesIfStuck_1 ?_
  obtain ⟨lq1, h⟩ := chk h
  refine G_astore_n (L2 := [(3, .inr (.inr (1, q1.1))), (0, .inr (.inr (7, 0))), (1, .inl v1), (2, .inl v2)]) dX7_handlesIfStuck_4 (by decide) rfl ?_
  refine G_aload_n dX7_handlesIfStuck_5 rfl ?_
  refine fg_X7_85 rfl (by omega) dX7_handlesIfStuck_6 ?_
  refine G_iload_n dX7_handlesIfStuck_9 rfl ?_
  obtain ⟨hb2, h⟩ := chk h
  have lhb2 := ib_lt hb2
  refine G_aald3 (by decide) (show q1.1 < 3 from (by omega)) (by decide) rfl hb2 dX7_handlesIfStuck_10 ?_
  refine G_callVv (T := TX3) (N := 8) (f := 3) (i := (10 * q1.1 + v1.toNatClampNeg)) (X3_canTakeFalseHandle_ok (by omega) rfl) ok_X3_canTakeFalseHandle ml_X7_134 (by decide) rfl (by decide) (show (10 * q1.1 + v1.toNatClampNeg) < 30 from (by omega)) (by decide) rfl rfl (Nat.le_of_ble_eq_true rfl) dX7_handlesIfStuck_11 ?_
  refine G_if_eq (tgt := 26) dX7_handlesIfStuck_14 (by decide) (fun hc1 => ?_) (fun hc1 => ?_)
  · replace h := (if_pos hc1).symm.trans h
    refine G_sub [(2, .inl v2), (3, .inr (.inr (1, q1.1)))] [3, 0] rfl ?_
    exact X7_handlesIfStuck_J26_ok  (by omega) h
  · replace h := (if_neg hc1).symm.trans h
    refine G_aload_n dX7_handlesIfStuck_17 rfl ?_
    refine fg_X7_85 rfl (by omega) dX7_handlesIfStuck_18 ?_
    refine G_iload_n dX7_handlesIfStuck_21 rfl ?_
    refine G_aald3 (by decide) (show q1.1 < 3 from (by omega)) (by decide) rfl hb2 dX7_handlesIfStuck_22 ?_
    obtain ⟨q5, hq5, h⟩ := bnd h
    refine G_callVn (T := TX3) (N := 8) (f := 3) (i := (10 * q1.1 + v1.toNatClampNeg)) (X3_takeFalseHandle_ok (by omega) hq5) ok_X3_takeFalseHandle ml_X7_138 (by decide) rfl (by decide) (show (10 * q1.1 + v1.toNatClampNeg) < 30 from (by omega)) (by decide) rfl rfl (Nat.le_of_ble_eq_true rfl) dX7_handlesIfStuck_23 ?_
    refine G_sub [(2, .inl v2), (3, .inr (.inr (1, q1.1)))] [3, 0] rfl ?_
    exact X7_handlesIfStuck_J26_ok  (by omega) h

theorem dX7_dealer_0 : decode cX7_dealer 0 = .ok (.iload_n 1, 1) := by decide +kernel
theorem dX7_dealer_1 : decode cX7_dealer 1 = .ok (.bipush 30, 2) := by decide +kernel
theorem dX7_dealer_3 : decode cX7_dealer 3 = .ok (.invokestatic 61, 3) := by decide +kernel
theorem dX7_dealer_6 : decode cX7_dealer 6 = .ok (.ifCond .ne 9, 3) := by decide +kernel
theorem dX7_dealer_9 : decode cX7_dealer 9 = .ok (.aload_n 0, 1) := by decide +kernel
theorem dX7_dealer_10 : decode cX7_dealer 10 = .ok (.iconst 1, 1) := by decide +kernel
theorem dX7_dealer_11 : decode cX7_dealer 11 = .ok (.invokevirtual 65, 3) := by decide +kernel
theorem dX7_dealer_14 : decode cX7_dealer 14 = .ok (.ireturn, 1) := by decide +kernel
theorem dX7_dealer_15 : decode cX7_dealer 15 = .ok (.iconst (-1), 1) := by decide +kernel
theorem dX7_dealer_16 : decode cX7_dealer 16 = .ok (.istore_n 2, 1) := by decide +kernel
theorem dX7_dealer_17 : decode cX7_dealer 17 = .ok (.aload_n 0, 1) := by decide +kernel
theorem dX7_dealer_18 : decode cX7_dealer 18 = .ok (.iload_n 1, 1) := by decide +kernel
theorem dX7_dealer_19 : decode cX7_dealer 19 = .ok (.invokevirtual 188, 3) := by decide +kernel
theorem dX7_dealer_22 : decode cX7_dealer 22 = .ok (.invokevirtual 182, 3) := by decide +kernel
theorem dX7_dealer_25 : decode cX7_dealer 25 = .ok (.istore_n 3, 1) := by decide +kernel
theorem dX7_dealer_26 : decode cX7_dealer 26 = .ok (.iconst 0, 1) := by decide +kernel
theorem dX7_dealer_27 : decode cX7_dealer 27 = .ok (.istore 4, 2) := by decide +kernel
theorem dX7_dealer_29 : decode cX7_dealer 29 = .ok (.iload 4, 2) := by decide +kernel
theorem dX7_dealer_31 : decode cX7_dealer 31 = .ok (.aload_n 0, 1) := by decide +kernel
theorem dX7_dealer_32 : decode cX7_dealer 32 = .ok (.getfield 10, 3) := by decide +kernel
theorem dX7_dealer_35 : decode cX7_dealer 35 = .ok (.getfield 81, 3) := by decide +kernel
theorem dX7_dealer_38 : decode cX7_dealer 38 = .ok (.if_icmp .ge 30, 3) := by decide +kernel
theorem dX7_dealer_41 : decode cX7_dealer 41 = .ok (.aload_n 0, 1) := by decide +kernel
theorem dX7_dealer_42 : decode cX7_dealer 42 = .ok (.iload 4, 2) := by decide +kernel
theorem dX7_dealer_44 : decode cX7_dealer 44 = .ok (.iload_n 1, 1) := by decide +kernel
theorem dX7_dealer_45 : decode cX7_dealer 45 = .ok (.invokevirtual 234, 3) := by decide +kernel
theorem dX7_dealer_48 : decode cX7_dealer 48 = .ok (.istore 5, 2) := by decide +kernel
theorem dX7_dealer_50 : decode cX7_dealer 50 = .ok (.iload 5, 2) := by decide +kernel
theorem dX7_dealer_52 : decode cX7_dealer 52 = .ok (.iload_n 3, 1) := by decide +kernel
theorem dX7_dealer_53 : decode cX7_dealer 53 = .ok (.if_icmp .le 9, 3) := by decide +kernel
theorem dX7_dealer_56 : decode cX7_dealer 56 = .ok (.iload 4, 2) := by decide +kernel
theorem dX7_dealer_58 : decode cX7_dealer 58 = .ok (.istore_n 2, 1) := by decide +kernel
theorem dX7_dealer_59 : decode cX7_dealer 59 = .ok (.iload 5, 2) := by decide +kernel
theorem dX7_dealer_61 : decode cX7_dealer 61 = .ok (.istore_n 3, 1) := by decide +kernel
theorem dX7_dealer_62 : decode cX7_dealer 62 = .ok (.iinc 4 1, 3) := by decide +kernel
theorem dX7_dealer_65 : decode cX7_dealer 65 = .ok (.goto (-36), 3) := by decide +kernel
theorem dX7_dealer_68 : decode cX7_dealer 68 = .ok (.iload_n 2, 1) := by decide +kernel
theorem dX7_dealer_69 : decode cX7_dealer 69 = .ok (.ireturn, 1) := by decide +kernel
def X7_dealer_L29 : Nat → Int32 → Int32 → Int32 → Int32 → Mem → Option (Int32 × Mem)
  | 0, _, _, _, _, _ => none
  | fu + 1, v1, v2, v3, v4, M => (if v4 < (M 1 0 5) then ((X7_handlesIfStuck v4 v1 M).bind fun q3 => (if v3 < q3.1 then (X7_dealer_L29 fu v1 v4 q3.1 (v4 + 1) q3.2) else (X7_dealer_L29 fu v1 v2 v3 (v4 + 1) q3.2))) else (some (v2, M)))
set_option maxRecDepth 100000 in
set_option maxHeartbeats 4000000 in
theorem X7_dealer_L29_ok  {r : Option AV} {M' : MM} : ∀ (fu : Nat) (v1 : Int32) (v2 : Int32) (v3 : Int32) (v4 : Int32) (M N : Mem) {res : Int32 × Mem} (h : X7_dealer_L29 fu v1 v2 v3 v4 M = some res) (K : G mt_X7_dealer 6 r M' 68 [(2, .inl res.1)] [] (res.2, N)), G mt_X7_dealer 6 r M' 29 [(0, .inr (.inr (7, 0))), (1, .inl v1), (2, .inl v2), (3, .inl v3), (4, .inl v4)] [] (M, N) := by
  intro fu
  induction fu with
  | zero =>
    intro v1 v2 v3 v4 M N res h
    cases h
  | succ fu ih =>
    intro v1 v2 v3 v4 M N res h K
    replace h : (if v4 < (M 1 0 5) then ((X7_handlesIfStuck v4 v1 M).bind fun q3 => (if v3 < q3.1 then (X7_dealer_L29 fu v1 v4 q3.1 (v4 + 1) q3.2) else (X7_dealer_L29 fu v1 v2 v3 (v4 + 1) q3.2))) else (some (v2, M))) = some res := h
    refine G_iload dX7_dealer_29 rfl ?_
    refine G_aload_n dX7_dealer_31 rfl ?_
    refine fg_X7_10 rfl (by decide) dX7_dealer_32 ?_
    refine fg_X7_81 (v := (M 1 0 5)) rfl rfl (by decide) dX7_dealer_35 ?_
    refine G_icmp_ge (tgt := 68) dX7_dealer_38 (by decide) (fun hc2 => ?_) (fun hc2 => ?_)
    · replace h := (if_neg hc2).symm.trans h
      refine G_sub [(2, .inl v2)] [2] rfl ?_
      obtain rfl := Option.some.inj h
      exact K
    · replace h := (if_pos hc2).symm.trans h
      refine G_aload_n dX7_dealer_41 rfl ?_
      refine G_iload dX7_dealer_42 rfl ?_
      refine G_iload_n dX7_dealer_44 rfl ?_
      obtain ⟨q3, hq3, h⟩ := bnd h
      refine G_callVv (T := TX7) (N := 10) (f := 7) (i := 0) (X7_handlesIfStuck_ok hq3) ok_X7_handlesIfStuck ml_X7_234 (by decide) rfl (by decide) (by decide) (by decide) rfl rfl (Nat.le_of_ble_eq_true rfl) dX7_dealer_45 ?_
      refine G_istore (L2 := [(5, .inl q3.1), (0, .inr (.inr (7, 0))), (1, .inl v1), (2, .inl v2), (3, .inl v3), (4, .inl v4)]) dX7_dealer_48 (by decide) rfl ?_
      refine G_iload dX7_dealer_50 rfl ?_
      refine G_iload_n dX7_dealer_52 rfl ?_
      refine G_icmp_le (tgt := 62) dX7_dealer_53 (by decide) (fun hc3 => ?_) (fun hc3 => ?_)
      · replace h := (if_neg hc3).symm.trans h
        refine G_iinc (v := (v4 + 1)) (L2 := [(4, .inl (v4 + 1)), (5, .inl q3.1), (0, .inr (.inr (7, 0))), (1, .inl v1), (2, .inl v2), (3, .inl v3)]) dX7_dealer_62 rfl (by first | rfl | (show _ + Int32.ofInt _ = _; rfl)) (by decide) rfl ?_
        refine G_goto (tgt := 29) dX7_dealer_65 (by decide) ?_
        refine G_sub [(0, .inr (.inr (7, 0))), (1, .inl v1), (2, .inl v2), (3, .inl v3), (4, .inl (v4 + 1))] [2, 3, 4, 5, 0] rfl ?_
        exact ih v1 v2 v3 (v4 + 1) q3.2 _  h K
      · replace h := (if_pos hc3).symm.trans h
        refine G_iload dX7_dealer_56 rfl ?_
        refine G_istore_n (L2 := [(2, .inl v4), (5, .inl q3.1), (0, .inr (.inr (7, 0))), (1, .inl v1), (3, .inl v3), (4, .inl v4)]) dX7_dealer_58 (by decide) rfl ?_
        refine G_iload dX7_dealer_59 rfl ?_
        refine G_istore_n (L2 := [(3, .inl q3.1), (2, .inl v4), (5, .inl q3.1), (0, .inr (.inr (7, 0))), (1, .inl v1), (4, .inl v4)]) dX7_dealer_61 (by decide) rfl ?_
        refine G_iinc (v := (v4 + 1)) (L2 := [(4, .inl (v4 + 1)), (3, .inl q3.1), (2, .inl v4), (5, .inl q3.1), (0, .inr (.inr (7, 0))), (1, .inl v1)]) dX7_dealer_62 rfl (by first | rfl | (show _ + Int32.ofInt _ = _; rfl)) (by decide) rfl ?_
        refine G_goto (tgt := 29) dX7_dealer_65 (by decide) ?_
        refine G_sub [(0, .inr (.inr (7, 0))), (1, .inl v1), (2, .inl v4), (3, .inl q3.1), (4, .inl (v4 + 1))] [4, 5, 2, 1, 0] rfl ?_
        exact ih v1 v4 q3.1 (v4 + 1) q3.2 _  h K

def X7_dealer (v1 : Int32) (M : Mem) : Option (Int32 × Mem) := (if (X7_isWithin v1 30) = 0 then ((X7_fail 1 M).bind fun q5 => (some (q5.1, q5.2))) else ((X7_behind v1 M).bind fun q1 => (if q1.1 < 3 then ((X1_allHandles q1.1 q1.2).bind fun q2 => ((X7_dealer_L29 400 v1 (-1) q2 0 q1.2).bind fun q4 => (some (q4.1, q4.2)))) else none)))
set_option maxRecDepth 100000 in
set_option maxHeartbeats 4000000 in
theorem X7_dealer_ok  {v1 : Int32} {M N : Mem} {res : Int32 × Mem} (h : X7_dealer v1 M = some res) : Spec mt_X7_dealer 6 [.inr (.inr (7, 0)), .inl v1] (M, N) (some (.inl res.1)) (res.2, N) := by
  unfold X7_dealer at h
  refine Spec_of_G (by decide) rfl (Nat.le_of_ble_eq_true rfl) ?_
  refine G_sub [(0, .inr (.inr (7, 0))), (1, .inl v1)] [0, 1] rfl ?_
  refine G_iload_n dX7_dealer_0 rfl ?_
  refine G_bipush (v := 30) dX7_dealer_1 (by decide) ?_
  refine G_callSv  (X7_isWithin_ok rfl) ok_X7_isWithin ml_X7_61 (by decide) rfl rfl (Nat.le_of_ble_eq_true rfl) dX7_dealer_3 ?_
  refine G_if_ne (tgt := 15) dX7_dealer_6 (by decide) (fun hc1 => ?_) (fun hc1 => ?_)
  · replace h := (if_neg hc1).symm.trans h
    refine G_iconst (v := (-1)) dX7_dealer_15 (by decide) ?_
    refine G_istore_n (L2 := [(2, .inl (-1)), (0, .inr (.inr (7, 0))), (1, .inl v1)]) dX7_dealer_16 (by decide) rfl ?_
    refine G_aload_n dX7_dealer_17 rfl ?_
    refine G_iload_n dX7_dealer_18 rfl ?_
    obtain ⟨q1, hq1, h⟩ := bnd h
    refine G_callVv (T := TX7) (N := 10) (f := 7) (i := 0) (X7_behind_ok hq1) ok_X7_behind ml_X7_188 (by decide) rfl (by decide) (by decide) (by decide) rfl rfl (Nat.le_of_ble_eq_true rfl) dX7_dealer_19 ?_
    obtain ⟨lq1, h⟩ := chk h
    obtain ⟨q2, hq2, h⟩ := bnd h
    refine G_callVv (T := TX1) (N := 8) (f := 1) (i := q1.1) (X1_allHandles_ok (by omega) hq2) ok_X1_allHandles ml_X7_182 (by decide) rfl (by decide) (show q1.1 < 3 from (by omega)) (by decide) rfl rfl (Nat.le_of_ble_eq_true rfl) dX7_dealer_22 ?_
    refine G_istore_n (L2 := [(3, .inl q2), (2, .inl (-1)), (0, .inr (.inr (7, 0))), (1, .inl v1)]) dX7_dealer_25 (by decide) rfl ?_
    refine G_iconst (v := 0) dX7_dealer_26 (by decide) ?_
    refine G_istore (L2 := [(4, .inl 0), (3, .inl q2), (2, .inl (-1)), (0, .inr (.inr (7, 0))), (1, .inl v1)]) dX7_dealer_27 (by decide) rfl ?_
    refine G_sub [(0, .inr (.inr (7, 0))), (1, .inl v1), (2, .inl (-1)), (3, .inl q2), (4, .inl 0)] [3, 4, 2, 1, 0] rfl ?_
    obtain ⟨q4, hq4, h⟩ := bnd h
    refine X7_dealer_L29_ok  400 v1 (-1) q2 0 q1.2 _  hq4 ?_
    refine G_iload_n dX7_dealer_68 rfl ?_
    obtain rfl := Option.some.inj h
    exact G_ret dX7_dealer_69 trivial rfl rfl
  · replace h := (if_pos hc1).symm.trans h
    refine G_aload_n dX7_dealer_9 rfl ?_
    refine G_iconst (v := 1) dX7_dealer_10 (by decide) ?_
    obtain ⟨q5, hq5, h⟩ := bnd h
    refine G_callVv (T := TX7) (N := 10) (f := 7) (i := 0) (X7_fail_ok hq5) ok_X7_fail ml_X7_65 (by decide) rfl (by decide) (by decide) (by decide) rfl rfl (Nat.le_of_ble_eq_true rfl) dX7_dealer_11 ?_
    obtain rfl := Option.some.inj h
    exact G_ret dX7_dealer_14 trivial rfl rfl

theorem dX7_whenBeing_0 : decode cX7_whenBeing 0 = .ok (.aload_n 0, 1) := by decide +kernel
theorem dX7_whenBeing_1 : decode cX7_whenBeing 1 = .ok (.invokevirtual 192, 3) := by decide +kernel
theorem dX7_whenBeing_4 : decode cX7_whenBeing 4 = .ok (.astore 4, 2) := by decide +kernel
theorem dX7_whenBeing_6 : decode cX7_whenBeing 6 = .ok (.aload 4, 2) := by decide +kernel
theorem dX7_whenBeing_8 : decode cX7_whenBeing 8 = .ok (.getfield 85, 3) := by decide +kernel
theorem dX7_whenBeing_11 : decode cX7_whenBeing 11 = .ok (.iload_n 1, 1) := by decide +kernel
theorem dX7_whenBeing_12 : decode cX7_whenBeing 12 = .ok (.aaload, 1) := by decide +kernel
theorem dX7_whenBeing_13 : decode cX7_whenBeing 13 = .ok (.iload_n 2, 1) := by decide +kernel
theorem dX7_whenBeing_14 : decode cX7_whenBeing 14 = .ok (.putfield 104, 3) := by decide +kernel
theorem dX7_whenBeing_17 : decode cX7_whenBeing 17 = .ok (.aload 4, 2) := by decide +kernel
theorem dX7_whenBeing_19 : decode cX7_whenBeing 19 = .ok (.iload_n 3, 1) := by decide +kernel
theorem dX7_whenBeing_20 : decode cX7_whenBeing 20 = .ok (.invokevirtual 179, 3) := by decide +kernel
theorem dX7_whenBeing_23 : decode cX7_whenBeing 23 = .ok (.aload 4, 2) := by decide +kernel
theorem dX7_whenBeing_25 : decode cX7_whenBeing 25 = .ok (.getfield 85, 3) := by decide +kernel
theorem dX7_whenBeing_28 : decode cX7_whenBeing 28 = .ok (.iload_n 1, 1) := by decide +kernel
theorem dX7_whenBeing_29 : decode cX7_whenBeing 29 = .ok (.aaload, 1) := by decide +kernel
theorem dX7_whenBeing_30 : decode cX7_whenBeing 30 = .ok (.areturn, 1) := by decide +kernel
def X7_whenBeing (v1 : Int32) (v2 : Int32) (v3 : Int32) (M : Mem) : Option (Nat × Mem) := ((X7_asNow M).bind fun q1 => (if q1.1 < 3 then (if ib v1 10 = true then ((X1_passYears q1.1 v3 (up3 q1.2 3 (10 * q1.1 + v1.toNatClampNeg) 2 v2)).bind fun q3 => (some ((10 * q1.1 + v1.toNatClampNeg), q3))) else none) else none))
set_option maxRecDepth 100000 in
set_option maxHeartbeats 4000000 in
theorem X7_whenBeing_ok  {v1 : Int32} {v2 : Int32} {v3 : Int32} {M N : Mem} {res : Nat × Mem} (h : X7_whenBeing v1 v2 v3 M = some res) : Spec mt_X7_whenBeing 5 [.inr (.inr (7, 0)), .inl v1, .inl v2, .inl v3] (M, N) (some (.inr (.inr (3, res.1)))) (res.2, N) := by
  unfold X7_whenBeing at h
  refine Spec_of_G (by decide) rfl (Nat.le_of_ble_eq_true rfl) ?_
  refine G_sub [(0, .inr (.inr (7, 0))), (1, .inl v1), (2, .inl v2), (3, .inl v3)] [0, 1, 2, 3] rfl ?_
  refine G_aload_n dX7_whenBeing_0 rfl ?_
  obtain ⟨q1, hq1, h⟩ := bnd h
  refine G_callVv (T := TX7) (N := 10) (f := 7) (i := 0) (X7_asNow_ok hq1) ok_X7_asNow ml_X7_192 (by decide) rfl (by decide) (by decide) (by decide) rfl rfl (Nat.le_of_ble_eq_true rfl) dX7_whenBeing_1 ?_
  obtain ⟨lq1, h⟩ := chk h
  refine G_astore (L2 := [(4, .inr (.inr (1, q1.1))), (0, .inr (.inr (7, 0))), (1, .inl v1), (2, .inl v2), (3, .inl v3)]) dX7_whenBeing_4 (by decide) rfl ?_
  refine G_aload dX7_whenBeing_6 rfl ?_
  refine fg_X7_85 rfl (by omega) dX7_whenBeing_8 ?_
  refine G_iload_n dX7_whenBeing_11 rfl ?_
  obtain ⟨hb2, h⟩ := chk h
  have lhb2 := ib_lt hb2
  refine G_aald3 (by decide) (show q1.1 < 3 from (by omega)) (by decide) rfl hb2 dX7_whenBeing_12 ?_
  refine G_iload_n dX7_whenBeing_13 rfl ?_
  refine fp_X7_104 rfl (by omega) dX7_whenBeing_14 ?_
  refine G_aload dX7_whenBeing_17 rfl ?_
  refine G_iload_n dX7_whenBeing_19 rfl ?_
  obtain ⟨q3, hq3, h⟩ := bnd h
  refine G_callVn (T := TX1) (N := 8) (f := 1) (i := q1.1) (X1_passYears_ok (by omega) hq3) ok_X1_passYears ml_X7_179 (by decide) rfl (by decide) (show q1.1 < 3 from (by omega)) (by decide) rfl rfl (Nat.le_of_ble_eq_true rfl) dX7_whenBeing_20 ?_
  refine G_aload dX7_whenBeing_23 rfl ?_
  refine fg_X7_85 rfl (by omega) dX7_whenBeing_25 ?_
  refine G_iload_n dX7_whenBeing_28 rfl ?_
  refine G_aald3 (by decide) (show q1.1 < 3 from (by omega)) (by decide) rfl hb2 dX7_whenBeing_29 ?_
  obtain rfl := Option.some.inj h
  exact G_ret dX7_whenBeing_30 trivial rfl rfl

theorem dX7_odds_0 : decode cX7_odds 0 = .ok (.aload_n 0, 1) := by decide +kernel
theorem dX7_odds_1 : decode cX7_odds 1 = .ok (.getfield 10, 3) := by decide +kernel
theorem dX7_odds_4 : decode cX7_odds 4 = .ok (.iload_n 1, 1) := by decide +kernel
theorem dX7_odds_5 : decode cX7_odds 5 = .ok (.invokevirtual 95, 3) := by decide +kernel
theorem dX7_odds_8 : decode cX7_odds 8 = .ok (.ifCond .eq 20, 3) := by decide +kernel
theorem dX7_odds_11 : decode cX7_odds 11 = .ok (.iload_n 2, 1) := by decide +kernel
theorem dX7_odds_12 : decode cX7_odds 12 = .ok (.bipush 60, 2) := by decide +kernel
theorem dX7_odds_14 : decode cX7_odds 14 = .ok (.invokestatic 61, 3) := by decide +kernel
theorem dX7_odds_17 : decode cX7_odds 17 = .ok (.ifCond .eq 11, 3) := by decide +kernel
theorem dX7_odds_20 : decode cX7_odds 20 = .ok (.iload_n 3, 1) := by decide +kernel
theorem dX7_odds_21 : decode cX7_odds 21 = .ok (.iconst 1, 1) := by decide +kernel
theorem dX7_odds_22 : decode cX7_odds 22 = .ok (.invokestatic 61, 3) := by decide +kernel
theorem dX7_odds_25 : decode cX7_odds 25 = .ok (.ifCond .ne 9, 3) := by decide +kernel
theorem dX7_odds_28 : decode cX7_odds 28 = .ok (.aload_n 0, 1) := by decide +kernel
theorem dX7_odds_29 : decode cX7_odds 29 = .ok (.iconst 1, 1) := by decide +kernel
theorem dX7_odds_30 : decode cX7_odds 30 = .ok (.invokevirtual 65, 3) := by decide +kernel
theorem dX7_odds_33 : decode cX7_odds 33 = .ok (.ireturn, 1) := by decide +kernel
theorem dX7_odds_34 : decode cX7_odds 34 = .ok (.iconst 0, 1) := by decide +kernel
theorem dX7_odds_35 : decode cX7_odds 35 = .ok (.istore 4, 2) := by decide +kernel
theorem dX7_odds_37 : decode cX7_odds 37 = .ok (.aload_n 0, 1) := by decide +kernel
theorem dX7_odds_38 : decode cX7_odds 38 = .ok (.getfield 10, 3) := by decide +kernel
theorem dX7_odds_41 : decode cX7_odds 41 = .ok (.getfield 85, 3) := by decide +kernel
theorem dX7_odds_44 : decode cX7_odds 44 = .ok (.iload_n 1, 1) := by decide +kernel
theorem dX7_odds_45 : decode cX7_odds 45 = .ok (.aaload, 1) := by decide +kernel
theorem dX7_odds_46 : decode cX7_odds 46 = .ok (.getfield 104, 3) := by decide +kernel
theorem dX7_odds_49 : decode cX7_odds 49 = .ok (.iconst (-1), 1) := by decide +kernel
theorem dX7_odds_50 : decode cX7_odds 50 = .ok (.if_icmp .eq 48, 3) := by decide +kernel
theorem dX7_odds_53 : decode cX7_odds 53 = .ok (.iconst 0, 1) := by decide +kernel
theorem dX7_odds_54 : decode cX7_odds 54 = .ok (.istore 5, 2) := by decide +kernel
theorem dX7_odds_56 : decode cX7_odds 56 = .ok (.iload 5, 2) := by decide +kernel
theorem dX7_odds_58 : decode cX7_odds 58 = .ok (.iconst 5, 1) := by decide +kernel
theorem dX7_odds_59 : decode cX7_odds 59 = .ok (.if_icmp .ge 39, 3) := by decide +kernel
theorem dX7_odds_62 : decode cX7_odds 62 = .ok (.aload_n 0, 1) := by decide +kernel
theorem dX7_odds_63 : decode cX7_odds 63 = .ok (.iload_n 1, 1) := by decide +kernel
theorem dX7_odds_64 : decode cX7_odds 64 = .ok (.iload 5, 2) := by decide +kernel
theorem dX7_odds_66 : decode cX7_odds 66 = .ok (.iload_n 2, 1) := by decide +kernel
theorem dX7_odds_67 : decode cX7_odds 67 = .ok (.invokevirtual 237, 3) := by decide +kernel
theorem dX7_odds_70 : decode cX7_odds 70 = .ok (.astore 6, 2) := by decide +kernel
theorem dX7_odds_72 : decode cX7_odds 72 = .ok (.aload 6, 2) := by decide +kernel
theorem dX7_odds_74 : decode cX7_odds 74 = .ok (.getfield 104, 3) := by decide +kernel
theorem dX7_odds_77 : decode cX7_odds 77 = .ok (.iconst (-1), 1) := by decide +kernel
theorem dX7_odds_78 : decode cX7_odds 78 = .ok (.if_icmp .eq 14, 3) := by decide +kernel
theorem dX7_odds_81 : decode cX7_odds 81 = .ok (.aload 6, 2) := by decide +kernel
theorem dX7_odds_83 : decode cX7_odds 83 = .ok (.getfield 116, 3) := by decide +kernel
theorem dX7_odds_86 : decode cX7_odds 86 = .ok (.ifCond .le 6, 3) := by decide +kernel
theorem dX7_odds_89 : decode cX7_odds 89 = .ok (.iinc 4 1, 3) := by decide +kernel
theorem dX7_odds_92 : decode cX7_odds 92 = .ok (.iinc 5 1, 3) := by decide +kernel
theorem dX7_odds_95 : decode cX7_odds 95 = .ok (.goto (-39), 3) := by decide +kernel
theorem dX7_odds_98 : decode cX7_odds 98 = .ok (.iload 4, 2) := by decide +kernel
theorem dX7_odds_100 : decode cX7_odds 100 = .ok (.ifCond .eq 9, 3) := by decide +kernel
theorem dX7_odds_103 : decode cX7_odds 103 = .ok (.iload 4, 2) := by decide +kernel
theorem dX7_odds_105 : decode cX7_odds 105 = .ok (.iconst 5, 1) := by decide +kernel
theorem dX7_odds_106 : decode cX7_odds 106 = .ok (.if_icmp .ne 7, 3) := by decide +kernel
theorem dX7_odds_109 : decode cX7_odds 109 = .ok (.iconst 1, 1) := by decide +kernel
theorem dX7_odds_110 : decode cX7_odds 110 = .ok (.goto 4, 3) := by decide +kernel
theorem dX7_odds_113 : decode cX7_odds 113 = .ok (.iconst 0, 1) := by decide +kernel
theorem dX7_odds_114 : decode cX7_odds 114 = .ok (.istore 5, 2) := by decide +kernel
theorem dX7_odds_116 : decode cX7_odds 116 = .ok (.iload_n 3, 1) := by decide +kernel
theorem dX7_odds_117 : decode cX7_odds 117 = .ok (.ifCond .ne 18, 3) := by decide +kernel
theorem dX7_odds_120 : decode cX7_odds 120 = .ok (.iload 5, 2) := by decide +kernel
theorem dX7_odds_122 : decode cX7_odds 122 = .ok (.ifCond .eq 10, 3) := by decide +kernel
theorem dX7_odds_125 : decode cX7_odds 125 = .ok (.iload 4, 2) := by decide +kernel
theorem dX7_odds_127 : decode cX7_odds 127 = .ok (.iconst 5, 1) := by decide +kernel
theorem dX7_odds_128 : decode cX7_odds 128 = .ok (.idiv, 1) := by decide +kernel
theorem dX7_odds_129 : decode cX7_odds 129 = .ok (.goto 5, 3) := by decide +kernel
theorem dX7_odds_132 : decode cX7_odds 132 = .ok (.iload 4, 2) := by decide +kernel
theorem dX7_odds_134 : decode cX7_odds 134 = .ok (.ireturn, 1) := by decide +kernel
theorem dX7_odds_135 : decode cX7_odds 135 = .ok (.iload 5, 2) := by decide +kernel
theorem dX7_odds_137 : decode cX7_odds 137 = .ok (.ifCond .eq 7, 3) := by decide +kernel
theorem dX7_odds_140 : decode cX7_odds 140 = .ok (.iconst 1, 1) := by decide +kernel
theorem dX7_odds_141 : decode cX7_odds 141 = .ok (.goto 4, 3) := by decide +kernel
theorem dX7_odds_144 : decode cX7_odds 144 = .ok (.iconst 5, 1) := by decide +kernel
theorem dX7_odds_145 : decode cX7_odds 145 = .ok (.ireturn, 1) := by decide +kernel
def X7_odds_J114 (v3 : Int32) (v4 : Int32) (s0 : Int32) (M : Mem) : Option (Int32 × Mem) := (if v3 = 0 then (if s0 = 0 then (some (v4, M)) else (some ((v4 / 5), M))) else (if s0 = 0 then (some (5, M)) else (some (1, M))))
set_option maxRecDepth 100000 in
set_option maxHeartbeats 4000000 in
theorem X7_odds_J114_ok  {v3 : Int32} {v4 : Int32} {s0 : Int32} {M N : Mem} {res : Int32 × Mem} (h : X7_odds_J114 v3 v4 s0 M = some res) : G mt_X7_odds 6 (some (.inl res.1)) (res.2, N) 114 [(3, .inl v3), (4, .inl v4)] [.inl s0] (M, N) := by
  unfold X7_odds_J114 at h
  refine G_istore (L2 := [(5, .inl s0), (3, .inl v3), (4, .inl v4)]) dX7_odds_114 (by decide) rfl ?_
  refine G_iload_n dX7_odds_116 rfl ?_
  refine G_if_ne (tgt := 135) dX7_odds_117 (by decide) (fun hc6 => ?_) (fun hc6 => ?_)
  · replace h := (if_neg hc6).symm.trans h
    refine G_iload dX7_odds_135 rfl ?_
    refine G_if_eq (tgt := 144) dX7_odds_137 (by decide) (fun hc7 => ?_) (fun hc7 => ?_)
    · replace h := (if_pos hc7).symm.trans h
      refine G_iconst (v := 5) dX7_odds_144 (by decide) ?_
      obtain rfl := Option.some.inj h
      exact G_ret dX7_odds_145 trivial rfl rfl
    · replace h := (if_neg hc7).symm.trans h
      refine G_iconst (v := 1) dX7_odds_140 (by decide) ?_
      refine G_goto (tgt := 145) dX7_odds_141 (by decide) ?_
      obtain rfl := Option.some.inj h
      exact G_ret dX7_odds_145 trivial rfl rfl
  · replace h := (if_pos hc6).symm.trans h
    refine G_iload dX7_odds_120 rfl ?_
    refine G_if_eq (tgt := 132) dX7_odds_122 (by decide) (fun hc8 => ?_) (fun hc8 => ?_)
    · replace h := (if_pos hc8).symm.trans h
      refine G_iload dX7_odds_132 rfl ?_
      obtain rfl := Option.some.inj h
      exact G_ret dX7_odds_134 trivial rfl rfl
    · replace h := (if_neg hc8).symm.trans h
      refine G_iload dX7_odds_125 rfl ?_
      refine G_iconst (v := 5) dX7_odds_127 (by decide) ?_
      refine G_idiv (by decide) dX7_odds_128 ?_
      refine G_goto (tgt := 134) dX7_odds_129 (by decide) ?_
      obtain rfl := Option.some.inj h
      exact G_ret dX7_odds_134 trivial rfl rfl

def X7_odds_J109 (v3 : Int32) (v4 : Int32) (M : Mem) : Option (Int32 × Mem) := (X7_odds_J114 v3 v4 1 M)
set_option maxRecDepth 100000 in
set_option maxHeartbeats 4000000 in
theorem X7_odds_J109_ok  {v3 : Int32} {v4 : Int32} {M N : Mem} {res : Int32 × Mem} (h : X7_odds_J109 v3 v4 M = some res) : G mt_X7_odds 6 (some (.inl res.1)) (res.2, N) 109 [(3, .inl v3), (4, .inl v4)] [] (M, N) := by
  unfold X7_odds_J109 at h
  refine G_iconst (v := 1) dX7_odds_109 (by decide) ?_
  refine G_goto (tgt := 114) dX7_odds_110 (by decide) ?_
  exact X7_odds_J114_ok   h

def X7_odds_J98 (v3 : Int32) (v4 : Int32) (M : Mem) : Option (Int32 × Mem) := (if v4 = 0 then (X7_odds_J109 v3 v4 M) else (if v4 = 5 then (X7_odds_J109 v3 v4 M) else (X7_odds_J114 v3 v4 0 M)))
set_option maxRecDepth 100000 in
set_option maxHeartbeats 4000000 in
theorem X7_odds_J98_ok  {v3 : Int32} {v4 : Int32} {M N : Mem} {res : Int32 × Mem} (h : X7_odds_J98 v3 v4 M = some res) : G mt_X7_odds 6 (some (.inl res.1)) (res.2, N) 98 [(3, .inl v3), (4, .inl v4)] [] (M, N) := by
  unfold X7_odds_J98 at h
  refine G_iload dX7_odds_98 rfl ?_
  refine G_if_eq (tgt := 109) dX7_odds_100 (by decide) (fun hc5 => ?_) (fun hc5 => ?_)
  · replace h := (if_pos hc5).symm.trans h
    exact X7_odds_J109_ok   h
  · replace h := (if_neg hc5).symm.trans h
    refine G_iload dX7_odds_103 rfl ?_
    refine G_iconst (v := 5) dX7_odds_105 (by decide) ?_
    refine G_icmp_ne (tgt := 113) dX7_odds_106 (by decide) (fun hc9 => ?_) (fun hc9 => ?_)
    · replace h := (if_neg hc9).symm.trans h
      refine G_iconst (v := 0) dX7_odds_113 (by decide) ?_
      exact X7_odds_J114_ok   h
    · replace h := (if_pos hc9).symm.trans h
      exact X7_odds_J109_ok   h

def X7_odds_L56 : Nat → Int32 → Int32 → Int32 → Int32 → Int32 → Mem → Option (Int32 × Mem)
  | 0, _, _, _, _, _, _ => none
  | fu + 1, v1, v2, v3, v4, v5, M => (if v5 < 5 then ((X7_whenBeing v1 v5 v2 M).bind fun q4 => (if q4.1 < 30 then (if (q4.2 3 q4.1 2) = (-1) then (X7_odds_L56 fu v1 v2 v3 v4 (v5 + 1) q4.2) else (if 0 < (q4.2 3 q4.1 6) then (X7_odds_L56 fu v1 v2 v3 (v4 + 1) (v5 + 1) q4.2) else (X7_odds_L56 fu v1 v2 v3 v4 (v5 + 1) q4.2))) else none)) else (some (v4, M)))
set_option maxRecDepth 100000 in
set_option maxHeartbeats 4000000 in
theorem X7_odds_L56_ok  {r : Option AV} {M' : MM} : ∀ (fu : Nat) (v1 : Int32) (v2 : Int32) (v3 : Int32) (v4 : Int32) (v5 : Int32) (M N : Mem) {res : Int32 × Mem} (h : X7_odds_L56 fu v1 v2 v3 v4 v5 M = some res) (K : G mt_X7_odds 6 r M' 98 [(3, .inl v3), (4, .inl res.1)] [] (res.2, N)), G mt_X7_odds 6 r M' 56 [(0, .inr (.inr (7, 0))), (1, .inl v1), (2, .inl v2), (3, .inl v3), (4, .inl v4), (5, .inl v5)] [] (M, N) := by
  intro fu
  induction fu with
  | zero =>
    intro v1 v2 v3 v4 v5 M N res h
    cases h
  | succ fu ih =>
    intro v1 v2 v3 v4 v5 M N res h K
    replace h : (if v5 < 5 then ((X7_whenBeing v1 v5 v2 M).bind fun q4 => (if q4.1 < 30 then (if (q4.2 3 q4.1 2) = (-1) then (X7_odds_L56 fu v1 v2 v3 v4 (v5 + 1) q4.2) else (if 0 < (q4.2 3 q4.1 6) then (X7_odds_L56 fu v1 v2 v3 (v4 + 1) (v5 + 1) q4.2) else (X7_odds_L56 fu v1 v2 v3 v4 (v5 + 1) q4.2))) else none)) else (some (v4, M))) = some res := h
    refine G_iload dX7_odds_56 rfl ?_
    refine G_iconst (v := 5) dX7_odds_58 (by decide) ?_
    refine G_icmp_ge (tgt := 98) dX7_odds_59 (by decide) (fun hc10 => ?_) (fun hc10 => ?_)
    · replace h := (if_neg hc10).symm.trans h
      refine G_sub [(3, .inl v3), (4, .inl v4)] [3, 4] rfl ?_
      obtain rfl := Option.some.inj h
      exact K
    · replace h := (if_pos hc10).symm.trans h
      refine G_aload_n dX7_odds_62 rfl ?_
      refine G_iload_n dX7_odds_63 rfl ?_
      refine G_iload dX7_odds_64 rfl ?_
      refine G_iload_n dX7_odds_66 rfl ?_
      obtain ⟨q4, hq4, h⟩ := bnd h
      refine G_callVv (T := TX7) (N := 10) (f := 7) (i := 0) (X7_whenBeing_ok hq4) ok_X7_whenBeing ml_X7_237 (by decide) rfl (by decide) (by decide) (by decide) rfl rfl (Nat.le_of_ble_eq_true rfl) dX7_odds_67 ?_
      obtain ⟨lq4, h⟩ := chk h
      refine G_astore (L2 := [(6, .inr (.inr (3, q4.1))), (0, .inr (.inr (7, 0))), (1, .inl v1), (2, .inl v2), (3, .inl v3), (4, .inl v4), (5, .inl v5)]) dX7_odds_70 (by decide) rfl ?_
      refine G_aload dX7_odds_72 rfl ?_
      refine fg_X7_104 (v := (q4.2 3 q4.1 2)) rfl rfl (by omega) dX7_odds_74 ?_
      refine G_iconst (v := (-1)) dX7_odds_77 (by decide) ?_
      refine G_icmp_eq (tgt := 92) dX7_odds_78 (by decide) (fun hc11 => ?_) (fun hc11 => ?_)
      · replace h := (if_pos hc11).symm.trans h
        refine G_iinc (v := (v5 + 1)) (L2 := [(5, .inl (v5 + 1)), (6, .inr (.inr (3, q4.1))), (0, .inr (.inr (7, 0))), (1, .inl v1), (2, .inl v2), (3, .inl v3), (4, .inl v4)]) dX7_odds_92 rfl (by first | rfl | (show _ + Int32.ofInt _ = _; rfl)) (by decide) rfl ?_
        refine G_goto (tgt := 56) dX7_odds_95 (by decide) ?_
        refine G_sub [(0, .inr (.inr (7, 0))), (1, .inl v1), (2, .inl v2), (3, .inl v3), (4, .inl v4), (5, .inl (v5 + 1))] [2, 3, 4, 5, 6, 0] rfl ?_
        exact ih v1 v2 v3 v4 (v5 + 1) q4.2 _  h K
      · replace h := (if_neg hc11).symm.trans h
        refine G_aload dX7_odds_81 rfl ?_
        refine fg_X7_116 (v := (q4.2 3 q4.1 6)) rfl rfl (by omega) dX7_odds_83 ?_
        refine G_if_le (tgt := 92) dX7_odds_86 (by decide) (fun hc12 => ?_) (fun hc12 => ?_)
        · replace h := (if_neg hc12).symm.trans h
          refine G_iinc (v := (v5 + 1)) (L2 := [(5, .inl (v5 + 1)), (6, .inr (.inr (3, q4.1))), (0, .inr (.inr (7, 0))), (1, .inl v1), (2, .inl v2), (3, .inl v3), (4, .inl v4)]) dX7_odds_92 rfl (by first | rfl | (show _ + Int32.ofInt _ = _; rfl)) (by decide) rfl ?_
          refine G_goto (tgt := 56) dX7_odds_95 (by decide) ?_
          refine G_sub [(0, .inr (.inr (7, 0))), (1, .inl v1), (2, .inl v2), (3, .inl v3), (4, .inl v4), (5, .inl (v5 + 1))] [2, 3, 4, 5, 6, 0] rfl ?_
          exact ih v1 v2 v3 v4 (v5 + 1) q4.2 _  h K
        · replace h := (if_pos hc12).symm.trans h
          refine G_iinc (v := (v4 + 1)) (L2 := [(4, .inl (v4 + 1)), (6, .inr (.inr (3, q4.1))), (0, .inr (.inr (7, 0))), (1, .inl v1), (2, .inl v2), (3, .inl v3), (5, .inl v5)]) dX7_odds_89 rfl (by first | rfl | (show _ + Int32.ofInt _ = _; rfl)) (by decide) rfl ?_
          refine G_iinc (v := (v5 + 1)) (L2 := [(5, .inl (v5 + 1)), (4, .inl (v4 + 1)), (6, .inr (.inr (3, q4.1))), (0, .inr (.inr (7, 0))), (1, .inl v1), (2, .inl v2), (3, .inl v3)]) dX7_odds_92 rfl (by first | rfl | (show _ + Int32.ofInt _ = _; rfl)) (by decide) rfl ?_
          refine G_goto (tgt := 56) dX7_odds_95 (by decide) ?_
          refine G_sub [(0, .inr (.inr (7, 0))), (1, .inl v1), (2, .inl v2), (3, .inl v3), (4, .inl (v4 + 1)), (5, .inl (v5 + 1))] [3, 4, 5, 6, 1, 0] rfl ?_
          exact ih v1 v2 v3 (v4 + 1) (v5 + 1) q4.2 _  h K

def X7_odds (v1 : Int32) (v2 : Int32) (v3 : Int32) (M : Mem) : Option (Int32 × Mem) := (if (X1_has 0 v1 M) = 0 then ((X7_fail 1 M).bind fun q1 => (some (q1.1, q1.2))) else (if (X7_isWithin v2 60) = 0 then ((X7_fail 1 M).bind fun q2 => (some (q2.1, q2.2))) else (if (X7_isWithin v3 1) = 0 then ((X7_fail 1 M).bind fun q6 => (some (q6.1, q6.2))) else (if ib v1 10 = true then (if (M 3 (10 * 0 + v1.toNatClampNeg) 2) = (-1) then (X7_odds_J98 v3 0 M) else ((X7_odds_L56 400 v1 v2 v3 0 0 M).bind fun q5 => (X7_odds_J98 v3 q5.1 q5.2))) else none))))
set_option maxRecDepth 100000 in
set_option maxHeartbeats 4000000 in
theorem X7_odds_ok  {v1 : Int32} {v2 : Int32} {v3 : Int32} {M N : Mem} {res : Int32 × Mem} (h : X7_odds v1 v2 v3 M = some res) : Spec mt_X7_odds 6 [.inr (.inr (7, 0)), .inl v1, .inl v2, .inl v3] (M, N) (some (.inl res.1)) (res.2, N) := by
  unfold X7_odds at h
  refine Spec_of_G (by decide) rfl (Nat.le_of_ble_eq_true rfl) ?_
  refine G_sub [(0, .inr (.inr (7, 0))), (1, .inl v1), (2, .inl v2), (3, .inl v3)] [0, 1, 2, 3] rfl ?_
  refine G_aload_n dX7_odds_0 rfl ?_
  refine fg_X7_10 rfl (by decide) dX7_odds_1 ?_
  refine G_iload_n dX7_odds_4 rfl ?_
  refine G_callVv (T := TX1) (N := 8) (f := 1) (i := 0) (X1_has_ok (by decide) rfl) ok_X1_has ml_X7_95 (by decide) rfl (by decide) (by decide) (by decide) rfl rfl (Nat.le_of_ble_eq_true rfl) dX7_odds_5 ?_
  refine G_if_eq (tgt := 28) dX7_odds_8 (by decide) (fun hc1 => ?_) (fun hc1 => ?_)
  · replace h := (if_pos hc1).symm.trans h
    refine G_aload_n dX7_odds_28 rfl ?_
    refine G_iconst (v := 1) dX7_odds_29 (by decide) ?_
    obtain ⟨q1, hq1, h⟩ := bnd h
    refine G_callVv (T := TX7) (N := 10) (f := 7) (i := 0) (X7_fail_ok hq1) ok_X7_fail ml_X7_65 (by decide) rfl (by decide) (by decide) (by decide) rfl rfl (Nat.le_of_ble_eq_true rfl) dX7_odds_30 ?_
    obtain rfl := Option.some.inj h
    exact G_ret dX7_odds_33 trivial rfl rfl
  · replace h := (if_neg hc1).symm.trans h
    refine G_iload_n dX7_odds_11 rfl ?_
    refine G_bipush (v := 60) dX7_odds_12 (by decide) ?_
    refine G_callSv  (X7_isWithin_ok rfl) ok_X7_isWithin ml_X7_61 (by decide) rfl rfl (Nat.le_of_ble_eq_true rfl) dX7_odds_14 ?_
    refine G_if_eq (tgt := 28) dX7_odds_17 (by decide) (fun hc2 => ?_) (fun hc2 => ?_)
    · replace h := (if_pos hc2).symm.trans h
      refine G_aload_n dX7_odds_28 rfl ?_
      refine G_iconst (v := 1) dX7_odds_29 (by decide) ?_
      obtain ⟨q2, hq2, h⟩ := bnd h
      refine G_callVv (T := TX7) (N := 10) (f := 7) (i := 0) (X7_fail_ok hq2) ok_X7_fail ml_X7_65 (by decide) rfl (by decide) (by decide) (by decide) rfl rfl (Nat.le_of_ble_eq_true rfl) dX7_odds_30 ?_
      obtain rfl := Option.some.inj h
      exact G_ret dX7_odds_33 trivial rfl rfl
    · replace h := (if_neg hc2).symm.trans h
      refine G_iload_n dX7_odds_20 rfl ?_
      refine G_iconst (v := 1) dX7_odds_21 (by decide) ?_
      refine G_callSv  (X7_isWithin_ok rfl) ok_X7_isWithin ml_X7_61 (by decide) rfl rfl (Nat.le_of_ble_eq_true rfl) dX7_odds_22 ?_
      refine G_if_ne (tgt := 34) dX7_odds_25 (by decide) (fun hc3 => ?_) (fun hc3 => ?_)
      · replace h := (if_neg hc3).symm.trans h
        refine G_iconst (v := 0) dX7_odds_34 (by decide) ?_
        refine G_istore (L2 := [(4, .inl 0), (0, .inr (.inr (7, 0))), (1, .inl v1), (2, .inl v2), (3, .inl v3)]) dX7_odds_35 (by decide) rfl ?_
        refine G_aload_n dX7_odds_37 rfl ?_
        refine fg_X7_10 rfl (by decide) dX7_odds_38 ?_
        refine fg_X7_85 rfl (by decide) dX7_odds_41 ?_
        refine G_iload_n dX7_odds_44 rfl ?_
        obtain ⟨hb3, h⟩ := chk h
        have lhb3 := ib_lt hb3
        refine G_aald3 (by decide) (by decide) (by decide) rfl hb3 dX7_odds_45 ?_
        refine fg_X7_104 (v := (M 3 (10 * 0 + v1.toNatClampNeg) 2)) rfl rfl (by omega) dX7_odds_46 ?_
        refine G_iconst (v := (-1)) dX7_odds_49 (by decide) ?_
        refine G_icmp_eq (tgt := 98) dX7_odds_50 (by decide) (fun hc4 => ?_) (fun hc4 => ?_)
        · replace h := (if_pos hc4).symm.trans h
          refine G_sub [(3, .inl v3), (4, .inl 0)] [4, 0] rfl ?_
          exact X7_odds_J98_ok   h
        · replace h := (if_neg hc4).symm.trans h
          refine G_iconst (v := 0) dX7_odds_53 (by decide) ?_
          refine G_istore (L2 := [(5, .inl 0), (4, .inl 0), (0, .inr (.inr (7, 0))), (1, .inl v1), (2, .inl v2), (3, .inl v3)]) dX7_odds_54 (by decide) rfl ?_
          refine G_sub [(0, .inr (.inr (7, 0))), (1, .inl v1), (2, .inl v2), (3, .inl v3), (4, .inl 0), (5, .inl 0)] [2, 3, 4, 5, 1, 0] rfl ?_
          obtain ⟨q5, hq5, h⟩ := bnd h
          refine X7_odds_L56_ok  400 v1 v2 v3 0 0 M _  hq5 ?_
          exact X7_odds_J98_ok   h
      · replace h := (if_pos hc3).symm.trans h
        refine G_aload_n dX7_odds_28 rfl ?_
        refine G_iconst (v := 1) dX7_odds_29 (by decide) ?_
        obtain ⟨q6, hq6, h⟩ := bnd h
        refine G_callVv (T := TX7) (N := 10) (f := 7) (i := 0) (X7_fail_ok hq6) ok_X7_fail ml_X7_65 (by decide) rfl (by decide) (by decide) (by decide) rfl rfl (Nat.le_of_ble_eq_true rfl) dX7_odds_30 ?_
        obtain rfl := Option.some.inj h
        exact G_ret dX7_odds_33 trivial rfl rfl

theorem dX7_voice_0 : decode cX7_voice 0 = .ok (.aload_n 0, 1) := by decide +kernel
theorem dX7_voice_1 : decode cX7_voice 1 = .ok (.getfield 10, 3) := by decide +kernel
theorem dX7_voice_4 : decode cX7_voice 4 = .ok (.iload_n 1, 1) := by decide +kernel
theorem dX7_voice_5 : decode cX7_voice 5 = .ok (.invokevirtual 95, 3) := by decide +kernel
theorem dX7_voice_8 : decode cX7_voice 8 = .ok (.ifCond .eq 11, 3) := by decide +kernel
theorem dX7_voice_11 : decode cX7_voice 11 = .ok (.iload_n 2, 1) := by decide +kernel
theorem dX7_voice_12 : decode cX7_voice 12 = .ok (.iconst 3, 1) := by decide +kernel
theorem dX7_voice_13 : decode cX7_voice 13 = .ok (.invokestatic 61, 3) := by decide +kernel
theorem dX7_voice_16 : decode cX7_voice 16 = .ok (.ifCond .ne 9, 3) := by decide +kernel
theorem dX7_voice_19 : decode cX7_voice 19 = .ok (.aload_n 0, 1) := by decide +kernel
theorem dX7_voice_20 : decode cX7_voice 20 = .ok (.iconst 1, 1) := by decide +kernel
theorem dX7_voice_21 : decode cX7_voice 21 = .ok (.invokevirtual 65, 3) := by decide +kernel
theorem dX7_voice_24 : decode cX7_voice 24 = .ok (.ireturn, 1) := by decide +kernel
theorem dX7_voice_25 : decode cX7_voice 25 = .ok (.aload_n 0, 1) := by decide +kernel
theorem dX7_voice_26 : decode cX7_voice 26 = .ok (.getfield 42, 3) := by decide +kernel
theorem dX7_voice_29 : decode cX7_voice 29 = .ok (.aload_n 0, 1) := by decide +kernel
theorem dX7_voice_30 : decode cX7_voice 30 = .ok (.getfield 10, 3) := by decide +kernel
theorem dX7_voice_33 : decode cX7_voice 33 = .ok (.getfield 85, 3) := by decide +kernel
theorem dX7_voice_36 : decode cX7_voice 36 = .ok (.iload_n 1, 1) := by decide +kernel
theorem dX7_voice_37 : decode cX7_voice 37 = .ok (.aaload, 1) := by decide +kernel
theorem dX7_voice_38 : decode cX7_voice 38 = .ok (.iload_n 1, 1) := by decide +kernel
theorem dX7_voice_39 : decode cX7_voice 39 = .ok (.iload_n 2, 1) := by decide +kernel
theorem dX7_voice_40 : decode cX7_voice 40 = .ok (.iload_n 3, 1) := by decide +kernel
theorem dX7_voice_41 : decode cX7_voice 41 = .ok (.invokevirtual 243, 3) := by decide +kernel
theorem dX7_voice_44 : decode cX7_voice 44 = .ok (.ireturn, 1) := by decide +kernel
def X7_voice (v1 : Int32) (v2 : Int32) (v3 : Int32) (M : Mem) : Option (Int32 × Mem) := (if (X1_has 0 v1 M) = 0 then ((X7_fail 1 M).bind fun q1 => (some (q1.1, q1.2))) else (if (X7_isWithin v2 3) = 0 then ((X7_fail 1 M).bind fun q4 => (some (q4.1, q4.2))) else (if ib v1 10 = true then ((X6_speak (10 * 0 + v1.toNatClampNeg) v1 v2 v3 M).bind fun q3 => (some (q3.1, q3.2))) else none)))
set_option maxRecDepth 100000 in
set_option maxHeartbeats 4000000 in
theorem X7_voice_ok  {v1 : Int32} {v2 : Int32} {v3 : Int32} {M N : Mem} {res : Int32 × Mem} (h : X7_voice v1 v2 v3 M = some res) : Spec mt_X7_voice 103 [.inr (.inr (7, 0)), .inl v1, .inl v2, .inl v3] (M, N) (some (.inl res.1)) (res.2, N) := by
  unfold X7_voice at h
  refine Spec_of_G (by decide) rfl (Nat.le_of_ble_eq_true rfl) ?_
  refine G_sub [(0, .inr (.inr (7, 0))), (1, .inl v1), (2, .inl v2), (3, .inl v3)] [0, 1, 2, 3] rfl ?_
  refine G_aload_n dX7_voice_0 rfl ?_
  refine fg_X7_10 rfl (by decide) dX7_voice_1 ?_
  refine G_iload_n dX7_voice_4 rfl ?_
  refine G_callVv (T := TX1) (N := 8) (f := 1) (i := 0) (X1_has_ok (by decide) rfl) ok_X1_has ml_X7_95 (by decide) rfl (by decide) (by decide) (by decide) rfl rfl (Nat.le_of_ble_eq_true rfl) dX7_voice_5 ?_
  refine G_if_eq (tgt := 19) dX7_voice_8 (by decide) (fun hc1 => ?_) (fun hc1 => ?_)
  · replace h := (if_pos hc1).symm.trans h
    refine G_aload_n dX7_voice_19 rfl ?_
    refine G_iconst (v := 1) dX7_voice_20 (by decide) ?_
    obtain ⟨q1, hq1, h⟩ := bnd h
    refine G_callVv (T := TX7) (N := 10) (f := 7) (i := 0) (X7_fail_ok hq1) ok_X7_fail ml_X7_65 (by decide) rfl (by decide) (by decide) (by decide) rfl rfl (Nat.le_of_ble_eq_true rfl) dX7_voice_21 ?_
    obtain rfl := Option.some.inj h
    exact G_ret dX7_voice_24 trivial rfl rfl
  · replace h := (if_neg hc1).symm.trans h
    refine G_iload_n dX7_voice_11 rfl ?_
    refine G_iconst (v := 3) dX7_voice_12 (by decide) ?_
    refine G_callSv  (X7_isWithin_ok rfl) ok_X7_isWithin ml_X7_61 (by decide) rfl rfl (Nat.le_of_ble_eq_true rfl) dX7_voice_13 ?_
    refine G_if_ne (tgt := 25) dX7_voice_16 (by decide) (fun hc2 => ?_) (fun hc2 => ?_)
    · replace h := (if_neg hc2).symm.trans h
      refine G_aload_n dX7_voice_25 rfl ?_
      refine fg_X7_42 rfl (by decide) dX7_voice_26 ?_
      refine G_aload_n dX7_voice_29 rfl ?_
      refine fg_X7_10 rfl (by decide) dX7_voice_30 ?_
      refine fg_X7_85 rfl (by decide) dX7_voice_33 ?_
      refine G_iload_n dX7_voice_36 rfl ?_
      obtain ⟨hb2, h⟩ := chk h
      have lhb2 := ib_lt hb2
      refine G_aald3 (by decide) (by decide) (by decide) rfl hb2 dX7_voice_37 ?_
      refine G_iload_n dX7_voice_38 rfl ?_
      refine G_iload_n dX7_voice_39 rfl ?_
      refine G_iload_n dX7_voice_40 rfl ?_
      obtain ⟨q3, hq3, h⟩ := bnd h
      refine G_callVv (T := TX6) (N := 5) (f := 6) (i := 0) (X6_speak_ok (by omega) hq3) ok_X6_speak ml_X7_243 (by decide) rfl (by decide) (by decide) (by decide) rfl rfl (Nat.le_of_ble_eq_true rfl) dX7_voice_41 ?_
      obtain rfl := Option.some.inj h
      exact G_ret dX7_voice_44 trivial rfl rfl
    · replace h := (if_pos hc2).symm.trans h
      refine G_aload_n dX7_voice_19 rfl ?_
      refine G_iconst (v := 1) dX7_voice_20 (by decide) ?_
      obtain ⟨q4, hq4, h⟩ := bnd h
      refine G_callVv (T := TX7) (N := 10) (f := 7) (i := 0) (X7_fail_ok hq4) ok_X7_fail ml_X7_65 (by decide) rfl (by decide) (by decide) (by decide) rfl rfl (Nat.le_of_ble_eq_true rfl) dX7_voice_21 ?_
      obtain rfl := Option.some.inj h
      exact G_ret dX7_voice_24 trivial rfl rfl

theorem dX7_trace_0 : decode cX7_trace 0 = .ok (.iload_n 1, 1) := by decide +kernel
theorem dX7_trace_1 : decode cX7_trace 1 = .ok (.ifCond .lt 26, 3) := by decide +kernel
theorem dX7_trace_4 : decode cX7_trace 4 = .ok (.iload_n 1, 1) := by decide +kernel
theorem dX7_trace_5 : decode cX7_trace 5 = .ok (.aload_n 0, 1) := by decide +kernel
theorem dX7_trace_6 : decode cX7_trace 6 = .ok (.getfield 42, 3) := by decide +kernel
theorem dX7_trace_9 : decode cX7_trace 9 = .ok (.getfield 247, 3) := by decide +kernel
theorem dX7_trace_12 : decode cX7_trace 12 = .ok (.if_icmp .ge 15, 3) := by decide +kernel
theorem dX7_trace_15 : decode cX7_trace 15 = .ok (.aload_n 0, 1) := by decide +kernel
theorem dX7_trace_16 : decode cX7_trace 16 = .ok (.getfield 42, 3) := by decide +kernel
theorem dX7_trace_19 : decode cX7_trace 19 = .ok (.getfield 250, 3) := by decide +kernel
theorem dX7_trace_22 : decode cX7_trace 22 = .ok (.iload_n 1, 1) := by decide +kernel
theorem dX7_trace_23 : decode cX7_trace 23 = .ok (.iaload, 1) := by decide +kernel
theorem dX7_trace_24 : decode cX7_trace 24 = .ok (.goto 8, 3) := by decide +kernel
theorem dX7_trace_27 : decode cX7_trace 27 = .ok (.aload_n 0, 1) := by decide +kernel
theorem dX7_trace_28 : decode cX7_trace 28 = .ok (.iconst 2, 1) := by decide +kernel
theorem dX7_trace_29 : decode cX7_trace 29 = .ok (.invokevirtual 65, 3) := by decide +kernel
theorem dX7_trace_32 : decode cX7_trace 32 = .ok (.ireturn, 1) := by decide +kernel
def X7_trace (v1 : Int32) (M : Mem) : Option (Int32 × Mem) := (if v1 < 0 then ((X7_fail 2 M).bind fun q1 => (some (q1.1, q1.2))) else (if v1 < (M 6 0 1) then (if ib v1 40 = true then (some ((M 16 0 v1.toNatClampNeg), M)) else none) else ((X7_fail 2 M).bind fun q2 => (some (q2.1, q2.2)))))
set_option maxRecDepth 100000 in
set_option maxHeartbeats 4000000 in
theorem X7_trace_ok  {v1 : Int32} {M N : Mem} {res : Int32 × Mem} (h : X7_trace v1 M = some res) : Spec mt_X7_trace 1 [.inr (.inr (7, 0)), .inl v1] (M, N) (some (.inl res.1)) (res.2, N) := by
  unfold X7_trace at h
  refine Spec_of_G (by decide) rfl (Nat.le_of_ble_eq_true rfl) ?_
  refine G_sub [(0, .inr (.inr (7, 0))), (1, .inl v1)] [0, 1] rfl ?_
  refine G_iload_n dX7_trace_0 rfl ?_
  refine G_if_lt (tgt := 27) dX7_trace_1 (by decide) (fun hc1 => ?_) (fun hc1 => ?_)
  · replace h := (if_pos hc1).symm.trans h
    refine G_aload_n dX7_trace_27 rfl ?_
    refine G_iconst (v := 2) dX7_trace_28 (by decide) ?_
    obtain ⟨q1, hq1, h⟩ := bnd h
    refine G_callVv (T := TX7) (N := 10) (f := 7) (i := 0) (X7_fail_ok hq1) ok_X7_fail ml_X7_65 (by decide) rfl (by decide) (by decide) (by decide) rfl rfl (Nat.le_of_ble_eq_true rfl) dX7_trace_29 ?_
    obtain rfl := Option.some.inj h
    exact G_ret dX7_trace_32 trivial rfl rfl
  · replace h := (if_neg hc1).symm.trans h
    refine G_iload_n dX7_trace_4 rfl ?_
    refine G_aload_n dX7_trace_5 rfl ?_
    refine fg_X7_42 rfl (by decide) dX7_trace_6 ?_
    refine fg_X7_247 (v := (M 6 0 1)) rfl rfl (by decide) dX7_trace_9 ?_
    refine G_icmp_ge (tgt := 27) dX7_trace_12 (by decide) (fun hc2 => ?_) (fun hc2 => ?_)
    · replace h := (if_neg hc2).symm.trans h
      refine G_aload_n dX7_trace_27 rfl ?_
      refine G_iconst (v := 2) dX7_trace_28 (by decide) ?_
      obtain ⟨q2, hq2, h⟩ := bnd h
      refine G_callVv (T := TX7) (N := 10) (f := 7) (i := 0) (X7_fail_ok hq2) ok_X7_fail ml_X7_65 (by decide) rfl (by decide) (by decide) (by decide) rfl rfl (Nat.le_of_ble_eq_true rfl) dX7_trace_29 ?_
      obtain rfl := Option.some.inj h
      exact G_ret dX7_trace_32 trivial rfl rfl
    · replace h := (if_pos hc2).symm.trans h
      refine G_aload_n dX7_trace_15 rfl ?_
      refine fg_X7_42 rfl (by decide) dX7_trace_16 ?_
      refine fg_X7_250 rfl (by decide) dX7_trace_19 ?_
      refine G_iload_n dX7_trace_22 rfl ?_
      obtain ⟨hb3, h⟩ := chk h
      have lhb3 := ib_lt hb3
      refine al_16 (kk := v1.toNatClampNeg) (v := (M 16 0 v1.toNatClampNeg)) (by decide) hb3 rfl rfl dX7_trace_23 ?_
      refine G_goto (tgt := 32) dX7_trace_24 (by decide) ?_
      obtain rfl := Option.some.inj h
      exact G_ret dX7_trace_32 trivial rfl rfl

theorem dX7_sheet_0 : decode cX7_sheet 0 = .ok (.iload_n 1, 1) := by decide +kernel
theorem dX7_sheet_1 : decode cX7_sheet 1 = .ok (.invokestatic 215, 3) := by decide +kernel
theorem dX7_sheet_4 : decode cX7_sheet 4 = .ok (.ifCond .eq 25, 3) := by decide +kernel
theorem dX7_sheet_7 : decode cX7_sheet 7 = .ok (.iload_n 2, 1) := by decide +kernel
theorem dX7_sheet_8 : decode cX7_sheet 8 = .ok (.ifCond .eq 27, 3) := by decide +kernel
theorem dX7_sheet_11 : decode cX7_sheet 11 = .ok (.iload_n 2, 1) := by decide +kernel
theorem dX7_sheet_12 : decode cX7_sheet 12 = .ok (.bipush 8, 2) := by decide +kernel
theorem dX7_sheet_14 : decode cX7_sheet 14 = .ok (.if_icmp .eq 21, 3) := by decide +kernel
theorem dX7_sheet_17 : decode cX7_sheet 17 = .ok (.iload_n 2, 1) := by decide +kernel
theorem dX7_sheet_18 : decode cX7_sheet 18 = .ok (.bipush 16, 2) := by decide +kernel
theorem dX7_sheet_20 : decode cX7_sheet 20 = .ok (.if_icmp .eq 15, 3) := by decide +kernel
theorem dX7_sheet_23 : decode cX7_sheet 23 = .ok (.iload_n 2, 1) := by decide +kernel
theorem dX7_sheet_24 : decode cX7_sheet 24 = .ok (.bipush 32, 2) := by decide +kernel
theorem dX7_sheet_26 : decode cX7_sheet 26 = .ok (.if_icmp .eq 9, 3) := by decide +kernel
theorem dX7_sheet_29 : decode cX7_sheet 29 = .ok (.aload_n 0, 1) := by decide +kernel
theorem dX7_sheet_30 : decode cX7_sheet 30 = .ok (.iconst 1, 1) := by decide +kernel
theorem dX7_sheet_31 : decode cX7_sheet 31 = .ok (.invokevirtual 65, 3) := by decide +kernel
theorem dX7_sheet_34 : decode cX7_sheet 34 = .ok (.ireturn, 1) := by decide +kernel
theorem dX7_sheet_35 : decode cX7_sheet 35 = .ok (.iload_n 2, 1) := by decide +kernel
theorem dX7_sheet_36 : decode cX7_sheet 36 = .ok (.ifCond .ne 16, 3) := by decide +kernel
theorem dX7_sheet_39 : decode cX7_sheet 39 = .ok (.aload_n 0, 1) := by decide +kernel
theorem dX7_sheet_40 : decode cX7_sheet 40 = .ok (.getfield 48, 3) := by decide +kernel
theorem dX7_sheet_43 : decode cX7_sheet 43 = .ok (.iload_n 1, 1) := by decide +kernel
theorem dX7_sheet_44 : decode cX7_sheet 44 = .ok (.aaload, 1) := by decide +kernel
theorem dX7_sheet_45 : decode cX7_sheet 45 = .ok (.iconst 0, 1) := by decide +kernel
theorem dX7_sheet_46 : decode cX7_sheet 46 = .ok (.iconst 0, 1) := by decide +kernel
theorem dX7_sheet_47 : decode cX7_sheet 47 = .ok (.invokevirtual 253, 3) := by decide +kernel
theorem dX7_sheet_50 : decode cX7_sheet 50 = .ok (.iconst 1, 1) := by decide +kernel
theorem dX7_sheet_51 : decode cX7_sheet 51 = .ok (.ireturn, 1) := by decide +kernel
theorem dX7_sheet_52 : decode cX7_sheet 52 = .ok (.iload_n 3, 1) := by decide +kernel
theorem dX7_sheet_53 : decode cX7_sheet 53 = .ok (.ifCond .ge 9, 3) := by decide +kernel
theorem dX7_sheet_56 : decode cX7_sheet 56 = .ok (.aload_n 0, 1) := by decide +kernel
theorem dX7_sheet_57 : decode cX7_sheet 57 = .ok (.iconst 3, 1) := by decide +kernel
theorem dX7_sheet_58 : decode cX7_sheet 58 = .ok (.invokevirtual 65, 3) := by decide +kernel
theorem dX7_sheet_61 : decode cX7_sheet 61 = .ok (.ireturn, 1) := by decide +kernel
theorem dX7_sheet_62 : decode cX7_sheet 62 = .ok (.iload_n 3, 1) := by decide +kernel
theorem dX7_sheet_63 : decode cX7_sheet 63 = .ok (.bipush 40, 2) := by decide +kernel
theorem dX7_sheet_65 : decode cX7_sheet 65 = .ok (.if_icmp .le 9, 3) := by decide +kernel
theorem dX7_sheet_68 : decode cX7_sheet 68 = .ok (.aload_n 0, 1) := by decide +kernel
theorem dX7_sheet_69 : decode cX7_sheet 69 = .ok (.iconst 1, 1) := by decide +kernel
theorem dX7_sheet_70 : decode cX7_sheet 70 = .ok (.invokevirtual 65, 3) := by decide +kernel
theorem dX7_sheet_73 : decode cX7_sheet 73 = .ok (.ireturn, 1) := by decide +kernel
theorem dX7_sheet_74 : decode cX7_sheet 74 = .ok (.aload_n 0, 1) := by decide +kernel
theorem dX7_sheet_75 : decode cX7_sheet 75 = .ok (.getfield 48, 3) := by decide +kernel
theorem dX7_sheet_78 : decode cX7_sheet 78 = .ok (.iload_n 1, 1) := by decide +kernel
theorem dX7_sheet_79 : decode cX7_sheet 79 = .ok (.aaload, 1) := by decide +kernel
theorem dX7_sheet_80 : decode cX7_sheet 80 = .ok (.iload_n 2, 1) := by decide +kernel
theorem dX7_sheet_81 : decode cX7_sheet 81 = .ok (.iload_n 3, 1) := by decide +kernel
theorem dX7_sheet_82 : decode cX7_sheet 82 = .ok (.invokevirtual 253, 3) := by decide +kernel
theorem dX7_sheet_85 : decode cX7_sheet 85 = .ok (.iconst 1, 1) := by decide +kernel
theorem dX7_sheet_86 : decode cX7_sheet 86 = .ok (.ireturn, 1) := by decide +kernel
def X7_sheet_J35 (v1 : Int32) (v2 : Int32) (v3 : Int32) (M : Mem) : Option (Int32 × Mem) := (if v2 = 0 then (if ib v1 4 = true then ((X5_lay v1.toNatClampNeg 0 0 M).bind fun q7 => (some (1, q7))) else none) else (if v3 < 0 then ((X7_fail 3 M).bind fun q5 => (some (q5.1, q5.2))) else (if 40 < v3 then ((X7_fail 1 M).bind fun q4 => (some (q4.1, q4.2))) else (if ib v1 4 = true then ((X5_lay v1.toNatClampNeg v2 v3 M).bind fun q3 => (some (1, q3))) else none))))
set_option maxRecDepth 100000 in
set_option maxHeartbeats 4000000 in
theorem X7_sheet_J35_ok  {v1 : Int32} {v2 : Int32} {v3 : Int32} {M N : Mem} {res : Int32 × Mem} (h : X7_sheet_J35 v1 v2 v3 M = some res) : G mt_X7_sheet 2 (some (.inl res.1)) (res.2, N) 35 [(0, .inr (.inr (7, 0))), (1, .inl v1), (2, .inl v2), (3, .inl v3)] [] (M, N) := by
  unfold X7_sheet_J35 at h
  refine G_iload_n dX7_sheet_35 rfl ?_
  refine G_if_ne (tgt := 52) dX7_sheet_36 (by decide) (fun hc3 => ?_) (fun hc3 => ?_)
  · replace h := (if_neg hc3).symm.trans h
    refine G_iload_n dX7_sheet_52 rfl ?_
    refine G_if_ge (tgt := 62) dX7_sheet_53 (by decide) (fun hc4 => ?_) (fun hc4 => ?_)
    · replace h := (if_neg hc4).symm.trans h
      refine G_iload_n dX7_sheet_62 rfl ?_
      refine G_bipush (v := 40) dX7_sheet_63 (by decide) ?_
      refine G_icmp_le (tgt := 74) dX7_sheet_65 (by decide) (fun hc5 => ?_) (fun hc5 => ?_)
      · replace h := (if_neg hc5).symm.trans h
        refine G_aload_n dX7_sheet_74 rfl ?_
        refine fg_X7_48 rfl (by decide) dX7_sheet_75 ?_
        refine G_iload_n dX7_sheet_78 rfl ?_
        obtain ⟨hb2, h⟩ := chk h
        have lhb2 := ib_lt hb2
        refine G_aald5 (by decide) (by decide) (by decide) rfl hb2 dX7_sheet_79 ?_
        refine G_iload_n dX7_sheet_80 rfl ?_
        refine G_iload_n dX7_sheet_81 rfl ?_
        obtain ⟨q3, hq3, h⟩ := bnd h
        refine G_callVn (T := TX5) (N := 3) (f := 5) (i := v1.toNatClampNeg) (X5_lay_ok (by omega) hq3) ok_X5_lay ml_X7_253 (by decide) rfl (by decide) (show v1.toNatClampNeg < 4 from (by omega)) (by decide) rfl rfl (Nat.le_of_ble_eq_true rfl) dX7_sheet_82 ?_
        refine G_iconst (v := 1) dX7_sheet_85 (by decide) ?_
        obtain rfl := Option.some.inj h
        exact G_ret dX7_sheet_86 trivial rfl rfl
      · replace h := (if_pos hc5).symm.trans h
        refine G_aload_n dX7_sheet_68 rfl ?_
        refine G_iconst (v := 1) dX7_sheet_69 (by decide) ?_
        obtain ⟨q4, hq4, h⟩ := bnd h
        refine G_callVv (T := TX7) (N := 10) (f := 7) (i := 0) (X7_fail_ok hq4) ok_X7_fail ml_X7_65 (by decide) rfl (by decide) (by decide) (by decide) rfl rfl (Nat.le_of_ble_eq_true rfl) dX7_sheet_70 ?_
        obtain rfl := Option.some.inj h
        exact G_ret dX7_sheet_73 trivial rfl rfl
    · replace h := (if_pos hc4).symm.trans h
      refine G_aload_n dX7_sheet_56 rfl ?_
      refine G_iconst (v := 3) dX7_sheet_57 (by decide) ?_
      obtain ⟨q5, hq5, h⟩ := bnd h
      refine G_callVv (T := TX7) (N := 10) (f := 7) (i := 0) (X7_fail_ok hq5) ok_X7_fail ml_X7_65 (by decide) rfl (by decide) (by decide) (by decide) rfl rfl (Nat.le_of_ble_eq_true rfl) dX7_sheet_58 ?_
      obtain rfl := Option.some.inj h
      exact G_ret dX7_sheet_61 trivial rfl rfl
  · replace h := (if_pos hc3).symm.trans h
    refine G_aload_n dX7_sheet_39 rfl ?_
    refine fg_X7_48 rfl (by decide) dX7_sheet_40 ?_
    refine G_iload_n dX7_sheet_43 rfl ?_
    obtain ⟨hb6, h⟩ := chk h
    have lhb6 := ib_lt hb6
    refine G_aald5 (by decide) (by decide) (by decide) rfl hb6 dX7_sheet_44 ?_
    refine G_iconst (v := 0) dX7_sheet_45 (by decide) ?_
    refine G_iconst (v := 0) dX7_sheet_46 (by decide) ?_
    obtain ⟨q7, hq7, h⟩ := bnd h
    refine G_callVn (T := TX5) (N := 3) (f := 5) (i := v1.toNatClampNeg) (X5_lay_ok (by omega) hq7) ok_X5_lay ml_X7_253 (by decide) rfl (by decide) (show v1.toNatClampNeg < 4 from (by omega)) (by decide) rfl rfl (Nat.le_of_ble_eq_true rfl) dX7_sheet_47 ?_
    refine G_iconst (v := 1) dX7_sheet_50 (by decide) ?_
    obtain rfl := Option.some.inj h
    exact G_ret dX7_sheet_51 trivial rfl rfl

def X7_sheet (v1 : Int32) (v2 : Int32) (v3 : Int32) (M : Mem) : Option (Int32 × Mem) := (if (X7_isSheet v1) = 0 then ((X7_fail 1 M).bind fun q1 => (some (q1.1, q1.2))) else (if v2 = 0 then (X7_sheet_J35 v1 v2 v3 M) else (if v2 = 8 then (X7_sheet_J35 v1 v2 v3 M) else (if v2 = 16 then (X7_sheet_J35 v1 v2 v3 M) else (if v2 = 32 then (X7_sheet_J35 v1 v2 v3 M) else ((X7_fail 1 M).bind fun q8 => (some (q8.1, q8.2))))))))
set_option maxRecDepth 100000 in
set_option maxHeartbeats 4000000 in
theorem X7_sheet_ok  {v1 : Int32} {v2 : Int32} {v3 : Int32} {M N : Mem} {res : Int32 × Mem} (h : X7_sheet v1 v2 v3 M = some res) : Spec mt_X7_sheet 2 [.inr (.inr (7, 0)), .inl v1, .inl v2, .inl v3] (M, N) (some (.inl res.1)) (res.2, N) := by
  unfold X7_sheet at h
  refine Spec_of_G (by decide) rfl (Nat.le_of_ble_eq_true rfl) ?_
  refine G_sub [(0, .inr (.inr (7, 0))), (1, .inl v1), (2, .inl v2), (3, .inl v3)] [0, 1, 2, 3] rfl ?_
  refine G_iload_n dX7_sheet_0 rfl ?_
  refine G_callSv  (X7_isSheet_ok rfl) ok_X7_isSheet ml_X7_215 (by decide) rfl rfl (Nat.le_of_ble_eq_true rfl) dX7_sheet_1 ?_
  refine G_if_eq (tgt := 29) dX7_sheet_4 (by decide) (fun hc1 => ?_) (fun hc1 => ?_)
  · replace h := (if_pos hc1).symm.trans h
    refine G_aload_n dX7_sheet_29 rfl ?_
    refine G_iconst (v := 1) dX7_sheet_30 (by decide) ?_
    obtain ⟨q1, hq1, h⟩ := bnd h
    refine G_callVv (T := TX7) (N := 10) (f := 7) (i := 0) (X7_fail_ok hq1) ok_X7_fail ml_X7_65 (by decide) rfl (by decide) (by decide) (by decide) rfl rfl (Nat.le_of_ble_eq_true rfl) dX7_sheet_31 ?_
    obtain rfl := Option.some.inj h
    exact G_ret dX7_sheet_34 trivial rfl rfl
  · replace h := (if_neg hc1).symm.trans h
    refine G_iload_n dX7_sheet_7 rfl ?_
    refine G_if_eq (tgt := 35) dX7_sheet_8 (by decide) (fun hc2 => ?_) (fun hc2 => ?_)
    · replace h := (if_pos hc2).symm.trans h
      exact X7_sheet_J35_ok   h
    · replace h := (if_neg hc2).symm.trans h
      refine G_iload_n dX7_sheet_11 rfl ?_
      refine G_bipush (v := 8) dX7_sheet_12 (by decide) ?_
      refine G_icmp_eq (tgt := 35) dX7_sheet_14 (by decide) (fun hc6 => ?_) (fun hc6 => ?_)
      · replace h := (if_pos hc6).symm.trans h
        exact X7_sheet_J35_ok   h
      · replace h := (if_neg hc6).symm.trans h
        refine G_iload_n dX7_sheet_17 rfl ?_
        refine G_bipush (v := 16) dX7_sheet_18 (by decide) ?_
        refine G_icmp_eq (tgt := 35) dX7_sheet_20 (by decide) (fun hc7 => ?_) (fun hc7 => ?_)
        · replace h := (if_pos hc7).symm.trans h
          exact X7_sheet_J35_ok   h
        · replace h := (if_neg hc7).symm.trans h
          refine G_iload_n dX7_sheet_23 rfl ?_
          refine G_bipush (v := 32) dX7_sheet_24 (by decide) ?_
          refine G_icmp_eq (tgt := 35) dX7_sheet_26 (by decide) (fun hc8 => ?_) (fun hc8 => ?_)
          · replace h := (if_pos hc8).symm.trans h
            exact X7_sheet_J35_ok   h
          · replace h := (if_neg hc8).symm.trans h
            refine G_aload_n dX7_sheet_29 rfl ?_
            refine G_iconst (v := 1) dX7_sheet_30 (by decide) ?_
            obtain ⟨q8, hq8, h⟩ := bnd h
            refine G_callVv (T := TX7) (N := 10) (f := 7) (i := 0) (X7_fail_ok hq8) ok_X7_fail ml_X7_65 (by decide) rfl (by decide) (by decide) (by decide) rfl rfl (Nat.le_of_ble_eq_true rfl) dX7_sheet_31 ?_
            obtain rfl := Option.some.inj h
            exact G_ret dX7_sheet_34 trivial rfl rfl

theorem dX7_put_0 : decode cX7_put 0 = .ok (.iload_n 1, 1) := by decide +kernel
theorem dX7_put_1 : decode cX7_put 1 = .ok (.invokestatic 215, 3) := by decide +kernel
theorem dX7_put_4 : decode cX7_put 4 = .ok (.ifCond .ne 9, 3) := by decide +kernel
theorem dX7_put_7 : decode cX7_put 7 = .ok (.aload_n 0, 1) := by decide +kernel
theorem dX7_put_8 : decode cX7_put 8 = .ok (.iconst 1, 1) := by decide +kernel
theorem dX7_put_9 : decode cX7_put 9 = .ok (.invokevirtual 65, 3) := by decide +kernel
theorem dX7_put_12 : decode cX7_put 12 = .ok (.ireturn, 1) := by decide +kernel
theorem dX7_put_13 : decode cX7_put 13 = .ok (.aload_n 0, 1) := by decide +kernel
theorem dX7_put_14 : decode cX7_put 14 = .ok (.getfield 48, 3) := by decide +kernel
theorem dX7_put_17 : decode cX7_put 17 = .ok (.iload_n 1, 1) := by decide +kernel
theorem dX7_put_18 : decode cX7_put 18 = .ok (.aaload, 1) := by decide +kernel
theorem dX7_put_19 : decode cX7_put 19 = .ok (.astore 4, 2) := by decide +kernel
theorem dX7_put_21 : decode cX7_put 21 = .ok (.aload 4, 2) := by decide +kernel
theorem dX7_put_23 : decode cX7_put 23 = .ok (.invokevirtual 218, 3) := by decide +kernel
theorem dX7_put_26 : decode cX7_put 26 = .ok (.ifCond .eq 9, 3) := by decide +kernel
theorem dX7_put_29 : decode cX7_put 29 = .ok (.aload_n 0, 1) := by decide +kernel
theorem dX7_put_30 : decode cX7_put 30 = .ok (.iconst 2, 1) := by decide +kernel
theorem dX7_put_31 : decode cX7_put 31 = .ok (.invokevirtual 65, 3) := by decide +kernel
theorem dX7_put_34 : decode cX7_put 34 = .ok (.ireturn, 1) := by decide +kernel
theorem dX7_put_35 : decode cX7_put 35 = .ok (.iload_n 2, 1) := by decide +kernel
theorem dX7_put_36 : decode cX7_put 36 = .ok (.ifCond .lt 12, 3) := by decide +kernel
theorem dX7_put_39 : decode cX7_put 39 = .ok (.iload_n 2, 1) := by decide +kernel
theorem dX7_put_40 : decode cX7_put 40 = .ok (.aload 4, 2) := by decide +kernel
theorem dX7_put_42 : decode cX7_put 42 = .ok (.getfield 257, 3) := by decide +kernel
theorem dX7_put_45 : decode cX7_put 45 = .ok (.if_icmp .lt 9, 3) := by decide +kernel
theorem dX7_put_48 : decode cX7_put 48 = .ok (.aload_n 0, 1) := by decide +kernel
theorem dX7_put_49 : decode cX7_put 49 = .ok (.iconst 1, 1) := by decide +kernel
theorem dX7_put_50 : decode cX7_put 50 = .ok (.invokevirtual 65, 3) := by decide +kernel
theorem dX7_put_53 : decode cX7_put 53 = .ok (.ireturn, 1) := by decide +kernel
theorem dX7_put_54 : decode cX7_put 54 = .ok (.aload 4, 2) := by decide +kernel
theorem dX7_put_56 : decode cX7_put 56 = .ok (.getfield 260, 3) := by decide +kernel
theorem dX7_put_59 : decode cX7_put 59 = .ok (.iload_n 2, 1) := by decide +kernel
theorem dX7_put_60 : decode cX7_put 60 = .ok (.aload 4, 2) := by decide +kernel
theorem dX7_put_62 : decode cX7_put 62 = .ok (.iload_n 3, 1) := by decide +kernel
theorem dX7_put_63 : decode cX7_put 63 = .ok (.invokevirtual 262, 3) := by decide +kernel
theorem dX7_put_66 : decode cX7_put 66 = .ok (.iastore, 1) := by decide +kernel
theorem dX7_put_67 : decode cX7_put 67 = .ok (.iconst 1, 1) := by decide +kernel
theorem dX7_put_68 : decode cX7_put 68 = .ok (.ireturn, 1) := by decide +kernel
def X7_put (v1 : Int32) (v2 : Int32) (v3 : Int32) (M : Mem) : Option (Int32 × Mem) := (if (X7_isSheet v1) = 0 then ((X7_fail 1 M).bind fun q6 => (some (q6.1, q6.2))) else (if ib v1 4 = true then (if (X5_isMissing v1.toNatClampNeg M) = 0 then (if v2 < 0 then ((X7_fail 1 M).bind fun q2 => (some (q2.1, q2.2))) else (if v2 < (M 5 v1.toNatClampNeg 2) then (if ib v2 40 = true then (some (1, (up3 M 15 v1.toNatClampNeg v2.toNatClampNeg (X5_lowestBits v1.toNatClampNeg v3 M)))) else none) else ((X7_fail 1 M).bind fun q4 => (some (q4.1, q4.2))))) else ((X7_fail 2 M).bind fun q5 => (some (q5.1, q5.2)))) else none))
set_option maxRecDepth 100000 in
set_option maxHeartbeats 4000000 in
theorem X7_put_ok  {v1 : Int32} {v2 : Int32} {v3 : Int32} {M N : Mem} {res : Int32 × Mem} (h : X7_put v1 v2 v3 M = some res) : Spec mt_X7_put 1 [.inr (.inr (7, 0)), .inl v1, .inl v2, .inl v3] (M, N) (some (.inl res.1)) (res.2, N) := by
  unfold X7_put at h
  refine Spec_of_G (by decide) rfl (Nat.le_of_ble_eq_true rfl) ?_
  refine G_sub [(0, .inr (.inr (7, 0))), (1, .inl v1), (2, .inl v2), (3, .inl v3)] [0, 1, 2, 3] rfl ?_
  refine G_iload_n dX7_put_0 rfl ?_
  refine G_callSv  (X7_isSheet_ok rfl) ok_X7_isSheet ml_X7_215 (by decide) rfl rfl (Nat.le_of_ble_eq_true rfl) dX7_put_1 ?_
  refine G_if_ne (tgt := 13) dX7_put_4 (by decide) (fun hc1 => ?_) (fun hc1 => ?_)
  · replace h := (if_neg hc1).symm.trans h
    refine G_aload_n dX7_put_13 rfl ?_
    refine fg_X7_48 rfl (by decide) dX7_put_14 ?_
    refine G_iload_n dX7_put_17 rfl ?_
    obtain ⟨hb1, h⟩ := chk h
    have lhb1 := ib_lt hb1
    refine G_aald5 (by decide) (by decide) (by decide) rfl hb1 dX7_put_18 ?_
    refine G_astore (L2 := [(4, .inr (.inr (5, v1.toNatClampNeg))), (0, .inr (.inr (7, 0))), (1, .inl v1), (2, .inl v2), (3, .inl v3)]) dX7_put_19 (by decide) rfl ?_
    refine G_aload dX7_put_21 rfl ?_
    refine G_callVv (T := TX5) (N := 3) (f := 5) (i := v1.toNatClampNeg) (X5_isMissing_ok (by omega) rfl) ok_X5_isMissing ml_X7_218 (by decide) rfl (by decide) (show v1.toNatClampNeg < 4 from (by omega)) (by decide) rfl rfl (Nat.le_of_ble_eq_true rfl) dX7_put_23 ?_
    refine G_if_eq (tgt := 35) dX7_put_26 (by decide) (fun hc2 => ?_) (fun hc2 => ?_)
    · replace h := (if_pos hc2).symm.trans h
      refine G_iload_n dX7_put_35 rfl ?_
      refine G_if_lt (tgt := 48) dX7_put_36 (by decide) (fun hc3 => ?_) (fun hc3 => ?_)
      · replace h := (if_pos hc3).symm.trans h
        refine G_aload_n dX7_put_48 rfl ?_
        refine G_iconst (v := 1) dX7_put_49 (by decide) ?_
        obtain ⟨q2, hq2, h⟩ := bnd h
        refine G_callVv (T := TX7) (N := 10) (f := 7) (i := 0) (X7_fail_ok hq2) ok_X7_fail ml_X7_65 (by decide) rfl (by decide) (by decide) (by decide) rfl rfl (Nat.le_of_ble_eq_true rfl) dX7_put_50 ?_
        obtain rfl := Option.some.inj h
        exact G_ret dX7_put_53 trivial rfl rfl
      · replace h := (if_neg hc3).symm.trans h
        refine G_iload_n dX7_put_39 rfl ?_
        refine G_aload dX7_put_40 rfl ?_
        refine fg_X7_257 (v := (M 5 v1.toNatClampNeg 2)) rfl rfl (by omega) dX7_put_42 ?_
        refine G_icmp_lt (tgt := 54) dX7_put_45 (by decide) (fun hc4 => ?_) (fun hc4 => ?_)
        · replace h := (if_pos hc4).symm.trans h
          refine G_aload dX7_put_54 rfl ?_
          refine fg_X7_260 rfl (by omega) dX7_put_56 ?_
          refine G_iload_n dX7_put_59 rfl ?_
          refine G_aload dX7_put_60 rfl ?_
          refine G_iload_n dX7_put_62 rfl ?_
          refine G_callVv (T := TX5) (N := 3) (f := 5) (i := v1.toNatClampNeg) (X5_lowestBits_ok (by omega) rfl) ok_X5_lowestBits ml_X7_262 (by decide) rfl (by decide) (show v1.toNatClampNeg < 4 from (by omega)) (by decide) rfl rfl (Nat.le_of_ble_eq_true rfl) dX7_put_63 ?_
          obtain ⟨hb3, h⟩ := chk h
          have lhb3 := ib_lt hb3
          refine as_15 (kk := v2.toNatClampNeg) (by omega) hb3 rfl dX7_put_66 ?_
          refine G_iconst (v := 1) dX7_put_67 (by decide) ?_
          obtain rfl := Option.some.inj h
          exact G_ret dX7_put_68 trivial rfl rfl
        · replace h := (if_neg hc4).symm.trans h
          refine G_aload_n dX7_put_48 rfl ?_
          refine G_iconst (v := 1) dX7_put_49 (by decide) ?_
          obtain ⟨q4, hq4, h⟩ := bnd h
          refine G_callVv (T := TX7) (N := 10) (f := 7) (i := 0) (X7_fail_ok hq4) ok_X7_fail ml_X7_65 (by decide) rfl (by decide) (by decide) (by decide) rfl rfl (Nat.le_of_ble_eq_true rfl) dX7_put_50 ?_
          obtain rfl := Option.some.inj h
          exact G_ret dX7_put_53 trivial rfl rfl
    · replace h := (if_neg hc2).symm.trans h
      refine G_aload_n dX7_put_29 rfl ?_
      refine G_iconst (v := 2) dX7_put_30 (by decide) ?_
      obtain ⟨q5, hq5, h⟩ := bnd h
      refine G_callVv (T := TX7) (N := 10) (f := 7) (i := 0) (X7_fail_ok hq5) ok_X7_fail ml_X7_65 (by decide) rfl (by decide) (by decide) (by decide) rfl rfl (Nat.le_of_ble_eq_true rfl) dX7_put_31 ?_
      obtain rfl := Option.some.inj h
      exact G_ret dX7_put_34 trivial rfl rfl
  · replace h := (if_pos hc1).symm.trans h
    refine G_aload_n dX7_put_7 rfl ?_
    refine G_iconst (v := 1) dX7_put_8 (by decide) ?_
    obtain ⟨q6, hq6, h⟩ := bnd h
    refine G_callVv (T := TX7) (N := 10) (f := 7) (i := 0) (X7_fail_ok hq6) ok_X7_fail ml_X7_65 (by decide) rfl (by decide) (by decide) (by decide) rfl rfl (Nat.le_of_ble_eq_true rfl) dX7_put_9 ?_
    obtain rfl := Option.some.inj h
    exact G_ret dX7_put_12 trivial rfl rfl

theorem dX7_move_0 : decode cX7_move 0 = .ok (.iload_n 1, 1) := by decide +kernel
theorem dX7_move_1 : decode cX7_move 1 = .ok (.invokestatic 215, 3) := by decide +kernel
theorem dX7_move_4 : decode cX7_move 4 = .ok (.ifCond .eq 10, 3) := by decide +kernel
theorem dX7_move_7 : decode cX7_move 7 = .ok (.iload_n 3, 1) := by decide +kernel
theorem dX7_move_8 : decode cX7_move 8 = .ok (.invokestatic 215, 3) := by decide +kernel
theorem dX7_move_11 : decode cX7_move 11 = .ok (.ifCond .ne 9, 3) := by decide +kernel
theorem dX7_move_14 : decode cX7_move 14 = .ok (.aload_n 0, 1) := by decide +kernel
theorem dX7_move_15 : decode cX7_move 15 = .ok (.iconst 1, 1) := by decide +kernel
theorem dX7_move_16 : decode cX7_move 16 = .ok (.invokevirtual 65, 3) := by decide +kernel
theorem dX7_move_19 : decode cX7_move 19 = .ok (.ireturn, 1) := by decide +kernel
theorem dX7_move_20 : decode cX7_move 20 = .ok (.aload_n 0, 1) := by decide +kernel
theorem dX7_move_21 : decode cX7_move 21 = .ok (.getfield 48, 3) := by decide +kernel
theorem dX7_move_24 : decode cX7_move 24 = .ok (.iload_n 1, 1) := by decide +kernel
theorem dX7_move_25 : decode cX7_move 25 = .ok (.aaload, 1) := by decide +kernel
theorem dX7_move_26 : decode cX7_move 26 = .ok (.astore 6, 2) := by decide +kernel
theorem dX7_move_28 : decode cX7_move 28 = .ok (.aload_n 0, 1) := by decide +kernel
theorem dX7_move_29 : decode cX7_move 29 = .ok (.getfield 48, 3) := by decide +kernel
theorem dX7_move_32 : decode cX7_move 32 = .ok (.iload_n 3, 1) := by decide +kernel
theorem dX7_move_33 : decode cX7_move 33 = .ok (.aaload, 1) := by decide +kernel
theorem dX7_move_34 : decode cX7_move 34 = .ok (.astore 7, 2) := by decide +kernel
theorem dX7_move_36 : decode cX7_move 36 = .ok (.aload 6, 2) := by decide +kernel
theorem dX7_move_38 : decode cX7_move 38 = .ok (.invokevirtual 218, 3) := by decide +kernel
theorem dX7_move_41 : decode cX7_move 41 = .ok (.ifCond .ne 11, 3) := by decide +kernel
theorem dX7_move_44 : decode cX7_move 44 = .ok (.aload 7, 2) := by decide +kernel
theorem dX7_move_46 : decode cX7_move 46 = .ok (.invokevirtual 218, 3) := by decide +kernel
theorem dX7_move_49 : decode cX7_move 49 = .ok (.ifCond .eq 9, 3) := by decide +kernel
theorem dX7_move_52 : decode cX7_move 52 = .ok (.aload_n 0, 1) := by decide +kernel
theorem dX7_move_53 : decode cX7_move 53 = .ok (.iconst 2, 1) := by decide +kernel
theorem dX7_move_54 : decode cX7_move 54 = .ok (.invokevirtual 65, 3) := by decide +kernel
theorem dX7_move_57 : decode cX7_move 57 = .ok (.ireturn, 1) := by decide +kernel
theorem dX7_move_58 : decode cX7_move 58 = .ok (.aload 6, 2) := by decide +kernel
theorem dX7_move_60 : decode cX7_move 60 = .ok (.getfield 265, 3) := by decide +kernel
theorem dX7_move_63 : decode cX7_move 63 = .ok (.aload 7, 2) := by decide +kernel
theorem dX7_move_65 : decode cX7_move 65 = .ok (.getfield 265, 3) := by decide +kernel
theorem dX7_move_68 : decode cX7_move 68 = .ok (.if_icmp .eq 9, 3) := by decide +kernel
theorem dX7_move_71 : decode cX7_move 71 = .ok (.aload_n 0, 1) := by decide +kernel
theorem dX7_move_72 : decode cX7_move 72 = .ok (.iconst 5, 1) := by decide +kernel
theorem dX7_move_73 : decode cX7_move 73 = .ok (.invokevirtual 65, 3) := by decide +kernel
theorem dX7_move_76 : decode cX7_move 76 = .ok (.ireturn, 1) := by decide +kernel
theorem dX7_move_77 : decode cX7_move 77 = .ok (.aload 6, 2) := by decide +kernel
theorem dX7_move_79 : decode cX7_move 79 = .ok (.iload_n 2, 1) := by decide +kernel
theorem dX7_move_80 : decode cX7_move 80 = .ok (.iload 5, 2) := by decide +kernel
theorem dX7_move_82 : decode cX7_move 82 = .ok (.invokevirtual 268, 3) := by decide +kernel
theorem dX7_move_85 : decode cX7_move 85 = .ok (.ifCond .eq 15, 3) := by decide +kernel
theorem dX7_move_88 : decode cX7_move 88 = .ok (.aload 7, 2) := by decide +kernel
theorem dX7_move_90 : decode cX7_move 90 = .ok (.iload 4, 2) := by decide +kernel
theorem dX7_move_92 : decode cX7_move 92 = .ok (.iload 5, 2) := by decide +kernel
theorem dX7_move_94 : decode cX7_move 94 = .ok (.invokevirtual 268, 3) := by decide +kernel
theorem dX7_move_97 : decode cX7_move 97 = .ok (.ifCond .ne 9, 3) := by decide +kernel
theorem dX7_move_100 : decode cX7_move 100 = .ok (.aload_n 0, 1) := by decide +kernel
theorem dX7_move_101 : decode cX7_move 101 = .ok (.iconst 1, 1) := by decide +kernel
theorem dX7_move_102 : decode cX7_move 102 = .ok (.invokevirtual 65, 3) := by decide +kernel
theorem dX7_move_105 : decode cX7_move 105 = .ok (.ireturn, 1) := by decide +kernel
theorem dX7_move_106 : decode cX7_move 106 = .ok (.aload 6, 2) := by decide +kernel
theorem dX7_move_108 : decode cX7_move 108 = .ok (.getfield 260, 3) := by decide +kernel
theorem dX7_move_111 : decode cX7_move 111 = .ok (.iload_n 2, 1) := by decide +kernel
theorem dX7_move_112 : decode cX7_move 112 = .ok (.aload 7, 2) := by decide +kernel
theorem dX7_move_114 : decode cX7_move 114 = .ok (.getfield 260, 3) := by decide +kernel
theorem dX7_move_117 : decode cX7_move 117 = .ok (.iload 4, 2) := by decide +kernel
theorem dX7_move_119 : decode cX7_move 119 = .ok (.iload 5, 2) := by decide +kernel
theorem dX7_move_121 : decode cX7_move 121 = .ok (.invokestatic 271, 3) := by decide +kernel
theorem dX7_move_124 : decode cX7_move 124 = .ok (.iload 5, 2) := by decide +kernel
theorem dX7_move_126 : decode cX7_move 126 = .ok (.ireturn, 1) := by decide +kernel
def X7_move (v1 : Int32) (v2 : Int32) (v3 : Int32) (v4 : Int32) (v5 : Int32) (M : Mem) : Option (Int32 × Mem) := (if (X7_isSheet v1) = 0 then ((X7_fail 1 M).bind fun q1 => (some (q1.1, q1.2))) else (if (X7_isSheet v3) = 0 then ((X7_fail 1 M).bind fun q10 => (some (q10.1, q10.2))) else (if ib v1 4 = true then (if ib v3 4 = true then (if (X5_isMissing v1.toNatClampNeg M) = 0 then (if (X5_isMissing v3.toNatClampNeg M) = 0 then (if (M 5 v1.toNatClampNeg 1) = (M 5 v3.toNatClampNeg 1) then (if (X5_holds v1.toNatClampNeg v2 v5 M) = 0 then ((X7_fail 1 M).bind fun q5 => (some (q5.1, q5.2))) else (if (X5_holds v3.toNatClampNeg v4 v5 M) = 0 then ((X7_fail 1 M).bind fun q7 => (some (q7.1, q7.2))) else (if cpok v2 v4 v5 40 40 = true then (some (v5, (cp3 M 15 v1.toNatClampNeg v2.toNatClampNeg 15 v3.toNatClampNeg v4.toNatClampNeg v5.toNatClampNeg))) else none))) else ((X7_fail 5 M).bind fun q8 => (some (q8.1, q8.2)))) else ((X7_fail 2 M).bind fun q9 => (some (q9.1, q9.2)))) else ((X7_fail 2 M).bind fun q4 => (some (q4.1, q4.2)))) else none) else none)))
set_option maxRecDepth 100000 in
set_option maxHeartbeats 4000000 in
theorem X7_move_ok  {v1 : Int32} {v2 : Int32} {v3 : Int32} {v4 : Int32} {v5 : Int32} {M N : Mem} {res : Int32 × Mem} (h : X7_move v1 v2 v3 v4 v5 M = some res) : Spec mt_X7_move 1 [.inr (.inr (7, 0)), .inl v1, .inl v2, .inl v3, .inl v4, .inl v5] (M, N) (some (.inl res.1)) (res.2, N) := by
  unfold X7_move at h
  refine Spec_of_G (by decide) rfl (Nat.le_of_ble_eq_true rfl) ?_
  refine G_sub [(0, .inr (.inr (7, 0))), (1, .inl v1), (2, .inl v2), (3, .inl v3), (4, .inl v4), (5, .inl v5)] [0, 1, 2, 3, 4, 5] rfl ?_
  refine G_iload_n dX7_move_0 rfl ?_
  refine G_callSv  (X7_isSheet_ok rfl) ok_X7_isSheet ml_X7_215 (by decide) rfl rfl (Nat.le_of_ble_eq_true rfl) dX7_move_1 ?_
  refine G_if_eq (tgt := 14) dX7_move_4 (by decide) (fun hc1 => ?_) (fun hc1 => ?_)
  · replace h := (if_pos hc1).symm.trans h
    refine G_aload_n dX7_move_14 rfl ?_
    refine G_iconst (v := 1) dX7_move_15 (by decide) ?_
    obtain ⟨q1, hq1, h⟩ := bnd h
    refine G_callVv (T := TX7) (N := 10) (f := 7) (i := 0) (X7_fail_ok hq1) ok_X7_fail ml_X7_65 (by decide) rfl (by decide) (by decide) (by decide) rfl rfl (Nat.le_of_ble_eq_true rfl) dX7_move_16 ?_
    obtain rfl := Option.some.inj h
    exact G_ret dX7_move_19 trivial rfl rfl
  · replace h := (if_neg hc1).symm.trans h
    refine G_iload_n dX7_move_7 rfl ?_
    refine G_callSv  (X7_isSheet_ok rfl) ok_X7_isSheet ml_X7_215 (by decide) rfl rfl (Nat.le_of_ble_eq_true rfl) dX7_move_8 ?_
    refine G_if_ne (tgt := 20) dX7_move_11 (by decide) (fun hc2 => ?_) (fun hc2 => ?_)
    · replace h := (if_neg hc2).symm.trans h
      refine G_aload_n dX7_move_20 rfl ?_
      refine fg_X7_48 rfl (by decide) dX7_move_21 ?_
      refine G_iload_n dX7_move_24 rfl ?_
      obtain ⟨hb2, h⟩ := chk h
      have lhb2 := ib_lt hb2
      refine G_aald5 (by decide) (by decide) (by decide) rfl hb2 dX7_move_25 ?_
      refine G_astore (L2 := [(6, .inr (.inr (5, v1.toNatClampNeg))), (0, .inr (.inr (7, 0))), (1, .inl v1), (2, .inl v2), (3, .inl v3), (4, .inl v4), (5, .inl v5)]) dX7_move_26 (by decide) rfl ?_
      refine G_aload_n dX7_move_28 rfl ?_
      refine fg_X7_48 rfl (by decide) dX7_move_29 ?_
      refine G_iload_n dX7_move_32 rfl ?_
      obtain ⟨hb3, h⟩ := chk h
      have lhb3 := ib_lt hb3
      refine G_aald5 (by decide) (by decide) (by decide) rfl hb3 dX7_move_33 ?_
      refine G_astore (L2 := [(7, .inr (.inr (5, v3.toNatClampNeg))), (6, .inr (.inr (5, v1.toNatClampNeg))), (0, .inr (.inr (7, 0))), (1, .inl v1), (2, .inl v2), (3, .inl v3), (4, .inl v4), (5, .inl v5)]) dX7_move_34 (by decide) rfl ?_
      refine G_aload dX7_move_36 rfl ?_
      refine G_callVv (T := TX5) (N := 3) (f := 5) (i := v1.toNatClampNeg) (X5_isMissing_ok (by omega) rfl) ok_X5_isMissing ml_X7_218 (by decide) rfl (by decide) (show v1.toNatClampNeg < 4 from (by omega)) (by decide) rfl rfl (Nat.le_of_ble_eq_true rfl) dX7_move_38 ?_
      refine G_if_ne (tgt := 52) dX7_move_41 (by decide) (fun hc3 => ?_) (fun hc3 => ?_)
      · replace h := (if_neg hc3).symm.trans h
        refine G_aload_n dX7_move_52 rfl ?_
        refine G_iconst (v := 2) dX7_move_53 (by decide) ?_
        obtain ⟨q4, hq4, h⟩ := bnd h
        refine G_callVv (T := TX7) (N := 10) (f := 7) (i := 0) (X7_fail_ok hq4) ok_X7_fail ml_X7_65 (by decide) rfl (by decide) (by decide) (by decide) rfl rfl (Nat.le_of_ble_eq_true rfl) dX7_move_54 ?_
        obtain rfl := Option.some.inj h
        exact G_ret dX7_move_57 trivial rfl rfl
      · replace h := (if_pos hc3).symm.trans h
        refine G_aload dX7_move_44 rfl ?_
        refine G_callVv (T := TX5) (N := 3) (f := 5) (i := v3.toNatClampNeg) (X5_isMissing_ok (by omega) rfl) ok_X5_isMissing ml_X7_218 (by decide) rfl (by decide) (show v3.toNatClampNeg < 4 from (by omega)) (by decide) rfl rfl (Nat.le_of_ble_eq_true rfl) dX7_move_46 ?_
        refine G_if_eq (tgt := 58) dX7_move_49 (by decide) (fun hc4 => ?_) (fun hc4 => ?_)
        · replace h := (if_pos hc4).symm.trans h
          refine G_aload dX7_move_58 rfl ?_
          refine fg_X7_265 (v := (M 5 v1.toNatClampNeg 1)) rfl rfl (by omega) dX7_move_60 ?_
          refine G_aload dX7_move_63 rfl ?_
          refine fg_X7_265 (v := (M 5 v3.toNatClampNeg 1)) rfl rfl (by omega) dX7_move_65 ?_
          refine G_icmp_eq (tgt := 77) dX7_move_68 (by decide) (fun hc5 => ?_) (fun hc5 => ?_)
          · replace h := (if_pos hc5).symm.trans h
            refine G_aload dX7_move_77 rfl ?_
            refine G_iload_n dX7_move_79 rfl ?_
            refine G_iload dX7_move_80 rfl ?_
            refine G_callVv (T := TX5) (N := 3) (f := 5) (i := v1.toNatClampNeg) (X5_holds_ok (by omega) rfl) ok_X5_holds ml_X7_268 (by decide) rfl (by decide) (show v1.toNatClampNeg < 4 from (by omega)) (by decide) rfl rfl (Nat.le_of_ble_eq_true rfl) dX7_move_82 ?_
            refine G_if_eq (tgt := 100) dX7_move_85 (by decide) (fun hc6 => ?_) (fun hc6 => ?_)
            · replace h := (if_pos hc6).symm.trans h
              refine G_aload_n dX7_move_100 rfl ?_
              refine G_iconst (v := 1) dX7_move_101 (by decide) ?_
              obtain ⟨q5, hq5, h⟩ := bnd h
              refine G_callVv (T := TX7) (N := 10) (f := 7) (i := 0) (X7_fail_ok hq5) ok_X7_fail ml_X7_65 (by decide) rfl (by decide) (by decide) (by decide) rfl rfl (Nat.le_of_ble_eq_true rfl) dX7_move_102 ?_
              obtain rfl := Option.some.inj h
              exact G_ret dX7_move_105 trivial rfl rfl
            · replace h := (if_neg hc6).symm.trans h
              refine G_aload dX7_move_88 rfl ?_
              refine G_iload dX7_move_90 rfl ?_
              refine G_iload dX7_move_92 rfl ?_
              refine G_callVv (T := TX5) (N := 3) (f := 5) (i := v3.toNatClampNeg) (X5_holds_ok (by omega) rfl) ok_X5_holds ml_X7_268 (by decide) rfl (by decide) (show v3.toNatClampNeg < 4 from (by omega)) (by decide) rfl rfl (Nat.le_of_ble_eq_true rfl) dX7_move_94 ?_
              refine G_if_ne (tgt := 106) dX7_move_97 (by decide) (fun hc7 => ?_) (fun hc7 => ?_)
              · replace h := (if_neg hc7).symm.trans h
                refine G_aload dX7_move_106 rfl ?_
                refine fg_X7_260 rfl (by omega) dX7_move_108 ?_
                refine G_iload_n dX7_move_111 rfl ?_
                refine G_aload dX7_move_112 rfl ?_
                refine fg_X7_260 rfl (by omega) dX7_move_114 ?_
                refine G_iload dX7_move_117 rfl ?_
                refine G_iload dX7_move_119 rfl ?_
                obtain ⟨hb6, h⟩ := chk h
                refine G_copy (M2 := ((cp3 M 15 v1.toNatClampNeg v2.toNatClampNeg 15 v3.toNatClampNeg v4.toNatClampNeg v5.toNatClampNeg), N)) ml_X7_271 na_copy st_copy in_System (by decide) (show v1.toNatClampNeg < 4 from (by omega)) (by decide) (show v3.toNatClampNeg < 4 from (by omega)) (by decide) (by decide) (by decide) hb6 (by decide) rfl rfl dX7_move_121 ?_
                refine G_iload dX7_move_124 rfl ?_
                obtain rfl := Option.some.inj h
                exact G_ret dX7_move_126 trivial rfl rfl
              · replace h := (if_pos hc7).symm.trans h
                refine G_aload_n dX7_move_100 rfl ?_
                refine G_iconst (v := 1) dX7_move_101 (by decide) ?_
                obtain ⟨q7, hq7, h⟩ := bnd h
                refine G_callVv (T := TX7) (N := 10) (f := 7) (i := 0) (X7_fail_ok hq7) ok_X7_fail ml_X7_65 (by decide) rfl (by decide) (by decide) (by decide) rfl rfl (Nat.le_of_ble_eq_true rfl) dX7_move_102 ?_
                obtain rfl := Option.some.inj h
                exact G_ret dX7_move_105 trivial rfl rfl
          · replace h := (if_neg hc5).symm.trans h
            refine G_aload_n dX7_move_71 rfl ?_
            refine G_iconst (v := 5) dX7_move_72 (by decide) ?_
            obtain ⟨q8, hq8, h⟩ := bnd h
            refine G_callVv (T := TX7) (N := 10) (f := 7) (i := 0) (X7_fail_ok hq8) ok_X7_fail ml_X7_65 (by decide) rfl (by decide) (by decide) (by decide) rfl rfl (Nat.le_of_ble_eq_true rfl) dX7_move_73 ?_
            obtain rfl := Option.some.inj h
            exact G_ret dX7_move_76 trivial rfl rfl
        · replace h := (if_neg hc4).symm.trans h
          refine G_aload_n dX7_move_52 rfl ?_
          refine G_iconst (v := 2) dX7_move_53 (by decide) ?_
          obtain ⟨q9, hq9, h⟩ := bnd h
          refine G_callVv (T := TX7) (N := 10) (f := 7) (i := 0) (X7_fail_ok hq9) ok_X7_fail ml_X7_65 (by decide) rfl (by decide) (by decide) (by decide) rfl rfl (Nat.le_of_ble_eq_true rfl) dX7_move_54 ?_
          obtain rfl := Option.some.inj h
          exact G_ret dX7_move_57 trivial rfl rfl
    · replace h := (if_pos hc2).symm.trans h
      refine G_aload_n dX7_move_14 rfl ?_
      refine G_iconst (v := 1) dX7_move_15 (by decide) ?_
      obtain ⟨q10, hq10, h⟩ := bnd h
      refine G_callVv (T := TX7) (N := 10) (f := 7) (i := 0) (X7_fail_ok hq10) ok_X7_fail ml_X7_65 (by decide) rfl (by decide) (by decide) (by decide) rfl rfl (Nat.le_of_ble_eq_true rfl) dX7_move_16 ?_
      obtain rfl := Option.some.inj h
      exact G_ret dX7_move_19 trivial rfl rfl

theorem dX7_uses_0 : decode cX7_uses 0 = .ok (.iload_n 1, 1) := by decide +kernel
theorem dX7_uses_1 : decode cX7_uses 1 = .ok (.invokestatic 215, 3) := by decide +kernel
theorem dX7_uses_4 : decode cX7_uses 4 = .ok (.ifCond .ne 9, 3) := by decide +kernel
theorem dX7_uses_7 : decode cX7_uses 7 = .ok (.aload_n 0, 1) := by decide +kernel
theorem dX7_uses_8 : decode cX7_uses 8 = .ok (.iconst 1, 1) := by decide +kernel
theorem dX7_uses_9 : decode cX7_uses 9 = .ok (.invokevirtual 65, 3) := by decide +kernel
theorem dX7_uses_12 : decode cX7_uses 12 = .ok (.ireturn, 1) := by decide +kernel
theorem dX7_uses_13 : decode cX7_uses 13 = .ok (.aload_n 0, 1) := by decide +kernel
theorem dX7_uses_14 : decode cX7_uses 14 = .ok (.getfield 48, 3) := by decide +kernel
theorem dX7_uses_17 : decode cX7_uses 17 = .ok (.iload_n 1, 1) := by decide +kernel
theorem dX7_uses_18 : decode cX7_uses 18 = .ok (.aaload, 1) := by decide +kernel
theorem dX7_uses_19 : decode cX7_uses 19 = .ok (.astore_n 2, 1) := by decide +kernel
theorem dX7_uses_20 : decode cX7_uses 20 = .ok (.aload_n 2, 1) := by decide +kernel
theorem dX7_uses_21 : decode cX7_uses 21 = .ok (.invokevirtual 218, 3) := by decide +kernel
theorem dX7_uses_24 : decode cX7_uses 24 = .ok (.ifCond .eq 9, 3) := by decide +kernel
theorem dX7_uses_27 : decode cX7_uses 27 = .ok (.aload_n 0, 1) := by decide +kernel
theorem dX7_uses_28 : decode cX7_uses 28 = .ok (.iconst 2, 1) := by decide +kernel
theorem dX7_uses_29 : decode cX7_uses 29 = .ok (.invokevirtual 65, 3) := by decide +kernel
theorem dX7_uses_32 : decode cX7_uses 32 = .ok (.ireturn, 1) := by decide +kernel
theorem dX7_uses_33 : decode cX7_uses 33 = .ok (.aload_n 2, 1) := by decide +kernel
theorem dX7_uses_34 : decode cX7_uses 34 = .ok (.getfield 257, 3) := by decide +kernel
theorem dX7_uses_37 : decode cX7_uses 37 = .ok (.aload_n 0, 1) := by decide +kernel
theorem dX7_uses_38 : decode cX7_uses 38 = .ok (.getfield 10, 3) := by decide +kernel
theorem dX7_uses_41 : decode cX7_uses 41 = .ok (.getfield 81, 3) := by decide +kernel
theorem dX7_uses_44 : decode cX7_uses 44 = .ok (.invokestatic 225, 3) := by decide +kernel
theorem dX7_uses_47 : decode cX7_uses 47 = .ok (.istore_n 3, 1) := by decide +kernel
theorem dX7_uses_48 : decode cX7_uses 48 = .ok (.iconst 0, 1) := by decide +kernel
theorem dX7_uses_49 : decode cX7_uses 49 = .ok (.istore 4, 2) := by decide +kernel
theorem dX7_uses_51 : decode cX7_uses 51 = .ok (.iload 4, 2) := by decide +kernel
theorem dX7_uses_53 : decode cX7_uses 53 = .ok (.iload_n 3, 1) := by decide +kernel
theorem dX7_uses_54 : decode cX7_uses 54 = .ok (.if_icmp .ge 47, 3) := by decide +kernel
theorem dX7_uses_57 : decode cX7_uses 57 = .ok (.aload_n 2, 1) := by decide +kernel
theorem dX7_uses_58 : decode cX7_uses 58 = .ok (.getfield 260, 3) := by decide +kernel
theorem dX7_uses_61 : decode cX7_uses 61 = .ok (.iload 4, 2) := by decide +kernel
theorem dX7_uses_63 : decode cX7_uses 63 = .ok (.iaload, 1) := by decide +kernel
theorem dX7_uses_64 : decode cX7_uses 64 = .ok (.bipush 9, 2) := by decide +kernel
theorem dX7_uses_66 : decode cX7_uses 66 = .ok (.invokestatic 61, 3) := by decide +kernel
theorem dX7_uses_69 : decode cX7_uses 69 = .ok (.ifCond .ne 6, 3) := by decide +kernel
theorem dX7_uses_72 : decode cX7_uses 72 = .ok (.iload 4, 2) := by decide +kernel
theorem dX7_uses_74 : decode cX7_uses 74 = .ok (.ireturn, 1) := by decide +kernel
theorem dX7_uses_75 : decode cX7_uses 75 = .ok (.aload_n 0, 1) := by decide +kernel
theorem dX7_uses_76 : decode cX7_uses 76 = .ok (.getfield 10, 3) := by decide +kernel
theorem dX7_uses_79 : decode cX7_uses 79 = .ok (.getfield 85, 3) := by decide +kernel
theorem dX7_uses_82 : decode cX7_uses 82 = .ok (.iload 4, 2) := by decide +kernel
theorem dX7_uses_84 : decode cX7_uses 84 = .ok (.aaload, 1) := by decide +kernel
theorem dX7_uses_85 : decode cX7_uses 85 = .ok (.aload_n 2, 1) := by decide +kernel
theorem dX7_uses_86 : decode cX7_uses 86 = .ok (.getfield 260, 3) := by decide +kernel
theorem dX7_uses_89 : decode cX7_uses 89 = .ok (.iload 4, 2) := by decide +kernel
theorem dX7_uses_91 : decode cX7_uses 91 = .ok (.iaload, 1) := by decide +kernel
theorem dX7_uses_92 : decode cX7_uses 92 = .ok (.putfield 107, 3) := by decide +kernel
theorem dX7_uses_95 : decode cX7_uses 95 = .ok (.iinc 4 1, 3) := by decide +kernel
theorem dX7_uses_98 : decode cX7_uses 98 = .ok (.goto (-47), 3) := by decide +kernel
theorem dX7_uses_101 : decode cX7_uses 101 = .ok (.iload_n 3, 1) := by decide +kernel
theorem dX7_uses_102 : decode cX7_uses 102 = .ok (.ireturn, 1) := by decide +kernel
def X7_uses_L51 : Nat → Nat → Int32 → Int32 → Mem → Option (Mem ⊕ (Int32 × Mem))
  | 0, _, _, _, _ => none
  | fu + 1, i2, v3, v4, M => (if v4 < v3 then (if ib v4 40 = true then (if (X7_isWithin (M 15 i2 v4.toNatClampNeg) 9) = 0 then (some (.inr (v4, M))) else (if ib v4 10 = true then (X7_uses_L51 fu i2 v3 (v4 + 1) (up3 M 3 (10 * 0 + v4.toNatClampNeg) 3 (M 15 i2 v4.toNatClampNeg))) else none)) else none) else (some (.inl M)))
set_option maxRecDepth 100000 in
set_option maxHeartbeats 4000000 in
theorem X7_uses_L51_ok  {r : Option AV} {M' : MM} : ∀ (fu : Nat) (i2 : Nat) (v3 : Int32) (v4 : Int32) (M N : Mem) {res : (Mem) ⊕ (Int32 × Mem)} (hi2 : i2 < 4) (h : X7_uses_L51 fu i2 v3 v4 M = some res) (K : ∀ q, res = .inl q → G mt_X7_uses 1 r M' 101 [(3, .inl v3)] [] (q, N)) (K2 : ∀ q, res = .inr q → r = (some (.inl q.1)) ∧ M' = (q.2, N)), G mt_X7_uses 1 r M' 51 [(0, .inr (.inr (7, 0))), (2, .inr (.inr (5, i2))), (3, .inl v3), (4, .inl v4)] [] (M, N) := by
  intro fu
  induction fu with
  | zero =>
    intro i2 v3 v4 M N res hi2 h
    cases h
  | succ fu ih =>
    intro i2 v3 v4 M N res hi2 h K K2
    replace h : (if v4 < v3 then (if ib v4 40 = true then (if (X7_isWithin (M 15 i2 v4.toNatClampNeg) 9) = 0 then (some (.inr (v4, M))) else (if ib v4 10 = true then (X7_uses_L51 fu i2 v3 (v4 + 1) (up3 M 3 (10 * 0 + v4.toNatClampNeg) 3 (M 15 i2 v4.toNatClampNeg))) else none)) else none) else (some (.inl M))) = some res := h
    refine G_iload dX7_uses_51 rfl ?_
    refine G_iload_n dX7_uses_53 rfl ?_
    refine G_icmp_ge (tgt := 101) dX7_uses_54 (by decide) (fun hc5 => ?_) (fun hc5 => ?_)
    · replace h := (if_neg hc5).symm.trans h
      refine G_sub [(3, .inl v3)] [2] rfl ?_
      exact K _ (Option.some.inj h).symm
    · replace h := (if_pos hc5).symm.trans h
      refine G_aload_n dX7_uses_57 rfl ?_
      refine fg_X7_260 rfl hi2 dX7_uses_58 ?_
      refine G_iload dX7_uses_61 rfl ?_
      obtain ⟨hb2, h⟩ := chk h
      have lhb2 := ib_lt hb2
      refine al_15 (kk := v4.toNatClampNeg) (v := (M 15 i2 v4.toNatClampNeg)) hi2 hb2 rfl rfl dX7_uses_63 ?_
      refine G_bipush (v := 9) dX7_uses_64 (by decide) ?_
      refine G_callSv  (X7_isWithin_ok rfl) ok_X7_isWithin ml_X7_61 (by decide) rfl rfl (Nat.le_of_ble_eq_true rfl) dX7_uses_66 ?_
      refine G_if_ne (tgt := 75) dX7_uses_69 (by decide) (fun hc6 => ?_) (fun hc6 => ?_)
      · replace h := (if_neg hc6).symm.trans h
        refine G_aload_n dX7_uses_75 rfl ?_
        refine fg_X7_10 rfl (by decide) dX7_uses_76 ?_
        refine fg_X7_85 rfl (by decide) dX7_uses_79 ?_
        refine G_iload dX7_uses_82 rfl ?_
        obtain ⟨hb3, h⟩ := chk h
        have lhb3 := ib_lt hb3
        refine G_aald3 (by decide) (by decide) (by decide) rfl hb3 dX7_uses_84 ?_
        refine G_aload_n dX7_uses_85 rfl ?_
        refine fg_X7_260 rfl hi2 dX7_uses_86 ?_
        refine G_iload dX7_uses_89 rfl ?_
        refine al_15 (kk := v4.toNatClampNeg) (v := (M 15 i2 v4.toNatClampNeg)) hi2 hb2 rfl rfl dX7_uses_91 ?_
        refine fp_X7_107 rfl (by omega) dX7_uses_92 ?_
        refine G_iinc (v := (v4 + 1)) (L2 := [(4, .inl (v4 + 1)), (0, .inr (.inr (7, 0))), (2, .inr (.inr (5, i2))), (3, .inl v3)]) dX7_uses_95 rfl (by first | rfl | (show _ + Int32.ofInt _ = _; rfl)) (by decide) rfl ?_
        refine G_goto (tgt := 51) dX7_uses_98 (by decide) ?_
        refine G_sub [(0, .inr (.inr (7, 0))), (2, .inr (.inr (5, i2))), (3, .inl v3), (4, .inl (v4 + 1))] [1, 2, 3, 0] rfl ?_
        exact ih i2 v3 (v4 + 1) (up3 M 3 (10 * 0 + v4.toNatClampNeg) 3 (M 15 i2 v4.toNatClampNeg)) _ hi2 h K K2
      · replace h := (if_pos hc6).symm.trans h
        refine G_iload dX7_uses_72 rfl ?_
        obtain ⟨e1, e2⟩ := K2 _ (Option.some.inj h).symm
        subst e1; subst e2
        exact G_ret dX7_uses_74 trivial rfl rfl

def X7_uses (v1 : Int32) (M : Mem) : Option (Int32 × Mem) := (if (X7_isSheet v1) = 0 then ((X7_fail 1 M).bind fun q6 => (some (q6.1, q6.2))) else (if ib v1 4 = true then (if (X5_isMissing v1.toNatClampNeg M) = 0 then ((X7_uses_L51 400 v1.toNatClampNeg (jmin (M 5 v1.toNatClampNeg 2) (M 1 0 5)) 0 M).bind fun q4 => match q4 with
  | .inl q4 => (some ((jmin (M 5 v1.toNatClampNeg 2) (M 1 0 5)), q4))
  | .inr q4 => some q4) else ((X7_fail 2 M).bind fun q5 => (some (q5.1, q5.2)))) else none))
set_option maxRecDepth 100000 in
set_option maxHeartbeats 4000000 in
theorem X7_uses_ok  {v1 : Int32} {M N : Mem} {res : Int32 × Mem} (h : X7_uses v1 M = some res) : Spec mt_X7_uses 1 [.inr (.inr (7, 0)), .inl v1] (M, N) (some (.inl res.1)) (res.2, N) := by
  unfold X7_uses at h
  refine Spec_of_G (by decide) rfl (Nat.le_of_ble_eq_true rfl) ?_
  refine G_sub [(0, .inr (.inr (7, 0))), (1, .inl v1)] [0, 1] rfl ?_
  refine G_iload_n dX7_uses_0 rfl ?_
  refine G_callSv  (X7_isSheet_ok rfl) ok_X7_isSheet ml_X7_215 (by decide) rfl rfl (Nat.le_of_ble_eq_true rfl) dX7_uses_1 ?_
  refine G_if_ne (tgt := 13) dX7_uses_4 (by decide) (fun hc1 => ?_) (fun hc1 => ?_)
  · replace h := (if_neg hc1).symm.trans h
    refine G_aload_n dX7_uses_13 rfl ?_
    refine fg_X7_48 rfl (by decide) dX7_uses_14 ?_
    refine G_iload_n dX7_uses_17 rfl ?_
    obtain ⟨hb1, h⟩ := chk h
    have lhb1 := ib_lt hb1
    refine G_aald5 (by decide) (by decide) (by decide) rfl hb1 dX7_uses_18 ?_
    refine G_astore_n (L2 := [(2, .inr (.inr (5, v1.toNatClampNeg))), (0, .inr (.inr (7, 0))), (1, .inl v1)]) dX7_uses_19 (by decide) rfl ?_
    refine G_aload_n dX7_uses_20 rfl ?_
    refine G_callVv (T := TX5) (N := 3) (f := 5) (i := v1.toNatClampNeg) (X5_isMissing_ok (by omega) rfl) ok_X5_isMissing ml_X7_218 (by decide) rfl (by decide) (show v1.toNatClampNeg < 4 from (by omega)) (by decide) rfl rfl (Nat.le_of_ble_eq_true rfl) dX7_uses_21 ?_
    refine G_if_eq (tgt := 33) dX7_uses_24 (by decide) (fun hc2 => ?_) (fun hc2 => ?_)
    · replace h := (if_pos hc2).symm.trans h
      refine G_aload_n dX7_uses_33 rfl ?_
      refine fg_X7_257 (v := (M 5 v1.toNatClampNeg 2)) rfl rfl (by omega) dX7_uses_34 ?_
      refine G_aload_n dX7_uses_37 rfl ?_
      refine fg_X7_10 rfl (by decide) dX7_uses_38 ?_
      refine fg_X7_81 (v := (M 1 0 5)) rfl rfl (by decide) dX7_uses_41 ?_
      refine G_min ml_X7_225 st_min in_Math cd_min (by decide) (Nat.le_of_ble_eq_true rfl) dX7_uses_44 ?_
      refine G_istore_n (L2 := [(3, .inl (jmin (M 5 v1.toNatClampNeg 2) (M 1 0 5))), (2, .inr (.inr (5, v1.toNatClampNeg))), (0, .inr (.inr (7, 0))), (1, .inl v1)]) dX7_uses_47 (by decide) rfl ?_
      refine G_iconst (v := 0) dX7_uses_48 (by decide) ?_
      refine G_istore (L2 := [(4, .inl 0), (3, .inl (jmin (M 5 v1.toNatClampNeg 2) (M 1 0 5))), (2, .inr (.inr (5, v1.toNatClampNeg))), (0, .inr (.inr (7, 0))), (1, .inl v1)]) dX7_uses_49 (by decide) rfl ?_
      refine G_sub [(0, .inr (.inr (7, 0))), (2, .inr (.inr (5, v1.toNatClampNeg))), (3, .inl (jmin (M 5 v1.toNatClampNeg 2) (M 1 0 5))), (4, .inl 0)] [3, 2, 1, 0] rfl ?_
      obtain ⟨q4, hq4, h⟩ := bnd h
      refine X7_uses_L51_ok  400 v1.toNatClampNeg (jmin (M 5 v1.toNatClampNeg 2) (M 1 0 5)) 0 M _ (by omega) hq4 (fun q4n q4e => ?_) (fun q4n q4e => ?_)
      · subst q4e
        refine G_iload_n dX7_uses_101 rfl ?_
        obtain rfl := Option.some.inj h
        exact G_ret dX7_uses_102 trivial rfl rfl
      · subst q4e
        obtain rfl := Option.some.inj h
        exact ⟨rfl, rfl⟩
    · replace h := (if_neg hc2).symm.trans h
      refine G_aload_n dX7_uses_27 rfl ?_
      refine G_iconst (v := 2) dX7_uses_28 (by decide) ?_
      obtain ⟨q5, hq5, h⟩ := bnd h
      refine G_callVv (T := TX7) (N := 10) (f := 7) (i := 0) (X7_fail_ok hq5) ok_X7_fail ml_X7_65 (by decide) rfl (by decide) (by decide) (by decide) rfl rfl (Nat.le_of_ble_eq_true rfl) dX7_uses_29 ?_
      obtain rfl := Option.some.inj h
      exact G_ret dX7_uses_32 trivial rfl rfl
  · replace h := (if_pos hc1).symm.trans h
    refine G_aload_n dX7_uses_7 rfl ?_
    refine G_iconst (v := 1) dX7_uses_8 (by decide) ?_
    obtain ⟨q6, hq6, h⟩ := bnd h
    refine G_callVv (T := TX7) (N := 10) (f := 7) (i := 0) (X7_fail_ok hq6) ok_X7_fail ml_X7_65 (by decide) rfl (by decide) (by decide) (by decide) rfl rfl (Nat.le_of_ble_eq_true rfl) dX7_uses_9 ?_
    obtain rfl := Option.some.inj h
    exact G_ret dX7_uses_12 trivial rfl rfl

theorem dX7_judge_0 : decode cX7_judge 0 = .ok (.iload_n 1, 1) := by decide +kernel
theorem dX7_judge_1 : decode cX7_judge 1 = .ok (.invokestatic 215, 3) := by decide +kernel
theorem dX7_judge_4 : decode cX7_judge 4 = .ok (.ifCond .ne 9, 3) := by decide +kernel
theorem dX7_judge_7 : decode cX7_judge 7 = .ok (.aload_n 0, 1) := by decide +kernel
theorem dX7_judge_8 : decode cX7_judge 8 = .ok (.iconst 1, 1) := by decide +kernel
theorem dX7_judge_9 : decode cX7_judge 9 = .ok (.invokevirtual 65, 3) := by decide +kernel
theorem dX7_judge_12 : decode cX7_judge 12 = .ok (.ireturn, 1) := by decide +kernel
theorem dX7_judge_13 : decode cX7_judge 13 = .ok (.aload_n 0, 1) := by decide +kernel
theorem dX7_judge_14 : decode cX7_judge 14 = .ok (.getfield 48, 3) := by decide +kernel
theorem dX7_judge_17 : decode cX7_judge 17 = .ok (.iload_n 1, 1) := by decide +kernel
theorem dX7_judge_18 : decode cX7_judge 18 = .ok (.aaload, 1) := by decide +kernel
theorem dX7_judge_19 : decode cX7_judge 19 = .ok (.astore_n 2, 1) := by decide +kernel
theorem dX7_judge_20 : decode cX7_judge 20 = .ok (.aload_n 2, 1) := by decide +kernel
theorem dX7_judge_21 : decode cX7_judge 21 = .ok (.invokevirtual 218, 3) := by decide +kernel
theorem dX7_judge_24 : decode cX7_judge 24 = .ok (.ifCond .eq 9, 3) := by decide +kernel
theorem dX7_judge_27 : decode cX7_judge 27 = .ok (.aload_n 0, 1) := by decide +kernel
theorem dX7_judge_28 : decode cX7_judge 28 = .ok (.iconst 2, 1) := by decide +kernel
theorem dX7_judge_29 : decode cX7_judge 29 = .ok (.invokevirtual 65, 3) := by decide +kernel
theorem dX7_judge_32 : decode cX7_judge 32 = .ok (.ireturn, 1) := by decide +kernel
theorem dX7_judge_33 : decode cX7_judge 33 = .ok (.aload_n 2, 1) := by decide +kernel
theorem dX7_judge_34 : decode cX7_judge 34 = .ok (.getfield 257, 3) := by decide +kernel
theorem dX7_judge_37 : decode cX7_judge 37 = .ok (.aload_n 0, 1) := by decide +kernel
theorem dX7_judge_38 : decode cX7_judge 38 = .ok (.getfield 10, 3) := by decide +kernel
theorem dX7_judge_41 : decode cX7_judge 41 = .ok (.getfield 81, 3) := by decide +kernel
theorem dX7_judge_44 : decode cX7_judge 44 = .ok (.invokestatic 225, 3) := by decide +kernel
theorem dX7_judge_47 : decode cX7_judge 47 = .ok (.istore_n 3, 1) := by decide +kernel
theorem dX7_judge_48 : decode cX7_judge 48 = .ok (.iconst 0, 1) := by decide +kernel
theorem dX7_judge_49 : decode cX7_judge 49 = .ok (.istore 4, 2) := by decide +kernel
theorem dX7_judge_51 : decode cX7_judge 51 = .ok (.iload 4, 2) := by decide +kernel
theorem dX7_judge_53 : decode cX7_judge 53 = .ok (.iload_n 3, 1) := by decide +kernel
theorem dX7_judge_54 : decode cX7_judge 54 = .ok (.if_icmp .ge 35, 3) := by decide +kernel
theorem dX7_judge_57 : decode cX7_judge 57 = .ok (.aload_n 2, 1) := by decide +kernel
theorem dX7_judge_58 : decode cX7_judge 58 = .ok (.getfield 260, 3) := by decide +kernel
theorem dX7_judge_61 : decode cX7_judge 61 = .ok (.iload 4, 2) := by decide +kernel
theorem dX7_judge_63 : decode cX7_judge 63 = .ok (.iaload, 1) := by decide +kernel
theorem dX7_judge_64 : decode cX7_judge 64 = .ok (.aload_n 0, 1) := by decide +kernel
theorem dX7_judge_65 : decode cX7_judge 65 = .ok (.getfield 10, 3) := by decide +kernel
theorem dX7_judge_68 : decode cX7_judge 68 = .ok (.getfield 85, 3) := by decide +kernel
theorem dX7_judge_71 : decode cX7_judge 71 = .ok (.iload 4, 2) := by decide +kernel
theorem dX7_judge_73 : decode cX7_judge 73 = .ok (.aaload, 1) := by decide +kernel
theorem dX7_judge_74 : decode cX7_judge 74 = .ok (.getfield 116, 3) := by decide +kernel
theorem dX7_judge_77 : decode cX7_judge 77 = .ok (.if_icmp .eq 6, 3) := by decide +kernel
theorem dX7_judge_80 : decode cX7_judge 80 = .ok (.iload 4, 2) := by decide +kernel
theorem dX7_judge_82 : decode cX7_judge 82 = .ok (.ireturn, 1) := by decide +kernel
theorem dX7_judge_83 : decode cX7_judge 83 = .ok (.iinc 4 1, 3) := by decide +kernel
theorem dX7_judge_86 : decode cX7_judge 86 = .ok (.goto (-35), 3) := by decide +kernel
theorem dX7_judge_89 : decode cX7_judge 89 = .ok (.aload_n 2, 1) := by decide +kernel
theorem dX7_judge_90 : decode cX7_judge 90 = .ok (.getfield 257, 3) := by decide +kernel
theorem dX7_judge_93 : decode cX7_judge 93 = .ok (.aload_n 0, 1) := by decide +kernel
theorem dX7_judge_94 : decode cX7_judge 94 = .ok (.getfield 10, 3) := by decide +kernel
theorem dX7_judge_97 : decode cX7_judge 97 = .ok (.getfield 81, 3) := by decide +kernel
theorem dX7_judge_100 : decode cX7_judge 100 = .ok (.if_icmp .ne 7, 3) := by decide +kernel
theorem dX7_judge_103 : decode cX7_judge 103 = .ok (.iconst (-1), 1) := by decide +kernel
theorem dX7_judge_104 : decode cX7_judge 104 = .ok (.goto 4, 3) := by decide +kernel
theorem dX7_judge_107 : decode cX7_judge 107 = .ok (.iload_n 3, 1) := by decide +kernel
theorem dX7_judge_108 : decode cX7_judge 108 = .ok (.ireturn, 1) := by decide +kernel
def X7_judge_L51 : Nat → Nat → Int32 → Int32 → Mem → Option (Unit ⊕ (Int32 × Mem))
  | 0, _, _, _, _ => none
  | fu + 1, i2, v3, v4, M => (if v4 < v3 then (if ib v4 40 = true then (if ib v4 10 = true then (if (M 15 i2 v4.toNatClampNeg) = (M 3 (10 * 0 + v4.toNatClampNeg) 6) then (X7_judge_L51 fu i2 v3 (v4 + 1) M) else (some (.inr (v4, M)))) else none) else none) else (some (.inl ())))
set_option maxRecDepth 100000 in
set_option maxHeartbeats 4000000 in
theorem X7_judge_L51_ok  {r : Option AV} {M' : MM} : ∀ (fu : Nat) (i2 : Nat) (v3 : Int32) (v4 : Int32) (M N : Mem) {res : (Unit) ⊕ (Int32 × Mem)} (hi2 : i2 < 4) (h : X7_judge_L51 fu i2 v3 v4 M = some res) (K : ∀ q, res = .inl q → G mt_X7_judge 1 r M' 89 [(0, .inr (.inr (7, 0))), (2, .inr (.inr (5, i2))), (3, .inl v3)] [] (M, N)) (K2 : ∀ q, res = .inr q → r = (some (.inl q.1)) ∧ M' = (q.2, N)), G mt_X7_judge 1 r M' 51 [(0, .inr (.inr (7, 0))), (2, .inr (.inr (5, i2))), (3, .inl v3), (4, .inl v4)] [] (M, N) := by
  intro fu
  induction fu with
  | zero =>
    intro i2 v3 v4 M N res hi2 h
    cases h
  | succ fu ih =>
    intro i2 v3 v4 M N res hi2 h K K2
    replace h : (if v4 < v3 then (if ib v4 40 = true then (if ib v4 10 = true then (if (M 15 i2 v4.toNatClampNeg) = (M 3 (10 * 0 + v4.toNatClampNeg) 6) then (X7_judge_L51 fu i2 v3 (v4 + 1) M) else (some (.inr (v4, M)))) else none) else none) else (some (.inl ()))) = some res := h
    refine G_iload dX7_judge_51 rfl ?_
    refine G_iload_n dX7_judge_53 rfl ?_
    refine G_icmp_ge (tgt := 89) dX7_judge_54 (by decide) (fun hc5 => ?_) (fun hc5 => ?_)
    · replace h := (if_neg hc5).symm.trans h
      refine G_sub [(0, .inr (.inr (7, 0))), (2, .inr (.inr (5, i2))), (3, .inl v3)] [0, 1, 2] rfl ?_
      exact K _ (Option.some.inj h).symm
    · replace h := (if_pos hc5).symm.trans h
      refine G_aload_n dX7_judge_57 rfl ?_
      refine fg_X7_260 rfl hi2 dX7_judge_58 ?_
      refine G_iload dX7_judge_61 rfl ?_
      obtain ⟨hb2, h⟩ := chk h
      have lhb2 := ib_lt hb2
      refine al_15 (kk := v4.toNatClampNeg) (v := (M 15 i2 v4.toNatClampNeg)) hi2 hb2 rfl rfl dX7_judge_63 ?_
      refine G_aload_n dX7_judge_64 rfl ?_
      refine fg_X7_10 rfl (by decide) dX7_judge_65 ?_
      refine fg_X7_85 rfl (by decide) dX7_judge_68 ?_
      refine G_iload dX7_judge_71 rfl ?_
      obtain ⟨hb3, h⟩ := chk h
      have lhb3 := ib_lt hb3
      refine G_aald3 (by decide) (by decide) (by decide) rfl hb3 dX7_judge_73 ?_
      refine fg_X7_116 (v := (M 3 (10 * 0 + v4.toNatClampNeg) 6)) rfl rfl (by omega) dX7_judge_74 ?_
      refine G_icmp_eq (tgt := 83) dX7_judge_77 (by decide) (fun hc6 => ?_) (fun hc6 => ?_)
      · replace h := (if_pos hc6).symm.trans h
        refine G_iinc (v := (v4 + 1)) (L2 := [(4, .inl (v4 + 1)), (0, .inr (.inr (7, 0))), (2, .inr (.inr (5, i2))), (3, .inl v3)]) dX7_judge_83 rfl (by first | rfl | (show _ + Int32.ofInt _ = _; rfl)) (by decide) rfl ?_
        refine G_goto (tgt := 51) dX7_judge_86 (by decide) ?_
        refine G_sub [(0, .inr (.inr (7, 0))), (2, .inr (.inr (5, i2))), (3, .inl v3), (4, .inl (v4 + 1))] [1, 2, 3, 0] rfl ?_
        exact ih i2 v3 (v4 + 1) M _ hi2 h K K2
      · replace h := (if_neg hc6).symm.trans h
        refine G_iload dX7_judge_80 rfl ?_
        obtain ⟨e1, e2⟩ := K2 _ (Option.some.inj h).symm
        subst e1; subst e2
        exact G_ret dX7_judge_82 trivial rfl rfl

def X7_judge (v1 : Int32) (M : Mem) : Option (Int32 × Mem) := (if (X7_isSheet v1) = 0 then ((X7_fail 1 M).bind fun q6 => (some (q6.1, q6.2))) else (if ib v1 4 = true then (if (X5_isMissing v1.toNatClampNeg M) = 0 then ((X7_judge_L51 400 v1.toNatClampNeg (jmin (M 5 v1.toNatClampNeg 2) (M 1 0 5)) 0 M).bind fun q4 => match q4 with
  | .inl q4 => (if (M 5 v1.toNatClampNeg 2) = (M 1 0 5) then (some ((-1), M)) else (some ((jmin (M 5 v1.toNatClampNeg 2) (M 1 0 5)), M)))
  | .inr q4 => some q4) else ((X7_fail 2 M).bind fun q5 => (some (q5.1, q5.2)))) else none))
set_option maxRecDepth 100000 in
set_option maxHeartbeats 4000000 in
theorem X7_judge_ok  {v1 : Int32} {M N : Mem} {res : Int32 × Mem} (h : X7_judge v1 M = some res) : Spec mt_X7_judge 1 [.inr (.inr (7, 0)), .inl v1] (M, N) (some (.inl res.1)) (res.2, N) := by
  unfold X7_judge at h
  refine Spec_of_G (by decide) rfl (Nat.le_of_ble_eq_true rfl) ?_
  refine G_sub [(0, .inr (.inr (7, 0))), (1, .inl v1)] [0, 1] rfl ?_
  refine G_iload_n dX7_judge_0 rfl ?_
  refine G_callSv  (X7_isSheet_ok rfl) ok_X7_isSheet ml_X7_215 (by decide) rfl rfl (Nat.le_of_ble_eq_true rfl) dX7_judge_1 ?_
  refine G_if_ne (tgt := 13) dX7_judge_4 (by decide) (fun hc1 => ?_) (fun hc1 => ?_)
  · replace h := (if_neg hc1).symm.trans h
    refine G_aload_n dX7_judge_13 rfl ?_
    refine fg_X7_48 rfl (by decide) dX7_judge_14 ?_
    refine G_iload_n dX7_judge_17 rfl ?_
    obtain ⟨hb1, h⟩ := chk h
    have lhb1 := ib_lt hb1
    refine G_aald5 (by decide) (by decide) (by decide) rfl hb1 dX7_judge_18 ?_
    refine G_astore_n (L2 := [(2, .inr (.inr (5, v1.toNatClampNeg))), (0, .inr (.inr (7, 0))), (1, .inl v1)]) dX7_judge_19 (by decide) rfl ?_
    refine G_aload_n dX7_judge_20 rfl ?_
    refine G_callVv (T := TX5) (N := 3) (f := 5) (i := v1.toNatClampNeg) (X5_isMissing_ok (by omega) rfl) ok_X5_isMissing ml_X7_218 (by decide) rfl (by decide) (show v1.toNatClampNeg < 4 from (by omega)) (by decide) rfl rfl (Nat.le_of_ble_eq_true rfl) dX7_judge_21 ?_
    refine G_if_eq (tgt := 33) dX7_judge_24 (by decide) (fun hc2 => ?_) (fun hc2 => ?_)
    · replace h := (if_pos hc2).symm.trans h
      refine G_aload_n dX7_judge_33 rfl ?_
      refine fg_X7_257 (v := (M 5 v1.toNatClampNeg 2)) rfl rfl (by omega) dX7_judge_34 ?_
      refine G_aload_n dX7_judge_37 rfl ?_
      refine fg_X7_10 rfl (by decide) dX7_judge_38 ?_
      refine fg_X7_81 (v := (M 1 0 5)) rfl rfl (by decide) dX7_judge_41 ?_
      refine G_min ml_X7_225 st_min in_Math cd_min (by decide) (Nat.le_of_ble_eq_true rfl) dX7_judge_44 ?_
      refine G_istore_n (L2 := [(3, .inl (jmin (M 5 v1.toNatClampNeg 2) (M 1 0 5))), (2, .inr (.inr (5, v1.toNatClampNeg))), (0, .inr (.inr (7, 0))), (1, .inl v1)]) dX7_judge_47 (by decide) rfl ?_
      refine G_iconst (v := 0) dX7_judge_48 (by decide) ?_
      refine G_istore (L2 := [(4, .inl 0), (3, .inl (jmin (M 5 v1.toNatClampNeg 2) (M 1 0 5))), (2, .inr (.inr (5, v1.toNatClampNeg))), (0, .inr (.inr (7, 0))), (1, .inl v1)]) dX7_judge_49 (by decide) rfl ?_
      refine G_sub [(0, .inr (.inr (7, 0))), (2, .inr (.inr (5, v1.toNatClampNeg))), (3, .inl (jmin (M 5 v1.toNatClampNeg 2) (M 1 0 5))), (4, .inl 0)] [3, 2, 1, 0] rfl ?_
      obtain ⟨q4, hq4, h⟩ := bnd h
      refine X7_judge_L51_ok  400 v1.toNatClampNeg (jmin (M 5 v1.toNatClampNeg 2) (M 1 0 5)) 0 M _ (by omega) hq4 (fun q4n q4e => ?_) (fun q4n q4e => ?_)
      · subst q4e
        refine G_aload_n dX7_judge_89 rfl ?_
        refine fg_X7_257 (v := (M 5 v1.toNatClampNeg 2)) rfl rfl (by omega) dX7_judge_90 ?_
        refine G_aload_n dX7_judge_93 rfl ?_
        refine fg_X7_10 rfl (by decide) dX7_judge_94 ?_
        refine fg_X7_81 (v := (M 1 0 5)) rfl rfl (by decide) dX7_judge_97 ?_
        refine G_icmp_ne (tgt := 107) dX7_judge_100 (by decide) (fun hc7 => ?_) (fun hc7 => ?_)
        · replace h := (if_neg hc7).symm.trans h
          refine G_iload_n dX7_judge_107 rfl ?_
          obtain rfl := Option.some.inj h
          exact G_ret dX7_judge_108 trivial rfl rfl
        · replace h := (if_pos hc7).symm.trans h
          refine G_iconst (v := (-1)) dX7_judge_103 (by decide) ?_
          refine G_goto (tgt := 108) dX7_judge_104 (by decide) ?_
          obtain rfl := Option.some.inj h
          exact G_ret dX7_judge_108 trivial rfl rfl
      · subst q4e
        obtain rfl := Option.some.inj h
        exact ⟨rfl, rfl⟩
    · replace h := (if_neg hc2).symm.trans h
      refine G_aload_n dX7_judge_27 rfl ?_
      refine G_iconst (v := 2) dX7_judge_28 (by decide) ?_
      obtain ⟨q5, hq5, h⟩ := bnd h
      refine G_callVv (T := TX7) (N := 10) (f := 7) (i := 0) (X7_fail_ok hq5) ok_X7_fail ml_X7_65 (by decide) rfl (by decide) (by decide) (by decide) rfl rfl (Nat.le_of_ble_eq_true rfl) dX7_judge_29 ?_
      obtain rfl := Option.some.inj h
      exact G_ret dX7_judge_32 trivial rfl rfl
  · replace h := (if_pos hc1).symm.trans h
    refine G_aload_n dX7_judge_7 rfl ?_
    refine G_iconst (v := 1) dX7_judge_8 (by decide) ?_
    obtain ⟨q6, hq6, h⟩ := bnd h
    refine G_callVv (T := TX7) (N := 10) (f := 7) (i := 0) (X7_fail_ok hq6) ok_X7_fail ml_X7_65 (by decide) rfl (by decide) (by decide) (by decide) rfl rfl (Nat.le_of_ble_eq_true rfl) dX7_judge_9 ?_
    obtain rfl := Option.some.inj h
    exact G_ret dX7_judge_12 trivial rfl rfl

theorem dX7_image_0 : decode cX7_image 0 = .ok (.aload_n 0, 1) := by decide +kernel
theorem dX7_image_1 : decode cX7_image 1 = .ok (.getfield 19, 3) := by decide +kernel
theorem dX7_image_4 : decode cX7_image 4 = .ok (.aload_n 0, 1) := by decide +kernel
theorem dX7_image_5 : decode cX7_image 5 = .ok (.getfield 10, 3) := by decide +kernel
theorem dX7_image_8 : decode cX7_image 8 = .ok (.invokevirtual 277, 3) := by decide +kernel
theorem dX7_image_11 : decode cX7_image 11 = .ok (.aload_n 0, 1) := by decide +kernel
theorem dX7_image_12 : decode cX7_image 12 = .ok (.getfield 29, 3) := by decide +kernel
theorem dX7_image_15 : decode cX7_image 15 = .ok (.aload_n 0, 1) := by decide +kernel
theorem dX7_image_16 : decode cX7_image 16 = .ok (.getfield 25, 3) := by decide +kernel
theorem dX7_image_19 : decode cX7_image 19 = .ok (.invokevirtual 280, 3) := by decide +kernel
theorem dX7_image_22 : decode cX7_image 22 = .ok (.aload_n 0, 1) := by decide +kernel
theorem dX7_image_23 : decode cX7_image 23 = .ok (.dup, 1) := by decide +kernel
theorem dX7_image_24 : decode cX7_image 24 = .ok (.getfield 283, 3) := by decide +kernel
theorem dX7_image_27 : decode cX7_image 27 = .ok (.iconst 1, 1) := by decide +kernel
theorem dX7_image_28 : decode cX7_image 28 = .ok (.iadd, 1) := by decide +kernel
theorem dX7_image_29 : decode cX7_image 29 = .ok (.putfield 283, 3) := by decide +kernel
theorem dX7_image_32 : decode cX7_image 32 = .ok (.aload_n 0, 1) := by decide +kernel
theorem dX7_image_33 : decode cX7_image 33 = .ok (.getfield 283, 3) := by decide +kernel
theorem dX7_image_36 : decode cX7_image 36 = .ok (.ireturn, 1) := by decide +kernel
def X7_image  (M : Mem) : Option (Int32 × Mem) := ((X1_copy 2 0 M).bind fun q1 => ((X0_copy 1 0 q1).bind fun q2 => (some (((q2 7 0 9) + 1), (up3 q2 7 0 9 ((q2 7 0 9) + 1))))))
set_option maxRecDepth 100000 in
set_option maxHeartbeats 4000000 in
theorem X7_image_ok  {M N : Mem} {res : Int32 × Mem} (h : X7_image M = some res) : Spec mt_X7_image 3 [.inr (.inr (7, 0))] (M, N) (some (.inl res.1)) (res.2, N) := by
  unfold X7_image at h
  refine Spec_of_G (by decide) rfl (Nat.le_of_ble_eq_true rfl) ?_
  refine G_sub [(0, .inr (.inr (7, 0)))] [0] rfl ?_
  refine G_aload_n dX7_image_0 rfl ?_
  refine fg_X7_19 rfl (by decide) dX7_image_1 ?_
  refine G_aload_n dX7_image_4 rfl ?_
  refine fg_X7_10 rfl (by decide) dX7_image_5 ?_
  obtain ⟨q1, hq1, h⟩ := bnd h
  refine G_callVn (T := TX1) (N := 8) (f := 1) (i := 2) (X1_copy_ok (by decide) (by decide) hq1) ok_X1_copy ml_X7_277 (by decide) rfl (by decide) (by decide) (by decide) rfl rfl (Nat.le_of_ble_eq_true rfl) dX7_image_8 ?_
  refine G_aload_n dX7_image_11 rfl ?_
  refine fg_X7_29 rfl (by decide) dX7_image_12 ?_
  refine G_aload_n dX7_image_15 rfl ?_
  refine fg_X7_25 rfl (by decide) dX7_image_16 ?_
  obtain ⟨q2, hq2, h⟩ := bnd h
  refine G_callVn (T := TX0) (N := 5) (f := 0) (i := 1) (X0_copy_ok (by decide) (by decide) hq2) ok_X0_copy ml_X7_280 (by decide) rfl (by decide) (by decide) (by decide) rfl rfl (Nat.le_of_ble_eq_true rfl) dX7_image_19 ?_
  refine G_aload_n dX7_image_22 rfl ?_
  refine G_dup rfl dX7_image_23 ?_
  refine fg_X7_283 (v := (q2 7 0 9)) rfl rfl (by decide) dX7_image_24 ?_
  refine G_iconst (v := 1) dX7_image_27 (by decide) ?_
  refine G_iadd dX7_image_28 ?_
  refine fp_X7_283 rfl (by decide) dX7_image_29 ?_
  refine G_aload_n dX7_image_32 rfl ?_
  refine fg_X7_283 (v := ((q2 7 0 9) + 1)) up3_eq rfl (by decide) dX7_image_33 ?_
  obtain rfl := Option.some.inj h
  exact G_ret dX7_image_36 trivial rfl rfl

theorem dX7_restore_0 : decode cX7_restore 0 = .ok (.aload_n 0, 1) := by decide +kernel
theorem dX7_restore_1 : decode cX7_restore 1 = .ok (.getfield 283, 3) := by decide +kernel
theorem dX7_restore_4 : decode cX7_restore 4 = .ok (.ifCond .ne 9, 3) := by decide +kernel
theorem dX7_restore_7 : decode cX7_restore 7 = .ok (.aload_n 0, 1) := by decide +kernel
theorem dX7_restore_8 : decode cX7_restore 8 = .ok (.iconst 2, 1) := by decide +kernel
theorem dX7_restore_9 : decode cX7_restore 9 = .ok (.invokevirtual 65, 3) := by decide +kernel
theorem dX7_restore_12 : decode cX7_restore 12 = .ok (.ireturn, 1) := by decide +kernel
theorem dX7_restore_13 : decode cX7_restore 13 = .ok (.aload_n 0, 1) := by decide +kernel
theorem dX7_restore_14 : decode cX7_restore 14 = .ok (.getfield 10, 3) := by decide +kernel
theorem dX7_restore_17 : decode cX7_restore 17 = .ok (.aload_n 0, 1) := by decide +kernel
theorem dX7_restore_18 : decode cX7_restore 18 = .ok (.getfield 19, 3) := by decide +kernel
theorem dX7_restore_21 : decode cX7_restore 21 = .ok (.invokevirtual 277, 3) := by decide +kernel
theorem dX7_restore_24 : decode cX7_restore 24 = .ok (.aload_n 0, 1) := by decide +kernel
theorem dX7_restore_25 : decode cX7_restore 25 = .ok (.getfield 25, 3) := by decide +kernel
theorem dX7_restore_28 : decode cX7_restore 28 = .ok (.aload_n 0, 1) := by decide +kernel
theorem dX7_restore_29 : decode cX7_restore 29 = .ok (.getfield 29, 3) := by decide +kernel
theorem dX7_restore_32 : decode cX7_restore 32 = .ok (.invokevirtual 280, 3) := by decide +kernel
theorem dX7_restore_35 : decode cX7_restore 35 = .ok (.aload_n 0, 1) := by decide +kernel
theorem dX7_restore_36 : decode cX7_restore 36 = .ok (.getfield 10, 3) := by decide +kernel
theorem dX7_restore_39 : decode cX7_restore 39 = .ok (.getfield 176, 3) := by decide +kernel
theorem dX7_restore_42 : decode cX7_restore 42 = .ok (.ireturn, 1) := by decide +kernel
def X7_restore  (M : Mem) : Option (Int32 × Mem) := (if (M 7 0 9) = 0 then ((X7_fail 2 M).bind fun q3 => (some (q3.1, q3.2))) else ((X1_copy 0 2 M).bind fun q1 => ((X0_copy 0 1 q1).bind fun q2 => (some ((q2 1 0 6), q2)))))
set_option maxRecDepth 100000 in
set_option maxHeartbeats 4000000 in
theorem X7_restore_ok  {M N : Mem} {res : Int32 × Mem} (h : X7_restore M = some res) : Spec mt_X7_restore 3 [.inr (.inr (7, 0))] (M, N) (some (.inl res.1)) (res.2, N) := by
  unfold X7_restore at h
  refine Spec_of_G (by decide) rfl (Nat.le_of_ble_eq_true rfl) ?_
  refine G_sub [(0, .inr (.inr (7, 0)))] [0] rfl ?_
  refine G_aload_n dX7_restore_0 rfl ?_
  refine fg_X7_283 (v := (M 7 0 9)) rfl rfl (by decide) dX7_restore_1 ?_
  refine G_if_ne (tgt := 13) dX7_restore_4 (by decide) (fun hc1 => ?_) (fun hc1 => ?_)
  · replace h := (if_neg hc1).symm.trans h
    refine G_aload_n dX7_restore_13 rfl ?_
    refine fg_X7_10 rfl (by decide) dX7_restore_14 ?_
    refine G_aload_n dX7_restore_17 rfl ?_
    refine fg_X7_19 rfl (by decide) dX7_restore_18 ?_
    obtain ⟨q1, hq1, h⟩ := bnd h
    refine G_callVn (T := TX1) (N := 8) (f := 1) (i := 0) (X1_copy_ok (by decide) (by decide) hq1) ok_X1_copy ml_X7_277 (by decide) rfl (by decide) (by decide) (by decide) rfl rfl (Nat.le_of_ble_eq_true rfl) dX7_restore_21 ?_
    refine G_aload_n dX7_restore_24 rfl ?_
    refine fg_X7_25 rfl (by decide) dX7_restore_25 ?_
    refine G_aload_n dX7_restore_28 rfl ?_
    refine fg_X7_29 rfl (by decide) dX7_restore_29 ?_
    obtain ⟨q2, hq2, h⟩ := bnd h
    refine G_callVn (T := TX0) (N := 5) (f := 0) (i := 0) (X0_copy_ok (by decide) (by decide) hq2) ok_X0_copy ml_X7_280 (by decide) rfl (by decide) (by decide) (by decide) rfl rfl (Nat.le_of_ble_eq_true rfl) dX7_restore_32 ?_
    refine G_aload_n dX7_restore_35 rfl ?_
    refine fg_X7_10 rfl (by decide) dX7_restore_36 ?_
    refine fg_X7_176 (v := (q2 1 0 6)) rfl rfl (by decide) dX7_restore_39 ?_
    obtain rfl := Option.some.inj h
    exact G_ret dX7_restore_42 trivial rfl rfl
  · replace h := (if_pos hc1).symm.trans h
    refine G_aload_n dX7_restore_7 rfl ?_
    refine G_iconst (v := 2) dX7_restore_8 (by decide) ?_
    obtain ⟨q3, hq3, h⟩ := bnd h
    refine G_callVv (T := TX7) (N := 10) (f := 7) (i := 0) (X7_fail_ok hq3) ok_X7_fail ml_X7_65 (by decide) rfl (by decide) (by decide) (by decide) rfl rfl (Nat.le_of_ble_eq_true rfl) dX7_restore_9 ?_
    obtain rfl := Option.some.inj h
    exact G_ret dX7_restore_12 trivial rfl rfl

theorem dX7_tell_0 : decode cX7_tell 0 = .ok (.aload_n 0, 1) := by decide +kernel
theorem dX7_tell_1 : decode cX7_tell 1 = .ok (.getfield 25, 3) := by decide +kernel
theorem dX7_tell_4 : decode cX7_tell 4 = .ok (.getfield 286, 3) := by decide +kernel
theorem dX7_tell_7 : decode cX7_tell 7 = .ok (.bipush 20, 2) := by decide +kernel
theorem dX7_tell_9 : decode cX7_tell 9 = .ok (.if_icmp .lt 9, 3) := by decide +kernel
theorem dX7_tell_12 : decode cX7_tell 12 = .ok (.aload_n 0, 1) := by decide +kernel
theorem dX7_tell_13 : decode cX7_tell 13 = .ok (.iconst 4, 1) := by decide +kernel
theorem dX7_tell_14 : decode cX7_tell 14 = .ok (.invokevirtual 65, 3) := by decide +kernel
theorem dX7_tell_17 : decode cX7_tell 17 = .ok (.ireturn, 1) := by decide +kernel
theorem dX7_tell_18 : decode cX7_tell 18 = .ok (.aload_n 0, 1) := by decide +kernel
theorem dX7_tell_19 : decode cX7_tell 19 = .ok (.getfield 25, 3) := by decide +kernel
theorem dX7_tell_22 : decode cX7_tell 22 = .ok (.getfield 289, 3) := by decide +kernel
theorem dX7_tell_25 : decode cX7_tell 25 = .ok (.aload_n 0, 1) := by decide +kernel
theorem dX7_tell_26 : decode cX7_tell 26 = .ok (.getfield 25, 3) := by decide +kernel
theorem dX7_tell_29 : decode cX7_tell 29 = .ok (.getfield 286, 3) := by decide +kernel
theorem dX7_tell_32 : decode cX7_tell 32 = .ok (.iload_n 1, 1) := by decide +kernel
theorem dX7_tell_33 : decode cX7_tell 33 = .ok (.iastore, 1) := by decide +kernel
theorem dX7_tell_34 : decode cX7_tell 34 = .ok (.aload_n 0, 1) := by decide +kernel
theorem dX7_tell_35 : decode cX7_tell 35 = .ok (.getfield 25, 3) := by decide +kernel
theorem dX7_tell_38 : decode cX7_tell 38 = .ok (.dup, 1) := by decide +kernel
theorem dX7_tell_39 : decode cX7_tell 39 = .ok (.getfield 286, 3) := by decide +kernel
theorem dX7_tell_42 : decode cX7_tell 42 = .ok (.iconst 1, 1) := by decide +kernel
theorem dX7_tell_43 : decode cX7_tell 43 = .ok (.iadd, 1) := by decide +kernel
theorem dX7_tell_44 : decode cX7_tell 44 = .ok (.putfield 286, 3) := by decide +kernel
theorem dX7_tell_47 : decode cX7_tell 47 = .ok (.aload_n 0, 1) := by decide +kernel
theorem dX7_tell_48 : decode cX7_tell 48 = .ok (.getfield 25, 3) := by decide +kernel
theorem dX7_tell_51 : decode cX7_tell 51 = .ok (.getfield 286, 3) := by decide +kernel
theorem dX7_tell_54 : decode cX7_tell 54 = .ok (.ireturn, 1) := by decide +kernel
def X7_tell (v1 : Int32) (M : Mem) : Option (Int32 × Mem) := (if (M 0 0 3) < 20 then (if ib (M 0 0 3) 20 = true then (some (((M 0 0 3) + 1), (up3 (up3 M 9 0 ((M 0 0 3).toNatClampNeg) v1) 0 0 3 ((M 0 0 3) + 1)))) else none) else ((X7_fail 4 M).bind fun q2 => (some (q2.1, q2.2))))
set_option maxRecDepth 100000 in
set_option maxHeartbeats 4000000 in
theorem X7_tell_ok  {v1 : Int32} {M N : Mem} {res : Int32 × Mem} (h : X7_tell v1 M = some res) : Spec mt_X7_tell 1 [.inr (.inr (7, 0)), .inl v1] (M, N) (some (.inl res.1)) (res.2, N) := by
  unfold X7_tell at h
  refine Spec_of_G (by decide) rfl (Nat.le_of_ble_eq_true rfl) ?_
  refine G_sub [(0, .inr (.inr (7, 0))), (1, .inl v1)] [0, 1] rfl ?_
  refine G_aload_n dX7_tell_0 rfl ?_
  refine fg_X7_25 rfl (by decide) dX7_tell_1 ?_
  refine fg_X7_286 (v := (M 0 0 3)) rfl rfl (by decide) dX7_tell_4 ?_
  refine G_bipush (v := 20) dX7_tell_7 (by decide) ?_
  refine G_icmp_lt (tgt := 18) dX7_tell_9 (by decide) (fun hc1 => ?_) (fun hc1 => ?_)
  · replace h := (if_pos hc1).symm.trans h
    refine G_aload_n dX7_tell_18 rfl ?_
    refine fg_X7_25 rfl (by decide) dX7_tell_19 ?_
    refine fg_X7_289 rfl (by decide) dX7_tell_22 ?_
    refine G_aload_n dX7_tell_25 rfl ?_
    refine fg_X7_25 rfl (by decide) dX7_tell_26 ?_
    refine fg_X7_286 (v := (M 0 0 3)) rfl rfl (by decide) dX7_tell_29 ?_
    refine G_iload_n dX7_tell_32 rfl ?_
    obtain ⟨hb1, h⟩ := chk h
    have lhb1 := ib_lt hb1
    refine as_9 (kk := (M 0 0 3).toNatClampNeg) (by decide) hb1 rfl dX7_tell_33 ?_
    refine G_aload_n dX7_tell_34 rfl ?_
    refine fg_X7_25 rfl (by decide) dX7_tell_35 ?_
    refine G_dup rfl dX7_tell_38 ?_
    refine fg_X7_286 (v := (M 0 0 3)) (up3_f (by decide)) rfl (by decide) dX7_tell_39 ?_
    refine G_iconst (v := 1) dX7_tell_42 (by decide) ?_
    refine G_iadd dX7_tell_43 ?_
    refine fp_X7_286 rfl (by decide) dX7_tell_44 ?_
    refine G_aload_n dX7_tell_47 rfl ?_
    refine fg_X7_25 rfl (by decide) dX7_tell_48 ?_
    refine fg_X7_286 (v := ((M 0 0 3) + 1)) up3_eq rfl (by decide) dX7_tell_51 ?_
    obtain rfl := Option.some.inj h
    exact G_ret dX7_tell_54 trivial rfl rfl
  · replace h := (if_neg hc1).symm.trans h
    refine G_aload_n dX7_tell_12 rfl ?_
    refine G_iconst (v := 4) dX7_tell_13 (by decide) ?_
    obtain ⟨q2, hq2, h⟩ := bnd h
    refine G_callVv (T := TX7) (N := 10) (f := 7) (i := 0) (X7_fail_ok hq2) ok_X7_fail ml_X7_65 (by decide) rfl (by decide) (by decide) (by decide) rfl rfl (Nat.le_of_ble_eq_true rfl) dX7_tell_14 ?_
    obtain rfl := Option.some.inj h
    exact G_ret dX7_tell_17 trivial rfl rfl

theorem dX7_check_0 : decode cX7_check 0 = .ok (.aload_n 0, 1) := by decide +kernel
theorem dX7_check_1 : decode cX7_check 1 = .ok (.getfield 25, 3) := by decide +kernel
theorem dX7_check_4 : decode cX7_check 4 = .ok (.getfield 286, 3) := by decide +kernel
theorem dX7_check_7 : decode cX7_check 7 = .ok (.istore_n 1, 1) := by decide +kernel
theorem dX7_check_8 : decode cX7_check 8 = .ok (.aload_n 0, 1) := by decide +kernel
theorem dX7_check_9 : decode cX7_check 9 = .ok (.getfield 25, 3) := by decide +kernel
theorem dX7_check_12 : decode cX7_check 12 = .ok (.iconst 0, 1) := by decide +kernel
theorem dX7_check_13 : decode cX7_check 13 = .ok (.putfield 286, 3) := by decide +kernel
theorem dX7_check_16 : decode cX7_check 16 = .ok (.aload_n 0, 1) := by decide +kernel
theorem dX7_check_17 : decode cX7_check 17 = .ok (.invokevirtual 192, 3) := by decide +kernel
theorem dX7_check_20 : decode cX7_check 20 = .ok (.astore_n 2, 1) := by decide +kernel
theorem dX7_check_21 : decode cX7_check 21 = .ok (.iconst 0, 1) := by decide +kernel
theorem dX7_check_22 : decode cX7_check 22 = .ok (.istore_n 3, 1) := by decide +kernel
theorem dX7_check_23 : decode cX7_check 23 = .ok (.iload_n 3, 1) := by decide +kernel
theorem dX7_check_24 : decode cX7_check 24 = .ok (.iload_n 1, 1) := by decide +kernel
theorem dX7_check_25 : decode cX7_check 25 = .ok (.if_icmp .ge 34, 3) := by decide +kernel
theorem dX7_check_28 : decode cX7_check 28 = .ok (.aload_n 2, 1) := by decide +kernel
theorem dX7_check_29 : decode cX7_check 29 = .ok (.iconst 1, 1) := by decide +kernel
theorem dX7_check_30 : decode cX7_check 30 = .ok (.invokevirtual 179, 3) := by decide +kernel
theorem dX7_check_33 : decode cX7_check 33 = .ok (.aload_n 2, 1) := by decide +kernel
theorem dX7_check_34 : decode cX7_check 34 = .ok (.invokevirtual 182, 3) := by decide +kernel
theorem dX7_check_37 : decode cX7_check 37 = .ok (.aload_n 0, 1) := by decide +kernel
theorem dX7_check_38 : decode cX7_check 38 = .ok (.getfield 25, 3) := by decide +kernel
theorem dX7_check_41 : decode cX7_check 41 = .ok (.getfield 289, 3) := by decide +kernel
theorem dX7_check_44 : decode cX7_check 44 = .ok (.iload_n 3, 1) := by decide +kernel
theorem dX7_check_45 : decode cX7_check 45 = .ok (.iaload, 1) := by decide +kernel
theorem dX7_check_46 : decode cX7_check 46 = .ok (.if_icmp .eq 7, 3) := by decide +kernel
theorem dX7_check_49 : decode cX7_check 49 = .ok (.iconst 1, 1) := by decide +kernel
theorem dX7_check_50 : decode cX7_check 50 = .ok (.iload_n 3, 1) := by decide +kernel
theorem dX7_check_51 : decode cX7_check 51 = .ok (.iadd, 1) := by decide +kernel
theorem dX7_check_52 : decode cX7_check 52 = .ok (.ireturn, 1) := by decide +kernel
theorem dX7_check_53 : decode cX7_check 53 = .ok (.iinc 3 1, 3) := by decide +kernel
theorem dX7_check_56 : decode cX7_check 56 = .ok (.goto (-33), 3) := by decide +kernel
theorem dX7_check_59 : decode cX7_check 59 = .ok (.iconst 0, 1) := by decide +kernel
theorem dX7_check_60 : decode cX7_check 60 = .ok (.ireturn, 1) := by decide +kernel
def X7_check_L23 : Nat → Int32 → Nat → Int32 → Mem → Option (Mem ⊕ (Int32 × Mem))
  | 0, _, _, _, _ => none
  | fu + 1, v1, i2, v3, M => (if v3 < v1 then ((X1_passYears i2 1 M).bind fun q2 => ((X1_allHandles i2 q2).bind fun q3 => (if ib v3 20 = true then (if q3 = (q2 9 0 v3.toNatClampNeg) then (X7_check_L23 fu v1 i2 (v3 + 1) q2) else (some (.inr ((1 + v3), q2)))) else none))) else (some (.inl M)))
set_option maxRecDepth 100000 in
set_option maxHeartbeats 4000000 in
theorem X7_check_L23_ok  {r : Option AV} {M' : MM} : ∀ (fu : Nat) (v1 : Int32) (i2 : Nat) (v3 : Int32) (M N : Mem) {res : (Mem) ⊕ (Int32 × Mem)} (hi2 : i2 < 3) (h : X7_check_L23 fu v1 i2 v3 M = some res) (K : ∀ q, res = .inl q → G mt_X7_check 5 r M' 59 [] [] (q, N)) (K2 : ∀ q, res = .inr q → r = (some (.inl q.1)) ∧ M' = (q.2, N)), G mt_X7_check 5 r M' 23 [(0, .inr (.inr (7, 0))), (1, .inl v1), (2, .inr (.inr (1, i2))), (3, .inl v3)] [] (M, N) := by
  intro fu
  induction fu with
  | zero =>
    intro v1 i2 v3 M N res hi2 h
    cases h
  | succ fu ih =>
    intro v1 i2 v3 M N res hi2 h K K2
    replace h : (if v3 < v1 then ((X1_passYears i2 1 M).bind fun q2 => ((X1_allHandles i2 q2).bind fun q3 => (if ib v3 20 = true then (if q3 = (q2 9 0 v3.toNatClampNeg) then (X7_check_L23 fu v1 i2 (v3 + 1) q2) else (some (.inr ((1 + v3), q2)))) else none))) else (some (.inl M))) = some res := h
    refine G_iload_n dX7_check_23 rfl ?_
    refine G_iload_n dX7_check_24 rfl ?_
    refine G_icmp_ge (tgt := 59) dX7_check_25 (by decide) (fun hc3 => ?_) (fun hc3 => ?_)
    · replace h := (if_neg hc3).symm.trans h
      refine G_sub [] [] rfl ?_
      exact K _ (Option.some.inj h).symm
    · replace h := (if_pos hc3).symm.trans h
      refine G_aload_n dX7_check_28 rfl ?_
      refine G_iconst (v := 1) dX7_check_29 (by decide) ?_
      obtain ⟨q2, hq2, h⟩ := bnd h
      refine G_callVn (T := TX1) (N := 8) (f := 1) (i := i2) (X1_passYears_ok hi2 hq2) ok_X1_passYears ml_X7_179 (by decide) rfl (by decide) (show i2 < 3 from hi2) (by decide) rfl rfl (Nat.le_of_ble_eq_true rfl) dX7_check_30 ?_
      refine G_aload_n dX7_check_33 rfl ?_
      obtain ⟨q3, hq3, h⟩ := bnd h
      refine G_callVv (T := TX1) (N := 8) (f := 1) (i := i2) (X1_allHandles_ok hi2 hq3) ok_X1_allHandles ml_X7_182 (by decide) rfl (by decide) (show i2 < 3 from hi2) (by decide) rfl rfl (Nat.le_of_ble_eq_true rfl) dX7_check_34 ?_
      refine G_aload_n dX7_check_37 rfl ?_
      refine fg_X7_25 rfl (by decide) dX7_check_38 ?_
      refine fg_X7_289 rfl (by decide) dX7_check_41 ?_
      refine G_iload_n dX7_check_44 rfl ?_
      obtain ⟨hb4, h⟩ := chk h
      have lhb4 := ib_lt hb4
      refine al_9 (kk := v3.toNatClampNeg) (v := (q2 9 0 v3.toNatClampNeg)) (by decide) hb4 rfl rfl dX7_check_45 ?_
      refine G_icmp_eq (tgt := 53) dX7_check_46 (by decide) (fun hc4 => ?_) (fun hc4 => ?_)
      · replace h := (if_pos hc4).symm.trans h
        refine G_iinc (v := (v3 + 1)) (L2 := [(3, .inl (v3 + 1)), (0, .inr (.inr (7, 0))), (1, .inl v1), (2, .inr (.inr (1, i2)))]) dX7_check_53 rfl (by first | rfl | (show _ + Int32.ofInt _ = _; rfl)) (by decide) rfl ?_
        refine G_goto (tgt := 23) dX7_check_56 (by decide) ?_
        refine G_sub [(0, .inr (.inr (7, 0))), (1, .inl v1), (2, .inr (.inr (1, i2))), (3, .inl (v3 + 1))] [1, 2, 3, 0] rfl ?_
        exact ih v1 i2 (v3 + 1) q2 _ hi2 h K K2
      · replace h := (if_neg hc4).symm.trans h
        refine G_iconst (v := 1) dX7_check_49 (by decide) ?_
        refine G_iload_n dX7_check_50 rfl ?_
        refine G_iadd dX7_check_51 ?_
        obtain ⟨e1, e2⟩ := K2 _ (Option.some.inj h).symm
        subst e1; subst e2
        exact G_ret dX7_check_52 trivial rfl rfl

def X7_check  (M : Mem) : Option (Int32 × Mem) := ((X7_asNow (up3 M 0 0 3 0)).bind fun q1 => (if q1.1 < 3 then ((X7_check_L23 400 (M 0 0 3) q1.1 0 q1.2).bind fun q5 => match q5 with
  | .inl q5 => (some (0, q5))
  | .inr q5 => some q5) else none))
set_option maxRecDepth 100000 in
set_option maxHeartbeats 4000000 in
theorem X7_check_ok  {M N : Mem} {res : Int32 × Mem} (h : X7_check M = some res) : Spec mt_X7_check 5 [.inr (.inr (7, 0))] (M, N) (some (.inl res.1)) (res.2, N) := by
  unfold X7_check at h
  refine Spec_of_G (by decide) rfl (Nat.le_of_ble_eq_true rfl) ?_
  refine G_sub [(0, .inr (.inr (7, 0)))] [0] rfl ?_
  refine G_aload_n dX7_check_0 rfl ?_
  refine fg_X7_25 rfl (by decide) dX7_check_1 ?_
  refine fg_X7_286 (v := (M 0 0 3)) rfl rfl (by decide) dX7_check_4 ?_
  refine G_istore_n (L2 := [(1, .inl (M 0 0 3)), (0, .inr (.inr (7, 0)))]) dX7_check_7 (by decide) rfl ?_
  refine G_aload_n dX7_check_8 rfl ?_
  refine fg_X7_25 rfl (by decide) dX7_check_9 ?_
  refine G_iconst (v := 0) dX7_check_12 (by decide) ?_
  refine fp_X7_286 rfl (by decide) dX7_check_13 ?_
  refine G_aload_n dX7_check_16 rfl ?_
  obtain ⟨q1, hq1, h⟩ := bnd h
  refine G_callVv (T := TX7) (N := 10) (f := 7) (i := 0) (X7_asNow_ok hq1) ok_X7_asNow ml_X7_192 (by decide) rfl (by decide) (by decide) (by decide) rfl rfl (Nat.le_of_ble_eq_true rfl) dX7_check_17 ?_
  obtain ⟨lq1, h⟩ := chk h
  refine G_astore_n (L2 := [(2, .inr (.inr (1, q1.1))), (1, .inl (M 0 0 3)), (0, .inr (.inr (7, 0)))]) dX7_check_20 (by decide) rfl ?_
  refine G_iconst (v := 0) dX7_check_21 (by decide) ?_
  refine G_istore_n (L2 := [(3, .inl 0), (2, .inr (.inr (1, q1.1))), (1, .inl (M 0 0 3)), (0, .inr (.inr (7, 0)))]) dX7_check_22 (by decide) rfl ?_
  refine G_sub [(0, .inr (.inr (7, 0))), (1, .inl (M 0 0 3)), (2, .inr (.inr (1, q1.1))), (3, .inl 0)] [3, 2, 1, 0] rfl ?_
  obtain ⟨q5, hq5, h⟩ := bnd h
  refine X7_check_L23_ok  400 (M 0 0 3) q1.1 0 q1.2 _ (by omega) hq5 (fun q5n q5e => ?_) (fun q5n q5e => ?_)
  · subst q5e
    refine G_iconst (v := 0) dX7_check_59 (by decide) ?_
    obtain rfl := Option.some.inj h
    exact G_ret dX7_check_60 trivial rfl rfl
  · subst q5e
    obtain rfl := Option.some.inj h
    exact ⟨rfl, rfl⟩

theorem dX7_count_0 : decode cX7_count 0 = .ok (.iload_n 1, 1) := by decide +kernel
theorem dX7_count_1 : decode cX7_count 1 = .ok (.tableswitch 136 0 9 #[55, 63, 71, 79, 87, 95, 104, 112, 120, 128], 55) := by decide +kernel
theorem dX7_count_56 : decode cX7_count 56 = .ok (.aload_n 0, 1) := by decide +kernel
theorem dX7_count_57 : decode cX7_count 57 = .ok (.getfield 10, 3) := by decide +kernel
theorem dX7_count_60 : decode cX7_count 60 = .ok (.getfield 81, 3) := by decide +kernel
theorem dX7_count_63 : decode cX7_count 63 = .ok (.ireturn, 1) := by decide +kernel
theorem dX7_count_64 : decode cX7_count 64 = .ok (.aload_n 0, 1) := by decide +kernel
theorem dX7_count_65 : decode cX7_count 65 = .ok (.getfield 10, 3) := by decide +kernel
theorem dX7_count_68 : decode cX7_count 68 = .ok (.getfield 176, 3) := by decide +kernel
theorem dX7_count_71 : decode cX7_count 71 = .ok (.ireturn, 1) := by decide +kernel
theorem dX7_count_72 : decode cX7_count 72 = .ok (.aload_n 0, 1) := by decide +kernel
theorem dX7_count_73 : decode cX7_count 73 = .ok (.getfield 10, 3) := by decide +kernel
theorem dX7_count_76 : decode cX7_count 76 = .ok (.getfield 292, 3) := by decide +kernel
theorem dX7_count_79 : decode cX7_count 79 = .ok (.ireturn, 1) := by decide +kernel
theorem dX7_count_80 : decode cX7_count 80 = .ok (.aload_n 0, 1) := by decide +kernel
theorem dX7_count_81 : decode cX7_count 81 = .ok (.getfield 10, 3) := by decide +kernel
theorem dX7_count_84 : decode cX7_count 84 = .ok (.invokevirtual 182, 3) := by decide +kernel
theorem dX7_count_87 : decode cX7_count 87 = .ok (.ireturn, 1) := by decide +kernel
theorem dX7_count_88 : decode cX7_count 88 = .ok (.aload_n 0, 1) := by decide +kernel
theorem dX7_count_89 : decode cX7_count 89 = .ok (.getfield 10, 3) := by decide +kernel
theorem dX7_count_92 : decode cX7_count 92 = .ok (.invokevirtual 295, 3) := by decide +kernel
theorem dX7_count_95 : decode cX7_count 95 = .ok (.ireturn, 1) := by decide +kernel
theorem dX7_count_96 : decode cX7_count 96 = .ok (.aload_n 0, 1) := by decide +kernel
theorem dX7_count_97 : decode cX7_count 97 = .ok (.getfield 10, 3) := by decide +kernel
theorem dX7_count_100 : decode cX7_count 100 = .ok (.iconst (-1), 1) := by decide +kernel
theorem dX7_count_101 : decode cX7_count 101 = .ok (.invokevirtual 75, 3) := by decide +kernel
theorem dX7_count_104 : decode cX7_count 104 = .ok (.ireturn, 1) := by decide +kernel
theorem dX7_count_105 : decode cX7_count 105 = .ok (.aload_n 0, 1) := by decide +kernel
theorem dX7_count_106 : decode cX7_count 106 = .ok (.getfield 25, 3) := by decide +kernel
theorem dX7_count_109 : decode cX7_count 109 = .ok (.getfield 144, 3) := by decide +kernel
theorem dX7_count_112 : decode cX7_count 112 = .ok (.ireturn, 1) := by decide +kernel
theorem dX7_count_113 : decode cX7_count 113 = .ok (.aload_n 0, 1) := by decide +kernel
theorem dX7_count_114 : decode cX7_count 114 = .ok (.getfield 25, 3) := by decide +kernel
theorem dX7_count_117 : decode cX7_count 117 = .ok (.getfield 286, 3) := by decide +kernel
theorem dX7_count_120 : decode cX7_count 120 = .ok (.ireturn, 1) := by decide +kernel
theorem dX7_count_121 : decode cX7_count 121 = .ok (.aload_n 0, 1) := by decide +kernel
theorem dX7_count_122 : decode cX7_count 122 = .ok (.getfield 42, 3) := by decide +kernel
theorem dX7_count_125 : decode cX7_count 125 = .ok (.getfield 247, 3) := by decide +kernel
theorem dX7_count_128 : decode cX7_count 128 = .ok (.ireturn, 1) := by decide +kernel
theorem dX7_count_129 : decode cX7_count 129 = .ok (.aload_n 0, 1) := by decide +kernel
theorem dX7_count_130 : decode cX7_count 130 = .ok (.getfield 25, 3) := by decide +kernel
theorem dX7_count_133 : decode cX7_count 133 = .ok (.getfield 240, 3) := by decide +kernel
theorem dX7_count_136 : decode cX7_count 136 = .ok (.ireturn, 1) := by decide +kernel
theorem dX7_count_137 : decode cX7_count 137 = .ok (.aload_n 0, 1) := by decide +kernel
theorem dX7_count_138 : decode cX7_count 138 = .ok (.iconst 1, 1) := by decide +kernel
theorem dX7_count_139 : decode cX7_count 139 = .ok (.invokevirtual 65, 3) := by decide +kernel
theorem dX7_count_142 : decode cX7_count 142 = .ok (.ireturn, 1) := by decide +kernel
def X7_count (v1 : Int32) (M : Mem) : Option (Int32 × Mem) := (if v1 = 0 then (some ((M 1 0 5), M)) else (if v1 = 1 then (some ((M 1 0 6), M)) else (if v1 = 2 then (some ((M 1 0 7), M)) else (if v1 = 3 then ((X1_allHandles 0 M).bind fun q1 => (some (q1, M))) else (if v1 = 4 then ((X1_falsePots 0 M).bind fun q2 => (some (q2, M))) else (if v1 = 5 then ((X1_potsIn 0 (-1) M).bind fun q3 => (some (q3, M))) else (if v1 = 6 then (some ((M 0 0 2), M)) else (if v1 = 7 then (some ((M 0 0 3), M)) else (if v1 = 8 then (some ((M 6 0 1), M)) else (if v1 = 9 then (some ((M 0 0 4), M)) else ((X7_fail 1 M).bind fun q4 => (some (q4.1, q4.2)))))))))))))
set_option maxRecDepth 100000 in
set_option maxHeartbeats 4000000 in
theorem X7_count_ok  {v1 : Int32} {M N : Mem} {res : Int32 × Mem} (h : X7_count v1 M = some res) : Spec mt_X7_count 1 [.inr (.inr (7, 0)), .inl v1] (M, N) (some (.inl res.1)) (res.2, N) := by
  unfold X7_count at h
  refine Spec_of_G (by decide) rfl (Nat.le_of_ble_eq_true rfl) ?_
  refine G_sub [(0, .inr (.inr (7, 0))), (1, .inl v1)] [0, 1] rfl ?_
  refine G_iload_n dX7_count_0 rfl ?_
  by_cases hc1 : v1 = 0
  · replace h := (if_pos hc1).symm.trans h
    refine G_tableEq (off := 55) (tgt := 56) hc1 dX7_count_1 (by decide) (by decide) (by decide) (by decide) ?_
    refine G_aload_n dX7_count_56 rfl ?_
    refine fg_X7_10 rfl (by decide) dX7_count_57 ?_
    refine fg_X7_81 (v := (M 1 0 5)) rfl rfl (by decide) dX7_count_60 ?_
    obtain rfl := Option.some.inj h
    exact G_ret dX7_count_63 trivial rfl rfl
  replace h := (if_neg hc1).symm.trans h
  by_cases hc2 : v1 = 1
  · replace h := (if_pos hc2).symm.trans h
    refine G_tableEq (off := 63) (tgt := 64) hc2 dX7_count_1 (by decide) (by decide) (by decide) (by decide) ?_
    refine G_aload_n dX7_count_64 rfl ?_
    refine fg_X7_10 rfl (by decide) dX7_count_65 ?_
    refine fg_X7_176 (v := (M 1 0 6)) rfl rfl (by decide) dX7_count_68 ?_
    obtain rfl := Option.some.inj h
    exact G_ret dX7_count_71 trivial rfl rfl
  replace h := (if_neg hc2).symm.trans h
  by_cases hc3 : v1 = 2
  · replace h := (if_pos hc3).symm.trans h
    refine G_tableEq (off := 71) (tgt := 72) hc3 dX7_count_1 (by decide) (by decide) (by decide) (by decide) ?_
    refine G_aload_n dX7_count_72 rfl ?_
    refine fg_X7_10 rfl (by decide) dX7_count_73 ?_
    refine fg_X7_292 (v := (M 1 0 7)) rfl rfl (by decide) dX7_count_76 ?_
    obtain rfl := Option.some.inj h
    exact G_ret dX7_count_79 trivial rfl rfl
  replace h := (if_neg hc3).symm.trans h
  by_cases hc4 : v1 = 3
  · replace h := (if_pos hc4).symm.trans h
    refine G_tableEq (off := 79) (tgt := 80) hc4 dX7_count_1 (by decide) (by decide) (by decide) (by decide) ?_
    refine G_aload_n dX7_count_80 rfl ?_
    refine fg_X7_10 rfl (by decide) dX7_count_81 ?_
    obtain ⟨q1, hq1, h⟩ := bnd h
    refine G_callVv (T := TX1) (N := 8) (f := 1) (i := 0) (X1_allHandles_ok (by decide) hq1) ok_X1_allHandles ml_X7_182 (by decide) rfl (by decide) (by decide) (by decide) rfl rfl (Nat.le_of_ble_eq_true rfl) dX7_count_84 ?_
    obtain rfl := Option.some.inj h
    exact G_ret dX7_count_87 trivial rfl rfl
  replace h := (if_neg hc4).symm.trans h
  by_cases hc5 : v1 = 4
  · replace h := (if_pos hc5).symm.trans h
    refine G_tableEq (off := 87) (tgt := 88) hc5 dX7_count_1 (by decide) (by decide) (by decide) (by decide) ?_
    refine G_aload_n dX7_count_88 rfl ?_
    refine fg_X7_10 rfl (by decide) dX7_count_89 ?_
    obtain ⟨q2, hq2, h⟩ := bnd h
    refine G_callVv (T := TX1) (N := 8) (f := 1) (i := 0) (X1_falsePots_ok (by decide) hq2) ok_X1_falsePots ml_X7_295 (by decide) rfl (by decide) (by decide) (by decide) rfl rfl (Nat.le_of_ble_eq_true rfl) dX7_count_92 ?_
    obtain rfl := Option.some.inj h
    exact G_ret dX7_count_95 trivial rfl rfl
  replace h := (if_neg hc5).symm.trans h
  by_cases hc6 : v1 = 5
  · replace h := (if_pos hc6).symm.trans h
    refine G_tableEq (off := 95) (tgt := 96) hc6 dX7_count_1 (by decide) (by decide) (by decide) (by decide) ?_
    refine G_aload_n dX7_count_96 rfl ?_
    refine fg_X7_10 rfl (by decide) dX7_count_97 ?_
    refine G_iconst (v := (-1)) dX7_count_100 (by decide) ?_
    obtain ⟨q3, hq3, h⟩ := bnd h
    refine G_callVv (T := TX1) (N := 8) (f := 1) (i := 0) (X1_potsIn_ok (by decide) hq3) ok_X1_potsIn ml_X7_75 (by decide) rfl (by decide) (by decide) (by decide) rfl rfl (Nat.le_of_ble_eq_true rfl) dX7_count_101 ?_
    obtain rfl := Option.some.inj h
    exact G_ret dX7_count_104 trivial rfl rfl
  replace h := (if_neg hc6).symm.trans h
  by_cases hc7 : v1 = 6
  · replace h := (if_pos hc7).symm.trans h
    refine G_tableEq (off := 104) (tgt := 105) hc7 dX7_count_1 (by decide) (by decide) (by decide) (by decide) ?_
    refine G_aload_n dX7_count_105 rfl ?_
    refine fg_X7_25 rfl (by decide) dX7_count_106 ?_
    refine fg_X7_144 (v := (M 0 0 2)) rfl rfl (by decide) dX7_count_109 ?_
    obtain rfl := Option.some.inj h
    exact G_ret dX7_count_112 trivial rfl rfl
  replace h := (if_neg hc7).symm.trans h
  by_cases hc8 : v1 = 7
  · replace h := (if_pos hc8).symm.trans h
    refine G_tableEq (off := 112) (tgt := 113) hc8 dX7_count_1 (by decide) (by decide) (by decide) (by decide) ?_
    refine G_aload_n dX7_count_113 rfl ?_
    refine fg_X7_25 rfl (by decide) dX7_count_114 ?_
    refine fg_X7_286 (v := (M 0 0 3)) rfl rfl (by decide) dX7_count_117 ?_
    obtain rfl := Option.some.inj h
    exact G_ret dX7_count_120 trivial rfl rfl
  replace h := (if_neg hc8).symm.trans h
  by_cases hc9 : v1 = 8
  · replace h := (if_pos hc9).symm.trans h
    refine G_tableEq (off := 120) (tgt := 121) hc9 dX7_count_1 (by decide) (by decide) (by decide) (by decide) ?_
    refine G_aload_n dX7_count_121 rfl ?_
    refine fg_X7_42 rfl (by decide) dX7_count_122 ?_
    refine fg_X7_247 (v := (M 6 0 1)) rfl rfl (by decide) dX7_count_125 ?_
    obtain rfl := Option.some.inj h
    exact G_ret dX7_count_128 trivial rfl rfl
  replace h := (if_neg hc9).symm.trans h
  by_cases hc10 : v1 = 9
  · replace h := (if_pos hc10).symm.trans h
    refine G_tableEq (off := 128) (tgt := 129) hc10 dX7_count_1 (by decide) (by decide) (by decide) (by decide) ?_
    refine G_aload_n dX7_count_129 rfl ?_
    refine fg_X7_25 rfl (by decide) dX7_count_130 ?_
    refine fg_X7_240 (v := (M 0 0 4)) rfl rfl (by decide) dX7_count_133 ?_
    obtain rfl := Option.some.inj h
    exact G_ret dX7_count_136 trivial rfl rfl
  replace h := (if_neg hc10).symm.trans h
  have nhc1 := ne_lit (n := 0) (by decide) hc1
  have nhc2 := ne_lit (n := 1) (by decide) hc2
  have nhc3 := ne_lit (n := 2) (by decide) hc3
  have nhc4 := ne_lit (n := 3) (by decide) hc4
  have nhc5 := ne_lit (n := 4) (by decide) hc5
  have nhc6 := ne_lit (n := 5) (by decide) hc6
  have nhc7 := ne_lit (n := 6) (by decide) hc7
  have nhc8 := ne_lit (n := 7) (by decide) hc8
  have nhc9 := ne_lit (n := 8) (by decide) hc9
  have nhc10 := ne_lit (n := 9) (by decide) hc10
  refine G_tableOut (tgt := 137) dX7_count_1 (by omega) (by decide) ?_
  refine G_aload_n dX7_count_137 rfl ?_
  refine G_iconst (v := 1) dX7_count_138 (by decide) ?_
  obtain ⟨q4, hq4, h⟩ := bnd h
  refine G_callVv (T := TX7) (N := 10) (f := 7) (i := 0) (X7_fail_ok hq4) ok_X7_fail ml_X7_65 (by decide) rfl (by decide) (by decide) (by decide) rfl rfl (Nat.le_of_ble_eq_true rfl) dX7_count_139 ?_
  obtain rfl := Option.some.inj h
  exact G_ret dX7_count_142 trivial rfl rfl

theorem dX7_told_0 : decode cX7_told 0 = .ok (.iload_n 1, 1) := by decide +kernel
theorem dX7_told_1 : decode cX7_told 1 = .ok (.iconst 1, 1) := by decide +kernel
theorem dX7_told_2 : decode cX7_told 2 = .ok (.if_icmp .lt 17, 3) := by decide +kernel
theorem dX7_told_5 : decode cX7_told 5 = .ok (.iload_n 1, 1) := by decide +kernel
theorem dX7_told_6 : decode cX7_told 6 = .ok (.iconst 5, 1) := by decide +kernel
theorem dX7_told_7 : decode cX7_told 7 = .ok (.if_icmp .gt 12, 3) := by decide +kernel
theorem dX7_told_10 : decode cX7_told 10 = .ok (.aload_n 0, 1) := by decide +kernel
theorem dX7_told_11 : decode cX7_told 11 = .ok (.getfield 52, 3) := by decide +kernel
theorem dX7_told_14 : decode cX7_told 14 = .ok (.iload_n 1, 1) := by decide +kernel
theorem dX7_told_15 : decode cX7_told 15 = .ok (.iaload, 1) := by decide +kernel
theorem dX7_told_16 : decode cX7_told 16 = .ok (.goto 8, 3) := by decide +kernel
theorem dX7_told_19 : decode cX7_told 19 = .ok (.aload_n 0, 1) := by decide +kernel
theorem dX7_told_20 : decode cX7_told 20 = .ok (.iconst 1, 1) := by decide +kernel
theorem dX7_told_21 : decode cX7_told 21 = .ok (.invokevirtual 65, 3) := by decide +kernel
theorem dX7_told_24 : decode cX7_told 24 = .ok (.ireturn, 1) := by decide +kernel
def X7_told (v1 : Int32) (M : Mem) : Option (Int32 × Mem) := (if v1 < 1 then ((X7_fail 1 M).bind fun q1 => (some (q1.1, q1.2))) else (if 5 < v1 then ((X7_fail 1 M).bind fun q2 => (some (q2.1, q2.2))) else (if ib v1 6 = true then (some ((M 18 0 v1.toNatClampNeg), M)) else none)))
set_option maxRecDepth 100000 in
set_option maxHeartbeats 4000000 in
theorem X7_told_ok  {v1 : Int32} {M N : Mem} {res : Int32 × Mem} (h : X7_told v1 M = some res) : Spec mt_X7_told 1 [.inr (.inr (7, 0)), .inl v1] (M, N) (some (.inl res.1)) (res.2, N) := by
  unfold X7_told at h
  refine Spec_of_G (by decide) rfl (Nat.le_of_ble_eq_true rfl) ?_
  refine G_sub [(0, .inr (.inr (7, 0))), (1, .inl v1)] [0, 1] rfl ?_
  refine G_iload_n dX7_told_0 rfl ?_
  refine G_iconst (v := 1) dX7_told_1 (by decide) ?_
  refine G_icmp_lt (tgt := 19) dX7_told_2 (by decide) (fun hc1 => ?_) (fun hc1 => ?_)
  · replace h := (if_pos hc1).symm.trans h
    refine G_aload_n dX7_told_19 rfl ?_
    refine G_iconst (v := 1) dX7_told_20 (by decide) ?_
    obtain ⟨q1, hq1, h⟩ := bnd h
    refine G_callVv (T := TX7) (N := 10) (f := 7) (i := 0) (X7_fail_ok hq1) ok_X7_fail ml_X7_65 (by decide) rfl (by decide) (by decide) (by decide) rfl rfl (Nat.le_of_ble_eq_true rfl) dX7_told_21 ?_
    obtain rfl := Option.some.inj h
    exact G_ret dX7_told_24 trivial rfl rfl
  · replace h := (if_neg hc1).symm.trans h
    refine G_iload_n dX7_told_5 rfl ?_
    refine G_iconst (v := 5) dX7_told_6 (by decide) ?_
    refine G_icmp_gt (tgt := 19) dX7_told_7 (by decide) (fun hc2 => ?_) (fun hc2 => ?_)
    · replace h := (if_pos hc2).symm.trans h
      refine G_aload_n dX7_told_19 rfl ?_
      refine G_iconst (v := 1) dX7_told_20 (by decide) ?_
      obtain ⟨q2, hq2, h⟩ := bnd h
      refine G_callVv (T := TX7) (N := 10) (f := 7) (i := 0) (X7_fail_ok hq2) ok_X7_fail ml_X7_65 (by decide) rfl (by decide) (by decide) (by decide) rfl rfl (Nat.le_of_ble_eq_true rfl) dX7_told_21 ?_
      obtain rfl := Option.some.inj h
      exact G_ret dX7_told_24 trivial rfl rfl
    · replace h := (if_neg hc2).symm.trans h
      refine G_aload_n dX7_told_10 rfl ?_
      refine fg_X7_52 rfl (by decide) dX7_told_11 ?_
      refine G_iload_n dX7_told_14 rfl ?_
      obtain ⟨hb3, h⟩ := chk h
      have lhb3 := ib_lt hb3
      refine al_18 (kk := v1.toNatClampNeg) (v := (M 18 0 v1.toNatClampNeg)) (by decide) hb3 rfl rfl dX7_told_15 ?_
      refine G_goto (tgt := 24) dX7_told_16 (by decide) ?_
      obtain rfl := Option.some.inj h
      exact G_ret dX7_told_24 trivial rfl rfl

