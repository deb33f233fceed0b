theorem dX8_when_0 : decode cX8_when 0 = .ok (.aload_n 0, 1) := by decide +kernel
theorem dX8_when_1 : decode cX8_when 1 = .ok (.iload_n 1, 1) := by decide +kernel
theorem dX8_when_2 : decode cX8_when 2 = .ok (.invokevirtual 182, 3) := by decide +kernel
theorem dX8_when_5 : decode cX8_when 5 = .ok (.ifCond .ne 9, 3) := by decide +kernel
theorem dX8_when_8 : decode cX8_when 8 = .ok (.aload_n 0, 1) := by decide +kernel
theorem dX8_when_9 : decode cX8_when 9 = .ok (.iconst 1, 1) := by decide +kernel
theorem dX8_when_10 : decode cX8_when 10 = .ok (.invokevirtual 130, 3) := by decide +kernel
theorem dX8_when_13 : decode cX8_when 13 = .ok (.ireturn, 1) := by decide +kernel
theorem dX8_when_14 : decode cX8_when 14 = .ok (.aload_n 0, 1) := by decide +kernel
theorem dX8_when_15 : decode cX8_when 15 = .ok (.invokevirtual 210, 3) := by decide +kernel
theorem dX8_when_18 : decode cX8_when 18 = .ok (.aload_n 0, 1) := by decide +kernel
theorem dX8_when_19 : decode cX8_when 19 = .ok (.iload_n 1, 1) := by decide +kernel
theorem dX8_when_20 : decode cX8_when 20 = .ok (.bipush 6, 2) := by decide +kernel
theorem dX8_when_22 : decode cX8_when 22 = .ok (.invokevirtual 53, 3) := by decide +kernel
theorem dX8_when_25 : decode cX8_when 25 = .ok (.istore_n 2, 1) := by decide +kernel
theorem dX8_when_26 : decode cX8_when 26 = .ok (.iconst 0, 1) := by decide +kernel
theorem dX8_when_27 : decode cX8_when 27 = .ok (.istore_n 3, 1) := by decide +kernel
theorem dX8_when_28 : decode cX8_when 28 = .ok (.iload_n 3, 1) := by decide +kernel
theorem dX8_when_29 : decode cX8_when 29 = .ok (.bipush 60, 2) := by decide +kernel
theorem dX8_when_31 : decode cX8_when 31 = .ok (.if_icmp .ge 25, 3) := by decide +kernel
theorem dX8_when_34 : decode cX8_when 34 = .ok (.aload_n 0, 1) := by decide +kernel
theorem dX8_when_35 : decode cX8_when 35 = .ok (.iload_n 1, 1) := by decide +kernel
theorem dX8_when_36 : decode cX8_when 36 = .ok (.bipush 6, 2) := by decide +kernel
theorem dX8_when_38 : decode cX8_when 38 = .ok (.invokevirtual 53, 3) := by decide +kernel
theorem dX8_when_41 : decode cX8_when 41 = .ok (.iload_n 2, 1) := by decide +kernel
theorem dX8_when_42 : decode cX8_when 42 = .ok (.if_icmp .gt 14, 3) := by decide +kernel
theorem dX8_when_45 : decode cX8_when 45 = .ok (.aload_n 0, 1) := by decide +kernel
theorem dX8_when_46 : decode cX8_when 46 = .ok (.iconst 1, 1) := by decide +kernel
theorem dX8_when_47 : decode cX8_when 47 = .ok (.invokevirtual 198, 3) := by decide +kernel
theorem dX8_when_50 : decode cX8_when 50 = .ok (.iinc 3 1, 3) := by decide +kernel
theorem dX8_when_53 : decode cX8_when 53 = .ok (.goto (-25), 3) := by decide +kernel
theorem dX8_when_56 : decode cX8_when 56 = .ok (.aload_n 0, 1) := by decide +kernel
theorem dX8_when_57 : decode cX8_when 57 = .ok (.iload_n 1, 1) := by decide +kernel
theorem dX8_when_58 : decode cX8_when 58 = .ok (.bipush 6, 2) := by decide +kernel
theorem dX8_when_60 : decode cX8_when 60 = .ok (.invokevirtual 53, 3) := by decide +kernel
theorem dX8_when_63 : decode cX8_when 63 = .ok (.iload_n 2, 1) := by decide +kernel
theorem dX8_when_64 : decode cX8_when 64 = .ok (.if_icmp .le 7, 3) := by decide +kernel
theorem dX8_when_67 : decode cX8_when 67 = .ok (.iconst 1, 1) := by decide +kernel
theorem dX8_when_68 : decode cX8_when 68 = .ok (.goto 4, 3) := by decide +kernel
theorem dX8_when_71 : decode cX8_when 71 = .ok (.iconst 0, 1) := by decide +kernel
theorem dX8_when_72 : decode cX8_when 72 = .ok (.istore 4, 2) := by decide +kernel
theorem dX8_when_74 : decode cX8_when 74 = .ok (.aload_n 0, 1) := by decide +kernel
theorem dX8_when_75 : decode cX8_when 75 = .ok (.invokevirtual 213, 3) := by decide +kernel
theorem dX8_when_78 : decode cX8_when 78 = .ok (.iload 4, 2) := by decide +kernel
theorem dX8_when_80 : decode cX8_when 80 = .ok (.ifCond .eq 7, 3) := by decide +kernel
theorem dX8_when_83 : decode cX8_when 83 = .ok (.iload_n 3, 1) := by decide +kernel
theorem dX8_when_84 : decode cX8_when 84 = .ok (.goto 8, 3) := by decide +kernel
theorem dX8_when_87 : decode cX8_when 87 = .ok (.aload_n 0, 1) := by decide +kernel
theorem dX8_when_88 : decode cX8_when 88 = .ok (.iconst 2, 1) := by decide +kernel
theorem dX8_when_89 : decode cX8_when 89 = .ok (.invokevirtual 130, 3) := by decide +kernel
theorem dX8_when_92 : decode cX8_when 92 = .ok (.ireturn, 1) := by decide +kernel
def X8_when_L28 : Nat → Int32 → Int32 → Int32 → Mem → Option (Int32 × Mem)
  | 0, _, _, _, _ => none
  | fu + 1, v1, v2, v3, M => (if v3 < 60 then ((X8_of v1 6 M).bind fun q3 => (if v2 < q3 then (some (v3, M)) else ((X8_yearsGo 1 M).bind fun q4 => (X8_when_L28 fu v1 v2 (v3 + 1) q4)))) else (some (v3, M)))
set_option maxRecDepth 100000 in
set_option maxHeartbeats 4000000 in
theorem X8_when_L28_ok  {r : Option AV} {M' : MM} : ∀ (fu : Nat) (v1 : Int32) (v2 : Int32) (v3 : Int32) (M N : Mem) {res : Int32 × Mem} (h : X8_when_L28 fu v1 v2 v3 M = some res) (K : G mt_X8_when 6 r M' 56 [(0, .inr (.inr (19, 0))), (1, .inl v1), (2, .inl v2), (3, .inl res.1)] [] (N, res.2)), G mt_X8_when 6 r M' 28 [(0, .inr (.inr (19, 0))), (1, .inl v1), (2, .inl v2), (3, .inl v3)] [] (N, M) := by
  intro fu
  induction fu with
  | zero =>
    intro v1 v2 v3 M N res h
    cases h
  | succ fu ih =>
    intro v1 v2 v3 M N res h K
    replace h : (if v3 < 60 then ((X8_of v1 6 M).bind fun q3 => (if v2 < q3 then (some (v3, M)) else ((X8_yearsGo 1 M).bind fun q4 => (X8_when_L28 fu v1 v2 (v3 + 1) q4)))) else (some (v3, M))) = some res := h
    refine G_iload_n dX8_when_28 rfl ?_
    refine G_bipush (v := 60) dX8_when_29 (by decide) ?_
    refine G_icmp_ge (tgt := 56) dX8_when_31 (by decide) (fun hc2 => ?_) (fun hc2 => ?_)
    · replace h := (if_neg hc2).symm.trans h
      obtain rfl := Option.some.inj h
      exact K
    · replace h := (if_pos hc2).symm.trans h
      refine G_aload_n dX8_when_34 rfl ?_
      refine G_iload_n dX8_when_35 rfl ?_
      refine G_bipush (v := 6) dX8_when_36 (by decide) ?_
      obtain ⟨q3, hq3, h⟩ := bnd h
      refine G_callVv (T := TX8) (N := 22) (f := 19) (i := 0) (X8_of_ok hq3) ok_X8_of ml_X8_53 (by decide) rfl (by decide) (by decide) (by decide) rfl rfl (Nat.le_of_ble_eq_true rfl) dX8_when_38 ?_
      refine G_iload_n dX8_when_41 rfl ?_
      refine G_icmp_gt (tgt := 56) dX8_when_42 (by decide) (fun hc3 => ?_) (fun hc3 => ?_)
      · replace h := (if_pos hc3).symm.trans h
        obtain rfl := Option.some.inj h
        exact K
      · replace h := (if_neg hc3).symm.trans h
        refine G_aload_n dX8_when_45 rfl ?_
        refine G_iconst (v := 1) dX8_when_46 (by decide) ?_
        obtain ⟨q4, hq4, h⟩ := bnd h
        refine G_callVn (T := TX8) (N := 22) (f := 19) (i := 0) (X8_yearsGo_ok hq4) ok_X8_yearsGo ml_X8_198 (by decide) rfl (by decide) (by decide) (by decide) rfl rfl (Nat.le_of_ble_eq_true rfl) dX8_when_47 ?_
        refine G_iinc (v := (v3 + 1)) (L2 := [(3, .inl (v3 + 1)), (0, .inr (.inr (19, 0))), (1, .inl v1), (2, .inl v2)]) dX8_when_50 rfl (by first | rfl | (show _ + Int32.ofInt _ = _; rfl)) (by decide) rfl ?_
        refine G_goto (tgt := 28) dX8_when_53 (by decide) ?_
        refine G_sub [(0, .inr (.inr (19, 0))), (1, .inl v1), (2, .inl v2), (3, .inl (v3 + 1))] [1, 2, 3, 0] rfl ?_
        exact ih v1 v2 (v3 + 1) q4 _  h K

def X8_when_J72 (v3 : Int32) (s0 : Int32) (M : Mem) : Option (Int32 × Mem) := ((X8_putBack M).bind fun q7 => (if s0 = 0 then ((X8_finds 2 q7).bind fun q8 => (some (q8.1, q8.2))) else (some (v3, q7))))
set_option maxRecDepth 100000 in
set_option maxHeartbeats 4000000 in
theorem X8_when_J72_ok  {v3 : Int32} {s0 : Int32} {M N : Mem} {res : Int32 × Mem} (h : X8_when_J72 v3 s0 M = some res) : G mt_X8_when 6 (some (.inl res.1)) (N, res.2) 72 [(0, .inr (.inr (19, 0))), (3, .inl v3)] [.inl s0] (N, M) := by
  unfold X8_when_J72 at h
  refine G_istore (L2 := [(4, .inl s0), (0, .inr (.inr (19, 0))), (3, .inl v3)]) dX8_when_72 (by decide) rfl ?_
  refine G_aload_n dX8_when_74 rfl ?_
  obtain ⟨q7, hq7, h⟩ := bnd h
  refine G_callVn (T := TX8) (N := 22) (f := 19) (i := 0) (X8_putBack_ok hq7) ok_X8_putBack ml_X8_213 (by decide) rfl (by decide) (by decide) (by decide) rfl rfl (Nat.le_of_ble_eq_true rfl) dX8_when_75 ?_
  refine G_iload dX8_when_78 rfl ?_
  refine G_if_eq (tgt := 87) dX8_when_80 (by decide) (fun hc5 => ?_) (fun hc5 => ?_)
  · replace h := (if_pos hc5).symm.trans h
    refine G_aload_n dX8_when_87 rfl ?_
    refine G_iconst (v := 2) dX8_when_88 (by decide) ?_
    obtain ⟨q8, hq8, h⟩ := bnd h
    refine G_callVv (T := TX8) (N := 22) (f := 19) (i := 0) (X8_finds_ok hq8) ok_X8_finds ml_X8_130 (by decide) rfl (by decide) (by decide) (by decide) rfl rfl (Nat.le_of_ble_eq_true rfl) dX8_when_89 ?_
    obtain rfl := Option.some.inj h
    exact G_ret dX8_when_92 trivial rfl rfl
  · replace h := (if_neg hc5).symm.trans h
    refine G_iload_n dX8_when_83 rfl ?_
    refine G_goto (tgt := 92) dX8_when_84 (by decide) ?_
    obtain rfl := Option.some.inj h
    exact G_ret dX8_when_92 trivial rfl rfl

def X8_when_J56 (v1 : Int32) (v2 : Int32) (v3 : Int32) (M : Mem) : Option (Int32 × Mem) := ((X8_of v1 6 M).bind fun q6 => (if v2 < q6 then (X8_when_J72 v3 1 M) else (X8_when_J72 v3 0 M)))
set_option maxRecDepth 100000 in
set_option maxHeartbeats 4000000 in
theorem X8_when_J56_ok  {v1 : Int32} {v2 : Int32} {v3 : Int32} {M N : Mem} {res : Int32 × Mem} (h : X8_when_J56 v1 v2 v3 M = some res) : G mt_X8_when 6 (some (.inl res.1)) (N, res.2) 56 [(0, .inr (.inr (19, 0))), (1, .inl v1), (2, .inl v2), (3, .inl v3)] [] (N, M) := by
  unfold X8_when_J56 at h
  refine G_aload_n dX8_when_56 rfl ?_
  refine G_iload_n dX8_when_57 rfl ?_
  refine G_bipush (v := 6) dX8_when_58 (by decide) ?_
  obtain ⟨q6, hq6, h⟩ := bnd h
  refine G_callVv (T := TX8) (N := 22) (f := 19) (i := 0) (X8_of_ok hq6) ok_X8_of ml_X8_53 (by decide) rfl (by decide) (by decide) (by decide) rfl rfl (Nat.le_of_ble_eq_true rfl) dX8_when_60 ?_
  refine G_iload_n dX8_when_63 rfl ?_
  refine G_icmp_le (tgt := 71) dX8_when_64 (by decide) (fun hc4 => ?_) (fun hc4 => ?_)
  · replace h := (if_neg hc4).symm.trans h
    refine G_iconst (v := 0) dX8_when_71 (by decide) ?_
    refine G_sub [(0, .inr (.inr (19, 0))), (3, .inl v3)] [0, 3] rfl ?_
    exact X8_when_J72_ok   h
  · replace h := (if_pos hc4).symm.trans h
    refine G_iconst (v := 1) dX8_when_67 (by decide) ?_
    refine G_goto (tgt := 72) dX8_when_68 (by decide) ?_
    refine G_sub [(0, .inr (.inr (19, 0))), (3, .inl v3)] [0, 3] rfl ?_
    exact X8_when_J72_ok   h

def X8_when (v1 : Int32) (M : Mem) : Option (Int32 × Mem) := (if (X8_isPot v1 M) = 0 then ((X8_finds 1 M).bind fun q9 => (some (q9.1, q9.2))) else ((X8_keepAside M).bind fun q1 => ((X8_of v1 6 q1).bind fun q2 => ((X8_when_L28 400 v1 q2 0 q1).bind fun q5 => (X8_when_J56 v1 q2 q5.1 q5.2)))))
set_option maxRecDepth 100000 in
set_option maxHeartbeats 4000000 in
theorem X8_when_ok  {v1 : Int32} {M N : Mem} {res : Int32 × Mem} (h : X8_when v1 M = some res) : Spec mt_X8_when 6 [.inr (.inr (19, 0)), .inl v1] (N, M) (some (.inl res.1)) (N, res.2) := by
  unfold X8_when at h
  refine Spec_of_G (by decide) rfl (Nat.le_of_ble_eq_true rfl) ?_
  refine G_sub [(0, .inr (.inr (19, 0))), (1, .inl v1)] [0, 1] rfl ?_
  refine G_aload_n dX8_when_0 rfl ?_
  refine G_iload_n dX8_when_1 rfl ?_
  refine G_callVv (T := TX8) (N := 22) (f := 19) (i := 0) (X8_isPot_ok rfl) ok_X8_isPot ml_X8_182 (by decide) rfl (by decide) (by decide) (by decide) rfl rfl (Nat.le_of_ble_eq_true rfl) dX8_when_2 ?_
  refine G_if_ne (tgt := 14) dX8_when_5 (by decide) (fun hc1 => ?_) (fun hc1 => ?_)
  · replace h := (if_neg hc1).symm.trans h
    refine G_aload_n dX8_when_14 rfl ?_
    obtain ⟨q1, hq1, h⟩ := bnd h
    refine G_callVn (T := TX8) (N := 22) (f := 19) (i := 0) (X8_keepAside_ok hq1) ok_X8_keepAside ml_X8_210 (by decide) rfl (by decide) (by decide) (by decide) rfl rfl (Nat.le_of_ble_eq_true rfl) dX8_when_15 ?_
    refine G_aload_n dX8_when_18 rfl ?_
    refine G_iload_n dX8_when_19 rfl ?_
    refine G_bipush (v := 6) dX8_when_20 (by decide) ?_
    obtain ⟨q2, hq2, h⟩ := bnd h
    refine G_callVv (T := TX8) (N := 22) (f := 19) (i := 0) (X8_of_ok hq2) ok_X8_of ml_X8_53 (by decide) rfl (by decide) (by decide) (by decide) rfl rfl (Nat.le_of_ble_eq_true rfl) dX8_when_22 ?_
    refine G_istore_n (L2 := [(2, .inl q2), (0, .inr (.inr (19, 0))), (1, .inl v1)]) dX8_when_25 (by decide) rfl ?_
    refine G_iconst (v := 0) dX8_when_26 (by decide) ?_
    refine G_istore_n (L2 := [(3, .inl 0), (2, .inl q2), (0, .inr (.inr (19, 0))), (1, .inl v1)]) dX8_when_27 (by decide) rfl ?_
    refine G_sub [(0, .inr (.inr (19, 0))), (1, .inl v1), (2, .inl q2), (3, .inl 0)] [2, 3, 1, 0] rfl ?_
    obtain ⟨q5, hq5, h⟩ := bnd h
    refine X8_when_L28_ok  400 v1 q2 0 q1 _  hq5 ?_
    exact X8_when_J56_ok   h
  · replace h := (if_pos hc1).symm.trans h
    refine G_aload_n dX8_when_8 rfl ?_
    refine G_iconst (v := 1) dX8_when_9 (by decide) ?_
    obtain ⟨q9, hq9, h⟩ := bnd h
    refine G_callVv (T := TX8) (N := 22) (f := 19) (i := 0) (X8_finds_ok hq9) ok_X8_finds ml_X8_130 (by decide) rfl (by decide) (by decide) (by decide) rfl rfl (Nat.le_of_ble_eq_true rfl) dX8_when_10 ?_
    obtain rfl := Option.some.inj h
    exact G_ret dX8_when_13 trivial rfl rfl

theorem dX8_shelf_0 : decode cX8_shelf 0 = .ok (.iload_n 1, 1) := by decide +kernel
theorem dX8_shelf_1 : decode cX8_shelf 1 = .ok (.invokestatic 170, 3) := by decide +kernel
theorem dX8_shelf_4 : decode cX8_shelf 4 = .ok (.ifCond .eq 15, 3) := by decide +kernel
theorem dX8_shelf_7 : decode cX8_shelf 7 = .ok (.iload_n 2, 1) := by decide +kernel
theorem dX8_shelf_8 : decode cX8_shelf 8 = .ok (.i2l, 1) := by decide +kernel
theorem dX8_shelf_9 : decode cX8_shelf 9 = .ok (.lconst 0, 1) := by decide +kernel
theorem dX8_shelf_10 : decode cX8_shelf 10 = .ok (.ldc2_w 196, 3) := by decide +kernel
theorem dX8_shelf_13 : decode cX8_shelf 13 = .ok (.invokestatic 47, 3) := by decide +kernel
theorem dX8_shelf_16 : decode cX8_shelf 16 = .ok (.ifCond .ne 9, 3) := by decide +kernel
theorem dX8_shelf_19 : decode cX8_shelf 19 = .ok (.aload_n 0, 1) := by decide +kernel
theorem dX8_shelf_20 : decode cX8_shelf 20 = .ok (.iconst 1, 1) := by decide +kernel
theorem dX8_shelf_21 : decode cX8_shelf 21 = .ok (.invokevirtual 130, 3) := by decide +kernel
theorem dX8_shelf_24 : decode cX8_shelf 24 = .ok (.ireturn, 1) := by decide +kernel
theorem dX8_shelf_25 : decode cX8_shelf 25 = .ok (.aload_n 0, 1) := by decide +kernel
theorem dX8_shelf_26 : decode cX8_shelf 26 = .ok (.invokevirtual 210, 3) := by decide +kernel
theorem dX8_shelf_29 : decode cX8_shelf 29 = .ok (.aload_n 0, 1) := by decide +kernel
theorem dX8_shelf_30 : decode cX8_shelf 30 = .ok (.iload_n 2, 1) := by decide +kernel
theorem dX8_shelf_31 : decode cX8_shelf 31 = .ok (.invokevirtual 198, 3) := by decide +kernel
theorem dX8_shelf_34 : decode cX8_shelf 34 = .ok (.aload_n 0, 1) := by decide +kernel
theorem dX8_shelf_35 : decode cX8_shelf 35 = .ok (.iload_n 1, 1) := by decide +kernel
theorem dX8_shelf_36 : decode cX8_shelf 36 = .ok (.invokevirtual 177, 3) := by decide +kernel
theorem dX8_shelf_39 : decode cX8_shelf 39 = .ok (.aload_n 0, 1) := by decide +kernel
theorem dX8_shelf_40 : decode cX8_shelf 40 = .ok (.bipush 7, 2) := by decide +kernel
theorem dX8_shelf_42 : decode cX8_shelf 42 = .ok (.invokevirtual 177, 3) := by decide +kernel
theorem dX8_shelf_45 : decode cX8_shelf 45 = .ok (.iand, 1) := by decide +kernel
theorem dX8_shelf_46 : decode cX8_shelf 46 = .ok (.istore_n 3, 1) := by decide +kernel
theorem dX8_shelf_47 : decode cX8_shelf 47 = .ok (.aload_n 0, 1) := by decide +kernel
theorem dX8_shelf_48 : decode cX8_shelf 48 = .ok (.invokevirtual 213, 3) := by decide +kernel
theorem dX8_shelf_51 : decode cX8_shelf 51 = .ok (.iload_n 3, 1) := by decide +kernel
theorem dX8_shelf_52 : decode cX8_shelf 52 = .ok (.ireturn, 1) := by decide +kernel
def X8_shelf (v1 : Int32) (v2 : Int32) (M : Mem) : Option (Int32 × Mem) := (if (X8_isHouse v1) = 0 then ((X8_finds 1 M).bind fun q1 => (some (q1.1, q1.2))) else (if (X8_in (v2.toInt64) (0 : Int64) (60 : Int64)) = 0 then ((X8_finds 1 M).bind fun q7 => (some (q7.1, q7.2))) else ((X8_keepAside M).bind fun q2 => ((X8_yearsGo v2 q2).bind fun q3 => ((X8_setOf v1 q3).bind fun q4 => ((X8_setOf 7 q3).bind fun q5 => ((X8_putBack q3).bind fun q6 => (some ((q4 &&& q5), q6)))))))))
set_option maxRecDepth 100000 in
set_option maxHeartbeats 4000000 in
theorem X8_shelf_ok  {v1 : Int32} {v2 : Int32} {M N : Mem} {res : Int32 × Mem} (h : X8_shelf v1 v2 M = some res) : Spec mt_X8_shelf 6 [.inr (.inr (19, 0)), .inl v1, .inl v2] (N, M) (some (.inl res.1)) (N, res.2) := by
  unfold X8_shelf at h
  refine Spec_of_G (by decide) rfl (Nat.le_of_ble_eq_true rfl) ?_
  refine G_sub [(0, .inr (.inr (19, 0))), (1, .inl v1), (2, .inl v2)] [0, 1, 2] rfl ?_
  refine G_iload_n dX8_shelf_0 rfl ?_
  refine G_callSv  (X8_isHouse_ok rfl) ok_X8_isHouse ml_X8_170 (by decide) rfl rfl (Nat.le_of_ble_eq_true rfl) dX8_shelf_1 ?_
  refine G_if_eq (tgt := 19) dX8_shelf_4 (by decide) (fun hc1 => ?_) (fun hc1 => ?_)
  · replace h := (if_pos hc1).symm.trans h
    refine G_aload_n dX8_shelf_19 rfl ?_
    refine G_iconst (v := 1) dX8_shelf_20 (by decide) ?_
    obtain ⟨q1, hq1, h⟩ := bnd h
    refine G_callVv (T := TX8) (N := 22) (f := 19) (i := 0) (X8_finds_ok hq1) ok_X8_finds ml_X8_130 (by decide) rfl (by decide) (by decide) (by decide) rfl rfl (Nat.le_of_ble_eq_true rfl) dX8_shelf_21 ?_
    obtain rfl := Option.some.inj h
    exact G_ret dX8_shelf_24 trivial rfl rfl
  · replace h := (if_neg hc1).symm.trans h
    refine G_iload_n dX8_shelf_7 rfl ?_
    refine G_i2l dX8_shelf_8 ?_
    refine G_lconst (v := 0) dX8_shelf_9 (by decide) ?_
    refine G_ldc2 ko_X8_196 dX8_shelf_10 ?_
    refine G_callSv  (X8_in_ok rfl) ok_X8_in ml_X8_47 (by decide) rfl rfl (Nat.le_of_ble_eq_true rfl) dX8_shelf_13 ?_
    refine G_if_ne (tgt := 25) dX8_shelf_16 (by decide) (fun hc2 => ?_) (fun hc2 => ?_)
    · replace h := (if_neg hc2).symm.trans h
      refine G_aload_n dX8_shelf_25 rfl ?_
      obtain ⟨q2, hq2, h⟩ := bnd h
      refine G_callVn (T := TX8) (N := 22) (f := 19) (i := 0) (X8_keepAside_ok hq2) ok_X8_keepAside ml_X8_210 (by decide) rfl (by decide) (by decide) (by decide) rfl rfl (Nat.le_of_ble_eq_true rfl) dX8_shelf_26 ?_
      refine G_aload_n dX8_shelf_29 rfl ?_
      refine G_iload_n dX8_shelf_30 rfl ?_
      obtain ⟨q3, hq3, h⟩ := bnd h
      refine G_callVn (T := TX8) (N := 22) (f := 19) (i := 0) (X8_yearsGo_ok hq3) ok_X8_yearsGo ml_X8_198 (by decide) rfl (by decide) (by decide) (by decide) rfl rfl (Nat.le_of_ble_eq_true rfl) dX8_shelf_31 ?_
      refine G_aload_n dX8_shelf_34 rfl ?_
      refine G_iload_n dX8_shelf_35 rfl ?_
      obtain ⟨q4, hq4, h⟩ := bnd h
      refine G_callVv (T := TX8) (N := 22) (f := 19) (i := 0) (X8_setOf_ok hq4) ok_X8_setOf ml_X8_177 (by decide) rfl (by decide) (by decide) (by decide) rfl rfl (Nat.le_of_ble_eq_true rfl) dX8_shelf_36 ?_
      refine G_aload_n dX8_shelf_39 rfl ?_
      refine G_bipush (v := 7) dX8_shelf_40 (by decide) ?_
      obtain ⟨q5, hq5, h⟩ := bnd h
      refine G_callVv (T := TX8) (N := 22) (f := 19) (i := 0) (X8_setOf_ok hq5) ok_X8_setOf ml_X8_177 (by decide) rfl (by decide) (by decide) (by decide) rfl rfl (Nat.le_of_ble_eq_true rfl) dX8_shelf_42 ?_
      refine G_iand dX8_shelf_45 ?_
      refine G_istore_n (L2 := [(3, .inl (q4 &&& q5)), (0, .inr (.inr (19, 0))), (1, .inl v1), (2, .inl v2)]) dX8_shelf_46 (by decide) rfl ?_
      refine G_aload_n dX8_shelf_47 rfl ?_
      obtain ⟨q6, hq6, h⟩ := bnd h
      refine G_callVn (T := TX8) (N := 22) (f := 19) (i := 0) (X8_putBack_ok hq6) ok_X8_putBack ml_X8_213 (by decide) rfl (by decide) (by decide) (by decide) rfl rfl (Nat.le_of_ble_eq_true rfl) dX8_shelf_48 ?_
      refine G_iload_n dX8_shelf_51 rfl ?_
      obtain rfl := Option.some.inj h
      exact G_ret dX8_shelf_52 trivial rfl rfl
    · replace h := (if_pos hc2).symm.trans h
      refine G_aload_n dX8_shelf_19 rfl ?_
      refine G_iconst (v := 1) dX8_shelf_20 (by decide) ?_
      obtain ⟨q7, hq7, h⟩ := bnd h
      refine G_callVv (T := TX8) (N := 22) (f := 19) (i := 0) (X8_finds_ok hq7) ok_X8_finds ml_X8_130 (by decide) rfl (by decide) (by decide) (by decide) rfl rfl (Nat.le_of_ble_eq_true rfl) dX8_shelf_21 ?_
      obtain rfl := Option.some.inj h
      exact G_ret dX8_shelf_24 trivial rfl rfl

theorem dX8_place_0 : decode cX8_place 0 = .ok (.aload_n 0, 1) := by decide +kernel
theorem dX8_place_1 : decode cX8_place 1 = .ok (.iload_n 1, 1) := by decide +kernel
theorem dX8_place_2 : decode cX8_place 2 = .ok (.invokevirtual 182, 3) := by decide +kernel
theorem dX8_place_5 : decode cX8_place 5 = .ok (.ifCond .eq 25, 3) := by decide +kernel
theorem dX8_place_8 : decode cX8_place 8 = .ok (.iload_n 2, 1) := by decide +kernel
theorem dX8_place_9 : decode cX8_place 9 = .ok (.i2l, 1) := by decide +kernel
theorem dX8_place_10 : decode cX8_place 10 = .ok (.lconst 0, 1) := by decide +kernel
theorem dX8_place_11 : decode cX8_place 11 = .ok (.ldc2_w 196, 3) := by decide +kernel
theorem dX8_place_14 : decode cX8_place 14 = .ok (.invokestatic 47, 3) := by decide +kernel
theorem dX8_place_17 : decode cX8_place 17 = .ok (.ifCond .eq 13, 3) := by decide +kernel
theorem dX8_place_20 : decode cX8_place 20 = .ok (.iload_n 3, 1) := by decide +kernel
theorem dX8_place_21 : decode cX8_place 21 = .ok (.i2l, 1) := by decide +kernel
theorem dX8_place_22 : decode cX8_place 22 = .ok (.lconst 0, 1) := by decide +kernel
theorem dX8_place_23 : decode cX8_place 23 = .ok (.lconst 1, 1) := by decide +kernel
theorem dX8_place_24 : decode cX8_place 24 = .ok (.invokestatic 47, 3) := by decide +kernel
theorem dX8_place_27 : decode cX8_place 27 = .ok (.ifCond .ne 9, 3) := by decide +kernel
theorem dX8_place_30 : decode cX8_place 30 = .ok (.aload_n 0, 1) := by decide +kernel
theorem dX8_place_31 : decode cX8_place 31 = .ok (.iconst 1, 1) := by decide +kernel
theorem dX8_place_32 : decode cX8_place 32 = .ok (.invokevirtual 130, 3) := by decide +kernel
theorem dX8_place_35 : decode cX8_place 35 = .ok (.ireturn, 1) := by decide +kernel
theorem dX8_place_36 : decode cX8_place 36 = .ok (.aload_n 0, 1) := by decide +kernel
theorem dX8_place_37 : decode cX8_place 37 = .ok (.iload_n 1, 1) := by decide +kernel
theorem dX8_place_38 : decode cX8_place 38 = .ok (.invokevirtual 164, 3) := by decide +kernel
theorem dX8_place_41 : decode cX8_place 41 = .ok (.ifCond .eq 9, 3) := by decide +kernel
theorem dX8_place_44 : decode cX8_place 44 = .ok (.aload_n 0, 1) := by decide +kernel
theorem dX8_place_45 : decode cX8_place 45 = .ok (.iconst 3, 1) := by decide +kernel
theorem dX8_place_46 : decode cX8_place 46 = .ok (.invokevirtual 130, 3) := by decide +kernel
theorem dX8_place_49 : decode cX8_place 49 = .ok (.ireturn, 1) := by decide +kernel
theorem dX8_place_50 : decode cX8_place 50 = .ok (.aload_n 0, 1) := by decide +kernel
theorem dX8_place_51 : decode cX8_place 51 = .ok (.invokevirtual 210, 3) := by decide +kernel
theorem dX8_place_54 : decode cX8_place 54 = .ok (.iconst 0, 1) := by decide +kernel
theorem dX8_place_55 : decode cX8_place 55 = .ok (.istore 4, 2) := by decide +kernel
theorem dX8_place_57 : decode cX8_place 57 = .ok (.iconst (-1), 1) := by decide +kernel
theorem dX8_place_58 : decode cX8_place 58 = .ok (.istore 5, 2) := by decide +kernel
theorem dX8_place_60 : decode cX8_place 60 = .ok (.iconst (-1), 1) := by decide +kernel
theorem dX8_place_61 : decode cX8_place 61 = .ok (.istore 6, 2) := by decide +kernel
theorem dX8_place_63 : decode cX8_place 63 = .ok (.iconst 0, 1) := by decide +kernel
theorem dX8_place_64 : decode cX8_place 64 = .ok (.istore 7, 2) := by decide +kernel
theorem dX8_place_66 : decode cX8_place 66 = .ok (.iload 7, 2) := by decide +kernel
theorem dX8_place_68 : decode cX8_place 68 = .ok (.iconst 5, 1) := by decide +kernel
theorem dX8_place_69 : decode cX8_place 69 = .ok (.if_icmp .ge 86, 3) := by decide +kernel
theorem dX8_place_72 : decode cX8_place 72 = .ok (.aload_n 0, 1) := by decide +kernel
theorem dX8_place_73 : decode cX8_place 73 = .ok (.iload_n 1, 1) := by decide +kernel
theorem dX8_place_74 : decode cX8_place 74 = .ok (.iconst 2, 1) := by decide +kernel
theorem dX8_place_75 : decode cX8_place 75 = .ok (.invokevirtual 53, 3) := by decide +kernel
theorem dX8_place_78 : decode cX8_place 78 = .ok (.iload 7, 2) := by decide +kernel
theorem dX8_place_80 : decode cX8_place 80 = .ok (.if_icmp .eq 10, 3) := by decide +kernel
theorem dX8_place_83 : decode cX8_place 83 = .ok (.aload_n 0, 1) := by decide +kernel
theorem dX8_place_84 : decode cX8_place 84 = .ok (.iload_n 1, 1) := by decide +kernel
theorem dX8_place_85 : decode cX8_place 85 = .ok (.iload 7, 2) := by decide +kernel
theorem dX8_place_87 : decode cX8_place 87 = .ok (.invokevirtual 187, 3) := by decide +kernel
theorem dX8_place_90 : decode cX8_place 90 = .ok (.aload_n 0, 1) := by decide +kernel
theorem dX8_place_91 : decode cX8_place 91 = .ok (.iload_n 2, 1) := by decide +kernel
theorem dX8_place_92 : decode cX8_place 92 = .ok (.invokevirtual 198, 3) := by decide +kernel
theorem dX8_place_95 : decode cX8_place 95 = .ok (.aload_n 0, 1) := by decide +kernel
theorem dX8_place_96 : decode cX8_place 96 = .ok (.iload_n 1, 1) := by decide +kernel
theorem dX8_place_97 : decode cX8_place 97 = .ok (.bipush 6, 2) := by decide +kernel
theorem dX8_place_99 : decode cX8_place 99 = .ok (.invokevirtual 53, 3) := by decide +kernel
theorem dX8_place_102 : decode cX8_place 102 = .ok (.istore 8, 2) := by decide +kernel
theorem dX8_place_104 : decode cX8_place 104 = .ok (.aload_n 0, 1) := by decide +kernel
theorem dX8_place_105 : decode cX8_place 105 = .ok (.iload_n 1, 1) := by decide +kernel
theorem dX8_place_106 : decode cX8_place 106 = .ok (.iconst 4, 1) := by decide +kernel
theorem dX8_place_107 : decode cX8_place 107 = .ok (.invokevirtual 53, 3) := by decide +kernel
theorem dX8_place_110 : decode cX8_place 110 = .ok (.istore 9, 2) := by decide +kernel
theorem dX8_place_112 : decode cX8_place 112 = .ok (.aload_n 0, 1) := by decide +kernel
theorem dX8_place_113 : decode cX8_place 113 = .ok (.invokevirtual 213, 3) := by decide +kernel
theorem dX8_place_116 : decode cX8_place 116 = .ok (.iload 8, 2) := by decide +kernel
theorem dX8_place_118 : decode cX8_place 118 = .ok (.iload 5, 2) := by decide +kernel
theorem dX8_place_120 : decode cX8_place 120 = .ok (.if_icmp .gt 17, 3) := by decide +kernel
theorem dX8_place_123 : decode cX8_place 123 = .ok (.iload 8, 2) := by decide +kernel
theorem dX8_place_125 : decode cX8_place 125 = .ok (.iload 5, 2) := by decide +kernel
theorem dX8_place_127 : decode cX8_place 127 = .ok (.if_icmp .ne 22, 3) := by decide +kernel
theorem dX8_place_130 : decode cX8_place 130 = .ok (.iload 9, 2) := by decide +kernel
theorem dX8_place_132 : decode cX8_place 132 = .ok (.iload 6, 2) := by decide +kernel
theorem dX8_place_134 : decode cX8_place 134 = .ok (.if_icmp .le 15, 3) := by decide +kernel
theorem dX8_place_137 : decode cX8_place 137 = .ok (.iload 7, 2) := by decide +kernel
theorem dX8_place_139 : decode cX8_place 139 = .ok (.istore 4, 2) := by decide +kernel
theorem dX8_place_141 : decode cX8_place 141 = .ok (.iload 8, 2) := by decide +kernel
theorem dX8_place_143 : decode cX8_place 143 = .ok (.istore 5, 2) := by decide +kernel
theorem dX8_place_145 : decode cX8_place 145 = .ok (.iload 9, 2) := by decide +kernel
theorem dX8_place_147 : decode cX8_place 147 = .ok (.istore 6, 2) := by decide +kernel
theorem dX8_place_149 : decode cX8_place 149 = .ok (.iinc 7 1, 3) := by decide +kernel
theorem dX8_place_152 : decode cX8_place 152 = .ok (.goto (-86), 3) := by decide +kernel
theorem dX8_place_155 : decode cX8_place 155 = .ok (.iload_n 3, 1) := by decide +kernel
theorem dX8_place_156 : decode cX8_place 156 = .ok (.ifCond .ne 8, 3) := by decide +kernel
theorem dX8_place_159 : decode cX8_place 159 = .ok (.iload 4, 2) := by decide +kernel
theorem dX8_place_161 : decode cX8_place 161 = .ok (.goto 5, 3) := by decide +kernel
theorem dX8_place_164 : decode cX8_place 164 = .ok (.iload 5, 2) := by decide +kernel
theorem dX8_place_166 : decode cX8_place 166 = .ok (.ireturn, 1) := by decide +kernel
def X8_place_L66 : Nat → Int32 → Int32 → Int32 → Int32 → Int32 → Int32 → Int32 → Mem → Option (Int32 × Int32 × Mem)
  | 0, _, _, _, _, _, _, _, _ => none
  | fu + 1, v1, v2, v3, v4, v5, v6, v7, M => (if v7 < 5 then ((X8_of v1 2 M).bind fun q5 => (if q5 = v7 then ((X8_yearsGo v2 M).bind fun q6 => ((X8_of v1 6 q6).bind fun q7 => ((X8_of v1 4 q6).bind fun q8 => ((X8_putBack q6).bind fun q9 => (if v5 < q7 then (X8_place_L66 fu v1 v2 v3 v7 q7 q8 (v7 + 1) q9) else (if q7 = v5 then (if v6 < q8 then (X8_place_L66 fu v1 v2 v3 v7 q7 q8 (v7 + 1) q9) else (X8_place_L66 fu v1 v2 v3 v4 v5 v6 (v7 + 1) q9)) else (X8_place_L66 fu v1 v2 v3 v4 v5 v6 (v7 + 1) q9))))))) else ((X8_moves v1 v7 M).bind fun q10 => ((X8_yearsGo v2 q10).bind fun q11 => ((X8_of v1 6 q11).bind fun q12 => ((X8_of v1 4 q11).bind fun q13 => ((X8_putBack q11).bind fun q14 => (if v5 < q12 then (X8_place_L66 fu v1 v2 v3 v7 q12 q13 (v7 + 1) q14) else (if q12 = v5 then (if v6 < q13 then (X8_place_L66 fu v1 v2 v3 v7 q12 q13 (v7 + 1) q14) else (X8_place_L66 fu v1 v2 v3 v4 v5 v6 (v7 + 1) q14)) else (X8_place_L66 fu v1 v2 v3 v4 v5 v6 (v7 + 1) q14)))))))))) else (some (v4, v5, M)))
set_option maxRecDepth 100000 in
set_option maxHeartbeats 4000000 in
theorem X8_place_L66_ok  {r : Option AV} {M' : MM} : ∀ (fu : Nat) (v1 : Int32) (v2 : Int32) (v3 : Int32) (v4 : Int32) (v5 : Int32) (v6 : Int32) (v7 : Int32) (M N : Mem) {res : Int32 × Int32 × Mem} (h : X8_place_L66 fu v1 v2 v3 v4 v5 v6 v7 M = some res) (K : G mt_X8_place 6 r M' 155 [(3, .inl v3), (4, .inl res.1), (5, .inl res.2.1)] [] (N, res.2.2)), G mt_X8_place 6 r M' 66 [(0, .inr (.inr (19, 0))), (1, .inl v1), (2, .inl v2), (3, .inl v3), (4, .inl v4), (5, .inl v5), (6, .inl v6), (7, .inl v7)] [] (N, M) := by
  intro fu
  induction fu with
  | zero =>
    intro v1 v2 v3 v4 v5 v6 v7 M N res h
    cases h
  | succ fu ih =>
    intro v1 v2 v3 v4 v5 v6 v7 M N res h K
    replace h : (if v7 < 5 then ((X8_of v1 2 M).bind fun q5 => (if q5 = v7 then ((X8_yearsGo v2 M).bind fun q6 => ((X8_of v1 6 q6).bind fun q7 => ((X8_of v1 4 q6).bind fun q8 => ((X8_putBack q6).bind fun q9 => (if v5 < q7 then (X8_place_L66 fu v1 v2 v3 v7 q7 q8 (v7 + 1) q9) else (if q7 = v5 then (if v6 < q8 then (X8_place_L66 fu v1 v2 v3 v7 q7 q8 (v7 + 1) q9) else (X8_place_L66 fu v1 v2 v3 v4 v5 v6 (v7 + 1) q9)) else (X8_place_L66 fu v1 v2 v3 v4 v5 v6 (v7 + 1) q9))))))) else ((X8_moves v1 v7 M).bind fun q10 => ((X8_yearsGo v2 q10).bind fun q11 => ((X8_of v1 6 q11).bind fun q12 => ((X8_of v1 4 q11).bind fun q13 => ((X8_putBack q11).bind fun q14 => (if v5 < q12 then (X8_place_L66 fu v1 v2 v3 v7 q12 q13 (v7 + 1) q14) else (if q12 = v5 then (if v6 < q13 then (X8_place_L66 fu v1 v2 v3 v7 q12 q13 (v7 + 1) q14) else (X8_place_L66 fu v1 v2 v3 v4 v5 v6 (v7 + 1) q14)) else (X8_place_L66 fu v1 v2 v3 v4 v5 v6 (v7 + 1) q14)))))))))) else (some (v4, v5, M))) = some res := h
    refine G_iload dX8_place_66 rfl ?_
    refine G_iconst (v := 5) dX8_place_68 (by decide) ?_
    refine G_icmp_ge (tgt := 155) dX8_place_69 (by decide) (fun hc5 => ?_) (fun hc5 => ?_)
    · replace h := (if_neg hc5).symm.trans h
      refine G_sub [(3, .inl v3), (4, .inl v4), (5, .inl v5)] [3, 4, 5] rfl ?_
      obtain rfl := Option.some.inj h
      exact K
    · replace h := (if_pos hc5).symm.trans h
      refine G_aload_n dX8_place_72 rfl ?_
      refine G_iload_n dX8_place_73 rfl ?_
      refine G_iconst (v := 2) dX8_place_74 (by decide) ?_
      obtain ⟨q5, hq5, h⟩ := bnd h
      refine G_callVv (T := TX8) (N := 22) (f := 19) (i := 0) (X8_of_ok hq5) ok_X8_of ml_X8_53 (by decide) rfl (by decide) (by decide) (by decide) rfl rfl (Nat.le_of_ble_eq_true rfl) dX8_place_75 ?_
      refine G_iload dX8_place_78 rfl ?_
      refine G_icmp_eq (tgt := 90) dX8_place_80 (by decide) (fun hc6 => ?_) (fun hc6 => ?_)
      · replace h := (if_pos hc6).symm.trans h
        refine G_aload_n dX8_place_90 rfl ?_
        refine G_iload_n dX8_place_91 rfl ?_
        obtain ⟨q6, hq6, h⟩ := bnd h
        refine G_callVn (T := TX8) (N := 22) (f := 19) (i := 0) (X8_yearsGo_ok hq6) ok_X8_yearsGo ml_X8_198 (by decide) rfl (by decide) (by decide) (by decide) rfl rfl (Nat.le_of_ble_eq_true rfl) dX8_place_92 ?_
        refine G_aload_n dX8_place_95 rfl ?_
        refine G_iload_n dX8_place_96 rfl ?_
        refine G_bipush (v := 6) dX8_place_97 (by decide) ?_
        obtain ⟨q7, hq7, h⟩ := bnd h
        refine G_callVv (T := TX8) (N := 22) (f := 19) (i := 0) (X8_of_ok hq7) ok_X8_of ml_X8_53 (by decide) rfl (by decide) (by decide) (by decide) rfl rfl (Nat.le_of_ble_eq_true rfl) dX8_place_99 ?_
        refine G_istore (L2 := [(8, .inl q7), (0, .inr (.inr (19, 0))), (1, .inl v1), (2, .inl v2), (3, .inl v3), (4, .inl v4), (5, .inl v5), (6, .inl v6), (7, .inl v7)]) dX8_place_102 (by decide) rfl ?_
        refine G_aload_n dX8_place_104 rfl ?_
        refine G_iload_n dX8_place_105 rfl ?_
        refine G_iconst (v := 4) dX8_place_106 (by decide) ?_
        obtain ⟨q8, hq8, h⟩ := bnd h
        refine G_callVv (T := TX8) (N := 22) (f := 19) (i := 0) (X8_of_ok hq8) ok_X8_of ml_X8_53 (by decide) rfl (by decide) (by decide) (by decide) rfl rfl (Nat.le_of_ble_eq_true rfl) dX8_place_107 ?_
        refine G_istore (L2 := [(9, .inl q8), (8, .inl q7), (0, .inr (.inr (19, 0))), (1, .inl v1), (2, .inl v2), (3, .inl v3), (4, .inl v4), (5, .inl v5), (6, .inl v6), (7, .inl v7)]) dX8_place_110 (by decide) rfl ?_
        refine G_aload_n dX8_place_112 rfl ?_
        obtain ⟨q9, hq9, h⟩ := bnd h
        refine G_callVn (T := TX8) (N := 22) (f := 19) (i := 0) (X8_putBack_ok hq9) ok_X8_putBack ml_X8_213 (by decide) rfl (by decide) (by decide) (by decide) rfl rfl (Nat.le_of_ble_eq_true rfl) dX8_place_113 ?_
        refine G_iload dX8_place_116 rfl ?_
        refine G_iload dX8_place_118 rfl ?_
        refine G_icmp_gt (tgt := 137) dX8_place_120 (by decide) (fun hc7 => ?_) (fun hc7 => ?_)
        · replace h := (if_pos hc7).symm.trans h
          refine G_iload dX8_place_137 rfl ?_
          refine G_istore (L2 := [(4, .inl v7), (9, .inl q8), (8, .inl q7), (0, .inr (.inr (19, 0))), (1, .inl v1), (2, .inl v2), (3, .inl v3), (5, .inl v5), (6, .inl v6), (7, .inl v7)]) dX8_place_139 (by decide) rfl ?_
          refine G_iload dX8_place_141 rfl ?_
          refine G_istore (L2 := [(5, .inl q7), (4, .inl v7), (9, .inl q8), (8, .inl q7), (0, .inr (.inr (19, 0))), (1, .inl v1), (2, .inl v2), (3, .inl v3), (6, .inl v6), (7, .inl v7)]) dX8_place_143 (by decide) rfl ?_
          refine G_iload dX8_place_145 rfl ?_
          refine G_istore (L2 := [(6, .inl q8), (5, .inl q7), (4, .inl v7), (9, .inl q8), (8, .inl q7), (0, .inr (.inr (19, 0))), (1, .inl v1), (2, .inl v2), (3, .inl v3), (7, .inl v7)]) dX8_place_147 (by decide) rfl ?_
          refine G_iinc (v := (v7 + 1)) (L2 := [(7, .inl (v7 + 1)), (6, .inl q8), (5, .inl q7), (4, .inl v7), (9, .inl q8), (8, .inl q7), (0, .inr (.inr (19, 0))), (1, .inl v1), (2, .inl v2), (3, .inl v3)]) dX8_place_149 rfl (by first | rfl | (show _ + Int32.ofInt _ = _; rfl)) (by decide) rfl ?_
          refine G_goto (tgt := 66) dX8_place_152 (by decide) ?_
          refine G_sub [(0, .inr (.inr (19, 0))), (1, .inl v1), (2, .inl v2), (3, .inl v3), (4, .inl v7), (5, .inl q7), (6, .inl q8), (7, .inl (v7 + 1))] [6, 7, 8, 9, 3, 2, 1, 0] rfl ?_
          exact ih v1 v2 v3 v7 q7 q8 (v7 + 1) q9 _  h K
        · replace h := (if_neg hc7).symm.trans h
          refine G_iload dX8_place_123 rfl ?_
          refine G_iload dX8_place_125 rfl ?_
          refine G_icmp_ne (tgt := 149) dX8_place_127 (by decide) (fun hc8 => ?_) (fun hc8 => ?_)
          · replace h := (if_neg hc8).symm.trans h
            refine G_iinc (v := (v7 + 1)) (L2 := [(7, .inl (v7 + 1)), (9, .inl q8), (8, .inl q7), (0, .inr (.inr (19, 0))), (1, .inl v1), (2, .inl v2), (3, .inl v3), (4, .inl v4), (5, .inl v5), (6, .inl v6)]) dX8_place_149 rfl (by first | rfl | (show _ + Int32.ofInt _ = _; rfl)) (by decide) rfl ?_
            refine G_goto (tgt := 66) dX8_place_152 (by decide) ?_
            refine G_sub [(0, .inr (.inr (19, 0))), (1, .inl v1), (2, .inl v2), (3, .inl v3), (4, .inl v4), (5, .inl v5), (6, .inl v6), (7, .inl (v7 + 1))] [3, 4, 5, 6, 7, 8, 9, 0] rfl ?_
            exact ih v1 v2 v3 v4 v5 v6 (v7 + 1) q9 _  h K
          · replace h := (if_pos hc8).symm.trans h
            refine G_iload dX8_place_130 rfl ?_
            refine G_iload dX8_place_132 rfl ?_
            refine G_icmp_le (tgt := 149) dX8_place_134 (by decide) (fun hc9 => ?_) (fun hc9 => ?_)
            · replace h := (if_neg hc9).symm.trans h
              refine G_iinc (v := (v7 + 1)) (L2 := [(7, .inl (v7 + 1)), (9, .inl q8), (8, .inl q7), (0, .inr (.inr (19, 0))), (1, .inl v1), (2, .inl v2), (3, .inl v3), (4, .inl v4), (5, .inl v5), (6, .inl v6)]) dX8_place_149 rfl (by first | rfl | (show _ + Int32.ofInt _ = _; rfl)) (by decide) rfl ?_
              refine G_goto (tgt := 66) dX8_place_152 (by decide) ?_
              refine G_sub [(0, .inr (.inr (19, 0))), (1, .inl v1), (2, .inl v2), (3, .inl v3), (4, .inl v4), (5, .inl v5), (6, .inl v6), (7, .inl (v7 + 1))] [3, 4, 5, 6, 7, 8, 9, 0] rfl ?_
              exact ih v1 v2 v3 v4 v5 v6 (v7 + 1) q9 _  h K
            · replace h := (if_pos hc9).symm.trans h
              refine G_iload dX8_place_137 rfl ?_
              refine G_istore (L2 := [(4, .inl v7), (9, .inl q8), (8, .inl q7), (0, .inr (.inr (19, 0))), (1, .inl v1), (2, .inl v2), (3, .inl v3), (5, .inl v5), (6, .inl v6), (7, .inl v7)]) dX8_place_139 (by decide) rfl ?_
              refine G_iload dX8_place_141 rfl ?_
              refine G_istore (L2 := [(5, .inl q7), (4, .inl v7), (9, .inl q8), (8, .inl q7), (0, .inr (.inr (19, 0))), (1, .inl v1), (2, .inl v2), (3, .inl v3), (6, .inl v6), (7, .inl v7)]) dX8_place_143 (by decide) rfl ?_
              refine G_iload dX8_place_145 rfl ?_
              refine G_istore (L2 := [(6, .inl q8), (5, .inl q7), (4, .inl v7), (9, .inl q8), (8, .inl q7), (0, .inr (.inr (19, 0))), (1, .inl v1), (2, .inl v2), (3, .inl v3), (7, .inl v7)]) dX8_place_147 (by decide) rfl ?_
              refine G_iinc (v := (v7 + 1)) (L2 := [(7, .inl (v7 + 1)), (6, .inl q8), (5, .inl q7), (4, .inl v7), (9, .inl q8), (8, .inl q7), (0, .inr (.inr (19, 0))), (1, .inl v1), (2, .inl v2), (3, .inl v3)]) dX8_place_149 rfl (by first | rfl | (show _ + Int32.ofInt _ = _; rfl)) (by decide) rfl ?_
              refine G_goto (tgt := 66) dX8_place_152 (by decide) ?_
              refine G_sub [(0, .inr (.inr (19, 0))), (1, .inl v1), (2, .inl v2), (3, .inl v3), (4, .inl v7), (5, .inl q7), (6, .inl q8), (7, .inl (v7 + 1))] [6, 7, 8, 9, 3, 2, 1, 0] rfl ?_
              exact ih v1 v2 v3 v7 q7 q8 (v7 + 1) q9 _  h K
      · replace h := (if_neg hc6).symm.trans h
        refine G_aload_n dX8_place_83 rfl ?_
        refine G_iload_n dX8_place_84 rfl ?_
        refine G_iload dX8_place_85 rfl ?_
        obtain ⟨q10, hq10, h⟩ := bnd h
        refine G_callVn (T := TX8) (N := 22) (f := 19) (i := 0) (X8_moves_ok hq10) ok_X8_moves ml_X8_187 (by decide) rfl (by decide) (by decide) (by decide) rfl rfl (Nat.le_of_ble_eq_true rfl) dX8_place_87 ?_
        refine G_aload_n dX8_place_90 rfl ?_
        refine G_iload_n dX8_place_91 rfl ?_
        obtain ⟨q11, hq11, h⟩ := bnd h
        refine G_callVn (T := TX8) (N := 22) (f := 19) (i := 0) (X8_yearsGo_ok hq11) ok_X8_yearsGo ml_X8_198 (by decide) rfl (by decide) (by decide) (by decide) rfl rfl (Nat.le_of_ble_eq_true rfl) dX8_place_92 ?_
        refine G_aload_n dX8_place_95 rfl ?_
        refine G_iload_n dX8_place_96 rfl ?_
        refine G_bipush (v := 6) dX8_place_97 (by decide) ?_
        obtain ⟨q12, hq12, h⟩ := bnd h
        refine G_callVv (T := TX8) (N := 22) (f := 19) (i := 0) (X8_of_ok hq12) ok_X8_of ml_X8_53 (by decide) rfl (by decide) (by decide) (by decide) rfl rfl (Nat.le_of_ble_eq_true rfl) dX8_place_99 ?_
        refine G_istore (L2 := [(8, .inl q12), (0, .inr (.inr (19, 0))), (1, .inl v1), (2, .inl v2), (3, .inl v3), (4, .inl v4), (5, .inl v5), (6, .inl v6), (7, .inl v7)]) dX8_place_102 (by decide) rfl ?_
        refine G_aload_n dX8_place_104 rfl ?_
        refine G_iload_n dX8_place_105 rfl ?_
        refine G_iconst (v := 4) dX8_place_106 (by decide) ?_
        obtain ⟨q13, hq13, h⟩ := bnd h
        refine G_callVv (T := TX8) (N := 22) (f := 19) (i := 0) (X8_of_ok hq13) ok_X8_of ml_X8_53 (by decide) rfl (by decide) (by decide) (by decide) rfl rfl (Nat.le_of_ble_eq_true rfl) dX8_place_107 ?_
        refine G_istore (L2 := [(9, .inl q13), (8, .inl q12), (0, .inr (.inr (19, 0))), (1, .inl v1), (2, .inl v2), (3, .inl v3), (4, .inl v4), (5, .inl v5), (6, .inl v6), (7, .inl v7)]) dX8_place_110 (by decide) rfl ?_
        refine G_aload_n dX8_place_112 rfl ?_
        obtain ⟨q14, hq14, h⟩ := bnd h
        refine G_callVn (T := TX8) (N := 22) (f := 19) (i := 0) (X8_putBack_ok hq14) ok_X8_putBack ml_X8_213 (by decide) rfl (by decide) (by decide) (by decide) rfl rfl (Nat.le_of_ble_eq_true rfl) dX8_place_113 ?_
        refine G_iload dX8_place_116 rfl ?_
        refine G_iload dX8_place_118 rfl ?_
        refine G_icmp_gt (tgt := 137) dX8_place_120 (by decide) (fun hc10 => ?_) (fun hc10 => ?_)
        · replace h := (if_pos hc10).symm.trans h
          refine G_iload dX8_place_137 rfl ?_
          refine G_istore (L2 := [(4, .inl v7), (9, .inl q13), (8, .inl q12), (0, .inr (.inr (19, 0))), (1, .inl v1), (2, .inl v2), (3, .inl v3), (5, .inl v5), (6, .inl v6), (7, .inl v7)]) dX8_place_139 (by decide) rfl ?_
          refine G_iload dX8_place_141 rfl ?_
          refine G_istore (L2 := [(5, .inl q12), (4, .inl v7), (9, .inl q13), (8, .inl q12), (0, .inr (.inr (19, 0))), (1, .inl v1), (2, .inl v2), (3, .inl v3), (6, .inl v6), (7, .inl v7)]) dX8_place_143 (by decide) rfl ?_
          refine G_iload dX8_place_145 rfl ?_
          refine G_istore (L2 := [(6, .inl q13), (5, .inl q12), (4, .inl v7), (9, .inl q13), (8, .inl q12), (0, .inr (.inr (19, 0))), (1, .inl v1), (2, .inl v2), (3, .inl v3), (7, .inl v7)]) dX8_place_147 (by decide) rfl ?_
          refine G_iinc (v := (v7 + 1)) (L2 := [(7, .inl (v7 + 1)), (6, .inl q13), (5, .inl q12), (4, .inl v7), (9, .inl q13), (8, .inl q12), (0, .inr (.inr (19, 0))), (1, .inl v1), (2, .inl v2), (3, .inl v3)]) dX8_place_149 rfl (by first | rfl | (show _ + Int32.ofInt _ = _; rfl)) (by decide) rfl ?_
          refine G_goto (tgt := 66) dX8_place_152 (by decide) ?_
          refine G_sub [(0, .inr (.inr (19, 0))), (1, .inl v1), (2, .inl v2), (3, .inl v3), (4, .inl v7), (5, .inl q12), (6, .inl q13), (7, .inl (v7 + 1))] [6, 7, 8, 9, 3, 2, 1, 0] rfl ?_
          exact ih v1 v2 v3 v7 q12 q13 (v7 + 1) q14 _  h K
        · replace h := (if_neg hc10).symm.trans h
          refine G_iload dX8_place_123 rfl ?_
          refine G_iload dX8_place_125 rfl ?_
          refine G_icmp_ne (tgt := 149) dX8_place_127 (by decide) (fun hc11 => ?_) (fun hc11 => ?_)
          · replace h := (if_neg hc11).symm.trans h
            refine G_iinc (v := (v7 + 1)) (L2 := [(7, .inl (v7 + 1)), (9, .inl q13), (8, .inl q12), (0, .inr (.inr (19, 0))), (1, .inl v1), (2, .inl v2), (3, .inl v3), (4, .inl v4), (5, .inl v5), (6, .inl v6)]) dX8_place_149 rfl (by first | rfl | (show _ + Int32.ofInt _ = _; rfl)) (by decide) rfl ?_
            refine G_goto (tgt := 66) dX8_place_152 (by decide) ?_
            refine G_sub [(0, .inr (.inr (19, 0))), (1, .inl v1), (2, .inl v2), (3, .inl v3), (4, .inl v4), (5, .inl v5), (6, .inl v6), (7, .inl (v7 + 1))] [3, 4, 5, 6, 7, 8, 9, 0] rfl ?_
            exact ih v1 v2 v3 v4 v5 v6 (v7 + 1) q14 _  h K
          · replace h := (if_pos hc11).symm.trans h
            refine G_iload dX8_place_130 rfl ?_
            refine G_iload dX8_place_132 rfl ?_
            refine G_icmp_le (tgt := 149) dX8_place_134 (by decide) (fun hc12 => ?_) (fun hc12 => ?_)
            · replace h := (if_neg hc12).symm.trans h
              refine G_iinc (v := (v7 + 1)) (L2 := [(7, .inl (v7 + 1)), (9, .inl q13), (8, .inl q12), (0, .inr (.inr (19, 0))), (1, .inl v1), (2, .inl v2), (3, .inl v3), (4, .inl v4), (5, .inl v5), (6, .inl v6)]) dX8_place_149 rfl (by first | rfl | (show _ + Int32.ofInt _ = _; rfl)) (by decide) rfl ?_
              refine G_goto (tgt := 66) dX8_place_152 (by decide) ?_
              refine G_sub [(0, .inr (.inr (19, 0))), (1, .inl v1), (2, .inl v2), (3, .inl v3), (4, .inl v4), (5, .inl v5), (6, .inl v6), (7, .inl (v7 + 1))] [3, 4, 5, 6, 7, 8, 9, 0] rfl ?_
              exact ih v1 v2 v3 v4 v5 v6 (v7 + 1) q14 _  h K
            · replace h := (if_pos hc12).symm.trans h
              refine G_iload dX8_place_137 rfl ?_
              refine G_istore (L2 := [(4, .inl v7), (9, .inl q13), (8, .inl q12), (0, .inr (.inr (19, 0))), (1, .inl v1), (2, .inl v2), (3, .inl v3), (5, .inl v5), (6, .inl v6), (7, .inl v7)]) dX8_place_139 (by decide) rfl ?_
              refine G_iload dX8_place_141 rfl ?_
              refine G_istore (L2 := [(5, .inl q12), (4, .inl v7), (9, .inl q13), (8, .inl q12), (0, .inr (.inr (19, 0))), (1, .inl v1), (2, .inl v2), (3, .inl v3), (6, .inl v6), (7, .inl v7)]) dX8_place_143 (by decide) rfl ?_
              refine G_iload dX8_place_145 rfl ?_
              refine G_istore (L2 := [(6, .inl q13), (5, .inl q12), (4, .inl v7), (9, .inl q13), (8, .inl q12), (0, .inr (.inr (19, 0))), (1, .inl v1), (2, .inl v2), (3, .inl v3), (7, .inl v7)]) dX8_place_147 (by decide) rfl ?_
              refine G_iinc (v := (v7 + 1)) (L2 := [(7, .inl (v7 + 1)), (6, .inl q13), (5, .inl q12), (4, .inl v7), (9, .inl q13), (8, .inl q12), (0, .inr (.inr (19, 0))), (1, .inl v1), (2, .inl v2), (3, .inl v3)]) dX8_place_149 rfl (by first | rfl | (show _ + Int32.ofInt _ = _; rfl)) (by decide) rfl ?_
              refine G_goto (tgt := 66) dX8_place_152 (by decide) ?_
              refine G_sub [(0, .inr (.inr (19, 0))), (1, .inl v1), (2, .inl v2), (3, .inl v3), (4, .inl v7), (5, .inl q12), (6, .inl q13), (7, .inl (v7 + 1))] [6, 7, 8, 9, 3, 2, 1, 0] rfl ?_
              exact ih v1 v2 v3 v7 q12 q13 (v7 + 1) q14 _  h K

def X8_place (v1 : Int32) (v2 : Int32) (v3 : Int32) (M : Mem) : Option (Int32 × Mem) := (if (X8_isPot v1 M) = 0 then ((X8_finds 1 M).bind fun q1 => (some (q1.1, q1.2))) else (if (X8_in (v2.toInt64) (0 : Int64) (60 : Int64)) = 0 then ((X8_finds 1 M).bind fun q2 => (some (q2.1, q2.2))) else (if (X8_in (v3.toInt64) (0 : Int64) (1 : Int64)) = 0 then ((X8_finds 1 M).bind fun q17 => (some (q17.1, q17.2))) else ((X8_isBroken v1 M).bind fun q3 => (if q3 = 0 then ((X8_keepAside M).bind fun q4 => ((X8_place_L66 400 v1 v2 v3 0 (-1) (-1) 0 q4).bind fun q15 => (if v3 = 0 then (some (q15.1, q15.2.2)) else (some (q15.2.1, q15.2.2))))) else ((X8_finds 3 M).bind fun q16 => (some (q16.1, q16.2))))))))
set_option maxRecDepth 100000 in
set_option maxHeartbeats 4000000 in
theorem X8_place_ok  {v1 : Int32} {v2 : Int32} {v3 : Int32} {M N : Mem} {res : Int32 × Mem} (h : X8_place v1 v2 v3 M = some res) : Spec mt_X8_place 6 [.inr (.inr (19, 0)), .inl v1, .inl v2, .inl v3] (N, M) (some (.inl res.1)) (N, res.2) := by
  unfold X8_place at h
  refine Spec_of_G (by decide) rfl (Nat.le_of_ble_eq_true rfl) ?_
  refine G_sub [(0, .inr (.inr (19, 0))), (1, .inl v1), (2, .inl v2), (3, .inl v3)] [0, 1, 2, 3] rfl ?_
  refine G_aload_n dX8_place_0 rfl ?_
  refine G_iload_n dX8_place_1 rfl ?_
  refine G_callVv (T := TX8) (N := 22) (f := 19) (i := 0) (X8_isPot_ok rfl) ok_X8_isPot ml_X8_182 (by decide) rfl (by decide) (by decide) (by decide) rfl rfl (Nat.le_of_ble_eq_true rfl) dX8_place_2 ?_
  refine G_if_eq (tgt := 30) dX8_place_5 (by decide) (fun hc1 => ?_) (fun hc1 => ?_)
  · replace h := (if_pos hc1).symm.trans h
    refine G_aload_n dX8_place_30 rfl ?_
    refine G_iconst (v := 1) dX8_place_31 (by decide) ?_
    obtain ⟨q1, hq1, h⟩ := bnd h
    refine G_callVv (T := TX8) (N := 22) (f := 19) (i := 0) (X8_finds_ok hq1) ok_X8_finds ml_X8_130 (by decide) rfl (by decide) (by decide) (by decide) rfl rfl (Nat.le_of_ble_eq_true rfl) dX8_place_32 ?_
    obtain rfl := Option.some.inj h
    exact G_ret dX8_place_35 trivial rfl rfl
  · replace h := (if_neg hc1).symm.trans h
    refine G_iload_n dX8_place_8 rfl ?_
    refine G_i2l dX8_place_9 ?_
    refine G_lconst (v := 0) dX8_place_10 (by decide) ?_
    refine G_ldc2 ko_X8_196 dX8_place_11 ?_
    refine G_callSv  (X8_in_ok rfl) ok_X8_in ml_X8_47 (by decide) rfl rfl (Nat.le_of_ble_eq_true rfl) dX8_place_14 ?_
    refine G_if_eq (tgt := 30) dX8_place_17 (by decide) (fun hc2 => ?_) (fun hc2 => ?_)
    · replace h := (if_pos hc2).symm.trans h
      refine G_aload_n dX8_place_30 rfl ?_
      refine G_iconst (v := 1) dX8_place_31 (by decide) ?_
      obtain ⟨q2, hq2, h⟩ := bnd h
      refine G_callVv (T := TX8) (N := 22) (f := 19) (i := 0) (X8_finds_ok hq2) ok_X8_finds ml_X8_130 (by decide) rfl (by decide) (by decide) (by decide) rfl rfl (Nat.le_of_ble_eq_true rfl) dX8_place_32 ?_
      obtain rfl := Option.some.inj h
      exact G_ret dX8_place_35 trivial rfl rfl
    · replace h := (if_neg hc2).symm.trans h
      refine G_iload_n dX8_place_20 rfl ?_
      refine G_i2l dX8_place_21 ?_
      refine G_lconst (v := 0) dX8_place_22 (by decide) ?_
      refine G_lconst (v := 1) dX8_place_23 (by decide) ?_
      refine G_callSv  (X8_in_ok rfl) ok_X8_in ml_X8_47 (by decide) rfl rfl (Nat.le_of_ble_eq_true rfl) dX8_place_24 ?_
      refine G_if_ne (tgt := 36) dX8_place_27 (by decide) (fun hc3 => ?_) (fun hc3 => ?_)
      · replace h := (if_neg hc3).symm.trans h
        refine G_aload_n dX8_place_36 rfl ?_
        refine G_iload_n dX8_place_37 rfl ?_
        obtain ⟨q3, hq3, h⟩ := bnd h
        refine G_callVv (T := TX8) (N := 22) (f := 19) (i := 0) (X8_isBroken_ok hq3) ok_X8_isBroken ml_X8_164 (by decide) rfl (by decide) (by decide) (by decide) rfl rfl (Nat.le_of_ble_eq_true rfl) dX8_place_38 ?_
        refine G_if_eq (tgt := 50) dX8_place_41 (by decide) (fun hc4 => ?_) (fun hc4 => ?_)
        · replace h := (if_pos hc4).symm.trans h
          refine G_aload_n dX8_place_50 rfl ?_
          obtain ⟨q4, hq4, h⟩ := bnd h
          refine G_callVn (T := TX8) (N := 22) (f := 19) (i := 0) (X8_keepAside_ok hq4) ok_X8_keepAside ml_X8_210 (by decide) rfl (by decide) (by decide) (by decide) rfl rfl (Nat.le_of_ble_eq_true rfl) dX8_place_51 ?_
          refine G_iconst (v := 0) dX8_place_54 (by decide) ?_
          refine G_istore (L2 := [(4, .inl 0), (0, .inr (.inr (19, 0))), (1, .inl v1), (2, .inl v2), (3, .inl v3)]) dX8_place_55 (by decide) rfl ?_
          refine G_iconst (v := (-1)) dX8_place_57 (by decide) ?_
          refine G_istore (L2 := [(5, .inl (-1)), (4, .inl 0), (0, .inr (.inr (19, 0))), (1, .inl v1), (2, .inl v2), (3, .inl v3)]) dX8_place_58 (by decide) rfl ?_
          refine G_iconst (v := (-1)) dX8_place_60 (by decide) ?_
          refine G_istore (L2 := [(6, .inl (-1)), (5, .inl (-1)), (4, .inl 0), (0, .inr (.inr (19, 0))), (1, .inl v1), (2, .inl v2), (3, .inl v3)]) dX8_place_61 (by decide) rfl ?_
          refine G_iconst (v := 0) dX8_place_63 (by decide) ?_
          refine G_istore (L2 := [(7, .inl 0), (6, .inl (-1)), (5, .inl (-1)), (4, .inl 0), (0, .inr (.inr (19, 0))), (1, .inl v1), (2, .inl v2), (3, .inl v3)]) dX8_place_64 (by decide) rfl ?_
          refine G_sub [(0, .inr (.inr (19, 0))), (1, .inl v1), (2, .inl v2), (3, .inl v3), (4, .inl 0), (5, .inl (-1)), (6, .inl (-1)), (7, .inl 0)] [4, 5, 6, 7, 3, 2, 1, 0] rfl ?_
          obtain ⟨q15, hq15, h⟩ := bnd h
          refine X8_place_L66_ok  400 v1 v2 v3 0 (-1) (-1) 0 q4 _  hq15 ?_
          refine G_iload_n dX8_place_155 rfl ?_
          refine G_if_ne (tgt := 164) dX8_place_156 (by decide) (fun hc13 => ?_) (fun hc13 => ?_)
          · replace h := (if_neg hc13).symm.trans h
            refine G_iload dX8_place_164 rfl ?_
            obtain rfl := Option.some.inj h
            exact G_ret dX8_place_166 trivial rfl rfl
          · replace h := (if_pos hc13).symm.trans h
            refine G_iload dX8_place_159 rfl ?_
            refine G_goto (tgt := 166) dX8_place_161 (by decide) ?_
            obtain rfl := Option.some.inj h
            exact G_ret dX8_place_166 trivial rfl rfl
        · replace h := (if_neg hc4).symm.trans h
          refine G_aload_n dX8_place_44 rfl ?_
          refine G_iconst (v := 3) dX8_place_45 (by decide) ?_
          obtain ⟨q16, hq16, h⟩ := bnd h
          refine G_callVv (T := TX8) (N := 22) (f := 19) (i := 0) (X8_finds_ok hq16) ok_X8_finds ml_X8_130 (by decide) rfl (by decide) (by decide) (by decide) rfl rfl (Nat.le_of_ble_eq_true rfl) dX8_place_46 ?_
          obtain rfl := Option.some.inj h
          exact G_ret dX8_place_49 trivial rfl rfl
      · replace h := (if_pos hc3).symm.trans h
        refine G_aload_n dX8_place_30 rfl ?_
        refine G_iconst (v := 1) dX8_place_31 (by decide) ?_
        obtain ⟨q17, hq17, h⟩ := bnd h
        refine G_callVv (T := TX8) (N := 22) (f := 19) (i := 0) (X8_finds_ok hq17) ok_X8_finds ml_X8_130 (by decide) rfl (by decide) (by decide) (by decide) rfl rfl (Nat.le_of_ble_eq_true rfl) dX8_place_32 ?_
        obtain rfl := Option.some.inj h
        exact G_ret dX8_place_35 trivial rfl rfl

theorem dX8_use_0 : decode cX8_use 0 = .ok (.aload_n 0, 1) := by decide +kernel
theorem dX8_use_1 : decode cX8_use 1 = .ok (.iload_n 1, 1) := by decide +kernel
theorem dX8_use_2 : decode cX8_use 2 = .ok (.invokevirtual 182, 3) := by decide +kernel
theorem dX8_use_5 : decode cX8_use 5 = .ok (.ifCond .eq 15, 3) := by decide +kernel
theorem dX8_use_8 : decode cX8_use 8 = .ok (.iload_n 2, 1) := by decide +kernel
theorem dX8_use_9 : decode cX8_use 9 = .ok (.i2l, 1) := by decide +kernel
theorem dX8_use_10 : decode cX8_use 10 = .ok (.lconst 0, 1) := by decide +kernel
theorem dX8_use_11 : decode cX8_use 11 = .ok (.ldc2_w 196, 3) := by decide +kernel
theorem dX8_use_14 : decode cX8_use 14 = .ok (.invokestatic 47, 3) := by decide +kernel
theorem dX8_use_17 : decode cX8_use 17 = .ok (.ifCond .ne 9, 3) := by decide +kernel
theorem dX8_use_20 : decode cX8_use 20 = .ok (.aload_n 0, 1) := by decide +kernel
theorem dX8_use_21 : decode cX8_use 21 = .ok (.iconst 1, 1) := by decide +kernel
theorem dX8_use_22 : decode cX8_use 22 = .ok (.invokevirtual 130, 3) := by decide +kernel
theorem dX8_use_25 : decode cX8_use 25 = .ok (.ireturn, 1) := by decide +kernel
theorem dX8_use_26 : decode cX8_use 26 = .ok (.aload_n 0, 1) := by decide +kernel
theorem dX8_use_27 : decode cX8_use 27 = .ok (.invokevirtual 210, 3) := by decide +kernel
theorem dX8_use_30 : decode cX8_use 30 = .ok (.iconst 0, 1) := by decide +kernel
theorem dX8_use_31 : decode cX8_use 31 = .ok (.istore_n 3, 1) := by decide +kernel
theorem dX8_use_32 : decode cX8_use 32 = .ok (.iload_n 3, 1) := by decide +kernel
theorem dX8_use_33 : decode cX8_use 33 = .ok (.bipush 10, 2) := by decide +kernel
theorem dX8_use_35 : decode cX8_use 35 = .ok (.if_icmp .ge 48, 3) := by decide +kernel
theorem dX8_use_38 : decode cX8_use 38 = .ok (.aload_n 0, 1) := by decide +kernel
theorem dX8_use_39 : decode cX8_use 39 = .ok (.iload_n 1, 1) := by decide +kernel
theorem dX8_use_40 : decode cX8_use 40 = .ok (.iconst 3, 1) := by decide +kernel
theorem dX8_use_41 : decode cX8_use 41 = .ok (.iload_n 3, 1) := by decide +kernel
theorem dX8_use_42 : decode cX8_use 42 = .ok (.invokevirtual 149, 3) := by decide +kernel
theorem dX8_use_45 : decode cX8_use 45 = .ok (.aload_n 0, 1) := by decide +kernel
theorem dX8_use_46 : decode cX8_use 46 = .ok (.iload_n 2, 1) := by decide +kernel
theorem dX8_use_47 : decode cX8_use 47 = .ok (.invokevirtual 198, 3) := by decide +kernel
theorem dX8_use_50 : decode cX8_use 50 = .ok (.aload_n 0, 1) := by decide +kernel
theorem dX8_use_51 : decode cX8_use 51 = .ok (.iload_n 1, 1) := by decide +kernel
theorem dX8_use_52 : decode cX8_use 52 = .ok (.bipush 6, 2) := by decide +kernel
theorem dX8_use_54 : decode cX8_use 54 = .ok (.invokevirtual 53, 3) := by decide +kernel
theorem dX8_use_57 : decode cX8_use 57 = .ok (.istore 4, 2) := by decide +kernel
theorem dX8_use_59 : decode cX8_use 59 = .ok (.aload_n 0, 1) := by decide +kernel
theorem dX8_use_60 : decode cX8_use 60 = .ok (.invokevirtual 213, 3) := by decide +kernel
theorem dX8_use_63 : decode cX8_use 63 = .ok (.iload 4, 2) := by decide +kernel
theorem dX8_use_65 : decode cX8_use 65 = .ok (.aload_n 0, 1) := by decide +kernel
theorem dX8_use_66 : decode cX8_use 66 = .ok (.iload_n 1, 1) := by decide +kernel
theorem dX8_use_67 : decode cX8_use 67 = .ok (.bipush 6, 2) := by decide +kernel
theorem dX8_use_69 : decode cX8_use 69 = .ok (.invokevirtual 53, 3) := by decide +kernel
theorem dX8_use_72 : decode cX8_use 72 = .ok (.if_icmp .le 5, 3) := by decide +kernel
theorem dX8_use_75 : decode cX8_use 75 = .ok (.iload_n 3, 1) := by decide +kernel
theorem dX8_use_76 : decode cX8_use 76 = .ok (.ireturn, 1) := by decide +kernel
theorem dX8_use_77 : decode cX8_use 77 = .ok (.iinc 3 1, 3) := by decide +kernel
theorem dX8_use_80 : decode cX8_use 80 = .ok (.goto (-48), 3) := by decide +kernel
theorem dX8_use_83 : decode cX8_use 83 = .ok (.aload_n 0, 1) := by decide +kernel
theorem dX8_use_84 : decode cX8_use 84 = .ok (.iconst 2, 1) := by decide +kernel
theorem dX8_use_85 : decode cX8_use 85 = .ok (.invokevirtual 130, 3) := by decide +kernel
theorem dX8_use_88 : decode cX8_use 88 = .ok (.ireturn, 1) := by decide +kernel
def X8_use_L32 : Nat → Int32 → Int32 → Int32 → Mem → Option (Mem ⊕ (Int32 × Mem))
  | 0, _, _, _, _ => none
  | fu + 1, v1, v2, v3, M => (if v3 < 10 then ((X8_sets v1 3 v3 M).bind fun q3 => ((X8_yearsGo v2 q3).bind fun q4 => ((X8_of v1 6 q4).bind fun q5 => ((X8_putBack q4).bind fun q6 => ((X8_of v1 6 q6).bind fun q7 => (if q7 < q5 then (some (.inr (v3, q6))) else (X8_use_L32 fu v1 v2 (v3 + 1) q6))))))) else (some (.inl M)))
set_option maxRecDepth 100000 in
set_option maxHeartbeats 4000000 in
theorem X8_use_L32_ok  {r : Option AV} {M' : MM} : ∀ (fu : Nat) (v1 : Int32) (v2 : Int32) (v3 : Int32) (M N : Mem) {res : (Mem) ⊕ (Int32 × Mem)} (h : X8_use_L32 fu v1 v2 v3 M = some res) (K : ∀ q, res = .inl q → G mt_X8_use 6 r M' 83 [(0, .inr (.inr (19, 0)))] [] (N, q)) (K2 : ∀ q, res = .inr q → r = (some (.inl q.1)) ∧ M' = (N, q.2)), G mt_X8_use 6 r M' 32 [(0, .inr (.inr (19, 0))), (1, .inl v1), (2, .inl v2), (3, .inl v3)] [] (N, M) := by
  intro fu
  induction fu with
  | zero =>
    intro v1 v2 v3 M N res h
    cases h
  | succ fu ih =>
    intro v1 v2 v3 M N res h K K2
    replace h : (if v3 < 10 then ((X8_sets v1 3 v3 M).bind fun q3 => ((X8_yearsGo v2 q3).bind fun q4 => ((X8_of v1 6 q4).bind fun q5 => ((X8_putBack q4).bind fun q6 => ((X8_of v1 6 q6).bind fun q7 => (if q7 < q5 then (some (.inr (v3, q6))) else (X8_use_L32 fu v1 v2 (v3 + 1) q6))))))) else (some (.inl M))) = some res := h
    refine G_iload_n dX8_use_32 rfl ?_
    refine G_bipush (v := 10) dX8_use_33 (by decide) ?_
    refine G_icmp_ge (tgt := 83) dX8_use_35 (by decide) (fun hc5 => ?_) (fun hc5 => ?_)
    · replace h := (if_neg hc5).symm.trans h
      refine G_sub [(0, .inr (.inr (19, 0)))] [0] rfl ?_
      exact K _ (Option.some.inj h).symm
    · replace h := (if_pos hc5).symm.trans h
      refine G_aload_n dX8_use_38 rfl ?_
      refine G_iload_n dX8_use_39 rfl ?_
      refine G_iconst (v := 3) dX8_use_40 (by decide) ?_
      refine G_iload_n dX8_use_41 rfl ?_
      obtain ⟨q3, hq3, h⟩ := bnd h
      refine G_callVn (T := TX8) (N := 22) (f := 19) (i := 0) (X8_sets_ok hq3) ok_X8_sets ml_X8_149 (by decide) rfl (by decide) (by decide) (by decide) rfl rfl (Nat.le_of_ble_eq_true rfl) dX8_use_42 ?_
      refine G_aload_n dX8_use_45 rfl ?_
      refine G_iload_n dX8_use_46 rfl ?_
      obtain ⟨q4, hq4, h⟩ := bnd h
      refine G_callVn (T := TX8) (N := 22) (f := 19) (i := 0) (X8_yearsGo_ok hq4) ok_X8_yearsGo ml_X8_198 (by decide) rfl (by decide) (by decide) (by decide) rfl rfl (Nat.le_of_ble_eq_true rfl) dX8_use_47 ?_
      refine G_aload_n dX8_use_50 rfl ?_
      refine G_iload_n dX8_use_51 rfl ?_
      refine G_bipush (v := 6) dX8_use_52 (by decide) ?_
      obtain ⟨q5, hq5, h⟩ := bnd h
      refine G_callVv (T := TX8) (N := 22) (f := 19) (i := 0) (X8_of_ok hq5) ok_X8_of ml_X8_53 (by decide) rfl (by decide) (by decide) (by decide) rfl rfl (Nat.le_of_ble_eq_true rfl) dX8_use_54 ?_
      refine G_istore (L2 := [(4, .inl q5), (0, .inr (.inr (19, 0))), (1, .inl v1), (2, .inl v2), (3, .inl v3)]) dX8_use_57 (by decide) rfl ?_
      refine G_aload_n dX8_use_59 rfl ?_
      obtain ⟨q6, hq6, h⟩ := bnd h
      refine G_callVn (T := TX8) (N := 22) (f := 19) (i := 0) (X8_putBack_ok hq6) ok_X8_putBack ml_X8_213 (by decide) rfl (by decide) (by decide) (by decide) rfl rfl (Nat.le_of_ble_eq_true rfl) dX8_use_60 ?_
      refine G_iload dX8_use_63 rfl ?_
      refine G_aload_n dX8_use_65 rfl ?_
      refine G_iload_n dX8_use_66 rfl ?_
      refine G_bipush (v := 6) dX8_use_67 (by decide) ?_
      obtain ⟨q7, hq7, h⟩ := bnd h
      refine G_callVv (T := TX8) (N := 22) (f := 19) (i := 0) (X8_of_ok hq7) ok_X8_of ml_X8_53 (by decide) rfl (by decide) (by decide) (by decide) rfl rfl (Nat.le_of_ble_eq_true rfl) dX8_use_69 ?_
      refine G_icmp_le (tgt := 77) dX8_use_72 (by decide) (fun hc6 => ?_) (fun hc6 => ?_)
      · replace h := (if_neg hc6).symm.trans h
        refine G_iinc (v := (v3 + 1)) (L2 := [(3, .inl (v3 + 1)), (4, .inl q5), (0, .inr (.inr (19, 0))), (1, .inl v1), (2, .inl v2)]) dX8_use_77 rfl (by first | rfl | (show _ + Int32.ofInt _ = _; rfl)) (by decide) rfl ?_
        refine G_goto (tgt := 32) dX8_use_80 (by decide) ?_
        refine G_sub [(0, .inr (.inr (19, 0))), (1, .inl v1), (2, .inl v2), (3, .inl (v3 + 1))] [2, 3, 4, 0] rfl ?_
        exact ih v1 v2 (v3 + 1) q6 _  h K K2
      · replace h := (if_pos hc6).symm.trans h
        refine G_iload_n dX8_use_75 rfl ?_
        obtain ⟨e1, e2⟩ := K2 _ (Option.some.inj h).symm
        subst e1; subst e2
        exact G_ret dX8_use_76 trivial rfl rfl

def X8_use (v1 : Int32) (v2 : Int32) (M : Mem) : Option (Int32 × Mem) := (if (X8_isPot v1 M) = 0 then ((X8_finds 1 M).bind fun q1 => (some (q1.1, q1.2))) else (if (X8_in (v2.toInt64) (0 : Int64) (60 : Int64)) = 0 then ((X8_finds 1 M).bind fun q10 => (some (q10.1, q10.2))) else ((X8_keepAside M).bind fun q2 => ((X8_use_L32 400 v1 v2 0 q2).bind fun q8 => match q8 with
  | .inl q8 => ((X8_finds 2 q8).bind fun q9 => (some (q9.1, q9.2)))
  | .inr q8 => some q8))))
set_option maxRecDepth 100000 in
set_option maxHeartbeats 4000000 in
theorem X8_use_ok  {v1 : Int32} {v2 : Int32} {M N : Mem} {res : Int32 × Mem} (h : X8_use v1 v2 M = some res) : Spec mt_X8_use 6 [.inr (.inr (19, 0)), .inl v1, .inl v2] (N, M) (some (.inl res.1)) (N, res.2) := by
  unfold X8_use at h
  refine Spec_of_G (by decide) rfl (Nat.le_of_ble_eq_true rfl) ?_
  refine G_sub [(0, .inr (.inr (19, 0))), (1, .inl v1), (2, .inl v2)] [0, 1, 2] rfl ?_
  refine G_aload_n dX8_use_0 rfl ?_
  refine G_iload_n dX8_use_1 rfl ?_
  refine G_callVv (T := TX8) (N := 22) (f := 19) (i := 0) (X8_isPot_ok rfl) ok_X8_isPot ml_X8_182 (by decide) rfl (by decide) (by decide) (by decide) rfl rfl (Nat.le_of_ble_eq_true rfl) dX8_use_2 ?_
  refine G_if_eq (tgt := 20) dX8_use_5 (by decide) (fun hc1 => ?_) (fun hc1 => ?_)
  · replace h := (if_pos hc1).symm.trans h
    refine G_aload_n dX8_use_20 rfl ?_
    refine G_iconst (v := 1) dX8_use_21 (by decide) ?_
    obtain ⟨q1, hq1, h⟩ := bnd h
    refine G_callVv (T := TX8) (N := 22) (f := 19) (i := 0) (X8_finds_ok hq1) ok_X8_finds ml_X8_130 (by decide) rfl (by decide) (by decide) (by decide) rfl rfl (Nat.le_of_ble_eq_true rfl) dX8_use_22 ?_
    obtain rfl := Option.some.inj h
    exact G_ret dX8_use_25 trivial rfl rfl
  · replace h := (if_neg hc1).symm.trans h
    refine G_iload_n dX8_use_8 rfl ?_
    refine G_i2l dX8_use_9 ?_
    refine G_lconst (v := 0) dX8_use_10 (by decide) ?_
    refine G_ldc2 ko_X8_196 dX8_use_11 ?_
    refine G_callSv  (X8_in_ok rfl) ok_X8_in ml_X8_47 (by decide) rfl rfl (Nat.le_of_ble_eq_true rfl) dX8_use_14 ?_
    refine G_if_ne (tgt := 26) dX8_use_17 (by decide) (fun hc2 => ?_) (fun hc2 => ?_)
    · replace h := (if_neg hc2).symm.trans h
      refine G_aload_n dX8_use_26 rfl ?_
      obtain ⟨q2, hq2, h⟩ := bnd h
      refine G_callVn (T := TX8) (N := 22) (f := 19) (i := 0) (X8_keepAside_ok hq2) ok_X8_keepAside ml_X8_210 (by decide) rfl (by decide) (by decide) (by decide) rfl rfl (Nat.le_of_ble_eq_true rfl) dX8_use_27 ?_
      refine G_iconst (v := 0) dX8_use_30 (by decide) ?_
      refine G_istore_n (L2 := [(3, .inl 0), (0, .inr (.inr (19, 0))), (1, .inl v1), (2, .inl v2)]) dX8_use_31 (by decide) rfl ?_
      refine G_sub [(0, .inr (.inr (19, 0))), (1, .inl v1), (2, .inl v2), (3, .inl 0)] [1, 2, 3, 0] rfl ?_
      obtain ⟨q8, hq8, h⟩ := bnd h
      refine X8_use_L32_ok  400 v1 v2 0 q2 _  hq8 (fun q8n q8e => ?_) (fun q8n q8e => ?_)
      · subst q8e
        refine G_aload_n dX8_use_83 rfl ?_
        refine G_iconst (v := 2) dX8_use_84 (by decide) ?_
        obtain ⟨q9, hq9, h⟩ := bnd h
        refine G_callVv (T := TX8) (N := 22) (f := 19) (i := 0) (X8_finds_ok hq9) ok_X8_finds ml_X8_130 (by decide) rfl (by decide) (by decide) (by decide) rfl rfl (Nat.le_of_ble_eq_true rfl) dX8_use_85 ?_
        obtain rfl := Option.some.inj h
        exact G_ret dX8_use_88 trivial rfl rfl
      · subst q8e
        obtain rfl := Option.some.inj h
        exact ⟨rfl, rfl⟩
    · replace h := (if_pos hc2).symm.trans h
      refine G_aload_n dX8_use_20 rfl ?_
      refine G_iconst (v := 1) dX8_use_21 (by decide) ?_
      obtain ⟨q10, hq10, h⟩ := bnd h
      refine G_callVv (T := TX8) (N := 22) (f := 19) (i := 0) (X8_finds_ok hq10) ok_X8_finds ml_X8_130 (by decide) rfl (by decide) (by decide) (by decide) rfl rfl (Nat.le_of_ble_eq_true rfl) dX8_use_22 ?_
      obtain rfl := Option.some.inj h
      exact G_ret dX8_use_25 trivial rfl rfl

theorem dX8_bits_0 : decode cX8_bits 0 = .ok (.iconst 0, 1) := by decide +kernel
theorem dX8_bits_1 : decode cX8_bits 1 = .ok (.istore_n 1, 1) := by decide +kernel
theorem dX8_bits_2 : decode cX8_bits 2 = .ok (.iconst 0, 1) := by decide +kernel
theorem dX8_bits_3 : decode cX8_bits 3 = .ok (.istore_n 2, 1) := by decide +kernel
theorem dX8_bits_4 : decode cX8_bits 4 = .ok (.iload_n 2, 1) := by decide +kernel
theorem dX8_bits_5 : decode cX8_bits 5 = .ok (.bipush 10, 2) := by decide +kernel
theorem dX8_bits_7 : decode cX8_bits 7 = .ok (.if_icmp .ge 17, 3) := by decide +kernel
theorem dX8_bits_10 : decode cX8_bits 10 = .ok (.iload_n 1, 1) := by decide +kernel
theorem dX8_bits_11 : decode cX8_bits 11 = .ok (.iload_n 0, 1) := by decide +kernel
theorem dX8_bits_12 : decode cX8_bits 12 = .ok (.iload_n 2, 1) := by decide +kernel
theorem dX8_bits_13 : decode cX8_bits 13 = .ok (.ishr, 1) := by decide +kernel
theorem dX8_bits_14 : decode cX8_bits 14 = .ok (.iconst 1, 1) := by decide +kernel
theorem dX8_bits_15 : decode cX8_bits 15 = .ok (.iand, 1) := by decide +kernel
theorem dX8_bits_16 : decode cX8_bits 16 = .ok (.iadd, 1) := by decide +kernel
theorem dX8_bits_17 : decode cX8_bits 17 = .ok (.istore_n 1, 1) := by decide +kernel
theorem dX8_bits_18 : decode cX8_bits 18 = .ok (.iinc 2 1, 3) := by decide +kernel
theorem dX8_bits_21 : decode cX8_bits 21 = .ok (.goto (-17), 3) := by decide +kernel
theorem dX8_bits_24 : decode cX8_bits 24 = .ok (.iload_n 1, 1) := by decide +kernel
theorem dX8_bits_25 : decode cX8_bits 25 = .ok (.ireturn, 1) := by decide +kernel
def X8_bits_L4 : Nat → Int32 → Int32 → Int32 → Option (Int32)
  | 0, _, _, _ => none
  | fu + 1, v0, v1, v2 => (if v2 < 10 then (X8_bits_L4 fu v0 (v1 + ((v0 >>> (v2 &&& 31)) &&& 1)) (v2 + 1)) else (some v1))
set_option maxRecDepth 100000 in
set_option maxHeartbeats 4000000 in
theorem X8_bits_L4_ok  {r : Option AV} {M' : MM} : ∀ (fu : Nat) (v0 : Int32) (v1 : Int32) (v2 : Int32) (MM0 : MM) {res : Int32} (h : X8_bits_L4 fu v0 v1 v2 = some res) (K : G mt_X8_bits 0 r M' 24 [(1, .inl res)] [] MM0), G mt_X8_bits 0 r M' 4 [(0, .inl v0), (1, .inl v1), (2, .inl v2)] [] MM0 := by
  intro fu
  induction fu with
  | zero =>
    intro v0 v1 v2 MM0 res h
    cases h
  | succ fu ih =>
    intro v0 v1 v2 MM0 res h K
    replace h : (if v2 < 10 then (X8_bits_L4 fu v0 (v1 + ((v0 >>> (v2 &&& 31)) &&& 1)) (v2 + 1)) else (some v1)) = some res := h
    refine G_iload_n dX8_bits_4 rfl ?_
    refine G_bipush (v := 10) dX8_bits_5 (by decide) ?_
    refine G_icmp_ge (tgt := 24) dX8_bits_7 (by decide) (fun hc1 => ?_) (fun hc1 => ?_)
    · replace h := (if_neg hc1).symm.trans h
      refine G_sub [(1, .inl v1)] [1] rfl ?_
      obtain rfl := Option.some.inj h
      exact K
    · replace h := (if_pos hc1).symm.trans h
      refine G_iload_n dX8_bits_10 rfl ?_
      refine G_iload_n dX8_bits_11 rfl ?_
      refine G_iload_n dX8_bits_12 rfl ?_
      refine G_ishr dX8_bits_13 ?_
      refine G_iconst (v := 1) dX8_bits_14 (by decide) ?_
      refine G_iand dX8_bits_15 ?_
      refine G_iadd dX8_bits_16 ?_
      refine G_istore_n (L2 := [(1, .inl (v1 + ((v0 >>> (v2 &&& 31)) &&& 1))), (0, .inl v0), (2, .inl v2)]) dX8_bits_17 (by decide) rfl ?_
      refine G_iinc (v := (v2 + 1)) (L2 := [(2, .inl (v2 + 1)), (1, .inl (v1 + ((v0 >>> (v2 &&& 31)) &&& 1))), (0, .inl v0)]) dX8_bits_18 rfl (by first | rfl | (show _ + Int32.ofInt _ = _; rfl)) (by decide) rfl ?_
      refine G_goto (tgt := 4) dX8_bits_21 (by decide) ?_
      refine G_sub [(0, .inl v0), (1, .inl (v1 + ((v0 >>> (v2 &&& 31)) &&& 1))), (2, .inl (v2 + 1))] [2, 1, 0] rfl ?_
      exact ih v0 (v1 + ((v0 >>> (v2 &&& 31)) &&& 1)) (v2 + 1) _  h K

def X8_bits (v0 : Int32) : Option (Int32) := ((X8_bits_L4 400 v0 0 0).bind fun q1 => (some q1))
set_option maxRecDepth 100000 in
set_option maxHeartbeats 4000000 in
theorem X8_bits_ok  {v0 : Int32} {MM0 : MM} {res : Int32} (h : X8_bits v0 = some res) : Spec mt_X8_bits 0 [.inl v0] MM0 (some (.inl res)) MM0 := by
  unfold X8_bits at h
  refine Spec_of_G (by decide) rfl (Nat.le_of_ble_eq_true rfl) ?_
  refine G_sub [(0, .inl v0)] [0] rfl ?_
  refine G_iconst (v := 0) dX8_bits_0 (by decide) ?_
  refine G_istore_n (L2 := [(1, .inl 0), (0, .inl v0)]) dX8_bits_1 (by decide) rfl ?_
  refine G_iconst (v := 0) dX8_bits_2 (by decide) ?_
  refine G_istore_n (L2 := [(2, .inl 0), (1, .inl 0), (0, .inl v0)]) dX8_bits_3 (by decide) rfl ?_
  refine G_sub [(0, .inl v0), (1, .inl 0), (2, .inl 0)] [2, 1, 0] rfl ?_
  obtain ⟨q1, hq1, h⟩ := bnd h
  refine X8_bits_L4_ok  400 v0 0 0 _  hq1 ?_
  refine G_iload_n dX8_bits_24 rfl ?_
  obtain rfl := Option.some.inj h
  exact G_ret dX8_bits_25 trivial rfl rfl

theorem dX8_needed_0 : decode cX8_needed 0 = .ok (.iload_n 1, 1) := by decide +kernel
theorem dX8_needed_1 : decode cX8_needed 1 = .ok (.i2l, 1) := by decide +kernel
theorem dX8_needed_2 : decode cX8_needed 2 = .ok (.lconst 0, 1) := by decide +kernel
theorem dX8_needed_3 : decode cX8_needed 3 = .ok (.iconst 1, 1) := by decide +kernel
theorem dX8_needed_4 : decode cX8_needed 4 = .ok (.aload_n 0, 1) := by decide +kernel
theorem dX8_needed_5 : decode cX8_needed 5 = .ok (.getfield 7, 3) := by decide +kernel
theorem dX8_needed_8 : decode cX8_needed 8 = .ok (.iconst 0, 1) := by decide +kernel
theorem dX8_needed_9 : decode cX8_needed 9 = .ok (.iaload, 1) := by decide +kernel
theorem dX8_needed_10 : decode cX8_needed 10 = .ok (.ishl, 1) := by decide +kernel
theorem dX8_needed_11 : decode cX8_needed 11 = .ok (.iconst 1, 1) := by decide +kernel
theorem dX8_needed_12 : decode cX8_needed 12 = .ok (.isub, 1) := by decide +kernel
theorem dX8_needed_13 : decode cX8_needed 13 = .ok (.i2l, 1) := by decide +kernel
theorem dX8_needed_14 : decode cX8_needed 14 = .ok (.invokestatic 47, 3) := by decide +kernel
theorem dX8_needed_17 : decode cX8_needed 17 = .ok (.ifCond .eq 15, 3) := by decide +kernel
theorem dX8_needed_20 : decode cX8_needed 20 = .ok (.iload_n 2, 1) := by decide +kernel
theorem dX8_needed_21 : decode cX8_needed 21 = .ok (.i2l, 1) := by decide +kernel
theorem dX8_needed_22 : decode cX8_needed 22 = .ok (.lconst 0, 1) := by decide +kernel
theorem dX8_needed_23 : decode cX8_needed 23 = .ok (.ldc2_w 216, 3) := by decide +kernel
theorem dX8_needed_26 : decode cX8_needed 26 = .ok (.invokestatic 47, 3) := by decide +kernel
theorem dX8_needed_29 : decode cX8_needed 29 = .ok (.ifCond .ne 9, 3) := by decide +kernel
theorem dX8_needed_32 : decode cX8_needed 32 = .ok (.aload_n 0, 1) := by decide +kernel
theorem dX8_needed_33 : decode cX8_needed 33 = .ok (.iconst 1, 1) := by decide +kernel
theorem dX8_needed_34 : decode cX8_needed 34 = .ok (.invokevirtual 130, 3) := by decide +kernel
theorem dX8_needed_37 : decode cX8_needed 37 = .ok (.ireturn, 1) := by decide +kernel
theorem dX8_needed_38 : decode cX8_needed 38 = .ok (.aload_n 0, 1) := by decide +kernel
theorem dX8_needed_39 : decode cX8_needed 39 = .ok (.invokevirtual 210, 3) := by decide +kernel
theorem dX8_needed_42 : decode cX8_needed 42 = .ok (.iconst (-1), 1) := by decide +kernel
theorem dX8_needed_43 : decode cX8_needed 43 = .ok (.istore_n 3, 1) := by decide +kernel
theorem dX8_needed_44 : decode cX8_needed 44 = .ok (.iconst 0, 1) := by decide +kernel
theorem dX8_needed_45 : decode cX8_needed 45 = .ok (.istore 4, 2) := by decide +kernel
theorem dX8_needed_47 : decode cX8_needed 47 = .ok (.iload 4, 2) := by decide +kernel
theorem dX8_needed_49 : decode cX8_needed 49 = .ok (.bipush 32, 2) := by decide +kernel
theorem dX8_needed_51 : decode cX8_needed 51 = .ok (.if_icmp .ge 116, 3) := by decide +kernel
theorem dX8_needed_54 : decode cX8_needed 54 = .ok (.iload_n 3, 1) := by decide +kernel
theorem dX8_needed_55 : decode cX8_needed 55 = .ok (.ifCond .lt 18, 3) := by decide +kernel
theorem dX8_needed_58 : decode cX8_needed 58 = .ok (.iload 4, 2) := by decide +kernel
theorem dX8_needed_60 : decode cX8_needed 60 = .ok (.invokestatic 218, 3) := by decide +kernel
theorem dX8_needed_63 : decode cX8_needed 63 = .ok (.iload_n 3, 1) := by decide +kernel
theorem dX8_needed_64 : decode cX8_needed 64 = .ok (.invokestatic 218, 3) := by decide +kernel
theorem dX8_needed_67 : decode cX8_needed 67 = .ok (.if_icmp .lt 6, 3) := by decide +kernel
theorem dX8_needed_70 : decode cX8_needed 70 = .ok (.goto 91, 3) := by decide +kernel
theorem dX8_needed_73 : decode cX8_needed 73 = .ok (.iconst 0, 1) := by decide +kernel
theorem dX8_needed_74 : decode cX8_needed 74 = .ok (.istore 5, 2) := by decide +kernel
theorem dX8_needed_76 : decode cX8_needed 76 = .ok (.iload 5, 2) := by decide +kernel
theorem dX8_needed_78 : decode cX8_needed 78 = .ok (.iconst 5, 1) := by decide +kernel
theorem dX8_needed_79 : decode cX8_needed 79 = .ok (.if_icmp .ge 53, 3) := by decide +kernel
theorem dX8_needed_82 : decode cX8_needed 82 = .ok (.aload_n 0, 1) := by decide +kernel
theorem dX8_needed_83 : decode cX8_needed 83 = .ok (.getfield 7, 3) := by decide +kernel
theorem dX8_needed_86 : decode cX8_needed 86 = .ok (.bipush 6, 2) := by decide +kernel
theorem dX8_needed_88 : decode cX8_needed 88 = .ok (.iconst 2, 1) := by decide +kernel
theorem dX8_needed_89 : decode cX8_needed 89 = .ok (.iload 5, 2) := by decide +kernel
theorem dX8_needed_91 : decode cX8_needed 91 = .ok (.imul, 1) := by decide +kernel
theorem dX8_needed_92 : decode cX8_needed 92 = .ok (.iadd, 1) := by decide +kernel
theorem dX8_needed_93 : decode cX8_needed 93 = .ok (.iconst 1, 1) := by decide +kernel
theorem dX8_needed_94 : decode cX8_needed 94 = .ok (.iadd, 1) := by decide +kernel
theorem dX8_needed_95 : decode cX8_needed 95 = .ok (.iload 4, 2) := by decide +kernel
theorem dX8_needed_97 : decode cX8_needed 97 = .ok (.iload 5, 2) := by decide +kernel
theorem dX8_needed_99 : decode cX8_needed 99 = .ok (.ishr, 1) := by decide +kernel
theorem dX8_needed_100 : decode cX8_needed 100 = .ok (.iconst 1, 1) := by decide +kernel
theorem dX8_needed_101 : decode cX8_needed 101 = .ok (.iand, 1) := by decide +kernel
theorem dX8_needed_102 : decode cX8_needed 102 = .ok (.iconst 1, 1) := by decide +kernel
theorem dX8_needed_103 : decode cX8_needed 103 = .ok (.if_icmp .ne 8, 3) := by decide +kernel
theorem dX8_needed_106 : decode cX8_needed 106 = .ok (.bipush 9, 2) := by decide +kernel
theorem dX8_needed_108 : decode cX8_needed 108 = .ok (.goto 17, 3) := by decide +kernel
theorem dX8_needed_111 : decode cX8_needed 111 = .ok (.aload_n 0, 1) := by decide +kernel
theorem dX8_needed_112 : decode cX8_needed 112 = .ok (.getfield 7, 3) := by decide +kernel
theorem dX8_needed_115 : decode cX8_needed 115 = .ok (.bipush 6, 2) := by decide +kernel
theorem dX8_needed_117 : decode cX8_needed 117 = .ok (.iconst 2, 1) := by decide +kernel
theorem dX8_needed_118 : decode cX8_needed 118 = .ok (.iload 5, 2) := by decide +kernel
theorem dX8_needed_120 : decode cX8_needed 120 = .ok (.imul, 1) := by decide +kernel
theorem dX8_needed_121 : decode cX8_needed 121 = .ok (.iadd, 1) := by decide +kernel
theorem dX8_needed_122 : decode cX8_needed 122 = .ok (.iconst 1, 1) := by decide +kernel
theorem dX8_needed_123 : decode cX8_needed 123 = .ok (.iadd, 1) := by decide +kernel
theorem dX8_needed_124 : decode cX8_needed 124 = .ok (.iaload, 1) := by decide +kernel
theorem dX8_needed_125 : decode cX8_needed 125 = .ok (.iastore, 1) := by decide +kernel
theorem dX8_needed_126 : decode cX8_needed 126 = .ok (.iinc 5 1, 3) := by decide +kernel
theorem dX8_needed_129 : decode cX8_needed 129 = .ok (.goto (-53), 3) := by decide +kernel
theorem dX8_needed_132 : decode cX8_needed 132 = .ok (.aload_n 0, 1) := by decide +kernel
theorem dX8_needed_133 : decode cX8_needed 133 = .ok (.iload_n 2, 1) := by decide +kernel
theorem dX8_needed_134 : decode cX8_needed 134 = .ok (.invokevirtual 198, 3) := by decide +kernel
theorem dX8_needed_137 : decode cX8_needed 137 = .ok (.iload_n 1, 1) := by decide +kernel
theorem dX8_needed_138 : decode cX8_needed 138 = .ok (.aload_n 0, 1) := by decide +kernel
theorem dX8_needed_139 : decode cX8_needed 139 = .ok (.bipush 7, 2) := by decide +kernel
theorem dX8_needed_141 : decode cX8_needed 141 = .ok (.invokevirtual 177, 3) := by decide +kernel
theorem dX8_needed_144 : decode cX8_needed 144 = .ok (.iconst (-1), 1) := by decide +kernel
theorem dX8_needed_145 : decode cX8_needed 145 = .ok (.ixor, 1) := by decide +kernel
theorem dX8_needed_146 : decode cX8_needed 146 = .ok (.iand, 1) := by decide +kernel
theorem dX8_needed_147 : decode cX8_needed 147 = .ok (.ifCond .ne 8, 3) := by decide +kernel
theorem dX8_needed_150 : decode cX8_needed 150 = .ok (.iload 4, 2) := by decide +kernel
theorem dX8_needed_152 : decode cX8_needed 152 = .ok (.goto 4, 3) := by decide +kernel
theorem dX8_needed_155 : decode cX8_needed 155 = .ok (.iload_n 3, 1) := by decide +kernel
theorem dX8_needed_156 : decode cX8_needed 156 = .ok (.istore_n 3, 1) := by decide +kernel
theorem dX8_needed_157 : decode cX8_needed 157 = .ok (.aload_n 0, 1) := by decide +kernel
theorem dX8_needed_158 : decode cX8_needed 158 = .ok (.invokevirtual 213, 3) := by decide +kernel
theorem dX8_needed_161 : decode cX8_needed 161 = .ok (.iinc 4 1, 3) := by decide +kernel
theorem dX8_needed_164 : decode cX8_needed 164 = .ok (.goto (-117), 3) := by decide +kernel
theorem dX8_needed_167 : decode cX8_needed 167 = .ok (.iload_n 3, 1) := by decide +kernel
theorem dX8_needed_168 : decode cX8_needed 168 = .ok (.ifCond .ge 11, 3) := by decide +kernel
theorem dX8_needed_171 : decode cX8_needed 171 = .ok (.aload_n 0, 1) := by decide +kernel
theorem dX8_needed_172 : decode cX8_needed 172 = .ok (.iconst 2, 1) := by decide +kernel
theorem dX8_needed_173 : decode cX8_needed 173 = .ok (.invokevirtual 130, 3) := by decide +kernel
theorem dX8_needed_176 : decode cX8_needed 176 = .ok (.goto 4, 3) := by decide +kernel
theorem dX8_needed_179 : decode cX8_needed 179 = .ok (.iload_n 3, 1) := by decide +kernel
theorem dX8_needed_180 : decode cX8_needed 180 = .ok (.ireturn, 1) := by decide +kernel
def X8_needed_L76 : Nat → Int32 → Int32 → Int32 → Int32 → Int32 → Mem → Option (Mem)
  | 0, _, _, _, _, _, _ => none
  | fu + 1, v1, v2, v3, v4, v5, M => (if v5 < 5 then (if ((v4 >>> (v5 &&& 31)) &&& 1) = 1 then (if ib ((6 + (2 * v5)) + 1) 268 = true then (X8_needed_L76 fu v1 v2 v3 v4 (v5 + 1) (up3 M 20 0 (((6 + (2 * v5)) + 1).toNatClampNeg) 9)) else none) else (if ib ((6 + (2 * v5)) + 1) 268 = true then (X8_needed_L76 fu v1 v2 v3 v4 (v5 + 1) (up3 M 20 0 (((6 + (2 * v5)) + 1).toNatClampNeg) (M 20 0 (((6 + (2 * v5)) + 1).toNatClampNeg)))) else none)) else (some M))
set_option maxRecDepth 100000 in
set_option maxHeartbeats 4000000 in
theorem X8_needed_L76_ok  {r : Option AV} {M' : MM} : ∀ (fu : Nat) (v1 : Int32) (v2 : Int32) (v3 : Int32) (v4 : Int32) (v5 : Int32) (M N : Mem) {res : Mem} (h : X8_needed_L76 fu v1 v2 v3 v4 v5 M = some res) (K : G mt_X8_needed 6 r M' 132 [(0, .inr (.inr (19, 0))), (1, .inl v1), (2, .inl v2), (3, .inl v3), (4, .inl v4)] [] (N, res)), G mt_X8_needed 6 r M' 76 [(0, .inr (.inr (19, 0))), (1, .inl v1), (2, .inl v2), (3, .inl v3), (4, .inl v4), (5, .inl v5)] [] (N, M) := by
  intro fu
  induction fu with
  | zero =>
    intro v1 v2 v3 v4 v5 M N res h
    cases h
  | succ fu ih =>
    intro v1 v2 v3 v4 v5 M N res h K
    replace h : (if v5 < 5 then (if ((v4 >>> (v5 &&& 31)) &&& 1) = 1 then (if ib ((6 + (2 * v5)) + 1) 268 = true then (X8_needed_L76 fu v1 v2 v3 v4 (v5 + 1) (up3 M 20 0 (((6 + (2 * v5)) + 1).toNatClampNeg) 9)) else none) else (if ib ((6 + (2 * v5)) + 1) 268 = true then (X8_needed_L76 fu v1 v2 v3 v4 (v5 + 1) (up3 M 20 0 (((6 + (2 * v5)) + 1).toNatClampNeg) (M 20 0 (((6 + (2 * v5)) + 1).toNatClampNeg)))) else none)) else (some M)) = some res := h
    refine G_iload dX8_needed_76 rfl ?_
    refine G_iconst (v := 5) dX8_needed_78 (by decide) ?_
    refine G_icmp_ge (tgt := 132) dX8_needed_79 (by decide) (fun hc5 => ?_) (fun hc5 => ?_)
    · replace h := (if_neg hc5).symm.trans h
      refine G_sub [(0, .inr (.inr (19, 0))), (1, .inl v1), (2, .inl v2), (3, .inl v3), (4, .inl v4)] [0, 1, 2, 3, 4] rfl ?_
      obtain rfl := Option.some.inj h
      exact K
    · replace h := (if_pos hc5).symm.trans h
      refine G_aload_n dX8_needed_82 rfl ?_
      refine fg_X8_7 rfl (by decide) dX8_needed_83 ?_
      refine G_bipush (v := 6) dX8_needed_86 (by decide) ?_
      refine G_iconst (v := 2) dX8_needed_88 (by decide) ?_
      refine G_iload dX8_needed_89 rfl ?_
      refine G_imul dX8_needed_91 ?_
      refine G_iadd dX8_needed_92 ?_
      refine G_iconst (v := 1) dX8_needed_93 (by decide) ?_
      refine G_iadd dX8_needed_94 ?_
      refine G_iload dX8_needed_95 rfl ?_
      refine G_iload dX8_needed_97 rfl ?_
      refine G_ishr dX8_needed_99 ?_
      refine G_iconst (v := 1) dX8_needed_100 (by decide) ?_
      refine G_iand dX8_needed_101 ?_
      refine G_iconst (v := 1) dX8_needed_102 (by decide) ?_
      refine G_icmp_ne (tgt := 111) dX8_needed_103 (by decide) (fun hc6 => ?_) (fun hc6 => ?_)
      · replace h := (if_neg hc6).symm.trans h
        refine G_aload_n dX8_needed_111 rfl ?_
        refine fg_X8_7 rfl (by decide) dX8_needed_112 ?_
        refine G_bipush (v := 6) dX8_needed_115 (by decide) ?_
        refine G_iconst (v := 2) dX8_needed_117 (by decide) ?_
        refine G_iload dX8_needed_118 rfl ?_
        refine G_imul dX8_needed_120 ?_
        refine G_iadd dX8_needed_121 ?_
        refine G_iconst (v := 1) dX8_needed_122 (by decide) ?_
        refine G_iadd dX8_needed_123 ?_
        obtain ⟨hb3, h⟩ := chk h
        have lhb3 := ib_lt hb3
        refine al_20 (kk := ((6 + (2 * v5)) + 1).toNatClampNeg) (v := (M 20 0 (((6 + (2 * v5)) + 1).toNatClampNeg))) (by decide) hb3 rfl rfl dX8_needed_124 ?_
        refine as_20 (kk := ((6 + (2 * v5)) + 1).toNatClampNeg) (by decide) hb3 rfl dX8_needed_125 ?_
        refine G_iinc (v := (v5 + 1)) (L2 := [(5, .inl (v5 + 1)), (0, .inr (.inr (19, 0))), (1, .inl v1), (2, .inl v2), (3, .inl v3), (4, .inl v4)]) dX8_needed_126 rfl (by first | rfl | (show _ + Int32.ofInt _ = _; rfl)) (by decide) rfl ?_
        refine G_goto (tgt := 76) dX8_needed_129 (by decide) ?_
        refine G_sub [(0, .inr (.inr (19, 0))), (1, .inl v1), (2, .inl v2), (3, .inl v3), (4, .inl v4), (5, .inl (v5 + 1))] [1, 2, 3, 4, 5, 0] rfl ?_
        exact ih v1 v2 v3 v4 (v5 + 1) (up3 M 20 0 (((6 + (2 * v5)) + 1).toNatClampNeg) (M 20 0 (((6 + (2 * v5)) + 1).toNatClampNeg))) _  h K
      · replace h := (if_pos hc6).symm.trans h
        refine G_bipush (v := 9) dX8_needed_106 (by decide) ?_
        refine G_goto (tgt := 125) dX8_needed_108 (by decide) ?_
        obtain ⟨hb4, h⟩ := chk h
        have lhb4 := ib_lt hb4
        refine as_20 (kk := ((6 + (2 * v5)) + 1).toNatClampNeg) (by decide) hb4 rfl dX8_needed_125 ?_
        refine G_iinc (v := (v5 + 1)) (L2 := [(5, .inl (v5 + 1)), (0, .inr (.inr (19, 0))), (1, .inl v1), (2, .inl v2), (3, .inl v3), (4, .inl v4)]) dX8_needed_126 rfl (by first | rfl | (show _ + Int32.ofInt _ = _; rfl)) (by decide) rfl ?_
        refine G_goto (tgt := 76) dX8_needed_129 (by decide) ?_
        refine G_sub [(0, .inr (.inr (19, 0))), (1, .inl v1), (2, .inl v2), (3, .inl v3), (4, .inl v4), (5, .inl (v5 + 1))] [1, 2, 3, 4, 5, 0] rfl ?_
        exact ih v1 v2 v3 v4 (v5 + 1) (up3 M 20 0 (((6 + (2 * v5)) + 1).toNatClampNeg) 9) _  h K

def X8_needed_L47 : Nat → Int32 → Int32 → Int32 → Int32 → Mem → Option (Int32 × Mem)
  | 0, _, _, _, _, _ => none
  | fu + 1, v1, v2, v3, v4, M => (if v4 < 32 then (if v3 < 0 then ((X8_needed_L76 400 v1 v2 v3 v4 0 M).bind fun q5 => ((X8_yearsGo v2 q5).bind fun q6 => ((X8_setOf 7 q6).bind fun q7 => (if (v1 &&& (q7 ^^^ (-1))) = 0 then ((X8_putBack q6).bind fun q9 => (X8_needed_L47 fu v1 v2 v4 (v4 + 1) q9)) else ((X8_putBack q6).bind fun q8 => (X8_needed_L47 fu v1 v2 v3 (v4 + 1) q8)))))) else ((X8_bits v4).bind fun q10 => ((X8_bits v3).bind fun q11 => (if q10 < q11 then ((X8_needed_L76 400 v1 v2 v3 v4 0 M).bind fun q12 => ((X8_yearsGo v2 q12).bind fun q13 => ((X8_setOf 7 q13).bind fun q14 => (if (v1 &&& (q14 ^^^ (-1))) = 0 then ((X8_putBack q13).bind fun q16 => (X8_needed_L47 fu v1 v2 v4 (v4 + 1) q16)) else ((X8_putBack q13).bind fun q15 => (X8_needed_L47 fu v1 v2 v3 (v4 + 1) q15)))))) else (X8_needed_L47 fu v1 v2 v3 (v4 + 1) M))))) else (some (v3, M)))
set_option maxRecDepth 100000 in
set_option maxHeartbeats 4000000 in
theorem X8_needed_L47_ok  {r : Option AV} {M' : MM} : ∀ (fu : Nat) (v1 : Int32) (v2 : Int32) (v3 : Int32) (v4 : Int32) (M N : Mem) {res : Int32 × Mem} (h : X8_needed_L47 fu v1 v2 v3 v4 M = some res) (K : G mt_X8_needed 6 r M' 167 [(0, .inr (.inr (19, 0))), (3, .inl res.1)] [] (N, res.2)), G mt_X8_needed 6 r M' 47 [(0, .inr (.inr (19, 0))), (1, .inl v1), (2, .inl v2), (3, .inl v3), (4, .inl v4)] [] (N, M) := by
  intro fu
  induction fu with
  | zero =>
    intro v1 v2 v3 v4 M N res h
    cases h
  | succ fu ih =>
    intro v1 v2 v3 v4 M N res h K
    replace h : (if v4 < 32 then (if v3 < 0 then ((X8_needed_L76 400 v1 v2 v3 v4 0 M).bind fun q5 => ((X8_yearsGo v2 q5).bind fun q6 => ((X8_setOf 7 q6).bind fun q7 => (if (v1 &&& (q7 ^^^ (-1))) = 0 then ((X8_putBack q6).bind fun q9 => (X8_needed_L47 fu v1 v2 v4 (v4 + 1) q9)) else ((X8_putBack q6).bind fun q8 => (X8_needed_L47 fu v1 v2 v3 (v4 + 1) q8)))))) else ((X8_bits v4).bind fun q10 => ((X8_bits v3).bind fun q11 => (if q10 < q11 then ((X8_needed_L76 400 v1 v2 v3 v4 0 M).bind fun q12 => ((X8_yearsGo v2 q12).bind fun q13 => ((X8_setOf 7 q13).bind fun q14 => (if (v1 &&& (q14 ^^^ (-1))) = 0 then ((X8_putBack q13).bind fun q16 => (X8_needed_L47 fu v1 v2 v4 (v4 + 1) q16)) else ((X8_putBack q13).bind fun q15 => (X8_needed_L47 fu v1 v2 v3 (v4 + 1) q15)))))) else (X8_needed_L47 fu v1 v2 v3 (v4 + 1) M))))) else (some (v3, M))) = some res := h
    refine G_iload dX8_needed_47 rfl ?_
    refine G_bipush (v := 32) dX8_needed_49 (by decide) ?_
    refine G_icmp_ge (tgt := 167) dX8_needed_51 (by decide) (fun hc3 => ?_) (fun hc3 => ?_)
    · replace h := (if_neg hc3).symm.trans h
      refine G_sub [(0, .inr (.inr (19, 0))), (3, .inl v3)] [0, 3] rfl ?_
      obtain rfl := Option.some.inj h
      exact K
    · replace h := (if_pos hc3).symm.trans h
      refine G_iload_n dX8_needed_54 rfl ?_
      refine G_if_lt (tgt := 73) dX8_needed_55 (by decide) (fun hc4 => ?_) (fun hc4 => ?_)
      · replace h := (if_pos hc4).symm.trans h
        refine G_iconst (v := 0) dX8_needed_73 (by decide) ?_
        refine G_istore (L2 := [(5, .inl 0), (0, .inr (.inr (19, 0))), (1, .inl v1), (2, .inl v2), (3, .inl v3), (4, .inl v4)]) dX8_needed_74 (by decide) rfl ?_
        refine G_sub [(0, .inr (.inr (19, 0))), (1, .inl v1), (2, .inl v2), (3, .inl v3), (4, .inl v4), (5, .inl 0)] [1, 2, 3, 4, 5, 0] rfl ?_
        obtain ⟨q5, hq5, h⟩ := bnd h
        refine X8_needed_L76_ok  400 v1 v2 v3 v4 0 M _  hq5 ?_
        refine G_aload_n dX8_needed_132 rfl ?_
        refine G_iload_n dX8_needed_133 rfl ?_
        obtain ⟨q6, hq6, h⟩ := bnd h
        refine G_callVn (T := TX8) (N := 22) (f := 19) (i := 0) (X8_yearsGo_ok hq6) ok_X8_yearsGo ml_X8_198 (by decide) rfl (by decide) (by decide) (by decide) rfl rfl (Nat.le_of_ble_eq_true rfl) dX8_needed_134 ?_
        refine G_iload_n dX8_needed_137 rfl ?_
        refine G_aload_n dX8_needed_138 rfl ?_
        refine G_bipush (v := 7) dX8_needed_139 (by decide) ?_
        obtain ⟨q7, hq7, h⟩ := bnd h
        refine G_callVv (T := TX8) (N := 22) (f := 19) (i := 0) (X8_setOf_ok hq7) ok_X8_setOf ml_X8_177 (by decide) rfl (by decide) (by decide) (by decide) rfl rfl (Nat.le_of_ble_eq_true rfl) dX8_needed_141 ?_
        refine G_iconst (v := (-1)) dX8_needed_144 (by decide) ?_
        refine G_ixor dX8_needed_145 ?_
        refine G_iand dX8_needed_146 ?_
        refine G_if_ne (tgt := 155) dX8_needed_147 (by decide) (fun hc7 => ?_) (fun hc7 => ?_)
        · replace h := (if_neg hc7).symm.trans h
          refine G_iload_n dX8_needed_155 rfl ?_
          refine G_istore_n (L2 := [(3, .inl v3), (0, .inr (.inr (19, 0))), (1, .inl v1), (2, .inl v2), (4, .inl v4)]) dX8_needed_156 (by decide) rfl ?_
          refine G_aload_n dX8_needed_157 rfl ?_
          obtain ⟨q8, hq8, h⟩ := bnd h
          refine G_callVn (T := TX8) (N := 22) (f := 19) (i := 0) (X8_putBack_ok hq8) ok_X8_putBack ml_X8_213 (by decide) rfl (by decide) (by decide) (by decide) rfl rfl (Nat.le_of_ble_eq_true rfl) dX8_needed_158 ?_
          refine G_iinc (v := (v4 + 1)) (L2 := [(4, .inl (v4 + 1)), (3, .inl v3), (0, .inr (.inr (19, 0))), (1, .inl v1), (2, .inl v2)]) dX8_needed_161 rfl (by first | rfl | (show _ + Int32.ofInt _ = _; rfl)) (by decide) rfl ?_
          refine G_goto (tgt := 47) dX8_needed_164 (by decide) ?_
          refine G_sub [(0, .inr (.inr (19, 0))), (1, .inl v1), (2, .inl v2), (3, .inl v3), (4, .inl (v4 + 1))] [2, 3, 4, 1, 0] rfl ?_
          exact ih v1 v2 v3 (v4 + 1) q8 _  h K
        · replace h := (if_pos hc7).symm.trans h
          refine G_iload dX8_needed_150 rfl ?_
          refine G_goto (tgt := 156) dX8_needed_152 (by decide) ?_
          refine G_istore_n (L2 := [(3, .inl v4), (0, .inr (.inr (19, 0))), (1, .inl v1), (2, .inl v2), (4, .inl v4)]) dX8_needed_156 (by decide) rfl ?_
          refine G_aload_n dX8_needed_157 rfl ?_
          obtain ⟨q9, hq9, h⟩ := bnd h
          refine G_callVn (T := TX8) (N := 22) (f := 19) (i := 0) (X8_putBack_ok hq9) ok_X8_putBack ml_X8_213 (by decide) rfl (by decide) (by decide) (by decide) rfl rfl (Nat.le_of_ble_eq_true rfl) dX8_needed_158 ?_
          refine G_iinc (v := (v4 + 1)) (L2 := [(4, .inl (v4 + 1)), (3, .inl v4), (0, .inr (.inr (19, 0))), (1, .inl v1), (2, .inl v2)]) dX8_needed_161 rfl (by first | rfl | (show _ + Int32.ofInt _ = _; rfl)) (by decide) rfl ?_
          refine G_goto (tgt := 47) dX8_needed_164 (by decide) ?_
          refine G_sub [(0, .inr (.inr (19, 0))), (1, .inl v1), (2, .inl v2), (3, .inl v4), (4, .inl (v4 + 1))] [2, 3, 4, 1, 0] rfl ?_
          exact ih v1 v2 v4 (v4 + 1) q9 _  h K
      · replace h := (if_neg hc4).symm.trans h
        refine G_iload dX8_needed_58 rfl ?_
        obtain ⟨q10, hq10, h⟩ := bnd h
        refine G_callSv  (X8_bits_ok hq10) ok_X8_bits ml_X8_218 (by decide) rfl rfl (Nat.le_of_ble_eq_true rfl) dX8_needed_60 ?_
        refine G_iload_n dX8_needed_63 rfl ?_
        obtain ⟨q11, hq11, h⟩ := bnd h
        refine G_callSv  (X8_bits_ok hq11) ok_X8_bits ml_X8_218 (by decide) rfl rfl (Nat.le_of_ble_eq_true rfl) dX8_needed_64 ?_
        refine G_icmp_lt (tgt := 73) dX8_needed_67 (by decide) (fun hc8 => ?_) (fun hc8 => ?_)
        · replace h := (if_pos hc8).symm.trans h
          refine G_iconst (v := 0) dX8_needed_73 (by decide) ?_
          refine G_istore (L2 := [(5, .inl 0), (0, .inr (.inr (19, 0))), (1, .inl v1), (2, .inl v2), (3, .inl v3), (4, .inl v4)]) dX8_needed_74 (by decide) rfl ?_
          refine G_sub [(0, .inr (.inr (19, 0))), (1, .inl v1), (2, .inl v2), (3, .inl v3), (4, .inl v4), (5, .inl 0)] [1, 2, 3, 4, 5, 0] rfl ?_
          obtain ⟨q12, hq12, h⟩ := bnd h
          refine X8_needed_L76_ok  400 v1 v2 v3 v4 0 M _  hq12 ?_
          refine G_aload_n dX8_needed_132 rfl ?_
          refine G_iload_n dX8_needed_133 rfl ?_
          obtain ⟨q13, hq13, h⟩ := bnd h
          refine G_callVn (T := TX8) (N := 22) (f := 19) (i := 0) (X8_yearsGo_ok hq13) ok_X8_yearsGo ml_X8_198 (by decide) rfl (by decide) (by decide) (by decide) rfl rfl (Nat.le_of_ble_eq_true rfl) dX8_needed_134 ?_
          refine G_iload_n dX8_needed_137 rfl ?_
          refine G_aload_n dX8_needed_138 rfl ?_
          refine G_bipush (v := 7) dX8_needed_139 (by decide) ?_
          obtain ⟨q14, hq14, h⟩ := bnd h
          refine G_callVv (T := TX8) (N := 22) (f := 19) (i := 0) (X8_setOf_ok hq14) ok_X8_setOf ml_X8_177 (by decide) rfl (by decide) (by decide) (by decide) rfl rfl (Nat.le_of_ble_eq_true rfl) dX8_needed_141 ?_
          refine G_iconst (v := (-1)) dX8_needed_144 (by decide) ?_
          refine G_ixor dX8_needed_145 ?_
          refine G_iand dX8_needed_146 ?_
          refine G_if_ne (tgt := 155) dX8_needed_147 (by decide) (fun hc9 => ?_) (fun hc9 => ?_)
          · replace h := (if_neg hc9).symm.trans h
            refine G_iload_n dX8_needed_155 rfl ?_
            refine G_istore_n (L2 := [(3, .inl v3), (0, .inr (.inr (19, 0))), (1, .inl v1), (2, .inl v2), (4, .inl v4)]) dX8_needed_156 (by decide) rfl ?_
            refine G_aload_n dX8_needed_157 rfl ?_
            obtain ⟨q15, hq15, h⟩ := bnd h
            refine G_callVn (T := TX8) (N := 22) (f := 19) (i := 0) (X8_putBack_ok hq15) ok_X8_putBack ml_X8_213 (by decide) rfl (by decide) (by decide) (by decide) rfl rfl (Nat.le_of_ble_eq_true rfl) dX8_needed_158 ?_
            refine G_iinc (v := (v4 + 1)) (L2 := [(4, .inl (v4 + 1)), (3, .inl v3), (0, .inr (.inr (19, 0))), (1, .inl v1), (2, .inl v2)]) dX8_needed_161 rfl (by first | rfl | (show _ + Int32.ofInt _ = _; rfl)) (by decide) rfl ?_
            refine G_goto (tgt := 47) dX8_needed_164 (by decide) ?_
            refine G_sub [(0, .inr (.inr (19, 0))), (1, .inl v1), (2, .inl v2), (3, .inl v3), (4, .inl (v4 + 1))] [2, 3, 4, 1, 0] rfl ?_
            exact ih v1 v2 v3 (v4 + 1) q15 _  h K
          · replace h := (if_pos hc9).symm.trans h
            refine G_iload dX8_needed_150 rfl ?_
            refine G_goto (tgt := 156) dX8_needed_152 (by decide) ?_
            refine G_istore_n (L2 := [(3, .inl v4), (0, .inr (.inr (19, 0))), (1, .inl v1), (2, .inl v2), (4, .inl v4)]) dX8_needed_156 (by decide) rfl ?_
            refine G_aload_n dX8_needed_157 rfl ?_
            obtain ⟨q16, hq16, h⟩ := bnd h
            refine G_callVn (T := TX8) (N := 22) (f := 19) (i := 0) (X8_putBack_ok hq16) ok_X8_putBack ml_X8_213 (by decide) rfl (by decide) (by decide) (by decide) rfl rfl (Nat.le_of_ble_eq_true rfl) dX8_needed_158 ?_
            refine G_iinc (v := (v4 + 1)) (L2 := [(4, .inl (v4 + 1)), (3, .inl v4), (0, .inr (.inr (19, 0))), (1, .inl v1), (2, .inl v2)]) dX8_needed_161 rfl (by first | rfl | (show _ + Int32.ofInt _ = _; rfl)) (by decide) rfl ?_
            refine G_goto (tgt := 47) dX8_needed_164 (by decide) ?_
            refine G_sub [(0, .inr (.inr (19, 0))), (1, .inl v1), (2, .inl v2), (3, .inl v4), (4, .inl (v4 + 1))] [2, 3, 4, 1, 0] rfl ?_
            exact ih v1 v2 v4 (v4 + 1) q16 _  h K
        · replace h := (if_neg hc8).symm.trans h
          refine G_goto (tgt := 161) dX8_needed_70 (by decide) ?_
          refine G_iinc (v := (v4 + 1)) (L2 := [(4, .inl (v4 + 1)), (0, .inr (.inr (19, 0))), (1, .inl v1), (2, .inl v2), (3, .inl v3)]) dX8_needed_161 rfl (by first | rfl | (show _ + Int32.ofInt _ = _; rfl)) (by decide) rfl ?_
          refine G_goto (tgt := 47) dX8_needed_164 (by decide) ?_
          refine G_sub [(0, .inr (.inr (19, 0))), (1, .inl v1), (2, .inl v2), (3, .inl v3), (4, .inl (v4 + 1))] [1, 2, 3, 4, 0] rfl ?_
          exact ih v1 v2 v3 (v4 + 1) M _  h K

def X8_needed (v1 : Int32) (v2 : Int32) (M : Mem) : Option (Int32 × Mem) := (if (X8_in (v1.toInt64) (0 : Int64) (((1 <<< ((M 20 0 0) &&& 31)) - 1).toInt64)) = 0 then ((X8_finds 1 M).bind fun q1 => (some (q1.1, q1.2))) else (if (X8_in (v2.toInt64) (0 : Int64) (20 : Int64)) = 0 then ((X8_finds 1 M).bind fun q19 => (some (q19.1, q19.2))) else ((X8_keepAside M).bind fun q2 => ((X8_needed_L47 400 v1 v2 (-1) 0 q2).bind fun q17 => (if q17.1 < 0 then ((X8_finds 2 q17.2).bind fun q18 => (some (q18.1, q18.2))) else (some (q17.1, q17.2)))))))
set_option maxRecDepth 100000 in
set_option maxHeartbeats 4000000 in
theorem X8_needed_ok  {v1 : Int32} {v2 : Int32} {M N : Mem} {res : Int32 × Mem} (h : X8_needed v1 v2 M = some res) : Spec mt_X8_needed 6 [.inr (.inr (19, 0)), .inl v1, .inl v2] (N, M) (some (.inl res.1)) (N, res.2) := by
  unfold X8_needed at h
  refine Spec_of_G (by decide) rfl (Nat.le_of_ble_eq_true rfl) ?_
  refine G_sub [(0, .inr (.inr (19, 0))), (1, .inl v1), (2, .inl v2)] [0, 1, 2] rfl ?_
  refine G_iload_n dX8_needed_0 rfl ?_
  refine G_i2l dX8_needed_1 ?_
  refine G_lconst (v := 0) dX8_needed_2 (by decide) ?_
  refine G_iconst (v := 1) dX8_needed_3 (by decide) ?_
  refine G_aload_n dX8_needed_4 rfl ?_
  refine fg_X8_7 rfl (by decide) dX8_needed_5 ?_
  refine G_iconst (v := 0) dX8_needed_8 (by decide) ?_
  refine al_20 (kk := 0) (v := (M 20 0 0)) (by decide) (by decide) (by decide) rfl dX8_needed_9 ?_
  refine G_ishl dX8_needed_10 ?_
  refine G_iconst (v := 1) dX8_needed_11 (by decide) ?_
  refine G_isub dX8_needed_12 ?_
  refine G_i2l dX8_needed_13 ?_
  refine G_callSv  (X8_in_ok rfl) ok_X8_in ml_X8_47 (by decide) rfl rfl (Nat.le_of_ble_eq_true rfl) dX8_needed_14 ?_
  refine G_if_eq (tgt := 32) dX8_needed_17 (by decide) (fun hc1 => ?_) (fun hc1 => ?_)
  · replace h := (if_pos hc1).symm.trans h
    refine G_aload_n dX8_needed_32 rfl ?_
    refine G_iconst (v := 1) dX8_needed_33 (by decide) ?_
    obtain ⟨q1, hq1, h⟩ := bnd h
    refine G_callVv (T := TX8) (N := 22) (f := 19) (i := 0) (X8_finds_ok hq1) ok_X8_finds ml_X8_130 (by decide) rfl (by decide) (by decide) (by decide) rfl rfl (Nat.le_of_ble_eq_true rfl) dX8_needed_34 ?_
    obtain rfl := Option.some.inj h
    exact G_ret dX8_needed_37 trivial rfl rfl
  · replace h := (if_neg hc1).symm.trans h
    refine G_iload_n dX8_needed_20 rfl ?_
    refine G_i2l dX8_needed_21 ?_
    refine G_lconst (v := 0) dX8_needed_22 (by decide) ?_
    refine G_ldc2 ko_X8_216 dX8_needed_23 ?_
    refine G_callSv  (X8_in_ok rfl) ok_X8_in ml_X8_47 (by decide) rfl rfl (Nat.le_of_ble_eq_true rfl) dX8_needed_26 ?_
    refine G_if_ne (tgt := 38) dX8_needed_29 (by decide) (fun hc2 => ?_) (fun hc2 => ?_)
    · replace h := (if_neg hc2).symm.trans h
      refine G_aload_n dX8_needed_38 rfl ?_
      obtain ⟨q2, hq2, h⟩ := bnd h
      refine G_callVn (T := TX8) (N := 22) (f := 19) (i := 0) (X8_keepAside_ok hq2) ok_X8_keepAside ml_X8_210 (by decide) rfl (by decide) (by decide) (by decide) rfl rfl (Nat.le_of_ble_eq_true rfl) dX8_needed_39 ?_
      refine G_iconst (v := (-1)) dX8_needed_42 (by decide) ?_
      refine G_istore_n (L2 := [(3, .inl (-1)), (0, .inr (.inr (19, 0))), (1, .inl v1), (2, .inl v2)]) dX8_needed_43 (by decide) rfl ?_
      refine G_iconst (v := 0) dX8_needed_44 (by decide) ?_
      refine G_istore (L2 := [(4, .inl 0), (3, .inl (-1)), (0, .inr (.inr (19, 0))), (1, .inl v1), (2, .inl v2)]) dX8_needed_45 (by decide) rfl ?_
      refine G_sub [(0, .inr (.inr (19, 0))), (1, .inl v1), (2, .inl v2), (3, .inl (-1)), (4, .inl 0)] [2, 3, 4, 1, 0] rfl ?_
      obtain ⟨q17, hq17, h⟩ := bnd h
      refine X8_needed_L47_ok  400 v1 v2 (-1) 0 q2 _  hq17 ?_
      refine G_iload_n dX8_needed_167 rfl ?_
      refine G_if_ge (tgt := 179) dX8_needed_168 (by decide) (fun hc10 => ?_) (fun hc10 => ?_)
      · replace h := (if_neg hc10).symm.trans h
        refine G_iload_n dX8_needed_179 rfl ?_
        obtain rfl := Option.some.inj h
        exact G_ret dX8_needed_180 trivial rfl rfl
      · replace h := (if_pos hc10).symm.trans h
        refine G_aload_n dX8_needed_171 rfl ?_
        refine G_iconst (v := 2) dX8_needed_172 (by decide) ?_
        obtain ⟨q18, hq18, h⟩ := bnd h
        refine G_callVv (T := TX8) (N := 22) (f := 19) (i := 0) (X8_finds_ok hq18) ok_X8_finds ml_X8_130 (by decide) rfl (by decide) (by decide) (by decide) rfl rfl (Nat.le_of_ble_eq_true rfl) dX8_needed_173 ?_
        refine G_goto (tgt := 180) dX8_needed_176 (by decide) ?_
        obtain rfl := Option.some.inj h
        exact G_ret dX8_needed_180 trivial rfl rfl
    · replace h := (if_pos hc2).symm.trans h
      refine G_aload_n dX8_needed_32 rfl ?_
      refine G_iconst (v := 1) dX8_needed_33 (by decide) ?_
      obtain ⟨q19, hq19, h⟩ := bnd h
      refine G_callVv (T := TX8) (N := 22) (f := 19) (i := 0) (X8_finds_ok hq19) ok_X8_finds ml_X8_130 (by decide) rfl (by decide) (by decide) (by decide) rfl rfl (Nat.le_of_ble_eq_true rfl) dX8_needed_34 ?_
      obtain rfl := Option.some.inj h
      exact G_ret dX8_needed_37 trivial rfl rfl

theorem dX8_whose_0 : decode cX8_whose 0 = .ok (.iload_n 1, 1) := by decide +kernel
theorem dX8_whose_1 : decode cX8_whose 1 = .ok (.invokestatic 221, 3) := by decide +kernel
theorem dX8_whose_4 : decode cX8_whose 4 = .ok (.ifCond .eq 21, 3) := by decide +kernel
theorem dX8_whose_7 : decode cX8_whose 7 = .ok (.aload_n 0, 1) := by decide +kernel
theorem dX8_whose_8 : decode cX8_whose 8 = .ok (.iload_n 2, 1) := by decide +kernel
theorem dX8_whose_9 : decode cX8_whose 9 = .ok (.invokevirtual 182, 3) := by decide +kernel
theorem dX8_whose_12 : decode cX8_whose 12 = .ok (.ifCond .eq 13, 3) := by decide +kernel
theorem dX8_whose_15 : decode cX8_whose 15 = .ok (.iload_n 3, 1) := by decide +kernel
theorem dX8_whose_16 : decode cX8_whose 16 = .ok (.i2l, 1) := by decide +kernel
theorem dX8_whose_17 : decode cX8_whose 17 = .ok (.lconst 0, 1) := by decide +kernel
theorem dX8_whose_18 : decode cX8_whose 18 = .ok (.lconst 1, 1) := by decide +kernel
theorem dX8_whose_19 : decode cX8_whose 19 = .ok (.invokestatic 47, 3) := by decide +kernel
theorem dX8_whose_22 : decode cX8_whose 22 = .ok (.ifCond .ne 9, 3) := by decide +kernel
theorem dX8_whose_25 : decode cX8_whose 25 = .ok (.aload_n 0, 1) := by decide +kernel
theorem dX8_whose_26 : decode cX8_whose 26 = .ok (.iconst 1, 1) := by decide +kernel
theorem dX8_whose_27 : decode cX8_whose 27 = .ok (.invokevirtual 130, 3) := by decide +kernel
theorem dX8_whose_30 : decode cX8_whose 30 = .ok (.ireturn, 1) := by decide +kernel
theorem dX8_whose_31 : decode cX8_whose 31 = .ok (.aload_n 0, 1) := by decide +kernel
theorem dX8_whose_32 : decode cX8_whose 32 = .ok (.iload_n 2, 1) := by decide +kernel
theorem dX8_whose_33 : decode cX8_whose 33 = .ok (.invokevirtual 164, 3) := by decide +kernel
theorem dX8_whose_36 : decode cX8_whose 36 = .ok (.ifCond .eq 9, 3) := by decide +kernel
theorem dX8_whose_39 : decode cX8_whose 39 = .ok (.aload_n 0, 1) := by decide +kernel
theorem dX8_whose_40 : decode cX8_whose 40 = .ok (.iconst 3, 1) := by decide +kernel
theorem dX8_whose_41 : decode cX8_whose 41 = .ok (.invokevirtual 130, 3) := by decide +kernel
theorem dX8_whose_44 : decode cX8_whose 44 = .ok (.ireturn, 1) := by decide +kernel
theorem dX8_whose_45 : decode cX8_whose 45 = .ok (.aload_n 0, 1) := by decide +kernel
theorem dX8_whose_46 : decode cX8_whose 46 = .ok (.getfield 34, 3) := by decide +kernel
theorem dX8_whose_49 : decode cX8_whose 49 = .ok (.iload_n 1, 1) := by decide +kernel
theorem dX8_whose_50 : decode cX8_whose 50 = .ok (.iaload, 1) := by decide +kernel
theorem dX8_whose_51 : decode cX8_whose 51 = .ok (.ifCond .ne 9, 3) := by decide +kernel
theorem dX8_whose_54 : decode cX8_whose 54 = .ok (.aload_n 0, 1) := by decide +kernel
theorem dX8_whose_55 : decode cX8_whose 55 = .ok (.iconst 2, 1) := by decide +kernel
theorem dX8_whose_56 : decode cX8_whose 56 = .ok (.invokevirtual 130, 3) := by decide +kernel
theorem dX8_whose_59 : decode cX8_whose 59 = .ok (.ireturn, 1) := by decide +kernel
theorem dX8_whose_60 : decode cX8_whose 60 = .ok (.aload_n 0, 1) := by decide +kernel
theorem dX8_whose_61 : decode cX8_whose 61 = .ok (.invokevirtual 210, 3) := by decide +kernel
theorem dX8_whose_64 : decode cX8_whose 64 = .ok (.iconst 0, 1) := by decide +kernel
theorem dX8_whose_65 : decode cX8_whose 65 = .ok (.istore 4, 2) := by decide +kernel
theorem dX8_whose_67 : decode cX8_whose 67 = .ok (.iconst 0, 1) := by decide +kernel
theorem dX8_whose_68 : decode cX8_whose 68 = .ok (.istore 5, 2) := by decide +kernel
theorem dX8_whose_70 : decode cX8_whose 70 = .ok (.iload 5, 2) := by decide +kernel
theorem dX8_whose_72 : decode cX8_whose 72 = .ok (.iconst 5, 1) := by decide +kernel
theorem dX8_whose_73 : decode cX8_whose 73 = .ok (.if_icmp .ge 100, 3) := by decide +kernel
theorem dX8_whose_76 : decode cX8_whose 76 = .ok (.aload_n 0, 1) := by decide +kernel
theorem dX8_whose_77 : decode cX8_whose 77 = .ok (.iload_n 2, 1) := by decide +kernel
theorem dX8_whose_78 : decode cX8_whose 78 = .ok (.iconst 2, 1) := by decide +kernel
theorem dX8_whose_79 : decode cX8_whose 79 = .ok (.iload 5, 2) := by decide +kernel
theorem dX8_whose_81 : decode cX8_whose 81 = .ok (.invokevirtual 149, 3) := by decide +kernel
theorem dX8_whose_84 : decode cX8_whose 84 = .ok (.iconst 1, 1) := by decide +kernel
theorem dX8_whose_85 : decode cX8_whose 85 = .ok (.istore 6, 2) := by decide +kernel
theorem dX8_whose_87 : decode cX8_whose 87 = .ok (.iconst 0, 1) := by decide +kernel
theorem dX8_whose_88 : decode cX8_whose 88 = .ok (.istore 7, 2) := by decide +kernel
theorem dX8_whose_90 : decode cX8_whose 90 = .ok (.iload 7, 2) := by decide +kernel
theorem dX8_whose_92 : decode cX8_whose 92 = .ok (.aload_n 0, 1) := by decide +kernel
theorem dX8_whose_93 : decode cX8_whose 93 = .ok (.getfield 37, 3) := by decide +kernel
theorem dX8_whose_96 : decode cX8_whose 96 = .ok (.iload_n 1, 1) := by decide +kernel
theorem dX8_whose_97 : decode cX8_whose 97 = .ok (.iaload, 1) := by decide +kernel
theorem dX8_whose_98 : decode cX8_whose 98 = .ok (.if_icmp .ge 47, 3) := by decide +kernel
theorem dX8_whose_101 : decode cX8_whose 101 = .ok (.iload 6, 2) := by decide +kernel
theorem dX8_whose_103 : decode cX8_whose 103 = .ok (.ifCond .eq 42, 3) := by decide +kernel
theorem dX8_whose_106 : decode cX8_whose 106 = .ok (.aload_n 0, 1) := by decide +kernel
theorem dX8_whose_107 : decode cX8_whose 107 = .ok (.getfield 40, 3) := by decide +kernel
theorem dX8_whose_110 : decode cX8_whose 110 = .ok (.bipush 40, 2) := by decide +kernel
theorem dX8_whose_112 : decode cX8_whose 112 = .ok (.iload_n 1, 1) := by decide +kernel
theorem dX8_whose_113 : decode cX8_whose 113 = .ok (.imul, 1) := by decide +kernel
theorem dX8_whose_114 : decode cX8_whose 114 = .ok (.iload 7, 2) := by decide +kernel
theorem dX8_whose_116 : decode cX8_whose 116 = .ok (.iadd, 1) := by decide +kernel
theorem dX8_whose_117 : decode cX8_whose 117 = .ok (.iaload, 1) := by decide +kernel
theorem dX8_whose_118 : decode cX8_whose 118 = .ok (.aload_n 0, 1) := by decide +kernel
theorem dX8_whose_119 : decode cX8_whose 119 = .ok (.iload_n 2, 1) := by decide +kernel
theorem dX8_whose_120 : decode cX8_whose 120 = .ok (.iconst 4, 1) := by decide +kernel
theorem dX8_whose_121 : decode cX8_whose 121 = .ok (.invokevirtual 53, 3) := by decide +kernel
theorem dX8_whose_124 : decode cX8_whose 124 = .ok (.if_icmp .ne 7, 3) := by decide +kernel
theorem dX8_whose_127 : decode cX8_whose 127 = .ok (.iconst 1, 1) := by decide +kernel
theorem dX8_whose_128 : decode cX8_whose 128 = .ok (.goto 4, 3) := by decide +kernel
theorem dX8_whose_131 : decode cX8_whose 131 = .ok (.iconst 0, 1) := by decide +kernel
theorem dX8_whose_132 : decode cX8_whose 132 = .ok (.istore 6, 2) := by decide +kernel
theorem dX8_whose_134 : decode cX8_whose 134 = .ok (.aload_n 0, 1) := by decide +kernel
theorem dX8_whose_135 : decode cX8_whose 135 = .ok (.iconst 1, 1) := by decide +kernel
theorem dX8_whose_136 : decode cX8_whose 136 = .ok (.invokevirtual 198, 3) := by decide +kernel
theorem dX8_whose_139 : decode cX8_whose 139 = .ok (.iinc 7 1, 3) := by decide +kernel
theorem dX8_whose_142 : decode cX8_whose 142 = .ok (.goto (-52), 3) := by decide +kernel
theorem dX8_whose_145 : decode cX8_whose 145 = .ok (.aload_n 0, 1) := by decide +kernel
theorem dX8_whose_146 : decode cX8_whose 146 = .ok (.invokevirtual 213, 3) := by decide +kernel
theorem dX8_whose_149 : decode cX8_whose 149 = .ok (.iload 4, 2) := by decide +kernel
theorem dX8_whose_151 : decode cX8_whose 151 = .ok (.iload 6, 2) := by decide +kernel
theorem dX8_whose_153 : decode cX8_whose 153 = .ok (.ifCond .eq 10, 3) := by decide +kernel
theorem dX8_whose_156 : decode cX8_whose 156 = .ok (.iconst 1, 1) := by decide +kernel
theorem dX8_whose_157 : decode cX8_whose 157 = .ok (.iload 5, 2) := by decide +kernel
theorem dX8_whose_159 : decode cX8_whose 159 = .ok (.ishl, 1) := by decide +kernel
theorem dX8_whose_160 : decode cX8_whose 160 = .ok (.goto 4, 3) := by decide +kernel
theorem dX8_whose_163 : decode cX8_whose 163 = .ok (.iconst 0, 1) := by decide +kernel
theorem dX8_whose_164 : decode cX8_whose 164 = .ok (.ior, 1) := by decide +kernel
theorem dX8_whose_165 : decode cX8_whose 165 = .ok (.istore 4, 2) := by decide +kernel
theorem dX8_whose_167 : decode cX8_whose 167 = .ok (.iinc 5 1, 3) := by decide +kernel
theorem dX8_whose_170 : decode cX8_whose 170 = .ok (.goto (-100), 3) := by decide +kernel
theorem dX8_whose_173 : decode cX8_whose 173 = .ok (.iload_n 3, 1) := by decide +kernel
theorem dX8_whose_174 : decode cX8_whose 174 = .ok (.ifCond .ne 8, 3) := by decide +kernel
theorem dX8_whose_177 : decode cX8_whose 177 = .ok (.iload 4, 2) := by decide +kernel
theorem dX8_whose_179 : decode cX8_whose 179 = .ok (.goto 8, 3) := by decide +kernel
theorem dX8_whose_182 : decode cX8_whose 182 = .ok (.iload 4, 2) := by decide +kernel
theorem dX8_whose_184 : decode cX8_whose 184 = .ok (.invokestatic 218, 3) := by decide +kernel
theorem dX8_whose_187 : decode cX8_whose 187 = .ok (.ireturn, 1) := by decide +kernel
def X8_whose_L90 : Nat → Int32 → Int32 → Int32 → Int32 → Int32 → Int32 → Int32 → Mem → Option (Int32 × Mem)
  | 0, _, _, _, _, _, _, _, _ => none
  | fu + 1, v1, v2, v3, v4, v5, v6, v7, M => (if ib v1 4 = true then (if v7 < (M 29 0 v1.toNatClampNeg) then (if v6 = 0 then (some (v6, M)) else (if ib ((40 * v1) + v7) 160 = true then ((X8_of v2 4 M).bind fun q9 => (if (M 30 0 (((40 * v1) + v7).toNatClampNeg)) = q9 then ((X8_yearsGo 1 M).bind fun q11 => (X8_whose_L90 fu v1 v2 v3 v4 v5 1 (v7 + 1) q11)) else ((X8_yearsGo 1 M).bind fun q10 => (X8_whose_L90 fu v1 v2 v3 v4 v5 0 (v7 + 1) q10)))) else none)) else (some (v6, M))) else none)
set_option maxRecDepth 100000 in
set_option maxHeartbeats 4000000 in
theorem X8_whose_L90_ok  {r : Option AV} {M' : MM} : ∀ (fu : Nat) (v1 : Int32) (v2 : Int32) (v3 : Int32) (v4 : Int32) (v5 : Int32) (v6 : Int32) (v7 : Int32) (M N : Mem) {res : Int32 × Mem} (h : X8_whose_L90 fu v1 v2 v3 v4 v5 v6 v7 M = some res) (K : G mt_X8_whose 6 r M' 145 [(0, .inr (.inr (19, 0))), (1, .inl v1), (2, .inl v2), (3, .inl v3), (4, .inl v4), (5, .inl v5), (6, .inl res.1)] [] (N, res.2)), G mt_X8_whose 6 r M' 90 [(0, .inr (.inr (19, 0))), (1, .inl v1), (2, .inl v2), (3, .inl v3), (4, .inl v4), (5, .inl v5), (6, .inl v6), (7, .inl v7)] [] (N, M) := by
  intro fu
  induction fu with
  | zero =>
    intro v1 v2 v3 v4 v5 v6 v7 M N res h
    cases h
  | succ fu ih =>
    intro v1 v2 v3 v4 v5 v6 v7 M N res h K
    replace h : (if ib v1 4 = true then (if v7 < (M 29 0 v1.toNatClampNeg) then (if v6 = 0 then (some (v6, M)) else (if ib ((40 * v1) + v7) 160 = true then ((X8_of v2 4 M).bind fun q9 => (if (M 30 0 (((40 * v1) + v7).toNatClampNeg)) = q9 then ((X8_yearsGo 1 M).bind fun q11 => (X8_whose_L90 fu v1 v2 v3 v4 v5 1 (v7 + 1) q11)) else ((X8_yearsGo 1 M).bind fun q10 => (X8_whose_L90 fu v1 v2 v3 v4 v5 0 (v7 + 1) q10)))) else none)) else (some (v6, M))) else none) = some res := h
    refine G_iload dX8_whose_90 rfl ?_
    refine G_aload_n dX8_whose_92 rfl ?_
    refine fg_X8_37 rfl (by decide) dX8_whose_93 ?_
    refine G_iload_n dX8_whose_96 rfl ?_
    obtain ⟨hb7, h⟩ := chk h
    have lhb7 := ib_lt hb7
    refine al_29 (kk := v1.toNatClampNeg) (v := (M 29 0 v1.toNatClampNeg)) (by decide) hb7 rfl rfl dX8_whose_97 ?_
    refine G_icmp_ge (tgt := 145) dX8_whose_98 (by decide) (fun hc7 => ?_) (fun hc7 => ?_)
    · replace h := (if_neg hc7).symm.trans h
      refine G_sub [(0, .inr (.inr (19, 0))), (1, .inl v1), (2, .inl v2), (3, .inl v3), (4, .inl v4), (5, .inl v5), (6, .inl v6)] [0, 1, 2, 3, 4, 5, 6] rfl ?_
      obtain rfl := Option.some.inj h
      exact K
    · replace h := (if_pos hc7).symm.trans h
      refine G_iload dX8_whose_101 rfl ?_
      refine G_if_eq (tgt := 145) dX8_whose_103 (by decide) (fun hc8 => ?_) (fun hc8 => ?_)
      · replace h := (if_pos hc8).symm.trans h
        refine G_sub [(0, .inr (.inr (19, 0))), (1, .inl v1), (2, .inl v2), (3, .inl v3), (4, .inl v4), (5, .inl v5), (6, .inl v6)] [0, 1, 2, 3, 4, 5, 6] rfl ?_
        obtain rfl := Option.some.inj h
        exact K
      · replace h := (if_neg hc8).symm.trans h
        refine G_aload_n dX8_whose_106 rfl ?_
        refine fg_X8_40 rfl (by decide) dX8_whose_107 ?_
        refine G_bipush (v := 40) dX8_whose_110 (by decide) ?_
        refine G_iload_n dX8_whose_112 rfl ?_
        refine G_imul dX8_whose_113 ?_
        refine G_iload dX8_whose_114 rfl ?_
        refine G_iadd dX8_whose_116 ?_
        obtain ⟨hb8, h⟩ := chk h
        have lhb8 := ib_lt hb8
        refine al_30 (kk := ((40 * v1) + v7).toNatClampNeg) (v := (M 30 0 (((40 * v1) + v7).toNatClampNeg))) (by decide) hb8 rfl rfl dX8_whose_117 ?_
        refine G_aload_n dX8_whose_118 rfl ?_
        refine G_iload_n dX8_whose_119 rfl ?_
        refine G_iconst (v := 4) dX8_whose_120 (by decide) ?_
        obtain ⟨q9, hq9, h⟩ := bnd h
        refine G_callVv (T := TX8) (N := 22) (f := 19) (i := 0) (X8_of_ok hq9) ok_X8_of ml_X8_53 (by decide) rfl (by decide) (by decide) (by decide) rfl rfl (Nat.le_of_ble_eq_true rfl) dX8_whose_121 ?_
        refine G_icmp_ne (tgt := 131) dX8_whose_124 (by decide) (fun hc9 => ?_) (fun hc9 => ?_)
        · replace h := (if_neg hc9).symm.trans h
          refine G_iconst (v := 0) dX8_whose_131 (by decide) ?_
          refine G_istore (L2 := [(6, .inl 0), (0, .inr (.inr (19, 0))), (1, .inl v1), (2, .inl v2), (3, .inl v3), (4, .inl v4), (5, .inl v5), (7, .inl v7)]) dX8_whose_132 (by decide) rfl ?_
          refine G_aload_n dX8_whose_134 rfl ?_
          refine G_iconst (v := 1) dX8_whose_135 (by decide) ?_
          obtain ⟨q10, hq10, h⟩ := bnd h
          refine G_callVn (T := TX8) (N := 22) (f := 19) (i := 0) (X8_yearsGo_ok hq10) ok_X8_yearsGo ml_X8_198 (by decide) rfl (by decide) (by decide) (by decide) rfl rfl (Nat.le_of_ble_eq_true rfl) dX8_whose_136 ?_
          refine G_iinc (v := (v7 + 1)) (L2 := [(7, .inl (v7 + 1)), (6, .inl 0), (0, .inr (.inr (19, 0))), (1, .inl v1), (2, .inl v2), (3, .inl v3), (4, .inl v4), (5, .inl v5)]) dX8_whose_139 rfl (by first | rfl | (show _ + Int32.ofInt _ = _; rfl)) (by decide) rfl ?_
          refine G_goto (tgt := 90) dX8_whose_142 (by decide) ?_
          refine G_sub [(0, .inr (.inr (19, 0))), (1, .inl v1), (2, .inl v2), (3, .inl v3), (4, .inl v4), (5, .inl v5), (6, .inl 0), (7, .inl (v7 + 1))] [2, 3, 4, 5, 6, 7, 1, 0] rfl ?_
          exact ih v1 v2 v3 v4 v5 0 (v7 + 1) q10 _  h K
        · replace h := (if_pos hc9).symm.trans h
          refine G_iconst (v := 1) dX8_whose_127 (by decide) ?_
          refine G_goto (tgt := 132) dX8_whose_128 (by decide) ?_
          refine G_istore (L2 := [(6, .inl 1), (0, .inr (.inr (19, 0))), (1, .inl v1), (2, .inl v2), (3, .inl v3), (4, .inl v4), (5, .inl v5), (7, .inl v7)]) dX8_whose_132 (by decide) rfl ?_
          refine G_aload_n dX8_whose_134 rfl ?_
          refine G_iconst (v := 1) dX8_whose_135 (by decide) ?_
          obtain ⟨q11, hq11, h⟩ := bnd h
          refine G_callVn (T := TX8) (N := 22) (f := 19) (i := 0) (X8_yearsGo_ok hq11) ok_X8_yearsGo ml_X8_198 (by decide) rfl (by decide) (by decide) (by decide) rfl rfl (Nat.le_of_ble_eq_true rfl) dX8_whose_136 ?_
          refine G_iinc (v := (v7 + 1)) (L2 := [(7, .inl (v7 + 1)), (6, .inl 1), (0, .inr (.inr (19, 0))), (1, .inl v1), (2, .inl v2), (3, .inl v3), (4, .inl v4), (5, .inl v5)]) dX8_whose_139 rfl (by first | rfl | (show _ + Int32.ofInt _ = _; rfl)) (by decide) rfl ?_
          refine G_goto (tgt := 90) dX8_whose_142 (by decide) ?_
          refine G_sub [(0, .inr (.inr (19, 0))), (1, .inl v1), (2, .inl v2), (3, .inl v3), (4, .inl v4), (5, .inl v5), (6, .inl 1), (7, .inl (v7 + 1))] [2, 3, 4, 5, 6, 7, 1, 0] rfl ?_
          exact ih v1 v2 v3 v4 v5 1 (v7 + 1) q11 _  h K

def X8_whose_L70 : Nat → Int32 → Int32 → Int32 → Int32 → Int32 → Mem → Option (Int32 × Mem)
  | 0, _, _, _, _, _, _ => none
  | fu + 1, v1, v2, v3, v4, v5, M => (if v5 < 5 then ((X8_sets v2 2 v5 M).bind fun q6 => ((X8_whose_L90 400 v1 v2 v3 v4 v5 1 0 q6).bind fun q12 => ((X8_putBack q12.2).bind fun q13 => (if q12.1 = 0 then (X8_whose_L70 fu v1 v2 v3 (v4 ||| 0) (v5 + 1) q13) else (X8_whose_L70 fu v1 v2 v3 (v4 ||| (1 <<< (v5 &&& 31))) (v5 + 1) q13))))) else (some (v4, M)))
set_option maxRecDepth 100000 in
set_option maxHeartbeats 4000000 in
theorem X8_whose_L70_ok  {r : Option AV} {M' : MM} : ∀ (fu : Nat) (v1 : Int32) (v2 : Int32) (v3 : Int32) (v4 : Int32) (v5 : Int32) (M N : Mem) {res : Int32 × Mem} (h : X8_whose_L70 fu v1 v2 v3 v4 v5 M = some res) (K : G mt_X8_whose 6 r M' 173 [(3, .inl v3), (4, .inl res.1)] [] (N, res.2)), G mt_X8_whose 6 r M' 70 [(0, .inr (.inr (19, 0))), (1, .inl v1), (2, .inl v2), (3, .inl v3), (4, .inl v4), (5, .inl v5)] [] (N, M) := by
  intro fu
  induction fu with
  | zero =>
    intro v1 v2 v3 v4 v5 M N res h
    cases h
  | succ fu ih =>
    intro v1 v2 v3 v4 v5 M N res h K
    replace h : (if v5 < 5 then ((X8_sets v2 2 v5 M).bind fun q6 => ((X8_whose_L90 400 v1 v2 v3 v4 v5 1 0 q6).bind fun q12 => ((X8_putBack q12.2).bind fun q13 => (if q12.1 = 0 then (X8_whose_L70 fu v1 v2 v3 (v4 ||| 0) (v5 + 1) q13) else (X8_whose_L70 fu v1 v2 v3 (v4 ||| (1 <<< (v5 &&& 31))) (v5 + 1) q13))))) else (some (v4, M))) = some res := h
    refine G_iload dX8_whose_70 rfl ?_
    refine G_iconst (v := 5) dX8_whose_72 (by decide) ?_
    refine G_icmp_ge (tgt := 173) dX8_whose_73 (by decide) (fun hc6 => ?_) (fun hc6 => ?_)
    · replace h := (if_neg hc6).symm.trans h
      refine G_sub [(3, .inl v3), (4, .inl v4)] [3, 4] rfl ?_
      obtain rfl := Option.some.inj h
      exact K
    · replace h := (if_pos hc6).symm.trans h
      refine G_aload_n dX8_whose_76 rfl ?_
      refine G_iload_n dX8_whose_77 rfl ?_
      refine G_iconst (v := 2) dX8_whose_78 (by decide) ?_
      refine G_iload dX8_whose_79 rfl ?_
      obtain ⟨q6, hq6, h⟩ := bnd h
      refine G_callVn (T := TX8) (N := 22) (f := 19) (i := 0) (X8_sets_ok hq6) ok_X8_sets ml_X8_149 (by decide) rfl (by decide) (by decide) (by decide) rfl rfl (Nat.le_of_ble_eq_true rfl) dX8_whose_81 ?_
      refine G_iconst (v := 1) dX8_whose_84 (by decide) ?_
      refine G_istore (L2 := [(6, .inl 1), (0, .inr (.inr (19, 0))), (1, .inl v1), (2, .inl v2), (3, .inl v3), (4, .inl v4), (5, .inl v5)]) dX8_whose_85 (by decide) rfl ?_
      refine G_iconst (v := 0) dX8_whose_87 (by decide) ?_
      refine G_istore (L2 := [(7, .inl 0), (6, .inl 1), (0, .inr (.inr (19, 0))), (1, .inl v1), (2, .inl v2), (3, .inl v3), (4, .inl v4), (5, .inl v5)]) dX8_whose_88 (by decide) rfl ?_
      refine G_sub [(0, .inr (.inr (19, 0))), (1, .inl v1), (2, .inl v2), (3, .inl v3), (4, .inl v4), (5, .inl v5), (6, .inl 1), (7, .inl 0)] [2, 3, 4, 5, 6, 7, 1, 0] rfl ?_
      obtain ⟨q12, hq12, h⟩ := bnd h
      refine X8_whose_L90_ok  400 v1 v2 v3 v4 v5 1 0 q6 _  hq12 ?_
      refine G_aload_n dX8_whose_145 rfl ?_
      obtain ⟨q13, hq13, h⟩ := bnd h
      refine G_callVn (T := TX8) (N := 22) (f := 19) (i := 0) (X8_putBack_ok hq13) ok_X8_putBack ml_X8_213 (by decide) rfl (by decide) (by decide) (by decide) rfl rfl (Nat.le_of_ble_eq_true rfl) dX8_whose_146 ?_
      refine G_iload dX8_whose_149 rfl ?_
      refine G_iload dX8_whose_151 rfl ?_
      refine G_if_eq (tgt := 163) dX8_whose_153 (by decide) (fun hc10 => ?_) (fun hc10 => ?_)
      · replace h := (if_pos hc10).symm.trans h
        refine G_iconst (v := 0) dX8_whose_163 (by decide) ?_
        refine G_ior dX8_whose_164 ?_
        refine G_istore (L2 := [(4, .inl (v4 ||| 0)), (0, .inr (.inr (19, 0))), (1, .inl v1), (2, .inl v2), (3, .inl v3), (5, .inl v5), (6, .inl q12.1)]) dX8_whose_165 (by decide) rfl ?_
        refine G_iinc (v := (v5 + 1)) (L2 := [(5, .inl (v5 + 1)), (4, .inl (v4 ||| 0)), (0, .inr (.inr (19, 0))), (1, .inl v1), (2, .inl v2), (3, .inl v3), (6, .inl q12.1)]) dX8_whose_167 rfl (by first | rfl | (show _ + Int32.ofInt _ = _; rfl)) (by decide) rfl ?_
        refine G_goto (tgt := 70) dX8_whose_170 (by decide) ?_
        refine G_sub [(0, .inr (.inr (19, 0))), (1, .inl v1), (2, .inl v2), (3, .inl v3), (4, .inl (v4 ||| 0)), (5, .inl (v5 + 1))] [2, 3, 4, 5, 1, 0] rfl ?_
        exact ih v1 v2 v3 (v4 ||| 0) (v5 + 1) q13 _  h K
      · replace h := (if_neg hc10).symm.trans h
        refine G_iconst (v := 1) dX8_whose_156 (by decide) ?_
        refine G_iload dX8_whose_157 rfl ?_
        refine G_ishl dX8_whose_159 ?_
        refine G_goto (tgt := 164) dX8_whose_160 (by decide) ?_
        refine G_ior dX8_whose_164 ?_
        refine G_istore (L2 := [(4, .inl (v4 ||| (1 <<< (v5 &&& 31)))), (0, .inr (.inr (19, 0))), (1, .inl v1), (2, .inl v2), (3, .inl v3), (5, .inl v5), (6, .inl q12.1)]) dX8_whose_165 (by decide) rfl ?_
        refine G_iinc (v := (v5 + 1)) (L2 := [(5, .inl (v5 + 1)), (4, .inl (v4 ||| (1 <<< (v5 &&& 31)))), (0, .inr (.inr (19, 0))), (1, .inl v1), (2, .inl v2), (3, .inl v3), (6, .inl q12.1)]) dX8_whose_167 rfl (by first | rfl | (show _ + Int32.ofInt _ = _; rfl)) (by decide) rfl ?_
        refine G_goto (tgt := 70) dX8_whose_170 (by decide) ?_
        refine G_sub [(0, .inr (.inr (19, 0))), (1, .inl v1), (2, .inl v2), (3, .inl v3), (4, .inl (v4 ||| (1 <<< (v5 &&& 31)))), (5, .inl (v5 + 1))] [2, 3, 4, 5, 1, 0] rfl ?_
        exact ih v1 v2 v3 (v4 ||| (1 <<< (v5 &&& 31))) (v5 + 1) q13 _  h K

def X8_whose (v1 : Int32) (v2 : Int32) (v3 : Int32) (M : Mem) : Option (Int32 × Mem) := (if (X8_isSheet v1) = 0 then ((X8_finds 1 M).bind fun q1 => (some (q1.1, q1.2))) else (if (X8_isPot v2 M) = 0 then ((X8_finds 1 M).bind fun q2 => (some (q2.1, q2.2))) else (if (X8_in (v3.toInt64) (0 : Int64) (1 : Int64)) = 0 then ((X8_finds 1 M).bind fun q18 => (some (q18.1, q18.2))) else ((X8_isBroken v2 M).bind fun q3 => (if q3 = 0 then (if ib v1 4 = true then (if (M 28 0 v1.toNatClampNeg) = 0 then ((X8_finds 2 M).bind fun q16 => (some (q16.1, q16.2))) else ((X8_keepAside M).bind fun q5 => ((X8_whose_L70 400 v1 v2 v3 0 0 q5).bind fun q14 => (if v3 = 0 then (some (q14.1, q14.2)) else ((X8_bits q14.1).bind fun q15 => (some (q15, q14.2))))))) else none) else ((X8_finds 3 M).bind fun q17 => (some (q17.1, q17.2))))))))
set_option maxRecDepth 100000 in
set_option maxHeartbeats 4000000 in
theorem X8_whose_ok  {v1 : Int32} {v2 : Int32} {v3 : Int32} {M N : Mem} {res : Int32 × Mem} (h : X8_whose v1 v2 v3 M = some res) : Spec mt_X8_whose 6 [.inr (.inr (19, 0)), .inl v1, .inl v2, .inl v3] (N, M) (some (.inl res.1)) (N, res.2) := by
  unfold X8_whose at h
  refine Spec_of_G (by decide) rfl (Nat.le_of_ble_eq_true rfl) ?_
  refine G_sub [(0, .inr (.inr (19, 0))), (1, .inl v1), (2, .inl v2), (3, .inl v3)] [0, 1, 2, 3] rfl ?_
  refine G_iload_n dX8_whose_0 rfl ?_
  refine G_callSv  (X8_isSheet_ok rfl) ok_X8_isSheet ml_X8_221 (by decide) rfl rfl (Nat.le_of_ble_eq_true rfl) dX8_whose_1 ?_
  refine G_if_eq (tgt := 25) dX8_whose_4 (by decide) (fun hc1 => ?_) (fun hc1 => ?_)
  · replace h := (if_pos hc1).symm.trans h
    refine G_aload_n dX8_whose_25 rfl ?_
    refine G_iconst (v := 1) dX8_whose_26 (by decide) ?_
    obtain ⟨q1, hq1, h⟩ := bnd h
    refine G_callVv (T := TX8) (N := 22) (f := 19) (i := 0) (X8_finds_ok hq1) ok_X8_finds ml_X8_130 (by decide) rfl (by decide) (by decide) (by decide) rfl rfl (Nat.le_of_ble_eq_true rfl) dX8_whose_27 ?_
    obtain rfl := Option.some.inj h
    exact G_ret dX8_whose_30 trivial rfl rfl
  · replace h := (if_neg hc1).symm.trans h
    refine G_aload_n dX8_whose_7 rfl ?_
    refine G_iload_n dX8_whose_8 rfl ?_
    refine G_callVv (T := TX8) (N := 22) (f := 19) (i := 0) (X8_isPot_ok rfl) ok_X8_isPot ml_X8_182 (by decide) rfl (by decide) (by decide) (by decide) rfl rfl (Nat.le_of_ble_eq_true rfl) dX8_whose_9 ?_
    refine G_if_eq (tgt := 25) dX8_whose_12 (by decide) (fun hc2 => ?_) (fun hc2 => ?_)
    · replace h := (if_pos hc2).symm.trans h
      refine G_aload_n dX8_whose_25 rfl ?_
      refine G_iconst (v := 1) dX8_whose_26 (by decide) ?_
      obtain ⟨q2, hq2, h⟩ := bnd h
      refine G_callVv (T := TX8) (N := 22) (f := 19) (i := 0) (X8_finds_ok hq2) ok_X8_finds ml_X8_130 (by decide) rfl (by decide) (by decide) (by decide) rfl rfl (Nat.le_of_ble_eq_true rfl) dX8_whose_27 ?_
      obtain rfl := Option.some.inj h
      exact G_ret dX8_whose_30 trivial rfl rfl
    · replace h := (if_neg hc2).symm.trans h
      refine G_iload_n dX8_whose_15 rfl ?_
      refine G_i2l dX8_whose_16 ?_
      refine G_lconst (v := 0) dX8_whose_17 (by decide) ?_
      refine G_lconst (v := 1) dX8_whose_18 (by decide) ?_
      refine G_callSv  (X8_in_ok rfl) ok_X8_in ml_X8_47 (by decide) rfl rfl (Nat.le_of_ble_eq_true rfl) dX8_whose_19 ?_
      refine G_if_ne (tgt := 31) dX8_whose_22 (by decide) (fun hc3 => ?_) (fun hc3 => ?_)
      · replace h := (if_neg hc3).symm.trans h
        refine G_aload_n dX8_whose_31 rfl ?_
        refine G_iload_n dX8_whose_32 rfl ?_
        obtain ⟨q3, hq3, h⟩ := bnd h
        refine G_callVv (T := TX8) (N := 22) (f := 19) (i := 0) (X8_isBroken_ok hq3) ok_X8_isBroken ml_X8_164 (by decide) rfl (by decide) (by decide) (by decide) rfl rfl (Nat.le_of_ble_eq_true rfl) dX8_whose_33 ?_
        refine G_if_eq (tgt := 45) dX8_whose_36 (by decide) (fun hc4 => ?_) (fun hc4 => ?_)
        · replace h := (if_pos hc4).symm.trans h
          refine G_aload_n dX8_whose_45 rfl ?_
          refine fg_X8_34 rfl (by decide) dX8_whose_46 ?_
          refine G_iload_n dX8_whose_49 rfl ?_
          obtain ⟨hb4, h⟩ := chk h
          have lhb4 := ib_lt hb4
          refine al_28 (kk := v1.toNatClampNeg) (v := (M 28 0 v1.toNatClampNeg)) (by decide) hb4 rfl rfl dX8_whose_50 ?_
          refine G_if_ne (tgt := 60) dX8_whose_51 (by decide) (fun hc5 => ?_) (fun hc5 => ?_)
          · replace h := (if_neg hc5).symm.trans h
            refine G_aload_n dX8_whose_60 rfl ?_
            obtain ⟨q5, hq5, h⟩ := bnd h
            refine G_callVn (T := TX8) (N := 22) (f := 19) (i := 0) (X8_keepAside_ok hq5) ok_X8_keepAside ml_X8_210 (by decide) rfl (by decide) (by decide) (by decide) rfl rfl (Nat.le_of_ble_eq_true rfl) dX8_whose_61 ?_
            refine G_iconst (v := 0) dX8_whose_64 (by decide) ?_
            refine G_istore (L2 := [(4, .inl 0), (0, .inr (.inr (19, 0))), (1, .inl v1), (2, .inl v2), (3, .inl v3)]) dX8_whose_65 (by decide) rfl ?_
            refine G_iconst (v := 0) dX8_whose_67 (by decide) ?_
            refine G_istore (L2 := [(5, .inl 0), (4, .inl 0), (0, .inr (.inr (19, 0))), (1, .inl v1), (2, .inl v2), (3, .inl v3)]) dX8_whose_68 (by decide) rfl ?_
            refine G_sub [(0, .inr (.inr (19, 0))), (1, .inl v1), (2, .inl v2), (3, .inl v3), (4, .inl 0), (5, .inl 0)] [2, 3, 4, 5, 1, 0] rfl ?_
            obtain ⟨q14, hq14, h⟩ := bnd h
            refine X8_whose_L70_ok  400 v1 v2 v3 0 0 q5 _  hq14 ?_
            refine G_iload_n dX8_whose_173 rfl ?_
            refine G_if_ne (tgt := 182) dX8_whose_174 (by decide) (fun hc11 => ?_) (fun hc11 => ?_)
            · replace h := (if_neg hc11).symm.trans h
              refine G_iload dX8_whose_182 rfl ?_
              obtain ⟨q15, hq15, h⟩ := bnd h
              refine G_callSv  (X8_bits_ok hq15) ok_X8_bits ml_X8_218 (by decide) rfl rfl (Nat.le_of_ble_eq_true rfl) dX8_whose_184 ?_
              obtain rfl := Option.some.inj h
              exact G_ret dX8_whose_187 trivial rfl rfl
            · replace h := (if_pos hc11).symm.trans h
              refine G_iload dX8_whose_177 rfl ?_
              refine G_goto (tgt := 187) dX8_whose_179 (by decide) ?_
              obtain rfl := Option.some.inj h
              exact G_ret dX8_whose_187 trivial rfl rfl
          · replace h := (if_pos hc5).symm.trans h
            refine G_aload_n dX8_whose_54 rfl ?_
            refine G_iconst (v := 2) dX8_whose_55 (by decide) ?_
            obtain ⟨q16, hq16, h⟩ := bnd h
            refine G_callVv (T := TX8) (N := 22) (f := 19) (i := 0) (X8_finds_ok hq16) ok_X8_finds ml_X8_130 (by decide) rfl (by decide) (by decide) (by decide) rfl rfl (Nat.le_of_ble_eq_true rfl) dX8_whose_56 ?_
            obtain rfl := Option.some.inj h
            exact G_ret dX8_whose_59 trivial rfl rfl
        · replace h := (if_neg hc4).symm.trans h
          refine G_aload_n dX8_whose_39 rfl ?_
          refine G_iconst (v := 3) dX8_whose_40 (by decide) ?_
          obtain ⟨q17, hq17, h⟩ := bnd h
          refine G_callVv (T := TX8) (N := 22) (f := 19) (i := 0) (X8_finds_ok hq17) ok_X8_finds ml_X8_130 (by decide) rfl (by decide) (by decide) (by decide) rfl rfl (Nat.le_of_ble_eq_true rfl) dX8_whose_41 ?_
          obtain rfl := Option.some.inj h
          exact G_ret dX8_whose_44 trivial rfl rfl
      · replace h := (if_pos hc3).symm.trans h
        refine G_aload_n dX8_whose_25 rfl ?_
        refine G_iconst (v := 1) dX8_whose_26 (by decide) ?_
        obtain ⟨q18, hq18, h⟩ := bnd h
        refine G_callVv (T := TX8) (N := 22) (f := 19) (i := 0) (X8_finds_ok hq18) ok_X8_finds ml_X8_130 (by decide) rfl (by decide) (by decide) (by decide) rfl rfl (Nat.le_of_ble_eq_true rfl) dX8_whose_27 ?_
        obtain rfl := Option.some.inj h
        exact G_ret dX8_whose_30 trivial rfl rfl

theorem dX8_carry_0 : decode cX8_carry 0 = .ok (.iload_n 1, 1) := by decide +kernel
theorem dX8_carry_1 : decode cX8_carry 1 = .ok (.invokestatic 170, 3) := by decide +kernel
theorem dX8_carry_4 : decode cX8_carry 4 = .ok (.ifCond .ne 9, 3) := by decide +kernel
theorem dX8_carry_7 : decode cX8_carry 7 = .ok (.aload_n 0, 1) := by decide +kernel
theorem dX8_carry_8 : decode cX8_carry 8 = .ok (.iconst 1, 1) := by decide +kernel
theorem dX8_carry_9 : decode cX8_carry 9 = .ok (.invokevirtual 130, 3) := by decide +kernel
theorem dX8_carry_12 : decode cX8_carry 12 = .ok (.ireturn, 1) := by decide +kernel
theorem dX8_carry_13 : decode cX8_carry 13 = .ok (.aload_n 0, 1) := by decide +kernel
theorem dX8_carry_14 : decode cX8_carry 14 = .ok (.getfield 7, 3) := by decide +kernel
theorem dX8_carry_17 : decode cX8_carry 17 = .ok (.bipush 6, 2) := by decide +kernel
theorem dX8_carry_19 : decode cX8_carry 19 = .ok (.iconst 2, 1) := by decide +kernel
theorem dX8_carry_20 : decode cX8_carry 20 = .ok (.iload_n 1, 1) := by decide +kernel
theorem dX8_carry_21 : decode cX8_carry 21 = .ok (.imul, 1) := by decide +kernel
theorem dX8_carry_22 : decode cX8_carry 22 = .ok (.iadd, 1) := by decide +kernel
theorem dX8_carry_23 : decode cX8_carry 23 = .ok (.iaload, 1) := by decide +kernel
theorem dX8_carry_24 : decode cX8_carry 24 = .ok (.istore_n 2, 1) := by decide +kernel
theorem dX8_carry_25 : decode cX8_carry 25 = .ok (.aload_n 0, 1) := by decide +kernel
theorem dX8_carry_26 : decode cX8_carry 26 = .ok (.iload_n 1, 1) := by decide +kernel
theorem dX8_carry_27 : decode cX8_carry 27 = .ok (.invokevirtual 161, 3) := by decide +kernel
theorem dX8_carry_30 : decode cX8_carry 30 = .ok (.istore_n 3, 1) := by decide +kernel
theorem dX8_carry_31 : decode cX8_carry 31 = .ok (.aload_n 0, 1) := by decide +kernel
theorem dX8_carry_32 : decode cX8_carry 32 = .ok (.iload_n 1, 1) := by decide +kernel
theorem dX8_carry_33 : decode cX8_carry 33 = .ok (.invokevirtual 177, 3) := by decide +kernel
theorem dX8_carry_36 : decode cX8_carry 36 = .ok (.aload_n 0, 1) := by decide +kernel
theorem dX8_carry_37 : decode cX8_carry 37 = .ok (.bipush 7, 2) := by decide +kernel
theorem dX8_carry_39 : decode cX8_carry 39 = .ok (.invokevirtual 177, 3) := by decide +kernel
theorem dX8_carry_42 : decode cX8_carry 42 = .ok (.iand, 1) := by decide +kernel
theorem dX8_carry_43 : decode cX8_carry 43 = .ok (.invokestatic 218, 3) := by decide +kernel
theorem dX8_carry_46 : decode cX8_carry 46 = .ok (.istore 4, 2) := by decide +kernel
theorem dX8_carry_48 : decode cX8_carry 48 = .ok (.iload 4, 2) := by decide +kernel
theorem dX8_carry_50 : decode cX8_carry 50 = .ok (.iload_n 2, 1) := by decide +kernel
theorem dX8_carry_51 : decode cX8_carry 51 = .ok (.if_icmp .lt 5, 3) := by decide +kernel
theorem dX8_carry_54 : decode cX8_carry 54 = .ok (.iload_n 2, 1) := by decide +kernel
theorem dX8_carry_55 : decode cX8_carry 55 = .ok (.ireturn, 1) := by decide +kernel
theorem dX8_carry_56 : decode cX8_carry 56 = .ok (.iload_n 2, 1) := by decide +kernel
theorem dX8_carry_57 : decode cX8_carry 57 = .ok (.iload 4, 2) := by decide +kernel
theorem dX8_carry_59 : decode cX8_carry 59 = .ok (.isub, 1) := by decide +kernel
theorem dX8_carry_60 : decode cX8_carry 60 = .ok (.iconst 2, 1) := by decide +kernel
theorem dX8_carry_61 : decode cX8_carry 61 = .ok (.idiv, 1) := by decide +kernel
theorem dX8_carry_62 : decode cX8_carry 62 = .ok (.istore 5, 2) := by decide +kernel
theorem dX8_carry_64 : decode cX8_carry 64 = .ok (.iload 4, 2) := by decide +kernel
theorem dX8_carry_66 : decode cX8_carry 66 = .ok (.iload 5, 2) := by decide +kernel
theorem dX8_carry_68 : decode cX8_carry 68 = .ok (.iload_n 3, 1) := by decide +kernel
theorem dX8_carry_69 : decode cX8_carry 69 = .ok (.iload 4, 2) := by decide +kernel
theorem dX8_carry_71 : decode cX8_carry 71 = .ok (.isub, 1) := by decide +kernel
theorem dX8_carry_72 : decode cX8_carry 72 = .ok (.if_icmp .ge 8, 3) := by decide +kernel
theorem dX8_carry_75 : decode cX8_carry 75 = .ok (.iload 5, 2) := by decide +kernel
theorem dX8_carry_77 : decode cX8_carry 77 = .ok (.goto 7, 3) := by decide +kernel
theorem dX8_carry_80 : decode cX8_carry 80 = .ok (.iload_n 3, 1) := by decide +kernel
theorem dX8_carry_81 : decode cX8_carry 81 = .ok (.iload 4, 2) := by decide +kernel
theorem dX8_carry_83 : decode cX8_carry 83 = .ok (.isub, 1) := by decide +kernel
theorem dX8_carry_84 : decode cX8_carry 84 = .ok (.iadd, 1) := by decide +kernel
theorem dX8_carry_85 : decode cX8_carry 85 = .ok (.ireturn, 1) := by decide +kernel
def X8_carry (v1 : Int32) (M : Mem) : Option (Int32 × Mem) := (if (X8_isHouse v1) = 0 then ((X8_finds 1 M).bind fun q6 => (some (q6.1, q6.2))) else (if ib (6 + (2 * v1)) 268 = true then ((X8_manyIn v1 M).bind fun q2 => ((X8_setOf v1 M).bind fun q3 => ((X8_setOf 7 M).bind fun q4 => ((X8_bits (q3 &&& q4)).bind fun q5 => (if q5 < (M 20 0 ((6 + (2 * v1)).toNatClampNeg)) then (if (((M 20 0 ((6 + (2 * v1)).toNatClampNeg)) - q5) / 2) < (q2 - q5) then (some ((q5 + (((M 20 0 ((6 + (2 * v1)).toNatClampNeg)) - q5) / 2)), M)) else (some ((q5 + (q2 - q5)), M))) else (some ((M 20 0 ((6 + (2 * v1)).toNatClampNeg)), M))))))) else none))
set_option maxRecDepth 100000 in
set_option maxHeartbeats 4000000 in
theorem X8_carry_ok  {v1 : Int32} {M N : Mem} {res : Int32 × Mem} (h : X8_carry v1 M = some res) : Spec mt_X8_carry 3 [.inr (.inr (19, 0)), .inl v1] (N, M) (some (.inl res.1)) (N, res.2) := by
  unfold X8_carry at h
  refine Spec_of_G (by decide) rfl (Nat.le_of_ble_eq_true rfl) ?_
  refine G_sub [(0, .inr (.inr (19, 0))), (1, .inl v1)] [0, 1] rfl ?_
  refine G_iload_n dX8_carry_0 rfl ?_
  refine G_callSv  (X8_isHouse_ok rfl) ok_X8_isHouse ml_X8_170 (by decide) rfl rfl (Nat.le_of_ble_eq_true rfl) dX8_carry_1 ?_
  refine G_if_ne (tgt := 13) dX8_carry_4 (by decide) (fun hc1 => ?_) (fun hc1 => ?_)
  · replace h := (if_neg hc1).symm.trans h
    refine G_aload_n dX8_carry_13 rfl ?_
    refine fg_X8_7 rfl (by decide) dX8_carry_14 ?_
    refine G_bipush (v := 6) dX8_carry_17 (by decide) ?_
    refine G_iconst (v := 2) dX8_carry_19 (by decide) ?_
    refine G_iload_n dX8_carry_20 rfl ?_
    refine G_imul dX8_carry_21 ?_
    refine G_iadd dX8_carry_22 ?_
    obtain ⟨hb1, h⟩ := chk h
    have lhb1 := ib_lt hb1
    refine al_20 (kk := (6 + (2 * v1)).toNatClampNeg) (v := (M 20 0 ((6 + (2 * v1)).toNatClampNeg))) (by decide) hb1 rfl rfl dX8_carry_23 ?_
    refine G_istore_n (L2 := [(2, .inl (M 20 0 ((6 + (2 * v1)).toNatClampNeg))), (0, .inr (.inr (19, 0))), (1, .inl v1)]) dX8_carry_24 (by decide) rfl ?_
    refine G_aload_n dX8_carry_25 rfl ?_
    refine G_iload_n dX8_carry_26 rfl ?_
    obtain ⟨q2, hq2, h⟩ := bnd h
    refine G_callVv (T := TX8) (N := 22) (f := 19) (i := 0) (X8_manyIn_ok hq2) ok_X8_manyIn ml_X8_161 (by decide) rfl (by decide) (by decide) (by decide) rfl rfl (Nat.le_of_ble_eq_true rfl) dX8_carry_27 ?_
    refine G_istore_n (L2 := [(3, .inl q2), (2, .inl (M 20 0 ((6 + (2 * v1)).toNatClampNeg))), (0, .inr (.inr (19, 0))), (1, .inl v1)]) dX8_carry_30 (by decide) rfl ?_
    refine G_aload_n dX8_carry_31 rfl ?_
    refine G_iload_n dX8_carry_32 rfl ?_
    obtain ⟨q3, hq3, h⟩ := bnd h
    refine G_callVv (T := TX8) (N := 22) (f := 19) (i := 0) (X8_setOf_ok hq3) ok_X8_setOf ml_X8_177 (by decide) rfl (by decide) (by decide) (by decide) rfl rfl (Nat.le_of_ble_eq_true rfl) dX8_carry_33 ?_
    refine G_aload_n dX8_carry_36 rfl ?_
    refine G_bipush (v := 7) dX8_carry_37 (by decide) ?_
    obtain ⟨q4, hq4, h⟩ := bnd h
    refine G_callVv (T := TX8) (N := 22) (f := 19) (i := 0) (X8_setOf_ok hq4) ok_X8_setOf ml_X8_177 (by decide) rfl (by decide) (by decide) (by decide) rfl rfl (Nat.le_of_ble_eq_true rfl) dX8_carry_39 ?_
    refine G_iand dX8_carry_42 ?_
    obtain ⟨q5, hq5, h⟩ := bnd h
    refine G_callSv  (X8_bits_ok hq5) ok_X8_bits ml_X8_218 (by decide) rfl rfl (Nat.le_of_ble_eq_true rfl) dX8_carry_43 ?_
    refine G_istore (L2 := [(4, .inl q5), (3, .inl q2), (2, .inl (M 20 0 ((6 + (2 * v1)).toNatClampNeg))), (0, .inr (.inr (19, 0))), (1, .inl v1)]) dX8_carry_46 (by decide) rfl ?_
    refine G_iload dX8_carry_48 rfl ?_
    refine G_iload_n dX8_carry_50 rfl ?_
    refine G_icmp_lt (tgt := 56) dX8_carry_51 (by decide) (fun hc2 => ?_) (fun hc2 => ?_)
    · replace h := (if_pos hc2).symm.trans h
      refine G_iload_n dX8_carry_56 rfl ?_
      refine G_iload dX8_carry_57 rfl ?_
      refine G_isub dX8_carry_59 ?_
      refine G_iconst (v := 2) dX8_carry_60 (by decide) ?_
      refine G_idiv (by decide) dX8_carry_61 ?_
      refine G_istore (L2 := [(5, .inl (((M 20 0 ((6 + (2 * v1)).toNatClampNeg)) - q5) / 2)), (4, .inl q5), (3, .inl q2), (2, .inl (M 20 0 ((6 + (2 * v1)).toNatClampNeg))), (0, .inr (.inr (19, 0))), (1, .inl v1)]) dX8_carry_62 (by decide) rfl ?_
      refine G_iload dX8_carry_64 rfl ?_
      refine G_iload dX8_carry_66 rfl ?_
      refine G_iload_n dX8_carry_68 rfl ?_
      refine G_iload dX8_carry_69 rfl ?_
      refine G_isub dX8_carry_71 ?_
      refine G_icmp_ge (tgt := 80) dX8_carry_72 (by decide) (fun hc3 => ?_) (fun hc3 => ?_)
      · replace h := (if_neg hc3).symm.trans h
        refine G_iload_n dX8_carry_80 rfl ?_
        refine G_iload dX8_carry_81 rfl ?_
        refine G_isub dX8_carry_83 ?_
        refine G_iadd dX8_carry_84 ?_
        obtain rfl := Option.some.inj h
        exact G_ret dX8_carry_85 trivial rfl rfl
      · replace h := (if_pos hc3).symm.trans h
        refine G_iload dX8_carry_75 rfl ?_
        refine G_goto (tgt := 84) dX8_carry_77 (by decide) ?_
        refine G_iadd dX8_carry_84 ?_
        obtain rfl := Option.some.inj h
        exact G_ret dX8_carry_85 trivial rfl rfl
    · replace h := (if_neg hc2).symm.trans h
      refine G_iload_n dX8_carry_54 rfl ?_
      obtain rfl := Option.some.inj h
      exact G_ret dX8_carry_55 trivial rfl rfl
  · replace h := (if_pos hc1).symm.trans h
    refine G_aload_n dX8_carry_7 rfl ?_
    refine G_iconst (v := 1) dX8_carry_8 (by decide) ?_
    obtain ⟨q6, hq6, h⟩ := bnd h
    refine G_callVv (T := TX8) (N := 22) (f := 19) (i := 0) (X8_finds_ok hq6) ok_X8_finds ml_X8_130 (by decide) rfl (by decide) (by decide) (by decide) rfl rfl (Nat.le_of_ble_eq_true rfl) dX8_carry_9 ?_
    obtain rfl := Option.some.inj h
    exact G_ret dX8_carry_12 trivial rfl rfl

theorem dX8_richest_0 : decode cX8_richest 0 = .ok (.iload_n 1, 1) := by decide +kernel
theorem dX8_richest_1 : decode cX8_richest 1 = .ok (.i2l, 1) := by decide +kernel
theorem dX8_richest_2 : decode cX8_richest 2 = .ok (.lconst 0, 1) := by decide +kernel
theorem dX8_richest_3 : decode cX8_richest 3 = .ok (.ldc2_w 196, 3) := by decide +kernel
theorem dX8_richest_6 : decode cX8_richest 6 = .ok (.invokestatic 47, 3) := by decide +kernel
theorem dX8_richest_9 : decode cX8_richest 9 = .ok (.ifCond .eq 13, 3) := by decide +kernel
theorem dX8_richest_12 : decode cX8_richest 12 = .ok (.iload_n 2, 1) := by decide +kernel
theorem dX8_richest_13 : decode cX8_richest 13 = .ok (.i2l, 1) := by decide +kernel
theorem dX8_richest_14 : decode cX8_richest 14 = .ok (.lconst 0, 1) := by decide +kernel
theorem dX8_richest_15 : decode cX8_richest 15 = .ok (.lconst 1, 1) := by decide +kernel
theorem dX8_richest_16 : decode cX8_richest 16 = .ok (.invokestatic 47, 3) := by decide +kernel
theorem dX8_richest_19 : decode cX8_richest 19 = .ok (.ifCond .ne 9, 3) := by decide +kernel
theorem dX8_richest_22 : decode cX8_richest 22 = .ok (.aload_n 0, 1) := by decide +kernel
theorem dX8_richest_23 : decode cX8_richest 23 = .ok (.iconst 1, 1) := by decide +kernel
theorem dX8_richest_24 : decode cX8_richest 24 = .ok (.invokevirtual 130, 3) := by decide +kernel
theorem dX8_richest_27 : decode cX8_richest 27 = .ok (.ireturn, 1) := by decide +kernel
theorem dX8_richest_28 : decode cX8_richest 28 = .ok (.aload_n 0, 1) := by decide +kernel
theorem dX8_richest_29 : decode cX8_richest 29 = .ok (.invokevirtual 210, 3) := by decide +kernel
theorem dX8_richest_32 : decode cX8_richest 32 = .ok (.aload_n 0, 1) := by decide +kernel
theorem dX8_richest_33 : decode cX8_richest 33 = .ok (.iload_n 1, 1) := by decide +kernel
theorem dX8_richest_34 : decode cX8_richest 34 = .ok (.invokevirtual 198, 3) := by decide +kernel
theorem dX8_richest_37 : decode cX8_richest 37 = .ok (.iconst 0, 1) := by decide +kernel
theorem dX8_richest_38 : decode cX8_richest 38 = .ok (.istore_n 3, 1) := by decide +kernel
theorem dX8_richest_39 : decode cX8_richest 39 = .ok (.iconst (-1), 1) := by decide +kernel
theorem dX8_richest_40 : decode cX8_richest 40 = .ok (.istore 4, 2) := by decide +kernel
theorem dX8_richest_42 : decode cX8_richest 42 = .ok (.iconst 0, 1) := by decide +kernel
theorem dX8_richest_43 : decode cX8_richest 43 = .ok (.istore 5, 2) := by decide +kernel
theorem dX8_richest_45 : decode cX8_richest 45 = .ok (.iload 5, 2) := by decide +kernel
theorem dX8_richest_47 : decode cX8_richest 47 = .ok (.iconst 5, 1) := by decide +kernel
theorem dX8_richest_48 : decode cX8_richest 48 = .ok (.if_icmp .ge 75, 3) := by decide +kernel
theorem dX8_richest_51 : decode cX8_richest 51 = .ok (.iconst 0, 1) := by decide +kernel
theorem dX8_richest_52 : decode cX8_richest 52 = .ok (.istore 6, 2) := by decide +kernel
theorem dX8_richest_54 : decode cX8_richest 54 = .ok (.iconst 0, 1) := by decide +kernel
theorem dX8_richest_55 : decode cX8_richest 55 = .ok (.istore 7, 2) := by decide +kernel
theorem dX8_richest_57 : decode cX8_richest 57 = .ok (.iload 7, 2) := by decide +kernel
theorem dX8_richest_59 : decode cX8_richest 59 = .ok (.aload_n 0, 1) := by decide +kernel
theorem dX8_richest_60 : decode cX8_richest 60 = .ok (.getfield 7, 3) := by decide +kernel
theorem dX8_richest_63 : decode cX8_richest 63 = .ok (.iconst 0, 1) := by decide +kernel
theorem dX8_richest_64 : decode cX8_richest 64 = .ok (.iaload, 1) := by decide +kernel
theorem dX8_richest_65 : decode cX8_richest 65 = .ok (.if_icmp .ge 38, 3) := by decide +kernel
theorem dX8_richest_68 : decode cX8_richest 68 = .ok (.iload 6, 2) := by decide +kernel
theorem dX8_richest_70 : decode cX8_richest 70 = .ok (.aload_n 0, 1) := by decide +kernel
theorem dX8_richest_71 : decode cX8_richest 71 = .ok (.iload 7, 2) := by decide +kernel
theorem dX8_richest_73 : decode cX8_richest 73 = .ok (.iconst 2, 1) := by decide +kernel
theorem dX8_richest_74 : decode cX8_richest 74 = .ok (.invokevirtual 53, 3) := by decide +kernel
theorem dX8_richest_77 : decode cX8_richest 77 = .ok (.iload 5, 2) := by decide +kernel
theorem dX8_richest_79 : decode cX8_richest 79 = .ok (.if_icmp .ne 14, 3) := by decide +kernel
theorem dX8_richest_82 : decode cX8_richest 82 = .ok (.aload_n 0, 1) := by decide +kernel
theorem dX8_richest_83 : decode cX8_richest 83 = .ok (.iload 7, 2) := by decide +kernel
theorem dX8_richest_85 : decode cX8_richest 85 = .ok (.bipush 6, 2) := by decide +kernel
theorem dX8_richest_87 : decode cX8_richest 87 = .ok (.invokevirtual 53, 3) := by decide +kernel
theorem dX8_richest_90 : decode cX8_richest 90 = .ok (.goto 4, 3) := by decide +kernel
theorem dX8_richest_93 : decode cX8_richest 93 = .ok (.iconst 0, 1) := by decide +kernel
theorem dX8_richest_94 : decode cX8_richest 94 = .ok (.iadd, 1) := by decide +kernel
theorem dX8_richest_95 : decode cX8_richest 95 = .ok (.istore 6, 2) := by decide +kernel
theorem dX8_richest_97 : decode cX8_richest 97 = .ok (.iinc 7 1, 3) := by decide +kernel
theorem dX8_richest_100 : decode cX8_richest 100 = .ok (.goto (-43), 3) := by decide +kernel
theorem dX8_richest_103 : decode cX8_richest 103 = .ok (.iload 6, 2) := by decide +kernel
theorem dX8_richest_105 : decode cX8_richest 105 = .ok (.iload 4, 2) := by decide +kernel
theorem dX8_richest_107 : decode cX8_richest 107 = .ok (.if_icmp .le 10, 3) := by decide +kernel
theorem dX8_richest_110 : decode cX8_richest 110 = .ok (.iload 5, 2) := by decide +kernel
theorem dX8_richest_112 : decode cX8_richest 112 = .ok (.istore_n 3, 1) := by decide +kernel
theorem dX8_richest_113 : decode cX8_richest 113 = .ok (.iload 6, 2) := by decide +kernel
theorem dX8_richest_115 : decode cX8_richest 115 = .ok (.istore 4, 2) := by decide +kernel
theorem dX8_richest_117 : decode cX8_richest 117 = .ok (.iinc 5 1, 3) := by decide +kernel
theorem dX8_richest_120 : decode cX8_richest 120 = .ok (.goto (-75), 3) := by decide +kernel
theorem dX8_richest_123 : decode cX8_richest 123 = .ok (.aload_n 0, 1) := by decide +kernel
theorem dX8_richest_124 : decode cX8_richest 124 = .ok (.invokevirtual 213, 3) := by decide +kernel
theorem dX8_richest_127 : decode cX8_richest 127 = .ok (.iload_n 2, 1) := by decide +kernel
theorem dX8_richest_128 : decode cX8_richest 128 = .ok (.ifCond .ne 7, 3) := by decide +kernel
theorem dX8_richest_131 : decode cX8_richest 131 = .ok (.iload_n 3, 1) := by decide +kernel
theorem dX8_richest_132 : decode cX8_richest 132 = .ok (.goto 5, 3) := by decide +kernel
theorem dX8_richest_135 : decode cX8_richest 135 = .ok (.iload 4, 2) := by decide +kernel
theorem dX8_richest_137 : decode cX8_richest 137 = .ok (.ireturn, 1) := by decide +kernel
def X8_richest_L57 : Nat → Int32 → Int32 → Int32 → Int32 → Int32 → Int32 → Mem → Option (Int32)
  | 0, _, _, _, _, _, _, _ => none
  | fu + 1, v2, v3, v4, v5, v6, v7, M => (if v7 < (M 20 0 0) then ((X8_of v7 2 M).bind fun q4 => (if q4 = v5 then ((X8_of v7 6 M).bind fun q5 => (X8_richest_L57 fu v2 v3 v4 v5 (v6 + q5) (v7 + 1) M)) else (X8_richest_L57 fu v2 v3 v4 v5 (v6 + 0) (v7 + 1) M))) else (some v6))
set_option maxRecDepth 100000 in
set_option maxHeartbeats 4000000 in
theorem X8_richest_L57_ok  {r : Option AV} {M' : MM} : ∀ (fu : Nat) (v2 : Int32) (v3 : Int32) (v4 : Int32) (v5 : Int32) (v6 : Int32) (v7 : Int32) (M N : Mem) {res : Int32} (h : X8_richest_L57 fu v2 v3 v4 v5 v6 v7 M = some res) (K : G mt_X8_richest 6 r M' 103 [(0, .inr (.inr (19, 0))), (2, .inl v2), (3, .inl v3), (4, .inl v4), (5, .inl v5), (6, .inl res)] [] (N, M)), G mt_X8_richest 6 r M' 57 [(0, .inr (.inr (19, 0))), (2, .inl v2), (3, .inl v3), (4, .inl v4), (5, .inl v5), (6, .inl v6), (7, .inl v7)] [] (N, M) := by
  intro fu
  induction fu with
  | zero =>
    intro v2 v3 v4 v5 v6 v7 M N res h
    cases h
  | succ fu ih =>
    intro v2 v3 v4 v5 v6 v7 M N res h K
    replace h : (if v7 < (M 20 0 0) then ((X8_of v7 2 M).bind fun q4 => (if q4 = v5 then ((X8_of v7 6 M).bind fun q5 => (X8_richest_L57 fu v2 v3 v4 v5 (v6 + q5) (v7 + 1) M)) else (X8_richest_L57 fu v2 v3 v4 v5 (v6 + 0) (v7 + 1) M))) else (some v6)) = some res := h
    refine G_iload dX8_richest_57 rfl ?_
    refine G_aload_n dX8_richest_59 rfl ?_
    refine fg_X8_7 rfl (by decide) dX8_richest_60 ?_
    refine G_iconst (v := 0) dX8_richest_63 (by decide) ?_
    refine al_20 (kk := 0) (v := (M 20 0 0)) (by decide) (by decide) (by decide) rfl dX8_richest_64 ?_
    refine G_icmp_ge (tgt := 103) dX8_richest_65 (by decide) (fun hc4 => ?_) (fun hc4 => ?_)
    · replace h := (if_neg hc4).symm.trans h
      refine G_sub [(0, .inr (.inr (19, 0))), (2, .inl v2), (3, .inl v3), (4, .inl v4), (5, .inl v5), (6, .inl v6)] [0, 1, 2, 3, 4, 5] rfl ?_
      obtain rfl := Option.some.inj h
      exact K
    · replace h := (if_pos hc4).symm.trans h
      refine G_iload dX8_richest_68 rfl ?_
      refine G_aload_n dX8_richest_70 rfl ?_
      refine G_iload dX8_richest_71 rfl ?_
      refine G_iconst (v := 2) dX8_richest_73 (by decide) ?_
      obtain ⟨q4, hq4, h⟩ := bnd h
      refine G_callVv (T := TX8) (N := 22) (f := 19) (i := 0) (X8_of_ok hq4) ok_X8_of ml_X8_53 (by decide) rfl (by decide) (by decide) (by decide) rfl rfl (Nat.le_of_ble_eq_true rfl) dX8_richest_74 ?_
      refine G_iload dX8_richest_77 rfl ?_
      refine G_icmp_ne (tgt := 93) dX8_richest_79 (by decide) (fun hc5 => ?_) (fun hc5 => ?_)
      · replace h := (if_neg hc5).symm.trans h
        refine G_iconst (v := 0) dX8_richest_93 (by decide) ?_
        refine G_iadd dX8_richest_94 ?_
        refine G_istore (L2 := [(6, .inl (v6 + 0)), (0, .inr (.inr (19, 0))), (2, .inl v2), (3, .inl v3), (4, .inl v4), (5, .inl v5), (7, .inl v7)]) dX8_richest_95 (by decide) rfl ?_
        refine G_iinc (v := (v7 + 1)) (L2 := [(7, .inl (v7 + 1)), (6, .inl (v6 + 0)), (0, .inr (.inr (19, 0))), (2, .inl v2), (3, .inl v3), (4, .inl v4), (5, .inl v5)]) dX8_richest_97 rfl (by first | rfl | (show _ + Int32.ofInt _ = _; rfl)) (by decide) rfl ?_
        refine G_goto (tgt := 57) dX8_richest_100 (by decide) ?_
        refine G_sub [(0, .inr (.inr (19, 0))), (2, .inl v2), (3, .inl v3), (4, .inl v4), (5, .inl v5), (6, .inl (v6 + 0)), (7, .inl (v7 + 1))] [2, 3, 4, 5, 6, 1, 0] rfl ?_
        exact ih v2 v3 v4 v5 (v6 + 0) (v7 + 1) M _  h K
      · replace h := (if_pos hc5).symm.trans h
        refine G_aload_n dX8_richest_82 rfl ?_
        refine G_iload dX8_richest_83 rfl ?_
        refine G_bipush (v := 6) dX8_richest_85 (by decide) ?_
        obtain ⟨q5, hq5, h⟩ := bnd h
        refine G_callVv (T := TX8) (N := 22) (f := 19) (i := 0) (X8_of_ok hq5) ok_X8_of ml_X8_53 (by decide) rfl (by decide) (by decide) (by decide) rfl rfl (Nat.le_of_ble_eq_true rfl) dX8_richest_87 ?_
        refine G_goto (tgt := 94) dX8_richest_90 (by decide) ?_
        refine G_iadd dX8_richest_94 ?_
        refine G_istore (L2 := [(6, .inl (v6 + q5)), (0, .inr (.inr (19, 0))), (2, .inl v2), (3, .inl v3), (4, .inl v4), (5, .inl v5), (7, .inl v7)]) dX8_richest_95 (by decide) rfl ?_
        refine G_iinc (v := (v7 + 1)) (L2 := [(7, .inl (v7 + 1)), (6, .inl (v6 + q5)), (0, .inr (.inr (19, 0))), (2, .inl v2), (3, .inl v3), (4, .inl v4), (5, .inl v5)]) dX8_richest_97 rfl (by first | rfl | (show _ + Int32.ofInt _ = _; rfl)) (by decide) rfl ?_
        refine G_goto (tgt := 57) dX8_richest_100 (by decide) ?_
        refine G_sub [(0, .inr (.inr (19, 0))), (2, .inl v2), (3, .inl v3), (4, .inl v4), (5, .inl v5), (6, .inl (v6 + q5)), (7, .inl (v7 + 1))] [2, 3, 4, 5, 6, 1, 0] rfl ?_
        exact ih v2 v3 v4 v5 (v6 + q5) (v7 + 1) M _  h K

def X8_richest_L45 : Nat → Int32 → Int32 → Int32 → Int32 → Mem → Option (Int32 × Int32)
  | 0, _, _, _, _, _ => none
  | fu + 1, v2, v3, v4, v5, M => (if v5 < 5 then ((X8_richest_L57 400 v2 v3 v4 v5 0 0 M).bind fun q6 => (if v4 < q6 then (X8_richest_L45 fu v2 v5 q6 (v5 + 1) M) else (X8_richest_L45 fu v2 v3 v4 (v5 + 1) M))) else (some (v3, v4)))
set_option maxRecDepth 100000 in
set_option maxHeartbeats 4000000 in
theorem X8_richest_L45_ok  {r : Option AV} {M' : MM} : ∀ (fu : Nat) (v2 : Int32) (v3 : Int32) (v4 : Int32) (v5 : Int32) (M N : Mem) {res : Int32 × Int32} (h : X8_richest_L45 fu v2 v3 v4 v5 M = some res) (K : G mt_X8_richest 6 r M' 123 [(0, .inr (.inr (19, 0))), (2, .inl v2), (3, .inl res.1), (4, .inl res.2)] [] (N, M)), G mt_X8_richest 6 r M' 45 [(0, .inr (.inr (19, 0))), (2, .inl v2), (3, .inl v3), (4, .inl v4), (5, .inl v5)] [] (N, M) := by
  intro fu
  induction fu with
  | zero =>
    intro v2 v3 v4 v5 M N res h
    cases h
  | succ fu ih =>
    intro v2 v3 v4 v5 M N res h K
    replace h : (if v5 < 5 then ((X8_richest_L57 400 v2 v3 v4 v5 0 0 M).bind fun q6 => (if v4 < q6 then (X8_richest_L45 fu v2 v5 q6 (v5 + 1) M) else (X8_richest_L45 fu v2 v3 v4 (v5 + 1) M))) else (some (v3, v4))) = some res := h
    refine G_iload dX8_richest_45 rfl ?_
    refine G_iconst (v := 5) dX8_richest_47 (by decide) ?_
    refine G_icmp_ge (tgt := 123) dX8_richest_48 (by decide) (fun hc3 => ?_) (fun hc3 => ?_)
    · replace h := (if_neg hc3).symm.trans h
      refine G_sub [(0, .inr (.inr (19, 0))), (2, .inl v2), (3, .inl v3), (4, .inl v4)] [0, 1, 2, 3] rfl ?_
      obtain rfl := Option.some.inj h
      exact K
    · replace h := (if_pos hc3).symm.trans h
      refine G_iconst (v := 0) dX8_richest_51 (by decide) ?_
      refine G_istore (L2 := [(6, .inl 0), (0, .inr (.inr (19, 0))), (2, .inl v2), (3, .inl v3), (4, .inl v4), (5, .inl v5)]) dX8_richest_52 (by decide) rfl ?_
      refine G_iconst (v := 0) dX8_richest_54 (by decide) ?_
      refine G_istore (L2 := [(7, .inl 0), (6, .inl 0), (0, .inr (.inr (19, 0))), (2, .inl v2), (3, .inl v3), (4, .inl v4), (5, .inl v5)]) dX8_richest_55 (by decide) rfl ?_
      refine G_sub [(0, .inr (.inr (19, 0))), (2, .inl v2), (3, .inl v3), (4, .inl v4), (5, .inl v5), (6, .inl 0), (7, .inl 0)] [2, 3, 4, 5, 6, 1, 0] rfl ?_
      obtain ⟨q6, hq6, h⟩ := bnd h
      refine X8_richest_L57_ok  400 v2 v3 v4 v5 0 0 M _  hq6 ?_
      refine G_iload dX8_richest_103 rfl ?_
      refine G_iload dX8_richest_105 rfl ?_
      refine G_icmp_le (tgt := 117) dX8_richest_107 (by decide) (fun hc6 => ?_) (fun hc6 => ?_)
      · replace h := (if_neg hc6).symm.trans h
        refine G_iinc (v := (v5 + 1)) (L2 := [(5, .inl (v5 + 1)), (0, .inr (.inr (19, 0))), (2, .inl v2), (3, .inl v3), (4, .inl v4), (6, .inl q6)]) dX8_richest_117 rfl (by first | rfl | (show _ + Int32.ofInt _ = _; rfl)) (by decide) rfl ?_
        refine G_goto (tgt := 45) dX8_richest_120 (by decide) ?_
        refine G_sub [(0, .inr (.inr (19, 0))), (2, .inl v2), (3, .inl v3), (4, .inl v4), (5, .inl (v5 + 1))] [1, 2, 3, 4, 0] rfl ?_
        exact ih v2 v3 v4 (v5 + 1) M _  h K
      · replace h := (if_pos hc6).symm.trans h
        refine G_iload dX8_richest_110 rfl ?_
        refine G_istore_n (L2 := [(3, .inl v5), (0, .inr (.inr (19, 0))), (2, .inl v2), (4, .inl v4), (5, .inl v5), (6, .inl q6)]) dX8_richest_112 (by decide) rfl ?_
        refine G_iload dX8_richest_113 rfl ?_
        refine G_istore (L2 := [(4, .inl q6), (3, .inl v5), (0, .inr (.inr (19, 0))), (2, .inl v2), (5, .inl v5), (6, .inl q6)]) dX8_richest_115 (by decide) rfl ?_
        refine G_iinc (v := (v5 + 1)) (L2 := [(5, .inl (v5 + 1)), (4, .inl q6), (3, .inl v5), (0, .inr (.inr (19, 0))), (2, .inl v2), (6, .inl q6)]) dX8_richest_117 rfl (by first | rfl | (show _ + Int32.ofInt _ = _; rfl)) (by decide) rfl ?_
        refine G_goto (tgt := 45) dX8_richest_120 (by decide) ?_
        refine G_sub [(0, .inr (.inr (19, 0))), (2, .inl v2), (3, .inl v5), (4, .inl q6), (5, .inl (v5 + 1))] [3, 4, 2, 1, 0] rfl ?_
        exact ih v2 v5 q6 (v5 + 1) M _  h K

def X8_richest (v1 : Int32) (v2 : Int32) (M : Mem) : Option (Int32 × Mem) := (if (X8_in (v1.toInt64) (0 : Int64) (60 : Int64)) = 0 then ((X8_finds 1 M).bind fun q1 => (some (q1.1, q1.2))) else (if (X8_in (v2.toInt64) (0 : Int64) (1 : Int64)) = 0 then ((X8_finds 1 M).bind fun q9 => (some (q9.1, q9.2))) else ((X8_keepAside M).bind fun q2 => ((X8_yearsGo v1 q2).bind fun q3 => ((X8_richest_L45 400 v2 0 (-1) 0 q3).bind fun q7 => ((X8_putBack q3).bind fun q8 => (if v2 = 0 then (some (q7.1, q8)) else (some (q7.2, q8)))))))))
set_option maxRecDepth 100000 in
set_option maxHeartbeats 4000000 in
theorem X8_richest_ok  {v1 : Int32} {v2 : Int32} {M N : Mem} {res : Int32 × Mem} (h : X8_richest v1 v2 M = some res) : Spec mt_X8_richest 6 [.inr (.inr (19, 0)), .inl v1, .inl v2] (N, M) (some (.inl res.1)) (N, res.2) := by
  unfold X8_richest at h
  refine Spec_of_G (by decide) rfl (Nat.le_of_ble_eq_true rfl) ?_
  refine G_sub [(0, .inr (.inr (19, 0))), (1, .inl v1), (2, .inl v2)] [0, 1, 2] rfl ?_
  refine G_iload_n dX8_richest_0 rfl ?_
  refine G_i2l dX8_richest_1 ?_
  refine G_lconst (v := 0) dX8_richest_2 (by decide) ?_
  refine G_ldc2 ko_X8_196 dX8_richest_3 ?_
  refine G_callSv  (X8_in_ok rfl) ok_X8_in ml_X8_47 (by decide) rfl rfl (Nat.le_of_ble_eq_true rfl) dX8_richest_6 ?_
  refine G_if_eq (tgt := 22) dX8_richest_9 (by decide) (fun hc1 => ?_) (fun hc1 => ?_)
  · replace h := (if_pos hc1).symm.trans h
    refine G_aload_n dX8_richest_22 rfl ?_
    refine G_iconst (v := 1) dX8_richest_23 (by decide) ?_
    obtain ⟨q1, hq1, h⟩ := bnd h
    refine G_callVv (T := TX8) (N := 22) (f := 19) (i := 0) (X8_finds_ok hq1) ok_X8_finds ml_X8_130 (by decide) rfl (by decide) (by decide) (by decide) rfl rfl (Nat.le_of_ble_eq_true rfl) dX8_richest_24 ?_
    obtain rfl := Option.some.inj h
    exact G_ret dX8_richest_27 trivial rfl rfl
  · replace h := (if_neg hc1).symm.trans h
    refine G_iload_n dX8_richest_12 rfl ?_
    refine G_i2l dX8_richest_13 ?_
    refine G_lconst (v := 0) dX8_richest_14 (by decide) ?_
    refine G_lconst (v := 1) dX8_richest_15 (by decide) ?_
    refine G_callSv  (X8_in_ok rfl) ok_X8_in ml_X8_47 (by decide) rfl rfl (Nat.le_of_ble_eq_true rfl) dX8_richest_16 ?_
    refine G_if_ne (tgt := 28) dX8_richest_19 (by decide) (fun hc2 => ?_) (fun hc2 => ?_)
    · replace h := (if_neg hc2).symm.trans h
      refine G_aload_n dX8_richest_28 rfl ?_
      obtain ⟨q2, hq2, h⟩ := bnd h
      refine G_callVn (T := TX8) (N := 22) (f := 19) (i := 0) (X8_keepAside_ok hq2) ok_X8_keepAside ml_X8_210 (by decide) rfl (by decide) (by decide) (by decide) rfl rfl (Nat.le_of_ble_eq_true rfl) dX8_richest_29 ?_
      refine G_aload_n dX8_richest_32 rfl ?_
      refine G_iload_n dX8_richest_33 rfl ?_
      obtain ⟨q3, hq3, h⟩ := bnd h
      refine G_callVn (T := TX8) (N := 22) (f := 19) (i := 0) (X8_yearsGo_ok hq3) ok_X8_yearsGo ml_X8_198 (by decide) rfl (by decide) (by decide) (by decide) rfl rfl (Nat.le_of_ble_eq_true rfl) dX8_richest_34 ?_
      refine G_iconst (v := 0) dX8_richest_37 (by decide) ?_
      refine G_istore_n (L2 := [(3, .inl 0), (0, .inr (.inr (19, 0))), (1, .inl v1), (2, .inl v2)]) dX8_richest_38 (by decide) rfl ?_
      refine G_iconst (v := (-1)) dX8_richest_39 (by decide) ?_
      refine G_istore (L2 := [(4, .inl (-1)), (3, .inl 0), (0, .inr (.inr (19, 0))), (1, .inl v1), (2, .inl v2)]) dX8_richest_40 (by decide) rfl ?_
      refine G_iconst (v := 0) dX8_richest_42 (by decide) ?_
      refine G_istore (L2 := [(5, .inl 0), (4, .inl (-1)), (3, .inl 0), (0, .inr (.inr (19, 0))), (1, .inl v1), (2, .inl v2)]) dX8_richest_43 (by decide) rfl ?_
      refine G_sub [(0, .inr (.inr (19, 0))), (2, .inl v2), (3, .inl 0), (4, .inl (-1)), (5, .inl 0)] [3, 5, 2, 1, 0] rfl ?_
      obtain ⟨q7, hq7, h⟩ := bnd h
      refine X8_richest_L45_ok  400 v2 0 (-1) 0 q3 _  hq7 ?_
      refine G_aload_n dX8_richest_123 rfl ?_
      obtain ⟨q8, hq8, h⟩ := bnd h
      refine G_callVn (T := TX8) (N := 22) (f := 19) (i := 0) (X8_putBack_ok hq8) ok_X8_putBack ml_X8_213 (by decide) rfl (by decide) (by decide) (by decide) rfl rfl (Nat.le_of_ble_eq_true rfl) dX8_richest_124 ?_
      refine G_iload_n dX8_richest_127 rfl ?_
      refine G_if_ne (tgt := 135) dX8_richest_128 (by decide) (fun hc7 => ?_) (fun hc7 => ?_)
      · replace h := (if_neg hc7).symm.trans h
        refine G_iload dX8_richest_135 rfl ?_
        obtain rfl := Option.some.inj h
        exact G_ret dX8_richest_137 trivial rfl rfl
      · replace h := (if_pos hc7).symm.trans h
        refine G_iload_n dX8_richest_131 rfl ?_
        refine G_goto (tgt := 137) dX8_richest_132 (by decide) ?_
        obtain rfl := Option.some.inj h
        exact G_ret dX8_richest_137 trivial rfl rfl
    · replace h := (if_pos hc2).symm.trans h
      refine G_aload_n dX8_richest_22 rfl ?_
      refine G_iconst (v := 1) dX8_richest_23 (by decide) ?_
      obtain ⟨q9, hq9, h⟩ := bnd h
      refine G_callVv (T := TX8) (N := 22) (f := 19) (i := 0) (X8_finds_ok hq9) ok_X8_finds ml_X8_130 (by decide) rfl (by decide) (by decide) (by decide) rfl rfl (Nat.le_of_ble_eq_true rfl) dX8_richest_24 ?_
      obtain rfl := Option.some.inj h
      exact G_ret dX8_richest_27 trivial rfl rfl

theorem dX8_breaks_0 : decode cX8_breaks 0 = .ok (.iload_n 1, 1) := by decide +kernel
theorem dX8_breaks_1 : decode cX8_breaks 1 = .ok (.i2l, 1) := by decide +kernel
theorem dX8_breaks_2 : decode cX8_breaks 2 = .ok (.lconst 0, 1) := by decide +kernel
theorem dX8_breaks_3 : decode cX8_breaks 3 = .ok (.ldc2_w 196, 3) := by decide +kernel
theorem dX8_breaks_6 : decode cX8_breaks 6 = .ok (.invokestatic 47, 3) := by decide +kernel
theorem dX8_breaks_9 : decode cX8_breaks 9 = .ok (.ifCond .ne 9, 3) := by decide +kernel
theorem dX8_breaks_12 : decode cX8_breaks 12 = .ok (.aload_n 0, 1) := by decide +kernel
theorem dX8_breaks_13 : decode cX8_breaks 13 = .ok (.iconst 1, 1) := by decide +kernel
theorem dX8_breaks_14 : decode cX8_breaks 14 = .ok (.invokevirtual 130, 3) := by decide +kernel
theorem dX8_breaks_17 : decode cX8_breaks 17 = .ok (.ireturn, 1) := by decide +kernel
theorem dX8_breaks_18 : decode cX8_breaks 18 = .ok (.aload_n 0, 1) := by decide +kernel
theorem dX8_breaks_19 : decode cX8_breaks 19 = .ok (.invokevirtual 210, 3) := by decide +kernel
theorem dX8_breaks_22 : decode cX8_breaks 22 = .ok (.aload_n 0, 1) := by decide +kernel
theorem dX8_breaks_23 : decode cX8_breaks 23 = .ok (.bipush 6, 2) := by decide +kernel
theorem dX8_breaks_25 : decode cX8_breaks 25 = .ok (.invokevirtual 177, 3) := by decide +kernel
theorem dX8_breaks_28 : decode cX8_breaks 28 = .ok (.invokestatic 218, 3) := by decide +kernel
theorem dX8_breaks_31 : decode cX8_breaks 31 = .ok (.istore_n 2, 1) := by decide +kernel
theorem dX8_breaks_32 : decode cX8_breaks 32 = .ok (.aload_n 0, 1) := by decide +kernel
theorem dX8_breaks_33 : decode cX8_breaks 33 = .ok (.iload_n 1, 1) := by decide +kernel
theorem dX8_breaks_34 : decode cX8_breaks 34 = .ok (.invokevirtual 198, 3) := by decide +kernel
theorem dX8_breaks_37 : decode cX8_breaks 37 = .ok (.aload_n 0, 1) := by decide +kernel
theorem dX8_breaks_38 : decode cX8_breaks 38 = .ok (.bipush 6, 2) := by decide +kernel
theorem dX8_breaks_40 : decode cX8_breaks 40 = .ok (.invokevirtual 177, 3) := by decide +kernel
theorem dX8_breaks_43 : decode cX8_breaks 43 = .ok (.invokestatic 218, 3) := by decide +kernel
theorem dX8_breaks_46 : decode cX8_breaks 46 = .ok (.istore_n 3, 1) := by decide +kernel
theorem dX8_breaks_47 : decode cX8_breaks 47 = .ok (.aload_n 0, 1) := by decide +kernel
theorem dX8_breaks_48 : decode cX8_breaks 48 = .ok (.invokevirtual 213, 3) := by decide +kernel
theorem dX8_breaks_51 : decode cX8_breaks 51 = .ok (.iload_n 3, 1) := by decide +kernel
theorem dX8_breaks_52 : decode cX8_breaks 52 = .ok (.iload_n 2, 1) := by decide +kernel
theorem dX8_breaks_53 : decode cX8_breaks 53 = .ok (.isub, 1) := by decide +kernel
theorem dX8_breaks_54 : decode cX8_breaks 54 = .ok (.ireturn, 1) := by decide +kernel
def X8_breaks (v1 : Int32) (M : Mem) : Option (Int32 × Mem) := (if (X8_in (v1.toInt64) (0 : Int64) (60 : Int64)) = 0 then ((X8_finds 1 M).bind fun q8 => (some (q8.1, q8.2))) else ((X8_keepAside M).bind fun q1 => ((X8_setOf 6 q1).bind fun q2 => ((X8_bits q2).bind fun q3 => ((X8_yearsGo v1 q1).bind fun q4 => ((X8_setOf 6 q4).bind fun q5 => ((X8_bits q5).bind fun q6 => ((X8_putBack q4).bind fun q7 => (some ((q6 - q3), q7))))))))))
set_option maxRecDepth 100000 in
set_option maxHeartbeats 4000000 in
theorem X8_breaks_ok  {v1 : Int32} {M N : Mem} {res : Int32 × Mem} (h : X8_breaks v1 M = some res) : Spec mt_X8_breaks 6 [.inr (.inr (19, 0)), .inl v1] (N, M) (some (.inl res.1)) (N, res.2) := by
  unfold X8_breaks at h
  refine Spec_of_G (by decide) rfl (Nat.le_of_ble_eq_true rfl) ?_
  refine G_sub [(0, .inr (.inr (19, 0))), (1, .inl v1)] [0, 1] rfl ?_
  refine G_iload_n dX8_breaks_0 rfl ?_
  refine G_i2l dX8_breaks_1 ?_
  refine G_lconst (v := 0) dX8_breaks_2 (by decide) ?_
  refine G_ldc2 ko_X8_196 dX8_breaks_3 ?_
  refine G_callSv  (X8_in_ok rfl) ok_X8_in ml_X8_47 (by decide) rfl rfl (Nat.le_of_ble_eq_true rfl) dX8_breaks_6 ?_
  refine G_if_ne (tgt := 18) dX8_breaks_9 (by decide) (fun hc1 => ?_) (fun hc1 => ?_)
  · replace h := (if_neg hc1).symm.trans h
    refine G_aload_n dX8_breaks_18 rfl ?_
    obtain ⟨q1, hq1, h⟩ := bnd h
    refine G_callVn (T := TX8) (N := 22) (f := 19) (i := 0) (X8_keepAside_ok hq1) ok_X8_keepAside ml_X8_210 (by decide) rfl (by decide) (by decide) (by decide) rfl rfl (Nat.le_of_ble_eq_true rfl) dX8_breaks_19 ?_
    refine G_aload_n dX8_breaks_22 rfl ?_
    refine G_bipush (v := 6) dX8_breaks_23 (by decide) ?_
    obtain ⟨q2, hq2, h⟩ := bnd h
    refine G_callVv (T := TX8) (N := 22) (f := 19) (i := 0) (X8_setOf_ok hq2) ok_X8_setOf ml_X8_177 (by decide) rfl (by decide) (by decide) (by decide) rfl rfl (Nat.le_of_ble_eq_true rfl) dX8_breaks_25 ?_
    obtain ⟨q3, hq3, h⟩ := bnd h
    refine G_callSv  (X8_bits_ok hq3) ok_X8_bits ml_X8_218 (by decide) rfl rfl (Nat.le_of_ble_eq_true rfl) dX8_breaks_28 ?_
    refine G_istore_n (L2 := [(2, .inl q3), (0, .inr (.inr (19, 0))), (1, .inl v1)]) dX8_breaks_31 (by decide) rfl ?_
    refine G_aload_n dX8_breaks_32 rfl ?_
    refine G_iload_n dX8_breaks_33 rfl ?_
    obtain ⟨q4, hq4, h⟩ := bnd h
    refine G_callVn (T := TX8) (N := 22) (f := 19) (i := 0) (X8_yearsGo_ok hq4) ok_X8_yearsGo ml_X8_198 (by decide) rfl (by decide) (by decide) (by decide) rfl rfl (Nat.le_of_ble_eq_true rfl) dX8_breaks_34 ?_
    refine G_aload_n dX8_breaks_37 rfl ?_
    refine G_bipush (v := 6) dX8_breaks_38 (by decide) ?_
    obtain ⟨q5, hq5, h⟩ := bnd h
    refine G_callVv (T := TX8) (N := 22) (f := 19) (i := 0) (X8_setOf_ok hq5) ok_X8_setOf ml_X8_177 (by decide) rfl (by decide) (by decide) (by decide) rfl rfl (Nat.le_of_ble_eq_true rfl) dX8_breaks_40 ?_
    obtain ⟨q6, hq6, h⟩ := bnd h
    refine G_callSv  (X8_bits_ok hq6) ok_X8_bits ml_X8_218 (by decide) rfl rfl (Nat.le_of_ble_eq_true rfl) dX8_breaks_43 ?_
    refine G_istore_n (L2 := [(3, .inl q6), (2, .inl q3), (0, .inr (.inr (19, 0))), (1, .inl v1)]) dX8_breaks_46 (by decide) rfl ?_
    refine G_aload_n dX8_breaks_47 rfl ?_
    obtain ⟨q7, hq7, h⟩ := bnd h
    refine G_callVn (T := TX8) (N := 22) (f := 19) (i := 0) (X8_putBack_ok hq7) ok_X8_putBack ml_X8_213 (by decide) rfl (by decide) (by decide) (by decide) rfl rfl (Nat.le_of_ble_eq_true rfl) dX8_breaks_48 ?_
    refine G_iload_n dX8_breaks_51 rfl ?_
    refine G_iload_n dX8_breaks_52 rfl ?_
    refine G_isub dX8_breaks_53 ?_
    obtain rfl := Option.some.inj h
    exact G_ret dX8_breaks_54 trivial rfl rfl
  · replace h := (if_pos hc1).symm.trans h
    refine G_aload_n dX8_breaks_12 rfl ?_
    refine G_iconst (v := 1) dX8_breaks_13 (by decide) ?_
    obtain ⟨q8, hq8, h⟩ := bnd h
    refine G_callVv (T := TX8) (N := 22) (f := 19) (i := 0) (X8_finds_ok hq8) ok_X8_finds ml_X8_130 (by decide) rfl (by decide) (by decide) (by decide) rfl rfl (Nat.le_of_ble_eq_true rfl) dX8_breaks_14 ?_
    obtain rfl := Option.some.inj h
    exact G_ret dX8_breaks_17 trivial rfl rfl

theorem dX8_dealer_0 : decode cX8_dealer 0 = .ok (.iload_n 1, 1) := by decide +kernel
theorem dX8_dealer_1 : decode cX8_dealer 1 = .ok (.i2l, 1) := by decide +kernel
theorem dX8_dealer_2 : decode cX8_dealer 2 = .ok (.lconst 0, 1) := by decide +kernel
theorem dX8_dealer_3 : decode cX8_dealer 3 = .ok (.ldc2_w 224, 3) := by decide +kernel
theorem dX8_dealer_6 : decode cX8_dealer 6 = .ok (.invokestatic 47, 3) := by decide +kernel
theorem dX8_dealer_9 : decode cX8_dealer 9 = .ok (.ifCond .ne 9, 3) := by decide +kernel
theorem dX8_dealer_12 : decode cX8_dealer 12 = .ok (.aload_n 0, 1) := by decide +kernel
theorem dX8_dealer_13 : decode cX8_dealer 13 = .ok (.iconst 1, 1) := by decide +kernel
theorem dX8_dealer_14 : decode cX8_dealer 14 = .ok (.invokevirtual 130, 3) := by decide +kernel
theorem dX8_dealer_17 : decode cX8_dealer 17 = .ok (.ireturn, 1) := by decide +kernel
theorem dX8_dealer_18 : decode cX8_dealer 18 = .ok (.aload_n 0, 1) := by decide +kernel
theorem dX8_dealer_19 : decode cX8_dealer 19 = .ok (.invokevirtual 210, 3) := by decide +kernel
theorem dX8_dealer_22 : decode cX8_dealer 22 = .ok (.aload_n 0, 1) := by decide +kernel
theorem dX8_dealer_23 : decode cX8_dealer 23 = .ok (.iload_n 1, 1) := by decide +kernel
theorem dX8_dealer_24 : decode cX8_dealer 24 = .ok (.invokevirtual 198, 3) := by decide +kernel
theorem dX8_dealer_27 : decode cX8_dealer 27 = .ok (.aload_n 0, 1) := by decide +kernel
theorem dX8_dealer_28 : decode cX8_dealer 28 = .ok (.invokevirtual 201, 3) := by decide +kernel
theorem dX8_dealer_31 : decode cX8_dealer 31 = .ok (.istore_n 2, 1) := by decide +kernel
theorem dX8_dealer_32 : decode cX8_dealer 32 = .ok (.aload_n 0, 1) := by decide +kernel
theorem dX8_dealer_33 : decode cX8_dealer 33 = .ok (.invokevirtual 213, 3) := by decide +kernel
theorem dX8_dealer_36 : decode cX8_dealer 36 = .ok (.iconst (-1), 1) := by decide +kernel
theorem dX8_dealer_37 : decode cX8_dealer 37 = .ok (.istore_n 3, 1) := by decide +kernel
theorem dX8_dealer_38 : decode cX8_dealer 38 = .ok (.iconst 0, 1) := by decide +kernel
theorem dX8_dealer_39 : decode cX8_dealer 39 = .ok (.istore 4, 2) := by decide +kernel
theorem dX8_dealer_41 : decode cX8_dealer 41 = .ok (.iload 4, 2) := by decide +kernel
theorem dX8_dealer_43 : decode cX8_dealer 43 = .ok (.aload_n 0, 1) := by decide +kernel
theorem dX8_dealer_44 : decode cX8_dealer 44 = .ok (.getfield 7, 3) := by decide +kernel
theorem dX8_dealer_47 : decode cX8_dealer 47 = .ok (.iconst 0, 1) := by decide +kernel
theorem dX8_dealer_48 : decode cX8_dealer 48 = .ok (.iaload, 1) := by decide +kernel
theorem dX8_dealer_49 : decode cX8_dealer 49 = .ok (.if_icmp .ge 74, 3) := by decide +kernel
theorem dX8_dealer_52 : decode cX8_dealer 52 = .ok (.aload_n 0, 1) := by decide +kernel
theorem dX8_dealer_53 : decode cX8_dealer 53 = .ok (.iload 4, 2) := by decide +kernel
theorem dX8_dealer_55 : decode cX8_dealer 55 = .ok (.invokevirtual 164, 3) := by decide +kernel
theorem dX8_dealer_58 : decode cX8_dealer 58 = .ok (.ifCond .ne 59, 3) := by decide +kernel
theorem dX8_dealer_61 : decode cX8_dealer 61 = .ok (.aload_n 0, 1) := by decide +kernel
theorem dX8_dealer_62 : decode cX8_dealer 62 = .ok (.iload 4, 2) := by decide +kernel
theorem dX8_dealer_64 : decode cX8_dealer 64 = .ok (.bipush 6, 2) := by decide +kernel
theorem dX8_dealer_66 : decode cX8_dealer 66 = .ok (.invokevirtual 53, 3) := by decide +kernel
theorem dX8_dealer_69 : decode cX8_dealer 69 = .ok (.ifCond .ne 48, 3) := by decide +kernel
theorem dX8_dealer_72 : decode cX8_dealer 72 = .ok (.aload_n 0, 1) := by decide +kernel
theorem dX8_dealer_73 : decode cX8_dealer 73 = .ok (.iload 4, 2) := by decide +kernel
theorem dX8_dealer_75 : decode cX8_dealer 75 = .ok (.bipush 6, 2) := by decide +kernel
theorem dX8_dealer_77 : decode cX8_dealer 77 = .ok (.iconst 1, 1) := by decide +kernel
theorem dX8_dealer_78 : decode cX8_dealer 78 = .ok (.invokevirtual 149, 3) := by decide +kernel
theorem dX8_dealer_81 : decode cX8_dealer 81 = .ok (.aload_n 0, 1) := by decide +kernel
theorem dX8_dealer_82 : decode cX8_dealer 82 = .ok (.iload 4, 2) := by decide +kernel
theorem dX8_dealer_84 : decode cX8_dealer 84 = .ok (.bipush 7, 2) := by decide +kernel
theorem dX8_dealer_86 : decode cX8_dealer 86 = .ok (.iconst 1, 1) := by decide +kernel
theorem dX8_dealer_87 : decode cX8_dealer 87 = .ok (.invokevirtual 149, 3) := by decide +kernel
theorem dX8_dealer_90 : decode cX8_dealer 90 = .ok (.aload_n 0, 1) := by decide +kernel
theorem dX8_dealer_91 : decode cX8_dealer 91 = .ok (.iload_n 1, 1) := by decide +kernel
theorem dX8_dealer_92 : decode cX8_dealer 92 = .ok (.invokevirtual 198, 3) := by decide +kernel
theorem dX8_dealer_95 : decode cX8_dealer 95 = .ok (.aload_n 0, 1) := by decide +kernel
theorem dX8_dealer_96 : decode cX8_dealer 96 = .ok (.invokevirtual 201, 3) := by decide +kernel
theorem dX8_dealer_99 : decode cX8_dealer 99 = .ok (.istore 5, 2) := by decide +kernel
theorem dX8_dealer_101 : decode cX8_dealer 101 = .ok (.aload_n 0, 1) := by decide +kernel
theorem dX8_dealer_102 : decode cX8_dealer 102 = .ok (.invokevirtual 213, 3) := by decide +kernel
theorem dX8_dealer_105 : decode cX8_dealer 105 = .ok (.iload 5, 2) := by decide +kernel
theorem dX8_dealer_107 : decode cX8_dealer 107 = .ok (.iload_n 2, 1) := by decide +kernel
theorem dX8_dealer_108 : decode cX8_dealer 108 = .ok (.if_icmp .le 9, 3) := by decide +kernel
theorem dX8_dealer_111 : decode cX8_dealer 111 = .ok (.iload 4, 2) := by decide +kernel
theorem dX8_dealer_113 : decode cX8_dealer 113 = .ok (.istore_n 3, 1) := by decide +kernel
theorem dX8_dealer_114 : decode cX8_dealer 114 = .ok (.iload 5, 2) := by decide +kernel
theorem dX8_dealer_116 : decode cX8_dealer 116 = .ok (.istore_n 2, 1) := by decide +kernel
theorem dX8_dealer_117 : decode cX8_dealer 117 = .ok (.iinc 4 1, 3) := by decide +kernel
theorem dX8_dealer_120 : decode cX8_dealer 120 = .ok (.goto (-79), 3) := by decide +kernel
theorem dX8_dealer_123 : decode cX8_dealer 123 = .ok (.iload_n 3, 1) := by decide +kernel
theorem dX8_dealer_124 : decode cX8_dealer 124 = .ok (.ireturn, 1) := by decide +kernel
def X8_dealer_L41 : Nat → Int32 → Int32 → Int32 → Int32 → Mem → Option (Int32 × Mem)
  | 0, _, _, _, _, _ => none
  | fu + 1, v1, v2, v3, v4, M => (if v4 < (M 20 0 0) then ((X8_isBroken v4 M).bind fun q5 => (if q5 = 0 then ((X8_of v4 6 M).bind fun q6 => (if q6 = 0 then ((X8_sets v4 6 1 M).bind fun q7 => ((X8_sets v4 7 1 q7).bind fun q8 => ((X8_yearsGo v1 q8).bind fun q9 => ((X8_handles q9).bind fun q10 => ((X8_putBack q9).bind fun q11 => (if v2 < q10 then (X8_dealer_L41 fu v1 q10 v4 (v4 + 1) q11) else (X8_dealer_L41 fu v1 v2 v3 (v4 + 1) q11))))))) else (X8_dealer_L41 fu v1 v2 v3 (v4 + 1) M))) else (X8_dealer_L41 fu v1 v2 v3 (v4 + 1) M))) else (some (v3, M)))
set_option maxRecDepth 100000 in
set_option maxHeartbeats 4000000 in
theorem X8_dealer_L41_ok  {r : Option AV} {M' : MM} : ∀ (fu : Nat) (v1 : Int32) (v2 : Int32) (v3 : Int32) (v4 : Int32) (M N : Mem) {res : Int32 × Mem} (h : X8_dealer_L41 fu v1 v2 v3 v4 M = some res) (K : G mt_X8_dealer 6 r M' 123 [(3, .inl res.1)] [] (N, res.2)), G mt_X8_dealer 6 r M' 41 [(0, .inr (.inr (19, 0))), (1, .inl v1), (2, .inl v2), (3, .inl v3), (4, .inl v4)] [] (N, M) := by
  intro fu
  induction fu with
  | zero =>
    intro v1 v2 v3 v4 M N res h
    cases h
  | succ fu ih =>
    intro v1 v2 v3 v4 M N res h K
    replace h : (if v4 < (M 20 0 0) then ((X8_isBroken v4 M).bind fun q5 => (if q5 = 0 then ((X8_of v4 6 M).bind fun q6 => (if q6 = 0 then ((X8_sets v4 6 1 M).bind fun q7 => ((X8_sets v4 7 1 q7).bind fun q8 => ((X8_yearsGo v1 q8).bind fun q9 => ((X8_handles q9).bind fun q10 => ((X8_putBack q9).bind fun q11 => (if v2 < q10 then (X8_dealer_L41 fu v1 q10 v4 (v4 + 1) q11) else (X8_dealer_L41 fu v1 v2 v3 (v4 + 1) q11))))))) else (X8_dealer_L41 fu v1 v2 v3 (v4 + 1) M))) else (X8_dealer_L41 fu v1 v2 v3 (v4 + 1) M))) else (some (v3, M))) = some res := h
    refine G_iload dX8_dealer_41 rfl ?_
    refine G_aload_n dX8_dealer_43 rfl ?_
    refine fg_X8_7 rfl (by decide) dX8_dealer_44 ?_
    refine G_iconst (v := 0) dX8_dealer_47 (by decide) ?_
    refine al_20 (kk := 0) (v := (M 20 0 0)) (by decide) (by decide) (by decide) rfl dX8_dealer_48 ?_
    refine G_icmp_ge (tgt := 123) dX8_dealer_49 (by decide) (fun hc2 => ?_) (fun hc2 => ?_)
    · replace h := (if_neg hc2).symm.trans h
      refine G_sub [(3, .inl v3)] [3] rfl ?_
      obtain rfl := Option.some.inj h
      exact K
    · replace h := (if_pos hc2).symm.trans h
      refine G_aload_n dX8_dealer_52 rfl ?_
      refine G_iload dX8_dealer_53 rfl ?_
      obtain ⟨q5, hq5, h⟩ := bnd h
      refine G_callVv (T := TX8) (N := 22) (f := 19) (i := 0) (X8_isBroken_ok hq5) ok_X8_isBroken ml_X8_164 (by decide) rfl (by decide) (by decide) (by decide) rfl rfl (Nat.le_of_ble_eq_true rfl) dX8_dealer_55 ?_
      refine G_if_ne (tgt := 117) dX8_dealer_58 (by decide) (fun hc3 => ?_) (fun hc3 => ?_)
      · replace h := (if_neg hc3).symm.trans h
        refine G_iinc (v := (v4 + 1)) (L2 := [(4, .inl (v4 + 1)), (0, .inr (.inr (19, 0))), (1, .inl v1), (2, .inl v2), (3, .inl v3)]) dX8_dealer_117 rfl (by first | rfl | (show _ + Int32.ofInt _ = _; rfl)) (by decide) rfl ?_
        refine G_goto (tgt := 41) dX8_dealer_120 (by decide) ?_
        refine G_sub [(0, .inr (.inr (19, 0))), (1, .inl v1), (2, .inl v2), (3, .inl v3), (4, .inl (v4 + 1))] [1, 2, 3, 4, 0] rfl ?_
        exact ih v1 v2 v3 (v4 + 1) M _  h K
      · replace h := (if_pos hc3).symm.trans h
        refine G_aload_n dX8_dealer_61 rfl ?_
        refine G_iload dX8_dealer_62 rfl ?_
        refine G_bipush (v := 6) dX8_dealer_64 (by decide) ?_
        obtain ⟨q6, hq6, h⟩ := bnd h
        refine G_callVv (T := TX8) (N := 22) (f := 19) (i := 0) (X8_of_ok hq6) ok_X8_of ml_X8_53 (by decide) rfl (by decide) (by decide) (by decide) rfl rfl (Nat.le_of_ble_eq_true rfl) dX8_dealer_66 ?_
        refine G_if_ne (tgt := 117) dX8_dealer_69 (by decide) (fun hc4 => ?_) (fun hc4 => ?_)
        · replace h := (if_neg hc4).symm.trans h
          refine G_iinc (v := (v4 + 1)) (L2 := [(4, .inl (v4 + 1)), (0, .inr (.inr (19, 0))), (1, .inl v1), (2, .inl v2), (3, .inl v3)]) dX8_dealer_117 rfl (by first | rfl | (show _ + Int32.ofInt _ = _; rfl)) (by decide) rfl ?_
          refine G_goto (tgt := 41) dX8_dealer_120 (by decide) ?_
          refine G_sub [(0, .inr (.inr (19, 0))), (1, .inl v1), (2, .inl v2), (3, .inl v3), (4, .inl (v4 + 1))] [1, 2, 3, 4, 0] rfl ?_
          exact ih v1 v2 v3 (v4 + 1) M _  h K
        · replace h := (if_pos hc4).symm.trans h
          refine G_aload_n dX8_dealer_72 rfl ?_
          refine G_iload dX8_dealer_73 rfl ?_
          refine G_bipush (v := 6) dX8_dealer_75 (by decide) ?_
          refine G_iconst (v := 1) dX8_dealer_77 (by decide) ?_
          obtain ⟨q7, hq7, h⟩ := bnd h
          refine G_callVn (T := TX8) (N := 22) (f := 19) (i := 0) (X8_sets_ok hq7) ok_X8_sets ml_X8_149 (by decide) rfl (by decide) (by decide) (by decide) rfl rfl (Nat.le_of_ble_eq_true rfl) dX8_dealer_78 ?_
          refine G_aload_n dX8_dealer_81 rfl ?_
          refine G_iload dX8_dealer_82 rfl ?_
          refine G_bipush (v := 7) dX8_dealer_84 (by decide) ?_
          refine G_iconst (v := 1) dX8_dealer_86 (by decide) ?_
          obtain ⟨q8, hq8, h⟩ := bnd h
          refine G_callVn (T := TX8) (N := 22) (f := 19) (i := 0) (X8_sets_ok hq8) ok_X8_sets ml_X8_149 (by decide) rfl (by decide) (by decide) (by decide) rfl rfl (Nat.le_of_ble_eq_true rfl) dX8_dealer_87 ?_
          refine G_aload_n dX8_dealer_90 rfl ?_
          refine G_iload_n dX8_dealer_91 rfl ?_
          obtain ⟨q9, hq9, h⟩ := bnd h
          refine G_callVn (T := TX8) (N := 22) (f := 19) (i := 0) (X8_yearsGo_ok hq9) ok_X8_yearsGo ml_X8_198 (by decide) rfl (by decide) (by decide) (by decide) rfl rfl (Nat.le_of_ble_eq_true rfl) dX8_dealer_92 ?_
          refine G_aload_n dX8_dealer_95 rfl ?_
          obtain ⟨q10, hq10, h⟩ := bnd h
          refine G_callVv (T := TX8) (N := 22) (f := 19) (i := 0) (X8_handles_ok hq10) ok_X8_handles ml_X8_201 (by decide) rfl (by decide) (by decide) (by decide) rfl rfl (Nat.le_of_ble_eq_true rfl) dX8_dealer_96 ?_
          refine G_istore (L2 := [(5, .inl q10), (0, .inr (.inr (19, 0))), (1, .inl v1), (2, .inl v2), (3, .inl v3), (4, .inl v4)]) dX8_dealer_99 (by decide) rfl ?_
          refine G_aload_n dX8_dealer_101 rfl ?_
          obtain ⟨q11, hq11, h⟩ := bnd h
          refine G_callVn (T := TX8) (N := 22) (f := 19) (i := 0) (X8_putBack_ok hq11) ok_X8_putBack ml_X8_213 (by decide) rfl (by decide) (by decide) (by decide) rfl rfl (Nat.le_of_ble_eq_true rfl) dX8_dealer_102 ?_
          refine G_iload dX8_dealer_105 rfl ?_
          refine G_iload_n dX8_dealer_107 rfl ?_
          refine G_icmp_le (tgt := 117) dX8_dealer_108 (by decide) (fun hc5 => ?_) (fun hc5 => ?_)
          · replace h := (if_neg hc5).symm.trans h
            refine G_iinc (v := (v4 + 1)) (L2 := [(4, .inl (v4 + 1)), (5, .inl q10), (0, .inr (.inr (19, 0))), (1, .inl v1), (2, .inl v2), (3, .inl v3)]) dX8_dealer_117 rfl (by first | rfl | (show _ + Int32.ofInt _ = _; rfl)) (by decide) rfl ?_
            refine G_goto (tgt := 41) dX8_dealer_120 (by decide) ?_
            refine G_sub [(0, .inr (.inr (19, 0))), (1, .inl v1), (2, .inl v2), (3, .inl v3), (4, .inl (v4 + 1))] [2, 3, 4, 5, 0] rfl ?_
            exact ih v1 v2 v3 (v4 + 1) q11 _  h K
          · replace h := (if_pos hc5).symm.trans h
            refine G_iload dX8_dealer_111 rfl ?_
            refine G_istore_n (L2 := [(3, .inl v4), (5, .inl q10), (0, .inr (.inr (19, 0))), (1, .inl v1), (2, .inl v2), (4, .inl v4)]) dX8_dealer_113 (by decide) rfl ?_
            refine G_iload dX8_dealer_114 rfl ?_
            refine G_istore_n (L2 := [(2, .inl q10), (3, .inl v4), (5, .inl q10), (0, .inr (.inr (19, 0))), (1, .inl v1), (4, .inl v4)]) dX8_dealer_116 (by decide) rfl ?_
            refine G_iinc (v := (v4 + 1)) (L2 := [(4, .inl (v4 + 1)), (2, .inl q10), (3, .inl v4), (5, .inl q10), (0, .inr (.inr (19, 0))), (1, .inl v1)]) dX8_dealer_117 rfl (by first | rfl | (show _ + Int32.ofInt _ = _; rfl)) (by decide) rfl ?_
            refine G_goto (tgt := 41) dX8_dealer_120 (by decide) ?_
            refine G_sub [(0, .inr (.inr (19, 0))), (1, .inl v1), (2, .inl q10), (3, .inl v4), (4, .inl (v4 + 1))] [4, 5, 1, 2, 0] rfl ?_
            exact ih v1 q10 v4 (v4 + 1) q11 _  h K

def X8_dealer (v1 : Int32) (M : Mem) : Option (Int32 × Mem) := (if (X8_in (v1.toInt64) (0 : Int64) (30 : Int64)) = 0 then ((X8_finds 1 M).bind fun q13 => (some (q13.1, q13.2))) else ((X8_keepAside M).bind fun q1 => ((X8_yearsGo v1 q1).bind fun q2 => ((X8_handles q2).bind fun q3 => ((X8_putBack q2).bind fun q4 => ((X8_dealer_L41 400 v1 q3 (-1) 0 q4).bind fun q12 => (some (q12.1, q12.2))))))))
set_option maxRecDepth 100000 in
set_option maxHeartbeats 4000000 in
theorem X8_dealer_ok  {v1 : Int32} {M N : Mem} {res : Int32 × Mem} (h : X8_dealer v1 M = some res) : Spec mt_X8_dealer 6 [.inr (.inr (19, 0)), .inl v1] (N, M) (some (.inl res.1)) (N, res.2) := by
  unfold X8_dealer at h
  refine Spec_of_G (by decide) rfl (Nat.le_of_ble_eq_true rfl) ?_
  refine G_sub [(0, .inr (.inr (19, 0))), (1, .inl v1)] [0, 1] rfl ?_
  refine G_iload_n dX8_dealer_0 rfl ?_
  refine G_i2l dX8_dealer_1 ?_
  refine G_lconst (v := 0) dX8_dealer_2 (by decide) ?_
  refine G_ldc2 ko_X8_224 dX8_dealer_3 ?_
  refine G_callSv  (X8_in_ok rfl) ok_X8_in ml_X8_47 (by decide) rfl rfl (Nat.le_of_ble_eq_true rfl) dX8_dealer_6 ?_
  refine G_if_ne (tgt := 18) dX8_dealer_9 (by decide) (fun hc1 => ?_) (fun hc1 => ?_)
  · replace h := (if_neg hc1).symm.trans h
    refine G_aload_n dX8_dealer_18 rfl ?_
    obtain ⟨q1, hq1, h⟩ := bnd h
    refine G_callVn (T := TX8) (N := 22) (f := 19) (i := 0) (X8_keepAside_ok hq1) ok_X8_keepAside ml_X8_210 (by decide) rfl (by decide) (by decide) (by decide) rfl rfl (Nat.le_of_ble_eq_true rfl) dX8_dealer_19 ?_
    refine G_aload_n dX8_dealer_22 rfl ?_
    refine G_iload_n dX8_dealer_23 rfl ?_
    obtain ⟨q2, hq2, h⟩ := bnd h
    refine G_callVn (T := TX8) (N := 22) (f := 19) (i := 0) (X8_yearsGo_ok hq2) ok_X8_yearsGo ml_X8_198 (by decide) rfl (by decide) (by decide) (by decide) rfl rfl (Nat.le_of_ble_eq_true rfl) dX8_dealer_24 ?_
    refine G_aload_n dX8_dealer_27 rfl ?_
    obtain ⟨q3, hq3, h⟩ := bnd h
    refine G_callVv (T := TX8) (N := 22) (f := 19) (i := 0) (X8_handles_ok hq3) ok_X8_handles ml_X8_201 (by decide) rfl (by decide) (by decide) (by decide) rfl rfl (Nat.le_of_ble_eq_true rfl) dX8_dealer_28 ?_
    refine G_istore_n (L2 := [(2, .inl q3), (0, .inr (.inr (19, 0))), (1, .inl v1)]) dX8_dealer_31 (by decide) rfl ?_
    refine G_aload_n dX8_dealer_32 rfl ?_
    obtain ⟨q4, hq4, h⟩ := bnd h
    refine G_callVn (T := TX8) (N := 22) (f := 19) (i := 0) (X8_putBack_ok hq4) ok_X8_putBack ml_X8_213 (by decide) rfl (by decide) (by decide) (by decide) rfl rfl (Nat.le_of_ble_eq_true rfl) dX8_dealer_33 ?_
    refine G_iconst (v := (-1)) dX8_dealer_36 (by decide) ?_
    refine G_istore_n (L2 := [(3, .inl (-1)), (2, .inl q3), (0, .inr (.inr (19, 0))), (1, .inl v1)]) dX8_dealer_37 (by decide) rfl ?_
    refine G_iconst (v := 0) dX8_dealer_38 (by decide) ?_
    refine G_istore (L2 := [(4, .inl 0), (3, .inl (-1)), (2, .inl q3), (0, .inr (.inr (19, 0))), (1, .inl v1)]) dX8_dealer_39 (by decide) rfl ?_
    refine G_sub [(0, .inr (.inr (19, 0))), (1, .inl v1), (2, .inl q3), (3, .inl (-1)), (4, .inl 0)] [3, 4, 2, 1, 0] rfl ?_
    obtain ⟨q12, hq12, h⟩ := bnd h
    refine X8_dealer_L41_ok  400 v1 q3 (-1) 0 q4 _  hq12 ?_
    refine G_iload_n dX8_dealer_123 rfl ?_
    obtain rfl := Option.some.inj h
    exact G_ret dX8_dealer_124 trivial rfl rfl
  · replace h := (if_pos hc1).symm.trans h
    refine G_aload_n dX8_dealer_12 rfl ?_
    refine G_iconst (v := 1) dX8_dealer_13 (by decide) ?_
    obtain ⟨q13, hq13, h⟩ := bnd h
    refine G_callVv (T := TX8) (N := 22) (f := 19) (i := 0) (X8_finds_ok hq13) ok_X8_finds ml_X8_130 (by decide) rfl (by decide) (by decide) (by decide) rfl rfl (Nat.le_of_ble_eq_true rfl) dX8_dealer_14 ?_
    obtain rfl := Option.some.inj h
    exact G_ret dX8_dealer_17 trivial rfl rfl

theorem dX8_common_0 : decode cX8_common 0 = .ok (.iload_n 0, 1) := by decide +kernel
theorem dX8_common_1 : decode cX8_common 1 = .ok (.istore_n 2, 1) := by decide +kernel
theorem dX8_common_2 : decode cX8_common 2 = .ok (.iload_n 1, 1) := by decide +kernel
theorem dX8_common_3 : decode cX8_common 3 = .ok (.istore_n 3, 1) := by decide +kernel
theorem dX8_common_4 : decode cX8_common 4 = .ok (.iload_n 3, 1) := by decide +kernel
theorem dX8_common_5 : decode cX8_common 5 = .ok (.ifCond .eq 16, 3) := by decide +kernel
theorem dX8_common_8 : decode cX8_common 8 = .ok (.iload_n 2, 1) := by decide +kernel
theorem dX8_common_9 : decode cX8_common 9 = .ok (.iload_n 3, 1) := by decide +kernel
theorem dX8_common_10 : decode cX8_common 10 = .ok (.irem, 1) := by decide +kernel
theorem dX8_common_11 : decode cX8_common 11 = .ok (.istore 4, 2) := by decide +kernel
theorem dX8_common_13 : decode cX8_common 13 = .ok (.iload_n 3, 1) := by decide +kernel
theorem dX8_common_14 : decode cX8_common 14 = .ok (.istore_n 2, 1) := by decide +kernel
theorem dX8_common_15 : decode cX8_common 15 = .ok (.iload 4, 2) := by decide +kernel
theorem dX8_common_17 : decode cX8_common 17 = .ok (.istore_n 3, 1) := by decide +kernel
theorem dX8_common_18 : decode cX8_common 18 = .ok (.goto (-14), 3) := by decide +kernel
theorem dX8_common_21 : decode cX8_common 21 = .ok (.iload_n 2, 1) := by decide +kernel
theorem dX8_common_22 : decode cX8_common 22 = .ok (.ireturn, 1) := by decide +kernel
def X8_common_L4 : Nat → Int32 → Int32 → Option (Int32)
  | 0, _, _ => none
  | fu + 1, v2, v3 => (if v3 = 0 then (some v2) else (X8_common_L4 fu v3 (jrem v2 v3)))
set_option maxRecDepth 100000 in
set_option maxHeartbeats 4000000 in
theorem X8_common_L4_ok  {r : Option AV} {M' : MM} : ∀ (fu : Nat) (v2 : Int32) (v3 : Int32) (MM0 : MM) {res : Int32} (h : X8_common_L4 fu v2 v3 = some res) (K : G mt_X8_common 0 r M' 21 [(2, .inl res)] [] MM0), G mt_X8_common 0 r M' 4 [(2, .inl v2), (3, .inl v3)] [] MM0 := by
  intro fu
  induction fu with
  | zero =>
    intro v2 v3 MM0 res h
    cases h
  | succ fu ih =>
    intro v2 v3 MM0 res h K
    replace h : (if v3 = 0 then (some v2) else (X8_common_L4 fu v3 (jrem v2 v3))) = some res := h
    refine G_iload_n dX8_common_4 rfl ?_
    refine G_if_eq (tgt := 21) dX8_common_5 (by decide) (fun hc1 => ?_) (fun hc1 => ?_)
    · replace h := (if_pos hc1).symm.trans h
      refine G_sub [(2, .inl v2)] [0] rfl ?_
      obtain rfl := Option.some.inj h
      exact K
    · replace h := (if_neg hc1).symm.trans h
      refine G_iload_n dX8_common_8 rfl ?_
      refine G_iload_n dX8_common_9 rfl ?_
      refine G_irem hc1 dX8_common_10 ?_
      refine G_istore (L2 := [(4, .inl (jrem v2 v3)), (2, .inl v2), (3, .inl v3)]) dX8_common_11 (by decide) rfl ?_
      refine G_iload_n dX8_common_13 rfl ?_
      refine G_istore_n (L2 := [(2, .inl v3), (4, .inl (jrem v2 v3)), (3, .inl v3)]) dX8_common_14 (by decide) rfl ?_
      refine G_iload dX8_common_15 rfl ?_
      refine G_istore_n (L2 := [(3, .inl (jrem v2 v3)), (2, .inl v3), (4, .inl (jrem v2 v3))]) dX8_common_17 (by decide) rfl ?_
      refine G_goto (tgt := 4) dX8_common_18 (by decide) ?_
      refine G_sub [(2, .inl v3), (3, .inl (jrem v2 v3))] [1, 0] rfl ?_
      exact ih v3 (jrem v2 v3) _  h K

def X8_common (v0 : Int32) (v1 : Int32) : Option (Int32) := ((X8_common_L4 400 v0 v1).bind fun q1 => (some q1))
set_option maxRecDepth 100000 in
set_option maxHeartbeats 4000000 in
theorem X8_common_ok  {v0 : Int32} {v1 : Int32} {MM0 : MM} {res : Int32} (h : X8_common v0 v1 = some res) : Spec mt_X8_common 0 [.inl v0, .inl v1] MM0 (some (.inl res)) MM0 := by
  unfold X8_common at h
  refine Spec_of_G (by decide) rfl (Nat.le_of_ble_eq_true rfl) ?_
  refine G_sub [(0, .inl v0), (1, .inl v1)] [0, 1] rfl ?_
  refine G_iload_n dX8_common_0 rfl ?_
  refine G_istore_n (L2 := [(2, .inl v0), (0, .inl v0), (1, .inl v1)]) dX8_common_1 (by decide) rfl ?_
  refine G_iload_n dX8_common_2 rfl ?_
  refine G_istore_n (L2 := [(3, .inl v1), (2, .inl v0), (0, .inl v0), (1, .inl v1)]) dX8_common_3 (by decide) rfl ?_
  refine G_sub [(2, .inl v0), (3, .inl v1)] [1, 0] rfl ?_
  obtain ⟨q1, hq1, h⟩ := bnd h
  refine X8_common_L4_ok  400 v0 v1 _  hq1 ?_
  refine G_iload_n dX8_common_21 rfl ?_
  obtain rfl := Option.some.inj h
  exact G_ret dX8_common_22 trivial rfl rfl

theorem dX8_odds_0 : decode cX8_odds 0 = .ok (.aload_n 0, 1) := by decide +kernel
theorem dX8_odds_1 : decode cX8_odds 1 = .ok (.iload_n 1, 1) := by decide +kernel
theorem dX8_odds_2 : decode cX8_odds 2 = .ok (.invokevirtual 182, 3) := by decide +kernel
theorem dX8_odds_5 : decode cX8_odds 5 = .ok (.ifCond .eq 25, 3) := by decide +kernel
theorem dX8_odds_8 : decode cX8_odds 8 = .ok (.iload_n 2, 1) := by decide +kernel
theorem dX8_odds_9 : decode cX8_odds 9 = .ok (.i2l, 1) := by decide +kernel
theorem dX8_odds_10 : decode cX8_odds 10 = .ok (.lconst 0, 1) := by decide +kernel
theorem dX8_odds_11 : decode cX8_odds 11 = .ok (.ldc2_w 196, 3) := by decide +kernel
theorem dX8_odds_14 : decode cX8_odds 14 = .ok (.invokestatic 47, 3) := by decide +kernel
theorem dX8_odds_17 : decode cX8_odds 17 = .ok (.ifCond .eq 13, 3) := by decide +kernel
theorem dX8_odds_20 : decode cX8_odds 20 = .ok (.iload_n 3, 1) := by decide +kernel
theorem dX8_odds_21 : decode cX8_odds 21 = .ok (.i2l, 1) := by decide +kernel
theorem dX8_odds_22 : decode cX8_odds 22 = .ok (.lconst 0, 1) := by decide +kernel
theorem dX8_odds_23 : decode cX8_odds 23 = .ok (.lconst 1, 1) := by decide +kernel
theorem dX8_odds_24 : decode cX8_odds 24 = .ok (.invokestatic 47, 3) := by decide +kernel
theorem dX8_odds_27 : decode cX8_odds 27 = .ok (.ifCond .ne 9, 3) := by decide +kernel
theorem dX8_odds_30 : decode cX8_odds 30 = .ok (.aload_n 0, 1) := by decide +kernel
theorem dX8_odds_31 : decode cX8_odds 31 = .ok (.iconst 1, 1) := by decide +kernel
theorem dX8_odds_32 : decode cX8_odds 32 = .ok (.invokevirtual 130, 3) := by decide +kernel
theorem dX8_odds_35 : decode cX8_odds 35 = .ok (.ireturn, 1) := by decide +kernel
theorem dX8_odds_36 : decode cX8_odds 36 = .ok (.aload_n 0, 1) := by decide +kernel
theorem dX8_odds_37 : decode cX8_odds 37 = .ok (.invokevirtual 210, 3) := by decide +kernel
theorem dX8_odds_40 : decode cX8_odds 40 = .ok (.iconst 0, 1) := by decide +kernel
theorem dX8_odds_41 : decode cX8_odds 41 = .ok (.istore 4, 2) := by decide +kernel
theorem dX8_odds_43 : decode cX8_odds 43 = .ok (.iconst 0, 1) := by decide +kernel
theorem dX8_odds_44 : decode cX8_odds 44 = .ok (.istore 5, 2) := by decide +kernel
theorem dX8_odds_46 : decode cX8_odds 46 = .ok (.iload 5, 2) := by decide +kernel
theorem dX8_odds_48 : decode cX8_odds 48 = .ok (.iconst 5, 1) := by decide +kernel
theorem dX8_odds_49 : decode cX8_odds 49 = .ok (.if_icmp .ge 62, 3) := by decide +kernel
theorem dX8_odds_52 : decode cX8_odds 52 = .ok (.aload_n 0, 1) := by decide +kernel
theorem dX8_odds_53 : decode cX8_odds 53 = .ok (.iload_n 1, 1) := by decide +kernel
theorem dX8_odds_54 : decode cX8_odds 54 = .ok (.invokevirtual 164, 3) := by decide +kernel
theorem dX8_odds_57 : decode cX8_odds 57 = .ok (.ifCond .ne 48, 3) := by decide +kernel
theorem dX8_odds_60 : decode cX8_odds 60 = .ok (.aload_n 0, 1) := by decide +kernel
theorem dX8_odds_61 : decode cX8_odds 61 = .ok (.iload_n 1, 1) := by decide +kernel
theorem dX8_odds_62 : decode cX8_odds 62 = .ok (.iconst 2, 1) := by decide +kernel
theorem dX8_odds_63 : decode cX8_odds 63 = .ok (.iload 5, 2) := by decide +kernel
theorem dX8_odds_65 : decode cX8_odds 65 = .ok (.invokevirtual 149, 3) := by decide +kernel
theorem dX8_odds_68 : decode cX8_odds 68 = .ok (.aload_n 0, 1) := by decide +kernel
theorem dX8_odds_69 : decode cX8_odds 69 = .ok (.iload_n 2, 1) := by decide +kernel
theorem dX8_odds_70 : decode cX8_odds 70 = .ok (.invokevirtual 198, 3) := by decide +kernel
theorem dX8_odds_73 : decode cX8_odds 73 = .ok (.iload 4, 2) := by decide +kernel
theorem dX8_odds_75 : decode cX8_odds 75 = .ok (.aload_n 0, 1) := by decide +kernel
theorem dX8_odds_76 : decode cX8_odds 76 = .ok (.iload_n 1, 1) := by decide +kernel
theorem dX8_odds_77 : decode cX8_odds 77 = .ok (.invokevirtual 164, 3) := by decide +kernel
theorem dX8_odds_80 : decode cX8_odds 80 = .ok (.ifCond .ne 17, 3) := by decide +kernel
theorem dX8_odds_83 : decode cX8_odds 83 = .ok (.aload_n 0, 1) := by decide +kernel
theorem dX8_odds_84 : decode cX8_odds 84 = .ok (.iload_n 1, 1) := by decide +kernel
theorem dX8_odds_85 : decode cX8_odds 85 = .ok (.bipush 6, 2) := by decide +kernel
theorem dX8_odds_87 : decode cX8_odds 87 = .ok (.invokevirtual 53, 3) := by decide +kernel
theorem dX8_odds_90 : decode cX8_odds 90 = .ok (.ifCond .le 7, 3) := by decide +kernel
theorem dX8_odds_93 : decode cX8_odds 93 = .ok (.iconst 1, 1) := by decide +kernel
theorem dX8_odds_94 : decode cX8_odds 94 = .ok (.goto 4, 3) := by decide +kernel
theorem dX8_odds_97 : decode cX8_odds 97 = .ok (.iconst 0, 1) := by decide +kernel
theorem dX8_odds_98 : decode cX8_odds 98 = .ok (.iadd, 1) := by decide +kernel
theorem dX8_odds_99 : decode cX8_odds 99 = .ok (.istore 4, 2) := by decide +kernel
theorem dX8_odds_101 : decode cX8_odds 101 = .ok (.aload_n 0, 1) := by decide +kernel
theorem dX8_odds_102 : decode cX8_odds 102 = .ok (.invokevirtual 213, 3) := by decide +kernel
theorem dX8_odds_105 : decode cX8_odds 105 = .ok (.iinc 5 1, 3) := by decide +kernel
theorem dX8_odds_108 : decode cX8_odds 108 = .ok (.goto (-62), 3) := by decide +kernel
theorem dX8_odds_111 : decode cX8_odds 111 = .ok (.iload_n 3, 1) := by decide +kernel
theorem dX8_odds_112 : decode cX8_odds 112 = .ok (.ifCond .ne 8, 3) := by decide +kernel
theorem dX8_odds_115 : decode cX8_odds 115 = .ok (.iload 4, 2) := by decide +kernel
theorem dX8_odds_117 : decode cX8_odds 117 = .ok (.goto 4, 3) := by decide +kernel
theorem dX8_odds_120 : decode cX8_odds 120 = .ok (.iconst 5, 1) := by decide +kernel
theorem dX8_odds_121 : decode cX8_odds 121 = .ok (.iload 4, 2) := by decide +kernel
theorem dX8_odds_123 : decode cX8_odds 123 = .ok (.iconst 5, 1) := by decide +kernel
theorem dX8_odds_124 : decode cX8_odds 124 = .ok (.invokestatic 226, 3) := by decide +kernel
theorem dX8_odds_127 : decode cX8_odds 127 = .ok (.idiv, 1) := by decide +kernel
theorem dX8_odds_128 : decode cX8_odds 128 = .ok (.ireturn, 1) := by decide +kernel
def X8_odds_L46 : Nat → Int32 → Int32 → Int32 → Int32 → Int32 → Mem → Option (Int32 × Mem)
  | 0, _, _, _, _, _, _ => none
  | fu + 1, v1, v2, v3, v4, v5, M => (if v5 < 5 then ((X8_isBroken v1 M).bind fun q4 => (if q4 = 0 then ((X8_sets v1 2 v5 M).bind fun q5 => ((X8_yearsGo v2 q5).bind fun q6 => ((X8_isBroken v1 q6).bind fun q7 => (if q7 = 0 then ((X8_of v1 6 q6).bind fun q9 => (if 0 < q9 then ((X8_putBack q6).bind fun q11 => (X8_odds_L46 fu v1 v2 v3 (v4 + 1) (v5 + 1) q11)) else ((X8_putBack q6).bind fun q10 => (X8_odds_L46 fu v1 v2 v3 (v4 + 0) (v5 + 1) q10)))) else ((X8_putBack q6).bind fun q8 => (X8_odds_L46 fu v1 v2 v3 (v4 + 0) (v5 + 1) q8)))))) else (X8_odds_L46 fu v1 v2 v3 v4 (v5 + 1) M))) else (some (v4, M)))
set_option maxRecDepth 100000 in
set_option maxHeartbeats 4000000 in
theorem X8_odds_L46_ok  {r : Option AV} {M' : MM} : ∀ (fu : Nat) (v1 : Int32) (v2 : Int32) (v3 : Int32) (v4 : Int32) (v5 : Int32) (M N : Mem) {res : Int32 × Mem} (h : X8_odds_L46 fu v1 v2 v3 v4 v5 M = some res) (K : G mt_X8_odds 6 r M' 111 [(3, .inl v3), (4, .inl res.1)] [] (N, res.2)), G mt_X8_odds 6 r M' 46 [(0, .inr (.inr (19, 0))), (1, .inl v1), (2, .inl v2), (3, .inl v3), (4, .inl v4), (5, .inl v5)] [] (N, M) := by
  intro fu
  induction fu with
  | zero =>
    intro v1 v2 v3 v4 v5 M N res h
    cases h
  | succ fu ih =>
    intro v1 v2 v3 v4 v5 M N res h K
    replace h : (if v5 < 5 then ((X8_isBroken v1 M).bind fun q4 => (if q4 = 0 then ((X8_sets v1 2 v5 M).bind fun q5 => ((X8_yearsGo v2 q5).bind fun q6 => ((X8_isBroken v1 q6).bind fun q7 => (if q7 = 0 then ((X8_of v1 6 q6).bind fun q9 => (if 0 < q9 then ((X8_putBack q6).bind fun q11 => (X8_odds_L46 fu v1 v2 v3 (v4 + 1) (v5 + 1) q11)) else ((X8_putBack q6).bind fun q10 => (X8_odds_L46 fu v1 v2 v3 (v4 + 0) (v5 + 1) q10)))) else ((X8_putBack q6).bind fun q8 => (X8_odds_L46 fu v1 v2 v3 (v4 + 0) (v5 + 1) q8)))))) else (X8_odds_L46 fu v1 v2 v3 v4 (v5 + 1) M))) else (some (v4, M))) = some res := h
    refine G_iload dX8_odds_46 rfl ?_
    refine G_iconst (v := 5) dX8_odds_48 (by decide) ?_
    refine G_icmp_ge (tgt := 111) dX8_odds_49 (by decide) (fun hc4 => ?_) (fun hc4 => ?_)
    · replace h := (if_neg hc4).symm.trans h
      refine G_sub [(3, .inl v3), (4, .inl v4)] [3, 4] rfl ?_
      obtain rfl := Option.some.inj h
      exact K
    · replace h := (if_pos hc4).symm.trans h
      refine G_aload_n dX8_odds_52 rfl ?_
      refine G_iload_n dX8_odds_53 rfl ?_
      obtain ⟨q4, hq4, h⟩ := bnd h
      refine G_callVv (T := TX8) (N := 22) (f := 19) (i := 0) (X8_isBroken_ok hq4) ok_X8_isBroken ml_X8_164 (by decide) rfl (by decide) (by decide) (by decide) rfl rfl (Nat.le_of_ble_eq_true rfl) dX8_odds_54 ?_
      refine G_if_ne (tgt := 105) dX8_odds_57 (by decide) (fun hc5 => ?_) (fun hc5 => ?_)
      · replace h := (if_neg hc5).symm.trans h
        refine G_iinc (v := (v5 + 1)) (L2 := [(5, .inl (v5 + 1)), (0, .inr (.inr (19, 0))), (1, .inl v1), (2, .inl v2), (3, .inl v3), (4, .inl v4)]) dX8_odds_105 rfl (by first | rfl | (show _ + Int32.ofInt _ = _; rfl)) (by decide) rfl ?_
        refine G_goto (tgt := 46) dX8_odds_108 (by decide) ?_
        refine G_sub [(0, .inr (.inr (19, 0))), (1, .inl v1), (2, .inl v2), (3, .inl v3), (4, .inl v4), (5, .inl (v5 + 1))] [1, 2, 3, 4, 5, 0] rfl ?_
        exact ih v1 v2 v3 v4 (v5 + 1) M _  h K
      · replace h := (if_pos hc5).symm.trans h
        refine G_aload_n dX8_odds_60 rfl ?_
        refine G_iload_n dX8_odds_61 rfl ?_
        refine G_iconst (v := 2) dX8_odds_62 (by decide) ?_
        refine G_iload dX8_odds_63 rfl ?_
        obtain ⟨q5, hq5, h⟩ := bnd h
        refine G_callVn (T := TX8) (N := 22) (f := 19) (i := 0) (X8_sets_ok hq5) ok_X8_sets ml_X8_149 (by decide) rfl (by decide) (by decide) (by decide) rfl rfl (Nat.le_of_ble_eq_true rfl) dX8_odds_65 ?_
        refine G_aload_n dX8_odds_68 rfl ?_
        refine G_iload_n dX8_odds_69 rfl ?_
        obtain ⟨q6, hq6, h⟩ := bnd h
        refine G_callVn (T := TX8) (N := 22) (f := 19) (i := 0) (X8_yearsGo_ok hq6) ok_X8_yearsGo ml_X8_198 (by decide) rfl (by decide) (by decide) (by decide) rfl rfl (Nat.le_of_ble_eq_true rfl) dX8_odds_70 ?_
        refine G_iload dX8_odds_73 rfl ?_
        refine G_aload_n dX8_odds_75 rfl ?_
        refine G_iload_n dX8_odds_76 rfl ?_
        obtain ⟨q7, hq7, h⟩ := bnd h
        refine G_callVv (T := TX8) (N := 22) (f := 19) (i := 0) (X8_isBroken_ok hq7) ok_X8_isBroken ml_X8_164 (by decide) rfl (by decide) (by decide) (by decide) rfl rfl (Nat.le_of_ble_eq_true rfl) dX8_odds_77 ?_
        refine G_if_ne (tgt := 97) dX8_odds_80 (by decide) (fun hc6 => ?_) (fun hc6 => ?_)
        · replace h := (if_neg hc6).symm.trans h
          refine G_iconst (v := 0) dX8_odds_97 (by decide) ?_
          refine G_iadd dX8_odds_98 ?_
          refine G_istore (L2 := [(4, .inl (v4 + 0)), (0, .inr (.inr (19, 0))), (1, .inl v1), (2, .inl v2), (3, .inl v3), (5, .inl v5)]) dX8_odds_99 (by decide) rfl ?_
          refine G_aload_n dX8_odds_101 rfl ?_
          obtain ⟨q8, hq8, h⟩ := bnd h
          refine G_callVn (T := TX8) (N := 22) (f := 19) (i := 0) (X8_putBack_ok hq8) ok_X8_putBack ml_X8_213 (by decide) rfl (by decide) (by decide) (by decide) rfl rfl (Nat.le_of_ble_eq_true rfl) dX8_odds_102 ?_
          refine G_iinc (v := (v5 + 1)) (L2 := [(5, .inl (v5 + 1)), (4, .inl (v4 + 0)), (0, .inr (.inr (19, 0))), (1, .inl v1), (2, .inl v2), (3, .inl v3)]) dX8_odds_105 rfl (by first | rfl | (show _ + Int32.ofInt _ = _; rfl)) (by decide) rfl ?_
          refine G_goto (tgt := 46) dX8_odds_108 (by decide) ?_
          refine G_sub [(0, .inr (.inr (19, 0))), (1, .inl v1), (2, .inl v2), (3, .inl v3), (4, .inl (v4 + 0)), (5, .inl (v5 + 1))] [2, 3, 4, 5, 1, 0] rfl ?_
          exact ih v1 v2 v3 (v4 + 0) (v5 + 1) q8 _  h K
        · replace h := (if_pos hc6).symm.trans h
          refine G_aload_n dX8_odds_83 rfl ?_
          refine G_iload_n dX8_odds_84 rfl ?_
          refine G_bipush (v := 6) dX8_odds_85 (by decide) ?_
          obtain ⟨q9, hq9, h⟩ := bnd h
          refine G_callVv (T := TX8) (N := 22) (f := 19) (i := 0) (X8_of_ok hq9) ok_X8_of ml_X8_53 (by decide) rfl (by decide) (by decide) (by decide) rfl rfl (Nat.le_of_ble_eq_true rfl) dX8_odds_87 ?_
          refine G_if_le (tgt := 97) dX8_odds_90 (by decide) (fun hc7 => ?_) (fun hc7 => ?_)
          · replace h := (if_neg hc7).symm.trans h
            refine G_iconst (v := 0) dX8_odds_97 (by decide) ?_
            refine G_iadd dX8_odds_98 ?_
            refine G_istore (L2 := [(4, .inl (v4 + 0)), (0, .inr (.inr (19, 0))), (1, .inl v1), (2, .inl v2), (3, .inl v3), (5, .inl v5)]) dX8_odds_99 (by decide) rfl ?_
            refine G_aload_n dX8_odds_101 rfl ?_
            obtain ⟨q10, hq10, h⟩ := bnd h
            refine G_callVn (T := TX8) (N := 22) (f := 19) (i := 0) (X8_putBack_ok hq10) ok_X8_putBack ml_X8_213 (by decide) rfl (by decide) (by decide) (by decide) rfl rfl (Nat.le_of_ble_eq_true rfl) dX8_odds_102 ?_
            refine G_iinc (v := (v5 + 1)) (L2 := [(5, .inl (v5 + 1)), (4, .inl (v4 + 0)), (0, .inr (.inr (19, 0))), (1, .inl v1), (2, .inl v2), (3, .inl v3)]) dX8_odds_105 rfl (by first | rfl | (show _ + Int32.ofInt _ = _; rfl)) (by decide) rfl ?_
            refine G_goto (tgt := 46) dX8_odds_108 (by decide) ?_
            refine G_sub [(0, .inr (.inr (19, 0))), (1, .inl v1), (2, .inl v2), (3, .inl v3), (4, .inl (v4 + 0)), (5, .inl (v5 + 1))] [2, 3, 4, 5, 1, 0] rfl ?_
            exact ih v1 v2 v3 (v4 + 0) (v5 + 1) q10 _  h K
          · replace h := (if_pos hc7).symm.trans h
            refine G_iconst (v := 1) dX8_odds_93 (by decide) ?_
            refine G_goto (tgt := 98) dX8_odds_94 (by decide) ?_
            refine G_iadd dX8_odds_98 ?_
            refine G_istore (L2 := [(4, .inl (v4 + 1)), (0, .inr (.inr (19, 0))), (1, .inl v1), (2, .inl v2), (3, .inl v3), (5, .inl v5)]) dX8_odds_99 (by decide) rfl ?_
            refine G_aload_n dX8_odds_101 rfl ?_
            obtain ⟨q11, hq11, h⟩ := bnd h
            refine G_callVn (T := TX8) (N := 22) (f := 19) (i := 0) (X8_putBack_ok hq11) ok_X8_putBack ml_X8_213 (by decide) rfl (by decide) (by decide) (by decide) rfl rfl (Nat.le_of_ble_eq_true rfl) dX8_odds_102 ?_
            refine G_iinc (v := (v5 + 1)) (L2 := [(5, .inl (v5 + 1)), (4, .inl (v4 + 1)), (0, .inr (.inr (19, 0))), (1, .inl v1), (2, .inl v2), (3, .inl v3)]) dX8_odds_105 rfl (by first | rfl | (show _ + Int32.ofInt _ = _; rfl)) (by decide) rfl ?_
            refine G_goto (tgt := 46) dX8_odds_108 (by decide) ?_
            refine G_sub [(0, .inr (.inr (19, 0))), (1, .inl v1), (2, .inl v2), (3, .inl v3), (4, .inl (v4 + 1)), (5, .inl (v5 + 1))] [2, 3, 4, 5, 1, 0] rfl ?_
            exact ih v1 v2 v3 (v4 + 1) (v5 + 1) q11 _  h K

def X8_odds_J121 (v4 : Int32) (s0 : Int32) (M : Mem) : Option (Int32 × Mem) := ((X8_common v4 5).bind fun q13 => (if q13 = 0 then none else (some ((s0 / q13), M))))
set_option maxRecDepth 100000 in
set_option maxHeartbeats 4000000 in
theorem X8_odds_J121_ok  {v4 : Int32} {s0 : Int32} {M N : Mem} {res : Int32 × Mem} (h : X8_odds_J121 v4 s0 M = some res) : G mt_X8_odds 6 (some (.inl res.1)) (N, res.2) 121 [(4, .inl v4)] [.inl s0] (N, M) := by
  unfold X8_odds_J121 at h
  refine G_iload dX8_odds_121 rfl ?_
  refine G_iconst (v := 5) dX8_odds_123 (by decide) ?_
  obtain ⟨q13, hq13, h⟩ := bnd h
  refine G_callSv  (X8_common_ok hq13) ok_X8_common ml_X8_226 (by decide) rfl rfl (Nat.le_of_ble_eq_true rfl) dX8_odds_124 ?_
  obtain ⟨hz14, h⟩ := chkn h
  refine G_idiv hz14 dX8_odds_127 ?_
  obtain rfl := Option.some.inj h
  exact G_ret dX8_odds_128 trivial rfl rfl

def X8_odds (v1 : Int32) (v2 : Int32) (v3 : Int32) (M : Mem) : Option (Int32 × Mem) := (if (X8_isPot v1 M) = 0 then ((X8_finds 1 M).bind fun q1 => (some (q1.1, q1.2))) else (if (X8_in (v2.toInt64) (0 : Int64) (60 : Int64)) = 0 then ((X8_finds 1 M).bind fun q2 => (some (q2.1, q2.2))) else (if (X8_in (v3.toInt64) (0 : Int64) (1 : Int64)) = 0 then ((X8_finds 1 M).bind fun q15 => (some (q15.1, q15.2))) else ((X8_keepAside M).bind fun q3 => ((X8_odds_L46 400 v1 v2 v3 0 0 q3).bind fun q12 => (if v3 = 0 then (X8_odds_J121 q12.1 q12.1 q12.2) else (X8_odds_J121 q12.1 5 q12.2)))))))
set_option maxRecDepth 100000 in
set_option maxHeartbeats 4000000 in
theorem X8_odds_ok  {v1 : Int32} {v2 : Int32} {v3 : Int32} {M N : Mem} {res : Int32 × Mem} (h : X8_odds v1 v2 v3 M = some res) : Spec mt_X8_odds 6 [.inr (.inr (19, 0)), .inl v1, .inl v2, .inl v3] (N, M) (some (.inl res.1)) (N, res.2) := by
  unfold X8_odds at h
  refine Spec_of_G (by decide) rfl (Nat.le_of_ble_eq_true rfl) ?_
  refine G_sub [(0, .inr (.inr (19, 0))), (1, .inl v1), (2, .inl v2), (3, .inl v3)] [0, 1, 2, 3] rfl ?_
  refine G_aload_n dX8_odds_0 rfl ?_
  refine G_iload_n dX8_odds_1 rfl ?_
  refine G_callVv (T := TX8) (N := 22) (f := 19) (i := 0) (X8_isPot_ok rfl) ok_X8_isPot ml_X8_182 (by decide) rfl (by decide) (by decide) (by decide) rfl rfl (Nat.le_of_ble_eq_true rfl) dX8_odds_2 ?_
  refine G_if_eq (tgt := 30) dX8_odds_5 (by decide) (fun hc1 => ?_) (fun hc1 => ?_)
  · replace h := (if_pos hc1).symm.trans h
    refine G_aload_n dX8_odds_30 rfl ?_
    refine G_iconst (v := 1) dX8_odds_31 (by decide) ?_
    obtain ⟨q1, hq1, h⟩ := bnd h
    refine G_callVv (T := TX8) (N := 22) (f := 19) (i := 0) (X8_finds_ok hq1) ok_X8_finds ml_X8_130 (by decide) rfl (by decide) (by decide) (by decide) rfl rfl (Nat.le_of_ble_eq_true rfl) dX8_odds_32 ?_
    obtain rfl := Option.some.inj h
    exact G_ret dX8_odds_35 trivial rfl rfl
  · replace h := (if_neg hc1).symm.trans h
    refine G_iload_n dX8_odds_8 rfl ?_
    refine G_i2l dX8_odds_9 ?_
    refine G_lconst (v := 0) dX8_odds_10 (by decide) ?_
    refine G_ldc2 ko_X8_196 dX8_odds_11 ?_
    refine G_callSv  (X8_in_ok rfl) ok_X8_in ml_X8_47 (by decide) rfl rfl (Nat.le_of_ble_eq_true rfl) dX8_odds_14 ?_
    refine G_if_eq (tgt := 30) dX8_odds_17 (by decide) (fun hc2 => ?_) (fun hc2 => ?_)
    · replace h := (if_pos hc2).symm.trans h
      refine G_aload_n dX8_odds_30 rfl ?_
      refine G_iconst (v := 1) dX8_odds_31 (by decide) ?_
      obtain ⟨q2, hq2, h⟩ := bnd h
      refine G_callVv (T := TX8) (N := 22) (f := 19) (i := 0) (X8_finds_ok hq2) ok_X8_finds ml_X8_130 (by decide) rfl (by decide) (by decide) (by decide) rfl rfl (Nat.le_of_ble_eq_true rfl) dX8_odds_32 ?_
      obtain rfl := Option.some.inj h
      exact G_ret dX8_odds_35 trivial rfl rfl
    · replace h := (if_neg hc2).symm.trans h
      refine G_iload_n dX8_odds_20 rfl ?_
      refine G_i2l dX8_odds_21 ?_
      refine G_lconst (v := 0) dX8_odds_22 (by decide) ?_
      refine G_lconst (v := 1) dX8_odds_23 (by decide) ?_
      refine G_callSv  (X8_in_ok rfl) ok_X8_in ml_X8_47 (by decide) rfl rfl (Nat.le_of_ble_eq_true rfl) dX8_odds_24 ?_
      refine G_if_ne (tgt := 36) dX8_odds_27 (by decide) (fun hc3 => ?_) (fun hc3 => ?_)
      · replace h := (if_neg hc3).symm.trans h
        refine G_aload_n dX8_odds_36 rfl ?_
        obtain ⟨q3, hq3, h⟩ := bnd h
        refine G_callVn (T := TX8) (N := 22) (f := 19) (i := 0) (X8_keepAside_ok hq3) ok_X8_keepAside ml_X8_210 (by decide) rfl (by decide) (by decide) (by decide) rfl rfl (Nat.le_of_ble_eq_true rfl) dX8_odds_37 ?_
        refine G_iconst (v := 0) dX8_odds_40 (by decide) ?_
        refine G_istore (L2 := [(4, .inl 0), (0, .inr (.inr (19, 0))), (1, .inl v1), (2, .inl v2), (3, .inl v3)]) dX8_odds_41 (by decide) rfl ?_
        refine G_iconst (v := 0) dX8_odds_43 (by decide) ?_
        refine G_istore (L2 := [(5, .inl 0), (4, .inl 0), (0, .inr (.inr (19, 0))), (1, .inl v1), (2, .inl v2), (3, .inl v3)]) dX8_odds_44 (by decide) rfl ?_
        refine G_sub [(0, .inr (.inr (19, 0))), (1, .inl v1), (2, .inl v2), (3, .inl v3), (4, .inl 0), (5, .inl 0)] [2, 3, 4, 5, 1, 0] rfl ?_
        obtain ⟨q12, hq12, h⟩ := bnd h
        refine X8_odds_L46_ok  400 v1 v2 v3 0 0 q3 _  hq12 ?_
        refine G_iload_n dX8_odds_111 rfl ?_
        refine G_if_ne (tgt := 120) dX8_odds_112 (by decide) (fun hc8 => ?_) (fun hc8 => ?_)
        · replace h := (if_neg hc8).symm.trans h
          refine G_iconst (v := 5) dX8_odds_120 (by decide) ?_
          refine G_sub [(4, .inl q12.1)] [1] rfl ?_
          exact X8_odds_J121_ok   h
        · replace h := (if_pos hc8).symm.trans h
          refine G_iload dX8_odds_115 rfl ?_
          refine G_goto (tgt := 121) dX8_odds_117 (by decide) ?_
          refine G_sub [(4, .inl q12.1)] [1] rfl ?_
          exact X8_odds_J121_ok   h
      · replace h := (if_pos hc3).symm.trans h
        refine G_aload_n dX8_odds_30 rfl ?_
        refine G_iconst (v := 1) dX8_odds_31 (by decide) ?_
        obtain ⟨q15, hq15, h⟩ := bnd h
        refine G_callVv (T := TX8) (N := 22) (f := 19) (i := 0) (X8_finds_ok hq15) ok_X8_finds ml_X8_130 (by decide) rfl (by decide) (by decide) (by decide) rfl rfl (Nat.le_of_ble_eq_true rfl) dX8_odds_32 ?_
        obtain rfl := Option.some.inj h
        exact G_ret dX8_odds_35 trivial rfl rfl

theorem dX8_seed_0 : decode cX8_seed 0 = .ok (.aload_n 0, 1) := by decide +kernel
theorem dX8_seed_1 : decode cX8_seed 1 = .ok (.getfield 7, 3) := by decide +kernel
theorem dX8_seed_4 : decode cX8_seed 4 = .ok (.iconst 3, 1) := by decide +kernel
theorem dX8_seed_5 : decode cX8_seed 5 = .ok (.iaload, 1) := by decide +kernel
theorem dX8_seed_6 : decode cX8_seed 6 = .ok (.istore_n 2, 1) := by decide +kernel
theorem dX8_seed_7 : decode cX8_seed 7 = .ok (.aload_n 0, 1) := by decide +kernel
theorem dX8_seed_8 : decode cX8_seed 8 = .ok (.getfield 7, 3) := by decide +kernel
theorem dX8_seed_11 : decode cX8_seed 11 = .ok (.iconst 3, 1) := by decide +kernel
theorem dX8_seed_12 : decode cX8_seed 12 = .ok (.iload_n 1, 1) := by decide +kernel
theorem dX8_seed_13 : decode cX8_seed 13 = .ok (.iastore, 1) := by decide +kernel
theorem dX8_seed_14 : decode cX8_seed 14 = .ok (.iload_n 2, 1) := by decide +kernel
theorem dX8_seed_15 : decode cX8_seed 15 = .ok (.ireturn, 1) := by decide +kernel
def X8_seed (v1 : Int32) (M : Mem) : Option (Int32 × Mem) := (some ((M 20 0 3), (up3 M 20 0 3 v1)))
set_option maxRecDepth 100000 in
set_option maxHeartbeats 4000000 in
theorem X8_seed_ok  {v1 : Int32} {M N : Mem} {res : Int32 × Mem} (h : X8_seed v1 M = some res) : Spec mt_X8_seed 0 [.inr (.inr (19, 0)), .inl v1] (N, M) (some (.inl res.1)) (N, res.2) := by
  unfold X8_seed at h
  refine Spec_of_G (by decide) rfl (Nat.le_of_ble_eq_true rfl) ?_
  refine G_sub [(0, .inr (.inr (19, 0))), (1, .inl v1)] [0, 1] rfl ?_
  refine G_aload_n dX8_seed_0 rfl ?_
  refine fg_X8_7 rfl (by decide) dX8_seed_1 ?_
  refine G_iconst (v := 3) dX8_seed_4 (by decide) ?_
  refine al_20 (kk := 3) (v := (M 20 0 3)) (by decide) (by decide) (by decide) rfl dX8_seed_5 ?_
  refine G_istore_n (L2 := [(2, .inl (M 20 0 3)), (0, .inr (.inr (19, 0))), (1, .inl v1)]) dX8_seed_6 (by decide) rfl ?_
  refine G_aload_n dX8_seed_7 rfl ?_
  refine fg_X8_7 rfl (by decide) dX8_seed_8 ?_
  refine G_iconst (v := 3) dX8_seed_11 (by decide) ?_
  refine G_iload_n dX8_seed_12 rfl ?_
  refine as_20 (kk := 3) (by decide) (by decide) (by decide) dX8_seed_13 ?_
  refine G_iload_n dX8_seed_14 rfl ?_
  obtain rfl := Option.some.inj h
  exact G_ret dX8_seed_15 trivial rfl rfl

theorem dX8_ran_0 : decode cX8_ran 0 = .ok (.aload_n 0, 1) := by decide +kernel
theorem dX8_ran_1 : decode cX8_ran 1 = .ok (.getfield 229, 3) := by decide +kernel
theorem dX8_ran_4 : decode cX8_ran 4 = .ok (.bipush 40, 2) := by decide +kernel
theorem dX8_ran_6 : decode cX8_ran 6 = .ok (.if_icmp .ge 23, 3) := by decide +kernel
theorem dX8_ran_9 : decode cX8_ran 9 = .ok (.aload_n 0, 1) := by decide +kernel
theorem dX8_ran_10 : decode cX8_ran 10 = .ok (.getfield 31, 3) := by decide +kernel
theorem dX8_ran_13 : decode cX8_ran 13 = .ok (.aload_n 0, 1) := by decide +kernel
theorem dX8_ran_14 : decode cX8_ran 14 = .ok (.getfield 229, 3) := by decide +kernel
theorem dX8_ran_17 : decode cX8_ran 17 = .ok (.iload_n 1, 1) := by decide +kernel
theorem dX8_ran_18 : decode cX8_ran 18 = .ok (.iastore, 1) := by decide +kernel
theorem dX8_ran_19 : decode cX8_ran 19 = .ok (.aload_n 0, 1) := by decide +kernel
theorem dX8_ran_20 : decode cX8_ran 20 = .ok (.dup, 1) := by decide +kernel
theorem dX8_ran_21 : decode cX8_ran 21 = .ok (.getfield 229, 3) := by decide +kernel
theorem dX8_ran_24 : decode cX8_ran 24 = .ok (.iconst 1, 1) := by decide +kernel
theorem dX8_ran_25 : decode cX8_ran 25 = .ok (.iadd, 1) := by decide +kernel
theorem dX8_ran_26 : decode cX8_ran 26 = .ok (.putfield 229, 3) := by decide +kernel
theorem dX8_ran_29 : decode cX8_ran 29 = .ok (.return_, 1) := by decide +kernel
def X8_ran (v1 : Int32) (M : Mem) : Option (Mem) := (if (M 19 0 16) < 40 then (if ib (M 19 0 16) 40 = true then (some (up3 (up3 M 27 0 ((M 19 0 16).toNatClampNeg) v1) 19 0 16 ((M 19 0 16) + 1))) else none) else (some M))
set_option maxRecDepth 100000 in
set_option maxHeartbeats 4000000 in
theorem X8_ran_ok  {v1 : Int32} {M N : Mem} {res : Mem} (h : X8_ran v1 M = some res) : Spec mt_X8_ran 0 [.inr (.inr (19, 0)), .inl v1] (N, M) none (N, res) := by
  unfold X8_ran at h
  refine Spec_of_G (by decide) rfl (Nat.le_of_ble_eq_true rfl) ?_
  refine G_sub [(0, .inr (.inr (19, 0))), (1, .inl v1)] [0, 1] rfl ?_
  refine G_aload_n dX8_ran_0 rfl ?_
  refine fg_X8_229 (v := (M 19 0 16)) rfl rfl (by decide) dX8_ran_1 ?_
  refine G_bipush (v := 40) dX8_ran_4 (by decide) ?_
  refine G_icmp_ge (tgt := 29) dX8_ran_6 (by decide) (fun hc1 => ?_) (fun hc1 => ?_)
  · replace h := (if_neg hc1).symm.trans h
    obtain rfl := Option.some.inj h
    exact G_ret dX8_ran_29 trivial rfl rfl
  · replace h := (if_pos hc1).symm.trans h
    refine G_aload_n dX8_ran_9 rfl ?_
    refine fg_X8_31 rfl (by decide) dX8_ran_10 ?_
    refine G_aload_n dX8_ran_13 rfl ?_
    refine fg_X8_229 (v := (M 19 0 16)) rfl rfl (by decide) dX8_ran_14 ?_
    refine G_iload_n dX8_ran_17 rfl ?_
    obtain ⟨hb1, h⟩ := chk h
    have lhb1 := ib_lt hb1
    refine as_27 (kk := (M 19 0 16).toNatClampNeg) (by decide) hb1 rfl dX8_ran_18 ?_
    refine G_aload_n dX8_ran_19 rfl ?_
    refine G_dup rfl dX8_ran_20 ?_
    refine fg_X8_229 (v := (M 19 0 16)) (up3_f (by decide)) rfl (by decide) dX8_ran_21 ?_
    refine G_iconst (v := 1) dX8_ran_24 (by decide) ?_
    refine G_iadd dX8_ran_25 ?_
    refine fp_X8_229 rfl (by decide) dX8_ran_26 ?_
    obtain rfl := Option.some.inj h
    exact G_ret dX8_ran_29 trivial rfl rfl

theorem dX8_holdsBy_0 : decode cX8_holdsBy 0 = .ok (.iload_n 1, 1) := by decide +kernel
theorem dX8_holdsBy_1 : decode cX8_holdsBy 1 = .ok (.lookupswitch 58 #[(0, 27), (1, 40)], 27) := by decide +kernel
theorem dX8_holdsBy_28 : decode cX8_holdsBy 28 = .ok (.aload_n 0, 1) := by decide +kernel
theorem dX8_holdsBy_29 : decode cX8_holdsBy 29 = .ok (.bipush 10, 2) := by decide +kernel
theorem dX8_holdsBy_31 : decode cX8_holdsBy 31 = .ok (.invokevirtual 232, 3) := by decide +kernel
theorem dX8_holdsBy_34 : decode cX8_holdsBy 34 = .ok (.iload_n 2, 1) := by decide +kernel
theorem dX8_holdsBy_35 : decode cX8_holdsBy 35 = .ok (.aload_n 0, 1) := by decide +kernel
theorem dX8_holdsBy_36 : decode cX8_holdsBy 36 = .ok (.getfield 235, 3) := by decide +kernel
theorem dX8_holdsBy_39 : decode cX8_holdsBy 39 = .ok (.iadd, 1) := by decide +kernel
theorem dX8_holdsBy_40 : decode cX8_holdsBy 40 = .ok (.ireturn, 1) := by decide +kernel
theorem dX8_holdsBy_41 : decode cX8_holdsBy 41 = .ok (.aload_n 0, 1) := by decide +kernel
theorem dX8_holdsBy_42 : decode cX8_holdsBy 42 = .ok (.bipush 20, 2) := by decide +kernel
theorem dX8_holdsBy_44 : decode cX8_holdsBy 44 = .ok (.invokevirtual 232, 3) := by decide +kernel
theorem dX8_holdsBy_47 : decode cX8_holdsBy 47 = .ok (.aload_n 0, 1) := by decide +kernel
theorem dX8_holdsBy_48 : decode cX8_holdsBy 48 = .ok (.iconst 1, 1) := by decide +kernel
theorem dX8_holdsBy_49 : decode cX8_holdsBy 49 = .ok (.invokestatic 193, 3) := by decide +kernel
theorem dX8_holdsBy_52 : decode cX8_holdsBy 52 = .ok (.iload_n 2, 1) := by decide +kernel
theorem dX8_holdsBy_53 : decode cX8_holdsBy 53 = .ok (.invokevirtual 238, 3) := by decide +kernel
theorem dX8_holdsBy_56 : decode cX8_holdsBy 56 = .ok (.iconst 3, 1) := by decide +kernel
theorem dX8_holdsBy_57 : decode cX8_holdsBy 57 = .ok (.imul, 1) := by decide +kernel
theorem dX8_holdsBy_58 : decode cX8_holdsBy 58 = .ok (.ireturn, 1) := by decide +kernel
theorem dX8_holdsBy_59 : decode cX8_holdsBy 59 = .ok (.aload_n 0, 1) := by decide +kernel
theorem dX8_holdsBy_60 : decode cX8_holdsBy 60 = .ok (.iload_n 1, 1) := by decide +kernel
theorem dX8_holdsBy_61 : decode cX8_holdsBy 61 = .ok (.invokestatic 193, 3) := by decide +kernel
theorem dX8_holdsBy_64 : decode cX8_holdsBy 64 = .ok (.iload_n 2, 1) := by decide +kernel
theorem dX8_holdsBy_65 : decode cX8_holdsBy 65 = .ok (.invokevirtual 238, 3) := by decide +kernel
theorem dX8_holdsBy_68 : decode cX8_holdsBy 68 = .ok (.ireturn, 1) := by decide +kernel
def X8_holdsBy (rc : Nat → Int32 → Int32 → Mem → Option (Int32 × Mem)) (v1 : Int32) (v2 : Int32) (M : Mem) : Option (Int32 × Mem) := (if v1 = 0 then ((X8_ran 10 M).bind fun q1 => (some ((v2 + (q1 19 0 17)), q1))) else (if v1 = 1 then ((X8_ran 20 M).bind fun q2 => ((rc 0 (X8_above 1) v2 q2).bind fun q3 => (some ((q3.1 * 3), q3.2)))) else ((rc 0 (X8_above v1) v2 M).bind fun q4 => (some (q4.1, q4.2)))))
set_option maxRecDepth 100000 in
set_option maxHeartbeats 4000000 in
theorem X8_holdsBy_ok (rc : Nat → Int32 → Int32 → Mem → Option (Int32 × Mem))  {d : Nat} (hd0 : 1 ≤ d) (hr0 : ∀ {a0 a1 : Int32} {M N : Mem} {res : Int32 × Mem}, rc 0 a0 a1 M = some res → Spec mt_X8_holdsBy d [.inr (.inr (19, 0)), .inl a0, .inl a1] (N, M) (some (.inl res.1)) (N, res.2)) {v1 : Int32} {v2 : Int32} {M N : Mem} {res : Int32 × Mem} (h : X8_holdsBy rc v1 v2 M = some res) : Spec mt_X8_holdsBy (d + 1) [.inr (.inr (19, 0)), .inl v1, .inl v2] (N, M) (some (.inl res.1)) (N, res.2) := by
  unfold X8_holdsBy at h
  refine Spec_of_G (by decide) rfl (Nat.le_of_ble_eq_true rfl) ?_
  refine G_sub [(0, .inr (.inr (19, 0))), (1, .inl v1), (2, .inl v2)] [0, 1, 2] rfl ?_
  refine G_iload_n dX8_holdsBy_0 rfl ?_
  by_cases hc1 : v1 = 0
  · replace h := (if_pos hc1).symm.trans h
    refine G_lookEq (off := 27) (tgt := 28) hc1 dX8_holdsBy_1 (by decide) (by decide) (by decide) ?_
    refine G_aload_n dX8_holdsBy_28 rfl ?_
    refine G_bipush (v := 10) dX8_holdsBy_29 (by decide) ?_
    obtain ⟨q1, hq1, h⟩ := bnd h
    refine G_callVn (T := TX8) (N := 22) (f := 19) (i := 0) (X8_ran_ok hq1) ok_X8_ran ml_X8_232 (by omega) rfl (by decide) (by decide) (by decide) rfl rfl (Nat.le_of_ble_eq_true rfl) dX8_holdsBy_31 ?_
    refine G_iload_n dX8_holdsBy_34 rfl ?_
    refine G_aload_n dX8_holdsBy_35 rfl ?_
    refine fg_X8_235 (v := (q1 19 0 17)) rfl rfl (by decide) dX8_holdsBy_36 ?_
    refine G_iadd dX8_holdsBy_39 ?_
    obtain rfl := Option.some.inj h
    exact G_ret dX8_holdsBy_40 trivial rfl rfl
  replace h := (if_neg hc1).symm.trans h
  by_cases hc2 : v1 = 1
  · replace h := (if_pos hc2).symm.trans h
    refine G_lookEq (off := 40) (tgt := 41) hc2 dX8_holdsBy_1 (by decide) (by decide) (by decide) ?_
    refine G_aload_n dX8_holdsBy_41 rfl ?_
    refine G_bipush (v := 20) dX8_holdsBy_42 (by decide) ?_
    obtain ⟨q2, hq2, h⟩ := bnd h
    refine G_callVn (T := TX8) (N := 22) (f := 19) (i := 0) (X8_ran_ok hq2) ok_X8_ran ml_X8_232 (by omega) rfl (by decide) (by decide) (by decide) rfl rfl (Nat.le_of_ble_eq_true rfl) dX8_holdsBy_44 ?_
    refine G_aload_n dX8_holdsBy_47 rfl ?_
    refine G_iconst (v := 1) dX8_holdsBy_48 (by decide) ?_
    refine G_callSv  (X8_above_ok rfl) ok_X8_above ml_X8_193 (by omega) rfl rfl (Nat.le_of_ble_eq_true rfl) dX8_holdsBy_49 ?_
    refine G_iload_n dX8_holdsBy_52 rfl ?_
    obtain ⟨q3, hq3, h⟩ := bnd h
    refine G_callVv (T := TX8) (N := 22) (f := 19) (i := 0) (hr0 hq3) ok_X8_holdsBy ml_X8_238 (by omega) rfl (by decide) (by decide) (by decide) rfl rfl (Nat.le_of_ble_eq_true rfl) dX8_holdsBy_53 ?_
    refine G_iconst (v := 3) dX8_holdsBy_56 (by decide) ?_
    refine G_imul dX8_holdsBy_57 ?_
    obtain rfl := Option.some.inj h
    exact G_ret dX8_holdsBy_58 trivial rfl rfl
  replace h := (if_neg hc2).symm.trans h
  have nhc1 := ne_lit (n := 0) (by decide) hc1
  have nhc2 := ne_lit (n := 1) (by decide) hc2
  refine G_lookup (off := 58) (tgt := 59) dX8_holdsBy_1 (by decide) (by generalize (v1 : Int32).toInt = zz at nhc1 nhc2 ⊢; simp [Op.lookupswitch.offset, Ne.symm nhc1, Ne.symm nhc2]; done) (by decide) ?_
  refine G_aload_n dX8_holdsBy_59 rfl ?_
  refine G_iload_n dX8_holdsBy_60 rfl ?_
  refine G_callSv  (X8_above_ok rfl) ok_X8_above ml_X8_193 (by omega) rfl rfl (Nat.le_of_ble_eq_true rfl) dX8_holdsBy_61 ?_
  refine G_iload_n dX8_holdsBy_64 rfl ?_
  obtain ⟨q4, hq4, h⟩ := bnd h
  refine G_callVv (T := TX8) (N := 22) (f := 19) (i := 0) (hr0 hq4) ok_X8_holdsBy ml_X8_238 (by omega) rfl (by decide) (by decide) (by decide) rfl rfl (Nat.le_of_ble_eq_true rfl) dX8_holdsBy_65 ?_
  obtain rfl := Option.some.inj h
  exact G_ret dX8_holdsBy_68 trivial rfl rfl

def X8_rec_holdsBy : Nat → Nat → Int32 → Int32 → Mem → Option (Int32 × Mem)
  | 0, _, _, _, _ => none
  | fu + 1, tg, a0, a1, M => (if tg = 0 then X8_holdsBy (X8_rec_holdsBy fu) a0 a1 M else none)
theorem X8_rec_holdsBy_ok : ∀ (fu : Nat), (∀ {a0 a1 : Int32} {M N : Mem} {res : Int32 × Mem}, X8_rec_holdsBy fu 0 a0 a1 M = some res → Spec mt_X8_holdsBy (fu + 1) [.inr (.inr (19, 0)), .inl a0, .inl a1] (N, M) (some (.inl res.1)) (N, res.2)) := by
  intro fu
  induction fu with
  | zero => intro a0 a1 M N res h; cases h
  | succ fu ih =>
    intro a0 a1 M N res h
    have e := X8_holdsBy_ok (X8_rec_holdsBy fu) (d := fu + 1) (by omega) (fun h => ih h) (M := M) (N := N) (res := res) h
    rw [show fu + 1 + 1 = fu + 1 + 1 from by omega]
    exact e
def X8_holdsByC (a0 : Int32) (a1 : Int32) (M : Mem) : Option (Int32 × Mem) := X8_rec_holdsBy 100 0 a0 a1  M
theorem X8_holdsByC_ok {a0 : Int32} {a1 : Int32} {M N : Mem} {res : Int32 × Mem} (h : X8_holdsByC a0 a1 M = some res) : Spec mt_X8_holdsBy 101 [.inr (.inr (19, 0)), .inl a0, .inl a1] (N, M) (some (.inl res.1)) (N, res.2) := (X8_rec_holdsBy_ok 100) h

theorem dX8_growsBy_0 : decode cX8_growsBy 0 = .ok (.iload_n 1, 1) := by decide +kernel
theorem dX8_growsBy_1 : decode cX8_growsBy 1 = .ok (.lookupswitch 92 #[(0, 35), (3, 53), (6, 70)], 35) := by decide +kernel
theorem dX8_growsBy_36 : decode cX8_growsBy 36 = .ok (.aload_n 0, 1) := by decide +kernel
theorem dX8_growsBy_37 : decode cX8_growsBy 37 = .ok (.bipush 12, 2) := by decide +kernel
theorem dX8_growsBy_39 : decode cX8_growsBy 39 = .ok (.invokevirtual 232, 3) := by decide +kernel
theorem dX8_growsBy_42 : decode cX8_growsBy 42 = .ok (.iload_n 2, 1) := by decide +kernel
theorem dX8_growsBy_43 : decode cX8_growsBy 43 = .ok (.aload_n 0, 1) := by decide +kernel
theorem dX8_growsBy_44 : decode cX8_growsBy 44 = .ok (.aload_n 0, 1) := by decide +kernel
theorem dX8_growsBy_45 : decode cX8_growsBy 45 = .ok (.getfield 235, 3) := by decide +kernel
theorem dX8_growsBy_48 : decode cX8_growsBy 48 = .ok (.iconst 1, 1) := by decide +kernel
theorem dX8_growsBy_49 : decode cX8_growsBy 49 = .ok (.invokevirtual 53, 3) := by decide +kernel
theorem dX8_growsBy_52 : decode cX8_growsBy 52 = .ok (.isub, 1) := by decide +kernel
theorem dX8_growsBy_53 : decode cX8_growsBy 53 = .ok (.ireturn, 1) := by decide +kernel
theorem dX8_growsBy_54 : decode cX8_growsBy 54 = .ok (.aload_n 0, 1) := by decide +kernel
theorem dX8_growsBy_55 : decode cX8_growsBy 55 = .ok (.bipush 40, 2) := by decide +kernel
theorem dX8_growsBy_57 : decode cX8_growsBy 57 = .ok (.invokevirtual 232, 3) := by decide +kernel
theorem dX8_growsBy_60 : decode cX8_growsBy 60 = .ok (.aload_n 0, 1) := by decide +kernel
theorem dX8_growsBy_61 : decode cX8_growsBy 61 = .ok (.iconst 3, 1) := by decide +kernel
theorem dX8_growsBy_62 : decode cX8_growsBy 62 = .ok (.invokestatic 193, 3) := by decide +kernel
theorem dX8_growsBy_65 : decode cX8_growsBy 65 = .ok (.iload_n 2, 1) := by decide +kernel
theorem dX8_growsBy_66 : decode cX8_growsBy 66 = .ok (.invokevirtual 244, 3) := by decide +kernel
theorem dX8_growsBy_69 : decode cX8_growsBy 69 = .ok (.ineg, 1) := by decide +kernel
theorem dX8_growsBy_70 : decode cX8_growsBy 70 = .ok (.ireturn, 1) := by decide +kernel
theorem dX8_growsBy_71 : decode cX8_growsBy 71 = .ok (.aload_n 0, 1) := by decide +kernel
theorem dX8_growsBy_72 : decode cX8_growsBy 72 = .ok (.bipush 70, 2) := by decide +kernel
theorem dX8_growsBy_74 : decode cX8_growsBy 74 = .ok (.invokevirtual 232, 3) := by decide +kernel
theorem dX8_growsBy_77 : decode cX8_growsBy 77 = .ok (.aload_n 0, 1) := by decide +kernel
theorem dX8_growsBy_78 : decode cX8_growsBy 78 = .ok (.bipush 6, 2) := by decide +kernel
theorem dX8_growsBy_80 : decode cX8_growsBy 80 = .ok (.invokestatic 193, 3) := by decide +kernel
theorem dX8_growsBy_83 : decode cX8_growsBy 83 = .ok (.iload_n 2, 1) := by decide +kernel
theorem dX8_growsBy_84 : decode cX8_growsBy 84 = .ok (.invokevirtual 244, 3) := by decide +kernel
theorem dX8_growsBy_87 : decode cX8_growsBy 87 = .ok (.aload_n 0, 1) := by decide +kernel
theorem dX8_growsBy_88 : decode cX8_growsBy 88 = .ok (.getfield 235, 3) := by decide +kernel
theorem dX8_growsBy_91 : decode cX8_growsBy 91 = .ok (.ixor, 1) := by decide +kernel
theorem dX8_growsBy_92 : decode cX8_growsBy 92 = .ok (.ireturn, 1) := by decide +kernel
theorem dX8_growsBy_93 : decode cX8_growsBy 93 = .ok (.aload_n 0, 1) := by decide +kernel
theorem dX8_growsBy_94 : decode cX8_growsBy 94 = .ok (.iload_n 1, 1) := by decide +kernel
theorem dX8_growsBy_95 : decode cX8_growsBy 95 = .ok (.invokestatic 193, 3) := by decide +kernel
theorem dX8_growsBy_98 : decode cX8_growsBy 98 = .ok (.iload_n 2, 1) := by decide +kernel
theorem dX8_growsBy_99 : decode cX8_growsBy 99 = .ok (.invokevirtual 244, 3) := by decide +kernel
theorem dX8_growsBy_102 : decode cX8_growsBy 102 = .ok (.ireturn, 1) := by decide +kernel
def X8_growsBy (rc : Nat → Int32 → Int32 → Mem → Option (Int32 × Mem)) (v1 : Int32) (v2 : Int32) (M : Mem) : Option (Int32 × Mem) := (if v1 = 0 then ((X8_ran 12 M).bind fun q1 => ((X8_of (q1 19 0 17) 1 q1).bind fun q2 => (some ((v2 - q2), q1)))) else (if v1 = 3 then ((X8_ran 40 M).bind fun q3 => ((rc 0 (X8_above 3) v2 q3).bind fun q4 => (some ((-q4.1), q4.2)))) else (if v1 = 6 then ((X8_ran 70 M).bind fun q5 => ((rc 0 (X8_above 6) v2 q5).bind fun q6 => (some ((q6.1 ^^^ (q6.2 19 0 17)), q6.2)))) else ((rc 0 (X8_above v1) v2 M).bind fun q7 => (some (q7.1, q7.2))))))
set_option maxRecDepth 100000 in
set_option maxHeartbeats 4000000 in
theorem X8_growsBy_ok (rc : Nat → Int32 → Int32 → Mem → Option (Int32 × Mem))  {d : Nat} (hd0 : 1 ≤ d) (hr0 : ∀ {a0 a1 : Int32} {M N : Mem} {res : Int32 × Mem}, rc 0 a0 a1 M = some res → Spec mt_X8_growsBy d [.inr (.inr (19, 0)), .inl a0, .inl a1] (N, M) (some (.inl res.1)) (N, res.2)) {v1 : Int32} {v2 : Int32} {M N : Mem} {res : Int32 × Mem} (h : X8_growsBy rc v1 v2 M = some res) : Spec mt_X8_growsBy (d + 1) [.inr (.inr (19, 0)), .inl v1, .inl v2] (N, M) (some (.inl res.1)) (N, res.2) := by
  unfold X8_growsBy at h
  refine Spec_of_G (by decide) rfl (Nat.le_of_ble_eq_true rfl) ?_
  refine G_sub [(0, .inr (.inr (19, 0))), (1, .inl v1), (2, .inl v2)] [0, 1, 2] rfl ?_
  refine G_iload_n dX8_growsBy_0 rfl ?_
  by_cases hc1 : v1 = 0
  · replace h := (if_pos hc1).symm.trans h
    refine G_lookEq (off := 35) (tgt := 36) hc1 dX8_growsBy_1 (by decide) (by decide) (by decide) ?_
    refine G_aload_n dX8_growsBy_36 rfl ?_
    refine G_bipush (v := 12) dX8_growsBy_37 (by decide) ?_
    obtain ⟨q1, hq1, h⟩ := bnd h
    refine G_callVn (T := TX8) (N := 22) (f := 19) (i := 0) (X8_ran_ok hq1) ok_X8_ran ml_X8_232 (by omega) rfl (by decide) (by decide) (by decide) rfl rfl (Nat.le_of_ble_eq_true rfl) dX8_growsBy_39 ?_
    refine G_iload_n dX8_growsBy_42 rfl ?_
    refine G_aload_n dX8_growsBy_43 rfl ?_
    refine G_aload_n dX8_growsBy_44 rfl ?_
    refine fg_X8_235 (v := (q1 19 0 17)) rfl rfl (by decide) dX8_growsBy_45 ?_
    refine G_iconst (v := 1) dX8_growsBy_48 (by decide) ?_
    obtain ⟨q2, hq2, h⟩ := bnd h
    refine G_callVv (T := TX8) (N := 22) (f := 19) (i := 0) (X8_of_ok hq2) ok_X8_of ml_X8_53 (by omega) rfl (by decide) (by decide) (by decide) rfl rfl (Nat.le_of_ble_eq_true rfl) dX8_growsBy_49 ?_
    refine G_isub dX8_growsBy_52 ?_
    obtain rfl := Option.some.inj h
    exact G_ret dX8_growsBy_53 trivial rfl rfl
  replace h := (if_neg hc1).symm.trans h
  by_cases hc2 : v1 = 3
  · replace h := (if_pos hc2).symm.trans h
    refine G_lookEq (off := 53) (tgt := 54) hc2 dX8_growsBy_1 (by decide) (by decide) (by decide) ?_
    refine G_aload_n dX8_growsBy_54 rfl ?_
    refine G_bipush (v := 40) dX8_growsBy_55 (by decide) ?_
    obtain ⟨q3, hq3, h⟩ := bnd h
    refine G_callVn (T := TX8) (N := 22) (f := 19) (i := 0) (X8_ran_ok hq3) ok_X8_ran ml_X8_232 (by omega) rfl (by decide) (by decide) (by decide) rfl rfl (Nat.le_of_ble_eq_true rfl) dX8_growsBy_57 ?_
    refine G_aload_n dX8_growsBy_60 rfl ?_
    refine G_iconst (v := 3) dX8_growsBy_61 (by decide) ?_
    refine G_callSv  (X8_above_ok rfl) ok_X8_above ml_X8_193 (by omega) rfl rfl (Nat.le_of_ble_eq_true rfl) dX8_growsBy_62 ?_
    refine G_iload_n dX8_growsBy_65 rfl ?_
    obtain ⟨q4, hq4, h⟩ := bnd h
    refine G_callVv (T := TX8) (N := 22) (f := 19) (i := 0) (hr0 hq4) ok_X8_growsBy ml_X8_244 (by omega) rfl (by decide) (by decide) (by decide) rfl rfl (Nat.le_of_ble_eq_true rfl) dX8_growsBy_66 ?_
    refine G_ineg dX8_growsBy_69 ?_
    obtain rfl := Option.some.inj h
    exact G_ret dX8_growsBy_70 trivial rfl rfl
  replace h := (if_neg hc2).symm.trans h
  by_cases hc3 : v1 = 6
  · replace h := (if_pos hc3).symm.trans h
    refine G_lookEq (off := 70) (tgt := 71) hc3 dX8_growsBy_1 (by decide) (by decide) (by decide) ?_
    refine G_aload_n dX8_growsBy_71 rfl ?_
    refine G_bipush (v := 70) dX8_growsBy_72 (by decide) ?_
    obtain ⟨q5, hq5, h⟩ := bnd h
    refine G_callVn (T := TX8) (N := 22) (f := 19) (i := 0) (X8_ran_ok hq5) ok_X8_ran ml_X8_232 (by omega) rfl (by decide) (by decide) (by decide) rfl rfl (Nat.le_of_ble_eq_true rfl) dX8_growsBy_74 ?_
    refine G_aload_n dX8_growsBy_77 rfl ?_
    refine G_bipush (v := 6) dX8_growsBy_78 (by decide) ?_
    refine G_callSv  (X8_above_ok rfl) ok_X8_above ml_X8_193 (by omega) rfl rfl (Nat.le_of_ble_eq_true rfl) dX8_growsBy_80 ?_
    refine G_iload_n dX8_growsBy_83 rfl ?_
    obtain ⟨q6, hq6, h⟩ := bnd h
    refine G_callVv (T := TX8) (N := 22) (f := 19) (i := 0) (hr0 hq6) ok_X8_growsBy ml_X8_244 (by omega) rfl (by decide) (by decide) (by decide) rfl rfl (Nat.le_of_ble_eq_true rfl) dX8_growsBy_84 ?_
    refine G_aload_n dX8_growsBy_87 rfl ?_
    refine fg_X8_235 (v := (q6.2 19 0 17)) rfl rfl (by decide) dX8_growsBy_88 ?_
    refine G_ixor dX8_growsBy_91 ?_
    obtain rfl := Option.some.inj h
    exact G_ret dX8_growsBy_92 trivial rfl rfl
  replace h := (if_neg hc3).symm.trans h
  have nhc1 := ne_lit (n := 0) (by decide) hc1
  have nhc2 := ne_lit (n := 3) (by decide) hc2
  have nhc3 := ne_lit (n := 6) (by decide) hc3
  refine G_lookup (off := 92) (tgt := 93) dX8_growsBy_1 (by decide) (by generalize (v1 : Int32).toInt = zz at nhc1 nhc2 nhc3 ⊢; simp [Op.lookupswitch.offset, Ne.symm nhc1, Ne.symm nhc2, Ne.symm nhc3]; done) (by decide) ?_
  refine G_aload_n dX8_growsBy_93 rfl ?_
  refine G_iload_n dX8_growsBy_94 rfl ?_
  refine G_callSv  (X8_above_ok rfl) ok_X8_above ml_X8_193 (by omega) rfl rfl (Nat.le_of_ble_eq_true rfl) dX8_growsBy_95 ?_
  refine G_iload_n dX8_growsBy_98 rfl ?_
  obtain ⟨q7, hq7, h⟩ := bnd h
  refine G_callVv (T := TX8) (N := 22) (f := 19) (i := 0) (hr0 hq7) ok_X8_growsBy ml_X8_244 (by omega) rfl (by decide) (by decide) (by decide) rfl rfl (Nat.le_of_ble_eq_true rfl) dX8_growsBy_99 ?_
  obtain rfl := Option.some.inj h
  exact G_ret dX8_growsBy_102 trivial rfl rfl

def X8_rec_growsBy : Nat → Nat → Int32 → Int32 → Mem → Option (Int32 × Mem)
  | 0, _, _, _, _ => none
  | fu + 1, tg, a0, a1, M => (if tg = 0 then X8_growsBy (X8_rec_growsBy fu) a0 a1 M else none)
theorem X8_rec_growsBy_ok : ∀ (fu : Nat), (∀ {a0 a1 : Int32} {M N : Mem} {res : Int32 × Mem}, X8_rec_growsBy fu 0 a0 a1 M = some res → Spec mt_X8_growsBy (fu + 1) [.inr (.inr (19, 0)), .inl a0, .inl a1] (N, M) (some (.inl res.1)) (N, res.2)) := by
  intro fu
  induction fu with
  | zero => intro a0 a1 M N res h; cases h
  | succ fu ih =>
    intro a0 a1 M N res h
    have e := X8_growsBy_ok (X8_rec_growsBy fu) (d := fu + 1) (by omega) (fun h => ih h) (M := M) (N := N) (res := res) h
    rw [show fu + 1 + 1 = fu + 1 + 1 from by omega]
    exact e
def X8_growsByC (a0 : Int32) (a1 : Int32) (M : Mem) : Option (Int32 × Mem) := X8_rec_growsBy 100 0 a0 a1  M
theorem X8_growsByC_ok {a0 : Int32} {a1 : Int32} {M N : Mem} {res : Int32 × Mem} (h : X8_growsByC a0 a1 M = some res) : Spec mt_X8_growsBy 101 [.inr (.inr (19, 0)), .inl a0, .inl a1] (N, M) (some (.inl res.1)) (N, res.2) := (X8_rec_growsBy_ok 100) h

theorem dX8_trace_0 : decode cX8_trace 0 = .ok (.iload_n 1, 1) := by decide +kernel
theorem dX8_trace_1 : decode cX8_trace 1 = .ok (.i2l, 1) := by decide +kernel
theorem dX8_trace_2 : decode cX8_trace 2 = .ok (.lconst 0, 1) := by decide +kernel
theorem dX8_trace_3 : decode cX8_trace 3 = .ok (.aload_n 0, 1) := by decide +kernel
theorem dX8_trace_4 : decode cX8_trace 4 = .ok (.getfield 229, 3) := by decide +kernel
theorem dX8_trace_7 : decode cX8_trace 7 = .ok (.iconst 1, 1) := by decide +kernel
theorem dX8_trace_8 : decode cX8_trace 8 = .ok (.isub, 1) := by decide +kernel
theorem dX8_trace_9 : decode cX8_trace 9 = .ok (.i2l, 1) := by decide +kernel
theorem dX8_trace_10 : decode cX8_trace 10 = .ok (.invokestatic 47, 3) := by decide +kernel
theorem dX8_trace_13 : decode cX8_trace 13 = .ok (.ifCond .eq 12, 3) := by decide +kernel
theorem dX8_trace_16 : decode cX8_trace 16 = .ok (.aload_n 0, 1) := by decide +kernel
theorem dX8_trace_17 : decode cX8_trace 17 = .ok (.getfield 31, 3) := by decide +kernel
theorem dX8_trace_20 : decode cX8_trace 20 = .ok (.iload_n 1, 1) := by decide +kernel
theorem dX8_trace_21 : decode cX8_trace 21 = .ok (.iaload, 1) := by decide +kernel
theorem dX8_trace_22 : decode cX8_trace 22 = .ok (.goto 8, 3) := by decide +kernel
theorem dX8_trace_25 : decode cX8_trace 25 = .ok (.aload_n 0, 1) := by decide +kernel
theorem dX8_trace_26 : decode cX8_trace 26 = .ok (.iconst 2, 1) := by decide +kernel
theorem dX8_trace_27 : decode cX8_trace 27 = .ok (.invokevirtual 130, 3) := by decide +kernel
theorem dX8_trace_30 : decode cX8_trace 30 = .ok (.ireturn, 1) := by decide +kernel
def X8_trace (v1 : Int32) (M : Mem) : Option (Int32 × Mem) := (if (X8_in (v1.toInt64) (0 : Int64) (((M 19 0 16) - 1).toInt64)) = 0 then ((X8_finds 2 M).bind fun q1 => (some (q1.1, q1.2))) else (if ib v1 40 = true then (some ((M 27 0 v1.toNatClampNeg), M)) else none))
set_option maxRecDepth 100000 in
set_option maxHeartbeats 4000000 in
theorem X8_trace_ok  {v1 : Int32} {M N : Mem} {res : Int32 × Mem} (h : X8_trace v1 M = some res) : Spec mt_X8_trace 1 [.inr (.inr (19, 0)), .inl v1] (N, M) (some (.inl res.1)) (N, res.2) := by
  unfold X8_trace at h
  refine Spec_of_G (by decide) rfl (Nat.le_of_ble_eq_true rfl) ?_
  refine G_sub [(0, .inr (.inr (19, 0))), (1, .inl v1)] [0, 1] rfl ?_
  refine G_iload_n dX8_trace_0 rfl ?_
  refine G_i2l dX8_trace_1 ?_
  refine G_lconst (v := 0) dX8_trace_2 (by decide) ?_
  refine G_aload_n dX8_trace_3 rfl ?_
  refine fg_X8_229 (v := (M 19 0 16)) rfl rfl (by decide) dX8_trace_4 ?_
  refine G_iconst (v := 1) dX8_trace_7 (by decide) ?_
  refine G_isub dX8_trace_8 ?_
  refine G_i2l dX8_trace_9 ?_
  refine G_callSv  (X8_in_ok rfl) ok_X8_in ml_X8_47 (by decide) rfl rfl (Nat.le_of_ble_eq_true rfl) dX8_trace_10 ?_
  refine G_if_eq (tgt := 25) dX8_trace_13 (by decide) (fun hc1 => ?_) (fun hc1 => ?_)
  · replace h := (if_pos hc1).symm.trans h
    refine G_aload_n dX8_trace_25 rfl ?_
    refine G_iconst (v := 2) dX8_trace_26 (by decide) ?_
    obtain ⟨q1, hq1, h⟩ := bnd h
    refine G_callVv (T := TX8) (N := 22) (f := 19) (i := 0) (X8_finds_ok hq1) ok_X8_finds ml_X8_130 (by decide) rfl (by decide) (by decide) (by decide) rfl rfl (Nat.le_of_ble_eq_true rfl) dX8_trace_27 ?_
    obtain rfl := Option.some.inj h
    exact G_ret dX8_trace_30 trivial rfl rfl
  · replace h := (if_neg hc1).symm.trans h
    refine G_aload_n dX8_trace_16 rfl ?_
    refine fg_X8_31 rfl (by decide) dX8_trace_17 ?_
    refine G_iload_n dX8_trace_20 rfl ?_
    obtain ⟨hb2, h⟩ := chk h
    have lhb2 := ib_lt hb2
    refine al_27 (kk := v1.toNatClampNeg) (v := (M 27 0 v1.toNatClampNeg)) (by decide) hb2 rfl rfl dX8_trace_21 ?_
    refine G_goto (tgt := 30) dX8_trace_22 (by decide) ?_
    obtain rfl := Option.some.inj h
    exact G_ret dX8_trace_30 trivial rfl rfl

theorem dX8_image_0 : decode cX8_image 0 = .ok (.iconst 0, 1) := by decide +kernel
theorem dX8_image_1 : decode cX8_image 1 = .ok (.istore_n 1, 1) := by decide +kernel
theorem dX8_image_2 : decode cX8_image 2 = .ok (.iload_n 1, 1) := by decide +kernel
theorem dX8_image_3 : decode cX8_image 3 = .ok (.sipush 268, 3) := by decide +kernel
theorem dX8_image_6 : decode cX8_image 6 = .ok (.if_icmp .ge 21, 3) := by decide +kernel
theorem dX8_image_9 : decode cX8_image 9 = .ok (.aload_n 0, 1) := by decide +kernel
theorem dX8_image_10 : decode cX8_image 10 = .ok (.getfield 13, 3) := by decide +kernel
theorem dX8_image_13 : decode cX8_image 13 = .ok (.iload_n 1, 1) := by decide +kernel
theorem dX8_image_14 : decode cX8_image 14 = .ok (.aload_n 0, 1) := by decide +kernel
theorem dX8_image_15 : decode cX8_image 15 = .ok (.getfield 7, 3) := by decide +kernel
theorem dX8_image_18 : decode cX8_image 18 = .ok (.iload_n 1, 1) := by decide +kernel
theorem dX8_image_19 : decode cX8_image 19 = .ok (.iaload, 1) := by decide +kernel
theorem dX8_image_20 : decode cX8_image 20 = .ok (.iastore, 1) := by decide +kernel
theorem dX8_image_21 : decode cX8_image 21 = .ok (.iinc 1 1, 3) := by decide +kernel
theorem dX8_image_24 : decode cX8_image 24 = .ok (.goto (-22), 3) := by decide +kernel
theorem dX8_image_27 : decode cX8_image 27 = .ok (.aload_n 0, 1) := by decide +kernel
theorem dX8_image_28 : decode cX8_image 28 = .ok (.dup, 1) := by decide +kernel
theorem dX8_image_29 : decode cX8_image 29 = .ok (.getfield 252, 3) := by decide +kernel
theorem dX8_image_32 : decode cX8_image 32 = .ok (.iconst 1, 1) := by decide +kernel
theorem dX8_image_33 : decode cX8_image 33 = .ok (.iadd, 1) := by decide +kernel
theorem dX8_image_34 : decode cX8_image 34 = .ok (.putfield 252, 3) := by decide +kernel
theorem dX8_image_37 : decode cX8_image 37 = .ok (.aload_n 0, 1) := by decide +kernel
theorem dX8_image_38 : decode cX8_image 38 = .ok (.getfield 252, 3) := by decide +kernel
theorem dX8_image_41 : decode cX8_image 41 = .ok (.ireturn, 1) := by decide +kernel
def X8_image_L2 : Nat → Int32 → Mem → Option (Mem)
  | 0, _, _ => none
  | fu + 1, v1, M => (if v1 < 268 then (if ib v1 268 = true then (X8_image_L2 fu (v1 + 1) (up3 M 21 0 v1.toNatClampNeg (M 20 0 v1.toNatClampNeg))) else none) else (some M))
set_option maxRecDepth 100000 in
set_option maxHeartbeats 4000000 in
theorem X8_image_L2_ok  {r : Option AV} {M' : MM} : ∀ (fu : Nat) (v1 : Int32) (M N : Mem) {res : Mem} (h : X8_image_L2 fu v1 M = some res) (K : G mt_X8_image 0 r M' 27 [(0, .inr (.inr (19, 0)))] [] (N, res)), G mt_X8_image 0 r M' 2 [(0, .inr (.inr (19, 0))), (1, .inl v1)] [] (N, M) := by
  intro fu
  induction fu with
  | zero =>
    intro v1 M N res h
    cases h
  | succ fu ih =>
    intro v1 M N res h K
    replace h : (if v1 < 268 then (if ib v1 268 = true then (X8_image_L2 fu (v1 + 1) (up3 M 21 0 v1.toNatClampNeg (M 20 0 v1.toNatClampNeg))) else none) else (some M)) = some res := h
    refine G_iload_n dX8_image_2 rfl ?_
    refine G_sipush (v := 268) dX8_image_3 (by decide) ?_
    refine G_icmp_ge (tgt := 27) dX8_image_6 (by decide) (fun hc1 => ?_) (fun hc1 => ?_)
    · replace h := (if_neg hc1).symm.trans h
      refine G_sub [(0, .inr (.inr (19, 0)))] [0] rfl ?_
      obtain rfl := Option.some.inj h
      exact K
    · replace h := (if_pos hc1).symm.trans h
      refine G_aload_n dX8_image_9 rfl ?_
      refine fg_X8_13 rfl (by decide) dX8_image_10 ?_
      refine G_iload_n dX8_image_13 rfl ?_
      refine G_aload_n dX8_image_14 rfl ?_
      refine fg_X8_7 rfl (by decide) dX8_image_15 ?_
      refine G_iload_n dX8_image_18 rfl ?_
      obtain ⟨hb1, h⟩ := chk h
      have lhb1 := ib_lt hb1
      refine al_20 (kk := v1.toNatClampNeg) (v := (M 20 0 v1.toNatClampNeg)) (by decide) hb1 rfl rfl dX8_image_19 ?_
      refine as_21 (kk := v1.toNatClampNeg) (by decide) hb1 rfl dX8_image_20 ?_
      refine G_iinc (v := (v1 + 1)) (L2 := [(1, .inl (v1 + 1)), (0, .inr (.inr (19, 0)))]) dX8_image_21 rfl (by first | rfl | (show _ + Int32.ofInt _ = _; rfl)) (by decide) rfl ?_
      refine G_goto (tgt := 2) dX8_image_24 (by decide) ?_
      refine G_sub [(0, .inr (.inr (19, 0))), (1, .inl (v1 + 1))] [1, 0] rfl ?_
      exact ih (v1 + 1) (up3 M 21 0 v1.toNatClampNeg (M 20 0 v1.toNatClampNeg)) _  h K

def X8_image  (M : Mem) : Option (Int32 × Mem) := ((X8_image_L2 400 0 M).bind fun q2 => (some (((q2 19 0 3) + 1), (up3 q2 19 0 3 ((q2 19 0 3) + 1)))))
set_option maxRecDepth 100000 in
set_option maxHeartbeats 4000000 in
theorem X8_image_ok  {M N : Mem} {res : Int32 × Mem} (h : X8_image M = some res) : Spec mt_X8_image 0 [.inr (.inr (19, 0))] (N, M) (some (.inl res.1)) (N, res.2) := by
  unfold X8_image at h
  refine Spec_of_G (by decide) rfl (Nat.le_of_ble_eq_true rfl) ?_
  refine G_sub [(0, .inr (.inr (19, 0)))] [0] rfl ?_
  refine G_iconst (v := 0) dX8_image_0 (by decide) ?_
  refine G_istore_n (L2 := [(1, .inl 0), (0, .inr (.inr (19, 0)))]) dX8_image_1 (by decide) rfl ?_
  refine G_sub [(0, .inr (.inr (19, 0))), (1, .inl 0)] [1, 0] rfl ?_
  obtain ⟨q2, hq2, h⟩ := bnd h
  refine X8_image_L2_ok  400 0 M _  hq2 ?_
  refine G_aload_n dX8_image_27 rfl ?_
  refine G_dup rfl dX8_image_28 ?_
  refine fg_X8_252 (v := (q2 19 0 3)) rfl rfl (by decide) dX8_image_29 ?_
  refine G_iconst (v := 1) dX8_image_32 (by decide) ?_
  refine G_iadd dX8_image_33 ?_
  refine fp_X8_252 rfl (by decide) dX8_image_34 ?_
  refine G_aload_n dX8_image_37 rfl ?_
  refine fg_X8_252 (v := ((q2 19 0 3) + 1)) up3_eq rfl (by decide) dX8_image_38 ?_
  obtain rfl := Option.some.inj h
  exact G_ret dX8_image_41 trivial rfl rfl

