theorem dX7_fail_0 : decode cX7_fail 0 = .ok (.iload_n 1, 1) := by decide +kernel
theorem dX7_fail_1 : decode cX7_fail 1 = .ok (.iconst 1, 1) := by decide +kernel
theorem dX7_fail_2 : decode cX7_fail 2 = .ok (.if_icmp .lt 18, 3) := by decide +kernel
theorem dX7_fail_5 : decode cX7_fail 5 = .ok (.iload_n 1, 1) := by decide +kernel
theorem dX7_fail_6 : decode cX7_fail 6 = .ok (.iconst 5, 1) := by decide +kernel
theorem dX7_fail_7 : decode cX7_fail 7 = .ok (.if_icmp .gt 13, 3) := by decide +kernel
theorem dX7_fail_10 : decode cX7_fail 10 = .ok (.aload_n 0, 1) := by decide +kernel
theorem dX7_fail_11 : decode cX7_fail 11 = .ok (.getfield 52, 3) := by decide +kernel
theorem dX7_fail_14 : decode cX7_fail 14 = .ok (.iload_n 1, 1) := by decide +kernel
theorem dX7_fail_15 : decode cX7_fail 15 = .ok (.dup2, 1) := by decide +kernel
theorem dX7_fail_16 : decode cX7_fail 16 = .ok (.iaload, 1) := by decide +kernel
theorem dX7_fail_17 : decode cX7_fail 17 = .ok (.iconst 1, 1) := by decide +kernel
theorem dX7_fail_18 : decode cX7_fail 18 = .ok (.iadd, 1) := by decide +kernel
theorem dX7_fail_19 : decode cX7_fail 19 = .ok (.iastore, 1) := by decide +kernel
theorem dX7_fail_20 : decode cX7_fail 20 = .ok (.ldc_w 298, 3) := by decide +kernel
theorem dX7_fail_23 : decode cX7_fail 23 = .ok (.iload_n 1, 1) := by decide +kernel
theorem dX7_fail_24 : decode cX7_fail 24 = .ok (.isub, 1) := by decide +kernel
theorem dX7_fail_25 : decode cX7_fail 25 = .ok (.ireturn, 1) := by decide +kernel
def X7_fail (v1 : Int32) (M : Mem) : Option (Int32 × Mem) := (if v1 < 1 then (some (((-1000000000) - v1), M)) else (if 5 < v1 then (some (((-1000000000) - v1), M)) else (if ib v1 6 = true then (some (((-1000000000) - v1), (up3 M 18 0 v1.toNatClampNeg ((M 18 0 v1.toNatClampNeg) + 1)))) else none)))
set_option maxRecDepth 100000 in
set_option maxHeartbeats 4000000 in
theorem X7_fail_ok  {v1 : Int32} {M N : Mem} {res : Int32 × Mem} (h : X7_fail v1 M = some res) : Spec mt_X7_fail 0 [.inr (.inr (7, 0)), .inl v1] (M, N) (some (.inl res.1)) (res.2, N) := by
  unfold X7_fail at h
  refine Spec_of_G (by decide) rfl (Nat.le_of_ble_eq_true rfl) ?_
  refine G_sub [(0, .inr (.inr (7, 0))), (1, .inl v1)] [0, 1] rfl ?_
  refine G_iload_n dX7_fail_0 rfl ?_
  refine G_iconst (v := 1) dX7_fail_1 (by decide) ?_
  refine G_icmp_lt (tgt := 20) dX7_fail_2 (by decide) (fun hc1 => ?_) (fun hc1 => ?_)
  · replace h := (if_pos hc1).symm.trans h
    refine G_ldcw ko_X7_298 dX7_fail_20 ?_
    refine G_iload_n dX7_fail_23 rfl ?_
    refine G_isub dX7_fail_24 ?_
    obtain rfl := Option.some.inj h
    exact G_ret dX7_fail_25 trivial rfl rfl
  · replace h := (if_neg hc1).symm.trans h
    refine G_iload_n dX7_fail_5 rfl ?_
    refine G_iconst (v := 5) dX7_fail_6 (by decide) ?_
    refine G_icmp_gt (tgt := 20) dX7_fail_7 (by decide) (fun hc2 => ?_) (fun hc2 => ?_)
    · replace h := (if_pos hc2).symm.trans h
      refine G_ldcw ko_X7_298 dX7_fail_20 ?_
      refine G_iload_n dX7_fail_23 rfl ?_
      refine G_isub dX7_fail_24 ?_
      obtain rfl := Option.some.inj h
      exact G_ret dX7_fail_25 trivial rfl rfl
    · replace h := (if_neg hc2).symm.trans h
      refine G_aload_n dX7_fail_10 rfl ?_
      refine fg_X7_52 rfl (by decide) dX7_fail_11 ?_
      refine G_iload_n dX7_fail_14 rfl ?_
      refine G_dup2 rfl rfl dX7_fail_15 ?_
      obtain ⟨hb1, h⟩ := chk h
      have lhb1 := ib_lt hb1
      refine al_18 (kk := v1.toNatClampNeg) (v := (M 18 0 v1.toNatClampNeg)) (by decide) hb1 rfl rfl dX7_fail_16 ?_
      refine G_iconst (v := 1) dX7_fail_17 (by decide) ?_
      refine G_iadd dX7_fail_18 ?_
      refine as_18 (kk := v1.toNatClampNeg) (by decide) hb1 rfl dX7_fail_19 ?_
      refine G_ldcw ko_X7_298 dX7_fail_20 ?_
      refine G_iload_n dX7_fail_23 rfl ?_
      refine G_isub dX7_fail_24 ?_
      obtain rfl := Option.some.inj h
      exact G_ret dX7_fail_25 trivial rfl rfl

theorem dX7_house_0 : decode cX7_house 0 = .ok (.iload_n 1, 1) := by decide +kernel
theorem dX7_house_1 : decode cX7_house 1 = .ok (.invokestatic 57, 3) := by decide +kernel
theorem dX7_house_4 : decode cX7_house 4 = .ok (.ifCond .eq 20, 3) := by decide +kernel
theorem dX7_house_7 : decode cX7_house 7 = .ok (.iload_n 2, 1) := by decide +kernel
theorem dX7_house_8 : decode cX7_house 8 = .ok (.iconst 1, 1) := by decide +kernel
theorem dX7_house_9 : decode cX7_house 9 = .ok (.invokestatic 61, 3) := by decide +kernel
theorem dX7_house_12 : decode cX7_house 12 = .ok (.ifCond .eq 12, 3) := by decide +kernel
theorem dX7_house_15 : decode cX7_house 15 = .ok (.iload_n 3, 1) := by decide +kernel
theorem dX7_house_16 : decode cX7_house 16 = .ok (.bipush 9, 2) := by decide +kernel
theorem dX7_house_18 : decode cX7_house 18 = .ok (.invokestatic 61, 3) := by decide +kernel
theorem dX7_house_21 : decode cX7_house 21 = .ok (.ifCond .ne 9, 3) := by decide +kernel
theorem dX7_house_24 : decode cX7_house 24 = .ok (.aload_n 0, 1) := by decide +kernel
theorem dX7_house_25 : decode cX7_house 25 = .ok (.iconst 1, 1) := by decide +kernel
theorem dX7_house_26 : decode cX7_house 26 = .ok (.invokevirtual 65, 3) := by decide +kernel
theorem dX7_house_29 : decode cX7_house 29 = .ok (.ireturn, 1) := by decide +kernel
theorem dX7_house_30 : decode cX7_house 30 = .ok (.iload_n 2, 1) := by decide +kernel
theorem dX7_house_31 : decode cX7_house 31 = .ok (.ifCond .ne 13, 3) := by decide +kernel
theorem dX7_house_34 : decode cX7_house 34 = .ok (.aload_n 0, 1) := by decide +kernel
theorem dX7_house_35 : decode cX7_house 35 = .ok (.getfield 10, 3) := by decide +kernel
theorem dX7_house_38 : decode cX7_house 38 = .ok (.getfield 69, 3) := by decide +kernel
theorem dX7_house_41 : decode cX7_house 41 = .ok (.goto 10, 3) := by decide +kernel
theorem dX7_house_44 : decode cX7_house 44 = .ok (.aload_n 0, 1) := by decide +kernel
theorem dX7_house_45 : decode cX7_house 45 = .ok (.getfield 10, 3) := by decide +kernel
theorem dX7_house_48 : decode cX7_house 48 = .ok (.getfield 72, 3) := by decide +kernel
theorem dX7_house_51 : decode cX7_house 51 = .ok (.astore 4, 2) := by decide +kernel
theorem dX7_house_53 : decode cX7_house 53 = .ok (.aload 4, 2) := by decide +kernel
theorem dX7_house_55 : decode cX7_house 55 = .ok (.iload_n 1, 1) := by decide +kernel
theorem dX7_house_56 : decode cX7_house 56 = .ok (.iaload, 1) := by decide +kernel
theorem dX7_house_57 : decode cX7_house 57 = .ok (.istore 5, 2) := by decide +kernel
theorem dX7_house_59 : decode cX7_house 59 = .ok (.aload 4, 2) := by decide +kernel
theorem dX7_house_61 : decode cX7_house 61 = .ok (.iload_n 1, 1) := by decide +kernel
theorem dX7_house_62 : decode cX7_house 62 = .ok (.iload_n 3, 1) := by decide +kernel
theorem dX7_house_63 : decode cX7_house 63 = .ok (.iastore, 1) := by decide +kernel
theorem dX7_house_64 : decode cX7_house 64 = .ok (.iload 5, 2) := by decide +kernel
theorem dX7_house_66 : decode cX7_house 66 = .ok (.ireturn, 1) := by decide +kernel
def X7_house_J51 (v1 : Int32) (v3 : Int32) (z0 : Nat) (M : Mem) : Option (Int32 × Mem) := (if ib v1 5 = true then (some ((M 11 z0 v1.toNatClampNeg), (up3 M 11 z0 v1.toNatClampNeg v3))) else none)
set_option maxRecDepth 100000 in
set_option maxHeartbeats 4000000 in
theorem X7_house_J51_ok  {v1 : Int32} {v3 : Int32} {z0 : Nat} {M N : Mem} {res : Int32 × Mem} (hz0 : z0 < 3) (h : X7_house_J51 v1 v3 z0 M = some res) : G mt_X7_house 1 (some (.inl res.1)) (res.2, N) 51 [(1, .inl v1), (3, .inl v3)] [.inr (.inr (11, z0))] (M, N) := by
  unfold X7_house_J51 at h
  refine G_astore (L2 := [(4, .inr (.inr (11, z0))), (1, .inl v1), (3, .inl v3)]) dX7_house_51 (by decide) rfl ?_
  refine G_aload dX7_house_53 rfl ?_
  refine G_iload_n dX7_house_55 rfl ?_
  obtain ⟨hb3, h⟩ := chk h
  have lhb3 := ib_lt hb3
  refine al_11 (kk := v1.toNatClampNeg) (v := (M 11 z0 v1.toNatClampNeg)) hz0 hb3 rfl rfl dX7_house_56 ?_
  refine G_istore (L2 := [(5, .inl (M 11 z0 v1.toNatClampNeg)), (4, .inr (.inr (11, z0))), (1, .inl v1), (3, .inl v3)]) dX7_house_57 (by decide) rfl ?_
  refine G_aload dX7_house_59 rfl ?_
  refine G_iload_n dX7_house_61 rfl ?_
  refine G_iload_n dX7_house_62 rfl ?_
  refine as_11 (kk := v1.toNatClampNeg) hz0 hb3 rfl dX7_house_63 ?_
  refine G_iload dX7_house_64 rfl ?_
  obtain rfl := Option.some.inj h
  exact G_ret dX7_house_66 trivial rfl rfl

def X7_house_J51b (v1 : Int32) (v3 : Int32) (z0 : Nat) (M : Mem) : Option (Int32 × Mem) := (if ib v1 5 = true then (some ((M 10 z0 v1.toNatClampNeg), (up3 M 10 z0 v1.toNatClampNeg v3))) else none)
set_option maxRecDepth 100000 in
set_option maxHeartbeats 4000000 in
theorem X7_house_J51b_ok  {v1 : Int32} {v3 : Int32} {z0 : Nat} {M N : Mem} {res : Int32 × Mem} (hz0 : z0 < 3) (h : X7_house_J51b v1 v3 z0 M = some res) : G mt_X7_house 1 (some (.inl res.1)) (res.2, N) 51 [(1, .inl v1), (3, .inl v3)] [.inr (.inr (10, z0))] (M, N) := by
  unfold X7_house_J51b at h
  refine G_astore (L2 := [(4, .inr (.inr (10, z0))), (1, .inl v1), (3, .inl v3)]) dX7_house_51 (by decide) rfl ?_
  refine G_aload dX7_house_53 rfl ?_
  refine G_iload_n dX7_house_55 rfl ?_
  obtain ⟨hb4, h⟩ := chk h
  have lhb4 := ib_lt hb4
  refine al_10 (kk := v1.toNatClampNeg) (v := (M 10 z0 v1.toNatClampNeg)) hz0 hb4 rfl rfl dX7_house_56 ?_
  refine G_istore (L2 := [(5, .inl (M 10 z0 v1.toNatClampNeg)), (4, .inr (.inr (10, z0))), (1, .inl v1), (3, .inl v3)]) dX7_house_57 (by decide) rfl ?_
  refine G_aload dX7_house_59 rfl ?_
  refine G_iload_n dX7_house_61 rfl ?_
  refine G_iload_n dX7_house_62 rfl ?_
  refine as_10 (kk := v1.toNatClampNeg) hz0 hb4 rfl dX7_house_63 ?_
  refine G_iload dX7_house_64 rfl ?_
  obtain rfl := Option.some.inj h
  exact G_ret dX7_house_66 trivial rfl rfl

def X7_house (v1 : Int32) (v2 : Int32) (v3 : Int32) (M : Mem) : Option (Int32 × Mem) := (if (X7_isHouse v1) = 0 then ((X7_fail 1 M).bind fun q1 => (some (q1.1, q1.2))) else (if (X7_isWithin v2 1) = 0 then ((X7_fail 1 M).bind fun q2 => (some (q2.1, q2.2))) else (if (X7_isWithin v3 9) = 0 then ((X7_fail 1 M).bind fun q5 => (some (q5.1, q5.2))) else (if v2 = 0 then (X7_house_J51b v1 v3 0 M) else (X7_house_J51 v1 v3 0 M)))))
set_option maxRecDepth 100000 in
set_option maxHeartbeats 4000000 in
theorem X7_house_ok  {v1 : Int32} {v2 : Int32} {v3 : Int32} {M N : Mem} {res : Int32 × Mem} (h : X7_house v1 v2 v3 M = some res) : Spec mt_X7_house 1 [.inr (.inr (7, 0)), .inl v1, .inl v2, .inl v3] (M, N) (some (.inl res.1)) (res.2, N) := by
  unfold X7_house at h
  refine Spec_of_G (by decide) rfl (Nat.le_of_ble_eq_true rfl) ?_
  refine G_sub [(0, .inr (.inr (7, 0))), (1, .inl v1), (2, .inl v2), (3, .inl v3)] [0, 1, 2, 3] rfl ?_
  refine G_iload_n dX7_house_0 rfl ?_
  refine G_callSv  (X7_isHouse_ok rfl) ok_X7_isHouse ml_X7_57 (by decide) rfl rfl (Nat.le_of_ble_eq_true rfl) dX7_house_1 ?_
  refine G_if_eq (tgt := 24) dX7_house_4 (by decide) (fun hc1 => ?_) (fun hc1 => ?_)
  · replace h := (if_pos hc1).symm.trans h
    refine G_aload_n dX7_house_24 rfl ?_
    refine G_iconst (v := 1) dX7_house_25 (by decide) ?_
    obtain ⟨q1, hq1, h⟩ := bnd h
    refine G_callVv (T := TX7) (N := 10) (f := 7) (i := 0) (X7_fail_ok hq1) ok_X7_fail ml_X7_65 (by decide) rfl (by decide) (by decide) (by decide) rfl rfl (Nat.le_of_ble_eq_true rfl) dX7_house_26 ?_
    obtain rfl := Option.some.inj h
    exact G_ret dX7_house_29 trivial rfl rfl
  · replace h := (if_neg hc1).symm.trans h
    refine G_iload_n dX7_house_7 rfl ?_
    refine G_iconst (v := 1) dX7_house_8 (by decide) ?_
    refine G_callSv  (X7_isWithin_ok rfl) ok_X7_isWithin ml_X7_61 (by decide) rfl rfl (Nat.le_of_ble_eq_true rfl) dX7_house_9 ?_
    refine G_if_eq (tgt := 24) dX7_house_12 (by decide) (fun hc2 => ?_) (fun hc2 => ?_)
    · replace h := (if_pos hc2).symm.trans h
      refine G_aload_n dX7_house_24 rfl ?_
      refine G_iconst (v := 1) dX7_house_25 (by decide) ?_
      obtain ⟨q2, hq2, h⟩ := bnd h
      refine G_callVv (T := TX7) (N := 10) (f := 7) (i := 0) (X7_fail_ok hq2) ok_X7_fail ml_X7_65 (by decide) rfl (by decide) (by decide) (by decide) rfl rfl (Nat.le_of_ble_eq_true rfl) dX7_house_26 ?_
      obtain rfl := Option.some.inj h
      exact G_ret dX7_house_29 trivial rfl rfl
    · replace h := (if_neg hc2).symm.trans h
      refine G_iload_n dX7_house_15 rfl ?_
      refine G_bipush (v := 9) dX7_house_16 (by decide) ?_
      refine G_callSv  (X7_isWithin_ok rfl) ok_X7_isWithin ml_X7_61 (by decide) rfl rfl (Nat.le_of_ble_eq_true rfl) dX7_house_18 ?_
      refine G_if_ne (tgt := 30) dX7_house_21 (by decide) (fun hc3 => ?_) (fun hc3 => ?_)
      · replace h := (if_neg hc3).symm.trans h
        refine G_iload_n dX7_house_30 rfl ?_
        refine G_if_ne (tgt := 44) dX7_house_31 (by decide) (fun hc4 => ?_) (fun hc4 => ?_)
        · replace h := (if_neg hc4).symm.trans h
          refine G_aload_n dX7_house_44 rfl ?_
          refine fg_X7_10 rfl (by decide) dX7_house_45 ?_
          refine fg_X7_72 rfl (by decide) dX7_house_48 ?_
          refine G_sub [(1, .inl v1), (3, .inl v3)] [1, 3] rfl ?_
          exact X7_house_J51_ok  (by decide) h
        · replace h := (if_pos hc4).symm.trans h
          refine G_aload_n dX7_house_34 rfl ?_
          refine fg_X7_10 rfl (by decide) dX7_house_35 ?_
          refine fg_X7_69 rfl (by decide) dX7_house_38 ?_
          refine G_goto (tgt := 51) dX7_house_41 (by decide) ?_
          refine G_sub [(1, .inl v1), (3, .inl v3)] [1, 3] rfl ?_
          exact X7_house_J51b_ok  (by decide) h
      · replace h := (if_pos hc3).symm.trans h
        refine G_aload_n dX7_house_24 rfl ?_
        refine G_iconst (v := 1) dX7_house_25 (by decide) ?_
        obtain ⟨q5, hq5, h⟩ := bnd h
        refine G_callVv (T := TX7) (N := 10) (f := 7) (i := 0) (X7_fail_ok hq5) ok_X7_fail ml_X7_65 (by decide) rfl (by decide) (by decide) (by decide) rfl rfl (Nat.le_of_ble_eq_true rfl) dX7_house_26 ?_
        obtain rfl := Option.some.inj h
        exact G_ret dX7_house_29 trivial rfl rfl

theorem dX7_ofHouse_0 : decode cX7_ofHouse 0 = .ok (.iload_n 1, 1) := by decide +kernel
theorem dX7_ofHouse_1 : decode cX7_ofHouse 1 = .ok (.invokestatic 57, 3) := by decide +kernel
theorem dX7_ofHouse_4 : decode cX7_ofHouse 4 = .ok (.ifCond .eq 11, 3) := by decide +kernel
theorem dX7_ofHouse_7 : decode cX7_ofHouse 7 = .ok (.iload_n 2, 1) := by decide +kernel
theorem dX7_ofHouse_8 : decode cX7_ofHouse 8 = .ok (.iconst 2, 1) := by decide +kernel
theorem dX7_ofHouse_9 : decode cX7_ofHouse 9 = .ok (.invokestatic 61, 3) := by decide +kernel
theorem dX7_ofHouse_12 : decode cX7_ofHouse 12 = .ok (.ifCond .ne 9, 3) := by decide +kernel
theorem dX7_ofHouse_15 : decode cX7_ofHouse 15 = .ok (.aload_n 0, 1) := by decide +kernel
theorem dX7_ofHouse_16 : decode cX7_ofHouse 16 = .ok (.iconst 1, 1) := by decide +kernel
theorem dX7_ofHouse_17 : decode cX7_ofHouse 17 = .ok (.invokevirtual 65, 3) := by decide +kernel
theorem dX7_ofHouse_20 : decode cX7_ofHouse 20 = .ok (.ireturn, 1) := by decide +kernel
theorem dX7_ofHouse_21 : decode cX7_ofHouse 21 = .ok (.iload_n 2, 1) := by decide +kernel
theorem dX7_ofHouse_22 : decode cX7_ofHouse 22 = .ok (.iconst 2, 1) := by decide +kernel
theorem dX7_ofHouse_23 : decode cX7_ofHouse 23 = .ok (.if_icmp .ne 12, 3) := by decide +kernel
theorem dX7_ofHouse_26 : decode cX7_ofHouse 26 = .ok (.aload_n 0, 1) := by decide +kernel
theorem dX7_ofHouse_27 : decode cX7_ofHouse 27 = .ok (.getfield 10, 3) := by decide +kernel
theorem dX7_ofHouse_30 : decode cX7_ofHouse 30 = .ok (.iload_n 1, 1) := by decide +kernel
theorem dX7_ofHouse_31 : decode cX7_ofHouse 31 = .ok (.invokevirtual 75, 3) := by decide +kernel
theorem dX7_ofHouse_34 : decode cX7_ofHouse 34 = .ok (.ireturn, 1) := by decide +kernel
theorem dX7_ofHouse_35 : decode cX7_ofHouse 35 = .ok (.iload_n 2, 1) := by decide +kernel
theorem dX7_ofHouse_36 : decode cX7_ofHouse 36 = .ok (.ifCond .ne 15, 3) := by decide +kernel
theorem dX7_ofHouse_39 : decode cX7_ofHouse 39 = .ok (.aload_n 0, 1) := by decide +kernel
theorem dX7_ofHouse_40 : decode cX7_ofHouse 40 = .ok (.getfield 10, 3) := by decide +kernel
theorem dX7_ofHouse_43 : decode cX7_ofHouse 43 = .ok (.getfield 69, 3) := by decide +kernel
theorem dX7_ofHouse_46 : decode cX7_ofHouse 46 = .ok (.iload_n 1, 1) := by decide +kernel
theorem dX7_ofHouse_47 : decode cX7_ofHouse 47 = .ok (.iaload, 1) := by decide +kernel
theorem dX7_ofHouse_48 : decode cX7_ofHouse 48 = .ok (.goto 12, 3) := by decide +kernel
theorem dX7_ofHouse_51 : decode cX7_ofHouse 51 = .ok (.aload_n 0, 1) := by decide +kernel
theorem dX7_ofHouse_52 : decode cX7_ofHouse 52 = .ok (.getfield 10, 3) := by decide +kernel
theorem dX7_ofHouse_55 : decode cX7_ofHouse 55 = .ok (.getfield 72, 3) := by decide +kernel
theorem dX7_ofHouse_58 : decode cX7_ofHouse 58 = .ok (.iload_n 1, 1) := by decide +kernel
theorem dX7_ofHouse_59 : decode cX7_ofHouse 59 = .ok (.iaload, 1) := by decide +kernel
theorem dX7_ofHouse_60 : decode cX7_ofHouse 60 = .ok (.ireturn, 1) := by decide +kernel
def X7_ofHouse (v1 : Int32) (v2 : Int32) (M : Mem) : Option (Int32 × Mem) := (if (X7_isHouse v1) = 0 then ((X7_fail 1 M).bind fun q1 => (some (q1.1, q1.2))) else (if (X7_isWithin v2 2) = 0 then ((X7_fail 1 M).bind fun q5 => (some (q5.1, q5.2))) else (if v2 = 2 then ((X1_potsIn 0 v1 M).bind fun q4 => (some (q4, M))) else (if v2 = 0 then (if ib v1 5 = true then (some ((M 10 0 v1.toNatClampNeg), M)) else none) else (if ib v1 5 = true then (some ((M 11 0 v1.toNatClampNeg), M)) else none)))))
set_option maxRecDepth 100000 in
set_option maxHeartbeats 4000000 in
theorem X7_ofHouse_ok  {v1 : Int32} {v2 : Int32} {M N : Mem} {res : Int32 × Mem} (h : X7_ofHouse v1 v2 M = some res) : Spec mt_X7_ofHouse 1 [.inr (.inr (7, 0)), .inl v1, .inl v2] (M, N) (some (.inl res.1)) (res.2, N) := by
  unfold X7_ofHouse at h
  refine Spec_of_G (by decide) rfl (Nat.le_of_ble_eq_true rfl) ?_
  refine G_sub [(0, .inr (.inr (7, 0))), (1, .inl v1), (2, .inl v2)] [0, 1, 2] rfl ?_
  refine G_iload_n dX7_ofHouse_0 rfl ?_
  refine G_callSv  (X7_isHouse_ok rfl) ok_X7_isHouse ml_X7_57 (by decide) rfl rfl (Nat.le_of_ble_eq_true rfl) dX7_ofHouse_1 ?_
  refine G_if_eq (tgt := 15) dX7_ofHouse_4 (by decide) (fun hc1 => ?_) (fun hc1 => ?_)
  · replace h := (if_pos hc1).symm.trans h
    refine G_aload_n dX7_ofHouse_15 rfl ?_
    refine G_iconst (v := 1) dX7_ofHouse_16 (by decide) ?_
    obtain ⟨q1, hq1, h⟩ := bnd h
    refine G_callVv (T := TX7) (N := 10) (f := 7) (i := 0) (X7_fail_ok hq1) ok_X7_fail ml_X7_65 (by decide) rfl (by decide) (by decide) (by decide) rfl rfl (Nat.le_of_ble_eq_true rfl) dX7_ofHouse_17 ?_
    obtain rfl := Option.some.inj h
    exact G_ret dX7_ofHouse_20 trivial rfl rfl
  · replace h := (if_neg hc1).symm.trans h
    refine G_iload_n dX7_ofHouse_7 rfl ?_
    refine G_iconst (v := 2) dX7_ofHouse_8 (by decide) ?_
    refine G_callSv  (X7_isWithin_ok rfl) ok_X7_isWithin ml_X7_61 (by decide) rfl rfl (Nat.le_of_ble_eq_true rfl) dX7_ofHouse_9 ?_
    refine G_if_ne (tgt := 21) dX7_ofHouse_12 (by decide) (fun hc2 => ?_) (fun hc2 => ?_)
    · replace h := (if_neg hc2).symm.trans h
      refine G_iload_n dX7_ofHouse_21 rfl ?_
      refine G_iconst (v := 2) dX7_ofHouse_22 (by decide) ?_
      refine G_icmp_ne (tgt := 35) dX7_ofHouse_23 (by decide) (fun hc3 => ?_) (fun hc3 => ?_)
      · replace h := (if_neg hc3).symm.trans h
        refine G_iload_n dX7_ofHouse_35 rfl ?_
        refine G_if_ne (tgt := 51) dX7_ofHouse_36 (by decide) (fun hc4 => ?_) (fun hc4 => ?_)
        · replace h := (if_neg hc4).symm.trans h
          refine G_aload_n dX7_ofHouse_51 rfl ?_
          refine fg_X7_10 rfl (by decide) dX7_ofHouse_52 ?_
          refine fg_X7_72 rfl (by decide) dX7_ofHouse_55 ?_
          refine G_iload_n dX7_ofHouse_58 rfl ?_
          obtain ⟨hb2, h⟩ := chk h
          have lhb2 := ib_lt hb2
          refine al_11 (kk := v1.toNatClampNeg) (v := (M 11 0 v1.toNatClampNeg)) (by decide) hb2 rfl rfl dX7_ofHouse_59 ?_
          obtain rfl := Option.some.inj h
          exact G_ret dX7_ofHouse_60 trivial rfl rfl
        · replace h := (if_pos hc4).symm.trans h
          refine G_aload_n dX7_ofHouse_39 rfl ?_
          refine fg_X7_10 rfl (by decide) dX7_ofHouse_40 ?_
          refine fg_X7_69 rfl (by decide) dX7_ofHouse_43 ?_
          refine G_iload_n dX7_ofHouse_46 rfl ?_
          obtain ⟨hb3, h⟩ := chk h
          have lhb3 := ib_lt hb3
          refine al_10 (kk := v1.toNatClampNeg) (v := (M 10 0 v1.toNatClampNeg)) (by decide) hb3 rfl rfl dX7_ofHouse_47 ?_
          refine G_goto (tgt := 60) dX7_ofHouse_48 (by decide) ?_
          obtain rfl := Option.some.inj h
          exact G_ret dX7_ofHouse_60 trivial rfl rfl
      · replace h := (if_pos hc3).symm.trans h
        refine G_aload_n dX7_ofHouse_26 rfl ?_
        refine fg_X7_10 rfl (by decide) dX7_ofHouse_27 ?_
        refine G_iload_n dX7_ofHouse_30 rfl ?_
        obtain ⟨q4, hq4, h⟩ := bnd h
        refine G_callVv (T := TX1) (N := 8) (f := 1) (i := 0) (X1_potsIn_ok (by decide) hq4) ok_X1_potsIn ml_X7_75 (by decide) rfl (by decide) (by decide) (by decide) rfl rfl (Nat.le_of_ble_eq_true rfl) dX7_ofHouse_31 ?_
        obtain rfl := Option.some.inj h
        exact G_ret dX7_ofHouse_34 trivial rfl rfl
    · replace h := (if_pos hc2).symm.trans h
      refine G_aload_n dX7_ofHouse_15 rfl ?_
      refine G_iconst (v := 1) dX7_ofHouse_16 (by decide) ?_
      obtain ⟨q5, hq5, h⟩ := bnd h
      refine G_callVv (T := TX7) (N := 10) (f := 7) (i := 0) (X7_fail_ok hq5) ok_X7_fail ml_X7_65 (by decide) rfl (by decide) (by decide) (by decide) rfl rfl (Nat.le_of_ble_eq_true rfl) dX7_ofHouse_17 ?_
      obtain rfl := Option.some.inj h
      exact G_ret dX7_ofHouse_20 trivial rfl rfl

theorem dX7_pot_0 : decode cX7_pot 0 = .ok (.iload_n 1, 1) := by decide +kernel
theorem dX7_pot_1 : decode cX7_pot 1 = .ok (.invokestatic 78, 3) := by decide +kernel
theorem dX7_pot_4 : decode cX7_pot 4 = .ok (.ifCond .eq 19, 3) := by decide +kernel
theorem dX7_pot_7 : decode cX7_pot 7 = .ok (.iload_n 2, 1) := by decide +kernel
theorem dX7_pot_8 : decode cX7_pot 8 = .ok (.invokestatic 57, 3) := by decide +kernel
theorem dX7_pot_11 : decode cX7_pot 11 = .ok (.ifCond .eq 12, 3) := by decide +kernel
theorem dX7_pot_14 : decode cX7_pot 14 = .ok (.iload_n 3, 1) := by decide +kernel
theorem dX7_pot_15 : decode cX7_pot 15 = .ok (.bipush 9, 2) := by decide +kernel
theorem dX7_pot_17 : decode cX7_pot 17 = .ok (.invokestatic 61, 3) := by decide +kernel
theorem dX7_pot_20 : decode cX7_pot 20 = .ok (.ifCond .ne 9, 3) := by decide +kernel
theorem dX7_pot_23 : decode cX7_pot 23 = .ok (.aload_n 0, 1) := by decide +kernel
theorem dX7_pot_24 : decode cX7_pot 24 = .ok (.iconst 1, 1) := by decide +kernel
theorem dX7_pot_25 : decode cX7_pot 25 = .ok (.invokevirtual 65, 3) := by decide +kernel
theorem dX7_pot_28 : decode cX7_pot 28 = .ok (.ireturn, 1) := by decide +kernel
theorem dX7_pot_29 : decode cX7_pot 29 = .ok (.aload_n 0, 1) := by decide +kernel
theorem dX7_pot_30 : decode cX7_pot 30 = .ok (.getfield 10, 3) := by decide +kernel
theorem dX7_pot_33 : decode cX7_pot 33 = .ok (.getfield 81, 3) := by decide +kernel
theorem dX7_pot_36 : decode cX7_pot 36 = .ok (.bipush 10, 2) := by decide +kernel
theorem dX7_pot_38 : decode cX7_pot 38 = .ok (.if_icmp .lt 9, 3) := by decide +kernel
theorem dX7_pot_41 : decode cX7_pot 41 = .ok (.aload_n 0, 1) := by decide +kernel
theorem dX7_pot_42 : decode cX7_pot 42 = .ok (.iconst 4, 1) := by decide +kernel
theorem dX7_pot_43 : decode cX7_pot 43 = .ok (.invokevirtual 65, 3) := by decide +kernel
theorem dX7_pot_46 : decode cX7_pot 46 = .ok (.ireturn, 1) := by decide +kernel
theorem dX7_pot_47 : decode cX7_pot 47 = .ok (.aload_n 0, 1) := by decide +kernel
theorem dX7_pot_48 : decode cX7_pot 48 = .ok (.getfield 10, 3) := by decide +kernel
theorem dX7_pot_51 : decode cX7_pot 51 = .ok (.getfield 85, 3) := by decide +kernel
theorem dX7_pot_54 : decode cX7_pot 54 = .ok (.aload_n 0, 1) := by decide +kernel
theorem dX7_pot_55 : decode cX7_pot 55 = .ok (.getfield 10, 3) := by decide +kernel
theorem dX7_pot_58 : decode cX7_pot 58 = .ok (.getfield 81, 3) := by decide +kernel
theorem dX7_pot_61 : decode cX7_pot 61 = .ok (.aaload, 1) := by decide +kernel
theorem dX7_pot_62 : decode cX7_pot 62 = .ok (.iload_n 1, 1) := by decide +kernel
theorem dX7_pot_63 : decode cX7_pot 63 = .ok (.iload_n 2, 1) := by decide +kernel
theorem dX7_pot_64 : decode cX7_pot 64 = .ok (.iload_n 3, 1) := by decide +kernel
theorem dX7_pot_65 : decode cX7_pot 65 = .ok (.invokevirtual 89, 3) := by decide +kernel
theorem dX7_pot_68 : decode cX7_pot 68 = .ok (.aload_n 0, 1) := by decide +kernel
theorem dX7_pot_69 : decode cX7_pot 69 = .ok (.getfield 10, 3) := by decide +kernel
theorem dX7_pot_72 : decode cX7_pot 72 = .ok (.dup, 1) := by decide +kernel
theorem dX7_pot_73 : decode cX7_pot 73 = .ok (.getfield 81, 3) := by decide +kernel
theorem dX7_pot_76 : decode cX7_pot 76 = .ok (.iconst 1, 1) := by decide +kernel
theorem dX7_pot_77 : decode cX7_pot 77 = .ok (.iadd, 1) := by decide +kernel
theorem dX7_pot_78 : decode cX7_pot 78 = .ok (.putfield 81, 3) := by decide +kernel
theorem dX7_pot_81 : decode cX7_pot 81 = .ok (.aload_n 0, 1) := by decide +kernel
theorem dX7_pot_82 : decode cX7_pot 82 = .ok (.getfield 10, 3) := by decide +kernel
theorem dX7_pot_85 : decode cX7_pot 85 = .ok (.getfield 81, 3) := by decide +kernel
theorem dX7_pot_88 : decode cX7_pot 88 = .ok (.iconst 1, 1) := by decide +kernel
theorem dX7_pot_89 : decode cX7_pot 89 = .ok (.isub, 1) := by decide +kernel
theorem dX7_pot_90 : decode cX7_pot 90 = .ok (.ireturn, 1) := by decide +kernel
def X7_pot (v1 : Int32) (v2 : Int32) (v3 : Int32) (M : Mem) : Option (Int32 × Mem) := (if (X7_isKindWithNumber v1) = 0 then ((X7_fail 1 M).bind fun q1 => (some (q1.1, q1.2))) else (if (X7_isHouse v2) = 0 then ((X7_fail 1 M).bind fun q2 => (some (q2.1, q2.2))) else (if (X7_isWithin v3 9) = 0 then ((X7_fail 1 M).bind fun q6 => (some (q6.1, q6.2))) else (if (M 1 0 5) < 10 then (if ib (M 1 0 5) 10 = true then ((X3_begin (10 * 0 + (M 1 0 5).toNatClampNeg) v1 v2 v3 M).bind fun q4 => (some ((((q4 1 0 5) + 1) - 1), (up3 q4 1 0 5 ((q4 1 0 5) + 1))))) else none) else ((X7_fail 4 M).bind fun q5 => (some (q5.1, q5.2)))))))
set_option maxRecDepth 100000 in
set_option maxHeartbeats 4000000 in
theorem X7_pot_ok  {v1 : Int32} {v2 : Int32} {v3 : Int32} {M N : Mem} {res : Int32 × Mem} (h : X7_pot v1 v2 v3 M = some res) : Spec mt_X7_pot 1 [.inr (.inr (7, 0)), .inl v1, .inl v2, .inl v3] (M, N) (some (.inl res.1)) (res.2, N) := by
  unfold X7_pot at h
  refine Spec_of_G (by decide) rfl (Nat.le_of_ble_eq_true rfl) ?_
  refine G_sub [(0, .inr (.inr (7, 0))), (1, .inl v1), (2, .inl v2), (3, .inl v3)] [0, 1, 2, 3] rfl ?_
  refine G_iload_n dX7_pot_0 rfl ?_
  refine G_callSv  (X7_isKindWithNumber_ok rfl) ok_X7_isKindWithNumber ml_X7_78 (by decide) rfl rfl (Nat.le_of_ble_eq_true rfl) dX7_pot_1 ?_
  refine G_if_eq (tgt := 23) dX7_pot_4 (by decide) (fun hc1 => ?_) (fun hc1 => ?_)
  · replace h := (if_pos hc1).symm.trans h
    refine G_aload_n dX7_pot_23 rfl ?_
    refine G_iconst (v := 1) dX7_pot_24 (by decide) ?_
    obtain ⟨q1, hq1, h⟩ := bnd h
    refine G_callVv (T := TX7) (N := 10) (f := 7) (i := 0) (X7_fail_ok hq1) ok_X7_fail ml_X7_65 (by decide) rfl (by decide) (by decide) (by decide) rfl rfl (Nat.le_of_ble_eq_true rfl) dX7_pot_25 ?_
    obtain rfl := Option.some.inj h
    exact G_ret dX7_pot_28 trivial rfl rfl
  · replace h := (if_neg hc1).symm.trans h
    refine G_iload_n dX7_pot_7 rfl ?_
    refine G_callSv  (X7_isHouse_ok rfl) ok_X7_isHouse ml_X7_57 (by decide) rfl rfl (Nat.le_of_ble_eq_true rfl) dX7_pot_8 ?_
    refine G_if_eq (tgt := 23) dX7_pot_11 (by decide) (fun hc2 => ?_) (fun hc2 => ?_)
    · replace h := (if_pos hc2).symm.trans h
      refine G_aload_n dX7_pot_23 rfl ?_
      refine G_iconst (v := 1) dX7_pot_24 (by decide) ?_
      obtain ⟨q2, hq2, h⟩ := bnd h
      refine G_callVv (T := TX7) (N := 10) (f := 7) (i := 0) (X7_fail_ok hq2) ok_X7_fail ml_X7_65 (by decide) rfl (by decide) (by decide) (by decide) rfl rfl (Nat.le_of_ble_eq_true rfl) dX7_pot_25 ?_
      obtain rfl := Option.some.inj h
      exact G_ret dX7_pot_28 trivial rfl rfl
    · replace h := (if_neg hc2).symm.trans h
      refine G_iload_n dX7_pot_14 rfl ?_
      refine G_bipush (v := 9) dX7_pot_15 (by decide) ?_
      refine G_callSv  (X7_isWithin_ok rfl) ok_X7_isWithin ml_X7_61 (by decide) rfl rfl (Nat.le_of_ble_eq_true rfl) dX7_pot_17 ?_
      refine G_if_ne (tgt := 29) dX7_pot_20 (by decide) (fun hc3 => ?_) (fun hc3 => ?_)
      · replace h := (if_neg hc3).symm.trans h
        refine G_aload_n dX7_pot_29 rfl ?_
        refine fg_X7_10 rfl (by decide) dX7_pot_30 ?_
        refine fg_X7_81 (v := (M 1 0 5)) rfl rfl (by decide) dX7_pot_33 ?_
        refine G_bipush (v := 10) dX7_pot_36 (by decide) ?_
        refine G_icmp_lt (tgt := 47) dX7_pot_38 (by decide) (fun hc4 => ?_) (fun hc4 => ?_)
        · replace h := (if_pos hc4).symm.trans h
          refine G_aload_n dX7_pot_47 rfl ?_
          refine fg_X7_10 rfl (by decide) dX7_pot_48 ?_
          refine fg_X7_85 rfl (by decide) dX7_pot_51 ?_
          refine G_aload_n dX7_pot_54 rfl ?_
          refine fg_X7_10 rfl (by decide) dX7_pot_55 ?_
          refine fg_X7_81 (v := (M 1 0 5)) rfl rfl (by decide) dX7_pot_58 ?_
          obtain ⟨hb3, h⟩ := chk h
          have lhb3 := ib_lt hb3
          refine G_aald3 (by decide) (by decide) (by decide) rfl hb3 dX7_pot_61 ?_
          refine G_iload_n dX7_pot_62 rfl ?_
          refine G_iload_n dX7_pot_63 rfl ?_
          refine G_iload_n dX7_pot_64 rfl ?_
          obtain ⟨q4, hq4, h⟩ := bnd h
          refine G_callVn (T := TX3) (N := 8) (f := 3) (i := (10 * 0 + (M 1 0 5).toNatClampNeg)) (X3_begin_ok (by omega) hq4) ok_X3_begin ml_X7_89 (by decide) rfl (by decide) (show (10 * 0 + (M 1 0 5).toNatClampNeg) < 30 from (by omega)) (by decide) rfl rfl (Nat.le_of_ble_eq_true rfl) dX7_pot_65 ?_
          refine G_aload_n dX7_pot_68 rfl ?_
          refine fg_X7_10 rfl (by decide) dX7_pot_69 ?_
          refine G_dup rfl dX7_pot_72 ?_
          refine fg_X7_81 (v := (q4 1 0 5)) rfl rfl (by decide) dX7_pot_73 ?_
          refine G_iconst (v := 1) dX7_pot_76 (by decide) ?_
          refine G_iadd dX7_pot_77 ?_
          refine fp_X7_81 rfl (by decide) dX7_pot_78 ?_
          refine G_aload_n dX7_pot_81 rfl ?_
          refine fg_X7_10 rfl (by decide) dX7_pot_82 ?_
          refine fg_X7_81 (v := ((q4 1 0 5) + 1)) up3_eq rfl (by decide) dX7_pot_85 ?_
          refine G_iconst (v := 1) dX7_pot_88 (by decide) ?_
          refine G_isub dX7_pot_89 ?_
          obtain rfl := Option.some.inj h
          exact G_ret dX7_pot_90 trivial rfl rfl
        · replace h := (if_neg hc4).symm.trans h
          refine G_aload_n dX7_pot_41 rfl ?_
          refine G_iconst (v := 4) dX7_pot_42 (by decide) ?_
          obtain ⟨q5, hq5, h⟩ := bnd h
          refine G_callVv (T := TX7) (N := 10) (f := 7) (i := 0) (X7_fail_ok hq5) ok_X7_fail ml_X7_65 (by decide) rfl (by decide) (by decide) (by decide) rfl rfl (Nat.le_of_ble_eq_true rfl) dX7_pot_43 ?_
          obtain rfl := Option.some.inj h
          exact G_ret dX7_pot_46 trivial rfl rfl
      · replace h := (if_pos hc3).symm.trans h
        refine G_aload_n dX7_pot_23 rfl ?_
        refine G_iconst (v := 1) dX7_pot_24 (by decide) ?_
        obtain ⟨q6, hq6, h⟩ := bnd h
        refine G_callVv (T := TX7) (N := 10) (f := 7) (i := 0) (X7_fail_ok hq6) ok_X7_fail ml_X7_65 (by decide) rfl (by decide) (by decide) (by decide) rfl rfl (Nat.le_of_ble_eq_true rfl) dX7_pot_25 ?_
        obtain rfl := Option.some.inj h
        exact G_ret dX7_pot_28 trivial rfl rfl

theorem dX7_ofPot_0 : decode cX7_ofPot 0 = .ok (.aload_n 0, 1) := by decide +kernel
theorem dX7_ofPot_1 : decode cX7_ofPot 1 = .ok (.getfield 10, 3) := by decide +kernel
theorem dX7_ofPot_4 : decode cX7_ofPot 4 = .ok (.iload_n 1, 1) := by decide +kernel
theorem dX7_ofPot_5 : decode cX7_ofPot 5 = .ok (.invokevirtual 95, 3) := by decide +kernel
theorem dX7_ofPot_8 : decode cX7_ofPot 8 = .ok (.ifCond .ne 9, 3) := by decide +kernel
theorem dX7_ofPot_11 : decode cX7_ofPot 11 = .ok (.aload_n 0, 1) := by decide +kernel
theorem dX7_ofPot_12 : decode cX7_ofPot 12 = .ok (.iconst 1, 1) := by decide +kernel
theorem dX7_ofPot_13 : decode cX7_ofPot 13 = .ok (.invokevirtual 65, 3) := by decide +kernel
theorem dX7_ofPot_16 : decode cX7_ofPot 16 = .ok (.ireturn, 1) := by decide +kernel
theorem dX7_ofPot_17 : decode cX7_ofPot 17 = .ok (.aload_n 0, 1) := by decide +kernel
theorem dX7_ofPot_18 : decode cX7_ofPot 18 = .ok (.getfield 10, 3) := by decide +kernel
theorem dX7_ofPot_21 : decode cX7_ofPot 21 = .ok (.getfield 85, 3) := by decide +kernel
theorem dX7_ofPot_24 : decode cX7_ofPot 24 = .ok (.iload_n 1, 1) := by decide +kernel
theorem dX7_ofPot_25 : decode cX7_ofPot 25 = .ok (.aaload, 1) := by decide +kernel
theorem dX7_ofPot_26 : decode cX7_ofPot 26 = .ok (.astore_n 3, 1) := by decide +kernel
theorem dX7_ofPot_27 : decode cX7_ofPot 27 = .ok (.iload_n 2, 1) := by decide +kernel
theorem dX7_ofPot_28 : decode cX7_ofPot 28 = .ok (.tableswitch 114 0 9 #[56, 61, 66, 71, 76, 81, 86, 91, 104, 109], 56) := by decide +kernel
theorem dX7_ofPot_84 : decode cX7_ofPot 84 = .ok (.aload_n 3, 1) := by decide +kernel
theorem dX7_ofPot_85 : decode cX7_ofPot 85 = .ok (.getfield 98, 3) := by decide +kernel
theorem dX7_ofPot_88 : decode cX7_ofPot 88 = .ok (.ireturn, 1) := by decide +kernel
theorem dX7_ofPot_89 : decode cX7_ofPot 89 = .ok (.aload_n 3, 1) := by decide +kernel
theorem dX7_ofPot_90 : decode cX7_ofPot 90 = .ok (.getfield 101, 3) := by decide +kernel
theorem dX7_ofPot_93 : decode cX7_ofPot 93 = .ok (.ireturn, 1) := by decide +kernel
theorem dX7_ofPot_94 : decode cX7_ofPot 94 = .ok (.aload_n 3, 1) := by decide +kernel
theorem dX7_ofPot_95 : decode cX7_ofPot 95 = .ok (.getfield 104, 3) := by decide +kernel
theorem dX7_ofPot_98 : decode cX7_ofPot 98 = .ok (.ireturn, 1) := by decide +kernel
theorem dX7_ofPot_99 : decode cX7_ofPot 99 = .ok (.aload_n 3, 1) := by decide +kernel
theorem dX7_ofPot_100 : decode cX7_ofPot 100 = .ok (.getfield 107, 3) := by decide +kernel
theorem dX7_ofPot_103 : decode cX7_ofPot 103 = .ok (.ireturn, 1) := by decide +kernel
theorem dX7_ofPot_104 : decode cX7_ofPot 104 = .ok (.aload_n 3, 1) := by decide +kernel
theorem dX7_ofPot_105 : decode cX7_ofPot 105 = .ok (.getfield 110, 3) := by decide +kernel
theorem dX7_ofPot_108 : decode cX7_ofPot 108 = .ok (.ireturn, 1) := by decide +kernel
theorem dX7_ofPot_109 : decode cX7_ofPot 109 = .ok (.aload_n 3, 1) := by decide +kernel
theorem dX7_ofPot_110 : decode cX7_ofPot 110 = .ok (.getfield 113, 3) := by decide +kernel
theorem dX7_ofPot_113 : decode cX7_ofPot 113 = .ok (.ireturn, 1) := by decide +kernel
theorem dX7_ofPot_114 : decode cX7_ofPot 114 = .ok (.aload_n 3, 1) := by decide +kernel
theorem dX7_ofPot_115 : decode cX7_ofPot 115 = .ok (.getfield 116, 3) := by decide +kernel
theorem dX7_ofPot_118 : decode cX7_ofPot 118 = .ok (.ireturn, 1) := by decide +kernel
theorem dX7_ofPot_119 : decode cX7_ofPot 119 = .ok (.aload_n 3, 1) := by decide +kernel
theorem dX7_ofPot_120 : decode cX7_ofPot 120 = .ok (.getfield 119, 3) := by decide +kernel
theorem dX7_ofPot_123 : decode cX7_ofPot 123 = .ok (.ifCond .eq 7, 3) := by decide +kernel
theorem dX7_ofPot_126 : decode cX7_ofPot 126 = .ok (.iconst 1, 1) := by decide +kernel
theorem dX7_ofPot_127 : decode cX7_ofPot 127 = .ok (.goto 4, 3) := by decide +kernel
theorem dX7_ofPot_130 : decode cX7_ofPot 130 = .ok (.iconst 0, 1) := by decide +kernel
theorem dX7_ofPot_131 : decode cX7_ofPot 131 = .ok (.ireturn, 1) := by decide +kernel
theorem dX7_ofPot_132 : decode cX7_ofPot 132 = .ok (.aload_n 3, 1) := by decide +kernel
theorem dX7_ofPot_133 : decode cX7_ofPot 133 = .ok (.invokevirtual 123, 3) := by decide +kernel
theorem dX7_ofPot_136 : decode cX7_ofPot 136 = .ok (.ireturn, 1) := by decide +kernel
theorem dX7_ofPot_137 : decode cX7_ofPot 137 = .ok (.aload_n 3, 1) := by decide +kernel
theorem dX7_ofPot_138 : decode cX7_ofPot 138 = .ok (.invokevirtual 127, 3) := by decide +kernel
theorem dX7_ofPot_141 : decode cX7_ofPot 141 = .ok (.ireturn, 1) := by decide +kernel
theorem dX7_ofPot_142 : decode cX7_ofPot 142 = .ok (.aload_n 0, 1) := by decide +kernel
theorem dX7_ofPot_143 : decode cX7_ofPot 143 = .ok (.iconst 1, 1) := by decide +kernel
theorem dX7_ofPot_144 : decode cX7_ofPot 144 = .ok (.invokevirtual 65, 3) := by decide +kernel
theorem dX7_ofPot_147 : decode cX7_ofPot 147 = .ok (.ireturn, 1) := by decide +kernel
def X7_ofPot (v1 : Int32) (v2 : Int32) (M : Mem) : Option (Int32 × Mem) := (if (X1_has 0 v1 M) = 0 then ((X7_fail 1 M).bind fun q3 => (some (q3.1, q3.2))) else (if ib v1 10 = true then (if v2 = 0 then (some ((M 3 (10 * 0 + v1.toNatClampNeg) 0), M)) else (if v2 = 1 then (some ((M 3 (10 * 0 + v1.toNatClampNeg) 1), M)) else (if v2 = 2 then (some ((M 3 (10 * 0 + v1.toNatClampNeg) 2), M)) else (if v2 = 3 then (some ((M 3 (10 * 0 + v1.toNatClampNeg) 3), M)) else (if v2 = 4 then (some ((M 3 (10 * 0 + v1.toNatClampNeg) 4), M)) else (if v2 = 5 then (some ((M 3 (10 * 0 + v1.toNatClampNeg) 5), M)) else (if v2 = 6 then (some ((M 3 (10 * 0 + v1.toNatClampNeg) 6), M)) else (if v2 = 7 then (if (nbZ (M 3 (10 * 0 + v1.toNatClampNeg) 7)) = 0 then (some (0, M)) else (some (1, M))) else (if v2 = 8 then (some ((X3_wants (10 * 0 + v1.toNatClampNeg) M), M)) else (if v2 = 9 then (some ((X3_bears (10 * 0 + v1.toNatClampNeg) M), M)) else ((X7_fail 1 M).bind fun q2 => (some (q2.1, q2.2))))))))))))) else none))
set_option maxRecDepth 100000 in
set_option maxHeartbeats 4000000 in
theorem X7_ofPot_ok  {v1 : Int32} {v2 : Int32} {M N : Mem} {res : Int32 × Mem} (h : X7_ofPot v1 v2 M = some res) : Spec mt_X7_ofPot 1 [.inr (.inr (7, 0)), .inl v1, .inl v2] (M, N) (some (.inl res.1)) (res.2, N) := by
  unfold X7_ofPot at h
  refine Spec_of_G (by decide) rfl (Nat.le_of_ble_eq_true rfl) ?_
  refine G_sub [(0, .inr (.inr (7, 0))), (1, .inl v1), (2, .inl v2)] [0, 1, 2] rfl ?_
  refine G_aload_n dX7_ofPot_0 rfl ?_
  refine fg_X7_10 rfl (by decide) dX7_ofPot_1 ?_
  refine G_iload_n dX7_ofPot_4 rfl ?_
  refine G_callVv (T := TX1) (N := 8) (f := 1) (i := 0) (X1_has_ok (by decide) rfl) ok_X1_has ml_X7_95 (by decide) rfl (by decide) (by decide) (by decide) rfl rfl (Nat.le_of_ble_eq_true rfl) dX7_ofPot_5 ?_
  refine G_if_ne (tgt := 17) dX7_ofPot_8 (by decide) (fun hc1 => ?_) (fun hc1 => ?_)
  · replace h := (if_neg hc1).symm.trans h
    refine G_aload_n dX7_ofPot_17 rfl ?_
    refine fg_X7_10 rfl (by decide) dX7_ofPot_18 ?_
    refine fg_X7_85 rfl (by decide) dX7_ofPot_21 ?_
    refine G_iload_n dX7_ofPot_24 rfl ?_
    obtain ⟨hb1, h⟩ := chk h
    have lhb1 := ib_lt hb1
    refine G_aald3 (by decide) (by decide) (by decide) rfl hb1 dX7_ofPot_25 ?_
    refine G_astore_n (L2 := [(3, .inr (.inr (3, (10 * 0 + v1.toNatClampNeg)))), (0, .inr (.inr (7, 0))), (1, .inl v1), (2, .inl v2)]) dX7_ofPot_26 (by decide) rfl ?_
    refine G_iload_n dX7_ofPot_27 rfl ?_
    by_cases hc2 : v2 = 0
    · replace h := (if_pos hc2).symm.trans h
      refine G_tableEq (off := 56) (tgt := 84) hc2 dX7_ofPot_28 (by decide) (by decide) (by decide) (by decide) ?_
      refine G_aload_n dX7_ofPot_84 rfl ?_
      refine fg_X7_98 (v := (M 3 (10 * 0 + v1.toNatClampNeg) 0)) rfl rfl (by omega) dX7_ofPot_85 ?_
      obtain rfl := Option.some.inj h
      exact G_ret dX7_ofPot_88 trivial rfl rfl
    replace h := (if_neg hc2).symm.trans h
    by_cases hc3 : v2 = 1
    · replace h := (if_pos hc3).symm.trans h
      refine G_tableEq (off := 61) (tgt := 89) hc3 dX7_ofPot_28 (by decide) (by decide) (by decide) (by decide) ?_
      refine G_aload_n dX7_ofPot_89 rfl ?_
      refine fg_X7_101 (v := (M 3 (10 * 0 + v1.toNatClampNeg) 1)) rfl rfl (by omega) dX7_ofPot_90 ?_
      obtain rfl := Option.some.inj h
      exact G_ret dX7_ofPot_93 trivial rfl rfl
    replace h := (if_neg hc3).symm.trans h
    by_cases hc4 : v2 = 2
    · replace h := (if_pos hc4).symm.trans h
      refine G_tableEq (off := 66) (tgt := 94) hc4 dX7_ofPot_28 (by decide) (by decide) (by decide) (by decide) ?_
      refine G_aload_n dX7_ofPot_94 rfl ?_
      refine fg_X7_104 (v := (M 3 (10 * 0 + v1.toNatClampNeg) 2)) rfl rfl (by omega) dX7_ofPot_95 ?_
      obtain rfl := Option.some.inj h
      exact G_ret dX7_ofPot_98 trivial rfl rfl
    replace h := (if_neg hc4).symm.trans h
    by_cases hc5 : v2 = 3
    · replace h := (if_pos hc5).symm.trans h
      refine G_tableEq (off := 71) (tgt := 99) hc5 dX7_ofPot_28 (by decide) (by decide) (by decide) (by decide) ?_
      refine G_aload_n dX7_ofPot_99 rfl ?_
      refine fg_X7_107 (v := (M 3 (10 * 0 + v1.toNatClampNeg) 3)) rfl rfl (by omega) dX7_ofPot_100 ?_
      obtain rfl := Option.some.inj h
      exact G_ret dX7_ofPot_103 trivial rfl rfl
    replace h := (if_neg hc5).symm.trans h
    by_cases hc6 : v2 = 4
    · replace h := (if_pos hc6).symm.trans h
      refine G_tableEq (off := 76) (tgt := 104) hc6 dX7_ofPot_28 (by decide) (by decide) (by decide) (by decide) ?_
      refine G_aload_n dX7_ofPot_104 rfl ?_
      refine fg_X7_110 (v := (M 3 (10 * 0 + v1.toNatClampNeg) 4)) rfl rfl (by omega) dX7_ofPot_105 ?_
      obtain rfl := Option.some.inj h
      exact G_ret dX7_ofPot_108 trivial rfl rfl
    replace h := (if_neg hc6).symm.trans h
    by_cases hc7 : v2 = 5
    · replace h := (if_pos hc7).symm.trans h
      refine G_tableEq (off := 81) (tgt := 109) hc7 dX7_ofPot_28 (by decide) (by decide) (by decide) (by decide) ?_
      refine G_aload_n dX7_ofPot_109 rfl ?_
      refine fg_X7_113 (v := (M 3 (10 * 0 + v1.toNatClampNeg) 5)) rfl rfl (by omega) dX7_ofPot_110 ?_
      obtain rfl := Option.some.inj h
      exact G_ret dX7_ofPot_113 trivial rfl rfl
    replace h := (if_neg hc7).symm.trans h
    by_cases hc8 : v2 = 6
    · replace h := (if_pos hc8).symm.trans h
      refine G_tableEq (off := 86) (tgt := 114) hc8 dX7_ofPot_28 (by decide) (by decide) (by decide) (by decide) ?_
      refine G_aload_n dX7_ofPot_114 rfl ?_
      refine fg_X7_116 (v := (M 3 (10 * 0 + v1.toNatClampNeg) 6)) rfl rfl (by omega) dX7_ofPot_115 ?_
      obtain rfl := Option.some.inj h
      exact G_ret dX7_ofPot_118 trivial rfl rfl
    replace h := (if_neg hc8).symm.trans h
    by_cases hc9 : v2 = 7
    · replace h := (if_pos hc9).symm.trans h
      refine G_tableEq (off := 91) (tgt := 119) hc9 dX7_ofPot_28 (by decide) (by decide) (by decide) (by decide) ?_
      refine G_aload_n dX7_ofPot_119 rfl ?_
      refine fg_X7_119 (v := (nbZ (M 3 (10 * 0 + v1.toNatClampNeg) 7))) rfl rfl (by omega) dX7_ofPot_120 ?_
      refine G_if_eq (tgt := 130) dX7_ofPot_123 (by decide) (fun hc10 => ?_) (fun hc10 => ?_)
      · replace h := (if_pos hc10).symm.trans h
        refine G_iconst (v := 0) dX7_ofPot_130 (by decide) ?_
        obtain rfl := Option.some.inj h
        exact G_ret dX7_ofPot_131 trivial rfl rfl
      · replace h := (if_neg hc10).symm.trans h
        refine G_iconst (v := 1) dX7_ofPot_126 (by decide) ?_
        refine G_goto (tgt := 131) dX7_ofPot_127 (by decide) ?_
        obtain rfl := Option.some.inj h
        exact G_ret dX7_ofPot_131 trivial rfl rfl
    replace h := (if_neg hc9).symm.trans h
    by_cases hc11 : v2 = 8
    · replace h := (if_pos hc11).symm.trans h
      refine G_tableEq (off := 104) (tgt := 132) hc11 dX7_ofPot_28 (by decide) (by decide) (by decide) (by decide) ?_
      refine G_aload_n dX7_ofPot_132 rfl ?_
      refine G_callVv (T := TX3) (N := 8) (f := 3) (i := (10 * 0 + v1.toNatClampNeg)) (X3_wants_ok (by omega) rfl) ok_X3_wants ml_X7_123 (by decide) rfl (by decide) (show (10 * 0 + v1.toNatClampNeg) < 30 from (by omega)) (by decide) rfl rfl (Nat.le_of_ble_eq_true rfl) dX7_ofPot_133 ?_
      obtain rfl := Option.some.inj h
      exact G_ret dX7_ofPot_136 trivial rfl rfl
    replace h := (if_neg hc11).symm.trans h
    by_cases hc12 : v2 = 9
    · replace h := (if_pos hc12).symm.trans h
      refine G_tableEq (off := 109) (tgt := 137) hc12 dX7_ofPot_28 (by decide) (by decide) (by decide) (by decide) ?_
      refine G_aload_n dX7_ofPot_137 rfl ?_
      refine G_callVv (T := TX3) (N := 8) (f := 3) (i := (10 * 0 + v1.toNatClampNeg)) (X3_bears_ok (by omega) rfl) ok_X3_bears ml_X7_127 (by decide) rfl (by decide) (show (10 * 0 + v1.toNatClampNeg) < 30 from (by omega)) (by decide) rfl rfl (Nat.le_of_ble_eq_true rfl) dX7_ofPot_138 ?_
      obtain rfl := Option.some.inj h
      exact G_ret dX7_ofPot_141 trivial rfl rfl
    replace h := (if_neg hc12).symm.trans h
    have nhc2 := ne_lit (n := 0) (by decide) hc2
    have nhc3 := ne_lit (n := 1) (by decide) hc3
    have nhc4 := ne_lit (n := 2) (by decide) hc4
    have nhc5 := ne_lit (n := 3) (by decide) hc5
    have nhc6 := ne_lit (n := 4) (by decide) hc6
    have nhc7 := ne_lit (n := 5) (by decide) hc7
    have nhc8 := ne_lit (n := 6) (by decide) hc8
    have nhc9 := ne_lit (n := 7) (by decide) hc9
    have nhc11 := ne_lit (n := 8) (by decide) hc11
    have nhc12 := ne_lit (n := 9) (by decide) hc12
    refine G_tableOut (tgt := 142) dX7_ofPot_28 (by omega) (by decide) ?_
    refine G_aload_n dX7_ofPot_142 rfl ?_
    refine G_iconst (v := 1) dX7_ofPot_143 (by decide) ?_
    obtain ⟨q2, hq2, h⟩ := bnd h
    refine G_callVv (T := TX7) (N := 10) (f := 7) (i := 0) (X7_fail_ok hq2) ok_X7_fail ml_X7_65 (by decide) rfl (by decide) (by decide) (by decide) rfl rfl (Nat.le_of_ble_eq_true rfl) dX7_ofPot_144 ?_
    obtain rfl := Option.some.inj h
    exact G_ret dX7_ofPot_147 trivial rfl rfl
  · replace h := (if_pos hc1).symm.trans h
    refine G_aload_n dX7_ofPot_11 rfl ?_
    refine G_iconst (v := 1) dX7_ofPot_12 (by decide) ?_
    obtain ⟨q3, hq3, h⟩ := bnd h
    refine G_callVv (T := TX7) (N := 10) (f := 7) (i := 0) (X7_fail_ok hq3) ok_X7_fail ml_X7_65 (by decide) rfl (by decide) (by decide) (by decide) rfl rfl (Nat.le_of_ble_eq_true rfl) dX7_ofPot_13 ?_
    obtain rfl := Option.some.inj h
    exact G_ret dX7_ofPot_16 trivial rfl rfl

theorem dX7_change_0 : decode cX7_change 0 = .ok (.aload_n 0, 1) := by decide +kernel
theorem dX7_change_1 : decode cX7_change 1 = .ok (.getfield 10, 3) := by decide +kernel
theorem dX7_change_4 : decode cX7_change 4 = .ok (.iload_n 1, 1) := by decide +kernel
theorem dX7_change_5 : decode cX7_change 5 = .ok (.invokevirtual 95, 3) := by decide +kernel
theorem dX7_change_8 : decode cX7_change 8 = .ok (.ifCond .eq 30, 3) := by decide +kernel
theorem dX7_change_11 : decode cX7_change 11 = .ok (.iload_n 2, 1) := by decide +kernel
theorem dX7_change_12 : decode cX7_change 12 = .ok (.iconst 2, 1) := by decide +kernel
theorem dX7_change_13 : decode cX7_change 13 = .ok (.invokestatic 61, 3) := by decide +kernel
theorem dX7_change_16 : decode cX7_change 16 = .ok (.ifCond .eq 22, 3) := by decide +kernel
theorem dX7_change_19 : decode cX7_change 19 = .ok (.iload_n 3, 1) := by decide +kernel
theorem dX7_change_20 : decode cX7_change 20 = .ok (.iload_n 2, 1) := by decide +kernel
theorem dX7_change_21 : decode cX7_change 21 = .ok (.ifCond .ne 8, 3) := by decide +kernel
theorem dX7_change_24 : decode cX7_change 24 = .ok (.bipush 9, 2) := by decide +kernel
theorem dX7_change_26 : decode cX7_change 26 = .ok (.goto 6, 3) := by decide +kernel
theorem dX7_change_29 : decode cX7_change 29 = .ok (.sipush 999, 3) := by decide +kernel
theorem dX7_change_32 : decode cX7_change 32 = .ok (.invokestatic 61, 3) := by decide +kernel
theorem dX7_change_35 : decode cX7_change 35 = .ok (.ifCond .ne 9, 3) := by decide +kernel
theorem dX7_change_38 : decode cX7_change 38 = .ok (.aload_n 0, 1) := by decide +kernel
theorem dX7_change_39 : decode cX7_change 39 = .ok (.iconst 1, 1) := by decide +kernel
theorem dX7_change_40 : decode cX7_change 40 = .ok (.invokevirtual 65, 3) := by decide +kernel
theorem dX7_change_43 : decode cX7_change 43 = .ok (.ireturn, 1) := by decide +kernel
theorem dX7_change_44 : decode cX7_change 44 = .ok (.aload_n 0, 1) := by decide +kernel
theorem dX7_change_45 : decode cX7_change 45 = .ok (.getfield 10, 3) := by decide +kernel
theorem dX7_change_48 : decode cX7_change 48 = .ok (.getfield 85, 3) := by decide +kernel
theorem dX7_change_51 : decode cX7_change 51 = .ok (.iload_n 1, 1) := by decide +kernel
theorem dX7_change_52 : decode cX7_change 52 = .ok (.aaload, 1) := by decide +kernel
theorem dX7_change_53 : decode cX7_change 53 = .ok (.astore 4, 2) := by decide +kernel
theorem dX7_change_55 : decode cX7_change 55 = .ok (.iload_n 2, 1) := by decide +kernel
theorem dX7_change_56 : decode cX7_change 56 = .ok (.ifCond .ne 19, 3) := by decide +kernel
theorem dX7_change_59 : decode cX7_change 59 = .ok (.aload 4, 2) := by decide +kernel
theorem dX7_change_61 : decode cX7_change 61 = .ok (.getfield 107, 3) := by decide +kernel
theorem dX7_change_64 : decode cX7_change 64 = .ok (.istore 5, 2) := by decide +kernel
theorem dX7_change_66 : decode cX7_change 66 = .ok (.aload 4, 2) := by decide +kernel
theorem dX7_change_68 : decode cX7_change 68 = .ok (.iload_n 3, 1) := by decide +kernel
theorem dX7_change_69 : decode cX7_change 69 = .ok (.putfield 107, 3) := by decide +kernel
theorem dX7_change_72 : decode cX7_change 72 = .ok (.goto 37, 3) := by decide +kernel
theorem dX7_change_75 : decode cX7_change 75 = .ok (.iload_n 2, 1) := by decide +kernel
theorem dX7_change_76 : decode cX7_change 76 = .ok (.iconst 1, 1) := by decide +kernel
theorem dX7_change_77 : decode cX7_change 77 = .ok (.if_icmp .ne 19, 3) := by decide +kernel
theorem dX7_change_80 : decode cX7_change 80 = .ok (.aload 4, 2) := by decide +kernel
theorem dX7_change_82 : decode cX7_change 82 = .ok (.getfield 110, 3) := by decide +kernel
theorem dX7_change_85 : decode cX7_change 85 = .ok (.istore 5, 2) := by decide +kernel
theorem dX7_change_87 : decode cX7_change 87 = .ok (.aload 4, 2) := by decide +kernel
theorem dX7_change_89 : decode cX7_change 89 = .ok (.iload_n 3, 1) := by decide +kernel
theorem dX7_change_90 : decode cX7_change 90 = .ok (.putfield 110, 3) := by decide +kernel
theorem dX7_change_93 : decode cX7_change 93 = .ok (.goto 16, 3) := by decide +kernel
theorem dX7_change_96 : decode cX7_change 96 = .ok (.aload 4, 2) := by decide +kernel
theorem dX7_change_98 : decode cX7_change 98 = .ok (.getfield 113, 3) := by decide +kernel
theorem dX7_change_101 : decode cX7_change 101 = .ok (.istore 5, 2) := by decide +kernel
theorem dX7_change_103 : decode cX7_change 103 = .ok (.aload 4, 2) := by decide +kernel
theorem dX7_change_105 : decode cX7_change 105 = .ok (.iload_n 3, 1) := by decide +kernel
theorem dX7_change_106 : decode cX7_change 106 = .ok (.putfield 113, 3) := by decide +kernel
theorem dX7_change_109 : decode cX7_change 109 = .ok (.iload 5, 2) := by decide +kernel
theorem dX7_change_111 : decode cX7_change 111 = .ok (.ireturn, 1) := by decide +kernel
def X7_change_J32 (v1 : Int32) (v2 : Int32) (v3 : Int32) (s0 : Int32) (s1 : Int32) (M : Mem) : Option (Int32 × Mem) := (if (X7_isWithin s1 s0) = 0 then ((X7_fail 1 M).bind fun q4 => (some (q4.1, q4.2))) else (if ib v1 10 = true then (if v2 = 0 then (some ((M 3 (10 * 0 + v1.toNatClampNeg) 3), (up3 M 3 (10 * 0 + v1.toNatClampNeg) 3 v3))) else (if v2 = 1 then (some ((M 3 (10 * 0 + v1.toNatClampNeg) 4), (up3 M 3 (10 * 0 + v1.toNatClampNeg) 4 v3))) else (some ((M 3 (10 * 0 + v1.toNatClampNeg) 5), (up3 M 3 (10 * 0 + v1.toNatClampNeg) 5 v3))))) else none))
set_option maxRecDepth 100000 in
set_option maxHeartbeats 4000000 in
theorem X7_change_J32_ok  {v1 : Int32} {v2 : Int32} {v3 : Int32} {s0 : Int32} {s1 : Int32} {M N : Mem} {res : Int32 × Mem} (h : X7_change_J32 v1 v2 v3 s0 s1 M = some res) : G mt_X7_change 1 (some (.inl res.1)) (res.2, N) 32 [(0, .inr (.inr (7, 0))), (1, .inl v1), (2, .inl v2), (3, .inl v3)] [.inl s0, .inl s1] (M, N) := by
  unfold X7_change_J32 at h
  refine G_callSv  (X7_isWithin_ok rfl) ok_X7_isWithin ml_X7_61 (by decide) rfl rfl (Nat.le_of_ble_eq_true rfl) dX7_change_32 ?_
  refine G_if_ne (tgt := 44) dX7_change_35 (by decide) (fun hc4 => ?_) (fun hc4 => ?_)
  · replace h := (if_neg hc4).symm.trans h
    refine G_aload_n dX7_change_44 rfl ?_
    refine fg_X7_10 rfl (by decide) dX7_change_45 ?_
    refine fg_X7_85 rfl (by decide) dX7_change_48 ?_
    refine G_iload_n dX7_change_51 rfl ?_
    obtain ⟨hb3, h⟩ := chk h
    have lhb3 := ib_lt hb3
    refine G_aald3 (by decide) (by decide) (by decide) rfl hb3 dX7_change_52 ?_
    refine G_astore (L2 := [(4, .inr (.inr (3, (10 * 0 + v1.toNatClampNeg)))), (0, .inr (.inr (7, 0))), (1, .inl v1), (2, .inl v2), (3, .inl v3)]) dX7_change_53 (by decide) rfl ?_
    refine G_iload_n dX7_change_55 rfl ?_
    refine G_if_ne (tgt := 75) dX7_change_56 (by decide) (fun hc5 => ?_) (fun hc5 => ?_)
    · replace h := (if_neg hc5).symm.trans h
      refine G_iload_n dX7_change_75 rfl ?_
      refine G_iconst (v := 1) dX7_change_76 (by decide) ?_
      refine G_icmp_ne (tgt := 96) dX7_change_77 (by decide) (fun hc6 => ?_) (fun hc6 => ?_)
      · replace h := (if_neg hc6).symm.trans h
        refine G_aload dX7_change_96 rfl ?_
        refine fg_X7_113 (v := (M 3 (10 * 0 + v1.toNatClampNeg) 5)) rfl rfl (by omega) dX7_change_98 ?_
        refine G_istore (L2 := [(5, .inl (M 3 (10 * 0 + v1.toNatClampNeg) 5)), (4, .inr (.inr (3, (10 * 0 + v1.toNatClampNeg)))), (0, .inr (.inr (7, 0))), (1, .inl v1), (2, .inl v2), (3, .inl v3)]) dX7_change_101 (by decide) rfl ?_
        refine G_aload dX7_change_103 rfl ?_
        refine G_iload_n dX7_change_105 rfl ?_
        refine fp_X7_113 rfl (by omega) dX7_change_106 ?_
        refine G_iload dX7_change_109 rfl ?_
        obtain rfl := Option.some.inj h
        exact G_ret dX7_change_111 trivial rfl rfl
      · replace h := (if_pos hc6).symm.trans h
        refine G_aload dX7_change_80 rfl ?_
        refine fg_X7_110 (v := (M 3 (10 * 0 + v1.toNatClampNeg) 4)) rfl rfl (by omega) dX7_change_82 ?_
        refine G_istore (L2 := [(5, .inl (M 3 (10 * 0 + v1.toNatClampNeg) 4)), (4, .inr (.inr (3, (10 * 0 + v1.toNatClampNeg)))), (0, .inr (.inr (7, 0))), (1, .inl v1), (2, .inl v2), (3, .inl v3)]) dX7_change_85 (by decide) rfl ?_
        refine G_aload dX7_change_87 rfl ?_
        refine G_iload_n dX7_change_89 rfl ?_
        refine fp_X7_110 rfl (by omega) dX7_change_90 ?_
        refine G_goto (tgt := 109) dX7_change_93 (by decide) ?_
        refine G_iload dX7_change_109 rfl ?_
        obtain rfl := Option.some.inj h
        exact G_ret dX7_change_111 trivial rfl rfl
    · replace h := (if_pos hc5).symm.trans h
      refine G_aload dX7_change_59 rfl ?_
      refine fg_X7_107 (v := (M 3 (10 * 0 + v1.toNatClampNeg) 3)) rfl rfl (by omega) dX7_change_61 ?_
      refine G_istore (L2 := [(5, .inl (M 3 (10 * 0 + v1.toNatClampNeg) 3)), (4, .inr (.inr (3, (10 * 0 + v1.toNatClampNeg)))), (0, .inr (.inr (7, 0))), (1, .inl v1), (2, .inl v2), (3, .inl v3)]) dX7_change_64 (by decide) rfl ?_
      refine G_aload dX7_change_66 rfl ?_
      refine G_iload_n dX7_change_68 rfl ?_
      refine fp_X7_107 rfl (by omega) dX7_change_69 ?_
      refine G_goto (tgt := 109) dX7_change_72 (by decide) ?_
      refine G_iload dX7_change_109 rfl ?_
      obtain rfl := Option.some.inj h
      exact G_ret dX7_change_111 trivial rfl rfl
  · replace h := (if_pos hc4).symm.trans h
    refine G_aload_n dX7_change_38 rfl ?_
    refine G_iconst (v := 1) dX7_change_39 (by decide) ?_
    obtain ⟨q4, hq4, h⟩ := bnd h
    refine G_callVv (T := TX7) (N := 10) (f := 7) (i := 0) (X7_fail_ok hq4) ok_X7_fail ml_X7_65 (by decide) rfl (by decide) (by decide) (by decide) rfl rfl (Nat.le_of_ble_eq_true rfl) dX7_change_40 ?_
    obtain rfl := Option.some.inj h
    exact G_ret dX7_change_43 trivial rfl rfl

def X7_change (v1 : Int32) (v2 : Int32) (v3 : Int32) (M : Mem) : Option (Int32 × Mem) := (if (X1_has 0 v1 M) = 0 then ((X7_fail 1 M).bind fun q1 => (some (q1.1, q1.2))) else (if (X7_isWithin v2 2) = 0 then ((X7_fail 1 M).bind fun q2 => (some (q2.1, q2.2))) else (if v2 = 0 then (X7_change_J32 v1 v2 v3 9 v3 M) else (X7_change_J32 v1 v2 v3 999 v3 M))))
set_option maxRecDepth 100000 in
set_option maxHeartbeats 4000000 in
theorem X7_change_ok  {v1 : Int32} {v2 : Int32} {v3 : Int32} {M N : Mem} {res : Int32 × Mem} (h : X7_change v1 v2 v3 M = some res) : Spec mt_X7_change 1 [.inr (.inr (7, 0)), .inl v1, .inl v2, .inl v3] (M, N) (some (.inl res.1)) (res.2, N) := by
  unfold X7_change at h
  refine Spec_of_G (by decide) rfl (Nat.le_of_ble_eq_true rfl) ?_
  refine G_sub [(0, .inr (.inr (7, 0))), (1, .inl v1), (2, .inl v2), (3, .inl v3)] [0, 1, 2, 3] rfl ?_
  refine G_aload_n dX7_change_0 rfl ?_
  refine fg_X7_10 rfl (by decide) dX7_change_1 ?_
  refine G_iload_n dX7_change_4 rfl ?_
  refine G_callVv (T := TX1) (N := 8) (f := 1) (i := 0) (X1_has_ok (by decide) rfl) ok_X1_has ml_X7_95 (by decide) rfl (by decide) (by decide) (by decide) rfl rfl (Nat.le_of_ble_eq_true rfl) dX7_change_5 ?_
  refine G_if_eq (tgt := 38) dX7_change_8 (by decide) (fun hc1 => ?_) (fun hc1 => ?_)
  · replace h := (if_pos hc1).symm.trans h
    refine G_aload_n dX7_change_38 rfl ?_
    refine G_iconst (v := 1) dX7_change_39 (by decide) ?_
    obtain ⟨q1, hq1, h⟩ := bnd h
    refine G_callVv (T := TX7) (N := 10) (f := 7) (i := 0) (X7_fail_ok hq1) ok_X7_fail ml_X7_65 (by decide) rfl (by decide) (by decide) (by decide) rfl rfl (Nat.le_of_ble_eq_true rfl) dX7_change_40 ?_
    obtain rfl := Option.some.inj h
    exact G_ret dX7_change_43 trivial rfl rfl
  · replace h := (if_neg hc1).symm.trans h
    refine G_iload_n dX7_change_11 rfl ?_
    refine G_iconst (v := 2) dX7_change_12 (by decide) ?_
    refine G_callSv  (X7_isWithin_ok rfl) ok_X7_isWithin ml_X7_61 (by decide) rfl rfl (Nat.le_of_ble_eq_true rfl) dX7_change_13 ?_
    refine G_if_eq (tgt := 38) dX7_change_16 (by decide) (fun hc2 => ?_) (fun hc2 => ?_)
    · replace h := (if_pos hc2).symm.trans h
      refine G_aload_n dX7_change_38 rfl ?_
      refine G_iconst (v := 1) dX7_change_39 (by decide) ?_
      obtain ⟨q2, hq2, h⟩ := bnd h
      refine G_callVv (T := TX7) (N := 10) (f := 7) (i := 0) (X7_fail_ok hq2) ok_X7_fail ml_X7_65 (by decide) rfl (by decide) (by decide) (by decide) rfl rfl (Nat.le_of_ble_eq_true rfl) dX7_change_40 ?_
      obtain rfl := Option.some.inj h
      exact G_ret dX7_change_43 trivial rfl rfl
    · replace h := (if_neg hc2).symm.trans h
      refine G_iload_n dX7_change_19 rfl ?_
      refine G_iload_n dX7_change_20 rfl ?_
      refine G_if_ne (tgt := 29) dX7_change_21 (by decide) (fun hc3 => ?_) (fun hc3 => ?_)
      · replace h := (if_neg hc3).symm.trans h
        refine G_sipush (v := 999) dX7_change_29 (by decide) ?_
        exact X7_change_J32_ok   h
      · replace h := (if_pos hc3).symm.trans h
        refine G_bipush (v := 9) dX7_change_24 (by decide) ?_
        refine G_goto (tgt := 32) dX7_change_26 (by decide) ?_
        exact X7_change_J32_ok   h

theorem dX7_shift_0 : decode cX7_shift 0 = .ok (.aload_n 0, 1) := by decide +kernel
theorem dX7_shift_1 : decode cX7_shift 1 = .ok (.getfield 10, 3) := by decide +kernel
theorem dX7_shift_4 : decode cX7_shift 4 = .ok (.iload_n 1, 1) := by decide +kernel
theorem dX7_shift_5 : decode cX7_shift 5 = .ok (.invokevirtual 95, 3) := by decide +kernel
theorem dX7_shift_8 : decode cX7_shift 8 = .ok (.ifCond .eq 10, 3) := by decide +kernel
theorem dX7_shift_11 : decode cX7_shift 11 = .ok (.iload_n 2, 1) := by decide +kernel
theorem dX7_shift_12 : decode cX7_shift 12 = .ok (.invokestatic 57, 3) := by decide +kernel
theorem dX7_shift_15 : decode cX7_shift 15 = .ok (.ifCond .ne 9, 3) := by decide +kernel
theorem dX7_shift_18 : decode cX7_shift 18 = .ok (.aload_n 0, 1) := by decide +kernel
theorem dX7_shift_19 : decode cX7_shift 19 = .ok (.iconst 1, 1) := by decide +kernel
theorem dX7_shift_20 : decode cX7_shift 20 = .ok (.invokevirtual 65, 3) := by decide +kernel
theorem dX7_shift_23 : decode cX7_shift 23 = .ok (.ireturn, 1) := by decide +kernel
theorem dX7_shift_24 : decode cX7_shift 24 = .ok (.aload_n 0, 1) := by decide +kernel
theorem dX7_shift_25 : decode cX7_shift 25 = .ok (.getfield 10, 3) := by decide +kernel
theorem dX7_shift_28 : decode cX7_shift 28 = .ok (.getfield 85, 3) := by decide +kernel
theorem dX7_shift_31 : decode cX7_shift 31 = .ok (.iload_n 1, 1) := by decide +kernel
theorem dX7_shift_32 : decode cX7_shift 32 = .ok (.aaload, 1) := by decide +kernel
theorem dX7_shift_33 : decode cX7_shift 33 = .ok (.astore_n 3, 1) := by decide +kernel
theorem dX7_shift_34 : decode cX7_shift 34 = .ok (.aload_n 3, 1) := by decide +kernel
theorem dX7_shift_35 : decode cX7_shift 35 = .ok (.getfield 104, 3) := by decide +kernel
theorem dX7_shift_38 : decode cX7_shift 38 = .ok (.istore 4, 2) := by decide +kernel
theorem dX7_shift_40 : decode cX7_shift 40 = .ok (.iload 4, 2) := by decide +kernel
theorem dX7_shift_42 : decode cX7_shift 42 = .ok (.iconst (-1), 1) := by decide +kernel
theorem dX7_shift_43 : decode cX7_shift 43 = .ok (.if_icmp .eq 9, 3) := by decide +kernel
theorem dX7_shift_46 : decode cX7_shift 46 = .ok (.iload 4, 2) := by decide +kernel
theorem dX7_shift_48 : decode cX7_shift 48 = .ok (.iload_n 2, 1) := by decide +kernel
theorem dX7_shift_49 : decode cX7_shift 49 = .ok (.if_icmp .ne 9, 3) := by decide +kernel
theorem dX7_shift_52 : decode cX7_shift 52 = .ok (.aload_n 0, 1) := by decide +kernel
theorem dX7_shift_53 : decode cX7_shift 53 = .ok (.iconst 3, 1) := by decide +kernel
theorem dX7_shift_54 : decode cX7_shift 54 = .ok (.invokevirtual 65, 3) := by decide +kernel
theorem dX7_shift_57 : decode cX7_shift 57 = .ok (.ireturn, 1) := by decide +kernel
theorem dX7_shift_58 : decode cX7_shift 58 = .ok (.aload_n 3, 1) := by decide +kernel
theorem dX7_shift_59 : decode cX7_shift 59 = .ok (.iload_n 2, 1) := by decide +kernel
theorem dX7_shift_60 : decode cX7_shift 60 = .ok (.invokevirtual 130, 3) := by decide +kernel
theorem dX7_shift_63 : decode cX7_shift 63 = .ok (.iload 4, 2) := by decide +kernel
theorem dX7_shift_65 : decode cX7_shift 65 = .ok (.ireturn, 1) := by decide +kernel
def X7_shift (v1 : Int32) (v2 : Int32) (M : Mem) : Option (Int32 × Mem) := (if (X1_has 0 v1 M) = 0 then ((X7_fail 1 M).bind fun q1 => (some (q1.1, q1.2))) else (if (X7_isHouse v2) = 0 then ((X7_fail 1 M).bind fun q6 => (some (q6.1, q6.2))) else (if ib v1 10 = true then (if (M 3 (10 * 0 + v1.toNatClampNeg) 2) = (-1) then ((X7_fail 3 M).bind fun q3 => (some (q3.1, q3.2))) else (if (M 3 (10 * 0 + v1.toNatClampNeg) 2) = v2 then ((X7_fail 3 M).bind fun q5 => (some (q5.1, q5.2))) else ((X3_goTo (10 * 0 + v1.toNatClampNeg) v2 M).bind fun q4 => (some ((M 3 (10 * 0 + v1.toNatClampNeg) 2), q4))))) else none)))
set_option maxRecDepth 100000 in
set_option maxHeartbeats 4000000 in
theorem X7_shift_ok  {v1 : Int32} {v2 : Int32} {M N : Mem} {res : Int32 × Mem} (h : X7_shift v1 v2 M = some res) : Spec mt_X7_shift 1 [.inr (.inr (7, 0)), .inl v1, .inl v2] (M, N) (some (.inl res.1)) (res.2, N) := by
  unfold X7_shift at h
  refine Spec_of_G (by decide) rfl (Nat.le_of_ble_eq_true rfl) ?_
  refine G_sub [(0, .inr (.inr (7, 0))), (1, .inl v1), (2, .inl v2)] [0, 1, 2] rfl ?_
  refine G_aload_n dX7_shift_0 rfl ?_
  refine fg_X7_10 rfl (by decide) dX7_shift_1 ?_
  refine G_iload_n dX7_shift_4 rfl ?_
  refine G_callVv (T := TX1) (N := 8) (f := 1) (i := 0) (X1_has_ok (by decide) rfl) ok_X1_has ml_X7_95 (by decide) rfl (by decide) (by decide) (by decide) rfl rfl (Nat.le_of_ble_eq_true rfl) dX7_shift_5 ?_
  refine G_if_eq (tgt := 18) dX7_shift_8 (by decide) (fun hc1 => ?_) (fun hc1 => ?_)
  · replace h := (if_pos hc1).symm.trans h
    refine G_aload_n dX7_shift_18 rfl ?_
    refine G_iconst (v := 1) dX7_shift_19 (by decide) ?_
    obtain ⟨q1, hq1, h⟩ := bnd h
    refine G_callVv (T := TX7) (N := 10) (f := 7) (i := 0) (X7_fail_ok hq1) ok_X7_fail ml_X7_65 (by decide) rfl (by decide) (by decide) (by decide) rfl rfl (Nat.le_of_ble_eq_true rfl) dX7_shift_20 ?_
    obtain rfl := Option.some.inj h
    exact G_ret dX7_shift_23 trivial rfl rfl
  · replace h := (if_neg hc1).symm.trans h
    refine G_iload_n dX7_shift_11 rfl ?_
    refine G_callSv  (X7_isHouse_ok rfl) ok_X7_isHouse ml_X7_57 (by decide) rfl rfl (Nat.le_of_ble_eq_true rfl) dX7_shift_12 ?_
    refine G_if_ne (tgt := 24) dX7_shift_15 (by decide) (fun hc2 => ?_) (fun hc2 => ?_)
    · replace h := (if_neg hc2).symm.trans h
      refine G_aload_n dX7_shift_24 rfl ?_
      refine fg_X7_10 rfl (by decide) dX7_shift_25 ?_
      refine fg_X7_85 rfl (by decide) dX7_shift_28 ?_
      refine G_iload_n dX7_shift_31 rfl ?_
      obtain ⟨hb2, h⟩ := chk h
      have lhb2 := ib_lt hb2
      refine G_aald3 (by decide) (by decide) (by decide) rfl hb2 dX7_shift_32 ?_
      refine G_astore_n (L2 := [(3, .inr (.inr (3, (10 * 0 + v1.toNatClampNeg)))), (0, .inr (.inr (7, 0))), (1, .inl v1), (2, .inl v2)]) dX7_shift_33 (by decide) rfl ?_
      refine G_aload_n dX7_shift_34 rfl ?_
      refine fg_X7_104 (v := (M 3 (10 * 0 + v1.toNatClampNeg) 2)) rfl rfl (by omega) dX7_shift_35 ?_
      refine G_istore (L2 := [(4, .inl (M 3 (10 * 0 + v1.toNatClampNeg) 2)), (3, .inr (.inr (3, (10 * 0 + v1.toNatClampNeg)))), (0, .inr (.inr (7, 0))), (1, .inl v1), (2, .inl v2)]) dX7_shift_38 (by decide) rfl ?_
      refine G_iload dX7_shift_40 rfl ?_
      refine G_iconst (v := (-1)) dX7_shift_42 (by decide) ?_
      refine G_icmp_eq (tgt := 52) dX7_shift_43 (by decide) (fun hc3 => ?_) (fun hc3 => ?_)
      · replace h := (if_pos hc3).symm.trans h
        refine G_aload_n dX7_shift_52 rfl ?_
        refine G_iconst (v := 3) dX7_shift_53 (by decide) ?_
        obtain ⟨q3, hq3, h⟩ := bnd h
        refine G_callVv (T := TX7) (N := 10) (f := 7) (i := 0) (X7_fail_ok hq3) ok_X7_fail ml_X7_65 (by decide) rfl (by decide) (by decide) (by decide) rfl rfl (Nat.le_of_ble_eq_true rfl) dX7_shift_54 ?_
        obtain rfl := Option.some.inj h
        exact G_ret dX7_shift_57 trivial rfl rfl
      · replace h := (if_neg hc3).symm.trans h
        refine G_iload dX7_shift_46 rfl ?_
        refine G_iload_n dX7_shift_48 rfl ?_
        refine G_icmp_ne (tgt := 58) dX7_shift_49 (by decide) (fun hc4 => ?_) (fun hc4 => ?_)
        · replace h := (if_neg hc4).symm.trans h
          refine G_aload_n dX7_shift_58 rfl ?_
          refine G_iload_n dX7_shift_59 rfl ?_
          obtain ⟨q4, hq4, h⟩ := bnd h
          refine G_callVn (T := TX3) (N := 8) (f := 3) (i := (10 * 0 + v1.toNatClampNeg)) (X3_goTo_ok (by omega) hq4) ok_X3_goTo ml_X7_130 (by decide) rfl (by decide) (show (10 * 0 + v1.toNatClampNeg) < 30 from (by omega)) (by decide) rfl rfl (Nat.le_of_ble_eq_true rfl) dX7_shift_60 ?_
          refine G_iload dX7_shift_63 rfl ?_
          obtain rfl := Option.some.inj h
          exact G_ret dX7_shift_65 trivial rfl rfl
        · replace h := (if_pos hc4).symm.trans h
          refine G_aload_n dX7_shift_52 rfl ?_
          refine G_iconst (v := 3) dX7_shift_53 (by decide) ?_
          obtain ⟨q5, hq5, h⟩ := bnd h
          refine G_callVv (T := TX7) (N := 10) (f := 7) (i := 0) (X7_fail_ok hq5) ok_X7_fail ml_X7_65 (by decide) rfl (by decide) (by decide) (by decide) rfl rfl (Nat.le_of_ble_eq_true rfl) dX7_shift_54 ?_
          obtain rfl := Option.some.inj h
          exact G_ret dX7_shift_57 trivial rfl rfl
    · replace h := (if_pos hc2).symm.trans h
      refine G_aload_n dX7_shift_18 rfl ?_
      refine G_iconst (v := 1) dX7_shift_19 (by decide) ?_
      obtain ⟨q6, hq6, h⟩ := bnd h
      refine G_callVv (T := TX7) (N := 10) (f := 7) (i := 0) (X7_fail_ok hq6) ok_X7_fail ml_X7_65 (by decide) rfl (by decide) (by decide) (by decide) rfl rfl (Nat.le_of_ble_eq_true rfl) dX7_shift_20 ?_
      obtain rfl := Option.some.inj h
      exact G_ret dX7_shift_23 trivial rfl rfl

theorem dX7_stick_0 : decode cX7_stick 0 = .ok (.aload_n 0, 1) := by decide +kernel
theorem dX7_stick_1 : decode cX7_stick 1 = .ok (.getfield 10, 3) := by decide +kernel
theorem dX7_stick_4 : decode cX7_stick 4 = .ok (.iload_n 1, 1) := by decide +kernel
theorem dX7_stick_5 : decode cX7_stick 5 = .ok (.invokevirtual 95, 3) := by decide +kernel
theorem dX7_stick_8 : decode cX7_stick 8 = .ok (.ifCond .ne 9, 3) := by decide +kernel
theorem dX7_stick_11 : decode cX7_stick 11 = .ok (.aload_n 0, 1) := by decide +kernel
theorem dX7_stick_12 : decode cX7_stick 12 = .ok (.iconst 1, 1) := by decide +kernel
theorem dX7_stick_13 : decode cX7_stick 13 = .ok (.invokevirtual 65, 3) := by decide +kernel
theorem dX7_stick_16 : decode cX7_stick 16 = .ok (.ireturn, 1) := by decide +kernel
theorem dX7_stick_17 : decode cX7_stick 17 = .ok (.aload_n 0, 1) := by decide +kernel
theorem dX7_stick_18 : decode cX7_stick 18 = .ok (.getfield 10, 3) := by decide +kernel
theorem dX7_stick_21 : decode cX7_stick 21 = .ok (.getfield 85, 3) := by decide +kernel
theorem dX7_stick_24 : decode cX7_stick 24 = .ok (.iload_n 1, 1) := by decide +kernel
theorem dX7_stick_25 : decode cX7_stick 25 = .ok (.aaload, 1) := by decide +kernel
theorem dX7_stick_26 : decode cX7_stick 26 = .ok (.astore_n 2, 1) := by decide +kernel
theorem dX7_stick_27 : decode cX7_stick 27 = .ok (.aload_n 2, 1) := by decide +kernel
theorem dX7_stick_28 : decode cX7_stick 28 = .ok (.invokevirtual 134, 3) := by decide +kernel
theorem dX7_stick_31 : decode cX7_stick 31 = .ok (.ifCond .ne 9, 3) := by decide +kernel
theorem dX7_stick_34 : decode cX7_stick 34 = .ok (.aload_n 0, 1) := by decide +kernel
theorem dX7_stick_35 : decode cX7_stick 35 = .ok (.iconst 3, 1) := by decide +kernel
theorem dX7_stick_36 : decode cX7_stick 36 = .ok (.invokevirtual 65, 3) := by decide +kernel
theorem dX7_stick_39 : decode cX7_stick 39 = .ok (.ireturn, 1) := by decide +kernel
theorem dX7_stick_40 : decode cX7_stick 40 = .ok (.aload_n 2, 1) := by decide +kernel
theorem dX7_stick_41 : decode cX7_stick 41 = .ok (.invokevirtual 138, 3) := by decide +kernel
theorem dX7_stick_44 : decode cX7_stick 44 = .ok (.aload_n 2, 1) := by decide +kernel
theorem dX7_stick_45 : decode cX7_stick 45 = .ok (.getfield 110, 3) := by decide +kernel
theorem dX7_stick_48 : decode cX7_stick 48 = .ok (.ireturn, 1) := by decide +kernel
def X7_stick (v1 : Int32) (M : Mem) : Option (Int32 × Mem) := (if (X1_has 0 v1 M) = 0 then ((X7_fail 1 M).bind fun q4 => (some (q4.1, q4.2))) else (if ib v1 10 = true then (if (X3_canTakeFalseHandle (10 * 0 + v1.toNatClampNeg) M) = 0 then ((X7_fail 3 M).bind fun q3 => (some (q3.1, q3.2))) else ((X3_takeFalseHandle (10 * 0 + v1.toNatClampNeg) M).bind fun q2 => (some ((q2 3 (10 * 0 + v1.toNatClampNeg) 4), q2)))) else none))
set_option maxRecDepth 100000 in
set_option maxHeartbeats 4000000 in
theorem X7_stick_ok  {v1 : Int32} {M N : Mem} {res : Int32 × Mem} (h : X7_stick v1 M = some res) : Spec mt_X7_stick 1 [.inr (.inr (7, 0)), .inl v1] (M, N) (some (.inl res.1)) (res.2, N) := by
  unfold X7_stick at h
  refine Spec_of_G (by decide) rfl (Nat.le_of_ble_eq_true rfl) ?_
  refine G_sub [(0, .inr (.inr (7, 0))), (1, .inl v1)] [0, 1] rfl ?_
  refine G_aload_n dX7_stick_0 rfl ?_
  refine fg_X7_10 rfl (by decide) dX7_stick_1 ?_
  refine G_iload_n dX7_stick_4 rfl ?_
  refine G_callVv (T := TX1) (N := 8) (f := 1) (i := 0) (X1_has_ok (by decide) rfl) ok_X1_has ml_X7_95 (by decide) rfl (by decide) (by decide) (by decide) rfl rfl (Nat.le_of_ble_eq_true rfl) dX7_stick_5 ?_
  refine G_if_ne (tgt := 17) dX7_stick_8 (by decide) (fun hc1 => ?_) (fun hc1 => ?_)
  · replace h := (if_neg hc1).symm.trans h
    refine G_aload_n dX7_stick_17 rfl ?_
    refine fg_X7_10 rfl (by decide) dX7_stick_18 ?_
    refine fg_X7_85 rfl (by decide) dX7_stick_21 ?_
    refine G_iload_n dX7_stick_24 rfl ?_
    obtain ⟨hb1, h⟩ := chk h
    have lhb1 := ib_lt hb1
    refine G_aald3 (by decide) (by decide) (by decide) rfl hb1 dX7_stick_25 ?_
    refine G_astore_n (L2 := [(2, .inr (.inr (3, (10 * 0 + v1.toNatClampNeg)))), (0, .inr (.inr (7, 0))), (1, .inl v1)]) dX7_stick_26 (by decide) rfl ?_
    refine G_aload_n dX7_stick_27 rfl ?_
    refine G_callVv (T := TX3) (N := 8) (f := 3) (i := (10 * 0 + v1.toNatClampNeg)) (X3_canTakeFalseHandle_ok (by omega) rfl) ok_X3_canTakeFalseHandle ml_X7_134 (by decide) rfl (by decide) (show (10 * 0 + v1.toNatClampNeg) < 30 from (by omega)) (by decide) rfl rfl (Nat.le_of_ble_eq_true rfl) dX7_stick_28 ?_
    refine G_if_ne (tgt := 40) dX7_stick_31 (by decide) (fun hc2 => ?_) (fun hc2 => ?_)
    · replace h := (if_neg hc2).symm.trans h
      refine G_aload_n dX7_stick_40 rfl ?_
      obtain ⟨q2, hq2, h⟩ := bnd h
      refine G_callVn (T := TX3) (N := 8) (f := 3) (i := (10 * 0 + v1.toNatClampNeg)) (X3_takeFalseHandle_ok (by omega) hq2) ok_X3_takeFalseHandle ml_X7_138 (by decide) rfl (by decide) (show (10 * 0 + v1.toNatClampNeg) < 30 from (by omega)) (by decide) rfl rfl (Nat.le_of_ble_eq_true rfl) dX7_stick_41 ?_
      refine G_aload_n dX7_stick_44 rfl ?_
      refine fg_X7_110 (v := (q2 3 (10 * 0 + v1.toNatClampNeg) 4)) rfl rfl (by omega) dX7_stick_45 ?_
      obtain rfl := Option.some.inj h
      exact G_ret dX7_stick_48 trivial rfl rfl
    · replace h := (if_pos hc2).symm.trans h
      refine G_aload_n dX7_stick_34 rfl ?_
      refine G_iconst (v := 3) dX7_stick_35 (by decide) ?_
      obtain ⟨q3, hq3, h⟩ := bnd h
      refine G_callVv (T := TX7) (N := 10) (f := 7) (i := 0) (X7_fail_ok hq3) ok_X7_fail ml_X7_65 (by decide) rfl (by decide) (by decide) (by decide) rfl rfl (Nat.le_of_ble_eq_true rfl) dX7_stick_36 ?_
      obtain rfl := Option.some.inj h
      exact G_ret dX7_stick_39 trivial rfl rfl
  · replace h := (if_pos hc1).symm.trans h
    refine G_aload_n dX7_stick_11 rfl ?_
    refine G_iconst (v := 1) dX7_stick_12 (by decide) ?_
    obtain ⟨q4, hq4, h⟩ := bnd h
    refine G_callVv (T := TX7) (N := 10) (f := 7) (i := 0) (X7_fail_ok hq4) ok_X7_fail ml_X7_65 (by decide) rfl (by decide) (by decide) (by decide) rfl rfl (Nat.le_of_ble_eq_true rfl) dX7_stick_13 ?_
    obtain rfl := Option.some.inj h
    exact G_ret dX7_stick_16 trivial rfl rfl

theorem dX7_become_0 : decode cX7_become 0 = .ok (.aload_n 0, 1) := by decide +kernel
theorem dX7_become_1 : decode cX7_become 1 = .ok (.getfield 10, 3) := by decide +kernel
theorem dX7_become_4 : decode cX7_become 4 = .ok (.iload_n 1, 1) := by decide +kernel
theorem dX7_become_5 : decode cX7_become 5 = .ok (.invokevirtual 95, 3) := by decide +kernel
theorem dX7_become_8 : decode cX7_become 8 = .ok (.ifCond .eq 10, 3) := by decide +kernel
theorem dX7_become_11 : decode cX7_become 11 = .ok (.iload_n 2, 1) := by decide +kernel
theorem dX7_become_12 : decode cX7_become 12 = .ok (.invokestatic 78, 3) := by decide +kernel
theorem dX7_become_15 : decode cX7_become 15 = .ok (.ifCond .ne 9, 3) := by decide +kernel
theorem dX7_become_18 : decode cX7_become 18 = .ok (.aload_n 0, 1) := by decide +kernel
theorem dX7_become_19 : decode cX7_become 19 = .ok (.iconst 1, 1) := by decide +kernel
theorem dX7_become_20 : decode cX7_become 20 = .ok (.invokevirtual 65, 3) := by decide +kernel
theorem dX7_become_23 : decode cX7_become 23 = .ok (.ireturn, 1) := by decide +kernel
theorem dX7_become_24 : decode cX7_become 24 = .ok (.aload_n 0, 1) := by decide +kernel
theorem dX7_become_25 : decode cX7_become 25 = .ok (.getfield 10, 3) := by decide +kernel
theorem dX7_become_28 : decode cX7_become 28 = .ok (.getfield 85, 3) := by decide +kernel
theorem dX7_become_31 : decode cX7_become 31 = .ok (.iload_n 1, 1) := by decide +kernel
theorem dX7_become_32 : decode cX7_become 32 = .ok (.aaload, 1) := by decide +kernel
theorem dX7_become_33 : decode cX7_become 33 = .ok (.astore_n 3, 1) := by decide +kernel
theorem dX7_become_34 : decode cX7_become 34 = .ok (.aload_n 3, 1) := by decide +kernel
theorem dX7_become_35 : decode cX7_become 35 = .ok (.getfield 98, 3) := by decide +kernel
theorem dX7_become_38 : decode cX7_become 38 = .ok (.istore 4, 2) := by decide +kernel
theorem dX7_become_40 : decode cX7_become 40 = .ok (.aload_n 3, 1) := by decide +kernel
theorem dX7_become_41 : decode cX7_become 41 = .ok (.iload_n 2, 1) := by decide +kernel
theorem dX7_become_42 : decode cX7_become 42 = .ok (.bipush 10, 2) := by decide +kernel
theorem dX7_become_44 : decode cX7_become 44 = .ok (.idiv, 1) := by decide +kernel
theorem dX7_become_45 : decode cX7_become 45 = .ok (.putfield 98, 3) := by decide +kernel
theorem dX7_become_48 : decode cX7_become 48 = .ok (.aload_n 3, 1) := by decide +kernel
theorem dX7_become_49 : decode cX7_become 49 = .ok (.iload_n 2, 1) := by decide +kernel
theorem dX7_become_50 : decode cX7_become 50 = .ok (.bipush 10, 2) := by decide +kernel
theorem dX7_become_52 : decode cX7_become 52 = .ok (.irem, 1) := by decide +kernel
theorem dX7_become_53 : decode cX7_become 53 = .ok (.putfield 101, 3) := by decide +kernel
theorem dX7_become_56 : decode cX7_become 56 = .ok (.iload 4, 2) := by decide +kernel
theorem dX7_become_58 : decode cX7_become 58 = .ok (.ireturn, 1) := by decide +kernel
def X7_become (v1 : Int32) (v2 : Int32) (M : Mem) : Option (Int32 × Mem) := (if (X1_has 0 v1 M) = 0 then ((X7_fail 1 M).bind fun q1 => (some (q1.1, q1.2))) else (if (X7_isKindWithNumber v2) = 0 then ((X7_fail 1 M).bind fun q3 => (some (q3.1, q3.2))) else (if ib v1 10 = true then (some ((M 3 (10 * 0 + v1.toNatClampNeg) 0), (up3 (up3 M 3 (10 * 0 + v1.toNatClampNeg) 0 (v2 / 10)) 3 (10 * 0 + v1.toNatClampNeg) 1 (jrem v2 10)))) else none)))
set_option maxRecDepth 100000 in
set_option maxHeartbeats 4000000 in
theorem X7_become_ok  {v1 : Int32} {v2 : Int32} {M N : Mem} {res : Int32 × Mem} (h : X7_become v1 v2 M = some res) : Spec mt_X7_become 1 [.inr (.inr (7, 0)), .inl v1, .inl v2] (M, N) (some (.inl res.1)) (res.2, N) := by
  unfold X7_become at h
  refine Spec_of_G (by decide) rfl (Nat.le_of_ble_eq_true rfl) ?_
  refine G_sub [(0, .inr (.inr (7, 0))), (1, .inl v1), (2, .inl v2)] [0, 1, 2] rfl ?_
  refine G_aload_n dX7_become_0 rfl ?_
  refine fg_X7_10 rfl (by decide) dX7_become_1 ?_
  refine G_iload_n dX7_become_4 rfl ?_
  refine G_callVv (T := TX1) (N := 8) (f := 1) (i := 0) (X1_has_ok (by decide) rfl) ok_X1_has ml_X7_95 (by decide) rfl (by decide) (by decide) (by decide) rfl rfl (Nat.le_of_ble_eq_true rfl) dX7_become_5 ?_
  refine G_if_eq (tgt := 18) dX7_become_8 (by decide) (fun hc1 => ?_) (fun hc1 => ?_)
  · replace h := (if_pos hc1).symm.trans h
    refine G_aload_n dX7_become_18 rfl ?_
    refine G_iconst (v := 1) dX7_become_19 (by decide) ?_
    obtain ⟨q1, hq1, h⟩ := bnd h
    refine G_callVv (T := TX7) (N := 10) (f := 7) (i := 0) (X7_fail_ok hq1) ok_X7_fail ml_X7_65 (by decide) rfl (by decide) (by decide) (by decide) rfl rfl (Nat.le_of_ble_eq_true rfl) dX7_become_20 ?_
    obtain rfl := Option.some.inj h
    exact G_ret dX7_become_23 trivial rfl rfl
  · replace h := (if_neg hc1).symm.trans h
    refine G_iload_n dX7_become_11 rfl ?_
    refine G_callSv  (X7_isKindWithNumber_ok rfl) ok_X7_isKindWithNumber ml_X7_78 (by decide) rfl rfl (Nat.le_of_ble_eq_true rfl) dX7_become_12 ?_
    refine G_if_ne (tgt := 24) dX7_become_15 (by decide) (fun hc2 => ?_) (fun hc2 => ?_)
    · replace h := (if_neg hc2).symm.trans h
      refine G_aload_n dX7_become_24 rfl ?_
      refine fg_X7_10 rfl (by decide) dX7_become_25 ?_
      refine fg_X7_85 rfl (by decide) dX7_become_28 ?_
      refine G_iload_n dX7_become_31 rfl ?_
      obtain ⟨hb2, h⟩ := chk h
      have lhb2 := ib_lt hb2
      refine G_aald3 (by decide) (by decide) (by decide) rfl hb2 dX7_become_32 ?_
      refine G_astore_n (L2 := [(3, .inr (.inr (3, (10 * 0 + v1.toNatClampNeg)))), (0, .inr (.inr (7, 0))), (1, .inl v1), (2, .inl v2)]) dX7_become_33 (by decide) rfl ?_
      refine G_aload_n dX7_become_34 rfl ?_
      refine fg_X7_98 (v := (M 3 (10 * 0 + v1.toNatClampNeg) 0)) rfl rfl (by omega) dX7_become_35 ?_
      refine G_istore (L2 := [(4, .inl (M 3 (10 * 0 + v1.toNatClampNeg) 0)), (3, .inr (.inr (3, (10 * 0 + v1.toNatClampNeg)))), (0, .inr (.inr (7, 0))), (1, .inl v1), (2, .inl v2)]) dX7_become_38 (by decide) rfl ?_
      refine G_aload_n dX7_become_40 rfl ?_
      refine G_iload_n dX7_become_41 rfl ?_
      refine G_bipush (v := 10) dX7_become_42 (by decide) ?_
      refine G_idiv (by decide) dX7_become_44 ?_
      refine fp_X7_98 rfl (by omega) dX7_become_45 ?_
      refine G_aload_n dX7_become_48 rfl ?_
      refine G_iload_n dX7_become_49 rfl ?_
      refine G_bipush (v := 10) dX7_become_50 (by decide) ?_
      refine G_irem (by decide) dX7_become_52 ?_
      refine fp_X7_101 rfl (by omega) dX7_become_53 ?_
      refine G_iload dX7_become_56 rfl ?_
      obtain rfl := Option.some.inj h
      exact G_ret dX7_become_58 trivial rfl rfl
    · replace h := (if_pos hc2).symm.trans h
      refine G_aload_n dX7_become_18 rfl ?_
      refine G_iconst (v := 1) dX7_become_19 (by decide) ?_
      obtain ⟨q3, hq3, h⟩ := bnd h
      refine G_callVv (T := TX7) (N := 10) (f := 7) (i := 0) (X7_fail_ok hq3) ok_X7_fail ml_X7_65 (by decide) rfl (by decide) (by decide) (by decide) rfl rfl (Nat.le_of_ble_eq_true rfl) dX7_become_20 ?_
      obtain rfl := Option.some.inj h
      exact G_ret dX7_become_23 trivial rfl rfl

theorem dX7_as_0 : decode cX7_as 0 = .ok (.aload_n 0, 1) := by decide +kernel
theorem dX7_as_1 : decode cX7_as 1 = .ok (.getfield 10, 3) := by decide +kernel
theorem dX7_as_4 : decode cX7_as 4 = .ok (.iload_n 1, 1) := by decide +kernel
theorem dX7_as_5 : decode cX7_as 5 = .ok (.invokevirtual 95, 3) := by decide +kernel
theorem dX7_as_8 : decode cX7_as 8 = .ok (.ifCond .eq 12, 3) := by decide +kernel
theorem dX7_as_11 : decode cX7_as 11 = .ok (.iload_n 2, 1) := by decide +kernel
theorem dX7_as_12 : decode cX7_as 12 = .ok (.bipush 6, 2) := by decide +kernel
theorem dX7_as_14 : decode cX7_as 14 = .ok (.invokestatic 61, 3) := by decide +kernel
theorem dX7_as_17 : decode cX7_as 17 = .ok (.ifCond .ne 9, 3) := by decide +kernel
theorem dX7_as_20 : decode cX7_as 20 = .ok (.aload_n 0, 1) := by decide +kernel
theorem dX7_as_21 : decode cX7_as 21 = .ok (.iconst 1, 1) := by decide +kernel
theorem dX7_as_22 : decode cX7_as 22 = .ok (.invokevirtual 65, 3) := by decide +kernel
theorem dX7_as_25 : decode cX7_as 25 = .ok (.ireturn, 1) := by decide +kernel
theorem dX7_as_26 : decode cX7_as 26 = .ok (.aload_n 0, 1) := by decide +kernel
theorem dX7_as_27 : decode cX7_as 27 = .ok (.getfield 10, 3) := by decide +kernel
theorem dX7_as_30 : decode cX7_as 30 = .ok (.getfield 85, 3) := by decide +kernel
theorem dX7_as_33 : decode cX7_as 33 = .ok (.iload_n 1, 1) := by decide +kernel
theorem dX7_as_34 : decode cX7_as 34 = .ok (.aaload, 1) := by decide +kernel
theorem dX7_as_35 : decode cX7_as 35 = .ok (.astore_n 3, 1) := by decide +kernel
theorem dX7_as_36 : decode cX7_as 36 = .ok (.aload_n 3, 1) := by decide +kernel
theorem dX7_as_37 : decode cX7_as 37 = .ok (.getfield 98, 3) := by decide +kernel
theorem dX7_as_40 : decode cX7_as 40 = .ok (.iload_n 2, 1) := by decide +kernel
theorem dX7_as_41 : decode cX7_as 41 = .ok (.invokestatic 141, 3) := by decide +kernel
theorem dX7_as_44 : decode cX7_as 44 = .ok (.ifCond .eq 10, 3) := by decide +kernel
theorem dX7_as_47 : decode cX7_as 47 = .ok (.aload_n 3, 1) := by decide +kernel
theorem dX7_as_48 : decode cX7_as 48 = .ok (.getfield 101, 3) := by decide +kernel
theorem dX7_as_51 : decode cX7_as 51 = .ok (.goto 8, 3) := by decide +kernel
theorem dX7_as_54 : decode cX7_as 54 = .ok (.aload_n 0, 1) := by decide +kernel
theorem dX7_as_55 : decode cX7_as 55 = .ok (.iconst 5, 1) := by decide +kernel
theorem dX7_as_56 : decode cX7_as 56 = .ok (.invokevirtual 65, 3) := by decide +kernel
theorem dX7_as_59 : decode cX7_as 59 = .ok (.ireturn, 1) := by decide +kernel
def X7_as (v1 : Int32) (v2 : Int32) (M : Mem) : Option (Int32 × Mem) := (if (X1_has 0 v1 M) = 0 then ((X7_fail 1 M).bind fun q1 => (some (q1.1, q1.2))) else (if (X7_isWithin v2 6) = 0 then ((X7_fail 1 M).bind fun q5 => (some (q5.1, q5.2))) else (if ib v1 10 = true then ((X7_isUnder (M 3 (10 * 0 + v1.toNatClampNeg) 0) v2).bind fun q3 => (if q3 = 0 then ((X7_fail 5 M).bind fun q4 => (some (q4.1, q4.2))) else (some ((M 3 (10 * 0 + v1.toNatClampNeg) 1), M)))) else none)))
set_option maxRecDepth 100000 in
set_option maxHeartbeats 4000000 in
theorem X7_as_ok  {v1 : Int32} {v2 : Int32} {M N : Mem} {res : Int32 × Mem} (h : X7_as v1 v2 M = some res) : Spec mt_X7_as 2 [.inr (.inr (7, 0)), .inl v1, .inl v2] (M, N) (some (.inl res.1)) (res.2, N) := by
  unfold X7_as at h
  refine Spec_of_G (by decide) rfl (Nat.le_of_ble_eq_true rfl) ?_
  refine G_sub [(0, .inr (.inr (7, 0))), (1, .inl v1), (2, .inl v2)] [0, 1, 2] rfl ?_
  refine G_aload_n dX7_as_0 rfl ?_
  refine fg_X7_10 rfl (by decide) dX7_as_1 ?_
  refine G_iload_n dX7_as_4 rfl ?_
  refine G_callVv (T := TX1) (N := 8) (f := 1) (i := 0) (X1_has_ok (by decide) rfl) ok_X1_has ml_X7_95 (by decide) rfl (by decide) (by decide) (by decide) rfl rfl (Nat.le_of_ble_eq_true rfl) dX7_as_5 ?_
  refine G_if_eq (tgt := 20) dX7_as_8 (by decide) (fun hc1 => ?_) (fun hc1 => ?_)
  · replace h := (if_pos hc1).symm.trans h
    refine G_aload_n dX7_as_20 rfl ?_
    refine G_iconst (v := 1) dX7_as_21 (by decide) ?_
    obtain ⟨q1, hq1, h⟩ := bnd h
    refine G_callVv (T := TX7) (N := 10) (f := 7) (i := 0) (X7_fail_ok hq1) ok_X7_fail ml_X7_65 (by decide) rfl (by decide) (by decide) (by decide) rfl rfl (Nat.le_of_ble_eq_true rfl) dX7_as_22 ?_
    obtain rfl := Option.some.inj h
    exact G_ret dX7_as_25 trivial rfl rfl
  · replace h := (if_neg hc1).symm.trans h
    refine G_iload_n dX7_as_11 rfl ?_
    refine G_bipush (v := 6) dX7_as_12 (by decide) ?_
    refine G_callSv  (X7_isWithin_ok rfl) ok_X7_isWithin ml_X7_61 (by decide) rfl rfl (Nat.le_of_ble_eq_true rfl) dX7_as_14 ?_
    refine G_if_ne (tgt := 26) dX7_as_17 (by decide) (fun hc2 => ?_) (fun hc2 => ?_)
    · replace h := (if_neg hc2).symm.trans h
      refine G_aload_n dX7_as_26 rfl ?_
      refine fg_X7_10 rfl (by decide) dX7_as_27 ?_
      refine fg_X7_85 rfl (by decide) dX7_as_30 ?_
      refine G_iload_n dX7_as_33 rfl ?_
      obtain ⟨hb2, h⟩ := chk h
      have lhb2 := ib_lt hb2
      refine G_aald3 (by decide) (by decide) (by decide) rfl hb2 dX7_as_34 ?_
      refine G_astore_n (L2 := [(3, .inr (.inr (3, (10 * 0 + v1.toNatClampNeg)))), (0, .inr (.inr (7, 0))), (1, .inl v1), (2, .inl v2)]) dX7_as_35 (by decide) rfl ?_
      refine G_aload_n dX7_as_36 rfl ?_
      refine fg_X7_98 (v := (M 3 (10 * 0 + v1.toNatClampNeg) 0)) rfl rfl (by omega) dX7_as_37 ?_
      refine G_iload_n dX7_as_40 rfl ?_
      obtain ⟨q3, hq3, h⟩ := bnd h
      refine G_callSv  (X7_isUnder_ok hq3) ok_X7_isUnder ml_X7_141 (by decide) rfl rfl (Nat.le_of_ble_eq_true rfl) dX7_as_41 ?_
      refine G_if_eq (tgt := 54) dX7_as_44 (by decide) (fun hc3 => ?_) (fun hc3 => ?_)
      · replace h := (if_pos hc3).symm.trans h
        refine G_aload_n dX7_as_54 rfl ?_
        refine G_iconst (v := 5) dX7_as_55 (by decide) ?_
        obtain ⟨q4, hq4, h⟩ := bnd h
        refine G_callVv (T := TX7) (N := 10) (f := 7) (i := 0) (X7_fail_ok hq4) ok_X7_fail ml_X7_65 (by decide) rfl (by decide) (by decide) (by decide) rfl rfl (Nat.le_of_ble_eq_true rfl) dX7_as_56 ?_
        obtain rfl := Option.some.inj h
        exact G_ret dX7_as_59 trivial rfl rfl
      · replace h := (if_neg hc3).symm.trans h
        refine G_aload_n dX7_as_47 rfl ?_
        refine fg_X7_101 (v := (M 3 (10 * 0 + v1.toNatClampNeg) 1)) rfl rfl (by omega) dX7_as_48 ?_
        refine G_goto (tgt := 59) dX7_as_51 (by decide) ?_
        obtain rfl := Option.some.inj h
        exact G_ret dX7_as_59 trivial rfl rfl
    · replace h := (if_pos hc2).symm.trans h
      refine G_aload_n dX7_as_20 rfl ?_
      refine G_iconst (v := 1) dX7_as_21 (by decide) ?_
      obtain ⟨q5, hq5, h⟩ := bnd h
      refine G_callVv (T := TX7) (N := 10) (f := 7) (i := 0) (X7_fail_ok hq5) ok_X7_fail ml_X7_65 (by decide) rfl (by decide) (by decide) (by decide) rfl rfl (Nat.le_of_ble_eq_true rfl) dX7_as_22 ?_
      obtain rfl := Option.some.inj h
      exact G_ret dX7_as_25 trivial rfl rfl

theorem dX7_feed_0 : decode cX7_feed 0 = .ok (.iload_n 3, 1) := by decide +kernel
theorem dX7_feed_1 : decode cX7_feed 1 = .ok (.iconst 1, 1) := by decide +kernel
theorem dX7_feed_2 : decode cX7_feed 2 = .ok (.if_icmp .lt 9, 3) := by decide +kernel
theorem dX7_feed_5 : decode cX7_feed 5 = .ok (.iload_n 3, 1) := by decide +kernel
theorem dX7_feed_6 : decode cX7_feed 6 = .ok (.bipush 8, 2) := by decide +kernel
theorem dX7_feed_8 : decode cX7_feed 8 = .ok (.if_icmp .le 9, 3) := by decide +kernel
theorem dX7_feed_11 : decode cX7_feed 11 = .ok (.aload_n 0, 1) := by decide +kernel
theorem dX7_feed_12 : decode cX7_feed 12 = .ok (.iconst 1, 1) := by decide +kernel
theorem dX7_feed_13 : decode cX7_feed 13 = .ok (.invokevirtual 65, 3) := by decide +kernel
theorem dX7_feed_16 : decode cX7_feed 16 = .ok (.ireturn, 1) := by decide +kernel
theorem dX7_feed_17 : decode cX7_feed 17 = .ok (.aload_n 0, 1) := by decide +kernel
theorem dX7_feed_18 : decode cX7_feed 18 = .ok (.getfield 25, 3) := by decide +kernel
theorem dX7_feed_21 : decode cX7_feed 21 = .ok (.getfield 144, 3) := by decide +kernel
theorem dX7_feed_24 : decode cX7_feed 24 = .ok (.iload_n 3, 1) := by decide +kernel
theorem dX7_feed_25 : decode cX7_feed 25 = .ok (.iadd, 1) := by decide +kernel
theorem dX7_feed_26 : decode cX7_feed 26 = .ok (.bipush 50, 2) := by decide +kernel
theorem dX7_feed_28 : decode cX7_feed 28 = .ok (.if_icmp .le 9, 3) := by decide +kernel
theorem dX7_feed_31 : decode cX7_feed 31 = .ok (.aload_n 0, 1) := by decide +kernel
theorem dX7_feed_32 : decode cX7_feed 32 = .ok (.iconst 4, 1) := by decide +kernel
theorem dX7_feed_33 : decode cX7_feed 33 = .ok (.invokevirtual 65, 3) := by decide +kernel
theorem dX7_feed_36 : decode cX7_feed 36 = .ok (.ireturn, 1) := by decide +kernel
theorem dX7_feed_37 : decode cX7_feed 37 = .ok (.iconst 0, 1) := by decide +kernel
theorem dX7_feed_38 : decode cX7_feed 38 = .ok (.istore 4, 2) := by decide +kernel
theorem dX7_feed_40 : decode cX7_feed 40 = .ok (.iload 4, 2) := by decide +kernel
theorem dX7_feed_42 : decode cX7_feed 42 = .ok (.iload_n 3, 1) := by decide +kernel
theorem dX7_feed_43 : decode cX7_feed 43 = .ok (.if_icmp .ge 36, 3) := by decide +kernel
theorem dX7_feed_46 : decode cX7_feed 46 = .ok (.aload_n 0, 1) := by decide +kernel
theorem dX7_feed_47 : decode cX7_feed 47 = .ok (.getfield 25, 3) := by decide +kernel
theorem dX7_feed_50 : decode cX7_feed 50 = .ok (.getfield 147, 3) := by decide +kernel
theorem dX7_feed_53 : decode cX7_feed 53 = .ok (.aload_n 0, 1) := by decide +kernel
theorem dX7_feed_54 : decode cX7_feed 54 = .ok (.getfield 25, 3) := by decide +kernel
theorem dX7_feed_57 : decode cX7_feed 57 = .ok (.getfield 144, 3) := by decide +kernel
theorem dX7_feed_60 : decode cX7_feed 60 = .ok (.iload 4, 2) := by decide +kernel
theorem dX7_feed_62 : decode cX7_feed 62 = .ok (.iadd, 1) := by decide +kernel
theorem dX7_feed_63 : decode cX7_feed 63 = .ok (.lload_n 1, 1) := by decide +kernel
theorem dX7_feed_64 : decode cX7_feed 64 = .ok (.bipush 8, 2) := by decide +kernel
theorem dX7_feed_66 : decode cX7_feed 66 = .ok (.iload 4, 2) := by decide +kernel
theorem dX7_feed_68 : decode cX7_feed 68 = .ok (.imul, 1) := by decide +kernel
theorem dX7_feed_69 : decode cX7_feed 69 = .ok (.lushr, 1) := by decide +kernel
theorem dX7_feed_70 : decode cX7_feed 70 = .ok (.l2i, 1) := by decide +kernel
theorem dX7_feed_71 : decode cX7_feed 71 = .ok (.i2b, 1) := by decide +kernel
theorem dX7_feed_72 : decode cX7_feed 72 = .ok (.bastore, 1) := by decide +kernel
theorem dX7_feed_73 : decode cX7_feed 73 = .ok (.iinc 4 1, 3) := by decide +kernel
theorem dX7_feed_76 : decode cX7_feed 76 = .ok (.goto (-36), 3) := by decide +kernel
theorem dX7_feed_79 : decode cX7_feed 79 = .ok (.aload_n 0, 1) := by decide +kernel
theorem dX7_feed_80 : decode cX7_feed 80 = .ok (.getfield 25, 3) := by decide +kernel
theorem dX7_feed_83 : decode cX7_feed 83 = .ok (.dup, 1) := by decide +kernel
theorem dX7_feed_84 : decode cX7_feed 84 = .ok (.getfield 144, 3) := by decide +kernel
theorem dX7_feed_87 : decode cX7_feed 87 = .ok (.iload_n 3, 1) := by decide +kernel
theorem dX7_feed_88 : decode cX7_feed 88 = .ok (.iadd, 1) := by decide +kernel
theorem dX7_feed_89 : decode cX7_feed 89 = .ok (.putfield 144, 3) := by decide +kernel
theorem dX7_feed_92 : decode cX7_feed 92 = .ok (.aload_n 0, 1) := by decide +kernel
theorem dX7_feed_93 : decode cX7_feed 93 = .ok (.getfield 25, 3) := by decide +kernel
theorem dX7_feed_96 : decode cX7_feed 96 = .ok (.getfield 144, 3) := by decide +kernel
theorem dX7_feed_99 : decode cX7_feed 99 = .ok (.ireturn, 1) := by decide +kernel
def X7_feed_L40 : Nat → Int64 → Int32 → Int32 → Mem → Option (Mem)
  | 0, _, _, _, _ => none
  | fu + 1, j1, v3, v4, M => (if v4 < v3 then (if ib ((M 0 0 2) + v4) 50 = true then (X7_feed_L40 fu j1 v3 (v4 + 1) (up3 M 8 0 (((M 0 0 2) + v4).toNatClampNeg) (nbB ((jlushr j1 (8 * v4)).toInt32)))) else none) else (some M))
set_option maxRecDepth 100000 in
set_option maxHeartbeats 4000000 in
theorem X7_feed_L40_ok  {r : Option AV} {M' : MM} : ∀ (fu : Nat) (j1 : Int64) (v3 : Int32) (v4 : Int32) (M N : Mem) {res : Mem} (h : X7_feed_L40 fu j1 v3 v4 M = some res) (K : G mt_X7_feed 1 r M' 79 [(0, .inr (.inr (7, 0))), (3, .inl v3)] [] (res, N)), G mt_X7_feed 1 r M' 40 [(0, .inr (.inr (7, 0))), (1, .inr (.inl j1)), (3, .inl v3), (4, .inl v4)] [] (M, N) := by
  intro fu
  induction fu with
  | zero =>
    intro j1 v3 v4 M N res h
    cases h
  | succ fu ih =>
    intro j1 v3 v4 M N res h K
    replace h : (if v4 < v3 then (if ib ((M 0 0 2) + v4) 50 = true then (X7_feed_L40 fu j1 v3 (v4 + 1) (up3 M 8 0 (((M 0 0 2) + v4).toNatClampNeg) (nbB ((jlushr j1 (8 * v4)).toInt32)))) else none) else (some M)) = some res := h
    refine G_iload dX7_feed_40 rfl ?_
    refine G_iload_n dX7_feed_42 rfl ?_
    refine G_icmp_ge (tgt := 79) dX7_feed_43 (by decide) (fun hc4 => ?_) (fun hc4 => ?_)
    · replace h := (if_neg hc4).symm.trans h
      refine G_sub [(0, .inr (.inr (7, 0))), (3, .inl v3)] [0, 2] rfl ?_
      obtain rfl := Option.some.inj h
      exact K
    · replace h := (if_pos hc4).symm.trans h
      refine G_aload_n dX7_feed_46 rfl ?_
      refine fg_X7_25 rfl (by decide) dX7_feed_47 ?_
      refine fg_X7_147 rfl (by decide) dX7_feed_50 ?_
      refine G_aload_n dX7_feed_53 rfl ?_
      refine fg_X7_25 rfl (by decide) dX7_feed_54 ?_
      refine fg_X7_144 (v := (M 0 0 2)) rfl rfl (by decide) dX7_feed_57 ?_
      refine G_iload dX7_feed_60 rfl ?_
      refine G_iadd dX7_feed_62 ?_
      refine G_lload_n dX7_feed_63 rfl ?_
      refine G_bipush (v := 8) dX7_feed_64 (by decide) ?_
      refine G_iload dX7_feed_66 rfl ?_
      refine G_imul dX7_feed_68 ?_
      refine G_lushr dX7_feed_69 ?_
      refine G_l2i dX7_feed_70 ?_
      refine G_i2b dX7_feed_71 ?_
      obtain ⟨hb2, h⟩ := chk h
      have lhb2 := ib_lt hb2
      refine as_8 (kk := ((M 0 0 2) + v4).toNatClampNeg) (by decide) hb2 rfl dX7_feed_72 ?_
      refine G_iinc (v := (v4 + 1)) (L2 := [(4, .inl (v4 + 1)), (0, .inr (.inr (7, 0))), (1, .inr (.inl j1)), (3, .inl v3)]) dX7_feed_73 rfl (by first | rfl | (show _ + Int32.ofInt _ = _; rfl)) (by decide) rfl ?_
      refine G_goto (tgt := 40) dX7_feed_76 (by decide) ?_
      refine G_sub [(0, .inr (.inr (7, 0))), (1, .inr (.inl j1)), (3, .inl v3), (4, .inl (v4 + 1))] [1, 2, 3, 0] rfl ?_
      exact ih j1 v3 (v4 + 1) (up3 M 8 0 (((M 0 0 2) + v4).toNatClampNeg) (nbB ((jlushr j1 (8 * v4)).toInt32))) _  h K

def X7_feed (j1 : Int64) (v3 : Int32) (M : Mem) : Option (Int32 × Mem) := (if v3 < 1 then ((X7_fail 1 M).bind fun q1 => (some (q1.1, q1.2))) else (if 8 < v3 then ((X7_fail 1 M).bind fun q5 => (some (q5.1, q5.2))) else (if 50 < ((M 0 0 2) + v3) then ((X7_fail 4 M).bind fun q4 => (some (q4.1, q4.2))) else ((X7_feed_L40 400 j1 v3 0 M).bind fun q3 => (some (((q3 0 0 2) + v3), (up3 q3 0 0 2 ((q3 0 0 2) + v3))))))))
set_option maxRecDepth 100000 in
set_option maxHeartbeats 4000000 in
theorem X7_feed_ok  {j1 : Int64} {v3 : Int32} {M N : Mem} {res : Int32 × Mem} (h : X7_feed j1 v3 M = some res) : Spec mt_X7_feed 1 [.inr (.inr (7, 0)), .inr (.inl j1), .inl v3] (M, N) (some (.inl res.1)) (res.2, N) := by
  unfold X7_feed at h
  refine Spec_of_G (by decide) rfl (Nat.le_of_ble_eq_true rfl) ?_
  refine G_sub [(0, .inr (.inr (7, 0))), (1, .inr (.inl j1)), (3, .inl v3)] [0, 1, 2] rfl ?_
  refine G_iload_n dX7_feed_0 rfl ?_
  refine G_iconst (v := 1) dX7_feed_1 (by decide) ?_
  refine G_icmp_lt (tgt := 11) dX7_feed_2 (by decide) (fun hc1 => ?_) (fun hc1 => ?_)
  · replace h := (if_pos hc1).symm.trans h
    refine G_aload_n dX7_feed_11 rfl ?_
    refine G_iconst (v := 1) dX7_feed_12 (by decide) ?_
    obtain ⟨q1, hq1, h⟩ := bnd h
    refine G_callVv (T := TX7) (N := 10) (f := 7) (i := 0) (X7_fail_ok hq1) ok_X7_fail ml_X7_65 (by decide) rfl (by decide) (by decide) (by decide) rfl rfl (Nat.le_of_ble_eq_true rfl) dX7_feed_13 ?_
    obtain rfl := Option.some.inj h
    exact G_ret dX7_feed_16 trivial rfl rfl
  · replace h := (if_neg hc1).symm.trans h
    refine G_iload_n dX7_feed_5 rfl ?_
    refine G_bipush (v := 8) dX7_feed_6 (by decide) ?_
    refine G_icmp_le (tgt := 17) dX7_feed_8 (by decide) (fun hc2 => ?_) (fun hc2 => ?_)
    · replace h := (if_neg hc2).symm.trans h
      refine G_aload_n dX7_feed_17 rfl ?_
      refine fg_X7_25 rfl (by decide) dX7_feed_18 ?_
      refine fg_X7_144 (v := (M 0 0 2)) rfl rfl (by decide) dX7_feed_21 ?_
      refine G_iload_n dX7_feed_24 rfl ?_
      refine G_iadd dX7_feed_25 ?_
      refine G_bipush (v := 50) dX7_feed_26 (by decide) ?_
      refine G_icmp_le (tgt := 37) dX7_feed_28 (by decide) (fun hc3 => ?_) (fun hc3 => ?_)
      · replace h := (if_neg hc3).symm.trans h
        refine G_iconst (v := 0) dX7_feed_37 (by decide) ?_
        refine G_istore (L2 := [(4, .inl 0), (0, .inr (.inr (7, 0))), (1, .inr (.inl j1)), (3, .inl v3)]) dX7_feed_38 (by decide) rfl ?_
        refine G_sub [(0, .inr (.inr (7, 0))), (1, .inr (.inl j1)), (3, .inl v3), (4, .inl 0)] [1, 2, 3, 0] rfl ?_
        obtain ⟨q3, hq3, h⟩ := bnd h
        refine X7_feed_L40_ok  400 j1 v3 0 M _  hq3 ?_
        refine G_aload_n dX7_feed_79 rfl ?_
        refine fg_X7_25 rfl (by decide) dX7_feed_80 ?_
        refine G_dup rfl dX7_feed_83 ?_
        refine fg_X7_144 (v := (q3 0 0 2)) rfl rfl (by decide) dX7_feed_84 ?_
        refine G_iload_n dX7_feed_87 rfl ?_
        refine G_iadd dX7_feed_88 ?_
        refine fp_X7_144 rfl (by decide) dX7_feed_89 ?_
        refine G_aload_n dX7_feed_92 rfl ?_
        refine fg_X7_25 rfl (by decide) dX7_feed_93 ?_
        refine fg_X7_144 (v := ((q3 0 0 2) + v3)) up3_eq rfl (by decide) dX7_feed_96 ?_
        obtain rfl := Option.some.inj h
        exact G_ret dX7_feed_99 trivial rfl rfl
      · replace h := (if_pos hc3).symm.trans h
        refine G_aload_n dX7_feed_31 rfl ?_
        refine G_iconst (v := 4) dX7_feed_32 (by decide) ?_
        obtain ⟨q4, hq4, h⟩ := bnd h
        refine G_callVv (T := TX7) (N := 10) (f := 7) (i := 0) (X7_fail_ok hq4) ok_X7_fail ml_X7_65 (by decide) rfl (by decide) (by decide) (by decide) rfl rfl (Nat.le_of_ble_eq_true rfl) dX7_feed_33 ?_
        obtain rfl := Option.some.inj h
        exact G_ret dX7_feed_36 trivial rfl rfl
    · replace h := (if_pos hc2).symm.trans h
      refine G_aload_n dX7_feed_11 rfl ?_
      refine G_iconst (v := 1) dX7_feed_12 (by decide) ?_
      obtain ⟨q5, hq5, h⟩ := bnd h
      refine G_callVv (T := TX7) (N := 10) (f := 7) (i := 0) (X7_fail_ok hq5) ok_X7_fail ml_X7_65 (by decide) rfl (by decide) (by decide) (by decide) rfl rfl (Nat.le_of_ble_eq_true rfl) dX7_feed_13 ?_
      obtain rfl := Option.some.inj h
      exact G_ret dX7_feed_16 trivial rfl rfl

theorem dX7_text_0 : decode cX7_text 0 = .ok (.iload_n 1, 1) := by decide +kernel
theorem dX7_text_1 : decode cX7_text 1 = .ok (.iconst 1, 1) := by decide +kernel
theorem dX7_text_2 : decode cX7_text 2 = .ok (.invokestatic 61, 3) := by decide +kernel
theorem dX7_text_5 : decode cX7_text 5 = .ok (.ifCond .ne 9, 3) := by decide +kernel
theorem dX7_text_8 : decode cX7_text 8 = .ok (.aload_n 0, 1) := by decide +kernel
theorem dX7_text_9 : decode cX7_text 9 = .ok (.iconst 1, 1) := by decide +kernel
theorem dX7_text_10 : decode cX7_text 10 = .ok (.invokevirtual 65, 3) := by decide +kernel
theorem dX7_text_13 : decode cX7_text 13 = .ok (.ireturn, 1) := by decide +kernel
theorem dX7_text_14 : decode cX7_text 14 = .ok (.aload_n 0, 1) := by decide +kernel
theorem dX7_text_15 : decode cX7_text 15 = .ok (.getfield 35, 3) := by decide +kernel
theorem dX7_text_18 : decode cX7_text 18 = .ok (.aload_n 0, 1) := by decide +kernel
theorem dX7_text_19 : decode cX7_text 19 = .ok (.getfield 25, 3) := by decide +kernel
theorem dX7_text_22 : decode cX7_text 22 = .ok (.getfield 147, 3) := by decide +kernel
theorem dX7_text_25 : decode cX7_text 25 = .ok (.aload_n 0, 1) := by decide +kernel
theorem dX7_text_26 : decode cX7_text 26 = .ok (.getfield 25, 3) := by decide +kernel
theorem dX7_text_29 : decode cX7_text 29 = .ok (.getfield 144, 3) := by decide +kernel
theorem dX7_text_32 : decode cX7_text 32 = .ok (.iload_n 1, 1) := by decide +kernel
theorem dX7_text_33 : decode cX7_text 33 = .ok (.invokevirtual 151, 3) := by decide +kernel
theorem dX7_text_36 : decode cX7_text 36 = .ok (.istore_n 2, 1) := by decide +kernel
theorem dX7_text_37 : decode cX7_text 37 = .ok (.aload_n 0, 1) := by decide +kernel
theorem dX7_text_38 : decode cX7_text 38 = .ok (.getfield 25, 3) := by decide +kernel
theorem dX7_text_41 : decode cX7_text 41 = .ok (.iconst 0, 1) := by decide +kernel
theorem dX7_text_42 : decode cX7_text 42 = .ok (.putfield 144, 3) := by decide +kernel
theorem dX7_text_45 : decode cX7_text 45 = .ok (.iload_n 2, 1) := by decide +kernel
theorem dX7_text_46 : decode cX7_text 46 = .ok (.ifCond .ne 14, 3) := by decide +kernel
theorem dX7_text_49 : decode cX7_text 49 = .ok (.bipush (-10), 2) := by decide +kernel
theorem dX7_text_51 : decode cX7_text 51 = .ok (.aload_n 0, 1) := by decide +kernel
theorem dX7_text_52 : decode cX7_text 52 = .ok (.getfield 35, 3) := by decide +kernel
theorem dX7_text_55 : decode cX7_text 55 = .ok (.getfield 155, 3) := by decide +kernel
theorem dX7_text_58 : decode cX7_text 58 = .ok (.isub, 1) := by decide +kernel
theorem dX7_text_59 : decode cX7_text 59 = .ok (.ireturn, 1) := by decide +kernel
theorem dX7_text_60 : decode cX7_text 60 = .ok (.aload_n 0, 1) := by decide +kernel
theorem dX7_text_61 : decode cX7_text 61 = .ok (.getfield 10, 3) := by decide +kernel
theorem dX7_text_64 : decode cX7_text 64 = .ok (.iload_n 1, 1) := by decide +kernel
theorem dX7_text_65 : decode cX7_text 65 = .ok (.invokevirtual 158, 3) := by decide +kernel
theorem dX7_text_68 : decode cX7_text 68 = .ok (.aload_n 0, 1) := by decide +kernel
theorem dX7_text_69 : decode cX7_text 69 = .ok (.getfield 35, 3) := by decide +kernel
theorem dX7_text_72 : decode cX7_text 72 = .ok (.getfield 162, 3) := by decide +kernel
theorem dX7_text_75 : decode cX7_text 75 = .ok (.invokevirtual 166, 3) := by decide +kernel
theorem dX7_text_78 : decode cX7_text 78 = .ok (.iconst 1, 1) := by decide +kernel
theorem dX7_text_79 : decode cX7_text 79 = .ok (.ireturn, 1) := by decide +kernel
def X7_text (v1 : Int32) (M : Mem) : Option (Int32 × Mem) := (if (X7_isWithin v1 1) = 0 then ((X7_fail 1 M).bind fun q4 => (some (q4.1, q4.2))) else ((X4_readTape 0 (M 0 0 2) v1 M).bind fun q1 => (if q1.1 = 0 then (some (((-10) - (q1.2 4 0 4)), (up3 q1.2 0 0 2 0))) else (if (X1_lawOf 0 v1 (up3 q1.2 0 0 2 0)) < 7 then ((X2_copy (X1_lawOf 0 v1 (up3 q1.2 0 0 2 0)) 6 (up3 q1.2 0 0 2 0)).bind fun q3 => (some (1, q3))) else none))))
set_option maxRecDepth 100000 in
set_option maxHeartbeats 4000000 in
theorem X7_text_ok  {v1 : Int32} {M N : Mem} {res : Int32 × Mem} (h : X7_text v1 M = some res) : Spec mt_X7_text 104 [.inr (.inr (7, 0)), .inl v1] (M, N) (some (.inl res.1)) (res.2, N) := by
  unfold X7_text at h
  refine Spec_of_G (by decide) rfl (Nat.le_of_ble_eq_true rfl) ?_
  refine G_sub [(0, .inr (.inr (7, 0))), (1, .inl v1)] [0, 1] rfl ?_
  refine G_iload_n dX7_text_0 rfl ?_
  refine G_iconst (v := 1) dX7_text_1 (by decide) ?_
  refine G_callSv  (X7_isWithin_ok rfl) ok_X7_isWithin ml_X7_61 (by decide) rfl rfl (Nat.le_of_ble_eq_true rfl) dX7_text_2 ?_
  refine G_if_ne (tgt := 14) dX7_text_5 (by decide) (fun hc1 => ?_) (fun hc1 => ?_)
  · replace h := (if_neg hc1).symm.trans h
    refine G_aload_n dX7_text_14 rfl ?_
    refine fg_X7_35 rfl (by decide) dX7_text_15 ?_
    refine G_aload_n dX7_text_18 rfl ?_
    refine fg_X7_25 rfl (by decide) dX7_text_19 ?_
    refine fg_X7_147 rfl (by decide) dX7_text_22 ?_
    refine G_aload_n dX7_text_25 rfl ?_
    refine fg_X7_25 rfl (by decide) dX7_text_26 ?_
    refine fg_X7_144 (v := (M 0 0 2)) rfl rfl (by decide) dX7_text_29 ?_
    refine G_iload_n dX7_text_32 rfl ?_
    obtain ⟨q1, hq1, h⟩ := bnd h
    refine G_callVv (T := TX4) (N := 5) (f := 4) (i := 0) (X4_readTape_ok (by decide) hq1) ok_X4_readTape ml_X7_151 (by decide) rfl (by decide) (by decide) (by decide) rfl rfl (Nat.le_of_ble_eq_true rfl) dX7_text_33 ?_
    refine G_istore_n (L2 := [(2, .inl q1.1), (0, .inr (.inr (7, 0))), (1, .inl v1)]) dX7_text_36 (by decide) rfl ?_
    refine G_aload_n dX7_text_37 rfl ?_
    refine fg_X7_25 rfl (by decide) dX7_text_38 ?_
    refine G_iconst (v := 0) dX7_text_41 (by decide) ?_
    refine fp_X7_144 rfl (by decide) dX7_text_42 ?_
    refine G_iload_n dX7_text_45 rfl ?_
    refine G_if_ne (tgt := 60) dX7_text_46 (by decide) (fun hc2 => ?_) (fun hc2 => ?_)
    · replace h := (if_neg hc2).symm.trans h
      refine G_aload_n dX7_text_60 rfl ?_
      refine fg_X7_10 rfl (by decide) dX7_text_61 ?_
      refine G_iload_n dX7_text_64 rfl ?_
      refine G_callVv (T := TX1) (N := 8) (f := 1) (i := 0) (X1_lawOf_ok (by decide) rfl) ok_X1_lawOf ml_X7_158 (by decide) rfl (by decide) (by decide) (by decide) rfl rfl (Nat.le_of_ble_eq_true rfl) dX7_text_65 ?_
      obtain ⟨hl2, h⟩ := chk h
      refine G_aload_n dX7_text_68 rfl ?_
      refine fg_X7_35 rfl (by decide) dX7_text_69 ?_
      refine fg_X7_162 rfl (by decide) dX7_text_72 ?_
      obtain ⟨q3, hq3, h⟩ := bnd h
      refine G_callVn (T := TX2) (N := 3) (f := 2) (i := (X1_lawOf 0 v1 (up3 q1.2 0 0 2 0))) (X2_copy_ok (by omega) (by decide) hq3) ok_X2_copy ml_X7_166 (by decide) rfl (by decide) (show (X1_lawOf 0 v1 (up3 q1.2 0 0 2 0)) < 7 from (by omega)) (by decide) rfl rfl (Nat.le_of_ble_eq_true rfl) dX7_text_75 ?_
      refine G_iconst (v := 1) dX7_text_78 (by decide) ?_
      obtain rfl := Option.some.inj h
      exact G_ret dX7_text_79 trivial rfl rfl
    · replace h := (if_pos hc2).symm.trans h
      refine G_bipush (v := (-10)) dX7_text_49 (by decide) ?_
      refine G_aload_n dX7_text_51 rfl ?_
      refine fg_X7_35 rfl (by decide) dX7_text_52 ?_
      refine fg_X7_155 (v := (q1.2 4 0 4)) (up3_f (by decide)) rfl (by decide) dX7_text_55 ?_
      refine G_isub dX7_text_58 ?_
      obtain rfl := Option.some.inj h
      exact G_ret dX7_text_59 trivial rfl rfl
  · replace h := (if_pos hc1).symm.trans h
    refine G_aload_n dX7_text_8 rfl ?_
    refine G_iconst (v := 1) dX7_text_9 (by decide) ?_
    obtain ⟨q4, hq4, h⟩ := bnd h
    refine G_callVv (T := TX7) (N := 10) (f := 7) (i := 0) (X7_fail_ok hq4) ok_X7_fail ml_X7_65 (by decide) rfl (by decide) (by decide) (by decide) rfl rfl (Nat.le_of_ble_eq_true rfl) dX7_text_10 ?_
    obtain rfl := Option.some.inj h
    exact G_ret dX7_text_13 trivial rfl rfl

theorem dX7_law_0 : decode cX7_law 0 = .ok (.iload_n 1, 1) := by decide +kernel
theorem dX7_law_1 : decode cX7_law 1 = .ok (.iconst 1, 1) := by decide +kernel
theorem dX7_law_2 : decode cX7_law 2 = .ok (.invokestatic 61, 3) := by decide +kernel
theorem dX7_law_5 : decode cX7_law 5 = .ok (.ifCond .eq 18, 3) := by decide +kernel
theorem dX7_law_8 : decode cX7_law 8 = .ok (.aload_n 0, 1) := by decide +kernel
theorem dX7_law_9 : decode cX7_law 9 = .ok (.getfield 10, 3) := by decide +kernel
theorem dX7_law_12 : decode cX7_law 12 = .ok (.iload_n 1, 1) := by decide +kernel
theorem dX7_law_13 : decode cX7_law 13 = .ok (.iload_n 2, 1) := by decide +kernel
theorem dX7_law_14 : decode cX7_law 14 = .ok (.iload_n 3, 1) := by decide +kernel
theorem dX7_law_15 : decode cX7_law 15 = .ok (.iload 4, 2) := by decide +kernel
theorem dX7_law_17 : decode cX7_law 17 = .ok (.invokevirtual 172, 3) := by decide +kernel
theorem dX7_law_20 : decode cX7_law 20 = .ok (.goto 8, 3) := by decide +kernel
theorem dX7_law_23 : decode cX7_law 23 = .ok (.aload_n 0, 1) := by decide +kernel
theorem dX7_law_24 : decode cX7_law 24 = .ok (.iconst 1, 1) := by decide +kernel
theorem dX7_law_25 : decode cX7_law 25 = .ok (.invokevirtual 65, 3) := by decide +kernel
theorem dX7_law_28 : decode cX7_law 28 = .ok (.ireturn, 1) := by decide +kernel
def X7_law (v1 : Int32) (v2 : Int32) (v3 : Int32) (v4 : Int32) (M : Mem) : Option (Int32 × Mem) := (if (X7_isWithin v1 1) = 0 then ((X7_fail 1 M).bind fun q1 => (some (q1.1, q1.2))) else ((X1_given 0 v1 v2 v3 v4 M).bind fun q2 => (some (q2.1, q2.2))))
set_option maxRecDepth 100000 in
set_option maxHeartbeats 4000000 in
theorem X7_law_ok  {v1 : Int32} {v2 : Int32} {v3 : Int32} {v4 : Int32} {M N : Mem} {res : Int32 × Mem} (h : X7_law v1 v2 v3 v4 M = some res) : Spec mt_X7_law 3 [.inr (.inr (7, 0)), .inl v1, .inl v2, .inl v3, .inl v4] (M, N) (some (.inl res.1)) (res.2, N) := by
  unfold X7_law at h
  refine Spec_of_G (by decide) rfl (Nat.le_of_ble_eq_true rfl) ?_
  refine G_sub [(0, .inr (.inr (7, 0))), (1, .inl v1), (2, .inl v2), (3, .inl v3), (4, .inl v4)] [0, 1, 2, 3, 4] rfl ?_
  refine G_iload_n dX7_law_0 rfl ?_
  refine G_iconst (v := 1) dX7_law_1 (by decide) ?_
  refine G_callSv  (X7_isWithin_ok rfl) ok_X7_isWithin ml_X7_61 (by decide) rfl rfl (Nat.le_of_ble_eq_true rfl) dX7_law_2 ?_
  refine G_if_eq (tgt := 23) dX7_law_5 (by decide) (fun hc1 => ?_) (fun hc1 => ?_)
  · replace h := (if_pos hc1).symm.trans h
    refine G_aload_n dX7_law_23 rfl ?_
    refine G_iconst (v := 1) dX7_law_24 (by decide) ?_
    obtain ⟨q1, hq1, h⟩ := bnd h
    refine G_callVv (T := TX7) (N := 10) (f := 7) (i := 0) (X7_fail_ok hq1) ok_X7_fail ml_X7_65 (by decide) rfl (by decide) (by decide) (by decide) rfl rfl (Nat.le_of_ble_eq_true rfl) dX7_law_25 ?_
    obtain rfl := Option.some.inj h
    exact G_ret dX7_law_28 trivial rfl rfl
  · replace h := (if_neg hc1).symm.trans h
    refine G_aload_n dX7_law_8 rfl ?_
    refine fg_X7_10 rfl (by decide) dX7_law_9 ?_
    refine G_iload_n dX7_law_12 rfl ?_
    refine G_iload_n dX7_law_13 rfl ?_
    refine G_iload_n dX7_law_14 rfl ?_
    refine G_iload dX7_law_15 rfl ?_
    obtain ⟨q2, hq2, h⟩ := bnd h
    refine G_callVv (T := TX1) (N := 8) (f := 1) (i := 0) (X1_given_ok (by decide) hq2) ok_X1_given ml_X7_172 (by decide) rfl (by decide) (by decide) (by decide) rfl rfl (Nat.le_of_ble_eq_true rfl) dX7_law_17 ?_
    refine G_goto (tgt := 28) dX7_law_20 (by decide) ?_
    obtain rfl := Option.some.inj h
    exact G_ret dX7_law_28 trivial rfl rfl

theorem dX7_years_0 : decode cX7_years 0 = .ok (.iload_n 1, 1) := by decide +kernel
theorem dX7_years_1 : decode cX7_years 1 = .ok (.iconst 1, 1) := by decide +kernel
theorem dX7_years_2 : decode cX7_years 2 = .ok (.if_icmp .lt 9, 3) := by decide +kernel
theorem dX7_years_5 : decode cX7_years 5 = .ok (.iload_n 1, 1) := by decide +kernel
theorem dX7_years_6 : decode cX7_years 6 = .ok (.bipush 60, 2) := by decide +kernel
theorem dX7_years_8 : decode cX7_years 8 = .ok (.if_icmp .le 9, 3) := by decide +kernel
theorem dX7_years_11 : decode cX7_years 11 = .ok (.aload_n 0, 1) := by decide +kernel
theorem dX7_years_12 : decode cX7_years 12 = .ok (.iconst 1, 1) := by decide +kernel
theorem dX7_years_13 : decode cX7_years 13 = .ok (.invokevirtual 65, 3) := by decide +kernel
theorem dX7_years_16 : decode cX7_years 16 = .ok (.ireturn, 1) := by decide +kernel
theorem dX7_years_17 : decode cX7_years 17 = .ok (.aload_n 0, 1) := by decide +kernel
theorem dX7_years_18 : decode cX7_years 18 = .ok (.getfield 10, 3) := by decide +kernel
theorem dX7_years_21 : decode cX7_years 21 = .ok (.getfield 176, 3) := by decide +kernel
theorem dX7_years_24 : decode cX7_years 24 = .ok (.iload_n 1, 1) := by decide +kernel
theorem dX7_years_25 : decode cX7_years 25 = .ok (.iadd, 1) := by decide +kernel
theorem dX7_years_26 : decode cX7_years 26 = .ok (.sipush 9999, 3) := by decide +kernel
theorem dX7_years_29 : decode cX7_years 29 = .ok (.if_icmp .le 9, 3) := by decide +kernel
theorem dX7_years_32 : decode cX7_years 32 = .ok (.aload_n 0, 1) := by decide +kernel
theorem dX7_years_33 : decode cX7_years 33 = .ok (.iconst 3, 1) := by decide +kernel
theorem dX7_years_34 : decode cX7_years 34 = .ok (.invokevirtual 65, 3) := by decide +kernel
theorem dX7_years_37 : decode cX7_years 37 = .ok (.ireturn, 1) := by decide +kernel
theorem dX7_years_38 : decode cX7_years 38 = .ok (.aload_n 0, 1) := by decide +kernel
theorem dX7_years_39 : decode cX7_years 39 = .ok (.getfield 10, 3) := by decide +kernel
theorem dX7_years_42 : decode cX7_years 42 = .ok (.iload_n 1, 1) := by decide +kernel
theorem dX7_years_43 : decode cX7_years 43 = .ok (.invokevirtual 179, 3) := by decide +kernel
theorem dX7_years_46 : decode cX7_years 46 = .ok (.aload_n 0, 1) := by decide +kernel
theorem dX7_years_47 : decode cX7_years 47 = .ok (.getfield 10, 3) := by decide +kernel
theorem dX7_years_50 : decode cX7_years 50 = .ok (.invokevirtual 182, 3) := by decide +kernel
theorem dX7_years_53 : decode cX7_years 53 = .ok (.ireturn, 1) := by decide +kernel
def X7_years (v1 : Int32) (M : Mem) : Option (Int32 × Mem) := (if v1 < 1 then ((X7_fail 1 M).bind fun q1 => (some (q1.1, q1.2))) else (if 60 < v1 then ((X7_fail 1 M).bind fun q5 => (some (q5.1, q5.2))) else (if 9999 < ((M 1 0 6) + v1) then ((X7_fail 3 M).bind fun q4 => (some (q4.1, q4.2))) else ((X1_passYears 0 v1 M).bind fun q2 => ((X1_allHandles 0 q2).bind fun q3 => (some (q3, q2)))))))
set_option maxRecDepth 100000 in
set_option maxHeartbeats 4000000 in
theorem X7_years_ok  {v1 : Int32} {M N : Mem} {res : Int32 × Mem} (h : X7_years v1 M = some res) : Spec mt_X7_years 5 [.inr (.inr (7, 0)), .inl v1] (M, N) (some (.inl res.1)) (res.2, N) := by
  unfold X7_years at h
  refine Spec_of_G (by decide) rfl (Nat.le_of_ble_eq_true rfl) ?_
  refine G_sub [(0, .inr (.inr (7, 0))), (1, .inl v1)] [0, 1] rfl ?_
  refine G_iload_n dX7_years_0 rfl ?_
  refine G_iconst (v := 1) dX7_years_1 (by decide) ?_
  refine G_icmp_lt (tgt := 11) dX7_years_2 (by decide) (fun hc1 => ?_) (fun hc1 => ?_)
  · replace h := (if_pos hc1).symm.trans h
    refine G_aload_n dX7_years_11 rfl ?_
    refine G_iconst (v := 1) dX7_years_12 (by decide) ?_
    obtain ⟨q1, hq1, h⟩ := bnd h
    refine G_callVv (T := TX7) (N := 10) (f := 7) (i := 0) (X7_fail_ok hq1) ok_X7_fail ml_X7_65 (by decide) rfl (by decide) (by decide) (by decide) rfl rfl (Nat.le_of_ble_eq_true rfl) dX7_years_13 ?_
    obtain rfl := Option.some.inj h
    exact G_ret dX7_years_16 trivial rfl rfl
  · replace h := (if_neg hc1).symm.trans h
    refine G_iload_n dX7_years_5 rfl ?_
    refine G_bipush (v := 60) dX7_years_6 (by decide) ?_
    refine G_icmp_le (tgt := 17) dX7_years_8 (by decide) (fun hc2 => ?_) (fun hc2 => ?_)
    · replace h := (if_neg hc2).symm.trans h
      refine G_aload_n dX7_years_17 rfl ?_
      refine fg_X7_10 rfl (by decide) dX7_years_18 ?_
      refine fg_X7_176 (v := (M 1 0 6)) rfl rfl (by decide) dX7_years_21 ?_
      refine G_iload_n dX7_years_24 rfl ?_
      refine G_iadd dX7_years_25 ?_
      refine G_sipush (v := 9999) dX7_years_26 (by decide) ?_
      refine G_icmp_le (tgt := 38) dX7_years_29 (by decide) (fun hc3 => ?_) (fun hc3 => ?_)
      · replace h := (if_neg hc3).symm.trans h
        refine G_aload_n dX7_years_38 rfl ?_
        refine fg_X7_10 rfl (by decide) dX7_years_39 ?_
        refine G_iload_n dX7_years_42 rfl ?_
        obtain ⟨q2, hq2, h⟩ := bnd h
        refine G_callVn (T := TX1) (N := 8) (f := 1) (i := 0) (X1_passYears_ok (by decide) hq2) ok_X1_passYears ml_X7_179 (by decide) rfl (by decide) (by decide) (by decide) rfl rfl (Nat.le_of_ble_eq_true rfl) dX7_years_43 ?_
        refine G_aload_n dX7_years_46 rfl ?_
        refine fg_X7_10 rfl (by decide) dX7_years_47 ?_
        obtain ⟨q3, hq3, h⟩ := bnd h
        refine G_callVv (T := TX1) (N := 8) (f := 1) (i := 0) (X1_allHandles_ok (by decide) hq3) ok_X1_allHandles ml_X7_182 (by decide) rfl (by decide) (by decide) (by decide) rfl rfl (Nat.le_of_ble_eq_true rfl) dX7_years_50 ?_
        obtain rfl := Option.some.inj h
        exact G_ret dX7_years_53 trivial rfl rfl
      · replace h := (if_pos hc3).symm.trans h
        refine G_aload_n dX7_years_32 rfl ?_
        refine G_iconst (v := 3) dX7_years_33 (by decide) ?_
        obtain ⟨q4, hq4, h⟩ := bnd h
        refine G_callVv (T := TX7) (N := 10) (f := 7) (i := 0) (X7_fail_ok hq4) ok_X7_fail ml_X7_65 (by decide) rfl (by decide) (by decide) (by decide) rfl rfl (Nat.le_of_ble_eq_true rfl) dX7_years_34 ?_
        obtain rfl := Option.some.inj h
        exact G_ret dX7_years_37 trivial rfl rfl
    · replace h := (if_pos hc2).symm.trans h
      refine G_aload_n dX7_years_11 rfl ?_
      refine G_iconst (v := 1) dX7_years_12 (by decide) ?_
      obtain ⟨q5, hq5, h⟩ := bnd h
      refine G_callVv (T := TX7) (N := 10) (f := 7) (i := 0) (X7_fail_ok hq5) ok_X7_fail ml_X7_65 (by decide) rfl (by decide) (by decide) (by decide) rfl rfl (Nat.le_of_ble_eq_true rfl) dX7_years_13 ?_
      obtain rfl := Option.some.inj h
      exact G_ret dX7_years_16 trivial rfl rfl

theorem dX7_loose_0 : decode cX7_loose 0 = .ok (.iload_n 1, 1) := by decide +kernel
theorem dX7_loose_1 : decode cX7_loose 1 = .ok (.iconst 1, 1) := by decide +kernel
theorem dX7_loose_2 : decode cX7_loose 2 = .ok (.if_icmp .lt 9, 3) := by decide +kernel
theorem dX7_loose_5 : decode cX7_loose 5 = .ok (.iload_n 1, 1) := by decide +kernel
theorem dX7_loose_6 : decode cX7_loose 6 = .ok (.bipush 40, 2) := by decide +kernel
theorem dX7_loose_8 : decode cX7_loose 8 = .ok (.if_icmp .le 9, 3) := by decide +kernel
theorem dX7_loose_11 : decode cX7_loose 11 = .ok (.aload_n 0, 1) := by decide +kernel
theorem dX7_loose_12 : decode cX7_loose 12 = .ok (.iconst 1, 1) := by decide +kernel
theorem dX7_loose_13 : decode cX7_loose 13 = .ok (.invokevirtual 65, 3) := by decide +kernel
theorem dX7_loose_16 : decode cX7_loose 16 = .ok (.ireturn, 1) := by decide +kernel
theorem dX7_loose_17 : decode cX7_loose 17 = .ok (.aload_n 0, 1) := by decide +kernel
theorem dX7_loose_18 : decode cX7_loose 18 = .ok (.getfield 10, 3) := by decide +kernel
theorem dX7_loose_21 : decode cX7_loose 21 = .ok (.getfield 176, 3) := by decide +kernel
theorem dX7_loose_24 : decode cX7_loose 24 = .ok (.iload_n 1, 1) := by decide +kernel
theorem dX7_loose_25 : decode cX7_loose 25 = .ok (.iadd, 1) := by decide +kernel
theorem dX7_loose_26 : decode cX7_loose 26 = .ok (.sipush 9999, 3) := by decide +kernel
theorem dX7_loose_29 : decode cX7_loose 29 = .ok (.if_icmp .le 9, 3) := by decide +kernel
theorem dX7_loose_32 : decode cX7_loose 32 = .ok (.aload_n 0, 1) := by decide +kernel
theorem dX7_loose_33 : decode cX7_loose 33 = .ok (.iconst 3, 1) := by decide +kernel
theorem dX7_loose_34 : decode cX7_loose 34 = .ok (.invokevirtual 65, 3) := by decide +kernel
theorem dX7_loose_37 : decode cX7_loose 37 = .ok (.ireturn, 1) := by decide +kernel
theorem dX7_loose_38 : decode cX7_loose 38 = .ok (.iconst 0, 1) := by decide +kernel
theorem dX7_loose_39 : decode cX7_loose 39 = .ok (.istore_n 2, 1) := by decide +kernel
theorem dX7_loose_40 : decode cX7_loose 40 = .ok (.iload_n 2, 1) := by decide +kernel
theorem dX7_loose_41 : decode cX7_loose 41 = .ok (.iload_n 1, 1) := by decide +kernel
theorem dX7_loose_42 : decode cX7_loose 42 = .ok (.if_icmp .ge 62, 3) := by decide +kernel
theorem dX7_loose_45 : decode cX7_loose 45 = .ok (.aload_n 0, 1) := by decide +kernel
theorem dX7_loose_46 : decode cX7_loose 46 = .ok (.getfield 25, 3) := by decide +kernel
theorem dX7_loose_49 : decode cX7_loose 49 = .ok (.invokevirtual 185, 3) := by decide +kernel
theorem dX7_loose_52 : decode cX7_loose 52 = .ok (.istore_n 3, 1) := by decide +kernel
theorem dX7_loose_53 : decode cX7_loose 53 = .ok (.aload_n 0, 1) := by decide +kernel
theorem dX7_loose_54 : decode cX7_loose 54 = .ok (.getfield 10, 3) := by decide +kernel
theorem dX7_loose_57 : decode cX7_loose 57 = .ok (.getfield 81, 3) := by decide +kernel
theorem dX7_loose_60 : decode cX7_loose 60 = .ok (.ifCond .le 30, 3) := by decide +kernel
theorem dX7_loose_63 : decode cX7_loose 63 = .ok (.aload_n 0, 1) := by decide +kernel
theorem dX7_loose_64 : decode cX7_loose 64 = .ok (.getfield 10, 3) := by decide +kernel
theorem dX7_loose_67 : decode cX7_loose 67 = .ok (.getfield 85, 3) := by decide +kernel
theorem dX7_loose_70 : decode cX7_loose 70 = .ok (.iload_n 3, 1) := by decide +kernel
theorem dX7_loose_71 : decode cX7_loose 71 = .ok (.aload_n 0, 1) := by decide +kernel
theorem dX7_loose_72 : decode cX7_loose 72 = .ok (.getfield 10, 3) := by decide +kernel
theorem dX7_loose_75 : decode cX7_loose 75 = .ok (.getfield 81, 3) := by decide +kernel
theorem dX7_loose_78 : decode cX7_loose 78 = .ok (.irem, 1) := by decide +kernel
theorem dX7_loose_79 : decode cX7_loose 79 = .ok (.aaload, 1) := by decide +kernel
theorem dX7_loose_80 : decode cX7_loose 80 = .ok (.iload_n 3, 1) := by decide +kernel
theorem dX7_loose_81 : decode cX7_loose 81 = .ok (.bipush 8, 2) := by decide +kernel
theorem dX7_loose_83 : decode cX7_loose 83 = .ok (.idiv, 1) := by decide +kernel
theorem dX7_loose_84 : decode cX7_loose 84 = .ok (.bipush 10, 2) := by decide +kernel
theorem dX7_loose_86 : decode cX7_loose 86 = .ok (.irem, 1) := by decide +kernel
theorem dX7_loose_87 : decode cX7_loose 87 = .ok (.putfield 107, 3) := by decide +kernel
theorem dX7_loose_90 : decode cX7_loose 90 = .ok (.aload_n 0, 1) := by decide +kernel
theorem dX7_loose_91 : decode cX7_loose 91 = .ok (.getfield 10, 3) := by decide +kernel
theorem dX7_loose_94 : decode cX7_loose 94 = .ok (.iconst 1, 1) := by decide +kernel
theorem dX7_loose_95 : decode cX7_loose 95 = .ok (.invokevirtual 179, 3) := by decide +kernel
theorem dX7_loose_98 : decode cX7_loose 98 = .ok (.iinc 2 1, 3) := by decide +kernel
theorem dX7_loose_101 : decode cX7_loose 101 = .ok (.goto (-61), 3) := by decide +kernel
theorem dX7_loose_104 : decode cX7_loose 104 = .ok (.aload_n 0, 1) := by decide +kernel
theorem dX7_loose_105 : decode cX7_loose 105 = .ok (.getfield 10, 3) := by decide +kernel
theorem dX7_loose_108 : decode cX7_loose 108 = .ok (.invokevirtual 182, 3) := by decide +kernel
theorem dX7_loose_111 : decode cX7_loose 111 = .ok (.ireturn, 1) := by decide +kernel
def X7_loose_L40 : Nat → Int32 → Int32 → Mem → Option (Mem)
  | 0, _, _, _ => none
  | fu + 1, v1, v2, M => (if v2 < v1 then ((X0_draw 0 M).bind fun q2 => (if 0 < (q2.2 1 0 5) then (if (q2.2 1 0 5) = 0 then none else (if ib (jrem q2.1 (q2.2 1 0 5)) 10 = true then ((X1_passYears 0 1 (up3 q2.2 3 (10 * 0 + (jrem q2.1 (q2.2 1 0 5)).toNatClampNeg) 3 (jrem (q2.1 / 8) 10))).bind fun q6 => (X7_loose_L40 fu v1 (v2 + 1) q6)) else none)) else ((X1_passYears 0 1 q2.2).bind fun q3 => (X7_loose_L40 fu v1 (v2 + 1) q3)))) else (some M))
set_option maxRecDepth 100000 in
set_option maxHeartbeats 4000000 in
theorem X7_loose_L40_ok  {r : Option AV} {M' : MM} : ∀ (fu : Nat) (v1 : Int32) (v2 : Int32) (M N : Mem) {res : Mem} (h : X7_loose_L40 fu v1 v2 M = some res) (K : G mt_X7_loose 5 r M' 104 [(0, .inr (.inr (7, 0)))] [] (res, N)), G mt_X7_loose 5 r M' 40 [(0, .inr (.inr (7, 0))), (1, .inl v1), (2, .inl v2)] [] (M, N) := by
  intro fu
  induction fu with
  | zero =>
    intro v1 v2 M N res h
    cases h
  | succ fu ih =>
    intro v1 v2 M N res h K
    replace h : (if v2 < v1 then ((X0_draw 0 M).bind fun q2 => (if 0 < (q2.2 1 0 5) then (if (q2.2 1 0 5) = 0 then none else (if ib (jrem q2.1 (q2.2 1 0 5)) 10 = true then ((X1_passYears 0 1 (up3 q2.2 3 (10 * 0 + (jrem q2.1 (q2.2 1 0 5)).toNatClampNeg) 3 (jrem (q2.1 / 8) 10))).bind fun q6 => (X7_loose_L40 fu v1 (v2 + 1) q6)) else none)) else ((X1_passYears 0 1 q2.2).bind fun q3 => (X7_loose_L40 fu v1 (v2 + 1) q3)))) else (some M)) = some res := h
    refine G_iload_n dX7_loose_40 rfl ?_
    refine G_iload_n dX7_loose_41 rfl ?_
    refine G_icmp_ge (tgt := 104) dX7_loose_42 (by decide) (fun hc4 => ?_) (fun hc4 => ?_)
    · replace h := (if_neg hc4).symm.trans h
      refine G_sub [(0, .inr (.inr (7, 0)))] [0] rfl ?_
      obtain rfl := Option.some.inj h
      exact K
    · replace h := (if_pos hc4).symm.trans h
      refine G_aload_n dX7_loose_45 rfl ?_
      refine fg_X7_25 rfl (by decide) dX7_loose_46 ?_
      obtain ⟨q2, hq2, h⟩ := bnd h
      refine G_callVv (T := TX0) (N := 5) (f := 0) (i := 0) (X0_draw_ok (by decide) hq2) ok_X0_draw ml_X7_185 (by decide) rfl (by decide) (by decide) (by decide) rfl rfl (Nat.le_of_ble_eq_true rfl) dX7_loose_49 ?_
      refine G_istore_n (L2 := [(3, .inl q2.1), (0, .inr (.inr (7, 0))), (1, .inl v1), (2, .inl v2)]) dX7_loose_52 (by decide) rfl ?_
      refine G_aload_n dX7_loose_53 rfl ?_
      refine fg_X7_10 rfl (by decide) dX7_loose_54 ?_
      refine fg_X7_81 (v := (q2.2 1 0 5)) rfl rfl (by decide) dX7_loose_57 ?_
      refine G_if_le (tgt := 90) dX7_loose_60 (by decide) (fun hc5 => ?_) (fun hc5 => ?_)
      · replace h := (if_neg hc5).symm.trans h
        refine G_aload_n dX7_loose_90 rfl ?_
        refine fg_X7_10 rfl (by decide) dX7_loose_91 ?_
        refine G_iconst (v := 1) dX7_loose_94 (by decide) ?_
        obtain ⟨q3, hq3, h⟩ := bnd h
        refine G_callVn (T := TX1) (N := 8) (f := 1) (i := 0) (X1_passYears_ok (by decide) hq3) ok_X1_passYears ml_X7_179 (by decide) rfl (by decide) (by decide) (by decide) rfl rfl (Nat.le_of_ble_eq_true rfl) dX7_loose_95 ?_
        refine G_iinc (v := (v2 + 1)) (L2 := [(2, .inl (v2 + 1)), (3, .inl q2.1), (0, .inr (.inr (7, 0))), (1, .inl v1)]) dX7_loose_98 rfl (by first | rfl | (show _ + Int32.ofInt _ = _; rfl)) (by decide) rfl ?_
        refine G_goto (tgt := 40) dX7_loose_101 (by decide) ?_
        refine G_sub [(0, .inr (.inr (7, 0))), (1, .inl v1), (2, .inl (v2 + 1))] [2, 3, 0] rfl ?_
        exact ih v1 (v2 + 1) q3 _  h K
      · replace h := (if_pos hc5).symm.trans h
        refine G_aload_n dX7_loose_63 rfl ?_
        refine fg_X7_10 rfl (by decide) dX7_loose_64 ?_
        refine fg_X7_85 rfl (by decide) dX7_loose_67 ?_
        refine G_iload_n dX7_loose_70 rfl ?_
        refine G_aload_n dX7_loose_71 rfl ?_
        refine fg_X7_10 rfl (by decide) dX7_loose_72 ?_
        refine fg_X7_81 (v := (q2.2 1 0 5)) rfl rfl (by decide) dX7_loose_75 ?_
        obtain ⟨hz4, h⟩ := chkn h
        refine G_irem hz4 dX7_loose_78 ?_
        obtain ⟨hb5, h⟩ := chk h
        have lhb5 := ib_lt hb5
        refine G_aald3 (by decide) (by decide) (by decide) rfl hb5 dX7_loose_79 ?_
        refine G_iload_n dX7_loose_80 rfl ?_
        refine G_bipush (v := 8) dX7_loose_81 (by decide) ?_
        refine G_idiv (by decide) dX7_loose_83 ?_
        refine G_bipush (v := 10) dX7_loose_84 (by decide) ?_
        refine G_irem (by decide) dX7_loose_86 ?_
        refine fp_X7_107 rfl (by omega) dX7_loose_87 ?_
        refine G_aload_n dX7_loose_90 rfl ?_
        refine fg_X7_10 rfl (by decide) dX7_loose_91 ?_
        refine G_iconst (v := 1) dX7_loose_94 (by decide) ?_
        obtain ⟨q6, hq6, h⟩ := bnd h
        refine G_callVn (T := TX1) (N := 8) (f := 1) (i := 0) (X1_passYears_ok (by decide) hq6) ok_X1_passYears ml_X7_179 (by decide) rfl (by decide) (by decide) (by decide) rfl rfl (Nat.le_of_ble_eq_true rfl) dX7_loose_95 ?_
        refine G_iinc (v := (v2 + 1)) (L2 := [(2, .inl (v2 + 1)), (3, .inl q2.1), (0, .inr (.inr (7, 0))), (1, .inl v1)]) dX7_loose_98 rfl (by first | rfl | (show _ + Int32.ofInt _ = _; rfl)) (by decide) rfl ?_
        refine G_goto (tgt := 40) dX7_loose_101 (by decide) ?_
        refine G_sub [(0, .inr (.inr (7, 0))), (1, .inl v1), (2, .inl (v2 + 1))] [2, 3, 0] rfl ?_
        exact ih v1 (v2 + 1) q6 _  h K

def X7_loose (v1 : Int32) (M : Mem) : Option (Int32 × Mem) := (if v1 < 1 then ((X7_fail 1 M).bind fun q1 => (some (q1.1, q1.2))) else (if 40 < v1 then ((X7_fail 1 M).bind fun q10 => (some (q10.1, q10.2))) else (if 9999 < ((M 1 0 6) + v1) then ((X7_fail 3 M).bind fun q9 => (some (q9.1, q9.2))) else ((X7_loose_L40 400 v1 0 M).bind fun q7 => ((X1_allHandles 0 q7).bind fun q8 => (some (q8, q7)))))))
set_option maxRecDepth 100000 in
set_option maxHeartbeats 4000000 in
theorem X7_loose_ok  {v1 : Int32} {M N : Mem} {res : Int32 × Mem} (h : X7_loose v1 M = some res) : Spec mt_X7_loose 5 [.inr (.inr (7, 0)), .inl v1] (M, N) (some (.inl res.1)) (res.2, N) := by
  unfold X7_loose at h
  refine Spec_of_G (by decide) rfl (Nat.le_of_ble_eq_true rfl) ?_
  refine G_sub [(0, .inr (.inr (7, 0))), (1, .inl v1)] [0, 1] rfl ?_
  refine G_iload_n dX7_loose_0 rfl ?_
  refine G_iconst (v := 1) dX7_loose_1 (by decide) ?_
  refine G_icmp_lt (tgt := 11) dX7_loose_2 (by decide) (fun hc1 => ?_) (fun hc1 => ?_)
  · replace h := (if_pos hc1).symm.trans h
    refine G_aload_n dX7_loose_11 rfl ?_
    refine G_iconst (v := 1) dX7_loose_12 (by decide) ?_
    obtain ⟨q1, hq1, h⟩ := bnd h
    refine G_callVv (T := TX7) (N := 10) (f := 7) (i := 0) (X7_fail_ok hq1) ok_X7_fail ml_X7_65 (by decide) rfl (by decide) (by decide) (by decide) rfl rfl (Nat.le_of_ble_eq_true rfl) dX7_loose_13 ?_
    obtain rfl := Option.some.inj h
    exact G_ret dX7_loose_16 trivial rfl rfl
  · replace h := (if_neg hc1).symm.trans h
    refine G_iload_n dX7_loose_5 rfl ?_
    refine G_bipush (v := 40) dX7_loose_6 (by decide) ?_
    refine G_icmp_le (tgt := 17) dX7_loose_8 (by decide) (fun hc2 => ?_) (fun hc2 => ?_)
    · replace h := (if_neg hc2).symm.trans h
      refine G_aload_n dX7_loose_17 rfl ?_
      refine fg_X7_10 rfl (by decide) dX7_loose_18 ?_
      refine fg_X7_176 (v := (M 1 0 6)) rfl rfl (by decide) dX7_loose_21 ?_
      refine G_iload_n dX7_loose_24 rfl ?_
      refine G_iadd dX7_loose_25 ?_
      refine G_sipush (v := 9999) dX7_loose_26 (by decide) ?_
      refine G_icmp_le (tgt := 38) dX7_loose_29 (by decide) (fun hc3 => ?_) (fun hc3 => ?_)
      · replace h := (if_neg hc3).symm.trans h
        refine G_iconst (v := 0) dX7_loose_38 (by decide) ?_
        refine G_istore_n (L2 := [(2, .inl 0), (0, .inr (.inr (7, 0))), (1, .inl v1)]) dX7_loose_39 (by decide) rfl ?_
        refine G_sub [(0, .inr (.inr (7, 0))), (1, .inl v1), (2, .inl 0)] [1, 2, 0] rfl ?_
        obtain ⟨q7, hq7, h⟩ := bnd h
        refine X7_loose_L40_ok  400 v1 0 M _  hq7 ?_
        refine G_aload_n dX7_loose_104 rfl ?_
        refine fg_X7_10 rfl (by decide) dX7_loose_105 ?_
        obtain ⟨q8, hq8, h⟩ := bnd h
        refine G_callVv (T := TX1) (N := 8) (f := 1) (i := 0) (X1_allHandles_ok (by decide) hq8) ok_X1_allHandles ml_X7_182 (by decide) rfl (by decide) (by decide) (by decide) rfl rfl (Nat.le_of_ble_eq_true rfl) dX7_loose_108 ?_
        obtain rfl := Option.some.inj h
        exact G_ret dX7_loose_111 trivial rfl rfl
      · replace h := (if_pos hc3).symm.trans h
        refine G_aload_n dX7_loose_32 rfl ?_
        refine G_iconst (v := 3) dX7_loose_33 (by decide) ?_
        obtain ⟨q9, hq9, h⟩ := bnd h
        refine G_callVv (T := TX7) (N := 10) (f := 7) (i := 0) (X7_fail_ok hq9) ok_X7_fail ml_X7_65 (by decide) rfl (by decide) (by decide) (by decide) rfl rfl (Nat.le_of_ble_eq_true rfl) dX7_loose_34 ?_
        obtain rfl := Option.some.inj h
        exact G_ret dX7_loose_37 trivial rfl rfl
    · replace h := (if_pos hc2).symm.trans h
      refine G_aload_n dX7_loose_11 rfl ?_
      refine G_iconst (v := 1) dX7_loose_12 (by decide) ?_
      obtain ⟨q10, hq10, h⟩ := bnd h
      refine G_callVv (T := TX7) (N := 10) (f := 7) (i := 0) (X7_fail_ok hq10) ok_X7_fail ml_X7_65 (by decide) rfl (by decide) (by decide) (by decide) rfl rfl (Nat.le_of_ble_eq_true rfl) dX7_loose_13 ?_
      obtain rfl := Option.some.inj h
      exact G_ret dX7_loose_16 trivial rfl rfl

theorem dX7_asNow_0 : decode cX7_asNow 0 = .ok (.aload_n 0, 1) := by decide +kernel
theorem dX7_asNow_1 : decode cX7_asNow 1 = .ok (.getfield 16, 3) := by decide +kernel
theorem dX7_asNow_4 : decode cX7_asNow 4 = .ok (.aload_n 0, 1) := by decide +kernel
theorem dX7_asNow_5 : decode cX7_asNow 5 = .ok (.getfield 10, 3) := by decide +kernel
theorem dX7_asNow_8 : decode cX7_asNow 8 = .ok (.invokevirtual 277, 3) := by decide +kernel
theorem dX7_asNow_11 : decode cX7_asNow 11 = .ok (.aload_n 0, 1) := by decide +kernel
theorem dX7_asNow_12 : decode cX7_asNow 12 = .ok (.getfield 16, 3) := by decide +kernel
theorem dX7_asNow_15 : decode cX7_asNow 15 = .ok (.areturn, 1) := by decide +kernel
def X7_asNow  (M : Mem) : Option (Nat × Mem) := ((X1_copy 1 0 M).bind fun q1 => (some (1, q1)))
set_option maxRecDepth 100000 in
set_option maxHeartbeats 4000000 in
theorem X7_asNow_ok  {M N : Mem} {res : Nat × Mem} (h : X7_asNow M = some res) : Spec mt_X7_asNow 3 [.inr (.inr (7, 0))] (M, N) (some (.inr (.inr (1, res.1)))) (res.2, N) := by
  unfold X7_asNow at h
  refine Spec_of_G (by decide) rfl (Nat.le_of_ble_eq_true rfl) ?_
  refine G_sub [(0, .inr (.inr (7, 0)))] [0] rfl ?_
  refine G_aload_n dX7_asNow_0 rfl ?_
  refine fg_X7_16 rfl (by decide) dX7_asNow_1 ?_
  refine G_aload_n dX7_asNow_4 rfl ?_
  refine fg_X7_10 rfl (by decide) dX7_asNow_5 ?_
  obtain ⟨q1, hq1, h⟩ := bnd h
  refine G_callVn (T := TX1) (N := 8) (f := 1) (i := 1) (X1_copy_ok (by decide) (by decide) hq1) ok_X1_copy ml_X7_277 (by decide) rfl (by decide) (by decide) (by decide) rfl rfl (Nat.le_of_ble_eq_true rfl) dX7_asNow_8 ?_
  refine G_aload_n dX7_asNow_11 rfl ?_
  refine fg_X7_16 rfl (by decide) dX7_asNow_12 ?_
  obtain rfl := Option.some.inj h
  exact G_ret dX7_asNow_15 trivial rfl rfl

theorem dX7_behind_0 : decode cX7_behind 0 = .ok (.aload_n 0, 1) := by decide +kernel
theorem dX7_behind_1 : decode cX7_behind 1 = .ok (.invokevirtual 192, 3) := by decide +kernel
theorem dX7_behind_4 : decode cX7_behind 4 = .ok (.astore_n 2, 1) := by decide +kernel
theorem dX7_behind_5 : decode cX7_behind 5 = .ok (.aload_n 2, 1) := by decide +kernel
theorem dX7_behind_6 : decode cX7_behind 6 = .ok (.iload_n 1, 1) := by decide +kernel
theorem dX7_behind_7 : decode cX7_behind 7 = .ok (.invokevirtual 179, 3) := by decide +kernel
theorem dX7_behind_10 : decode cX7_behind 10 = .ok (.aload_n 2, 1) := by decide +kernel
theorem dX7_behind_11 : decode cX7_behind 11 = .ok (.areturn, 1) := by decide +kernel
def X7_behind (v1 : Int32) (M : Mem) : Option (Nat × Mem) := ((X7_asNow M).bind fun q1 => (if q1.1 < 3 then ((X1_passYears q1.1 v1 q1.2).bind fun q2 => (some (q1.1, q2))) else none))
set_option maxRecDepth 100000 in
set_option maxHeartbeats 4000000 in
theorem X7_behind_ok  {v1 : Int32} {M N : Mem} {res : Nat × Mem} (h : X7_behind v1 M = some res) : Spec mt_X7_behind 5 [.inr (.inr (7, 0)), .inl v1] (M, N) (some (.inr (.inr (1, res.1)))) (res.2, N) := by
  unfold X7_behind at h
  refine Spec_of_G (by decide) rfl (Nat.le_of_ble_eq_true rfl) ?_
  refine G_sub [(0, .inr (.inr (7, 0))), (1, .inl v1)] [0, 1] rfl ?_
  refine G_aload_n dX7_behind_0 rfl ?_
  obtain ⟨q1, hq1, h⟩ := bnd h
  refine G_callVv (T := TX7) (N := 10) (f := 7) (i := 0) (X7_asNow_ok hq1) ok_X7_asNow ml_X7_192 (by decide) rfl (by decide) (by decide) (by decide) rfl rfl (Nat.le_of_ble_eq_true rfl) dX7_behind_1 ?_
  obtain ⟨lq1, h⟩ := chk h
  refine G_astore_n (L2 := [(2, .inr (.inr (1, q1.1))), (0, .inr (.inr (7, 0))), (1, .inl v1)]) dX7_behind_4 (by decide) rfl ?_
  refine G_aload_n dX7_behind_5 rfl ?_
  refine G_iload_n dX7_behind_6 rfl ?_
  obtain ⟨q2, hq2, h⟩ := bnd h
  refine G_callVn (T := TX1) (N := 8) (f := 1) (i := q1.1) (X1_passYears_ok (by omega) hq2) ok_X1_passYears ml_X7_179 (by decide) rfl (by decide) (show q1.1 < 3 from (by omega)) (by decide) rfl rfl (Nat.le_of_ble_eq_true rfl) dX7_behind_7 ?_
  refine G_aload_n dX7_behind_10 rfl ?_
  obtain rfl := Option.some.inj h
  exact G_ret dX7_behind_11 trivial rfl rfl

theorem dX7_then_0 : decode cX7_then 0 = .ok (.iload_n 1, 1) := by decide +kernel
theorem dX7_then_1 : decode cX7_then 1 = .ok (.bipush 60, 2) := by decide +kernel
theorem dX7_then_3 : decode cX7_then 3 = .ok (.invokestatic 61, 3) := by decide +kernel
theorem dX7_then_6 : decode cX7_then 6 = .ok (.ifCond .eq 22, 3) := by decide +kernel
theorem dX7_then_9 : decode cX7_then 9 = .ok (.aload_n 0, 1) := by decide +kernel
theorem dX7_then_10 : decode cX7_then 10 = .ok (.getfield 10, 3) := by decide +kernel
theorem dX7_then_13 : decode cX7_then 13 = .ok (.iload_n 2, 1) := by decide +kernel
theorem dX7_then_14 : decode cX7_then 14 = .ok (.invokevirtual 95, 3) := by decide +kernel
theorem dX7_then_17 : decode cX7_then 17 = .ok (.ifCond .eq 11, 3) := by decide +kernel
theorem dX7_then_20 : decode cX7_then 20 = .ok (.iload_n 3, 1) := by decide +kernel
theorem dX7_then_21 : decode cX7_then 21 = .ok (.iconst 2, 1) := by decide +kernel
theorem dX7_then_22 : decode cX7_then 22 = .ok (.invokestatic 61, 3) := by decide +kernel
theorem dX7_then_25 : decode cX7_then 25 = .ok (.ifCond .ne 9, 3) := by decide +kernel
theorem dX7_then_28 : decode cX7_then 28 = .ok (.aload_n 0, 1) := by decide +kernel
theorem dX7_then_29 : decode cX7_then 29 = .ok (.iconst 1, 1) := by decide +kernel
theorem dX7_then_30 : decode cX7_then 30 = .ok (.invokevirtual 65, 3) := by decide +kernel
theorem dX7_then_33 : decode cX7_then 33 = .ok (.ireturn, 1) := by decide +kernel
theorem dX7_then_34 : decode cX7_then 34 = .ok (.aload_n 0, 1) := by decide +kernel
theorem dX7_then_35 : decode cX7_then 35 = .ok (.iload_n 1, 1) := by decide +kernel
theorem dX7_then_36 : decode cX7_then 36 = .ok (.invokevirtual 188, 3) := by decide +kernel
theorem dX7_then_39 : decode cX7_then 39 = .ok (.getfield 85, 3) := by decide +kernel
theorem dX7_then_42 : decode cX7_then 42 = .ok (.iload_n 2, 1) := by decide +kernel
theorem dX7_then_43 : decode cX7_then 43 = .ok (.aaload, 1) := by decide +kernel
theorem dX7_then_44 : decode cX7_then 44 = .ok (.astore 4, 2) := by decide +kernel
theorem dX7_then_46 : decode cX7_then 46 = .ok (.iload_n 3, 1) := by decide +kernel
theorem dX7_then_47 : decode cX7_then 47 = .ok (.ifCond .ne 9, 3) := by decide +kernel
theorem dX7_then_50 : decode cX7_then 50 = .ok (.aload 4, 2) := by decide +kernel
theorem dX7_then_52 : decode cX7_then 52 = .ok (.getfield 110, 3) := by decide +kernel
theorem dX7_then_55 : decode cX7_then 55 = .ok (.ireturn, 1) := by decide +kernel
theorem dX7_then_56 : decode cX7_then 56 = .ok (.iload_n 3, 1) := by decide +kernel
theorem dX7_then_57 : decode cX7_then 57 = .ok (.iconst 1, 1) := by decide +kernel
theorem dX7_then_58 : decode cX7_then 58 = .ok (.if_icmp .ne 11, 3) := by decide +kernel
theorem dX7_then_61 : decode cX7_then 61 = .ok (.aload 4, 2) := by decide +kernel
theorem dX7_then_63 : decode cX7_then 63 = .ok (.getfield 116, 3) := by decide +kernel
theorem dX7_then_66 : decode cX7_then 66 = .ok (.goto 8, 3) := by decide +kernel
theorem dX7_then_69 : decode cX7_then 69 = .ok (.aload 4, 2) := by decide +kernel
theorem dX7_then_71 : decode cX7_then 71 = .ok (.getfield 104, 3) := by decide +kernel
theorem dX7_then_74 : decode cX7_then 74 = .ok (.ireturn, 1) := by decide +kernel
def X7_then (v1 : Int32) (v2 : Int32) (v3 : Int32) (M : Mem) : Option (Int32 × Mem) := (if (X7_isWithin v1 60) = 0 then ((X7_fail 1 M).bind fun q1 => (some (q1.1, q1.2))) else (if (X1_has 0 v2 M) = 0 then ((X7_fail 1 M).bind fun q2 => (some (q2.1, q2.2))) else (if (X7_isWithin v3 2) = 0 then ((X7_fail 1 M).bind fun q5 => (some (q5.1, q5.2))) else ((X7_behind v1 M).bind fun q3 => (if q3.1 < 3 then (if ib v2 10 = true then (if v3 = 0 then (some ((q3.2 3 (10 * q3.1 + v2.toNatClampNeg) 4), q3.2)) else (if v3 = 1 then (some ((q3.2 3 (10 * q3.1 + v2.toNatClampNeg) 6), q3.2)) else (some ((q3.2 3 (10 * q3.1 + v2.toNatClampNeg) 2), q3.2)))) else none) else none)))))
set_option maxRecDepth 100000 in
set_option maxHeartbeats 4000000 in
theorem X7_then_ok  {v1 : Int32} {v2 : Int32} {v3 : Int32} {M N : Mem} {res : Int32 × Mem} (h : X7_then v1 v2 v3 M = some res) : Spec mt_X7_then 6 [.inr (.inr (7, 0)), .inl v1, .inl v2, .inl v3] (M, N) (some (.inl res.1)) (res.2, N) := by
  unfold X7_then at h
  refine Spec_of_G (by decide) rfl (Nat.le_of_ble_eq_true rfl) ?_
  refine G_sub [(0, .inr (.inr (7, 0))), (1, .inl v1), (2, .inl v2), (3, .inl v3)] [0, 1, 2, 3] rfl ?_
  refine G_iload_n dX7_then_0 rfl ?_
  refine G_bipush (v := 60) dX7_then_1 (by decide) ?_
  refine G_callSv  (X7_isWithin_ok rfl) ok_X7_isWithin ml_X7_61 (by decide) rfl rfl (Nat.le_of_ble_eq_true rfl) dX7_then_3 ?_
  refine G_if_eq (tgt := 28) dX7_then_6 (by decide) (fun hc1 => ?_) (fun hc1 => ?_)
  · replace h := (if_pos hc1).symm.trans h
    refine G_aload_n dX7_then_28 rfl ?_
    refine G_iconst (v := 1) dX7_then_29 (by decide) ?_
    obtain ⟨q1, hq1, h⟩ := bnd h
    refine G_callVv (T := TX7) (N := 10) (f := 7) (i := 0) (X7_fail_ok hq1) ok_X7_fail ml_X7_65 (by decide) rfl (by decide) (by decide) (by decide) rfl rfl (Nat.le_of_ble_eq_true rfl) dX7_then_30 ?_
    obtain rfl := Option.some.inj h
    exact G_ret dX7_then_33 trivial rfl rfl
  · replace h := (if_neg hc1).symm.trans h
    refine G_aload_n dX7_then_9 rfl ?_
    refine fg_X7_10 rfl (by decide) dX7_then_10 ?_
    refine G_iload_n dX7_then_13 rfl ?_
    refine G_callVv (T := TX1) (N := 8) (f := 1) (i := 0) (X1_has_ok (by decide) rfl) ok_X1_has ml_X7_95 (by decide) rfl (by decide) (by decide) (by decide) rfl rfl (Nat.le_of_ble_eq_true rfl) dX7_then_14 ?_
    refine G_if_eq (tgt := 28) dX7_then_17 (by decide) (fun hc2 => ?_) (fun hc2 => ?_)
    · replace h := (if_pos hc2).symm.trans h
      refine G_aload_n dX7_then_28 rfl ?_
      refine G_iconst (v := 1) dX7_then_29 (by decide) ?_
      obtain ⟨q2, hq2, h⟩ := bnd h
      refine G_callVv (T := TX7) (N := 10) (f := 7) (i := 0) (X7_fail_ok hq2) ok_X7_fail ml_X7_65 (by decide) rfl (by decide) (by decide) (by decide) rfl rfl (Nat.le_of_ble_eq_true rfl) dX7_then_30 ?_
      obtain rfl := Option.some.inj h
      exact G_ret dX7_then_33 trivial rfl rfl
    · replace h := (if_neg hc2).symm.trans h
      refine G_iload_n dX7_then_20 rfl ?_
      refine G_iconst (v := 2) dX7_then_21 (by decide) ?_
      refine G_callSv  (X7_isWithin_ok rfl) ok_X7_isWithin ml_X7_61 (by decide) rfl rfl (Nat.le_of_ble_eq_true rfl) dX7_then_22 ?_
      refine G_if_ne (tgt := 34) dX7_then_25 (by decide) (fun hc3 => ?_) (fun hc3 => ?_)
      · replace h := (if_neg hc3).symm.trans h
        refine G_aload_n dX7_then_34 rfl ?_
        refine G_iload_n dX7_then_35 rfl ?_
        obtain ⟨q3, hq3, h⟩ := bnd h
        refine G_callVv (T := TX7) (N := 10) (f := 7) (i := 0) (X7_behind_ok hq3) ok_X7_behind ml_X7_188 (by decide) rfl (by decide) (by decide) (by decide) rfl rfl (Nat.le_of_ble_eq_true rfl) dX7_then_36 ?_
        obtain ⟨lq3, h⟩ := chk h
        refine fg_X7_85 rfl (by omega) dX7_then_39 ?_
        refine G_iload_n dX7_then_42 rfl ?_
        obtain ⟨hb4, h⟩ := chk h
        have lhb4 := ib_lt hb4
        refine G_aald3 (by decide) (show q3.1 < 3 from (by omega)) (by decide) rfl hb4 dX7_then_43 ?_
        refine G_astore (L2 := [(4, .inr (.inr (3, (10 * q3.1 + v2.toNatClampNeg)))), (0, .inr (.inr (7, 0))), (1, .inl v1), (2, .inl v2), (3, .inl v3)]) dX7_then_44 (by decide) rfl ?_
        refine G_iload_n dX7_then_46 rfl ?_
        refine G_if_ne (tgt := 56) dX7_then_47 (by decide) (fun hc4 => ?_) (fun hc4 => ?_)
        · replace h := (if_neg hc4).symm.trans h
          refine G_iload_n dX7_then_56 rfl ?_
          refine G_iconst (v := 1) dX7_then_57 (by decide) ?_
          refine G_icmp_ne (tgt := 69) dX7_then_58 (by decide) (fun hc5 => ?_) (fun hc5 => ?_)
          · replace h := (if_neg hc5).symm.trans h
            refine G_aload dX7_then_69 rfl ?_
            refine fg_X7_104 (v := (q3.2 3 (10 * q3.1 + v2.toNatClampNeg) 2)) rfl rfl (by omega) dX7_then_71 ?_
            obtain rfl := Option.some.inj h
            exact G_ret dX7_then_74 trivial rfl rfl
          · replace h := (if_pos hc5).symm.trans h
            refine G_aload dX7_then_61 rfl ?_
            refine fg_X7_116 (v := (q3.2 3 (10 * q3.1 + v2.toNatClampNeg) 6)) rfl rfl (by omega) dX7_then_63 ?_
            refine G_goto (tgt := 74) dX7_then_66 (by decide) ?_
            obtain rfl := Option.some.inj h
            exact G_ret dX7_then_74 trivial rfl rfl
        · replace h := (if_pos hc4).symm.trans h
          refine G_aload dX7_then_50 rfl ?_
          refine fg_X7_110 (v := (q3.2 3 (10 * q3.1 + v2.toNatClampNeg) 4)) rfl rfl (by omega) dX7_then_52 ?_
          obtain rfl := Option.some.inj h
          exact G_ret dX7_then_55 trivial rfl rfl
      · replace h := (if_pos hc3).symm.trans h
        refine G_aload_n dX7_then_28 rfl ?_
        refine G_iconst (v := 1) dX7_then_29 (by decide) ?_
        obtain ⟨q5, hq5, h⟩ := bnd h
        refine G_callVv (T := TX7) (N := 10) (f := 7) (i := 0) (X7_fail_ok hq5) ok_X7_fail ml_X7_65 (by decide) rfl (by decide) (by decide) (by decide) rfl rfl (Nat.le_of_ble_eq_true rfl) dX7_then_30 ?_
        obtain rfl := Option.some.inj h
        exact G_ret dX7_then_33 trivial rfl rfl

theorem dX7_when_0 : decode cX7_when 0 = .ok (.aload_n 0, 1) := by decide +kernel
theorem dX7_when_1 : decode cX7_when 1 = .ok (.getfield 10, 3) := by decide +kernel
theorem dX7_when_4 : decode cX7_when 4 = .ok (.iload_n 1, 1) := by decide +kernel
theorem dX7_when_5 : decode cX7_when 5 = .ok (.invokevirtual 95, 3) := by decide +kernel
theorem dX7_when_8 : decode cX7_when 8 = .ok (.ifCond .ne 9, 3) := by decide +kernel
theorem dX7_when_11 : decode cX7_when 11 = .ok (.aload_n 0, 1) := by decide +kernel
theorem dX7_when_12 : decode cX7_when 12 = .ok (.iconst 1, 1) := by decide +kernel
theorem dX7_when_13 : decode cX7_when 13 = .ok (.invokevirtual 65, 3) := by decide +kernel
theorem dX7_when_16 : decode cX7_when 16 = .ok (.ireturn, 1) := by decide +kernel
theorem dX7_when_17 : decode cX7_when 17 = .ok (.aload_n 0, 1) := by decide +kernel
theorem dX7_when_18 : decode cX7_when 18 = .ok (.invokevirtual 192, 3) := by decide +kernel
theorem dX7_when_21 : decode cX7_when 21 = .ok (.astore_n 2, 1) := by decide +kernel
theorem dX7_when_22 : decode cX7_when 22 = .ok (.aload_n 0, 1) := by decide +kernel
theorem dX7_when_23 : decode cX7_when 23 = .ok (.getfield 10, 3) := by decide +kernel
theorem dX7_when_26 : decode cX7_when 26 = .ok (.getfield 85, 3) := by decide +kernel
theorem dX7_when_29 : decode cX7_when 29 = .ok (.iload_n 1, 1) := by decide +kernel
theorem dX7_when_30 : decode cX7_when 30 = .ok (.aaload, 1) := by decide +kernel
theorem dX7_when_31 : decode cX7_when 31 = .ok (.getfield 116, 3) := by decide +kernel
theorem dX7_when_34 : decode cX7_when 34 = .ok (.istore_n 3, 1) := by decide +kernel
theorem dX7_when_35 : decode cX7_when 35 = .ok (.iconst 1, 1) := by decide +kernel
theorem dX7_when_36 : decode cX7_when 36 = .ok (.istore 4, 2) := by decide +kernel
theorem dX7_when_38 : decode cX7_when 38 = .ok (.iload 4, 2) := by decide +kernel
theorem dX7_when_40 : decode cX7_when 40 = .ok (.bipush 60, 2) := by decide +kernel
theorem dX7_when_42 : decode cX7_when 42 = .ok (.if_icmp .gt 30, 3) := by decide +kernel
theorem dX7_when_45 : decode cX7_when 45 = .ok (.aload_n 2, 1) := by decide +kernel
theorem dX7_when_46 : decode cX7_when 46 = .ok (.iconst 1, 1) := by decide +kernel
theorem dX7_when_47 : decode cX7_when 47 = .ok (.invokevirtual 179, 3) := by decide +kernel
theorem dX7_when_50 : decode cX7_when 50 = .ok (.aload_n 2, 1) := by decide +kernel
theorem dX7_when_51 : decode cX7_when 51 = .ok (.getfield 85, 3) := by decide +kernel
theorem dX7_when_54 : decode cX7_when 54 = .ok (.iload_n 1, 1) := by decide +kernel
theorem dX7_when_55 : decode cX7_when 55 = .ok (.aaload, 1) := by decide +kernel
theorem dX7_when_56 : decode cX7_when 56 = .ok (.getfield 116, 3) := by decide +kernel
theorem dX7_when_59 : decode cX7_when 59 = .ok (.iload_n 3, 1) := by decide +kernel
theorem dX7_when_60 : decode cX7_when 60 = .ok (.if_icmp .le 6, 3) := by decide +kernel
theorem dX7_when_63 : decode cX7_when 63 = .ok (.iload 4, 2) := by decide +kernel
theorem dX7_when_65 : decode cX7_when 65 = .ok (.ireturn, 1) := by decide +kernel
theorem dX7_when_66 : decode cX7_when 66 = .ok (.iinc 4 1, 3) := by decide +kernel
theorem dX7_when_69 : decode cX7_when 69 = .ok (.goto (-31), 3) := by decide +kernel
theorem dX7_when_72 : decode cX7_when 72 = .ok (.aload_n 0, 1) := by decide +kernel
theorem dX7_when_73 : decode cX7_when 73 = .ok (.iconst 2, 1) := by decide +kernel
theorem dX7_when_74 : decode cX7_when 74 = .ok (.invokevirtual 65, 3) := by decide +kernel
theorem dX7_when_77 : decode cX7_when 77 = .ok (.ireturn, 1) := by decide +kernel
def X7_when_L38 : Nat → Int32 → Nat → Int32 → Int32 → Mem → Option (Mem ⊕ (Int32 × Mem))
  | 0, _, _, _, _, _ => none
  | fu + 1, v1, i2, v3, v4, M => (if 60 < v4 then (some (.inl M)) else ((X1_passYears i2 1 M).bind fun q3 => (if ib v1 10 = true then (if v3 < (q3 3 (10 * i2 + v1.toNatClampNeg) 6) then (some (.inr (v4, q3))) else (X7_when_L38 fu v1 i2 v3 (v4 + 1) q3)) else none)))
set_option maxRecDepth 100000 in
set_option maxHeartbeats 4000000 in
theorem X7_when_L38_ok  {r : Option AV} {M' : MM} : ∀ (fu : Nat) (v1 : Int32) (i2 : Nat) (v3 : Int32) (v4 : Int32) (M N : Mem) {res : (Mem) ⊕ (Int32 × Mem)} (hi2 : i2 < 3) (h : X7_when_L38 fu v1 i2 v3 v4 M = some res) (K : ∀ q, res = .inl q → G mt_X7_when 5 r M' 72 [(0, .inr (.inr (7, 0)))] [] (q, N)) (K2 : ∀ q, res = .inr q → r = (some (.inl q.1)) ∧ M' = (q.2, N)), G mt_X7_when 5 r M' 38 [(0, .inr (.inr (7, 0))), (1, .inl v1), (2, .inr (.inr (1, i2))), (3, .inl v3), (4, .inl v4)] [] (M, N) := by
  intro fu
  induction fu with
  | zero =>
    intro v1 i2 v3 v4 M N res hi2 h
    cases h
  | succ fu ih =>
    intro v1 i2 v3 v4 M N res hi2 h K K2
    replace h : (if 60 < v4 then (some (.inl M)) else ((X1_passYears i2 1 M).bind fun q3 => (if ib v1 10 = true then (if v3 < (q3 3 (10 * i2 + v1.toNatClampNeg) 6) then (some (.inr (v4, q3))) else (X7_when_L38 fu v1 i2 v3 (v4 + 1) q3)) else none))) = some res := h
    refine G_iload dX7_when_38 rfl ?_
    refine G_bipush (v := 60) dX7_when_40 (by decide) ?_
    refine G_icmp_gt (tgt := 72) dX7_when_42 (by decide) (fun hc4 => ?_) (fun hc4 => ?_)
    · replace h := (if_pos hc4).symm.trans h
      refine G_sub [(0, .inr (.inr (7, 0)))] [0] rfl ?_
      exact K _ (Option.some.inj h).symm
    · replace h := (if_neg hc4).symm.trans h
      refine G_aload_n dX7_when_45 rfl ?_
      refine G_iconst (v := 1) dX7_when_46 (by decide) ?_
      obtain ⟨q3, hq3, h⟩ := bnd h
      refine G_callVn (T := TX1) (N := 8) (f := 1) (i := i2) (X1_passYears_ok hi2 hq3) ok_X1_passYears ml_X7_179 (by decide) rfl (by decide) (show i2 < 3 from hi2) (by decide) rfl rfl (Nat.le_of_ble_eq_true rfl) dX7_when_47 ?_
      refine G_aload_n dX7_when_50 rfl ?_
      refine fg_X7_85 rfl hi2 dX7_when_51 ?_
      refine G_iload_n dX7_when_54 rfl ?_
      obtain ⟨hb4, h⟩ := chk h
      have lhb4 := ib_lt hb4
      refine G_aald3 (by decide) (show i2 < 3 from hi2) (by decide) rfl hb4 dX7_when_55 ?_
      refine fg_X7_116 (v := (q3 3 (10 * i2 + v1.toNatClampNeg) 6)) rfl rfl (by omega) dX7_when_56 ?_
      refine G_iload_n dX7_when_59 rfl ?_
      refine G_icmp_le (tgt := 66) dX7_when_60 (by decide) (fun hc5 => ?_) (fun hc5 => ?_)
      · replace h := (if_neg hc5).symm.trans h
        refine G_iinc (v := (v4 + 1)) (L2 := [(4, .inl (v4 + 1)), (0, .inr (.inr (7, 0))), (1, .inl v1), (2, .inr (.inr (1, i2))), (3, .inl v3)]) dX7_when_66 rfl (by first | rfl | (show _ + Int32.ofInt _ = _; rfl)) (by decide) rfl ?_
        refine G_goto (tgt := 38) dX7_when_69 (by decide) ?_
        refine G_sub [(0, .inr (.inr (7, 0))), (1, .inl v1), (2, .inr (.inr (1, i2))), (3, .inl v3), (4, .inl (v4 + 1))] [1, 2, 3, 4, 0] rfl ?_
        exact ih v1 i2 v3 (v4 + 1) q3 _ hi2 h K K2
      · replace h := (if_pos hc5).symm.trans h
        refine G_iload dX7_when_63 rfl ?_
        obtain ⟨e1, e2⟩ := K2 _ (Option.some.inj h).symm
        subst e1; subst e2
        exact G_ret dX7_when_65 trivial rfl rfl

def X7_when (v1 : Int32) (M : Mem) : Option (Int32 × Mem) := (if (X1_has 0 v1 M) = 0 then ((X7_fail 1 M).bind fun q7 => (some (q7.1, q7.2))) else ((X7_asNow M).bind fun q1 => (if q1.1 < 3 then (if ib v1 10 = true then ((X7_when_L38 400 v1 q1.1 (q1.2 3 (10 * 0 + v1.toNatClampNeg) 6) 1 q1.2).bind fun q5 => match q5 with
  | .inl q5 => ((X7_fail 2 q5).bind fun q6 => (some (q6.1, q6.2)))
  | .inr q5 => some q5) else none) else none)))
set_option maxRecDepth 100000 in
set_option maxHeartbeats 4000000 in
theorem X7_when_ok  {v1 : Int32} {M N : Mem} {res : Int32 × Mem} (h : X7_when v1 M = some res) : Spec mt_X7_when 5 [.inr (.inr (7, 0)), .inl v1] (M, N) (some (.inl res.1)) (res.2, N) := by
  unfold X7_when at h
  refine Spec_of_G (by decide) rfl (Nat.le_of_ble_eq_true rfl) ?_
  refine G_sub [(0, .inr (.inr (7, 0))), (1, .inl v1)] [0, 1] rfl ?_
  refine G_aload_n dX7_when_0 rfl ?_
  refine fg_X7_10 rfl (by decide) dX7_when_1 ?_
  refine G_iload_n dX7_when_4 rfl ?_
  refine G_callVv (T := TX1) (N := 8) (f := 1) (i := 0) (X1_has_ok (by decide) rfl) ok_X1_has ml_X7_95 (by decide) rfl (by decide) (by decide) (by decide) rfl rfl (Nat.le_of_ble_eq_true rfl) dX7_when_5 ?_
  refine G_if_ne (tgt := 17) dX7_when_8 (by decide) (fun hc1 => ?_) (fun hc1 => ?_)
  · replace h := (if_neg hc1).symm.trans h
    refine G_aload_n dX7_when_17 rfl ?_
    obtain ⟨q1, hq1, h⟩ := bnd h
    refine G_callVv (T := TX7) (N := 10) (f := 7) (i := 0) (X7_asNow_ok hq1) ok_X7_asNow ml_X7_192 (by decide) rfl (by decide) (by decide) (by decide) rfl rfl (Nat.le_of_ble_eq_true rfl) dX7_when_18 ?_
    obtain ⟨lq1, h⟩ := chk h
    refine G_astore_n (L2 := [(2, .inr (.inr (1, q1.1))), (0, .inr (.inr (7, 0))), (1, .inl v1)]) dX7_when_21 (by decide) rfl ?_
    refine G_aload_n dX7_when_22 rfl ?_
    refine fg_X7_10 rfl (by decide) dX7_when_23 ?_
    refine fg_X7_85 rfl (by decide) dX7_when_26 ?_
    refine G_iload_n dX7_when_29 rfl ?_
    obtain ⟨hb2, h⟩ := chk h
    have lhb2 := ib_lt hb2
    refine G_aald3 (by decide) (by decide) (by decide) rfl hb2 dX7_when_30 ?_
    refine fg_X7_116 (v := (q1.2 3 (10 * 0 + v1.toNatClampNeg) 6)) rfl rfl (by omega) dX7_when_31 ?_
    refine G_istore_n (L2 := [(3, .inl (q1.2 3 (10 * 0 + v1.toNatClampNeg) 6)), (2, .inr (.inr (1, q1.1))), (0, .inr (.inr (7, 0))), (1, .inl v1)]) dX7_when_34 (by decide) rfl ?_
    refine G_iconst (v := 1) dX7_when_35 (by decide) ?_
    refine G_istore (L2 := [(4, .inl 1), (3, .inl (q1.2 3 (10 * 0 + v1.toNatClampNeg) 6)), (2, .inr (.inr (1, q1.1))), (0, .inr (.inr (7, 0))), (1, .inl v1)]) dX7_when_36 (by decide) rfl ?_
    refine G_sub [(0, .inr (.inr (7, 0))), (1, .inl v1), (2, .inr (.inr (1, q1.1))), (3, .inl (q1.2 3 (10 * 0 + v1.toNatClampNeg) 6)), (4, .inl 1)] [3, 4, 2, 1, 0] rfl ?_
    obtain ⟨q5, hq5, h⟩ := bnd h
    refine X7_when_L38_ok  400 v1 q1.1 (q1.2 3 (10 * 0 + v1.toNatClampNeg) 6) 1 q1.2 _ (by omega) hq5 (fun q5n q5e => ?_) (fun q5n q5e => ?_)
    · subst q5e
      refine G_aload_n dX7_when_72 rfl ?_
      refine G_iconst (v := 2) dX7_when_73 (by decide) ?_
      obtain ⟨q6, hq6, h⟩ := bnd h
      refine G_callVv (T := TX7) (N := 10) (f := 7) (i := 0) (X7_fail_ok hq6) ok_X7_fail ml_X7_65 (by decide) rfl (by decide) (by decide) (by decide) rfl rfl (Nat.le_of_ble_eq_true rfl) dX7_when_74 ?_
      obtain rfl := Option.some.inj h
      exact G_ret dX7_when_77 trivial rfl rfl
    · subst q5e
      obtain rfl := Option.some.inj h
      exact ⟨rfl, rfl⟩
  · replace h := (if_pos hc1).symm.trans h
    refine G_aload_n dX7_when_11 rfl ?_
    refine G_iconst (v := 1) dX7_when_12 (by decide) ?_
    obtain ⟨q7, hq7, h⟩ := bnd h
    refine G_callVv (T := TX7) (N := 10) (f := 7) (i := 0) (X7_fail_ok hq7) ok_X7_fail ml_X7_65 (by decide) rfl (by decide) (by decide) (by decide) rfl rfl (Nat.le_of_ble_eq_true rfl) dX7_when_13 ?_
    obtain rfl := Option.some.inj h
    exact G_ret dX7_when_16 trivial rfl rfl

theorem dX7_shelf_0 : decode cX7_shelf 0 = .ok (.iload_n 1, 1) := by decide +kernel
theorem dX7_shelf_1 : decode cX7_shelf 1 = .ok (.invokestatic 57, 3) := by decide +kernel
theorem dX7_shelf_4 : decode cX7_shelf 4 = .ok (.ifCond .eq 12, 3) := by decide +kernel
theorem dX7_shelf_7 : decode cX7_shelf 7 = .ok (.iload_n 2, 1) := by decide +kernel
theorem dX7_shelf_8 : decode cX7_shelf 8 = .ok (.bipush 60, 2) := by decide +kernel
theorem dX7_shelf_10 : decode cX7_shelf 10 = .ok (.invokestatic 61, 3) := by decide +kernel
theorem dX7_shelf_13 : decode cX7_shelf 13 = .ok (.ifCond .ne 9, 3) := by decide +kernel
theorem dX7_shelf_16 : decode cX7_shelf 16 = .ok (.aload_n 0, 1) := by decide +kernel
theorem dX7_shelf_17 : decode cX7_shelf 17 = .ok (.iconst 1, 1) := by decide +kernel
theorem dX7_shelf_18 : decode cX7_shelf 18 = .ok (.invokevirtual 65, 3) := by decide +kernel
theorem dX7_shelf_21 : decode cX7_shelf 21 = .ok (.ireturn, 1) := by decide +kernel
theorem dX7_shelf_22 : decode cX7_shelf 22 = .ok (.aload_n 0, 1) := by decide +kernel
theorem dX7_shelf_23 : decode cX7_shelf 23 = .ok (.iload_n 2, 1) := by decide +kernel
theorem dX7_shelf_24 : decode cX7_shelf 24 = .ok (.invokevirtual 188, 3) := by decide +kernel
theorem dX7_shelf_27 : decode cX7_shelf 27 = .ok (.astore_n 3, 1) := by decide +kernel
theorem dX7_shelf_28 : decode cX7_shelf 28 = .ok (.aload_n 3, 1) := by decide +kernel
theorem dX7_shelf_29 : decode cX7_shelf 29 = .ok (.iload_n 1, 1) := by decide +kernel
theorem dX7_shelf_30 : decode cX7_shelf 30 = .ok (.invokevirtual 75, 3) := by decide +kernel
theorem dX7_shelf_33 : decode cX7_shelf 33 = .ok (.aload_n 3, 1) := by decide +kernel
theorem dX7_shelf_34 : decode cX7_shelf 34 = .ok (.invokevirtual 196, 3) := by decide +kernel
theorem dX7_shelf_37 : decode cX7_shelf 37 = .ok (.iand, 1) := by decide +kernel
theorem dX7_shelf_38 : decode cX7_shelf 38 = .ok (.ireturn, 1) := by decide +kernel
def X7_shelf (v1 : Int32) (v2 : Int32) (M : Mem) : Option (Int32 × Mem) := (if (X7_isHouse v1) = 0 then ((X7_fail 1 M).bind fun q1 => (some (q1.1, q1.2))) else (if (X7_isWithin v2 60) = 0 then ((X7_fail 1 M).bind fun q5 => (some (q5.1, q5.2))) else ((X7_behind v2 M).bind fun q2 => (if q2.1 < 3 then ((X1_potsIn q2.1 v1 q2.2).bind fun q3 => ((X1_potsWithHandle q2.1 q2.2).bind fun q4 => (some ((q3 &&& q4), q2.2)))) else none))))
set_option maxRecDepth 100000 in
set_option maxHeartbeats 4000000 in
theorem X7_shelf_ok  {v1 : Int32} {v2 : Int32} {M N : Mem} {res : Int32 × Mem} (h : X7_shelf v1 v2 M = some res) : Spec mt_X7_shelf 6 [.inr (.inr (7, 0)), .inl v1, .inl v2] (M, N) (some (.inl res.1)) (res.2, N) := by
  unfold X7_shelf at h
  refine Spec_of_G (by decide) rfl (Nat.le_of_ble_eq_true rfl) ?_
  refine G_sub [(0, .inr (.inr (7, 0))), (1, .inl v1), (2, .inl v2)] [0, 1, 2] rfl ?_
  refine G_iload_n dX7_shelf_0 rfl ?_
  refine G_callSv  (X7_isHouse_ok rfl) ok_X7_isHouse ml_X7_57 (by decide) rfl rfl (Nat.le_of_ble_eq_true rfl) dX7_shelf_1 ?_
  refine G_if_eq (tgt := 16) dX7_shelf_4 (by decide) (fun hc1 => ?_) (fun hc1 => ?_)
  · replace h := (if_pos hc1).symm.trans h
    refine G_aload_n dX7_shelf_16 rfl ?_
    refine G_iconst (v := 1) dX7_shelf_17 (by decide) ?_
    obtain ⟨q1, hq1, h⟩ := bnd h
    refine G_callVv (T := TX7) (N := 10) (f := 7) (i := 0) (X7_fail_ok hq1) ok_X7_fail ml_X7_65 (by decide) rfl (by decide) (by decide) (by decide) rfl rfl (Nat.le_of_ble_eq_true rfl) dX7_shelf_18 ?_
    obtain rfl := Option.some.inj h
    exact G_ret dX7_shelf_21 trivial rfl rfl
  · replace h := (if_neg hc1).symm.trans h
    refine G_iload_n dX7_shelf_7 rfl ?_
    refine G_bipush (v := 60) dX7_shelf_8 (by decide) ?_
    refine G_callSv  (X7_isWithin_ok rfl) ok_X7_isWithin ml_X7_61 (by decide) rfl rfl (Nat.le_of_ble_eq_true rfl) dX7_shelf_10 ?_
    refine G_if_ne (tgt := 22) dX7_shelf_13 (by decide) (fun hc2 => ?_) (fun hc2 => ?_)
    · replace h := (if_neg hc2).symm.trans h
      refine G_aload_n dX7_shelf_22 rfl ?_
      refine G_iload_n dX7_shelf_23 rfl ?_
      obtain ⟨q2, hq2, h⟩ := bnd h
      refine G_callVv (T := TX7) (N := 10) (f := 7) (i := 0) (X7_behind_ok hq2) ok_X7_behind ml_X7_188 (by decide) rfl (by decide) (by decide) (by decide) rfl rfl (Nat.le_of_ble_eq_true rfl) dX7_shelf_24 ?_
      obtain ⟨lq2, h⟩ := chk h
      refine G_astore_n (L2 := [(3, .inr (.inr (1, q2.1))), (0, .inr (.inr (7, 0))), (1, .inl v1), (2, .inl v2)]) dX7_shelf_27 (by decide) rfl ?_
      refine G_aload_n dX7_shelf_28 rfl ?_
      refine G_iload_n dX7_shelf_29 rfl ?_
      obtain ⟨q3, hq3, h⟩ := bnd h
      refine G_callVv (T := TX1) (N := 8) (f := 1) (i := q2.1) (X1_potsIn_ok (by omega) hq3) ok_X1_potsIn ml_X7_75 (by decide) rfl (by decide) (show q2.1 < 3 from (by omega)) (by decide) rfl rfl (Nat.le_of_ble_eq_true rfl) dX7_shelf_30 ?_
      refine G_aload_n dX7_shelf_33 rfl ?_
      obtain ⟨q4, hq4, h⟩ := bnd h
      refine G_callVv (T := TX1) (N := 8) (f := 1) (i := q2.1) (X1_potsWithHandle_ok (by omega) hq4) ok_X1_potsWithHandle ml_X7_196 (by decide) rfl (by decide) (show q2.1 < 3 from (by omega)) (by decide) rfl rfl (Nat.le_of_ble_eq_true rfl) dX7_shelf_34 ?_
      refine G_iand dX7_shelf_37 ?_
      obtain rfl := Option.some.inj h
      exact G_ret dX7_shelf_38 trivial rfl rfl
    · replace h := (if_pos hc2).symm.trans h
      refine G_aload_n dX7_shelf_16 rfl ?_
      refine G_iconst (v := 1) dX7_shelf_17 (by decide) ?_
      obtain ⟨q5, hq5, h⟩ := bnd h
      refine G_callVv (T := TX7) (N := 10) (f := 7) (i := 0) (X7_fail_ok hq5) ok_X7_fail ml_X7_65 (by decide) rfl (by decide) (by decide) (by decide) rfl rfl (Nat.le_of_ble_eq_true rfl) dX7_shelf_18 ?_
      obtain rfl := Option.some.inj h
      exact G_ret dX7_shelf_21 trivial rfl rfl

theorem dX7_whenMoved_0 : decode cX7_whenMoved 0 = .ok (.aload_n 0, 1) := by decide +kernel
theorem dX7_whenMoved_1 : decode cX7_whenMoved 1 = .ok (.invokevirtual 192, 3) := by decide +kernel
theorem dX7_whenMoved_4 : decode cX7_whenMoved 4 = .ok (.astore 4, 2) := by decide +kernel
theorem dX7_whenMoved_6 : decode cX7_whenMoved 6 = .ok (.aload 4, 2) := by decide +kernel
theorem dX7_whenMoved_8 : decode cX7_whenMoved 8 = .ok (.getfield 85, 3) := by decide +kernel
theorem dX7_whenMoved_11 : decode cX7_whenMoved 11 = .ok (.iload_n 1, 1) := by decide +kernel
theorem dX7_whenMoved_12 : decode cX7_whenMoved 12 = .ok (.aaload, 1) := by decide +kernel
theorem dX7_whenMoved_13 : decode cX7_whenMoved 13 = .ok (.astore 5, 2) := by decide +kernel
theorem dX7_whenMoved_15 : decode cX7_whenMoved 15 = .ok (.aload 5, 2) := by decide +kernel
theorem dX7_whenMoved_17 : decode cX7_whenMoved 17 = .ok (.getfield 104, 3) := by decide +kernel
theorem dX7_whenMoved_20 : decode cX7_whenMoved 20 = .ok (.iload_n 2, 1) := by decide +kernel
theorem dX7_whenMoved_21 : decode cX7_whenMoved 21 = .ok (.if_icmp .eq 9, 3) := by decide +kernel
theorem dX7_whenMoved_24 : decode cX7_whenMoved 24 = .ok (.aload 5, 2) := by decide +kernel
theorem dX7_whenMoved_26 : decode cX7_whenMoved 26 = .ok (.iload_n 2, 1) := by decide +kernel
theorem dX7_whenMoved_27 : decode cX7_whenMoved 27 = .ok (.invokevirtual 130, 3) := by decide +kernel
theorem dX7_whenMoved_30 : decode cX7_whenMoved 30 = .ok (.aload 4, 2) := by decide +kernel
theorem dX7_whenMoved_32 : decode cX7_whenMoved 32 = .ok (.iload_n 3, 1) := by decide +kernel
theorem dX7_whenMoved_33 : decode cX7_whenMoved 33 = .ok (.invokevirtual 179, 3) := by decide +kernel
theorem dX7_whenMoved_36 : decode cX7_whenMoved 36 = .ok (.aload 5, 2) := by decide +kernel
theorem dX7_whenMoved_38 : decode cX7_whenMoved 38 = .ok (.areturn, 1) := by decide +kernel
def X7_whenMoved_J30 (v3 : Int32) (i4 : Nat) (i5 : Nat) (M : Mem) : Option (Nat × Mem) := ((X1_passYears i4 v3 M).bind fun q3 => (some (i5, q3)))
set_option maxRecDepth 100000 in
set_option maxHeartbeats 4000000 in
theorem X7_whenMoved_J30_ok  {v3 : Int32} {i4 : Nat} {i5 : Nat} {M N : Mem} {res : Nat × Mem} (hi4 : i4 < 3) (hi5 : i5 < 30) (h : X7_whenMoved_J30 v3 i4 i5 M = some res) : G mt_X7_whenMoved 5 (some (.inr (.inr (3, res.1)))) (res.2, N) 30 [(3, .inl v3), (4, .inr (.inr (1, i4))), (5, .inr (.inr (3, i5)))] [] (M, N) := by
  unfold X7_whenMoved_J30 at h
  refine G_aload dX7_whenMoved_30 rfl ?_
  refine G_iload_n dX7_whenMoved_32 rfl ?_
  obtain ⟨q3, hq3, h⟩ := bnd h
  refine G_callVn (T := TX1) (N := 8) (f := 1) (i := i4) (X1_passYears_ok hi4 hq3) ok_X1_passYears ml_X7_179 (by decide) rfl (by decide) (show i4 < 3 from hi4) (by decide) rfl rfl (Nat.le_of_ble_eq_true rfl) dX7_whenMoved_33 ?_
  refine G_aload dX7_whenMoved_36 rfl ?_
  obtain rfl := Option.some.inj h
  exact G_ret dX7_whenMoved_38 trivial rfl rfl

def X7_whenMoved (v1 : Int32) (v2 : Int32) (v3 : Int32) (M : Mem) : Option (Nat × Mem) := ((X7_asNow M).bind fun q1 => (if q1.1 < 3 then (if ib v1 10 = true then (if (q1.2 3 (10 * q1.1 + v1.toNatClampNeg) 2) = v2 then (X7_whenMoved_J30 v3 q1.1 (10 * q1.1 + v1.toNatClampNeg) q1.2) else ((X3_goTo (10 * q1.1 + v1.toNatClampNeg) v2 q1.2).bind fun q4 => (X7_whenMoved_J30 v3 q1.1 (10 * q1.1 + v1.toNatClampNeg) q4))) else none) else none))
set_option maxRecDepth 100000 in
set_option maxHeartbeats 4000000 in
theorem X7_whenMoved_ok  {v1 : Int32} {v2 : Int32} {v3 : Int32} {M N : Mem} {res : Nat × Mem} (h : X7_whenMoved v1 v2 v3 M = some res) : Spec mt_X7_whenMoved 5 [.inr (.inr (7, 0)), .inl v1, .inl v2, .inl v3] (M, N) (some (.inr (.inr (3, res.1)))) (res.2, N) := by
  unfold X7_whenMoved at h
  refine Spec_of_G (by decide) rfl (Nat.le_of_ble_eq_true rfl) ?_
  refine G_sub [(0, .inr (.inr (7, 0))), (1, .inl v1), (2, .inl v2), (3, .inl v3)] [0, 1, 2, 3] rfl ?_
  refine G_aload_n dX7_whenMoved_0 rfl ?_
  obtain ⟨q1, hq1, h⟩ := bnd h
  refine G_callVv (T := TX7) (N := 10) (f := 7) (i := 0) (X7_asNow_ok hq1) ok_X7_asNow ml_X7_192 (by decide) rfl (by decide) (by decide) (by decide) rfl rfl (Nat.le_of_ble_eq_true rfl) dX7_whenMoved_1 ?_
  obtain ⟨lq1, h⟩ := chk h
  refine G_astore (L2 := [(4, .inr (.inr (1, q1.1))), (0, .inr (.inr (7, 0))), (1, .inl v1), (2, .inl v2), (3, .inl v3)]) dX7_whenMoved_4 (by decide) rfl ?_
  refine G_aload dX7_whenMoved_6 rfl ?_
  refine fg_X7_85 rfl (by omega) dX7_whenMoved_8 ?_
  refine G_iload_n dX7_whenMoved_11 rfl ?_
  obtain ⟨hb2, h⟩ := chk h
  have lhb2 := ib_lt hb2
  refine G_aald3 (by decide) (show q1.1 < 3 from (by omega)) (by decide) rfl hb2 dX7_whenMoved_12 ?_
  refine G_astore (L2 := [(5, .inr (.inr (3, (10 * q1.1 + v1.toNatClampNeg)))), (4, .inr (.inr (1, q1.1))), (0, .inr (.inr (7, 0))), (1, .inl v1), (2, .inl v2), (3, .inl v3)]) dX7_whenMoved_13 (by decide) rfl ?_
  refine G_aload dX7_whenMoved_15 rfl ?_
  refine fg_X7_104 (v := (q1.2 3 (10 * q1.1 + v1.toNatClampNeg) 2)) rfl rfl (by omega) dX7_whenMoved_17 ?_
  refine G_iload_n dX7_whenMoved_20 rfl ?_
  refine G_icmp_eq (tgt := 30) dX7_whenMoved_21 (by decide) (fun hc1 => ?_) (fun hc1 => ?_)
  · replace h := (if_pos hc1).symm.trans h
    refine G_sub [(3, .inl v3), (4, .inr (.inr (1, q1.1))), (5, .inr (.inr (3, (10 * q1.1 + v1.toNatClampNeg))))] [5, 1, 0] rfl ?_
    exact X7_whenMoved_J30_ok  (by omega) (by omega) h
  · replace h := (if_neg hc1).symm.trans h
    refine G_aload dX7_whenMoved_24 rfl ?_
    refine G_iload_n dX7_whenMoved_26 rfl ?_
    obtain ⟨q4, hq4, h⟩ := bnd h
    refine G_callVn (T := TX3) (N := 8) (f := 3) (i := (10 * q1.1 + v1.toNatClampNeg)) (X3_goTo_ok (by omega) hq4) ok_X3_goTo ml_X7_130 (by decide) rfl (by decide) (show (10 * q1.1 + v1.toNatClampNeg) < 30 from (by omega)) (by decide) rfl rfl (Nat.le_of_ble_eq_true rfl) dX7_whenMoved_27 ?_
    refine G_sub [(3, .inl v3), (4, .inr (.inr (1, q1.1))), (5, .inr (.inr (3, (10 * q1.1 + v1.toNatClampNeg))))] [5, 1, 0] rfl ?_
    exact X7_whenMoved_J30_ok  (by omega) (by omega) h

theorem dX7_place_0 : decode cX7_place 0 = .ok (.aload_n 0, 1) := by decide +kernel
theorem dX7_place_1 : decode cX7_place 1 = .ok (.getfield 10, 3) := by decide +kernel
theorem dX7_place_4 : decode cX7_place 4 = .ok (.iload_n 1, 1) := by decide +kernel
theorem dX7_place_5 : decode cX7_place 5 = .ok (.invokevirtual 95, 3) := by decide +kernel
theorem dX7_place_8 : decode cX7_place 8 = .ok (.ifCond .eq 20, 3) := by decide +kernel
theorem dX7_place_11 : decode cX7_place 11 = .ok (.iload_n 2, 1) := by decide +kernel
theorem dX7_place_12 : decode cX7_place 12 = .ok (.bipush 60, 2) := by decide +kernel
theorem dX7_place_14 : decode cX7_place 14 = .ok (.invokestatic 61, 3) := by decide +kernel
theorem dX7_place_17 : decode cX7_place 17 = .ok (.ifCond .eq 11, 3) := by decide +kernel
theorem dX7_place_20 : decode cX7_place 20 = .ok (.iload_n 3, 1) := by decide +kernel
theorem dX7_place_21 : decode cX7_place 21 = .ok (.iconst 1, 1) := by decide +kernel
theorem dX7_place_22 : decode cX7_place 22 = .ok (.invokestatic 61, 3) := by decide +kernel
theorem dX7_place_25 : decode cX7_place 25 = .ok (.ifCond .ne 9, 3) := by decide +kernel
theorem dX7_place_28 : decode cX7_place 28 = .ok (.aload_n 0, 1) := by decide +kernel
theorem dX7_place_29 : decode cX7_place 29 = .ok (.iconst 1, 1) := by decide +kernel
theorem dX7_place_30 : decode cX7_place 30 = .ok (.invokevirtual 65, 3) := by decide +kernel
theorem dX7_place_33 : decode cX7_place 33 = .ok (.ireturn, 1) := by decide +kernel
theorem dX7_place_34 : decode cX7_place 34 = .ok (.aload_n 0, 1) := by decide +kernel
theorem dX7_place_35 : decode cX7_place 35 = .ok (.getfield 10, 3) := by decide +kernel
theorem dX7_place_38 : decode cX7_place 38 = .ok (.getfield 85, 3) := by decide +kernel
theorem dX7_place_41 : decode cX7_place 41 = .ok (.iload_n 1, 1) := by decide +kernel
theorem dX7_place_42 : decode cX7_place 42 = .ok (.aaload, 1) := by decide +kernel
theorem dX7_place_43 : decode cX7_place 43 = .ok (.getfield 104, 3) := by decide +kernel
theorem dX7_place_46 : decode cX7_place 46 = .ok (.iconst (-1), 1) := by decide +kernel
theorem dX7_place_47 : decode cX7_place 47 = .ok (.if_icmp .ne 9, 3) := by decide +kernel
theorem dX7_place_50 : decode cX7_place 50 = .ok (.aload_n 0, 1) := by decide +kernel
theorem dX7_place_51 : decode cX7_place 51 = .ok (.iconst 3, 1) := by decide +kernel
theorem dX7_place_52 : decode cX7_place 52 = .ok (.invokevirtual 65, 3) := by decide +kernel
theorem dX7_place_55 : decode cX7_place 55 = .ok (.ireturn, 1) := by decide +kernel
theorem dX7_place_56 : decode cX7_place 56 = .ok (.iconst 0, 1) := by decide +kernel
theorem dX7_place_57 : decode cX7_place 57 = .ok (.istore 4, 2) := by decide +kernel
theorem dX7_place_59 : decode cX7_place 59 = .ok (.iconst (-1), 1) := by decide +kernel
theorem dX7_place_60 : decode cX7_place 60 = .ok (.istore 5, 2) := by decide +kernel
theorem dX7_place_62 : decode cX7_place 62 = .ok (.iconst (-1), 1) := by decide +kernel
theorem dX7_place_63 : decode cX7_place 63 = .ok (.istore 6, 2) := by decide +kernel
theorem dX7_place_65 : decode cX7_place 65 = .ok (.iconst 0, 1) := by decide +kernel
theorem dX7_place_66 : decode cX7_place 66 = .ok (.istore 7, 2) := by decide +kernel
theorem dX7_place_68 : decode cX7_place 68 = .ok (.iload 7, 2) := by decide +kernel
theorem dX7_place_70 : decode cX7_place 70 = .ok (.iconst 5, 1) := by decide +kernel
theorem dX7_place_71 : decode cX7_place 71 = .ok (.if_icmp .ge 67, 3) := by decide +kernel
theorem dX7_place_74 : decode cX7_place 74 = .ok (.aload_n 0, 1) := by decide +kernel
theorem dX7_place_75 : decode cX7_place 75 = .ok (.iload_n 1, 1) := by decide +kernel
theorem dX7_place_76 : decode cX7_place 76 = .ok (.iload 7, 2) := by decide +kernel
theorem dX7_place_78 : decode cX7_place 78 = .ok (.iload_n 2, 1) := by decide +kernel
theorem dX7_place_79 : decode cX7_place 79 = .ok (.invokevirtual 199, 3) := by decide +kernel
theorem dX7_place_82 : decode cX7_place 82 = .ok (.astore 8, 2) := by decide +kernel
theorem dX7_place_84 : decode cX7_place 84 = .ok (.aload 8, 2) := by decide +kernel
theorem dX7_place_86 : decode cX7_place 86 = .ok (.getfield 116, 3) := by decide +kernel
theorem dX7_place_89 : decode cX7_place 89 = .ok (.iload 5, 2) := by decide +kernel
theorem dX7_place_91 : decode cX7_place 91 = .ok (.if_icmp .gt 23, 3) := by decide +kernel
theorem dX7_place_94 : decode cX7_place 94 = .ok (.aload 8, 2) := by decide +kernel
theorem dX7_place_96 : decode cX7_place 96 = .ok (.getfield 116, 3) := by decide +kernel
theorem dX7_place_99 : decode cX7_place 99 = .ok (.iload 5, 2) := by decide +kernel
theorem dX7_place_101 : decode cX7_place 101 = .ok (.if_icmp .ne 31, 3) := by decide +kernel
theorem dX7_place_104 : decode cX7_place 104 = .ok (.aload 8, 2) := by decide +kernel
theorem dX7_place_106 : decode cX7_place 106 = .ok (.getfield 110, 3) := by decide +kernel
theorem dX7_place_109 : decode cX7_place 109 = .ok (.iload 6, 2) := by decide +kernel
theorem dX7_place_111 : decode cX7_place 111 = .ok (.if_icmp .le 21, 3) := by decide +kernel
theorem dX7_place_114 : decode cX7_place 114 = .ok (.iload 7, 2) := by decide +kernel
theorem dX7_place_116 : decode cX7_place 116 = .ok (.istore 4, 2) := by decide +kernel
theorem dX7_place_118 : decode cX7_place 118 = .ok (.aload 8, 2) := by decide +kernel
theorem dX7_place_120 : decode cX7_place 120 = .ok (.getfield 116, 3) := by decide +kernel
theorem dX7_place_123 : decode cX7_place 123 = .ok (.istore 5, 2) := by decide +kernel
theorem dX7_place_125 : decode cX7_place 125 = .ok (.aload 8, 2) := by decide +kernel
theorem dX7_place_127 : decode cX7_place 127 = .ok (.getfield 110, 3) := by decide +kernel
theorem dX7_place_130 : decode cX7_place 130 = .ok (.istore 6, 2) := by decide +kernel
theorem dX7_place_132 : decode cX7_place 132 = .ok (.iinc 7 1, 3) := by decide +kernel
theorem dX7_place_135 : decode cX7_place 135 = .ok (.goto (-67), 3) := by decide +kernel
theorem dX7_place_138 : decode cX7_place 138 = .ok (.iload_n 3, 1) := by decide +kernel
theorem dX7_place_139 : decode cX7_place 139 = .ok (.ifCond .ne 8, 3) := by decide +kernel
theorem dX7_place_142 : decode cX7_place 142 = .ok (.iload 4, 2) := by decide +kernel
theorem dX7_place_144 : decode cX7_place 144 = .ok (.goto 5, 3) := by decide +kernel
theorem dX7_place_147 : decode cX7_place 147 = .ok (.iload 5, 2) := by decide +kernel
theorem dX7_place_149 : decode cX7_place 149 = .ok (.ireturn, 1) := by decide +kernel
def X7_place_L68 : Nat → Int32 → Int32 → Int32 → Int32 → Int32 → Int32 → Int32 → Mem → Option (Int32 × Int32 × Mem)
  | 0, _, _, _, _, _, _, _, _ => none
  | fu + 1, v1, v2, v3, v4, v5, v6, v7, M => (if v7 < 5 then ((X7_whenMoved v1 v7 v2 M).bind fun q4 => (if q4.1 < 30 then (if v5 < (q4.2 3 q4.1 6) then (X7_place_L68 fu v1 v2 v3 v7 (q4.2 3 q4.1 6) (q4.2 3 q4.1 4) (v7 + 1) q4.2) else (if (q4.2 3 q4.1 6) = v5 then (if v6 < (q4.2 3 q4.1 4) then (X7_place_L68 fu v1 v2 v3 v7 (q4.2 3 q4.1 6) (q4.2 3 q4.1 4) (v7 + 1) q4.2) else (X7_place_L68 fu v1 v2 v3 v4 v5 v6 (v7 + 1) q4.2)) else (X7_place_L68 fu v1 v2 v3 v4 v5 v6 (v7 + 1) q4.2))) else none)) else (some (v4, v5, M)))
set_option maxRecDepth 100000 in
set_option maxHeartbeats 4000000 in
theorem X7_place_L68_ok  {r : Option AV} {M' : MM} : ∀ (fu : Nat) (v1 : Int32) (v2 : Int32) (v3 : Int32) (v4 : Int32) (v5 : Int32) (v6 : Int32) (v7 : Int32) (M N : Mem) {res : Int32 × Int32 × Mem} (h : X7_place_L68 fu v1 v2 v3 v4 v5 v6 v7 M = some res) (K : G mt_X7_place 6 r M' 138 [(3, .inl v3), (4, .inl res.1), (5, .inl res.2.1)] [] (res.2.2, N)), G mt_X7_place 6 r M' 68 [(0, .inr (.inr (7, 0))), (1, .inl v1), (2, .inl v2), (3, .inl v3), (4, .inl v4), (5, .inl v5), (6, .inl v6), (7, .inl v7)] [] (M, N) := by
  intro fu
  induction fu with
  | zero =>
    intro v1 v2 v3 v4 v5 v6 v7 M N res h
    cases h
  | succ fu ih =>
    intro v1 v2 v3 v4 v5 v6 v7 M N res h K
    replace h : (if v7 < 5 then ((X7_whenMoved v1 v7 v2 M).bind fun q4 => (if q4.1 < 30 then (if v5 < (q4.2 3 q4.1 6) then (X7_place_L68 fu v1 v2 v3 v7 (q4.2 3 q4.1 6) (q4.2 3 q4.1 4) (v7 + 1) q4.2) else (if (q4.2 3 q4.1 6) = v5 then (if v6 < (q4.2 3 q4.1 4) then (X7_place_L68 fu v1 v2 v3 v7 (q4.2 3 q4.1 6) (q4.2 3 q4.1 4) (v7 + 1) q4.2) else (X7_place_L68 fu v1 v2 v3 v4 v5 v6 (v7 + 1) q4.2)) else (X7_place_L68 fu v1 v2 v3 v4 v5 v6 (v7 + 1) q4.2))) else none)) else (some (v4, v5, M))) = some res := h
    refine G_iload dX7_place_68 rfl ?_
    refine G_iconst (v := 5) dX7_place_70 (by decide) ?_
    refine G_icmp_ge (tgt := 138) dX7_place_71 (by decide) (fun hc5 => ?_) (fun hc5 => ?_)
    · replace h := (if_neg hc5).symm.trans h
      refine G_sub [(3, .inl v3), (4, .inl v4), (5, .inl v5)] [3, 4, 5] rfl ?_
      obtain rfl := Option.some.inj h
      exact K
    · replace h := (if_pos hc5).symm.trans h
      refine G_aload_n dX7_place_74 rfl ?_
      refine G_iload_n dX7_place_75 rfl ?_
      refine G_iload dX7_place_76 rfl ?_
      refine G_iload_n dX7_place_78 rfl ?_
      obtain ⟨q4, hq4, h⟩ := bnd h
      refine G_callVv (T := TX7) (N := 10) (f := 7) (i := 0) (X7_whenMoved_ok hq4) ok_X7_whenMoved ml_X7_199 (by decide) rfl (by decide) (by decide) (by decide) rfl rfl (Nat.le_of_ble_eq_true rfl) dX7_place_79 ?_
      obtain ⟨lq4, h⟩ := chk h
      refine G_astore (L2 := [(8, .inr (.inr (3, q4.1))), (0, .inr (.inr (7, 0))), (1, .inl v1), (2, .inl v2), (3, .inl v3), (4, .inl v4), (5, .inl v5), (6, .inl v6), (7, .inl v7)]) dX7_place_82 (by decide) rfl ?_
      refine G_aload dX7_place_84 rfl ?_
      refine fg_X7_116 (v := (q4.2 3 q4.1 6)) rfl rfl (by omega) dX7_place_86 ?_
      refine G_iload dX7_place_89 rfl ?_
      refine G_icmp_gt (tgt := 114) dX7_place_91 (by decide) (fun hc6 => ?_) (fun hc6 => ?_)
      · replace h := (if_pos hc6).symm.trans h
        refine G_iload dX7_place_114 rfl ?_
        refine G_istore (L2 := [(4, .inl v7), (8, .inr (.inr (3, q4.1))), (0, .inr (.inr (7, 0))), (1, .inl v1), (2, .inl v2), (3, .inl v3), (5, .inl v5), (6, .inl v6), (7, .inl v7)]) dX7_place_116 (by decide) rfl ?_
        refine G_aload dX7_place_118 rfl ?_
        refine fg_X7_116 (v := (q4.2 3 q4.1 6)) rfl rfl (by omega) dX7_place_120 ?_
        refine G_istore (L2 := [(5, .inl (q4.2 3 q4.1 6)), (4, .inl v7), (8, .inr (.inr (3, q4.1))), (0, .inr (.inr (7, 0))), (1, .inl v1), (2, .inl v2), (3, .inl v3), (6, .inl v6), (7, .inl v7)]) dX7_place_123 (by decide) rfl ?_
        refine G_aload dX7_place_125 rfl ?_
        refine fg_X7_110 (v := (q4.2 3 q4.1 4)) rfl rfl (by omega) dX7_place_127 ?_
        refine G_istore (L2 := [(6, .inl (q4.2 3 q4.1 4)), (5, .inl (q4.2 3 q4.1 6)), (4, .inl v7), (8, .inr (.inr (3, q4.1))), (0, .inr (.inr (7, 0))), (1, .inl v1), (2, .inl v2), (3, .inl v3), (7, .inl v7)]) dX7_place_130 (by decide) rfl ?_
        refine G_iinc (v := (v7 + 1)) (L2 := [(7, .inl (v7 + 1)), (6, .inl (q4.2 3 q4.1 4)), (5, .inl (q4.2 3 q4.1 6)), (4, .inl v7), (8, .inr (.inr (3, q4.1))), (0, .inr (.inr (7, 0))), (1, .inl v1), (2, .inl v2), (3, .inl v3)]) dX7_place_132 rfl (by first | rfl | (show _ + Int32.ofInt _ = _; rfl)) (by decide) rfl ?_
        refine G_goto (tgt := 68) dX7_place_135 (by decide) ?_
        refine G_sub [(0, .inr (.inr (7, 0))), (1, .inl v1), (2, .inl v2), (3, .inl v3), (4, .inl v7), (5, .inl (q4.2 3 q4.1 6)), (6, .inl (q4.2 3 q4.1 4)), (7, .inl (v7 + 1))] [5, 6, 7, 8, 3, 2, 1, 0] rfl ?_
        exact ih v1 v2 v3 v7 (q4.2 3 q4.1 6) (q4.2 3 q4.1 4) (v7 + 1) q4.2 _  h K
      · replace h := (if_neg hc6).symm.trans h
        refine G_aload dX7_place_94 rfl ?_
        refine fg_X7_116 (v := (q4.2 3 q4.1 6)) rfl rfl (by omega) dX7_place_96 ?_
        refine G_iload dX7_place_99 rfl ?_
        refine G_icmp_ne (tgt := 132) dX7_place_101 (by decide) (fun hc7 => ?_) (fun hc7 => ?_)
        · replace h := (if_neg hc7).symm.trans h
          refine G_iinc (v := (v7 + 1)) (L2 := [(7, .inl (v7 + 1)), (8, .inr (.inr (3, q4.1))), (0, .inr (.inr (7, 0))), (1, .inl v1), (2, .inl v2), (3, .inl v3), (4, .inl v4), (5, .inl v5), (6, .inl v6)]) dX7_place_132 rfl (by first | rfl | (show _ + Int32.ofInt _ = _; rfl)) (by decide) rfl ?_
          refine G_goto (tgt := 68) dX7_place_135 (by decide) ?_
          refine G_sub [(0, .inr (.inr (7, 0))), (1, .inl v1), (2, .inl v2), (3, .inl v3), (4, .inl v4), (5, .inl v5), (6, .inl v6), (7, .inl (v7 + 1))] [2, 3, 4, 5, 6, 7, 8, 0] rfl ?_
          exact ih v1 v2 v3 v4 v5 v6 (v7 + 1) q4.2 _  h K
        · replace h := (if_pos hc7).symm.trans h
          refine G_aload dX7_place_104 rfl ?_
          refine fg_X7_110 (v := (q4.2 3 q4.1 4)) rfl rfl (by omega) dX7_place_106 ?_
          refine G_iload dX7_place_109 rfl ?_
          refine G_icmp_le (tgt := 132) dX7_place_111 (by decide) (fun hc8 => ?_) (fun hc8 => ?_)
          · replace h := (if_neg hc8).symm.trans h
            refine G_iinc (v := (v7 + 1)) (L2 := [(7, .inl (v7 + 1)), (8, .inr (.inr (3, q4.1))), (0, .inr (.inr (7, 0))), (1, .inl v1), (2, .inl v2), (3, .inl v3), (4, .inl v4), (5, .inl v5), (6, .inl v6)]) dX7_place_132 rfl (by first | rfl | (show _ + Int32.ofInt _ = _; rfl)) (by decide) rfl ?_
            refine G_goto (tgt := 68) dX7_place_135 (by decide) ?_
            refine G_sub [(0, .inr (.inr (7, 0))), (1, .inl v1), (2, .inl v2), (3, .inl v3), (4, .inl v4), (5, .inl v5), (6, .inl v6), (7, .inl (v7 + 1))] [2, 3, 4, 5, 6, 7, 8, 0] rfl ?_
            exact ih v1 v2 v3 v4 v5 v6 (v7 + 1) q4.2 _  h K
          · replace h := (if_pos hc8).symm.trans h
            refine G_iload dX7_place_114 rfl ?_
            refine G_istore (L2 := [(4, .inl v7), (8, .inr (.inr (3, q4.1))), (0, .inr (.inr (7, 0))), (1, .inl v1), (2, .inl v2), (3, .inl v3), (5, .inl v5), (6, .inl v6), (7, .inl v7)]) dX7_place_116 (by decide) rfl ?_
            refine G_aload dX7_place_118 rfl ?_
            refine fg_X7_116 (v := (q4.2 3 q4.1 6)) rfl rfl (by omega) dX7_place_120 ?_
            refine G_istore (L2 := [(5, .inl (q4.2 3 q4.1 6)), (4, .inl v7), (8, .inr (.inr (3, q4.1))), (0, .inr (.inr (7, 0))), (1, .inl v1), (2, .inl v2), (3, .inl v3), (6, .inl v6), (7, .inl v7)]) dX7_place_123 (by decide) rfl ?_
            refine G_aload dX7_place_125 rfl ?_
            refine fg_X7_110 (v := (q4.2 3 q4.1 4)) rfl rfl (by omega) dX7_place_127 ?_
            refine G_istore (L2 := [(6, .inl (q4.2 3 q4.1 4)), (5, .inl (q4.2 3 q4.1 6)), (4, .inl v7), (8, .inr (.inr (3, q4.1))), (0, .inr (.inr (7, 0))), (1, .inl v1), (2, .inl v2), (3, .inl v3), (7, .inl v7)]) dX7_place_130 (by decide) rfl ?_
            refine G_iinc (v := (v7 + 1)) (L2 := [(7, .inl (v7 + 1)), (6, .inl (q4.2 3 q4.1 4)), (5, .inl (q4.2 3 q4.1 6)), (4, .inl v7), (8, .inr (.inr (3, q4.1))), (0, .inr (.inr (7, 0))), (1, .inl v1), (2, .inl v2), (3, .inl v3)]) dX7_place_132 rfl (by first | rfl | (show _ + Int32.ofInt _ = _; rfl)) (by decide) rfl ?_
            refine G_goto (tgt := 68) dX7_place_135 (by decide) ?_
            refine G_sub [(0, .inr (.inr (7, 0))), (1, .inl v1), (2, .inl v2), (3, .inl v3), (4, .inl v7), (5, .inl (q4.2 3 q4.1 6)), (6, .inl (q4.2 3 q4.1 4)), (7, .inl (v7 + 1))] [5, 6, 7, 8, 3, 2, 1, 0] rfl ?_
            exact ih v1 v2 v3 v7 (q4.2 3 q4.1 6) (q4.2 3 q4.1 4) (v7 + 1) q4.2 _  h K

def X7_place (v1 : Int32) (v2 : Int32) (v3 : Int32) (M : Mem) : Option (Int32 × Mem) := (if (X1_has 0 v1 M) = 0 then ((X7_fail 1 M).bind fun q1 => (some (q1.1, q1.2))) else (if (X7_isWithin v2 60) = 0 then ((X7_fail 1 M).bind fun q2 => (some (q2.1, q2.2))) else (if (X7_isWithin v3 1) = 0 then ((X7_fail 1 M).bind fun q7 => (some (q7.1, q7.2))) else (if ib v1 10 = true then (if (M 3 (10 * 0 + v1.toNatClampNeg) 2) = (-1) then ((X7_fail 3 M).bind fun q6 => (some (q6.1, q6.2))) else ((X7_place_L68 400 v1 v2 v3 0 (-1) (-1) 0 M).bind fun q5 => (if v3 = 0 then (some (q5.1, q5.2.2)) else (some (q5.2.1, q5.2.2))))) else none))))
set_option maxRecDepth 100000 in
set_option maxHeartbeats 4000000 in
theorem X7_place_ok  {v1 : Int32} {v2 : Int32} {v3 : Int32} {M N : Mem} {res : Int32 × Mem} (h : X7_place v1 v2 v3 M = some res) : Spec mt_X7_place 6 [.inr (.inr (7, 0)), .inl v1, .inl v2, .inl v3] (M, N) (some (.inl res.1)) (res.2, N) := by
  unfold X7_place at h
  refine Spec_of_G (by decide) rfl (Nat.le_of_ble_eq_true rfl) ?_
  refine G_sub [(0, .inr (.inr (7, 0))), (1, .inl v1), (2, .inl v2), (3, .inl v3)] [0, 1, 2, 3] rfl ?_
  refine G_aload_n dX7_place_0 rfl ?_
  refine fg_X7_10 rfl (by decide) dX7_place_1 ?_
  refine G_iload_n dX7_place_4 rfl ?_
  refine G_callVv (T := TX1) (N := 8) (f := 1) (i := 0) (X1_has_ok (by decide) rfl) ok_X1_has ml_X7_95 (by decide) rfl (by decide) (by decide) (by decide) rfl rfl (Nat.le_of_ble_eq_true rfl) dX7_place_5 ?_
  refine G_if_eq (tgt := 28) dX7_place_8 (by decide) (fun hc1 => ?_) (fun hc1 => ?_)
  · replace h := (if_pos hc1).symm.trans h
    refine G_aload_n dX7_place_28 rfl ?_
    refine G_iconst (v := 1) dX7_place_29 (by decide) ?_
    obtain ⟨q1, hq1, h⟩ := bnd h
    refine G_callVv (T := TX7) (N := 10) (f := 7) (i := 0) (X7_fail_ok hq1) ok_X7_fail ml_X7_65 (by decide) rfl (by decide) (by decide) (by decide) rfl rfl (Nat.le_of_ble_eq_true rfl) dX7_place_30 ?_
    obtain rfl := Option.some.inj h
    exact G_ret dX7_place_33 trivial rfl rfl
  · replace h := (if_neg hc1).symm.trans h
    refine G_iload_n dX7_place_11 rfl ?_
    refine G_bipush (v := 60) dX7_place_12 (by decide) ?_
    refine G_callSv  (X7_isWithin_ok rfl) ok_X7_isWithin ml_X7_61 (by decide) rfl rfl (Nat.le_of_ble_eq_true rfl) dX7_place_14 ?_
    refine G_if_eq (tgt := 28) dX7_place_17 (by decide) (fun hc2 => ?_) (fun hc2 => ?_)
    · replace h := (if_pos hc2).symm.trans h
      refine G_aload_n dX7_place_28 rfl ?_
      refine G_iconst (v := 1) dX7_place_29 (by decide) ?_
      obtain ⟨q2, hq2, h⟩ := bnd h
      refine G_callVv (T := TX7) (N := 10) (f := 7) (i := 0) (X7_fail_ok hq2) ok_X7_fail ml_X7_65 (by decide) rfl (by decide) (by decide) (by decide) rfl rfl (Nat.le_of_ble_eq_true rfl) dX7_place_30 ?_
      obtain rfl := Option.some.inj h
      exact G_ret dX7_place_33 trivial rfl rfl
    · replace h := (if_neg hc2).symm.trans h
      refine G_iload_n dX7_place_20 rfl ?_
      refine G_iconst (v := 1) dX7_place_21 (by decide) ?_
      refine G_callSv  (X7_isWithin_ok rfl) ok_X7_isWithin ml_X7_61 (by decide) rfl rfl (Nat.le_of_ble_eq_true rfl) dX7_place_22 ?_
      refine G_if_ne (tgt := 34) dX7_place_25 (by decide) (fun hc3 => ?_) (fun hc3 => ?_)
      · replace h := (if_neg hc3).symm.trans h
        refine G_aload_n dX7_place_34 rfl ?_
        refine fg_X7_10 rfl (by decide) dX7_place_35 ?_
        refine fg_X7_85 rfl (by decide) dX7_place_38 ?_
        refine G_iload_n dX7_place_41 rfl ?_
        obtain ⟨hb3, h⟩ := chk h
        have lhb3 := ib_lt hb3
        refine G_aald3 (by decide) (by decide) (by decide) rfl hb3 dX7_place_42 ?_
        refine fg_X7_104 (v := (M 3 (10 * 0 + v1.toNatClampNeg) 2)) rfl rfl (by omega) dX7_place_43 ?_
        refine G_iconst (v := (-1)) dX7_place_46 (by decide) ?_
        refine G_icmp_ne (tgt := 56) dX7_place_47 (by decide) (fun hc4 => ?_) (fun hc4 => ?_)
        · replace h := (if_neg hc4).symm.trans h
          refine G_iconst (v := 0) dX7_place_56 (by decide) ?_
          refine G_istore (L2 := [(4, .inl 0), (0, .inr (.inr (7, 0))), (1, .inl v1), (2, .inl v2), (3, .inl v3)]) dX7_place_57 (by decide) rfl ?_
          refine G_iconst (v := (-1)) dX7_place_59 (by decide) ?_
          refine G_istore (L2 := [(5, .inl (-1)), (4, .inl 0), (0, .inr (.inr (7, 0))), (1, .inl v1), (2, .inl v2), (3, .inl v3)]) dX7_place_60 (by decide) rfl ?_
          refine G_iconst (v := (-1)) dX7_place_62 (by decide) ?_
          refine G_istore (L2 := [(6, .inl (-1)), (5, .inl (-1)), (4, .inl 0), (0, .inr (.inr (7, 0))), (1, .inl v1), (2, .inl v2), (3, .inl v3)]) dX7_place_63 (by decide) rfl ?_
          refine G_iconst (v := 0) dX7_place_65 (by decide) ?_
          refine G_istore (L2 := [(7, .inl 0), (6, .inl (-1)), (5, .inl (-1)), (4, .inl 0), (0, .inr (.inr (7, 0))), (1, .inl v1), (2, .inl v2), (3, .inl v3)]) dX7_place_66 (by decide) rfl ?_
          refine G_sub [(0, .inr (.inr (7, 0))), (1, .inl v1), (2, .inl v2), (3, .inl v3), (4, .inl 0), (5, .inl (-1)), (6, .inl (-1)), (7, .inl 0)] [4, 5, 6, 7, 3, 2, 1, 0] rfl ?_
          obtain ⟨q5, hq5, h⟩ := bnd h
          refine X7_place_L68_ok  400 v1 v2 v3 0 (-1) (-1) 0 M _  hq5 ?_
          refine G_iload_n dX7_place_138 rfl ?_
          refine G_if_ne (tgt := 147) dX7_place_139 (by decide) (fun hc9 => ?_) (fun hc9 => ?_)
          · replace h := (if_neg hc9).symm.trans h
            refine G_iload dX7_place_147 rfl ?_
            obtain rfl := Option.some.inj h
            exact G_ret dX7_place_149 trivial rfl rfl
          · replace h := (if_pos hc9).symm.trans h
            refine G_iload dX7_place_142 rfl ?_
            refine G_goto (tgt := 149) dX7_place_144 (by decide) ?_
            obtain rfl := Option.some.inj h
            exact G_ret dX7_place_149 trivial rfl rfl
        · replace h := (if_pos hc4).symm.trans h
          refine G_aload_n dX7_place_50 rfl ?_
          refine G_iconst (v := 3) dX7_place_51 (by decide) ?_
          obtain ⟨q6, hq6, h⟩ := bnd h
          refine G_callVv (T := TX7) (N := 10) (f := 7) (i := 0) (X7_fail_ok hq6) ok_X7_fail ml_X7_65 (by decide) rfl (by decide) (by decide) (by decide) rfl rfl (Nat.le_of_ble_eq_true rfl) dX7_place_52 ?_
          obtain rfl := Option.some.inj h
          exact G_ret dX7_place_55 trivial rfl rfl
      · replace h := (if_pos hc3).symm.trans h
        refine G_aload_n dX7_place_28 rfl ?_
        refine G_iconst (v := 1) dX7_place_29 (by decide) ?_
        obtain ⟨q7, hq7, h⟩ := bnd h
        refine G_callVv (T := TX7) (N := 10) (f := 7) (i := 0) (X7_fail_ok hq7) ok_X7_fail ml_X7_65 (by decide) rfl (by decide) (by decide) (by decide) rfl rfl (Nat.le_of_ble_eq_true rfl) dX7_place_30 ?_
        obtain rfl := Option.some.inj h
        exact G_ret dX7_place_33 trivial rfl rfl

theorem dX7_use_0 : decode cX7_use 0 = .ok (.aload_n 0, 1) := by decide +kernel
theorem dX7_use_1 : decode cX7_use 1 = .ok (.getfield 10, 3) := by decide +kernel
theorem dX7_use_4 : decode cX7_use 4 = .ok (.iload_n 1, 1) := by decide +kernel
theorem dX7_use_5 : decode cX7_use 5 = .ok (.invokevirtual 95, 3) := by decide +kernel
theorem dX7_use_8 : decode cX7_use 8 = .ok (.ifCond .eq 12, 3) := by decide +kernel
theorem dX7_use_11 : decode cX7_use 11 = .ok (.iload_n 2, 1) := by decide +kernel
theorem dX7_use_12 : decode cX7_use 12 = .ok (.bipush 60, 2) := by decide +kernel
theorem dX7_use_14 : decode cX7_use 14 = .ok (.invokestatic 61, 3) := by decide +kernel
theorem dX7_use_17 : decode cX7_use 17 = .ok (.ifCond .ne 9, 3) := by decide +kernel
theorem dX7_use_20 : decode cX7_use 20 = .ok (.aload_n 0, 1) := by decide +kernel
theorem dX7_use_21 : decode cX7_use 21 = .ok (.iconst 1, 1) := by decide +kernel
theorem dX7_use_22 : decode cX7_use 22 = .ok (.invokevirtual 65, 3) := by decide +kernel
theorem dX7_use_25 : decode cX7_use 25 = .ok (.ireturn, 1) := by decide +kernel
theorem dX7_use_26 : decode cX7_use 26 = .ok (.aload_n 0, 1) := by decide +kernel
theorem dX7_use_27 : decode cX7_use 27 = .ok (.getfield 10, 3) := by decide +kernel
theorem dX7_use_30 : decode cX7_use 30 = .ok (.getfield 85, 3) := by decide +kernel
theorem dX7_use_33 : decode cX7_use 33 = .ok (.iload_n 1, 1) := by decide +kernel
theorem dX7_use_34 : decode cX7_use 34 = .ok (.aaload, 1) := by decide +kernel
theorem dX7_use_35 : decode cX7_use 35 = .ok (.getfield 116, 3) := by decide +kernel
theorem dX7_use_38 : decode cX7_use 38 = .ok (.istore_n 3, 1) := by decide +kernel
theorem dX7_use_39 : decode cX7_use 39 = .ok (.iconst 0, 1) := by decide +kernel
theorem dX7_use_40 : decode cX7_use 40 = .ok (.istore 4, 2) := by decide +kernel
theorem dX7_use_42 : decode cX7_use 42 = .ok (.iload 4, 2) := by decide +kernel
theorem dX7_use_44 : decode cX7_use 44 = .ok (.bipush 9, 2) := by decide +kernel
theorem dX7_use_46 : decode cX7_use 46 = .ok (.if_icmp .gt 50, 3) := by decide +kernel
theorem dX7_use_49 : decode cX7_use 49 = .ok (.aload_n 0, 1) := by decide +kernel
theorem dX7_use_50 : decode cX7_use 50 = .ok (.invokevirtual 192, 3) := by decide +kernel
theorem dX7_use_53 : decode cX7_use 53 = .ok (.astore 5, 2) := by decide +kernel
theorem dX7_use_55 : decode cX7_use 55 = .ok (.aload 5, 2) := by decide +kernel
theorem dX7_use_57 : decode cX7_use 57 = .ok (.getfield 85, 3) := by decide +kernel
theorem dX7_use_60 : decode cX7_use 60 = .ok (.iload_n 1, 1) := by decide +kernel
theorem dX7_use_61 : decode cX7_use 61 = .ok (.aaload, 1) := by decide +kernel
theorem dX7_use_62 : decode cX7_use 62 = .ok (.iload 4, 2) := by decide +kernel
theorem dX7_use_64 : decode cX7_use 64 = .ok (.putfield 107, 3) := by decide +kernel
theorem dX7_use_67 : decode cX7_use 67 = .ok (.aload 5, 2) := by decide +kernel
theorem dX7_use_69 : decode cX7_use 69 = .ok (.iload_n 2, 1) := by decide +kernel
theorem dX7_use_70 : decode cX7_use 70 = .ok (.invokevirtual 179, 3) := by decide +kernel
theorem dX7_use_73 : decode cX7_use 73 = .ok (.aload 5, 2) := by decide +kernel
theorem dX7_use_75 : decode cX7_use 75 = .ok (.getfield 85, 3) := by decide +kernel
theorem dX7_use_78 : decode cX7_use 78 = .ok (.iload_n 1, 1) := by decide +kernel
theorem dX7_use_79 : decode cX7_use 79 = .ok (.aaload, 1) := by decide +kernel
theorem dX7_use_80 : decode cX7_use 80 = .ok (.getfield 116, 3) := by decide +kernel
theorem dX7_use_83 : decode cX7_use 83 = .ok (.iload_n 3, 1) := by decide +kernel
theorem dX7_use_84 : decode cX7_use 84 = .ok (.if_icmp .le 6, 3) := by decide +kernel
theorem dX7_use_87 : decode cX7_use 87 = .ok (.iload 4, 2) := by decide +kernel
theorem dX7_use_89 : decode cX7_use 89 = .ok (.ireturn, 1) := by decide +kernel
theorem dX7_use_90 : decode cX7_use 90 = .ok (.iinc 4 1, 3) := by decide +kernel
theorem dX7_use_93 : decode cX7_use 93 = .ok (.goto (-51), 3) := by decide +kernel
theorem dX7_use_96 : decode cX7_use 96 = .ok (.aload_n 0, 1) := by decide +kernel
theorem dX7_use_97 : decode cX7_use 97 = .ok (.iconst 2, 1) := by decide +kernel
theorem dX7_use_98 : decode cX7_use 98 = .ok (.invokevirtual 65, 3) := by decide +kernel
theorem dX7_use_101 : decode cX7_use 101 = .ok (.ireturn, 1) := by decide +kernel
def X7_use_L42 : Nat → Int32 → Int32 → Int32 → Int32 → Mem → Option (Mem ⊕ (Int32 × Mem))
  | 0, _, _, _, _, _ => none
  | fu + 1, v1, v2, v3, v4, M => (if 9 < v4 then (some (.inl M)) else ((X7_asNow M).bind fun q3 => (if q3.1 < 3 then (if ib v1 10 = true then ((X1_passYears q3.1 v2 (up3 q3.2 3 (10 * q3.1 + v1.toNatClampNeg) 3 v4)).bind fun q5 => (if v3 < (q5 3 (10 * q3.1 + v1.toNatClampNeg) 6) then (some (.inr (v4, q5))) else (X7_use_L42 fu v1 v2 v3 (v4 + 1) q5))) else none) else none)))
set_option maxRecDepth 100000 in
set_option maxHeartbeats 4000000 in
theorem X7_use_L42_ok  {r : Option AV} {M' : MM} : ∀ (fu : Nat) (v1 : Int32) (v2 : Int32) (v3 : Int32) (v4 : Int32) (M N : Mem) {res : (Mem) ⊕ (Int32 × Mem)} (h : X7_use_L42 fu v1 v2 v3 v4 M = some res) (K : ∀ q, res = .inl q → G mt_X7_use 5 r M' 96 [(0, .inr (.inr (7, 0)))] [] (q, N)) (K2 : ∀ q, res = .inr q → r = (some (.inl q.1)) ∧ M' = (q.2, N)), G mt_X7_use 5 r M' 42 [(0, .inr (.inr (7, 0))), (1, .inl v1), (2, .inl v2), (3, .inl v3), (4, .inl v4)] [] (M, N) := by
  intro fu
  induction fu with
  | zero =>
    intro v1 v2 v3 v4 M N res h
    cases h
  | succ fu ih =>
    intro v1 v2 v3 v4 M N res h K K2
    replace h : (if 9 < v4 then (some (.inl M)) else ((X7_asNow M).bind fun q3 => (if q3.1 < 3 then (if ib v1 10 = true then ((X1_passYears q3.1 v2 (up3 q3.2 3 (10 * q3.1 + v1.toNatClampNeg) 3 v4)).bind fun q5 => (if v3 < (q5 3 (10 * q3.1 + v1.toNatClampNeg) 6) then (some (.inr (v4, q5))) else (X7_use_L42 fu v1 v2 v3 (v4 + 1) q5))) else none) else none))) = some res := h
    refine G_iload dX7_use_42 rfl ?_
    refine G_bipush (v := 9) dX7_use_44 (by decide) ?_
    refine G_icmp_gt (tgt := 96) dX7_use_46 (by decide) (fun hc5 => ?_) (fun hc5 => ?_)
    · replace h := (if_pos hc5).symm.trans h
      refine G_sub [(0, .inr (.inr (7, 0)))] [0] rfl ?_
      exact K _ (Option.some.inj h).symm
    · replace h := (if_neg hc5).symm.trans h
      refine G_aload_n dX7_use_49 rfl ?_
      obtain ⟨q3, hq3, h⟩ := bnd h
      refine G_callVv (T := TX7) (N := 10) (f := 7) (i := 0) (X7_asNow_ok hq3) ok_X7_asNow ml_X7_192 (by decide) rfl (by decide) (by decide) (by decide) rfl rfl (Nat.le_of_ble_eq_true rfl) dX7_use_50 ?_
      obtain ⟨lq3, h⟩ := chk h
      refine G_astore (L2 := [(5, .inr (.inr (1, q3.1))), (0, .inr (.inr (7, 0))), (1, .inl v1), (2, .inl v2), (3, .inl v3), (4, .inl v4)]) dX7_use_53 (by decide) rfl ?_
      refine G_aload dX7_use_55 rfl ?_
      refine fg_X7_85 rfl (by omega) dX7_use_57 ?_
      refine G_iload_n dX7_use_60 rfl ?_
      obtain ⟨hb4, h⟩ := chk h
      have lhb4 := ib_lt hb4
      refine G_aald3 (by decide) (show q3.1 < 3 from (by omega)) (by decide) rfl hb4 dX7_use_61 ?_
      refine G_iload dX7_use_62 rfl ?_
      refine fp_X7_107 rfl (by omega) dX7_use_64 ?_
      refine G_aload dX7_use_67 rfl ?_
      refine G_iload_n dX7_use_69 rfl ?_
      obtain ⟨q5, hq5, h⟩ := bnd h
      refine G_callVn (T := TX1) (N := 8) (f := 1) (i := q3.1) (X1_passYears_ok (by omega) hq5) ok_X1_passYears ml_X7_179 (by decide) rfl (by decide) (show q3.1 < 3 from (by omega)) (by decide) rfl rfl (Nat.le_of_ble_eq_true rfl) dX7_use_70 ?_
      refine G_aload dX7_use_73 rfl ?_
      refine fg_X7_85 rfl (by omega) dX7_use_75 ?_
      refine G_iload_n dX7_use_78 rfl ?_
      refine G_aald3 (by decide) (show q3.1 < 3 from (by omega)) (by decide) rfl hb4 dX7_use_79 ?_
      refine fg_X7_116 (v := (q5 3 (10 * q3.1 + v1.toNatClampNeg) 6)) rfl rfl (by omega) dX7_use_80 ?_
      refine G_iload_n dX7_use_83 rfl ?_
      refine G_icmp_le (tgt := 90) dX7_use_84 (by decide) (fun hc6 => ?_) (fun hc6 => ?_)
      · replace h := (if_neg hc6).symm.trans h
        refine G_iinc (v := (v4 + 1)) (L2 := [(4, .inl (v4 + 1)), (5, .inr (.inr (1, q3.1))), (0, .inr (.inr (7, 0))), (1, .inl v1), (2, .inl v2), (3, .inl v3)]) dX7_use_90 rfl (by first | rfl | (show _ + Int32.ofInt _ = _; rfl)) (by decide) rfl ?_
        refine G_goto (tgt := 42) dX7_use_93 (by decide) ?_
        refine G_sub [(0, .inr (.inr (7, 0))), (1, .inl v1), (2, .inl v2), (3, .inl v3), (4, .inl (v4 + 1))] [2, 3, 4, 5, 0] rfl ?_
        exact ih v1 v2 v3 (v4 + 1) q5 _  h K K2
      · replace h := (if_pos hc6).symm.trans h
        refine G_iload dX7_use_87 rfl ?_
        obtain ⟨e1, e2⟩ := K2 _ (Option.some.inj h).symm
        subst e1; subst e2
        exact G_ret dX7_use_89 trivial rfl rfl

def X7_use (v1 : Int32) (v2 : Int32) (M : Mem) : Option (Int32 × Mem) := (if (X1_has 0 v1 M) = 0 then ((X7_fail 1 M).bind fun q1 => (some (q1.1, q1.2))) else (if (X7_isWithin v2 60) = 0 then ((X7_fail 1 M).bind fun q8 => (some (q8.1, q8.2))) else (if ib v1 10 = true then ((X7_use_L42 400 v1 v2 (M 3 (10 * 0 + v1.toNatClampNeg) 6) 0 M).bind fun q6 => match q6 with
  | .inl q6 => ((X7_fail 2 q6).bind fun q7 => (some (q7.1, q7.2)))
  | .inr q6 => some q6) else none)))
set_option maxRecDepth 100000 in
set_option maxHeartbeats 4000000 in
theorem X7_use_ok  {v1 : Int32} {v2 : Int32} {M N : Mem} {res : Int32 × Mem} (h : X7_use v1 v2 M = some res) : Spec mt_X7_use 5 [.inr (.inr (7, 0)), .inl v1, .inl v2] (M, N) (some (.inl res.1)) (res.2, N) := by
  unfold X7_use at h
  refine Spec_of_G (by decide) rfl (Nat.le_of_ble_eq_true rfl) ?_
  refine G_sub [(0, .inr (.inr (7, 0))), (1, .inl v1), (2, .inl v2)] [0, 1, 2] rfl ?_
  refine G_aload_n dX7_use_0 rfl ?_
  refine fg_X7_10 rfl (by decide) dX7_use_1 ?_
  refine G_iload_n dX7_use_4 rfl ?_
  refine G_callVv (T := TX1) (N := 8) (f := 1) (i := 0) (X1_has_ok (by decide) rfl) ok_X1_has ml_X7_95 (by decide) rfl (by decide) (by decide) (by decide) rfl rfl (Nat.le_of_ble_eq_true rfl) dX7_use_5 ?_
  refine G_if_eq (tgt := 20) dX7_use_8 (by decide) (fun hc1 => ?_) (fun hc1 => ?_)
  · replace h := (if_pos hc1).symm.trans h
    refine G_aload_n dX7_use_20 rfl ?_
    refine G_iconst (v := 1) dX7_use_21 (by decide) ?_
    obtain ⟨q1, hq1, h⟩ := bnd h
    refine G_callVv (T := TX7) (N := 10) (f := 7) (i := 0) (X7_fail_ok hq1) ok_X7_fail ml_X7_65 (by decide) rfl (by decide) (by decide) (by decide) rfl rfl (Nat.le_of_ble_eq_true rfl) dX7_use_22 ?_
    obtain rfl := Option.some.inj h
    exact G_ret dX7_use_25 trivial rfl rfl
  · replace h := (if_neg hc1).symm.trans h
    refine G_iload_n dX7_use_11 rfl ?_
    refine G_bipush (v := 60) dX7_use_12 (by decide) ?_
    refine G_callSv  (X7_isWithin_ok rfl) ok_X7_isWithin ml_X7_61 (by decide) rfl rfl (Nat.le_of_ble_eq_true rfl) dX7_use_14 ?_
    refine G_if_ne (tgt := 26) dX7_use_17 (by decide) (fun hc2 => ?_) (fun hc2 => ?_)
    · replace h := (if_neg hc2).symm.trans h
      refine G_aload_n dX7_use_26 rfl ?_
      refine fg_X7_10 rfl (by decide) dX7_use_27 ?_
      refine fg_X7_85 rfl (by decide) dX7_use_30 ?_
      refine G_iload_n dX7_use_33 rfl ?_
      obtain ⟨hb2, h⟩ := chk h
      have lhb2 := ib_lt hb2
      refine G_aald3 (by decide) (by decide) (by decide) rfl hb2 dX7_use_34 ?_
      refine fg_X7_116 (v := (M 3 (10 * 0 + v1.toNatClampNeg) 6)) rfl rfl (by omega) dX7_use_35 ?_
      refine G_istore_n (L2 := [(3, .inl (M 3 (10 * 0 + v1.toNatClampNeg) 6)), (0, .inr (.inr (7, 0))), (1, .inl v1), (2, .inl v2)]) dX7_use_38 (by decide) rfl ?_
      refine G_iconst (v := 0) dX7_use_39 (by decide) ?_
      refine G_istore (L2 := [(4, .inl 0), (3, .inl (M 3 (10 * 0 + v1.toNatClampNeg) 6)), (0, .inr (.inr (7, 0))), (1, .inl v1), (2, .inl v2)]) dX7_use_40 (by decide) rfl ?_
      refine G_sub [(0, .inr (.inr (7, 0))), (1, .inl v1), (2, .inl v2), (3, .inl (M 3 (10 * 0 + v1.toNatClampNeg) 6)), (4, .inl 0)] [2, 3, 4, 1, 0] rfl ?_
      obtain ⟨q6, hq6, h⟩ := bnd h
      refine X7_use_L42_ok  400 v1 v2 (M 3 (10 * 0 + v1.toNatClampNeg) 6) 0 M _  hq6 (fun q6n q6e => ?_) (fun q6n q6e => ?_)
      · subst q6e
        refine G_aload_n dX7_use_96 rfl ?_
        refine G_iconst (v := 2) dX7_use_97 (by decide) ?_
        obtain ⟨q7, hq7, h⟩ := bnd h
        refine G_callVv (T := TX7) (N := 10) (f := 7) (i := 0) (X7_fail_ok hq7) ok_X7_fail ml_X7_65 (by decide) rfl (by decide) (by decide) (by decide) rfl rfl (Nat.le_of_ble_eq_true rfl) dX7_use_98 ?_
        obtain rfl := Option.some.inj h
        exact G_ret dX7_use_101 trivial rfl rfl
      · subst q6e
        obtain rfl := Option.some.inj h
        exact ⟨rfl, rfl⟩
    · replace h := (if_pos hc2).symm.trans h
      refine G_aload_n dX7_use_20 rfl ?_
      refine G_iconst (v := 1) dX7_use_21 (by decide) ?_
      obtain ⟨q8, hq8, h⟩ := bnd h
      refine G_callVv (T := TX7) (N := 10) (f := 7) (i := 0) (X7_fail_ok hq8) ok_X7_fail ml_X7_65 (by decide) rfl (by decide) (by decide) (by decide) rfl rfl (Nat.le_of_ble_eq_true rfl) dX7_use_22 ?_
      obtain rfl := Option.some.inj h
      exact G_ret dX7_use_25 trivial rfl rfl

theorem dX7_haveHandlesIfCaredFor_0 : decode cX7_haveHandlesIfCaredFor 0 = .ok (.aload_n 0, 1) := by decide +kernel
theorem dX7_haveHandlesIfCaredFor_1 : decode cX7_haveHandlesIfCaredFor 1 = .ok (.invokevirtual 192, 3) := by decide +kernel
theorem dX7_haveHandlesIfCaredFor_4 : decode cX7_haveHandlesIfCaredFor 4 = .ok (.astore 4, 2) := by decide +kernel
theorem dX7_haveHandlesIfCaredFor_6 : decode cX7_haveHandlesIfCaredFor 6 = .ok (.iconst 0, 1) := by decide +kernel
theorem dX7_haveHandlesIfCaredFor_7 : decode cX7_haveHandlesIfCaredFor 7 = .ok (.istore 5, 2) := by decide +kernel
theorem dX7_haveHandlesIfCaredFor_9 : decode cX7_haveHandlesIfCaredFor 9 = .ok (.iload 5, 2) := by decide +kernel
theorem dX7_haveHandlesIfCaredFor_11 : decode cX7_haveHandlesIfCaredFor 11 = .ok (.iconst 5, 1) := by decide +kernel
theorem dX7_haveHandlesIfCaredFor_12 : decode cX7_haveHandlesIfCaredFor 12 = .ok (.if_icmp .ge 28, 3) := by decide +kernel
theorem dX7_haveHandlesIfCaredFor_15 : decode cX7_haveHandlesIfCaredFor 15 = .ok (.iload_n 2, 1) := by decide +kernel
theorem dX7_haveHandlesIfCaredFor_16 : decode cX7_haveHandlesIfCaredFor 16 = .ok (.iload 5, 2) := by decide +kernel
theorem dX7_haveHandlesIfCaredFor_18 : decode cX7_haveHandlesIfCaredFor 18 = .ok (.ishr, 1) := by decide +kernel
theorem dX7_haveHandlesIfCaredFor_19 : decode cX7_haveHandlesIfCaredFor 19 = .ok (.iconst 1, 1) := by decide +kernel
theorem dX7_haveHandlesIfCaredFor_20 : decode cX7_haveHandlesIfCaredFor 20 = .ok (.iand, 1) := by decide +kernel
theorem dX7_haveHandlesIfCaredFor_21 : decode cX7_haveHandlesIfCaredFor 21 = .ok (.ifCond .eq 13, 3) := by decide +kernel
theorem dX7_haveHandlesIfCaredFor_24 : decode cX7_haveHandlesIfCaredFor 24 = .ok (.aload 4, 2) := by decide +kernel
theorem dX7_haveHandlesIfCaredFor_26 : decode cX7_haveHandlesIfCaredFor 26 = .ok (.getfield 72, 3) := by decide +kernel
theorem dX7_haveHandlesIfCaredFor_29 : decode cX7_haveHandlesIfCaredFor 29 = .ok (.iload 5, 2) := by decide +kernel
theorem dX7_haveHandlesIfCaredFor_31 : decode cX7_haveHandlesIfCaredFor 31 = .ok (.bipush 9, 2) := by decide +kernel
theorem dX7_haveHandlesIfCaredFor_33 : decode cX7_haveHandlesIfCaredFor 33 = .ok (.iastore, 1) := by decide +kernel
theorem dX7_haveHandlesIfCaredFor_34 : decode cX7_haveHandlesIfCaredFor 34 = .ok (.iinc 5 1, 3) := by decide +kernel
theorem dX7_haveHandlesIfCaredFor_37 : decode cX7_haveHandlesIfCaredFor 37 = .ok (.goto (-28), 3) := by decide +kernel
theorem dX7_haveHandlesIfCaredFor_40 : decode cX7_haveHandlesIfCaredFor 40 = .ok (.aload 4, 2) := by decide +kernel
theorem dX7_haveHandlesIfCaredFor_42 : decode cX7_haveHandlesIfCaredFor 42 = .ok (.iload_n 3, 1) := by decide +kernel
theorem dX7_haveHandlesIfCaredFor_43 : decode cX7_haveHandlesIfCaredFor 43 = .ok (.invokevirtual 179, 3) := by decide +kernel
theorem dX7_haveHandlesIfCaredFor_46 : decode cX7_haveHandlesIfCaredFor 46 = .ok (.iload_n 1, 1) := by decide +kernel
theorem dX7_haveHandlesIfCaredFor_47 : decode cX7_haveHandlesIfCaredFor 47 = .ok (.aload 4, 2) := by decide +kernel
theorem dX7_haveHandlesIfCaredFor_49 : decode cX7_haveHandlesIfCaredFor 49 = .ok (.invokevirtual 196, 3) := by decide +kernel
theorem dX7_haveHandlesIfCaredFor_52 : decode cX7_haveHandlesIfCaredFor 52 = .ok (.iconst (-1), 1) := by decide +kernel
theorem dX7_haveHandlesIfCaredFor_53 : decode cX7_haveHandlesIfCaredFor 53 = .ok (.ixor, 1) := by decide +kernel
theorem dX7_haveHandlesIfCaredFor_54 : decode cX7_haveHandlesIfCaredFor 54 = .ok (.iand, 1) := by decide +kernel
theorem dX7_haveHandlesIfCaredFor_55 : decode cX7_haveHandlesIfCaredFor 55 = .ok (.ifCond .ne 7, 3) := by decide +kernel
theorem dX7_haveHandlesIfCaredFor_58 : decode cX7_haveHandlesIfCaredFor 58 = .ok (.iconst 1, 1) := by decide +kernel
theorem dX7_haveHandlesIfCaredFor_59 : decode cX7_haveHandlesIfCaredFor 59 = .ok (.goto 4, 3) := by decide +kernel
theorem dX7_haveHandlesIfCaredFor_62 : decode cX7_haveHandlesIfCaredFor 62 = .ok (.iconst 0, 1) := by decide +kernel
theorem dX7_haveHandlesIfCaredFor_63 : decode cX7_haveHandlesIfCaredFor 63 = .ok (.ireturn, 1) := by decide +kernel
def X7_haveHandlesIfCaredFor_L9 : Nat → Int32 → Int32 → Int32 → Nat → Int32 → Mem → Option (Mem)
  | 0, _, _, _, _, _, _ => none
  | fu + 1, v1, v2, v3, i4, v5, M => (if v5 < 5 then (if ((v2 >>> (v5 &&& 31)) &&& 1) = 0 then (X7_haveHandlesIfCaredFor_L9 fu v1 v2 v3 i4 (v5 + 1) M) else (if ib v5 5 = true then (X7_haveHandlesIfCaredFor_L9 fu v1 v2 v3 i4 (v5 + 1) (up3 M 11 i4 v5.toNatClampNeg 9)) else none)) else (some M))
set_option maxRecDepth 100000 in
set_option maxHeartbeats 4000000 in
theorem X7_haveHandlesIfCaredFor_L9_ok  {r : Option AV} {M' : MM} : ∀ (fu : Nat) (v1 : Int32) (v2 : Int32) (v3 : Int32) (i4 : Nat) (v5 : Int32) (M N : Mem) {res : Mem} (hi4 : i4 < 3) (h : X7_haveHandlesIfCaredFor_L9 fu v1 v2 v3 i4 v5 M = some res) (K : G mt_X7_haveHandlesIfCaredFor 5 r M' 40 [(1, .inl v1), (3, .inl v3), (4, .inr (.inr (1, i4)))] [] (res, N)), G mt_X7_haveHandlesIfCaredFor 5 r M' 9 [(1, .inl v1), (2, .inl v2), (3, .inl v3), (4, .inr (.inr (1, i4))), (5, .inl v5)] [] (M, N) := by
  intro fu
  induction fu with
  | zero =>
    intro v1 v2 v3 i4 v5 M N res hi4 h
    cases h
  | succ fu ih =>
    intro v1 v2 v3 i4 v5 M N res hi4 h K
    replace h : (if v5 < 5 then (if ((v2 >>> (v5 &&& 31)) &&& 1) = 0 then (X7_haveHandlesIfCaredFor_L9 fu v1 v2 v3 i4 (v5 + 1) M) else (if ib v5 5 = true then (X7_haveHandlesIfCaredFor_L9 fu v1 v2 v3 i4 (v5 + 1) (up3 M 11 i4 v5.toNatClampNeg 9)) else none)) else (some M)) = some res := h
    refine G_iload dX7_haveHandlesIfCaredFor_9 rfl ?_
    refine G_iconst (v := 5) dX7_haveHandlesIfCaredFor_11 (by decide) ?_
    refine G_icmp_ge (tgt := 40) dX7_haveHandlesIfCaredFor_12 (by decide) (fun hc1 => ?_) (fun hc1 => ?_)
    · replace h := (if_neg hc1).symm.trans h
      refine G_sub [(1, .inl v1), (3, .inl v3), (4, .inr (.inr (1, i4)))] [0, 2, 3] rfl ?_
      obtain rfl := Option.some.inj h
      exact K
    · replace h := (if_pos hc1).symm.trans h
      refine G_iload_n dX7_haveHandlesIfCaredFor_15 rfl ?_
      refine G_iload dX7_haveHandlesIfCaredFor_16 rfl ?_
      refine G_ishr dX7_haveHandlesIfCaredFor_18 ?_
      refine G_iconst (v := 1) dX7_haveHandlesIfCaredFor_19 (by decide) ?_
      refine G_iand dX7_haveHandlesIfCaredFor_20 ?_
      refine G_if_eq (tgt := 34) dX7_haveHandlesIfCaredFor_21 (by decide) (fun hc2 => ?_) (fun hc2 => ?_)
      · replace h := (if_pos hc2).symm.trans h
        refine G_iinc (v := (v5 + 1)) (L2 := [(5, .inl (v5 + 1)), (1, .inl v1), (2, .inl v2), (3, .inl v3), (4, .inr (.inr (1, i4)))]) dX7_haveHandlesIfCaredFor_34 rfl (by first | rfl | (show _ + Int32.ofInt _ = _; rfl)) (by decide) rfl ?_
        refine G_goto (tgt := 9) dX7_haveHandlesIfCaredFor_37 (by decide) ?_
        refine G_sub [(1, .inl v1), (2, .inl v2), (3, .inl v3), (4, .inr (.inr (1, i4))), (5, .inl (v5 + 1))] [1, 2, 3, 4, 0] rfl ?_
        exact ih v1 v2 v3 i4 (v5 + 1) M _ hi4 h K
      · replace h := (if_neg hc2).symm.trans h
        refine G_aload dX7_haveHandlesIfCaredFor_24 rfl ?_
        refine fg_X7_72 rfl hi4 dX7_haveHandlesIfCaredFor_26 ?_
        refine G_iload dX7_haveHandlesIfCaredFor_29 rfl ?_
        refine G_bipush (v := 9) dX7_haveHandlesIfCaredFor_31 (by decide) ?_
        obtain ⟨hb2, h⟩ := chk h
        have lhb2 := ib_lt hb2
        refine as_11 (kk := v5.toNatClampNeg) hi4 hb2 rfl dX7_haveHandlesIfCaredFor_33 ?_
        refine G_iinc (v := (v5 + 1)) (L2 := [(5, .inl (v5 + 1)), (1, .inl v1), (2, .inl v2), (3, .inl v3), (4, .inr (.inr (1, i4)))]) dX7_haveHandlesIfCaredFor_34 rfl (by first | rfl | (show _ + Int32.ofInt _ = _; rfl)) (by decide) rfl ?_
        refine G_goto (tgt := 9) dX7_haveHandlesIfCaredFor_37 (by decide) ?_
        refine G_sub [(1, .inl v1), (2, .inl v2), (3, .inl v3), (4, .inr (.inr (1, i4))), (5, .inl (v5 + 1))] [1, 2, 3, 4, 0] rfl ?_
        exact ih v1 v2 v3 i4 (v5 + 1) (up3 M 11 i4 v5.toNatClampNeg 9) _ hi4 h K

def X7_haveHandlesIfCaredFor (v1 : Int32) (v2 : Int32) (v3 : Int32) (M : Mem) : Option (Int32 × Mem) := ((X7_asNow M).bind fun q1 => (if q1.1 < 3 then ((X7_haveHandlesIfCaredFor_L9 400 v1 v2 v3 q1.1 0 q1.2).bind fun q3 => ((X1_passYears q1.1 v3 q3).bind fun q4 => ((X1_potsWithHandle q1.1 q4).bind fun q5 => (if (v1 &&& (q5 ^^^ (-1))) = 0 then (some (1, q4)) else (some (0, q4)))))) else none))
set_option maxRecDepth 100000 in
set_option maxHeartbeats 4000000 in
theorem X7_haveHandlesIfCaredFor_ok  {v1 : Int32} {v2 : Int32} {v3 : Int32} {M N : Mem} {res : Int32 × Mem} (h : X7_haveHandlesIfCaredFor v1 v2 v3 M = some res) : Spec mt_X7_haveHandlesIfCaredFor 5 [.inr (.inr (7, 0)), .inl v1, .inl v2, .inl v3] (M, N) (some (.inl res.1)) (res.2, N) := by
  unfold X7_haveHandlesIfCaredFor at h
  refine Spec_of_G (by decide) rfl (Nat.le_of_ble_eq_true rfl) ?_
  refine G_sub [(0, .inr (.inr (7, 0))), (1, .inl v1), (2, .inl v2), (3, .inl v3)] [0, 1, 2, 3] rfl ?_
  refine G_aload_n dX7_haveHandlesIfCaredFor_0 rfl ?_
  obtain ⟨q1, hq1, h⟩ := bnd h
  refine G_callVv (T := TX7) (N := 10) (f := 7) (i := 0) (X7_asNow_ok hq1) ok_X7_asNow ml_X7_192 (by decide) rfl (by decide) (by decide) (by decide) rfl rfl (Nat.le_of_ble_eq_true rfl) dX7_haveHandlesIfCaredFor_1 ?_
  obtain ⟨lq1, h⟩ := chk h
  refine G_astore (L2 := [(4, .inr (.inr (1, q1.1))), (0, .inr (.inr (7, 0))), (1, .inl v1), (2, .inl v2), (3, .inl v3)]) dX7_haveHandlesIfCaredFor_4 (by decide) rfl ?_
  refine G_iconst (v := 0) dX7_haveHandlesIfCaredFor_6 (by decide) ?_
  refine G_istore (L2 := [(5, .inl 0), (4, .inr (.inr (1, q1.1))), (0, .inr (.inr (7, 0))), (1, .inl v1), (2, .inl v2), (3, .inl v3)]) dX7_haveHandlesIfCaredFor_7 (by decide) rfl ?_
  refine G_sub [(1, .inl v1), (2, .inl v2), (3, .inl v3), (4, .inr (.inr (1, q1.1))), (5, .inl 0)] [3, 4, 5, 1, 0] rfl ?_
  obtain ⟨q3, hq3, h⟩ := bnd h
  refine X7_haveHandlesIfCaredFor_L9_ok  400 v1 v2 v3 q1.1 0 q1.2 _ (by omega) hq3 ?_
  refine G_aload dX7_haveHandlesIfCaredFor_40 rfl ?_
  refine G_iload_n dX7_haveHandlesIfCaredFor_42 rfl ?_
  obtain ⟨q4, hq4, h⟩ := bnd h
  refine G_callVn (T := TX1) (N := 8) (f := 1) (i := q1.1) (X1_passYears_ok (by omega) hq4) ok_X1_passYears ml_X7_179 (by decide) rfl (by decide) (show q1.1 < 3 from (by omega)) (by decide) rfl rfl (Nat.le_of_ble_eq_true rfl) dX7_haveHandlesIfCaredFor_43 ?_
  refine G_iload_n dX7_haveHandlesIfCaredFor_46 rfl ?_
  refine G_aload dX7_haveHandlesIfCaredFor_47 rfl ?_
  obtain ⟨q5, hq5, h⟩ := bnd h
  refine G_callVv (T := TX1) (N := 8) (f := 1) (i := q1.1) (X1_potsWithHandle_ok (by omega) hq5) ok_X1_potsWithHandle ml_X7_196 (by decide) rfl (by decide) (show q1.1 < 3 from (by omega)) (by decide) rfl rfl (Nat.le_of_ble_eq_true rfl) dX7_haveHandlesIfCaredFor_49 ?_
  refine G_iconst (v := (-1)) dX7_haveHandlesIfCaredFor_52 (by decide) ?_
  refine G_ixor dX7_haveHandlesIfCaredFor_53 ?_
  refine G_iand dX7_haveHandlesIfCaredFor_54 ?_
  refine G_if_ne (tgt := 62) dX7_haveHandlesIfCaredFor_55 (by decide) (fun hc3 => ?_) (fun hc3 => ?_)
  · replace h := (if_neg hc3).symm.trans h
    refine G_iconst (v := 0) dX7_haveHandlesIfCaredFor_62 (by decide) ?_
    obtain rfl := Option.some.inj h
    exact G_ret dX7_haveHandlesIfCaredFor_63 (Or.inl rfl) rfl rfl
  · replace h := (if_pos hc3).symm.trans h
    refine G_iconst (v := 1) dX7_haveHandlesIfCaredFor_58 (by decide) ?_
    refine G_goto (tgt := 63) dX7_haveHandlesIfCaredFor_59 (by decide) ?_
    obtain rfl := Option.some.inj h
    exact G_ret dX7_haveHandlesIfCaredFor_63 (Or.inr rfl) rfl rfl

theorem dX7_needed_0 : decode cX7_needed 0 = .ok (.iload_n 1, 1) := by decide +kernel
theorem dX7_needed_1 : decode cX7_needed 1 = .ok (.aload_n 0, 1) := by decide +kernel
theorem dX7_needed_2 : decode cX7_needed 2 = .ok (.getfield 10, 3) := by decide +kernel
theorem dX7_needed_5 : decode cX7_needed 5 = .ok (.invokevirtual 203, 3) := by decide +kernel
theorem dX7_needed_8 : decode cX7_needed 8 = .ok (.invokestatic 61, 3) := by decide +kernel
theorem dX7_needed_11 : decode cX7_needed 11 = .ok (.ifCond .eq 12, 3) := by decide +kernel
theorem dX7_needed_14 : decode cX7_needed 14 = .ok (.iload_n 2, 1) := by decide +kernel
theorem dX7_needed_15 : decode cX7_needed 15 = .ok (.bipush 20, 2) := by decide +kernel
theorem dX7_needed_17 : decode cX7_needed 17 = .ok (.invokestatic 61, 3) := by decide +kernel
theorem dX7_needed_20 : decode cX7_needed 20 = .ok (.ifCond .ne 9, 3) := by decide +kernel
theorem dX7_needed_23 : decode cX7_needed 23 = .ok (.aload_n 0, 1) := by decide +kernel
theorem dX7_needed_24 : decode cX7_needed 24 = .ok (.iconst 1, 1) := by decide +kernel
theorem dX7_needed_25 : decode cX7_needed 25 = .ok (.invokevirtual 65, 3) := by decide +kernel
theorem dX7_needed_28 : decode cX7_needed 28 = .ok (.ireturn, 1) := by decide +kernel
theorem dX7_needed_29 : decode cX7_needed 29 = .ok (.iconst (-1), 1) := by decide +kernel
theorem dX7_needed_30 : decode cX7_needed 30 = .ok (.istore_n 3, 1) := by decide +kernel
theorem dX7_needed_31 : decode cX7_needed 31 = .ok (.bipush 6, 2) := by decide +kernel
theorem dX7_needed_33 : decode cX7_needed 33 = .ok (.istore 4, 2) := by decide +kernel
theorem dX7_needed_35 : decode cX7_needed 35 = .ok (.iconst 0, 1) := by decide +kernel
theorem dX7_needed_36 : decode cX7_needed 36 = .ok (.istore 5, 2) := by decide +kernel
theorem dX7_needed_38 : decode cX7_needed 38 = .ok (.iload 5, 2) := by decide +kernel
theorem dX7_needed_40 : decode cX7_needed 40 = .ok (.bipush 32, 2) := by decide +kernel
theorem dX7_needed_42 : decode cX7_needed 42 = .ok (.if_icmp .ge 41, 3) := by decide +kernel
theorem dX7_needed_45 : decode cX7_needed 45 = .ok (.iload 5, 2) := by decide +kernel
theorem dX7_needed_47 : decode cX7_needed 47 = .ok (.invokestatic 206, 3) := by decide +kernel
theorem dX7_needed_50 : decode cX7_needed 50 = .ok (.istore 6, 2) := by decide +kernel
theorem dX7_needed_52 : decode cX7_needed 52 = .ok (.iload 6, 2) := by decide +kernel
theorem dX7_needed_54 : decode cX7_needed 54 = .ok (.iload 4, 2) := by decide +kernel
theorem dX7_needed_56 : decode cX7_needed 56 = .ok (.if_icmp .ge 21, 3) := by decide +kernel
theorem dX7_needed_59 : decode cX7_needed 59 = .ok (.aload_n 0, 1) := by decide +kernel
theorem dX7_needed_60 : decode cX7_needed 60 = .ok (.iload_n 1, 1) := by decide +kernel
theorem dX7_needed_61 : decode cX7_needed 61 = .ok (.iload 5, 2) := by decide +kernel
theorem dX7_needed_63 : decode cX7_needed 63 = .ok (.iload_n 2, 1) := by decide +kernel
theorem dX7_needed_64 : decode cX7_needed 64 = .ok (.invokevirtual 211, 3) := by decide +kernel
theorem dX7_needed_67 : decode cX7_needed 67 = .ok (.ifCond .eq 10, 3) := by decide +kernel
theorem dX7_needed_70 : decode cX7_needed 70 = .ok (.iload 5, 2) := by decide +kernel
theorem dX7_needed_72 : decode cX7_needed 72 = .ok (.istore_n 3, 1) := by decide +kernel
theorem dX7_needed_73 : decode cX7_needed 73 = .ok (.iload 6, 2) := by decide +kernel
theorem dX7_needed_75 : decode cX7_needed 75 = .ok (.istore 4, 2) := by decide +kernel
theorem dX7_needed_77 : decode cX7_needed 77 = .ok (.iinc 5 1, 3) := by decide +kernel
theorem dX7_needed_80 : decode cX7_needed 80 = .ok (.goto (-42), 3) := by decide +kernel
theorem dX7_needed_83 : decode cX7_needed 83 = .ok (.iload_n 3, 1) := by decide +kernel
theorem dX7_needed_84 : decode cX7_needed 84 = .ok (.ifCond .ge 11, 3) := by decide +kernel
theorem dX7_needed_87 : decode cX7_needed 87 = .ok (.aload_n 0, 1) := by decide +kernel
theorem dX7_needed_88 : decode cX7_needed 88 = .ok (.iconst 2, 1) := by decide +kernel
theorem dX7_needed_89 : decode cX7_needed 89 = .ok (.invokevirtual 65, 3) := by decide +kernel
theorem dX7_needed_92 : decode cX7_needed 92 = .ok (.goto 4, 3) := by decide +kernel
theorem dX7_needed_95 : decode cX7_needed 95 = .ok (.iload_n 3, 1) := by decide +kernel
theorem dX7_needed_96 : decode cX7_needed 96 = .ok (.ireturn, 1) := by decide +kernel
def X7_needed_L38 : Nat → Int32 → Int32 → Int32 → Int32 → Int32 → Mem → Option (Int32 × Mem)
  | 0, _, _, _, _, _, _ => none
  | fu + 1, v1, v2, v3, v4, v5, M => (if v5 < 32 then (if (J6_bitCount_0f7a4 v5) < v4 then ((X7_haveHandlesIfCaredFor v1 v5 v2 M).bind fun q2 => (if q2.1 = 0 then (X7_needed_L38 fu v1 v2 v3 v4 (v5 + 1) q2.2) else (X7_needed_L38 fu v1 v2 v5 (J6_bitCount_0f7a4 v5) (v5 + 1) q2.2))) else (X7_needed_L38 fu v1 v2 v3 v4 (v5 + 1) M)) else (some (v3, M)))
set_option maxRecDepth 100000 in
set_option maxHeartbeats 4000000 in
theorem X7_needed_L38_ok  {r : Option AV} {M' : MM} : ∀ (fu : Nat) (v1 : Int32) (v2 : Int32) (v3 : Int32) (v4 : Int32) (v5 : Int32) (M N : Mem) {res : Int32 × Mem} (h : X7_needed_L38 fu v1 v2 v3 v4 v5 M = some res) (K : G mt_X7_needed 6 r M' 83 [(0, .inr (.inr (7, 0))), (3, .inl res.1)] [] (res.2, N)), G mt_X7_needed 6 r M' 38 [(0, .inr (.inr (7, 0))), (1, .inl v1), (2, .inl v2), (3, .inl v3), (4, .inl v4), (5, .inl v5)] [] (M, N) := by
  intro fu
  induction fu with
  | zero =>
    intro v1 v2 v3 v4 v5 M N res h
    cases h
  | succ fu ih =>
    intro v1 v2 v3 v4 v5 M N res h K
    replace h : (if v5 < 32 then (if (J6_bitCount_0f7a4 v5) < v4 then ((X7_haveHandlesIfCaredFor v1 v5 v2 M).bind fun q2 => (if q2.1 = 0 then (X7_needed_L38 fu v1 v2 v3 v4 (v5 + 1) q2.2) else (X7_needed_L38 fu v1 v2 v5 (J6_bitCount_0f7a4 v5) (v5 + 1) q2.2))) else (X7_needed_L38 fu v1 v2 v3 v4 (v5 + 1) M)) else (some (v3, M))) = some res := h
    refine G_iload dX7_needed_38 rfl ?_
    refine G_bipush (v := 32) dX7_needed_40 (by decide) ?_
    refine G_icmp_ge (tgt := 83) dX7_needed_42 (by decide) (fun hc3 => ?_) (fun hc3 => ?_)
    · replace h := (if_neg hc3).symm.trans h
      refine G_sub [(0, .inr (.inr (7, 0))), (3, .inl v3)] [0, 3] rfl ?_
      obtain rfl := Option.some.inj h
      exact K
    · replace h := (if_pos hc3).symm.trans h
      refine G_iload dX7_needed_45 rfl ?_
      refine G_callSv  (J6_bitCount_0f7a4_ok rfl) ok_J6_bitCount_0f7a4 ml_X7_206 (by decide) rfl rfl (Nat.le_of_ble_eq_true rfl) dX7_needed_47 ?_
      refine G_istore (L2 := [(6, .inl (J6_bitCount_0f7a4 v5)), (0, .inr (.inr (7, 0))), (1, .inl v1), (2, .inl v2), (3, .inl v3), (4, .inl v4), (5, .inl v5)]) dX7_needed_50 (by decide) rfl ?_
      refine G_iload dX7_needed_52 rfl ?_
      refine G_iload dX7_needed_54 rfl ?_
      refine G_icmp_ge (tgt := 77) dX7_needed_56 (by decide) (fun hc4 => ?_) (fun hc4 => ?_)
      · replace h := (if_neg hc4).symm.trans h
        refine G_iinc (v := (v5 + 1)) (L2 := [(5, .inl (v5 + 1)), (6, .inl (J6_bitCount_0f7a4 v5)), (0, .inr (.inr (7, 0))), (1, .inl v1), (2, .inl v2), (3, .inl v3), (4, .inl v4)]) dX7_needed_77 rfl (by first | rfl | (show _ + Int32.ofInt _ = _; rfl)) (by decide) rfl ?_
        refine G_goto (tgt := 38) dX7_needed_80 (by decide) ?_
        refine G_sub [(0, .inr (.inr (7, 0))), (1, .inl v1), (2, .inl v2), (3, .inl v3), (4, .inl v4), (5, .inl (v5 + 1))] [2, 3, 4, 5, 6, 0] rfl ?_
        exact ih v1 v2 v3 v4 (v5 + 1) M _  h K
      · replace h := (if_pos hc4).symm.trans h
        refine G_aload_n dX7_needed_59 rfl ?_
        refine G_iload_n dX7_needed_60 rfl ?_
        refine G_iload dX7_needed_61 rfl ?_
        refine G_iload_n dX7_needed_63 rfl ?_
        obtain ⟨q2, hq2, h⟩ := bnd h
        refine G_callVv (T := TX7) (N := 10) (f := 7) (i := 0) (X7_haveHandlesIfCaredFor_ok hq2) ok_X7_haveHandlesIfCaredFor ml_X7_211 (by decide) rfl (by decide) (by decide) (by decide) rfl rfl (Nat.le_of_ble_eq_true rfl) dX7_needed_64 ?_
        refine G_if_eq (tgt := 77) dX7_needed_67 (by decide) (fun hc5 => ?_) (fun hc5 => ?_)
        · replace h := (if_pos hc5).symm.trans h
          refine G_iinc (v := (v5 + 1)) (L2 := [(5, .inl (v5 + 1)), (6, .inl (J6_bitCount_0f7a4 v5)), (0, .inr (.inr (7, 0))), (1, .inl v1), (2, .inl v2), (3, .inl v3), (4, .inl v4)]) dX7_needed_77 rfl (by first | rfl | (show _ + Int32.ofInt _ = _; rfl)) (by decide) rfl ?_
          refine G_goto (tgt := 38) dX7_needed_80 (by decide) ?_
          refine G_sub [(0, .inr (.inr (7, 0))), (1, .inl v1), (2, .inl v2), (3, .inl v3), (4, .inl v4), (5, .inl (v5 + 1))] [2, 3, 4, 5, 6, 0] rfl ?_
          exact ih v1 v2 v3 v4 (v5 + 1) q2.2 _  h K
        · replace h := (if_neg hc5).symm.trans h
          refine G_iload dX7_needed_70 rfl ?_
          refine G_istore_n (L2 := [(3, .inl v5), (6, .inl (J6_bitCount_0f7a4 v5)), (0, .inr (.inr (7, 0))), (1, .inl v1), (2, .inl v2), (4, .inl v4), (5, .inl v5)]) dX7_needed_72 (by decide) rfl ?_
          refine G_iload dX7_needed_73 rfl ?_
          refine G_istore (L2 := [(4, .inl (J6_bitCount_0f7a4 v5)), (3, .inl v5), (6, .inl (J6_bitCount_0f7a4 v5)), (0, .inr (.inr (7, 0))), (1, .inl v1), (2, .inl v2), (5, .inl v5)]) dX7_needed_75 (by decide) rfl ?_
          refine G_iinc (v := (v5 + 1)) (L2 := [(5, .inl (v5 + 1)), (4, .inl (J6_bitCount_0f7a4 v5)), (3, .inl v5), (6, .inl (J6_bitCount_0f7a4 v5)), (0, .inr (.inr (7, 0))), (1, .inl v1), (2, .inl v2)]) dX7_needed_77 rfl (by first | rfl | (show _ + Int32.ofInt _ = _; rfl)) (by decide) rfl ?_
          refine G_goto (tgt := 38) dX7_needed_80 (by decide) ?_
          refine G_sub [(0, .inr (.inr (7, 0))), (1, .inl v1), (2, .inl v2), (3, .inl v5), (4, .inl (J6_bitCount_0f7a4 v5)), (5, .inl (v5 + 1))] [4, 5, 6, 2, 1, 0] rfl ?_
          exact ih v1 v2 v5 (J6_bitCount_0f7a4 v5) (v5 + 1) q2.2 _  h K

def X7_needed (v1 : Int32) (v2 : Int32) (M : Mem) : Option (Int32 × Mem) := (if (X7_isWithin v1 (X1_allPots 0 M)) = 0 then ((X7_fail 1 M).bind fun q1 => (some (q1.1, q1.2))) else (if (X7_isWithin v2 20) = 0 then ((X7_fail 1 M).bind fun q5 => (some (q5.1, q5.2))) else ((X7_needed_L38 400 v1 v2 (-1) 6 0 M).bind fun q3 => (if q3.1 < 0 then ((X7_fail 2 q3.2).bind fun q4 => (some (q4.1, q4.2))) else (some (q3.1, q3.2))))))
set_option maxRecDepth 100000 in
set_option maxHeartbeats 4000000 in
theorem X7_needed_ok  {v1 : Int32} {v2 : Int32} {M N : Mem} {res : Int32 × Mem} (h : X7_needed v1 v2 M = some res) : Spec mt_X7_needed 6 [.inr (.inr (7, 0)), .inl v1, .inl v2] (M, N) (some (.inl res.1)) (res.2, N) := by
  unfold X7_needed at h
  refine Spec_of_G (by decide) rfl (Nat.le_of_ble_eq_true rfl) ?_
  refine G_sub [(0, .inr (.inr (7, 0))), (1, .inl v1), (2, .inl v2)] [0, 1, 2] rfl ?_
  refine G_iload_n dX7_needed_0 rfl ?_
  refine G_aload_n dX7_needed_1 rfl ?_
  refine fg_X7_10 rfl (by decide) dX7_needed_2 ?_
  refine G_callVv (T := TX1) (N := 8) (f := 1) (i := 0) (X1_allPots_ok (by decide) rfl) ok_X1_allPots ml_X7_203 (by decide) rfl (by decide) (by decide) (by decide) rfl rfl (Nat.le_of_ble_eq_true rfl) dX7_needed_5 ?_
  refine G_callSv  (X7_isWithin_ok rfl) ok_X7_isWithin ml_X7_61 (by decide) rfl rfl (Nat.le_of_ble_eq_true rfl) dX7_needed_8 ?_
  refine G_if_eq (tgt := 23) dX7_needed_11 (by decide) (fun hc1 => ?_) (fun hc1 => ?_)
  · replace h := (if_pos hc1).symm.trans h
    refine G_aload_n dX7_needed_23 rfl ?_
    refine G_iconst (v := 1) dX7_needed_24 (by decide) ?_
    obtain ⟨q1, hq1, h⟩ := bnd h
    refine G_callVv (T := TX7) (N := 10) (f := 7) (i := 0) (X7_fail_ok hq1) ok_X7_fail ml_X7_65 (by decide) rfl (by decide) (by decide) (by decide) rfl rfl (Nat.le_of_ble_eq_true rfl) dX7_needed_25 ?_
    obtain rfl := Option.some.inj h
    exact G_ret dX7_needed_28 trivial rfl rfl
  · replace h := (if_neg hc1).symm.trans h
    refine G_iload_n dX7_needed_14 rfl ?_
    refine G_bipush (v := 20) dX7_needed_15 (by decide) ?_
    refine G_callSv  (X7_isWithin_ok rfl) ok_X7_isWithin ml_X7_61 (by decide) rfl rfl (Nat.le_of_ble_eq_true rfl) dX7_needed_17 ?_
    refine G_if_ne (tgt := 29) dX7_needed_20 (by decide) (fun hc2 => ?_) (fun hc2 => ?_)
    · replace h := (if_neg hc2).symm.trans h
      refine G_iconst (v := (-1)) dX7_needed_29 (by decide) ?_
      refine G_istore_n (L2 := [(3, .inl (-1)), (0, .inr (.inr (7, 0))), (1, .inl v1), (2, .inl v2)]) dX7_needed_30 (by decide) rfl ?_
      refine G_bipush (v := 6) dX7_needed_31 (by decide) ?_
      refine G_istore (L2 := [(4, .inl 6), (3, .inl (-1)), (0, .inr (.inr (7, 0))), (1, .inl v1), (2, .inl v2)]) dX7_needed_33 (by decide) rfl ?_
      refine G_iconst (v := 0) dX7_needed_35 (by decide) ?_
      refine G_istore (L2 := [(5, .inl 0), (4, .inl 6), (3, .inl (-1)), (0, .inr (.inr (7, 0))), (1, .inl v1), (2, .inl v2)]) dX7_needed_36 (by decide) rfl ?_
      refine G_sub [(0, .inr (.inr (7, 0))), (1, .inl v1), (2, .inl v2), (3, .inl (-1)), (4, .inl 6), (5, .inl 0)] [3, 4, 5, 2, 1, 0] rfl ?_
      obtain ⟨q3, hq3, h⟩ := bnd h
      refine X7_needed_L38_ok  400 v1 v2 (-1) 6 0 M _  hq3 ?_
      refine G_iload_n dX7_needed_83 rfl ?_
      refine G_if_ge (tgt := 95) dX7_needed_84 (by decide) (fun hc6 => ?_) (fun hc6 => ?_)
      · replace h := (if_neg hc6).symm.trans h
        refine G_iload_n dX7_needed_95 rfl ?_
        obtain rfl := Option.some.inj h
        exact G_ret dX7_needed_96 trivial rfl rfl
      · replace h := (if_pos hc6).symm.trans h
        refine G_aload_n dX7_needed_87 rfl ?_
        refine G_iconst (v := 2) dX7_needed_88 (by decide) ?_
        obtain ⟨q4, hq4, h⟩ := bnd h
        refine G_callVv (T := TX7) (N := 10) (f := 7) (i := 0) (X7_fail_ok hq4) ok_X7_fail ml_X7_65 (by decide) rfl (by decide) (by decide) (by decide) rfl rfl (Nat.le_of_ble_eq_true rfl) dX7_needed_89 ?_
        refine G_goto (tgt := 96) dX7_needed_92 (by decide) ?_
        obtain rfl := Option.some.inj h
        exact G_ret dX7_needed_96 trivial rfl rfl
    · replace h := (if_pos hc2).symm.trans h
      refine G_aload_n dX7_needed_23 rfl ?_
      refine G_iconst (v := 1) dX7_needed_24 (by decide) ?_
      obtain ⟨q5, hq5, h⟩ := bnd h
      refine G_callVv (T := TX7) (N := 10) (f := 7) (i := 0) (X7_fail_ok hq5) ok_X7_fail ml_X7_65 (by decide) rfl (by decide) (by decide) (by decide) rfl rfl (Nat.le_of_ble_eq_true rfl) dX7_needed_25 ?_
      obtain rfl := Option.some.inj h
      exact G_ret dX7_needed_28 trivial rfl rfl

theorem dX7_isLikedAsTold_0 : decode cX7_isLikedAsTold 0 = .ok (.aload_n 0, 1) := by decide +kernel
theorem dX7_isLikedAsTold_1 : decode cX7_isLikedAsTold 1 = .ok (.invokevirtual 192, 3) := by decide +kernel
theorem dX7_isLikedAsTold_4 : decode cX7_isLikedAsTold 4 = .ok (.astore 4, 2) := by decide +kernel
theorem dX7_isLikedAsTold_6 : decode cX7_isLikedAsTold 6 = .ok (.aload 4, 2) := by decide +kernel
theorem dX7_isLikedAsTold_8 : decode cX7_isLikedAsTold 8 = .ok (.getfield 85, 3) := by decide +kernel
theorem dX7_isLikedAsTold_11 : decode cX7_isLikedAsTold 11 = .ok (.iload_n 2, 1) := by decide +kernel
theorem dX7_isLikedAsTold_12 : decode cX7_isLikedAsTold 12 = .ok (.aaload, 1) := by decide +kernel
theorem dX7_isLikedAsTold_13 : decode cX7_isLikedAsTold 13 = .ok (.astore 5, 2) := by decide +kernel
theorem dX7_isLikedAsTold_15 : decode cX7_isLikedAsTold 15 = .ok (.aload 5, 2) := by decide +kernel
theorem dX7_isLikedAsTold_17 : decode cX7_isLikedAsTold 17 = .ok (.iload_n 3, 1) := by decide +kernel
theorem dX7_isLikedAsTold_18 : decode cX7_isLikedAsTold 18 = .ok (.putfield 104, 3) := by decide +kernel
theorem dX7_isLikedAsTold_21 : decode cX7_isLikedAsTold 21 = .ok (.iconst 0, 1) := by decide +kernel
theorem dX7_isLikedAsTold_22 : decode cX7_isLikedAsTold 22 = .ok (.istore 6, 2) := by decide +kernel
theorem dX7_isLikedAsTold_24 : decode cX7_isLikedAsTold 24 = .ok (.iload 6, 2) := by decide +kernel
theorem dX7_isLikedAsTold_26 : decode cX7_isLikedAsTold 26 = .ok (.aload_n 1, 1) := by decide +kernel
theorem dX7_isLikedAsTold_27 : decode cX7_isLikedAsTold 27 = .ok (.getfield 257, 3) := by decide +kernel
theorem dX7_isLikedAsTold_30 : decode cX7_isLikedAsTold 30 = .ok (.if_icmp .ge 37, 3) := by decide +kernel
theorem dX7_isLikedAsTold_33 : decode cX7_isLikedAsTold 33 = .ok (.iload 6, 2) := by decide +kernel
theorem dX7_isLikedAsTold_35 : decode cX7_isLikedAsTold 35 = .ok (.ifCond .le 9, 3) := by decide +kernel
theorem dX7_isLikedAsTold_38 : decode cX7_isLikedAsTold 38 = .ok (.aload 4, 2) := by decide +kernel
theorem dX7_isLikedAsTold_40 : decode cX7_isLikedAsTold 40 = .ok (.iconst 1, 1) := by decide +kernel
theorem dX7_isLikedAsTold_41 : decode cX7_isLikedAsTold 41 = .ok (.invokevirtual 179, 3) := by decide +kernel
theorem dX7_isLikedAsTold_44 : decode cX7_isLikedAsTold 44 = .ok (.aload 5, 2) := by decide +kernel
theorem dX7_isLikedAsTold_46 : decode cX7_isLikedAsTold 46 = .ok (.getfield 110, 3) := by decide +kernel
theorem dX7_isLikedAsTold_49 : decode cX7_isLikedAsTold 49 = .ok (.aload_n 1, 1) := by decide +kernel
theorem dX7_isLikedAsTold_50 : decode cX7_isLikedAsTold 50 = .ok (.getfield 260, 3) := by decide +kernel
theorem dX7_isLikedAsTold_53 : decode cX7_isLikedAsTold 53 = .ok (.iload 6, 2) := by decide +kernel
theorem dX7_isLikedAsTold_55 : decode cX7_isLikedAsTold 55 = .ok (.iaload, 1) := by decide +kernel
theorem dX7_isLikedAsTold_56 : decode cX7_isLikedAsTold 56 = .ok (.if_icmp .eq 5, 3) := by decide +kernel
theorem dX7_isLikedAsTold_59 : decode cX7_isLikedAsTold 59 = .ok (.iconst 0, 1) := by decide +kernel
theorem dX7_isLikedAsTold_60 : decode cX7_isLikedAsTold 60 = .ok (.ireturn, 1) := by decide +kernel
theorem dX7_isLikedAsTold_61 : decode cX7_isLikedAsTold 61 = .ok (.iinc 6 1, 3) := by decide +kernel
theorem dX7_isLikedAsTold_64 : decode cX7_isLikedAsTold 64 = .ok (.goto (-40), 3) := by decide +kernel
theorem dX7_isLikedAsTold_67 : decode cX7_isLikedAsTold 67 = .ok (.iconst 1, 1) := by decide +kernel
theorem dX7_isLikedAsTold_68 : decode cX7_isLikedAsTold 68 = .ok (.ireturn, 1) := by decide +kernel
def X7_isLikedAsTold_L24 : Nat → Nat → Nat → Nat → Int32 → Mem → Option (Mem ⊕ (Int32 × Mem))
  | 0, _, _, _, _, _ => none
  | fu + 1, i1, i4, i5, v6, M => (if v6 < (M 5 i1 2) then (if 0 < v6 then ((X1_passYears i4 1 M).bind fun q4 => (if ib v6 40 = true then (if (q4 3 i5 4) = (q4 15 i1 v6.toNatClampNeg) then (X7_isLikedAsTold_L24 fu i1 i4 i5 (v6 + 1) q4) else (some (.inr (0, q4)))) else none)) else (if ib v6 40 = true then (if (M 3 i5 4) = (M 15 i1 v6.toNatClampNeg) then (X7_isLikedAsTold_L24 fu i1 i4 i5 (v6 + 1) M) else (some (.inr (0, M)))) else none)) else (some (.inl M)))
set_option maxRecDepth 100000 in
set_option maxHeartbeats 4000000 in
theorem X7_isLikedAsTold_L24_ok  {r : Option AV} {M' : MM} : ∀ (fu : Nat) (i1 : Nat) (i4 : Nat) (i5 : Nat) (v6 : Int32) (M N : Mem) {res : (Mem) ⊕ (Int32 × Mem)} (hi1 : i1 < 4) (hi4 : i4 < 3) (hi5 : i5 < 30) (h : X7_isLikedAsTold_L24 fu i1 i4 i5 v6 M = some res) (K : ∀ q, res = .inl q → G mt_X7_isLikedAsTold 5 r M' 67 [] [] (q, N)) (K2 : ∀ q, res = .inr q → r = (some (.inl q.1)) ∧ M' = (q.2, N)), G mt_X7_isLikedAsTold 5 r M' 24 [(1, .inr (.inr (5, i1))), (4, .inr (.inr (1, i4))), (5, .inr (.inr (3, i5))), (6, .inl v6)] [] (M, N) := by
  intro fu
  induction fu with
  | zero =>
    intro i1 i4 i5 v6 M N res hi1 hi4 hi5 h
    cases h
  | succ fu ih =>
    intro i1 i4 i5 v6 M N res hi1 hi4 hi5 h K K2
    replace h : (if v6 < (M 5 i1 2) then (if 0 < v6 then ((X1_passYears i4 1 M).bind fun q4 => (if ib v6 40 = true then (if (q4 3 i5 4) = (q4 15 i1 v6.toNatClampNeg) then (X7_isLikedAsTold_L24 fu i1 i4 i5 (v6 + 1) q4) else (some (.inr (0, q4)))) else none)) else (if ib v6 40 = true then (if (M 3 i5 4) = (M 15 i1 v6.toNatClampNeg) then (X7_isLikedAsTold_L24 fu i1 i4 i5 (v6 + 1) M) else (some (.inr (0, M)))) else none)) else (some (.inl M))) = some res := h
    refine G_iload dX7_isLikedAsTold_24 rfl ?_
    refine G_aload_n dX7_isLikedAsTold_26 rfl ?_
    refine fg_X7_257 (v := (M 5 i1 2)) rfl rfl hi1 dX7_isLikedAsTold_27 ?_
    refine G_icmp_ge (tgt := 67) dX7_isLikedAsTold_30 (by decide) (fun hc5 => ?_) (fun hc5 => ?_)
    · replace h := (if_neg hc5).symm.trans h
      refine G_sub [] [] rfl ?_
      exact K _ (Option.some.inj h).symm
    · replace h := (if_pos hc5).symm.trans h
      refine G_iload dX7_isLikedAsTold_33 rfl ?_
      refine G_if_le (tgt := 44) dX7_isLikedAsTold_35 (by decide) (fun hc6 => ?_) (fun hc6 => ?_)
      · replace h := (if_neg hc6).symm.trans h
        refine G_aload dX7_isLikedAsTold_44 rfl ?_
        refine fg_X7_110 (v := (M 3 i5 4)) rfl rfl hi5 dX7_isLikedAsTold_46 ?_
        refine G_aload_n dX7_isLikedAsTold_49 rfl ?_
        refine fg_X7_260 rfl hi1 dX7_isLikedAsTold_50 ?_
        refine G_iload dX7_isLikedAsTold_53 rfl ?_
        obtain ⟨hb3, h⟩ := chk h
        have lhb3 := ib_lt hb3
        refine al_15 (kk := v6.toNatClampNeg) (v := (M 15 i1 v6.toNatClampNeg)) hi1 hb3 rfl rfl dX7_isLikedAsTold_55 ?_
        refine G_icmp_eq (tgt := 61) dX7_isLikedAsTold_56 (by decide) (fun hc7 => ?_) (fun hc7 => ?_)
        · replace h := (if_pos hc7).symm.trans h
          refine G_iinc (v := (v6 + 1)) (L2 := [(6, .inl (v6 + 1)), (1, .inr (.inr (5, i1))), (4, .inr (.inr (1, i4))), (5, .inr (.inr (3, i5)))]) dX7_isLikedAsTold_61 rfl (by first | rfl | (show _ + Int32.ofInt _ = _; rfl)) (by decide) rfl ?_
          refine G_goto (tgt := 24) dX7_isLikedAsTold_64 (by decide) ?_
          refine G_sub [(1, .inr (.inr (5, i1))), (4, .inr (.inr (1, i4))), (5, .inr (.inr (3, i5))), (6, .inl (v6 + 1))] [1, 2, 3, 0] rfl ?_
          exact ih i1 i4 i5 (v6 + 1) M _ hi1 hi4 hi5 h K K2
        · replace h := (if_neg hc7).symm.trans h
          refine G_iconst (v := 0) dX7_isLikedAsTold_59 (by decide) ?_
          obtain ⟨e1, e2⟩ := K2 _ (Option.some.inj h).symm
          subst e1; subst e2
          exact G_ret dX7_isLikedAsTold_60 (Or.inl rfl) rfl rfl
      · replace h := (if_pos hc6).symm.trans h
        refine G_aload dX7_isLikedAsTold_38 rfl ?_
        refine G_iconst (v := 1) dX7_isLikedAsTold_40 (by decide) ?_
        obtain ⟨q4, hq4, h⟩ := bnd h
        refine G_callVn (T := TX1) (N := 8) (f := 1) (i := i4) (X1_passYears_ok hi4 hq4) ok_X1_passYears ml_X7_179 (by decide) rfl (by decide) (show i4 < 3 from hi4) (by decide) rfl rfl (Nat.le_of_ble_eq_true rfl) dX7_isLikedAsTold_41 ?_
        refine G_aload dX7_isLikedAsTold_44 rfl ?_
        refine fg_X7_110 (v := (q4 3 i5 4)) rfl rfl hi5 dX7_isLikedAsTold_46 ?_
        refine G_aload_n dX7_isLikedAsTold_49 rfl ?_
        refine fg_X7_260 rfl hi1 dX7_isLikedAsTold_50 ?_
        refine G_iload dX7_isLikedAsTold_53 rfl ?_
        obtain ⟨hb5, h⟩ := chk h
        have lhb5 := ib_lt hb5
        refine al_15 (kk := v6.toNatClampNeg) (v := (q4 15 i1 v6.toNatClampNeg)) hi1 hb5 rfl rfl dX7_isLikedAsTold_55 ?_
        refine G_icmp_eq (tgt := 61) dX7_isLikedAsTold_56 (by decide) (fun hc8 => ?_) (fun hc8 => ?_)
        · replace h := (if_pos hc8).symm.trans h
          refine G_iinc (v := (v6 + 1)) (L2 := [(6, .inl (v6 + 1)), (1, .inr (.inr (5, i1))), (4, .inr (.inr (1, i4))), (5, .inr (.inr (3, i5)))]) dX7_isLikedAsTold_61 rfl (by first | rfl | (show _ + Int32.ofInt _ = _; rfl)) (by decide) rfl ?_
          refine G_goto (tgt := 24) dX7_isLikedAsTold_64 (by decide) ?_
          refine G_sub [(1, .inr (.inr (5, i1))), (4, .inr (.inr (1, i4))), (5, .inr (.inr (3, i5))), (6, .inl (v6 + 1))] [1, 2, 3, 0] rfl ?_
          exact ih i1 i4 i5 (v6 + 1) q4 _ hi1 hi4 hi5 h K K2
        · replace h := (if_neg hc8).symm.trans h
          refine G_iconst (v := 0) dX7_isLikedAsTold_59 (by decide) ?_
          obtain ⟨e1, e2⟩ := K2 _ (Option.some.inj h).symm
          subst e1; subst e2
          exact G_ret dX7_isLikedAsTold_60 (Or.inl rfl) rfl rfl

def X7_isLikedAsTold (i1 : Nat) (v2 : Int32) (v3 : Int32) (M : Mem) : Option (Int32 × Mem) := ((X7_asNow M).bind fun q1 => (if q1.1 < 3 then (if ib v2 10 = true then ((X7_isLikedAsTold_L24 400 i1 q1.1 (10 * q1.1 + v2.toNatClampNeg) 0 (up3 q1.2 3 (10 * q1.1 + v2.toNatClampNeg) 2 v3)).bind fun q6 => match q6 with
  | .inl q6 => (some (1, q6))
  | .inr q6 => some q6) else none) else none))
set_option maxRecDepth 100000 in
set_option maxHeartbeats 4000000 in
theorem X7_isLikedAsTold_ok  {i1 : Nat} {v2 : Int32} {v3 : Int32} {M N : Mem} {res : Int32 × Mem} (hi1 : i1 < 4) (h : X7_isLikedAsTold i1 v2 v3 M = some res) : Spec mt_X7_isLikedAsTold 5 [.inr (.inr (7, 0)), .inr (.inr (5, i1)), .inl v2, .inl v3] (M, N) (some (.inl res.1)) (res.2, N) := by
  unfold X7_isLikedAsTold at h
  refine Spec_of_G (by decide) rfl (Nat.le_of_ble_eq_true rfl) ?_
  refine G_sub [(0, .inr (.inr (7, 0))), (1, .inr (.inr (5, i1))), (2, .inl v2), (3, .inl v3)] [0, 1, 2, 3] rfl ?_
  refine G_aload_n dX7_isLikedAsTold_0 rfl ?_
  obtain ⟨q1, hq1, h⟩ := bnd h
  refine G_callVv (T := TX7) (N := 10) (f := 7) (i := 0) (X7_asNow_ok hq1) ok_X7_asNow ml_X7_192 (by decide) rfl (by decide) (by decide) (by decide) rfl rfl (Nat.le_of_ble_eq_true rfl) dX7_isLikedAsTold_1 ?_
  obtain ⟨lq1, h⟩ := chk h
  refine G_astore (L2 := [(4, .inr (.inr (1, q1.1))), (0, .inr (.inr (7, 0))), (1, .inr (.inr (5, i1))), (2, .inl v2), (3, .inl v3)]) dX7_isLikedAsTold_4 (by decide) rfl ?_
  refine G_aload dX7_isLikedAsTold_6 rfl ?_
  refine fg_X7_85 rfl (by omega) dX7_isLikedAsTold_8 ?_
  refine G_iload_n dX7_isLikedAsTold_11 rfl ?_
  obtain ⟨hb2, h⟩ := chk h
  have lhb2 := ib_lt hb2
  refine G_aald3 (by decide) (show q1.1 < 3 from (by omega)) (by decide) rfl hb2 dX7_isLikedAsTold_12 ?_
  refine G_astore (L2 := [(5, .inr (.inr (3, (10 * q1.1 + v2.toNatClampNeg)))), (4, .inr (.inr (1, q1.1))), (0, .inr (.inr (7, 0))), (1, .inr (.inr (5, i1))), (2, .inl v2), (3, .inl v3)]) dX7_isLikedAsTold_13 (by decide) rfl ?_
  refine G_aload dX7_isLikedAsTold_15 rfl ?_
  refine G_iload_n dX7_isLikedAsTold_17 rfl ?_
  refine fp_X7_104 rfl (by omega) dX7_isLikedAsTold_18 ?_
  refine G_iconst (v := 0) dX7_isLikedAsTold_21 (by decide) ?_
  refine G_istore (L2 := [(6, .inl 0), (5, .inr (.inr (3, (10 * q1.1 + v2.toNatClampNeg)))), (4, .inr (.inr (1, q1.1))), (0, .inr (.inr (7, 0))), (1, .inr (.inr (5, i1))), (2, .inl v2), (3, .inl v3)]) dX7_isLikedAsTold_22 (by decide) rfl ?_
  refine G_sub [(1, .inr (.inr (5, i1))), (4, .inr (.inr (1, q1.1))), (5, .inr (.inr (3, (10 * q1.1 + v2.toNatClampNeg)))), (6, .inl 0)] [4, 2, 1, 0] rfl ?_
  obtain ⟨q6, hq6, h⟩ := bnd h
  refine X7_isLikedAsTold_L24_ok  400 i1 q1.1 (10 * q1.1 + v2.toNatClampNeg) 0 (up3 q1.2 3 (10 * q1.1 + v2.toNatClampNeg) 2 v3) _ hi1 (by omega) (by omega) hq6 (fun q6n q6e => ?_) (fun q6n q6e => ?_)
  · subst q6e
    refine G_iconst (v := 1) dX7_isLikedAsTold_67 (by decide) ?_
    obtain rfl := Option.some.inj h
    exact G_ret dX7_isLikedAsTold_68 (Or.inr rfl) rfl rfl
  · subst q6e
    obtain rfl := Option.some.inj h
    exact ⟨rfl, rfl⟩

theorem dX7_whose_0 : decode cX7_whose 0 = .ok (.iload_n 1, 1) := by decide +kernel
theorem dX7_whose_1 : decode cX7_whose 1 = .ok (.invokestatic 215, 3) := by decide +kernel
theorem dX7_whose_4 : decode cX7_whose 4 = .ok (.ifCond .eq 22, 3) := by decide +kernel
theorem dX7_whose_7 : decode cX7_whose 7 = .ok (.aload_n 0, 1) := by decide +kernel
theorem dX7_whose_8 : decode cX7_whose 8 = .ok (.getfield 10, 3) := by decide +kernel
theorem dX7_whose_11 : decode cX7_whose 11 = .ok (.iload_n 2, 1) := by decide +kernel
theorem dX7_whose_12 : decode cX7_whose 12 = .ok (.invokevirtual 95, 3) := by decide +kernel
theorem dX7_whose_15 : decode cX7_whose 15 = .ok (.ifCond .eq 11, 3) := by decide +kernel
theorem dX7_whose_18 : decode cX7_whose 18 = .ok (.iload_n 3, 1) := by decide +kernel
theorem dX7_whose_19 : decode cX7_whose 19 = .ok (.iconst 1, 1) := by decide +kernel
theorem dX7_whose_20 : decode cX7_whose 20 = .ok (.invokestatic 61, 3) := by decide +kernel
theorem dX7_whose_23 : decode cX7_whose 23 = .ok (.ifCond .ne 9, 3) := by decide +kernel
theorem dX7_whose_26 : decode cX7_whose 26 = .ok (.aload_n 0, 1) := by decide +kernel
theorem dX7_whose_27 : decode cX7_whose 27 = .ok (.iconst 1, 1) := by decide +kernel
theorem dX7_whose_28 : decode cX7_whose 28 = .ok (.invokevirtual 65, 3) := by decide +kernel
theorem dX7_whose_31 : decode cX7_whose 31 = .ok (.ireturn, 1) := by decide +kernel
theorem dX7_whose_32 : decode cX7_whose 32 = .ok (.aload_n 0, 1) := by decide +kernel
theorem dX7_whose_33 : decode cX7_whose 33 = .ok (.getfield 10, 3) := by decide +kernel
theorem dX7_whose_36 : decode cX7_whose 36 = .ok (.getfield 85, 3) := by decide +kernel
theorem dX7_whose_39 : decode cX7_whose 39 = .ok (.iload_n 2, 1) := by decide +kernel
theorem dX7_whose_40 : decode cX7_whose 40 = .ok (.aaload, 1) := by decide +kernel
theorem dX7_whose_41 : decode cX7_whose 41 = .ok (.getfield 104, 3) := by decide +kernel
theorem dX7_whose_44 : decode cX7_whose 44 = .ok (.iconst (-1), 1) := by decide +kernel
theorem dX7_whose_45 : decode cX7_whose 45 = .ok (.if_icmp .ne 9, 3) := by decide +kernel
theorem dX7_whose_48 : decode cX7_whose 48 = .ok (.aload_n 0, 1) := by decide +kernel
theorem dX7_whose_49 : decode cX7_whose 49 = .ok (.iconst 3, 1) := by decide +kernel
theorem dX7_whose_50 : decode cX7_whose 50 = .ok (.invokevirtual 65, 3) := by decide +kernel
theorem dX7_whose_53 : decode cX7_whose 53 = .ok (.ireturn, 1) := by decide +kernel
theorem dX7_whose_54 : decode cX7_whose 54 = .ok (.aload_n 0, 1) := by decide +kernel
theorem dX7_whose_55 : decode cX7_whose 55 = .ok (.getfield 48, 3) := by decide +kernel
theorem dX7_whose_58 : decode cX7_whose 58 = .ok (.iload_n 1, 1) := by decide +kernel
theorem dX7_whose_59 : decode cX7_whose 59 = .ok (.aaload, 1) := by decide +kernel
theorem dX7_whose_60 : decode cX7_whose 60 = .ok (.invokevirtual 218, 3) := by decide +kernel
theorem dX7_whose_63 : decode cX7_whose 63 = .ok (.ifCond .eq 9, 3) := by decide +kernel
theorem dX7_whose_66 : decode cX7_whose 66 = .ok (.aload_n 0, 1) := by decide +kernel
theorem dX7_whose_67 : decode cX7_whose 67 = .ok (.iconst 2, 1) := by decide +kernel
theorem dX7_whose_68 : decode cX7_whose 68 = .ok (.invokevirtual 65, 3) := by decide +kernel
theorem dX7_whose_71 : decode cX7_whose 71 = .ok (.ireturn, 1) := by decide +kernel
theorem dX7_whose_72 : decode cX7_whose 72 = .ok (.iconst 0, 1) := by decide +kernel
theorem dX7_whose_73 : decode cX7_whose 73 = .ok (.istore 4, 2) := by decide +kernel
theorem dX7_whose_75 : decode cX7_whose 75 = .ok (.iconst 0, 1) := by decide +kernel
theorem dX7_whose_76 : decode cX7_whose 76 = .ok (.istore 5, 2) := by decide +kernel
theorem dX7_whose_78 : decode cX7_whose 78 = .ok (.iload 5, 2) := by decide +kernel
theorem dX7_whose_80 : decode cX7_whose 80 = .ok (.iconst 5, 1) := by decide +kernel
theorem dX7_whose_81 : decode cX7_whose 81 = .ok (.if_icmp .ge 34, 3) := by decide +kernel
theorem dX7_whose_84 : decode cX7_whose 84 = .ok (.aload_n 0, 1) := by decide +kernel
theorem dX7_whose_85 : decode cX7_whose 85 = .ok (.aload_n 0, 1) := by decide +kernel
theorem dX7_whose_86 : decode cX7_whose 86 = .ok (.getfield 48, 3) := by decide +kernel
theorem dX7_whose_89 : decode cX7_whose 89 = .ok (.iload_n 1, 1) := by decide +kernel
theorem dX7_whose_90 : decode cX7_whose 90 = .ok (.aaload, 1) := by decide +kernel
theorem dX7_whose_91 : decode cX7_whose 91 = .ok (.iload_n 2, 1) := by decide +kernel
theorem dX7_whose_92 : decode cX7_whose 92 = .ok (.iload 5, 2) := by decide +kernel
theorem dX7_whose_94 : decode cX7_whose 94 = .ok (.invokevirtual 221, 3) := by decide +kernel
theorem dX7_whose_97 : decode cX7_whose 97 = .ok (.ifCond .eq 12, 3) := by decide +kernel
theorem dX7_whose_100 : decode cX7_whose 100 = .ok (.iload 4, 2) := by decide +kernel
theorem dX7_whose_102 : decode cX7_whose 102 = .ok (.iconst 1, 1) := by decide +kernel
theorem dX7_whose_103 : decode cX7_whose 103 = .ok (.iload 5, 2) := by decide +kernel
theorem dX7_whose_105 : decode cX7_whose 105 = .ok (.ishl, 1) := by decide +kernel
theorem dX7_whose_106 : decode cX7_whose 106 = .ok (.ior, 1) := by decide +kernel
theorem dX7_whose_107 : decode cX7_whose 107 = .ok (.istore 4, 2) := by decide +kernel
theorem dX7_whose_109 : decode cX7_whose 109 = .ok (.iinc 5 1, 3) := by decide +kernel
theorem dX7_whose_112 : decode cX7_whose 112 = .ok (.goto (-34), 3) := by decide +kernel
theorem dX7_whose_115 : decode cX7_whose 115 = .ok (.iload_n 3, 1) := by decide +kernel
theorem dX7_whose_116 : decode cX7_whose 116 = .ok (.ifCond .ne 8, 3) := by decide +kernel
theorem dX7_whose_119 : decode cX7_whose 119 = .ok (.iload 4, 2) := by decide +kernel
theorem dX7_whose_121 : decode cX7_whose 121 = .ok (.goto 8, 3) := by decide +kernel
theorem dX7_whose_124 : decode cX7_whose 124 = .ok (.iload 4, 2) := by decide +kernel
theorem dX7_whose_126 : decode cX7_whose 126 = .ok (.invokestatic 206, 3) := by decide +kernel
theorem dX7_whose_129 : decode cX7_whose 129 = .ok (.ireturn, 1) := by decide +kernel
def X7_whose_L78 : Nat → Int32 → Int32 → Int32 → Int32 → Int32 → Mem → Option (Int32 × Mem)
  | 0, _, _, _, _, _, _ => none
  | fu + 1, v1, v2, v3, v4, v5, M => (if v5 < 5 then (if ib v1 4 = true then ((X7_isLikedAsTold v1.toNatClampNeg v2 v5 M).bind fun q6 => (if q6.1 = 0 then (X7_whose_L78 fu v1 v2 v3 v4 (v5 + 1) q6.2) else (X7_whose_L78 fu v1 v2 v3 (v4 ||| (1 <<< (v5 &&& 31))) (v5 + 1) q6.2))) else none) else (some (v4, M)))
set_option maxRecDepth 100000 in
set_option maxHeartbeats 4000000 in
theorem X7_whose_L78_ok  {r : Option AV} {M' : MM} : ∀ (fu : Nat) (v1 : Int32) (v2 : Int32) (v3 : Int32) (v4 : Int32) (v5 : Int32) (M N : Mem) {res : Int32 × Mem} (h : X7_whose_L78 fu v1 v2 v3 v4 v5 M = some res) (K : G mt_X7_whose 6 r M' 115 [(3, .inl v3), (4, .inl res.1)] [] (res.2, N)), G mt_X7_whose 6 r M' 78 [(0, .inr (.inr (7, 0))), (1, .inl v1), (2, .inl v2), (3, .inl v3), (4, .inl v4), (5, .inl v5)] [] (M, N) := by
  intro fu
  induction fu with
  | zero =>
    intro v1 v2 v3 v4 v5 M N res h
    cases h
  | succ fu ih =>
    intro v1 v2 v3 v4 v5 M N res h K
    replace h : (if v5 < 5 then (if ib v1 4 = true then ((X7_isLikedAsTold v1.toNatClampNeg v2 v5 M).bind fun q6 => (if q6.1 = 0 then (X7_whose_L78 fu v1 v2 v3 v4 (v5 + 1) q6.2) else (X7_whose_L78 fu v1 v2 v3 (v4 ||| (1 <<< (v5 &&& 31))) (v5 + 1) q6.2))) else none) else (some (v4, M))) = some res := h
    refine G_iload dX7_whose_78 rfl ?_
    refine G_iconst (v := 5) dX7_whose_80 (by decide) ?_
    refine G_icmp_ge (tgt := 115) dX7_whose_81 (by decide) (fun hc6 => ?_) (fun hc6 => ?_)
    · replace h := (if_neg hc6).symm.trans h
      refine G_sub [(3, .inl v3), (4, .inl v4)] [3, 4] rfl ?_
      obtain rfl := Option.some.inj h
      exact K
    · replace h := (if_pos hc6).symm.trans h
      refine G_aload_n dX7_whose_84 rfl ?_
      refine G_aload_n dX7_whose_85 rfl ?_
      refine fg_X7_48 rfl (by decide) dX7_whose_86 ?_
      refine G_iload_n dX7_whose_89 rfl ?_
      obtain ⟨hb5, h⟩ := chk h
      have lhb5 := ib_lt hb5
      refine G_aald5 (by decide) (by decide) (by decide) rfl hb5 dX7_whose_90 ?_
      refine G_iload_n dX7_whose_91 rfl ?_
      refine G_iload dX7_whose_92 rfl ?_
      obtain ⟨q6, hq6, h⟩ := bnd h
      refine G_callVv (T := TX7) (N := 10) (f := 7) (i := 0) (X7_isLikedAsTold_ok (by omega) hq6) ok_X7_isLikedAsTold ml_X7_221 (by decide) rfl (by decide) (by decide) (by decide) rfl rfl (Nat.le_of_ble_eq_true rfl) dX7_whose_94 ?_
      refine G_if_eq (tgt := 109) dX7_whose_97 (by decide) (fun hc7 => ?_) (fun hc7 => ?_)
      · replace h := (if_pos hc7).symm.trans h
        refine G_iinc (v := (v5 + 1)) (L2 := [(5, .inl (v5 + 1)), (0, .inr (.inr (7, 0))), (1, .inl v1), (2, .inl v2), (3, .inl v3), (4, .inl v4)]) dX7_whose_109 rfl (by first | rfl | (show _ + Int32.ofInt _ = _; rfl)) (by decide) rfl ?_
        refine G_goto (tgt := 78) dX7_whose_112 (by decide) ?_
        refine G_sub [(0, .inr (.inr (7, 0))), (1, .inl v1), (2, .inl v2), (3, .inl v3), (4, .inl v4), (5, .inl (v5 + 1))] [1, 2, 3, 4, 5, 0] rfl ?_
        exact ih v1 v2 v3 v4 (v5 + 1) q6.2 _  h K
      · replace h := (if_neg hc7).symm.trans h
        refine G_iload dX7_whose_100 rfl ?_
        refine G_iconst (v := 1) dX7_whose_102 (by decide) ?_
        refine G_iload dX7_whose_103 rfl ?_
        refine G_ishl dX7_whose_105 ?_
        refine G_ior dX7_whose_106 ?_
        refine G_istore (L2 := [(4, .inl (v4 ||| (1 <<< (v5 &&& 31)))), (0, .inr (.inr (7, 0))), (1, .inl v1), (2, .inl v2), (3, .inl v3), (5, .inl v5)]) dX7_whose_107 (by decide) rfl ?_
        refine G_iinc (v := (v5 + 1)) (L2 := [(5, .inl (v5 + 1)), (4, .inl (v4 ||| (1 <<< (v5 &&& 31)))), (0, .inr (.inr (7, 0))), (1, .inl v1), (2, .inl v2), (3, .inl v3)]) dX7_whose_109 rfl (by first | rfl | (show _ + Int32.ofInt _ = _; rfl)) (by decide) rfl ?_
        refine G_goto (tgt := 78) dX7_whose_112 (by decide) ?_
        refine G_sub [(0, .inr (.inr (7, 0))), (1, .inl v1), (2, .inl v2), (3, .inl v3), (4, .inl (v4 ||| (1 <<< (v5 &&& 31)))), (5, .inl (v5 + 1))] [2, 3, 4, 5, 1, 0] rfl ?_
        exact ih v1 v2 v3 (v4 ||| (1 <<< (v5 &&& 31))) (v5 + 1) q6.2 _  h K

def X7_whose (v1 : Int32) (v2 : Int32) (v3 : Int32) (M : Mem) : Option (Int32 × Mem) := (if (X7_isSheet v1) = 0 then ((X7_fail 1 M).bind fun q1 => (some (q1.1, q1.2))) else (if (X1_has 0 v2 M) = 0 then ((X7_fail 1 M).bind fun q2 => (some (q2.1, q2.2))) else (if (X7_isWithin v3 1) = 0 then ((X7_fail 1 M).bind fun q10 => (some (q10.1, q10.2))) else (if ib v2 10 = true then (if (M 3 (10 * 0 + v2.toNatClampNeg) 2) = (-1) then ((X7_fail 3 M).bind fun q9 => (some (q9.1, q9.2))) else (if ib v1 4 = true then (if (X5_isMissing v1.toNatClampNeg M) = 0 then ((X7_whose_L78 400 v1 v2 v3 0 0 M).bind fun q7 => (if v3 = 0 then (some (q7.1, q7.2)) else (some ((J6_bitCount_0f7a4 q7.1), q7.2)))) else ((X7_fail 2 M).bind fun q8 => (some (q8.1, q8.2)))) else none)) else none))))
set_option maxRecDepth 100000 in
set_option maxHeartbeats 4000000 in
theorem X7_whose_ok  {v1 : Int32} {v2 : Int32} {v3 : Int32} {M N : Mem} {res : Int32 × Mem} (h : X7_whose v1 v2 v3 M = some res) : Spec mt_X7_whose 6 [.inr (.inr (7, 0)), .inl v1, .inl v2, .inl v3] (M, N) (some (.inl res.1)) (res.2, N) := by
  unfold X7_whose at h
  refine Spec_of_G (by decide) rfl (Nat.le_of_ble_eq_true rfl) ?_
  refine G_sub [(0, .inr (.inr (7, 0))), (1, .inl v1), (2, .inl v2), (3, .inl v3)] [0, 1, 2, 3] rfl ?_
  refine G_iload_n dX7_whose_0 rfl ?_
  refine G_callSv  (X7_isSheet_ok rfl) ok_X7_isSheet ml_X7_215 (by decide) rfl rfl (Nat.le_of_ble_eq_true rfl) dX7_whose_1 ?_
  refine G_if_eq (tgt := 26) dX7_whose_4 (by decide) (fun hc1 => ?_) (fun hc1 => ?_)
  · replace h := (if_pos hc1).symm.trans h
    refine G_aload_n dX7_whose_26 rfl ?_
    refine G_iconst (v := 1) dX7_whose_27 (by decide) ?_
    obtain ⟨q1, hq1, h⟩ := bnd h
    refine G_callVv (T := TX7) (N := 10) (f := 7) (i := 0) (X7_fail_ok hq1) ok_X7_fail ml_X7_65 (by decide) rfl (by decide) (by decide) (by decide) rfl rfl (Nat.le_of_ble_eq_true rfl) dX7_whose_28 ?_
    obtain rfl := Option.some.inj h
    exact G_ret dX7_whose_31 trivial rfl rfl
  · replace h := (if_neg hc1).symm.trans h
    refine G_aload_n dX7_whose_7 rfl ?_
    refine fg_X7_10 rfl (by decide) dX7_whose_8 ?_
    refine G_iload_n dX7_whose_11 rfl ?_
    refine G_callVv (T := TX1) (N := 8) (f := 1) (i := 0) (X1_has_ok (by decide) rfl) ok_X1_has ml_X7_95 (by decide) rfl (by decide) (by decide) (by decide) rfl rfl (Nat.le_of_ble_eq_true rfl) dX7_whose_12 ?_
    refine G_if_eq (tgt := 26) dX7_whose_15 (by decide) (fun hc2 => ?_) (fun hc2 => ?_)
    · replace h := (if_pos hc2).symm.trans h
      refine G_aload_n dX7_whose_26 rfl ?_
      refine G_iconst (v := 1) dX7_whose_27 (by decide) ?_
      obtain ⟨q2, hq2, h⟩ := bnd h
      refine G_callVv (T := TX7) (N := 10) (f := 7) (i := 0) (X7_fail_ok hq2) ok_X7_fail ml_X7_65 (by decide) rfl (by decide) (by decide) (by decide) rfl rfl (Nat.le_of_ble_eq_true rfl) dX7_whose_28 ?_
      obtain rfl := Option.some.inj h
      exact G_ret dX7_whose_31 trivial rfl rfl
    · replace h := (if_neg hc2).symm.trans h
      refine G_iload_n dX7_whose_18 rfl ?_
      refine G_iconst (v := 1) dX7_whose_19 (by decide) ?_
      refine G_callSv  (X7_isWithin_ok rfl) ok_X7_isWithin ml_X7_61 (by decide) rfl rfl (Nat.le_of_ble_eq_true rfl) dX7_whose_20 ?_
      refine G_if_ne (tgt := 32) dX7_whose_23 (by decide) (fun hc3 => ?_) (fun hc3 => ?_)
      · replace h := (if_neg hc3).symm.trans h
        refine G_aload_n dX7_whose_32 rfl ?_
        refine fg_X7_10 rfl (by decide) dX7_whose_33 ?_
        refine fg_X7_85 rfl (by decide) dX7_whose_36 ?_
        refine G_iload_n dX7_whose_39 rfl ?_
        obtain ⟨hb3, h⟩ := chk h
        have lhb3 := ib_lt hb3
        refine G_aald3 (by decide) (by decide) (by decide) rfl hb3 dX7_whose_40 ?_
        refine fg_X7_104 (v := (M 3 (10 * 0 + v2.toNatClampNeg) 2)) rfl rfl (by omega) dX7_whose_41 ?_
        refine G_iconst (v := (-1)) dX7_whose_44 (by decide) ?_
        refine G_icmp_ne (tgt := 54) dX7_whose_45 (by decide) (fun hc4 => ?_) (fun hc4 => ?_)
        · replace h := (if_neg hc4).symm.trans h
          refine G_aload_n dX7_whose_54 rfl ?_
          refine fg_X7_48 rfl (by decide) dX7_whose_55 ?_
          refine G_iload_n dX7_whose_58 rfl ?_
          obtain ⟨hb4, h⟩ := chk h
          have lhb4 := ib_lt hb4
          refine G_aald5 (by decide) (by decide) (by decide) rfl hb4 dX7_whose_59 ?_
          refine G_callVv (T := TX5) (N := 3) (f := 5) (i := v1.toNatClampNeg) (X5_isMissing_ok (by omega) rfl) ok_X5_isMissing ml_X7_218 (by decide) rfl (by decide) (show v1.toNatClampNeg < 4 from (by omega)) (by decide) rfl rfl (Nat.le_of_ble_eq_true rfl) dX7_whose_60 ?_
          refine G_if_eq (tgt := 72) dX7_whose_63 (by decide) (fun hc5 => ?_) (fun hc5 => ?_)
          · replace h := (if_pos hc5).symm.trans h
            refine G_iconst (v := 0) dX7_whose_72 (by decide) ?_
            refine G_istore (L2 := [(4, .inl 0), (0, .inr (.inr (7, 0))), (1, .inl v1), (2, .inl v2), (3, .inl v3)]) dX7_whose_73 (by decide) rfl ?_
            refine G_iconst (v := 0) dX7_whose_75 (by decide) ?_
            refine G_istore (L2 := [(5, .inl 0), (4, .inl 0), (0, .inr (.inr (7, 0))), (1, .inl v1), (2, .inl v2), (3, .inl v3)]) dX7_whose_76 (by decide) rfl ?_
            refine G_sub [(0, .inr (.inr (7, 0))), (1, .inl v1), (2, .inl v2), (3, .inl v3), (4, .inl 0), (5, .inl 0)] [2, 3, 4, 5, 1, 0] rfl ?_
            obtain ⟨q7, hq7, h⟩ := bnd h
            refine X7_whose_L78_ok  400 v1 v2 v3 0 0 M _  hq7 ?_
            refine G_iload_n dX7_whose_115 rfl ?_
            refine G_if_ne (tgt := 124) dX7_whose_116 (by decide) (fun hc8 => ?_) (fun hc8 => ?_)
            · replace h := (if_neg hc8).symm.trans h
              refine G_iload dX7_whose_124 rfl ?_
              refine G_callSv  (J6_bitCount_0f7a4_ok rfl) ok_J6_bitCount_0f7a4 ml_X7_206 (by decide) rfl rfl (Nat.le_of_ble_eq_true rfl) dX7_whose_126 ?_
              obtain rfl := Option.some.inj h
              exact G_ret dX7_whose_129 trivial rfl rfl
            · replace h := (if_pos hc8).symm.trans h
              refine G_iload dX7_whose_119 rfl ?_
              refine G_goto (tgt := 129) dX7_whose_121 (by decide) ?_
              obtain rfl := Option.some.inj h
              exact G_ret dX7_whose_129 trivial rfl rfl
          · replace h := (if_neg hc5).symm.trans h
            refine G_aload_n dX7_whose_66 rfl ?_
            refine G_iconst (v := 2) dX7_whose_67 (by decide) ?_
            obtain ⟨q8, hq8, h⟩ := bnd h
            refine G_callVv (T := TX7) (N := 10) (f := 7) (i := 0) (X7_fail_ok hq8) ok_X7_fail ml_X7_65 (by decide) rfl (by decide) (by decide) (by decide) rfl rfl (Nat.le_of_ble_eq_true rfl) dX7_whose_68 ?_
            obtain rfl := Option.some.inj h
            exact G_ret dX7_whose_71 trivial rfl rfl
        · replace h := (if_pos hc4).symm.trans h
          refine G_aload_n dX7_whose_48 rfl ?_
          refine G_iconst (v := 3) dX7_whose_49 (by decide) ?_
          obtain ⟨q9, hq9, h⟩ := bnd h
          refine G_callVv (T := TX7) (N := 10) (f := 7) (i := 0) (X7_fail_ok hq9) ok_X7_fail ml_X7_65 (by decide) rfl (by decide) (by decide) (by decide) rfl rfl (Nat.le_of_ble_eq_true rfl) dX7_whose_50 ?_
          obtain rfl := Option.some.inj h
          exact G_ret dX7_whose_53 trivial rfl rfl
      · replace h := (if_pos hc3).symm.trans h
        refine G_aload_n dX7_whose_26 rfl ?_
        refine G_iconst (v := 1) dX7_whose_27 (by decide) ?_
        obtain ⟨q10, hq10, h⟩ := bnd h
        refine G_callVv (T := TX7) (N := 10) (f := 7) (i := 0) (X7_fail_ok hq10) ok_X7_fail ml_X7_65 (by decide) rfl (by decide) (by decide) (by decide) rfl rfl (Nat.le_of_ble_eq_true rfl) dX7_whose_28 ?_
        obtain rfl := Option.some.inj h
        exact G_ret dX7_whose_31 trivial rfl rfl

theorem dX7_carry_0 : decode cX7_carry 0 = .ok (.iload_n 1, 1) := by decide +kernel
theorem dX7_carry_1 : decode cX7_carry 1 = .ok (.invokestatic 57, 3) := by decide +kernel
theorem dX7_carry_4 : decode cX7_carry 4 = .ok (.ifCond .ne 9, 3) := by decide +kernel
theorem dX7_carry_7 : decode cX7_carry 7 = .ok (.aload_n 0, 1) := by decide +kernel
theorem dX7_carry_8 : decode cX7_carry 8 = .ok (.iconst 1, 1) := by decide +kernel
theorem dX7_carry_9 : decode cX7_carry 9 = .ok (.invokevirtual 65, 3) := by decide +kernel
theorem dX7_carry_12 : decode cX7_carry 12 = .ok (.ireturn, 1) := by decide +kernel
theorem dX7_carry_13 : decode cX7_carry 13 = .ok (.aload_n 0, 1) := by decide +kernel
theorem dX7_carry_14 : decode cX7_carry 14 = .ok (.getfield 10, 3) := by decide +kernel
theorem dX7_carry_17 : decode cX7_carry 17 = .ok (.iload_n 1, 1) := by decide +kernel
theorem dX7_carry_18 : decode cX7_carry 18 = .ok (.invokevirtual 75, 3) := by decide +kernel
theorem dX7_carry_21 : decode cX7_carry 21 = .ok (.istore_n 2, 1) := by decide +kernel
theorem dX7_carry_22 : decode cX7_carry 22 = .ok (.iload_n 2, 1) := by decide +kernel
theorem dX7_carry_23 : decode cX7_carry 23 = .ok (.aload_n 0, 1) := by decide +kernel
theorem dX7_carry_24 : decode cX7_carry 24 = .ok (.getfield 10, 3) := by decide +kernel
theorem dX7_carry_27 : decode cX7_carry 27 = .ok (.invokevirtual 196, 3) := by decide +kernel
theorem dX7_carry_30 : decode cX7_carry 30 = .ok (.iand, 1) := by decide +kernel
theorem dX7_carry_31 : decode cX7_carry 31 = .ok (.invokestatic 206, 3) := by decide +kernel
theorem dX7_carry_34 : decode cX7_carry 34 = .ok (.istore_n 3, 1) := by decide +kernel
theorem dX7_carry_35 : decode cX7_carry 35 = .ok (.iload_n 2, 1) := by decide +kernel
theorem dX7_carry_36 : decode cX7_carry 36 = .ok (.invokestatic 206, 3) := by decide +kernel
theorem dX7_carry_39 : decode cX7_carry 39 = .ok (.iload_n 3, 1) := by decide +kernel
theorem dX7_carry_40 : decode cX7_carry 40 = .ok (.isub, 1) := by decide +kernel
theorem dX7_carry_41 : decode cX7_carry 41 = .ok (.istore 4, 2) := by decide +kernel
theorem dX7_carry_43 : decode cX7_carry 43 = .ok (.iload_n 3, 1) := by decide +kernel
theorem dX7_carry_44 : decode cX7_carry 44 = .ok (.aload_n 0, 1) := by decide +kernel
theorem dX7_carry_45 : decode cX7_carry 45 = .ok (.getfield 10, 3) := by decide +kernel
theorem dX7_carry_48 : decode cX7_carry 48 = .ok (.getfield 69, 3) := by decide +kernel
theorem dX7_carry_51 : decode cX7_carry 51 = .ok (.iload_n 1, 1) := by decide +kernel
theorem dX7_carry_52 : decode cX7_carry 52 = .ok (.iaload, 1) := by decide +kernel
theorem dX7_carry_53 : decode cX7_carry 53 = .ok (.invokestatic 225, 3) := by decide +kernel
theorem dX7_carry_56 : decode cX7_carry 56 = .ok (.istore 5, 2) := by decide +kernel
theorem dX7_carry_58 : decode cX7_carry 58 = .ok (.iload 5, 2) := by decide +kernel
theorem dX7_carry_60 : decode cX7_carry 60 = .ok (.iload 4, 2) := by decide +kernel
theorem dX7_carry_62 : decode cX7_carry 62 = .ok (.aload_n 0, 1) := by decide +kernel
theorem dX7_carry_63 : decode cX7_carry 63 = .ok (.getfield 10, 3) := by decide +kernel
theorem dX7_carry_66 : decode cX7_carry 66 = .ok (.getfield 69, 3) := by decide +kernel
theorem dX7_carry_69 : decode cX7_carry 69 = .ok (.iload_n 1, 1) := by decide +kernel
theorem dX7_carry_70 : decode cX7_carry 70 = .ok (.iaload, 1) := by decide +kernel
theorem dX7_carry_71 : decode cX7_carry 71 = .ok (.iload 5, 2) := by decide +kernel
theorem dX7_carry_73 : decode cX7_carry 73 = .ok (.isub, 1) := by decide +kernel
theorem dX7_carry_74 : decode cX7_carry 74 = .ok (.iconst 2, 1) := by decide +kernel
theorem dX7_carry_75 : decode cX7_carry 75 = .ok (.idiv, 1) := by decide +kernel
theorem dX7_carry_76 : decode cX7_carry 76 = .ok (.invokestatic 225, 3) := by decide +kernel
theorem dX7_carry_79 : decode cX7_carry 79 = .ok (.iadd, 1) := by decide +kernel
theorem dX7_carry_80 : decode cX7_carry 80 = .ok (.ireturn, 1) := by decide +kernel
def X7_carry (v1 : Int32) (M : Mem) : Option (Int32 × Mem) := (if (X7_isHouse v1) = 0 then ((X7_fail 1 M).bind fun q4 => (some (q4.1, q4.2))) else ((X1_potsIn 0 v1 M).bind fun q1 => ((X1_potsWithHandle 0 M).bind fun q2 => (if ib v1 5 = true then (some (((jmin (J6_bitCount_0f7a4 (q1 &&& q2)) (M 10 0 v1.toNatClampNeg)) + (jmin ((J6_bitCount_0f7a4 q1) - (J6_bitCount_0f7a4 (q1 &&& q2))) (((M 10 0 v1.toNatClampNeg) - (jmin (J6_bitCount_0f7a4 (q1 &&& q2)) (M 10 0 v1.toNatClampNeg))) / 2))), M)) else none))))
set_option maxRecDepth 100000 in
set_option maxHeartbeats 4000000 in
theorem X7_carry_ok  {v1 : Int32} {M N : Mem} {res : Int32 × Mem} (h : X7_carry v1 M = some res) : Spec mt_X7_carry 1 [.inr (.inr (7, 0)), .inl v1] (M, N) (some (.inl res.1)) (res.2, N) := by
  unfold X7_carry at h
  refine Spec_of_G (by decide) rfl (Nat.le_of_ble_eq_true rfl) ?_
  refine G_sub [(0, .inr (.inr (7, 0))), (1, .inl v1)] [0, 1] rfl ?_
  refine G_iload_n dX7_carry_0 rfl ?_
  refine G_callSv  (X7_isHouse_ok rfl) ok_X7_isHouse ml_X7_57 (by decide) rfl rfl (Nat.le_of_ble_eq_true rfl) dX7_carry_1 ?_
  refine G_if_ne (tgt := 13) dX7_carry_4 (by decide) (fun hc1 => ?_) (fun hc1 => ?_)
  · replace h := (if_neg hc1).symm.trans h
    refine G_aload_n dX7_carry_13 rfl ?_
    refine fg_X7_10 rfl (by decide) dX7_carry_14 ?_
    refine G_iload_n dX7_carry_17 rfl ?_
    obtain ⟨q1, hq1, h⟩ := bnd h
    refine G_callVv (T := TX1) (N := 8) (f := 1) (i := 0) (X1_potsIn_ok (by decide) hq1) ok_X1_potsIn ml_X7_75 (by decide) rfl (by decide) (by decide) (by decide) rfl rfl (Nat.le_of_ble_eq_true rfl) dX7_carry_18 ?_
    refine G_istore_n (L2 := [(2, .inl q1), (0, .inr (.inr (7, 0))), (1, .inl v1)]) dX7_carry_21 (by decide) rfl ?_
    refine G_iload_n dX7_carry_22 rfl ?_
    refine G_aload_n dX7_carry_23 rfl ?_
    refine fg_X7_10 rfl (by decide) dX7_carry_24 ?_
    obtain ⟨q2, hq2, h⟩ := bnd h
    refine G_callVv (T := TX1) (N := 8) (f := 1) (i := 0) (X1_potsWithHandle_ok (by decide) hq2) ok_X1_potsWithHandle ml_X7_196 (by decide) rfl (by decide) (by decide) (by decide) rfl rfl (Nat.le_of_ble_eq_true rfl) dX7_carry_27 ?_
    refine G_iand dX7_carry_30 ?_
    refine G_callSv  (J6_bitCount_0f7a4_ok rfl) ok_J6_bitCount_0f7a4 ml_X7_206 (by decide) rfl rfl (Nat.le_of_ble_eq_true rfl) dX7_carry_31 ?_
    refine G_istore_n (L2 := [(3, .inl (J6_bitCount_0f7a4 (q1 &&& q2))), (2, .inl q1), (0, .inr (.inr (7, 0))), (1, .inl v1)]) dX7_carry_34 (by decide) rfl ?_
    refine G_iload_n dX7_carry_35 rfl ?_
    refine G_callSv  (J6_bitCount_0f7a4_ok rfl) ok_J6_bitCount_0f7a4 ml_X7_206 (by decide) rfl rfl (Nat.le_of_ble_eq_true rfl) dX7_carry_36 ?_
    refine G_iload_n dX7_carry_39 rfl ?_
    refine G_isub dX7_carry_40 ?_
    refine G_istore (L2 := [(4, .inl ((J6_bitCount_0f7a4 q1) - (J6_bitCount_0f7a4 (q1 &&& q2)))), (3, .inl (J6_bitCount_0f7a4 (q1 &&& q2))), (2, .inl q1), (0, .inr (.inr (7, 0))), (1, .inl v1)]) dX7_carry_41 (by decide) rfl ?_
    refine G_iload_n dX7_carry_43 rfl ?_
    refine G_aload_n dX7_carry_44 rfl ?_
    refine fg_X7_10 rfl (by decide) dX7_carry_45 ?_
    refine fg_X7_69 rfl (by decide) dX7_carry_48 ?_
    refine G_iload_n dX7_carry_51 rfl ?_
    obtain ⟨hb3, h⟩ := chk h
    have lhb3 := ib_lt hb3
    refine al_10 (kk := v1.toNatClampNeg) (v := (M 10 0 v1.toNatClampNeg)) (by decide) hb3 rfl rfl dX7_carry_52 ?_
    refine G_min ml_X7_225 st_min in_Math cd_min (by decide) (Nat.le_of_ble_eq_true rfl) dX7_carry_53 ?_
    refine G_istore (L2 := [(5, .inl (jmin (J6_bitCount_0f7a4 (q1 &&& q2)) (M 10 0 v1.toNatClampNeg))), (4, .inl ((J6_bitCount_0f7a4 q1) - (J6_bitCount_0f7a4 (q1 &&& q2)))), (3, .inl (J6_bitCount_0f7a4 (q1 &&& q2))), (2, .inl q1), (0, .inr (.inr (7, 0))), (1, .inl v1)]) dX7_carry_56 (by decide) rfl ?_
    refine G_iload dX7_carry_58 rfl ?_
    refine G_iload dX7_carry_60 rfl ?_
    refine G_aload_n dX7_carry_62 rfl ?_
    refine fg_X7_10 rfl (by decide) dX7_carry_63 ?_
    refine fg_X7_69 rfl (by decide) dX7_carry_66 ?_
    refine G_iload_n dX7_carry_69 rfl ?_
    refine al_10 (kk := v1.toNatClampNeg) (v := (M 10 0 v1.toNatClampNeg)) (by decide) hb3 rfl rfl dX7_carry_70 ?_
    refine G_iload dX7_carry_71 rfl ?_
    refine G_isub dX7_carry_73 ?_
    refine G_iconst (v := 2) dX7_carry_74 (by decide) ?_
    refine G_idiv (by decide) dX7_carry_75 ?_
    refine G_min ml_X7_225 st_min in_Math cd_min (by decide) (Nat.le_of_ble_eq_true rfl) dX7_carry_76 ?_
    refine G_iadd dX7_carry_79 ?_
    obtain rfl := Option.some.inj h
    exact G_ret dX7_carry_80 trivial rfl rfl
  · replace h := (if_pos hc1).symm.trans h
    refine G_aload_n dX7_carry_7 rfl ?_
    refine G_iconst (v := 1) dX7_carry_8 (by decide) ?_
    obtain ⟨q4, hq4, h⟩ := bnd h
    refine G_callVv (T := TX7) (N := 10) (f := 7) (i := 0) (X7_fail_ok hq4) ok_X7_fail ml_X7_65 (by decide) rfl (by decide) (by decide) (by decide) rfl rfl (Nat.le_of_ble_eq_true rfl) dX7_carry_9 ?_
    obtain rfl := Option.some.inj h
    exact G_ret dX7_carry_12 trivial rfl rfl

theorem dX7_breaks_0 : decode cX7_breaks 0 = .ok (.iload_n 1, 1) := by decide +kernel
theorem dX7_breaks_1 : decode cX7_breaks 1 = .ok (.bipush 60, 2) := by decide +kernel
theorem dX7_breaks_3 : decode cX7_breaks 3 = .ok (.invokestatic 61, 3) := by decide +kernel
theorem dX7_breaks_6 : decode cX7_breaks 6 = .ok (.ifCond .ne 9, 3) := by decide +kernel
theorem dX7_breaks_9 : decode cX7_breaks 9 = .ok (.aload_n 0, 1) := by decide +kernel
theorem dX7_breaks_10 : decode cX7_breaks 10 = .ok (.iconst 1, 1) := by decide +kernel
theorem dX7_breaks_11 : decode cX7_breaks 11 = .ok (.invokevirtual 65, 3) := by decide +kernel
theorem dX7_breaks_14 : decode cX7_breaks 14 = .ok (.ireturn, 1) := by decide +kernel
theorem dX7_breaks_15 : decode cX7_breaks 15 = .ok (.aload_n 0, 1) := by decide +kernel
theorem dX7_breaks_16 : decode cX7_breaks 16 = .ok (.iload_n 1, 1) := by decide +kernel
theorem dX7_breaks_17 : decode cX7_breaks 17 = .ok (.invokevirtual 188, 3) := by decide +kernel
theorem dX7_breaks_20 : decode cX7_breaks 20 = .ok (.iconst (-1), 1) := by decide +kernel
theorem dX7_breaks_21 : decode cX7_breaks 21 = .ok (.invokevirtual 75, 3) := by decide +kernel
theorem dX7_breaks_24 : decode cX7_breaks 24 = .ok (.invokestatic 206, 3) := by decide +kernel
theorem dX7_breaks_27 : decode cX7_breaks 27 = .ok (.istore_n 2, 1) := by decide +kernel
theorem dX7_breaks_28 : decode cX7_breaks 28 = .ok (.iload_n 2, 1) := by decide +kernel
theorem dX7_breaks_29 : decode cX7_breaks 29 = .ok (.aload_n 0, 1) := by decide +kernel
theorem dX7_breaks_30 : decode cX7_breaks 30 = .ok (.getfield 10, 3) := by decide +kernel
theorem dX7_breaks_33 : decode cX7_breaks 33 = .ok (.iconst (-1), 1) := by decide +kernel
theorem dX7_breaks_34 : decode cX7_breaks 34 = .ok (.invokevirtual 75, 3) := by decide +kernel
theorem dX7_breaks_37 : decode cX7_breaks 37 = .ok (.invokestatic 206, 3) := by decide +kernel
theorem dX7_breaks_40 : decode cX7_breaks 40 = .ok (.isub, 1) := by decide +kernel
theorem dX7_breaks_41 : decode cX7_breaks 41 = .ok (.ireturn, 1) := by decide +kernel
def X7_breaks (v1 : Int32) (M : Mem) : Option (Int32 × Mem) := (if (X7_isWithin v1 60) = 0 then ((X7_fail 1 M).bind fun q4 => (some (q4.1, q4.2))) else ((X7_behind v1 M).bind fun q1 => (if q1.1 < 3 then ((X1_potsIn q1.1 (-1) q1.2).bind fun q2 => ((X1_potsIn 0 (-1) q1.2).bind fun q3 => (some (((J6_bitCount_0f7a4 q2) - (J6_bitCount_0f7a4 q3)), q1.2)))) else none)))
set_option maxRecDepth 100000 in
set_option maxHeartbeats 4000000 in
theorem X7_breaks_ok  {v1 : Int32} {M N : Mem} {res : Int32 × Mem} (h : X7_breaks v1 M = some res) : Spec mt_X7_breaks 6 [.inr (.inr (7, 0)), .inl v1] (M, N) (some (.inl res.1)) (res.2, N) := by
  unfold X7_breaks at h
  refine Spec_of_G (by decide) rfl (Nat.le_of_ble_eq_true rfl) ?_
  refine G_sub [(0, .inr (.inr (7, 0))), (1, .inl v1)] [0, 1] rfl ?_
  refine G_iload_n dX7_breaks_0 rfl ?_
  refine G_bipush (v := 60) dX7_breaks_1 (by decide) ?_
  refine G_callSv  (X7_isWithin_ok rfl) ok_X7_isWithin ml_X7_61 (by decide) rfl rfl (Nat.le_of_ble_eq_true rfl) dX7_breaks_3 ?_
  refine G_if_ne (tgt := 15) dX7_breaks_6 (by decide) (fun hc1 => ?_) (fun hc1 => ?_)
  · replace h := (if_neg hc1).symm.trans h
    refine G_aload_n dX7_breaks_15 rfl ?_
    refine G_iload_n dX7_breaks_16 rfl ?_
    obtain ⟨q1, hq1, h⟩ := bnd h
    refine G_callVv (T := TX7) (N := 10) (f := 7) (i := 0) (X7_behind_ok hq1) ok_X7_behind ml_X7_188 (by decide) rfl (by decide) (by decide) (by decide) rfl rfl (Nat.le_of_ble_eq_true rfl) dX7_breaks_17 ?_
    obtain ⟨lq1, h⟩ := chk h
    refine G_iconst (v := (-1)) dX7_breaks_20 (by decide) ?_
    obtain ⟨q2, hq2, h⟩ := bnd h
    refine G_callVv (T := TX1) (N := 8) (f := 1) (i := q1.1) (X1_potsIn_ok (by omega) hq2) ok_X1_potsIn ml_X7_75 (by decide) rfl (by decide) (show q1.1 < 3 from (by omega)) (by decide) rfl rfl (Nat.le_of_ble_eq_true rfl) dX7_breaks_21 ?_
    refine G_callSv  (J6_bitCount_0f7a4_ok rfl) ok_J6_bitCount_0f7a4 ml_X7_206 (by decide) rfl rfl (Nat.le_of_ble_eq_true rfl) dX7_breaks_24 ?_
    refine G_istore_n (L2 := [(2, .inl (J6_bitCount_0f7a4 q2)), (0, .inr (.inr (7, 0))), (1, .inl v1)]) dX7_breaks_27 (by decide) rfl ?_
    refine G_iload_n dX7_breaks_28 rfl ?_
    refine G_aload_n dX7_breaks_29 rfl ?_
    refine fg_X7_10 rfl (by decide) dX7_breaks_30 ?_
    refine G_iconst (v := (-1)) dX7_breaks_33 (by decide) ?_
    obtain ⟨q3, hq3, h⟩ := bnd h
    refine G_callVv (T := TX1) (N := 8) (f := 1) (i := 0) (X1_potsIn_ok (by decide) hq3) ok_X1_potsIn ml_X7_75 (by decide) rfl (by decide) (by decide) (by decide) rfl rfl (Nat.le_of_ble_eq_true rfl) dX7_breaks_34 ?_
    refine G_callSv  (J6_bitCount_0f7a4_ok rfl) ok_J6_bitCount_0f7a4 ml_X7_206 (by decide) rfl rfl (Nat.le_of_ble_eq_true rfl) dX7_breaks_37 ?_
    refine G_isub dX7_breaks_40 ?_
    obtain rfl := Option.some.inj h
    exact G_ret dX7_breaks_41 trivial rfl rfl
  · replace h := (if_pos hc1).symm.trans h
    refine G_aload_n dX7_breaks_9 rfl ?_
    refine G_iconst (v := 1) dX7_breaks_10 (by decide) ?_
    obtain ⟨q4, hq4, h⟩ := bnd h
    refine G_callVv (T := TX7) (N := 10) (f := 7) (i := 0) (X7_fail_ok hq4) ok_X7_fail ml_X7_65 (by decide) rfl (by decide) (by decide) (by decide) rfl rfl (Nat.le_of_ble_eq_true rfl) dX7_breaks_11 ?_
    obtain rfl := Option.some.inj h
    exact G_ret dX7_breaks_14 trivial rfl rfl

theorem dX7_seed_0 : decode cX7_seed 0 = .ok (.aload_n 0, 1) := by decide +kernel
theorem dX7_seed_1 : decode cX7_seed 1 = .ok (.getfield 25, 3) := by decide +kernel
theorem dX7_seed_4 : decode cX7_seed 4 = .ok (.getfield 240, 3) := by decide +kernel
theorem dX7_seed_7 : decode cX7_seed 7 = .ok (.istore_n 2, 1) := by decide +kernel
theorem dX7_seed_8 : decode cX7_seed 8 = .ok (.aload_n 0, 1) := by decide +kernel
theorem dX7_seed_9 : decode cX7_seed 9 = .ok (.getfield 25, 3) := by decide +kernel
theorem dX7_seed_12 : decode cX7_seed 12 = .ok (.iload_n 1, 1) := by decide +kernel
theorem dX7_seed_13 : decode cX7_seed 13 = .ok (.putfield 240, 3) := by decide +kernel
theorem dX7_seed_16 : decode cX7_seed 16 = .ok (.iload_n 2, 1) := by decide +kernel
theorem dX7_seed_17 : decode cX7_seed 17 = .ok (.ireturn, 1) := by decide +kernel
def X7_seed (v1 : Int32) (M : Mem) : Option (Int32 × Mem) := (some ((M 0 0 4), (up3 M 0 0 4 v1)))
set_option maxRecDepth 100000 in
set_option maxHeartbeats 4000000 in
theorem X7_seed_ok  {v1 : Int32} {M N : Mem} {res : Int32 × Mem} (h : X7_seed v1 M = some res) : Spec mt_X7_seed 0 [.inr (.inr (7, 0)), .inl v1] (M, N) (some (.inl res.1)) (res.2, N) := by
  unfold X7_seed at h
  refine Spec_of_G (by decide) rfl (Nat.le_of_ble_eq_true rfl) ?_
  refine G_sub [(0, .inr (.inr (7, 0))), (1, .inl v1)] [0, 1] rfl ?_
  refine G_aload_n dX7_seed_0 rfl ?_
  refine fg_X7_25 rfl (by decide) dX7_seed_1 ?_
  refine fg_X7_240 (v := (M 0 0 4)) rfl rfl (by decide) dX7_seed_4 ?_
  refine G_istore_n (L2 := [(2, .inl (M 0 0 4)), (0, .inr (.inr (7, 0))), (1, .inl v1)]) dX7_seed_7 (by decide) rfl ?_
  refine G_aload_n dX7_seed_8 rfl ?_
  refine fg_X7_25 rfl (by decide) dX7_seed_9 ?_
  refine G_iload_n dX7_seed_12 rfl ?_
  refine fp_X7_240 rfl (by decide) dX7_seed_13 ?_
  refine G_iload_n dX7_seed_16 rfl ?_
  obtain rfl := Option.some.inj h
  exact G_ret dX7_seed_17 trivial rfl rfl

