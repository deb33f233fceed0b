theorem dX1_potsIn_0 : decode cX1_potsIn 0 = .ok (.iconst 0, 1) := by decide +kernel
theorem dX1_potsIn_1 : decode cX1_potsIn 1 = .ok (.istore_n 2, 1) := by decide +kernel
theorem dX1_potsIn_2 : decode cX1_potsIn 2 = .ok (.iconst 0, 1) := by decide +kernel
theorem dX1_potsIn_3 : decode cX1_potsIn 3 = .ok (.istore_n 3, 1) := by decide +kernel
theorem dX1_potsIn_4 : decode cX1_potsIn 4 = .ok (.iload_n 3, 1) := by decide +kernel
theorem dX1_potsIn_5 : decode cX1_potsIn 5 = .ok (.aload_n 0, 1) := by decide +kernel
theorem dX1_potsIn_6 : decode cX1_potsIn 6 = .ok (.getfield 47, 3) := by decide +kernel
theorem dX1_potsIn_9 : decode cX1_potsIn 9 = .ok (.if_icmp .ge 28, 3) := by decide +kernel
theorem dX1_potsIn_12 : decode cX1_potsIn 12 = .ok (.aload_n 0, 1) := by decide +kernel
theorem dX1_potsIn_13 : decode cX1_potsIn 13 = .ok (.getfield 20, 3) := by decide +kernel
theorem dX1_potsIn_16 : decode cX1_potsIn 16 = .ok (.iload_n 3, 1) := by decide +kernel
theorem dX1_potsIn_17 : decode cX1_potsIn 17 = .ok (.aaload, 1) := by decide +kernel
theorem dX1_potsIn_18 : decode cX1_potsIn 18 = .ok (.getfield 85, 3) := by decide +kernel
theorem dX1_potsIn_21 : decode cX1_potsIn 21 = .ok (.iload_n 1, 1) := by decide +kernel
theorem dX1_potsIn_22 : decode cX1_potsIn 22 = .ok (.if_icmp .ne 9, 3) := by decide +kernel
theorem dX1_potsIn_25 : decode cX1_potsIn 25 = .ok (.iload_n 2, 1) := by decide +kernel
theorem dX1_potsIn_26 : decode cX1_potsIn 26 = .ok (.iconst 1, 1) := by decide +kernel
theorem dX1_potsIn_27 : decode cX1_potsIn 27 = .ok (.iload_n 3, 1) := by decide +kernel
theorem dX1_potsIn_28 : decode cX1_potsIn 28 = .ok (.ishl, 1) := by decide +kernel
theorem dX1_potsIn_29 : decode cX1_potsIn 29 = .ok (.ior, 1) := by decide +kernel
theorem dX1_potsIn_30 : decode cX1_potsIn 30 = .ok (.istore_n 2, 1) := by decide +kernel
theorem dX1_potsIn_31 : decode cX1_potsIn 31 = .ok (.iinc 3 1, 3) := by decide +kernel
theorem dX1_potsIn_34 : decode cX1_potsIn 34 = .ok (.goto (-30), 3) := by decide +kernel
theorem dX1_potsIn_37 : decode cX1_potsIn 37 = .ok (.iload_n 2, 1) := by decide +kernel
theorem dX1_potsIn_38 : decode cX1_potsIn 38 = .ok (.ireturn, 1) := by decide +kernel
def X1_potsIn_L4 : Nat → Nat → Int32 → Int32 → Int32 → Mem → Option (Int32)
  | 0, _, _, _, _, _ => none
  | fu + 1, i0, v1, v2, v3, M => (if v3 < (M 1 i0 5) then (if ib v3 10 = true then (if (M 3 (10 * i0 + v3.toNatClampNeg) 2) = v1 then (X1_potsIn_L4 fu i0 v1 (v2 ||| (1 <<< (v3 &&& 31))) (v3 + 1) M) else (X1_potsIn_L4 fu i0 v1 v2 (v3 + 1) M)) else none) else (some v2))
set_option maxRecDepth 100000 in
set_option maxHeartbeats 4000000 in
theorem X1_potsIn_L4_ok  {r : Option AV} {M' : MM} : ∀ (fu : Nat) (i0 : Nat) (v1 : Int32) (v2 : Int32) (v3 : Int32) (M N : Mem) {res : Int32} (hi0 : i0 < 3) (h : X1_potsIn_L4 fu i0 v1 v2 v3 M = some res) (K : G mt_X1_potsIn 0 r M' 37 [(2, .inl res)] [] (M, N)), G mt_X1_potsIn 0 r M' 4 [(0, .inr (.inr (1, i0))), (1, .inl v1), (2, .inl v2), (3, .inl v3)] [] (M, N) := by
  intro fu
  induction fu with
  | zero =>
    intro i0 v1 v2 v3 M N res hi0 h
    cases h
  | succ fu ih =>
    intro i0 v1 v2 v3 M N res hi0 h K
    replace h : (if v3 < (M 1 i0 5) then (if ib v3 10 = true then (if (M 3 (10 * i0 + v3.toNatClampNeg) 2) = v1 then (X1_potsIn_L4 fu i0 v1 (v2 ||| (1 <<< (v3 &&& 31))) (v3 + 1) M) else (X1_potsIn_L4 fu i0 v1 v2 (v3 + 1) M)) else none) else (some v2)) = some res := h
    refine G_iload_n dX1_potsIn_4 rfl ?_
    refine G_aload_n dX1_potsIn_5 rfl ?_
    refine fg_X1_47 (v := (M 1 i0 5)) rfl rfl hi0 dX1_potsIn_6 ?_
    refine G_icmp_ge (tgt := 37) dX1_potsIn_9 (by decide) (fun hc1 => ?_) (fun hc1 => ?_)
    · replace h := (if_neg hc1).symm.trans h
      refine G_sub [(2, .inl v2)] [2] rfl ?_
      obtain rfl := Option.some.inj h
      exact K
    · replace h := (if_pos hc1).symm.trans h
      refine G_aload_n dX1_potsIn_12 rfl ?_
      refine fg_X1_20 rfl hi0 dX1_potsIn_13 ?_
      refine G_iload_n dX1_potsIn_16 rfl ?_
      obtain ⟨hb1, h⟩ := chk h
      have lhb1 := ib_lt hb1
      refine G_aald3 (by decide) (show i0 < 3 from hi0) (by decide) rfl hb1 dX1_potsIn_17 ?_
      refine fg_X1_85 (v := (M 3 (10 * i0 + v3.toNatClampNeg) 2)) rfl rfl (by omega) dX1_potsIn_18 ?_
      refine G_iload_n dX1_potsIn_21 rfl ?_
      refine G_icmp_ne (tgt := 31) dX1_potsIn_22 (by decide) (fun hc2 => ?_) (fun hc2 => ?_)
      · replace h := (if_neg hc2).symm.trans h
        refine G_iinc (v := (v3 + 1)) (L2 := [(3, .inl (v3 + 1)), (0, .inr (.inr (1, i0))), (1, .inl v1), (2, .inl v2)]) dX1_potsIn_31 rfl (by first | rfl | (show _ + Int32.ofInt _ = _; rfl)) (by decide) rfl ?_
        refine G_goto (tgt := 4) dX1_potsIn_34 (by decide) ?_
        refine G_sub [(0, .inr (.inr (1, i0))), (1, .inl v1), (2, .inl v2), (3, .inl (v3 + 1))] [1, 2, 3, 0] rfl ?_
        exact ih i0 v1 v2 (v3 + 1) M _ hi0 h K
      · replace h := (if_pos hc2).symm.trans h
        refine G_iload_n dX1_potsIn_25 rfl ?_
        refine G_iconst (v := 1) dX1_potsIn_26 (by decide) ?_
        refine G_iload_n dX1_potsIn_27 rfl ?_
        refine G_ishl dX1_potsIn_28 ?_
        refine G_ior dX1_potsIn_29 ?_
        refine G_istore_n (L2 := [(2, .inl (v2 ||| (1 <<< (v3 &&& 31)))), (0, .inr (.inr (1, i0))), (1, .inl v1), (3, .inl v3)]) dX1_potsIn_30 (by decide) rfl ?_
        refine G_iinc (v := (v3 + 1)) (L2 := [(3, .inl (v3 + 1)), (2, .inl (v2 ||| (1 <<< (v3 &&& 31)))), (0, .inr (.inr (1, i0))), (1, .inl v1)]) dX1_potsIn_31 rfl (by first | rfl | (show _ + Int32.ofInt _ = _; rfl)) (by decide) rfl ?_
        refine G_goto (tgt := 4) dX1_potsIn_34 (by decide) ?_
        refine G_sub [(0, .inr (.inr (1, i0))), (1, .inl v1), (2, .inl (v2 ||| (1 <<< (v3 &&& 31)))), (3, .inl (v3 + 1))] [2, 3, 1, 0] rfl ?_
        exact ih i0 v1 (v2 ||| (1 <<< (v3 &&& 31))) (v3 + 1) M _ hi0 h K

def X1_potsIn (i0 : Nat) (v1 : Int32) (M : Mem) : Option (Int32) := ((X1_potsIn_L4 400 i0 v1 0 0 M).bind fun q2 => (some q2))
set_option maxRecDepth 100000 in
set_option maxHeartbeats 4000000 in
theorem X1_potsIn_ok  {i0 : Nat} {v1 : Int32} {M N : Mem} {res : Int32} (hi0 : i0 < 3) (h : X1_potsIn i0 v1 M = some res) : Spec mt_X1_potsIn 0 [.inr (.inr (1, i0)), .inl v1] (M, N) (some (.inl res)) (M, N) := by
  unfold X1_potsIn at h
  refine Spec_of_G (by decide) rfl (Nat.le_of_ble_eq_true rfl) ?_
  refine G_sub [(0, .inr (.inr (1, i0))), (1, .inl v1)] [0, 1] rfl ?_
  refine G_iconst (v := 0) dX1_potsIn_0 (by decide) ?_
  refine G_istore_n (L2 := [(2, .inl 0), (0, .inr (.inr (1, i0))), (1, .inl v1)]) dX1_potsIn_1 (by decide) rfl ?_
  refine G_iconst (v := 0) dX1_potsIn_2 (by decide) ?_
  refine G_istore_n (L2 := [(3, .inl 0), (2, .inl 0), (0, .inr (.inr (1, i0))), (1, .inl v1)]) dX1_potsIn_3 (by decide) rfl ?_
  refine G_sub [(0, .inr (.inr (1, i0))), (1, .inl v1), (2, .inl 0), (3, .inl 0)] [2, 3, 1, 0] rfl ?_
  obtain ⟨q2, hq2, h⟩ := bnd h
  refine X1_potsIn_L4_ok  400 i0 v1 0 0 M _ hi0 hq2 ?_
  refine G_iload_n dX1_potsIn_37 rfl ?_
  obtain rfl := Option.some.inj h
  exact G_ret dX1_potsIn_38 trivial rfl rfl

theorem dX1_has_0 : decode cX1_has 0 = .ok (.iload_n 1, 1) := by decide +kernel
theorem dX1_has_1 : decode cX1_has 1 = .ok (.ifCond .lt 15, 3) := by decide +kernel
theorem dX1_has_4 : decode cX1_has 4 = .ok (.iload_n 1, 1) := by decide +kernel
theorem dX1_has_5 : decode cX1_has 5 = .ok (.aload_n 0, 1) := by decide +kernel
theorem dX1_has_6 : decode cX1_has 6 = .ok (.getfield 47, 3) := by decide +kernel
theorem dX1_has_9 : decode cX1_has 9 = .ok (.if_icmp .ge 7, 3) := by decide +kernel
theorem dX1_has_12 : decode cX1_has 12 = .ok (.iconst 1, 1) := by decide +kernel
theorem dX1_has_13 : decode cX1_has 13 = .ok (.goto 4, 3) := by decide +kernel
theorem dX1_has_16 : decode cX1_has 16 = .ok (.iconst 0, 1) := by decide +kernel
theorem dX1_has_17 : decode cX1_has 17 = .ok (.ireturn, 1) := by decide +kernel
def X1_has (i0 : Nat) (v1 : Int32) (M : Mem) : Int32 := (if v1 < 0 then 0 else (if v1 < (M 1 i0 5) then 1 else 0))
set_option maxRecDepth 100000 in
set_option maxHeartbeats 4000000 in
theorem X1_has_ok  {i0 : Nat} {v1 : Int32} {M N : Mem} {res : Int32} (hi0 : i0 < 3) (h : X1_has i0 v1 M = res) : Spec mt_X1_has 0 [.inr (.inr (1, i0)), .inl v1] (M, N) (some (.inl res)) (M, N) := by
  unfold X1_has at h
  refine Spec_of_G (by decide) rfl (Nat.le_of_ble_eq_true rfl) ?_
  refine G_sub [(0, .inr (.inr (1, i0))), (1, .inl v1)] [0, 1] rfl ?_
  refine G_iload_n dX1_has_0 rfl ?_
  refine G_if_lt (tgt := 16) dX1_has_1 (by decide) (fun hc1 => ?_) (fun hc1 => ?_)
  · replace h := (if_pos hc1).symm.trans h
    refine G_iconst (v := 0) dX1_has_16 (by decide) ?_
    subst h
    exact G_ret dX1_has_17 (Or.inl rfl) rfl rfl
  · replace h := (if_neg hc1).symm.trans h
    refine G_iload_n dX1_has_4 rfl ?_
    refine G_aload_n dX1_has_5 rfl ?_
    refine fg_X1_47 (v := (M 1 i0 5)) rfl rfl hi0 dX1_has_6 ?_
    refine G_icmp_ge (tgt := 16) dX1_has_9 (by decide) (fun hc2 => ?_) (fun hc2 => ?_)
    · replace h := (if_neg hc2).symm.trans h
      refine G_iconst (v := 0) dX1_has_16 (by decide) ?_
      subst h
      exact G_ret dX1_has_17 (Or.inl rfl) rfl rfl
    · replace h := (if_pos hc2).symm.trans h
      refine G_iconst (v := 1) dX1_has_12 (by decide) ?_
      refine G_goto (tgt := 17) dX1_has_13 (by decide) ?_
      subst h
      exact G_ret dX1_has_17 (Or.inr rfl) rfl rfl
theorem X1_has_z {i0 : Nat} {v1 : Int32} {M : Mem} : X1_has i0 v1 M = 0 ∨ X1_has i0 v1 M = 1 := by
  unfold X1_has
  (repeat' split) <;> first | exact Or.inl rfl | exact Or.inr rfl | exact X8_in_z

theorem dX4_next_0 : decode cX4_next 0 = .ok (.aload_n 0, 1) := by decide +kernel
theorem dX4_next_1 : decode cX4_next 1 = .ok (.getfield 44, 3) := by decide +kernel
theorem dX4_next_4 : decode cX4_next 4 = .ok (.aload_n 0, 1) := by decide +kernel
theorem dX4_next_5 : decode cX4_next 5 = .ok (.getfield 31, 3) := by decide +kernel
theorem dX4_next_8 : decode cX4_next 8 = .ok (.if_icmp .ge 24, 3) := by decide +kernel
theorem dX4_next_11 : decode cX4_next 11 = .ok (.aload_n 0, 1) := by decide +kernel
theorem dX4_next_12 : decode cX4_next 12 = .ok (.getfield 44, 3) := by decide +kernel
theorem dX4_next_15 : decode cX4_next 15 = .ok (.bipush 50, 2) := by decide +kernel
theorem dX4_next_17 : decode cX4_next 17 = .ok (.if_icmp .ge 15, 3) := by decide +kernel
theorem dX4_next_20 : decode cX4_next 20 = .ok (.aload_n 0, 1) := by decide +kernel
theorem dX4_next_21 : decode cX4_next 21 = .ok (.getfield 18, 3) := by decide +kernel
theorem dX4_next_24 : decode cX4_next 24 = .ok (.aload_n 0, 1) := by decide +kernel
theorem dX4_next_25 : decode cX4_next 25 = .ok (.getfield 44, 3) := by decide +kernel
theorem dX4_next_28 : decode cX4_next 28 = .ok (.baload, 1) := by decide +kernel
theorem dX4_next_29 : decode cX4_next 29 = .ok (.goto 4, 3) := by decide +kernel
theorem dX4_next_32 : decode cX4_next 32 = .ok (.iconst 0, 1) := by decide +kernel
theorem dX4_next_33 : decode cX4_next 33 = .ok (.ireturn, 1) := by decide +kernel
def X4_next  (M : Mem) : Option (Int32) := (if (M 4 0 4) < (M 4 0 2) then (if (M 4 0 4) < 50 then (if ib (M 4 0 4) 50 = true then (some (nbB (M 8 2 ((M 4 0 4).toNatClampNeg)))) else none) else (some 0)) else (some 0))
set_option maxRecDepth 100000 in
set_option maxHeartbeats 4000000 in
theorem X4_next_ok  {M N : Mem} {res : Int32} (h : X4_next M = some res) : Spec mt_X4_next 0 [.inr (.inr (4, 0))] (M, N) (some (.inl res)) (M, N) := by
  unfold X4_next at h
  refine Spec_of_G (by decide) rfl (Nat.le_of_ble_eq_true rfl) ?_
  refine G_sub [(0, .inr (.inr (4, 0)))] [0] rfl ?_
  refine G_aload_n dX4_next_0 rfl ?_
  refine fg_X4_44 (v := (M 4 0 4)) rfl rfl (by decide) dX4_next_1 ?_
  refine G_aload_n dX4_next_4 rfl ?_
  refine fg_X4_31 (v := (M 4 0 2)) rfl rfl (by decide) dX4_next_5 ?_
  refine G_icmp_ge (tgt := 32) dX4_next_8 (by decide) (fun hc1 => ?_) (fun hc1 => ?_)
  · replace h := (if_neg hc1).symm.trans h
    refine G_iconst (v := 0) dX4_next_32 (by decide) ?_
    obtain rfl := Option.some.inj h
    exact G_ret dX4_next_33 trivial rfl rfl
  · replace h := (if_pos hc1).symm.trans h
    refine G_aload_n dX4_next_11 rfl ?_
    refine fg_X4_44 (v := (M 4 0 4)) rfl rfl (by decide) dX4_next_12 ?_
    refine G_bipush (v := 50) dX4_next_15 (by decide) ?_
    refine G_icmp_ge (tgt := 32) dX4_next_17 (by decide) (fun hc2 => ?_) (fun hc2 => ?_)
    · replace h := (if_neg hc2).symm.trans h
      refine G_iconst (v := 0) dX4_next_32 (by decide) ?_
      obtain rfl := Option.some.inj h
      exact G_ret dX4_next_33 trivial rfl rfl
    · replace h := (if_pos hc2).symm.trans h
      refine G_aload_n dX4_next_20 rfl ?_
      refine fg_X4_18 rfl (by decide) dX4_next_21 ?_
      refine G_aload_n dX4_next_24 rfl ?_
      refine fg_X4_44 (v := (M 4 0 4)) rfl rfl (by decide) dX4_next_25 ?_
      obtain ⟨hb1, h⟩ := chk h
      have lhb1 := ib_lt hb1
      refine al_8 (kk := (M 4 0 4).toNatClampNeg) (v := (nbB (M 8 2 ((M 4 0 4).toNatClampNeg)))) (by decide) hb1 rfl rfl dX4_next_28 ?_
      refine G_goto (tgt := 33) dX4_next_29 (by decide) ?_
      obtain rfl := Option.some.inj h
      exact G_ret dX4_next_33 trivial rfl rfl

theorem dX4_isDigit_0 : decode cX4_isDigit 0 = .ok (.iload_n 0, 1) := by decide +kernel
theorem dX4_isDigit_1 : decode cX4_isDigit 1 = .ok (.bipush 48, 2) := by decide +kernel
theorem dX4_isDigit_3 : decode cX4_isDigit 3 = .ok (.if_icmp .lt 13, 3) := by decide +kernel
theorem dX4_isDigit_6 : decode cX4_isDigit 6 = .ok (.iload_n 0, 1) := by decide +kernel
theorem dX4_isDigit_7 : decode cX4_isDigit 7 = .ok (.bipush 57, 2) := by decide +kernel
theorem dX4_isDigit_9 : decode cX4_isDigit 9 = .ok (.if_icmp .gt 7, 3) := by decide +kernel
theorem dX4_isDigit_12 : decode cX4_isDigit 12 = .ok (.iconst 1, 1) := by decide +kernel
theorem dX4_isDigit_13 : decode cX4_isDigit 13 = .ok (.goto 4, 3) := by decide +kernel
theorem dX4_isDigit_16 : decode cX4_isDigit 16 = .ok (.iconst 0, 1) := by decide +kernel
theorem dX4_isDigit_17 : decode cX4_isDigit 17 = .ok (.ireturn, 1) := by decide +kernel
def X4_isDigit (v0 : Int32) : Int32 := (if v0 < 48 then 0 else (if 57 < v0 then 0 else 1))
set_option maxRecDepth 100000 in
set_option maxHeartbeats 4000000 in
theorem X4_isDigit_ok  {v0 : Int32} {MM0 : MM} {res : Int32} (h : X4_isDigit v0 = res) : Spec mt_X4_isDigit 0 [.inl v0] MM0 (some (.inl res)) MM0 := by
  unfold X4_isDigit at h
  refine Spec_of_G (by decide) rfl (Nat.le_of_ble_eq_true rfl) ?_
  refine G_sub [(0, .inl v0)] [0] rfl ?_
  refine G_iload_n dX4_isDigit_0 rfl ?_
  refine G_bipush (v := 48) dX4_isDigit_1 (by decide) ?_
  refine G_icmp_lt (tgt := 16) dX4_isDigit_3 (by decide) (fun hc1 => ?_) (fun hc1 => ?_)
  · replace h := (if_pos hc1).symm.trans h
    refine G_iconst (v := 0) dX4_isDigit_16 (by decide) ?_
    subst h
    exact G_ret dX4_isDigit_17 (Or.inl rfl) rfl rfl
  · replace h := (if_neg hc1).symm.trans h
    refine G_iload_n dX4_isDigit_6 rfl ?_
    refine G_bipush (v := 57) dX4_isDigit_7 (by decide) ?_
    refine G_icmp_gt (tgt := 16) dX4_isDigit_9 (by decide) (fun hc2 => ?_) (fun hc2 => ?_)
    · replace h := (if_pos hc2).symm.trans h
      refine G_iconst (v := 0) dX4_isDigit_16 (by decide) ?_
      subst h
      exact G_ret dX4_isDigit_17 (Or.inl rfl) rfl rfl
    · replace h := (if_neg hc2).symm.trans h
      refine G_iconst (v := 1) dX4_isDigit_12 (by decide) ?_
      refine G_goto (tgt := 17) dX4_isDigit_13 (by decide) ?_
      subst h
      exact G_ret dX4_isDigit_17 (Or.inr rfl) rfl rfl
theorem X4_isDigit_z {v0 : Int32} : X4_isDigit v0 = 0 ∨ X4_isDigit v0 = 1 := by
  unfold X4_isDigit
  (repeat' split) <;> first | exact Or.inl rfl | exact Or.inr rfl | exact X8_in_z

theorem dX4_readNumber_0 : decode cX4_readNumber 0 = .ok (.iconst 0, 1) := by decide +kernel
theorem dX4_readNumber_1 : decode cX4_readNumber 1 = .ok (.istore_n 1, 1) := by decide +kernel
theorem dX4_readNumber_2 : decode cX4_readNumber 2 = .ok (.iconst 0, 1) := by decide +kernel
theorem dX4_readNumber_3 : decode cX4_readNumber 3 = .ok (.istore_n 2, 1) := by decide +kernel
theorem dX4_readNumber_4 : decode cX4_readNumber 4 = .ok (.iload_n 2, 1) := by decide +kernel
theorem dX4_readNumber_5 : decode cX4_readNumber 5 = .ok (.iconst 4, 1) := by decide +kernel
theorem dX4_readNumber_6 : decode cX4_readNumber 6 = .ok (.if_icmp .ge 42, 3) := by decide +kernel
theorem dX4_readNumber_9 : decode cX4_readNumber 9 = .ok (.aload_n 0, 1) := by decide +kernel
theorem dX4_readNumber_10 : decode cX4_readNumber 10 = .ok (.invokevirtual 58, 3) := by decide +kernel
theorem dX4_readNumber_13 : decode cX4_readNumber 13 = .ok (.invokestatic 70, 3) := by decide +kernel
theorem dX4_readNumber_16 : decode cX4_readNumber 16 = .ok (.ifCond .eq 32, 3) := by decide +kernel
theorem dX4_readNumber_19 : decode cX4_readNumber 19 = .ok (.iload_n 1, 1) := by decide +kernel
theorem dX4_readNumber_20 : decode cX4_readNumber 20 = .ok (.bipush 10, 2) := by decide +kernel
theorem dX4_readNumber_22 : decode cX4_readNumber 22 = .ok (.imul, 1) := by decide +kernel
theorem dX4_readNumber_23 : decode cX4_readNumber 23 = .ok (.aload_n 0, 1) := by decide +kernel
theorem dX4_readNumber_24 : decode cX4_readNumber 24 = .ok (.invokevirtual 58, 3) := by decide +kernel
theorem dX4_readNumber_27 : decode cX4_readNumber 27 = .ok (.iadd, 1) := by decide +kernel
theorem dX4_readNumber_28 : decode cX4_readNumber 28 = .ok (.bipush 48, 2) := by decide +kernel
theorem dX4_readNumber_30 : decode cX4_readNumber 30 = .ok (.isub, 1) := by decide +kernel
theorem dX4_readNumber_31 : decode cX4_readNumber 31 = .ok (.istore_n 1, 1) := by decide +kernel
theorem dX4_readNumber_32 : decode cX4_readNumber 32 = .ok (.aload_n 0, 1) := by decide +kernel
theorem dX4_readNumber_33 : decode cX4_readNumber 33 = .ok (.dup, 1) := by decide +kernel
theorem dX4_readNumber_34 : decode cX4_readNumber 34 = .ok (.getfield 44, 3) := by decide +kernel
theorem dX4_readNumber_37 : decode cX4_readNumber 37 = .ok (.iconst 1, 1) := by decide +kernel
theorem dX4_readNumber_38 : decode cX4_readNumber 38 = .ok (.iadd, 1) := by decide +kernel
theorem dX4_readNumber_39 : decode cX4_readNumber 39 = .ok (.putfield 44, 3) := by decide +kernel
theorem dX4_readNumber_42 : decode cX4_readNumber 42 = .ok (.iinc 2 1, 3) := by decide +kernel
theorem dX4_readNumber_45 : decode cX4_readNumber 45 = .ok (.goto (-41), 3) := by decide +kernel
theorem dX4_readNumber_48 : decode cX4_readNumber 48 = .ok (.aload_n 0, 1) := by decide +kernel
theorem dX4_readNumber_49 : decode cX4_readNumber 49 = .ok (.getfield 12, 3) := by decide +kernel
theorem dX4_readNumber_52 : decode cX4_readNumber 52 = .ok (.iload_n 1, 1) := by decide +kernel
theorem dX4_readNumber_53 : decode cX4_readNumber 53 = .ok (.invokevirtual 66, 3) := by decide +kernel
theorem dX4_readNumber_56 : decode cX4_readNumber 56 = .ok (.return_, 1) := by decide +kernel
def X4_readNumber_L4 : Nat → Int32 → Int32 → Mem → Option (Int32 × Mem)
  | 0, _, _, _ => none
  | fu + 1, v1, v2, M => (if v2 < 4 then ((X4_next M).bind fun q1 => (if (X4_isDigit q1) = 0 then (some (v1, M)) else ((X4_next M).bind fun q2 => (X4_readNumber_L4 fu (((v1 * 10) + q2) - 48) (v2 + 1) (up3 M 4 0 4 ((M 4 0 4) + 1)))))) else (some (v1, M)))
set_option maxRecDepth 100000 in
set_option maxHeartbeats 4000000 in
theorem X4_readNumber_L4_ok  {r : Option AV} {M' : MM} : ∀ (fu : Nat) (v1 : Int32) (v2 : Int32) (M N : Mem) {res : Int32 × Mem} (h : X4_readNumber_L4 fu v1 v2 M = some res) (K : G mt_X4_readNumber 1 r M' 48 [(0, .inr (.inr (4, 0))), (1, .inl res.1)] [] (res.2, N)), G mt_X4_readNumber 1 r M' 4 [(0, .inr (.inr (4, 0))), (1, .inl v1), (2, .inl v2)] [] (M, N) := by
  intro fu
  induction fu with
  | zero =>
    intro v1 v2 M N res h
    cases h
  | succ fu ih =>
    intro v1 v2 M N res h K
    replace h : (if v2 < 4 then ((X4_next M).bind fun q1 => (if (X4_isDigit q1) = 0 then (some (v1, M)) else ((X4_next M).bind fun q2 => (X4_readNumber_L4 fu (((v1 * 10) + q2) - 48) (v2 + 1) (up3 M 4 0 4 ((M 4 0 4) + 1)))))) else (some (v1, M))) = some res := h
    refine G_iload_n dX4_readNumber_4 rfl ?_
    refine G_iconst (v := 4) dX4_readNumber_5 (by decide) ?_
    refine G_icmp_ge (tgt := 48) dX4_readNumber_6 (by decide) (fun hc1 => ?_) (fun hc1 => ?_)
    · replace h := (if_neg hc1).symm.trans h
      refine G_sub [(0, .inr (.inr (4, 0))), (1, .inl v1)] [0, 1] rfl ?_
      obtain rfl := Option.some.inj h
      exact K
    · replace h := (if_pos hc1).symm.trans h
      refine G_aload_n dX4_readNumber_9 rfl ?_
      obtain ⟨q1, hq1, h⟩ := bnd h
      refine G_callVv (T := TX4) (N := 5) (f := 4) (i := 0) (X4_next_ok hq1) ok_X4_next ml_X4_58 (by decide) rfl (by decide) (by decide) (by decide) rfl rfl (Nat.le_of_ble_eq_true rfl) dX4_readNumber_10 ?_
      refine G_callSv  (X4_isDigit_ok rfl) ok_X4_isDigit ml_X4_70 (by decide) rfl rfl (Nat.le_of_ble_eq_true rfl) dX4_readNumber_13 ?_
      refine G_if_eq (tgt := 48) dX4_readNumber_16 (by decide) (fun hc2 => ?_) (fun hc2 => ?_)
      · replace h := (if_pos hc2).symm.trans h
        refine G_sub [(0, .inr (.inr (4, 0))), (1, .inl v1)] [0, 1] rfl ?_
        obtain rfl := Option.some.inj h
        exact K
      · replace h := (if_neg hc2).symm.trans h
        refine G_iload_n dX4_readNumber_19 rfl ?_
        refine G_bipush (v := 10) dX4_readNumber_20 (by decide) ?_
        refine G_imul dX4_readNumber_22 ?_
        refine G_aload_n dX4_readNumber_23 rfl ?_
        obtain ⟨q2, hq2, h⟩ := bnd h
        refine G_callVv (T := TX4) (N := 5) (f := 4) (i := 0) (X4_next_ok hq2) ok_X4_next ml_X4_58 (by decide) rfl (by decide) (by decide) (by decide) rfl rfl (Nat.le_of_ble_eq_true rfl) dX4_readNumber_24 ?_
        refine G_iadd dX4_readNumber_27 ?_
        refine G_bipush (v := 48) dX4_readNumber_28 (by decide) ?_
        refine G_isub dX4_readNumber_30 ?_
        refine G_istore_n (L2 := [(1, .inl (((v1 * 10) + q2) - 48)), (0, .inr (.inr (4, 0))), (2, .inl v2)]) dX4_readNumber_31 (by decide) rfl ?_
        refine G_aload_n dX4_readNumber_32 rfl ?_
        refine G_dup rfl dX4_readNumber_33 ?_
        refine fg_X4_44 (v := (M 4 0 4)) rfl rfl (by decide) dX4_readNumber_34 ?_
        refine G_iconst (v := 1) dX4_readNumber_37 (by decide) ?_
        refine G_iadd dX4_readNumber_38 ?_
        refine fp_X4_44 rfl (by decide) dX4_readNumber_39 ?_
        refine G_iinc (v := (v2 + 1)) (L2 := [(2, .inl (v2 + 1)), (1, .inl (((v1 * 10) + q2) - 48)), (0, .inr (.inr (4, 0)))]) dX4_readNumber_42 rfl (by first | rfl | (show _ + Int32.ofInt _ = _; rfl)) (by decide) rfl ?_
        refine G_goto (tgt := 4) dX4_readNumber_45 (by decide) ?_
        refine G_sub [(0, .inr (.inr (4, 0))), (1, .inl (((v1 * 10) + q2) - 48)), (2, .inl (v2 + 1))] [2, 1, 0] rfl ?_
        exact ih (((v1 * 10) + q2) - 48) (v2 + 1) (up3 M 4 0 4 ((M 4 0 4) + 1)) _  h K

def X4_readNumber_J48 (v1 : Int32) (M : Mem) : Option (Mem) := ((X2_add 6 v1 M).bind fun q4 => (some q4))
set_option maxRecDepth 100000 in
set_option maxHeartbeats 4000000 in
theorem X4_readNumber_J48_ok  {v1 : Int32} {M N : Mem} {res : Mem} (h : X4_readNumber_J48 v1 M = some res) : G mt_X4_readNumber 1 none (res, N) 48 [(0, .inr (.inr (4, 0))), (1, .inl v1)] [] (M, N) := by
  unfold X4_readNumber_J48 at h
  refine G_aload_n dX4_readNumber_48 rfl ?_
  refine fg_X4_12 rfl (by decide) dX4_readNumber_49 ?_
  refine G_iload_n dX4_readNumber_52 rfl ?_
  obtain ⟨q4, hq4, h⟩ := bnd h
  refine G_callVn (T := TX2) (N := 3) (f := 2) (i := 6) (X2_add_ok (by decide) hq4) ok_X2_add ml_X4_66 (by decide) rfl (by decide) (by decide) (by decide) rfl rfl (Nat.le_of_ble_eq_true rfl) dX4_readNumber_53 ?_
  obtain rfl := Option.some.inj h
  exact G_ret dX4_readNumber_56 trivial rfl rfl

def X4_readNumber  (M : Mem) : Option (Mem) := ((X4_readNumber_L4 400 0 0 M).bind fun q3 => (X4_readNumber_J48 q3.1 q3.2))
set_option maxRecDepth 100000 in
set_option maxHeartbeats 4000000 in
theorem X4_readNumber_ok  {M N : Mem} {res : Mem} (h : X4_readNumber M = some res) : Spec mt_X4_readNumber 1 [.inr (.inr (4, 0))] (M, N) none (res, N) := by
  unfold X4_readNumber at h
  refine Spec_of_G (by decide) rfl (Nat.le_of_ble_eq_true rfl) ?_
  refine G_sub [(0, .inr (.inr (4, 0)))] [0] rfl ?_
  refine G_iconst (v := 0) dX4_readNumber_0 (by decide) ?_
  refine G_istore_n (L2 := [(1, .inl 0), (0, .inr (.inr (4, 0)))]) dX4_readNumber_1 (by decide) rfl ?_
  refine G_iconst (v := 0) dX4_readNumber_2 (by decide) ?_
  refine G_istore_n (L2 := [(2, .inl 0), (1, .inl 0), (0, .inr (.inr (4, 0)))]) dX4_readNumber_3 (by decide) rfl ?_
  refine G_sub [(0, .inr (.inr (4, 0))), (1, .inl 0), (2, .inl 0)] [2, 1, 0] rfl ?_
  obtain ⟨q3, hq3, h⟩ := bnd h
  refine X4_readNumber_L4_ok  400 0 0 M _  hq3 ?_
  exact X4_readNumber_J48_ok   h

theorem dX4_nameOf_0 : decode cX4_nameOf 0 = .ok (.iload_n 1, 1) := by decide +kernel
theorem dX4_nameOf_1 : decode cX4_nameOf 1 = .ok (.lookupswitch 107 #[(99, 53), (104, 66), (110, 93), (117, 51), (121, 79)], 51) := by decide +kernel
theorem dX4_nameOf_52 : decode cX4_nameOf 52 = .ok (.iconst 1, 1) := by decide +kernel
theorem dX4_nameOf_53 : decode cX4_nameOf 53 = .ok (.ireturn, 1) := by decide +kernel
theorem dX4_nameOf_54 : decode cX4_nameOf 54 = .ok (.aload_n 0, 1) := by decide +kernel
theorem dX4_nameOf_55 : decode cX4_nameOf 55 = .ok (.getfield 41, 3) := by decide +kernel
theorem dX4_nameOf_58 : decode cX4_nameOf 58 = .ok (.ifCond .ne 7, 3) := by decide +kernel
theorem dX4_nameOf_61 : decode cX4_nameOf 61 = .ok (.iconst 2, 1) := by decide +kernel
theorem dX4_nameOf_62 : decode cX4_nameOf 62 = .ok (.goto 4, 3) := by decide +kernel
theorem dX4_nameOf_65 : decode cX4_nameOf 65 = .ok (.iconst 0, 1) := by decide +kernel
theorem dX4_nameOf_66 : decode cX4_nameOf 66 = .ok (.ireturn, 1) := by decide +kernel
theorem dX4_nameOf_67 : decode cX4_nameOf 67 = .ok (.aload_n 0, 1) := by decide +kernel
theorem dX4_nameOf_68 : decode cX4_nameOf 68 = .ok (.getfield 41, 3) := by decide +kernel
theorem dX4_nameOf_71 : decode cX4_nameOf 71 = .ok (.ifCond .ne 7, 3) := by decide +kernel
theorem dX4_nameOf_74 : decode cX4_nameOf 74 = .ok (.iconst 3, 1) := by decide +kernel
theorem dX4_nameOf_75 : decode cX4_nameOf 75 = .ok (.goto 4, 3) := by decide +kernel
theorem dX4_nameOf_78 : decode cX4_nameOf 78 = .ok (.iconst 0, 1) := by decide +kernel
theorem dX4_nameOf_79 : decode cX4_nameOf 79 = .ok (.ireturn, 1) := by decide +kernel
theorem dX4_nameOf_80 : decode cX4_nameOf 80 = .ok (.aload_n 0, 1) := by decide +kernel
theorem dX4_nameOf_81 : decode cX4_nameOf 81 = .ok (.getfield 41, 3) := by decide +kernel
theorem dX4_nameOf_84 : decode cX4_nameOf 84 = .ok (.iconst 1, 1) := by decide +kernel
theorem dX4_nameOf_85 : decode cX4_nameOf 85 = .ok (.if_icmp .ne 7, 3) := by decide +kernel
theorem dX4_nameOf_88 : decode cX4_nameOf 88 = .ok (.iconst 2, 1) := by decide +kernel
theorem dX4_nameOf_89 : decode cX4_nameOf 89 = .ok (.goto 4, 3) := by decide +kernel
theorem dX4_nameOf_92 : decode cX4_nameOf 92 = .ok (.iconst 0, 1) := by decide +kernel
theorem dX4_nameOf_93 : decode cX4_nameOf 93 = .ok (.ireturn, 1) := by decide +kernel
theorem dX4_nameOf_94 : decode cX4_nameOf 94 = .ok (.aload_n 0, 1) := by decide +kernel
theorem dX4_nameOf_95 : decode cX4_nameOf 95 = .ok (.getfield 41, 3) := by decide +kernel
theorem dX4_nameOf_98 : decode cX4_nameOf 98 = .ok (.iconst 1, 1) := by decide +kernel
theorem dX4_nameOf_99 : decode cX4_nameOf 99 = .ok (.if_icmp .ne 7, 3) := by decide +kernel
theorem dX4_nameOf_102 : decode cX4_nameOf 102 = .ok (.iconst 3, 1) := by decide +kernel
theorem dX4_nameOf_103 : decode cX4_nameOf 103 = .ok (.goto 4, 3) := by decide +kernel
theorem dX4_nameOf_106 : decode cX4_nameOf 106 = .ok (.iconst 0, 1) := by decide +kernel
theorem dX4_nameOf_107 : decode cX4_nameOf 107 = .ok (.ireturn, 1) := by decide +kernel
theorem dX4_nameOf_108 : decode cX4_nameOf 108 = .ok (.iconst 0, 1) := by decide +kernel
theorem dX4_nameOf_109 : decode cX4_nameOf 109 = .ok (.ireturn, 1) := by decide +kernel
def X4_nameOf (v1 : Int32) (M : Mem) : Int32 := (if v1 = 99 then (if (M 4 0 3) = 0 then 2 else 0) else (if v1 = 104 then (if (M 4 0 3) = 0 then 3 else 0) else (if v1 = 110 then (if (M 4 0 3) = 1 then 3 else 0) else (if v1 = 117 then 1 else (if v1 = 121 then (if (M 4 0 3) = 1 then 2 else 0) else 0)))))
set_option maxRecDepth 100000 in
set_option maxHeartbeats 4000000 in
theorem X4_nameOf_ok  {v1 : Int32} {M N : Mem} {res : Int32} (h : X4_nameOf v1 M = res) : Spec mt_X4_nameOf 0 [.inr (.inr (4, 0)), .inl v1] (M, N) (some (.inl res)) (M, N) := by
  unfold X4_nameOf at h
  refine Spec_of_G (by decide) rfl (Nat.le_of_ble_eq_true rfl) ?_
  refine G_sub [(0, .inr (.inr (4, 0))), (1, .inl v1)] [0, 1] rfl ?_
  refine G_iload_n dX4_nameOf_0 rfl ?_
  by_cases hc1 : v1 = 99
  · replace h := (if_pos hc1).symm.trans h
    refine G_lookEq (off := 53) (tgt := 54) hc1 dX4_nameOf_1 (by decide) (by decide) (by decide) ?_
    refine G_aload_n dX4_nameOf_54 rfl ?_
    refine fg_X4_41 (v := (M 4 0 3)) rfl rfl (by decide) dX4_nameOf_55 ?_
    refine G_if_ne (tgt := 65) dX4_nameOf_58 (by decide) (fun hc2 => ?_) (fun hc2 => ?_)
    · replace h := (if_neg hc2).symm.trans h
      refine G_iconst (v := 0) dX4_nameOf_65 (by decide) ?_
      subst h
      exact G_ret dX4_nameOf_66 trivial rfl rfl
    · replace h := (if_pos hc2).symm.trans h
      refine G_iconst (v := 2) dX4_nameOf_61 (by decide) ?_
      refine G_goto (tgt := 66) dX4_nameOf_62 (by decide) ?_
      subst h
      exact G_ret dX4_nameOf_66 trivial rfl rfl
  replace h := (if_neg hc1).symm.trans h
  by_cases hc3 : v1 = 104
  · replace h := (if_pos hc3).symm.trans h
    refine G_lookEq (off := 66) (tgt := 67) hc3 dX4_nameOf_1 (by decide) (by decide) (by decide) ?_
    refine G_aload_n dX4_nameOf_67 rfl ?_
    refine fg_X4_41 (v := (M 4 0 3)) rfl rfl (by decide) dX4_nameOf_68 ?_
    refine G_if_ne (tgt := 78) dX4_nameOf_71 (by decide) (fun hc4 => ?_) (fun hc4 => ?_)
    · replace h := (if_neg hc4).symm.trans h
      refine G_iconst (v := 0) dX4_nameOf_78 (by decide) ?_
      subst h
      exact G_ret dX4_nameOf_79 trivial rfl rfl
    · replace h := (if_pos hc4).symm.trans h
      refine G_iconst (v := 3) dX4_nameOf_74 (by decide) ?_
      refine G_goto (tgt := 79) dX4_nameOf_75 (by decide) ?_
      subst h
      exact G_ret dX4_nameOf_79 trivial rfl rfl
  replace h := (if_neg hc3).symm.trans h
  by_cases hc5 : v1 = 110
  · replace h := (if_pos hc5).symm.trans h
    refine G_lookEq (off := 93) (tgt := 94) hc5 dX4_nameOf_1 (by decide) (by decide) (by decide) ?_
    refine G_aload_n dX4_nameOf_94 rfl ?_
    refine fg_X4_41 (v := (M 4 0 3)) rfl rfl (by decide) dX4_nameOf_95 ?_
    refine G_iconst (v := 1) dX4_nameOf_98 (by decide) ?_
    refine G_icmp_ne (tgt := 106) dX4_nameOf_99 (by decide) (fun hc6 => ?_) (fun hc6 => ?_)
    · replace h := (if_neg hc6).symm.trans h
      refine G_iconst (v := 0) dX4_nameOf_106 (by decide) ?_
      subst h
      exact G_ret dX4_nameOf_107 trivial rfl rfl
    · replace h := (if_pos hc6).symm.trans h
      refine G_iconst (v := 3) dX4_nameOf_102 (by decide) ?_
      refine G_goto (tgt := 107) dX4_nameOf_103 (by decide) ?_
      subst h
      exact G_ret dX4_nameOf_107 trivial rfl rfl
  replace h := (if_neg hc5).symm.trans h
  by_cases hc7 : v1 = 117
  · replace h := (if_pos hc7).symm.trans h
    refine G_lookEq (off := 51) (tgt := 52) hc7 dX4_nameOf_1 (by decide) (by decide) (by decide) ?_
    refine G_iconst (v := 1) dX4_nameOf_52 (by decide) ?_
    subst h
    exact G_ret dX4_nameOf_53 trivial rfl rfl
  replace h := (if_neg hc7).symm.trans h
  by_cases hc8 : v1 = 121
  · replace h := (if_pos hc8).symm.trans h
    refine G_lookEq (off := 79) (tgt := 80) hc8 dX4_nameOf_1 (by decide) (by decide) (by decide) ?_
    refine G_aload_n dX4_nameOf_80 rfl ?_
    refine fg_X4_41 (v := (M 4 0 3)) rfl rfl (by decide) dX4_nameOf_81 ?_
    refine G_iconst (v := 1) dX4_nameOf_84 (by decide) ?_
    refine G_icmp_ne (tgt := 92) dX4_nameOf_85 (by decide) (fun hc9 => ?_) (fun hc9 => ?_)
    · replace h := (if_neg hc9).symm.trans h
      refine G_iconst (v := 0) dX4_nameOf_92 (by decide) ?_
      subst h
      exact G_ret dX4_nameOf_93 trivial rfl rfl
    · replace h := (if_pos hc9).symm.trans h
      refine G_iconst (v := 2) dX4_nameOf_88 (by decide) ?_
      refine G_goto (tgt := 93) dX4_nameOf_89 (by decide) ?_
      subst h
      exact G_ret dX4_nameOf_93 trivial rfl rfl
  replace h := (if_neg hc8).symm.trans h
  have nhc1 := ne_lit (n := 99) (by decide) hc1
  have nhc3 := ne_lit (n := 104) (by decide) hc3
  have nhc5 := ne_lit (n := 110) (by decide) hc5
  have nhc7 := ne_lit (n := 117) (by decide) hc7
  have nhc8 := ne_lit (n := 121) (by decide) hc8
  refine G_lookup (off := 107) (tgt := 108) dX4_nameOf_1 (by decide) (by generalize (v1 : Int32).toInt = zz at nhc1 nhc3 nhc5 nhc7 nhc8 ⊢; simp [Op.lookupswitch.offset, Ne.symm nhc1, Ne.symm nhc3, Ne.symm nhc5, Ne.symm nhc7, Ne.symm nhc8]; done) (by decide) ?_
  refine G_iconst (v := 0) dX4_nameOf_108 (by decide) ?_
  subst h
  exact G_ret dX4_nameOf_109 trivial rfl rfl

theorem dX4_levelOf_0 : decode cX4_levelOf 0 = .ok (.iload_n 0, 1) := by decide +kernel
theorem dX4_levelOf_1 : decode cX4_levelOf 1 = .ok (.lookupswitch 101 #[(37, 99), (38, 93), (42, 99), (43, 97), (45, 97), (47, 99), (60, 95), (61, 95), (62, 95), (124, 91)], 91) := by decide +kernel
theorem dX4_levelOf_92 : decode cX4_levelOf 92 = .ok (.iconst 0, 1) := by decide +kernel
theorem dX4_levelOf_93 : decode cX4_levelOf 93 = .ok (.ireturn, 1) := by decide +kernel
theorem dX4_levelOf_94 : decode cX4_levelOf 94 = .ok (.iconst 1, 1) := by decide +kernel
theorem dX4_levelOf_95 : decode cX4_levelOf 95 = .ok (.ireturn, 1) := by decide +kernel
theorem dX4_levelOf_96 : decode cX4_levelOf 96 = .ok (.iconst 2, 1) := by decide +kernel
theorem dX4_levelOf_97 : decode cX4_levelOf 97 = .ok (.ireturn, 1) := by decide +kernel
theorem dX4_levelOf_98 : decode cX4_levelOf 98 = .ok (.iconst 3, 1) := by decide +kernel
theorem dX4_levelOf_99 : decode cX4_levelOf 99 = .ok (.ireturn, 1) := by decide +kernel
theorem dX4_levelOf_100 : decode cX4_levelOf 100 = .ok (.iconst 4, 1) := by decide +kernel
theorem dX4_levelOf_101 : decode cX4_levelOf 101 = .ok (.ireturn, 1) := by decide +kernel
theorem dX4_levelOf_102 : decode cX4_levelOf 102 = .ok (.iconst (-1), 1) := by decide +kernel
theorem dX4_levelOf_103 : decode cX4_levelOf 103 = .ok (.ireturn, 1) := by decide +kernel
def X4_levelOf (v0 : Int32) : Int32 := (if v0 = 37 then 4 else (if v0 = 38 then 1 else (if v0 = 42 then 4 else (if v0 = 43 then 3 else (if v0 = 45 then 3 else (if v0 = 47 then 4 else (if v0 = 60 then 2 else (if v0 = 61 then 2 else (if v0 = 62 then 2 else (if v0 = 124 then 0 else (-1)))))))))))
set_option maxRecDepth 100000 in
set_option maxHeartbeats 4000000 in
theorem X4_levelOf_ok  {v0 : Int32} {MM0 : MM} {res : Int32} (h : X4_levelOf v0 = res) : Spec mt_X4_levelOf 0 [.inl v0] MM0 (some (.inl res)) MM0 := by
  unfold X4_levelOf at h
  refine Spec_of_G (by decide) rfl (Nat.le_of_ble_eq_true rfl) ?_
  refine G_sub [(0, .inl v0)] [0] rfl ?_
  refine G_iload_n dX4_levelOf_0 rfl ?_
  by_cases hc1 : v0 = 37
  · replace h := (if_pos hc1).symm.trans h
    refine G_lookEq (off := 99) (tgt := 100) hc1 dX4_levelOf_1 (by decide) (by decide) (by decide) ?_
    refine G_iconst (v := 4) dX4_levelOf_100 (by decide) ?_
    subst h
    exact G_ret dX4_levelOf_101 trivial rfl rfl
  replace h := (if_neg hc1).symm.trans h
  by_cases hc2 : v0 = 38
  · replace h := (if_pos hc2).symm.trans h
    refine G_lookEq (off := 93) (tgt := 94) hc2 dX4_levelOf_1 (by decide) (by decide) (by decide) ?_
    refine G_iconst (v := 1) dX4_levelOf_94 (by decide) ?_
    subst h
    exact G_ret dX4_levelOf_95 trivial rfl rfl
  replace h := (if_neg hc2).symm.trans h
  by_cases hc3 : v0 = 42
  · replace h := (if_pos hc3).symm.trans h
    refine G_lookEq (off := 99) (tgt := 100) hc3 dX4_levelOf_1 (by decide) (by decide) (by decide) ?_
    refine G_iconst (v := 4) dX4_levelOf_100 (by decide) ?_
    subst h
    exact G_ret dX4_levelOf_101 trivial rfl rfl
  replace h := (if_neg hc3).symm.trans h
  by_cases hc4 : v0 = 43
  · replace h := (if_pos hc4).symm.trans h
    refine G_lookEq (off := 97) (tgt := 98) hc4 dX4_levelOf_1 (by decide) (by decide) (by decide) ?_
    refine G_iconst (v := 3) dX4_levelOf_98 (by decide) ?_
    subst h
    exact G_ret dX4_levelOf_99 trivial rfl rfl
  replace h := (if_neg hc4).symm.trans h
  by_cases hc5 : v0 = 45
  · replace h := (if_pos hc5).symm.trans h
    refine G_lookEq (off := 97) (tgt := 98) hc5 dX4_levelOf_1 (by decide) (by decide) (by decide) ?_
    refine G_iconst (v := 3) dX4_levelOf_98 (by decide) ?_
    subst h
    exact G_ret dX4_levelOf_99 trivial rfl rfl
  replace h := (if_neg hc5).symm.trans h
  by_cases hc6 : v0 = 47
  · replace h := (if_pos hc6).symm.trans h
    refine G_lookEq (off := 99) (tgt := 100) hc6 dX4_levelOf_1 (by decide) (by decide) (by decide) ?_
    refine G_iconst (v := 4) dX4_levelOf_100 (by decide) ?_
    subst h
    exact G_ret dX4_levelOf_101 trivial rfl rfl
  replace h := (if_neg hc6).symm.trans h
  by_cases hc7 : v0 = 60
  · replace h := (if_pos hc7).symm.trans h
    refine G_lookEq (off := 95) (tgt := 96) hc7 dX4_levelOf_1 (by decide) (by decide) (by decide) ?_
    refine G_iconst (v := 2) dX4_levelOf_96 (by decide) ?_
    subst h
    exact G_ret dX4_levelOf_97 trivial rfl rfl
  replace h := (if_neg hc7).symm.trans h
  by_cases hc8 : v0 = 61
  · replace h := (if_pos hc8).symm.trans h
    refine G_lookEq (off := 95) (tgt := 96) hc8 dX4_levelOf_1 (by decide) (by decide) (by decide) ?_
    refine G_iconst (v := 2) dX4_levelOf_96 (by decide) ?_
    subst h
    exact G_ret dX4_levelOf_97 trivial rfl rfl
  replace h := (if_neg hc8).symm.trans h
  by_cases hc9 : v0 = 62
  · replace h := (if_pos hc9).symm.trans h
    refine G_lookEq (off := 95) (tgt := 96) hc9 dX4_levelOf_1 (by decide) (by decide) (by decide) ?_
    refine G_iconst (v := 2) dX4_levelOf_96 (by decide) ?_
    subst h
    exact G_ret dX4_levelOf_97 trivial rfl rfl
  replace h := (if_neg hc9).symm.trans h
  by_cases hc10 : v0 = 124
  · replace h := (if_pos hc10).symm.trans h
    refine G_lookEq (off := 91) (tgt := 92) hc10 dX4_levelOf_1 (by decide) (by decide) (by decide) ?_
    refine G_iconst (v := 0) dX4_levelOf_92 (by decide) ?_
    subst h
    exact G_ret dX4_levelOf_93 trivial rfl rfl
  replace h := (if_neg hc10).symm.trans h
  have nhc1 := ne_lit (n := 37) (by decide) hc1
  have nhc2 := ne_lit (n := 38) (by decide) hc2
  have nhc3 := ne_lit (n := 42) (by decide) hc3
  have nhc4 := ne_lit (n := 43) (by decide) hc4
  have nhc5 := ne_lit (n := 45) (by decide) hc5
  have nhc6 := ne_lit (n := 47) (by decide) hc6
  have nhc7 := ne_lit (n := 60) (by decide) hc7
  have nhc8 := ne_lit (n := 61) (by decide) hc8
  have nhc9 := ne_lit (n := 62) (by decide) hc9
  have nhc10 := ne_lit (n := 124) (by decide) hc10
  refine G_lookup (off := 101) (tgt := 102) dX4_levelOf_1 (by decide) (by generalize (v0 : Int32).toInt = zz at nhc1 nhc2 nhc3 nhc4 nhc5 nhc6 nhc7 nhc8 nhc9 nhc10 ⊢; simp [Op.lookupswitch.offset, Ne.symm nhc1, Ne.symm nhc2, Ne.symm nhc3, Ne.symm nhc4, Ne.symm nhc5, Ne.symm nhc6, Ne.symm nhc7, Ne.symm nhc8, Ne.symm nhc9, Ne.symm nhc10]; done) (by decide) ?_
  refine G_iconst (v := (-1)) dX4_levelOf_102 (by decide) ?_
  subst h
  exact G_ret dX4_levelOf_103 trivial rfl rfl

theorem dX4_readLevel_0 : decode cX4_readLevel 0 = .ok (.iload_n 1, 1) := by decide +kernel
theorem dX4_readLevel_1 : decode cX4_readLevel 1 = .ok (.iconst 5, 1) := by decide +kernel
theorem dX4_readLevel_2 : decode cX4_readLevel 2 = .ok (.if_icmp .lt 9, 3) := by decide +kernel
theorem dX4_readLevel_5 : decode cX4_readLevel 5 = .ok (.aload_n 0, 1) := by decide +kernel
theorem dX4_readLevel_6 : decode cX4_readLevel 6 = .ok (.iload_n 2, 1) := by decide +kernel
theorem dX4_readLevel_7 : decode cX4_readLevel 7 = .ok (.invokevirtual 54, 3) := by decide +kernel
theorem dX4_readLevel_10 : decode cX4_readLevel 10 = .ok (.ireturn, 1) := by decide +kernel
theorem dX4_readLevel_11 : decode cX4_readLevel 11 = .ok (.aload_n 0, 1) := by decide +kernel
theorem dX4_readLevel_12 : decode cX4_readLevel 12 = .ok (.iload_n 1, 1) := by decide +kernel
theorem dX4_readLevel_13 : decode cX4_readLevel 13 = .ok (.iconst 1, 1) := by decide +kernel
theorem dX4_readLevel_14 : decode cX4_readLevel 14 = .ok (.iadd, 1) := by decide +kernel
theorem dX4_readLevel_15 : decode cX4_readLevel 15 = .ok (.iload_n 2, 1) := by decide +kernel
theorem dX4_readLevel_16 : decode cX4_readLevel 16 = .ok (.invokevirtual 50, 3) := by decide +kernel
theorem dX4_readLevel_19 : decode cX4_readLevel 19 = .ok (.ifCond .ne 5, 3) := by decide +kernel
theorem dX4_readLevel_22 : decode cX4_readLevel 22 = .ok (.iconst 0, 1) := by decide +kernel
theorem dX4_readLevel_23 : decode cX4_readLevel 23 = .ok (.ireturn, 1) := by decide +kernel
theorem dX4_readLevel_24 : decode cX4_readLevel 24 = .ok (.iconst 0, 1) := by decide +kernel
theorem dX4_readLevel_25 : decode cX4_readLevel 25 = .ok (.istore_n 3, 1) := by decide +kernel
theorem dX4_readLevel_26 : decode cX4_readLevel 26 = .ok (.iload_n 3, 1) := by decide +kernel
theorem dX4_readLevel_27 : decode cX4_readLevel 27 = .ok (.bipush 50, 2) := by decide +kernel
theorem dX4_readLevel_29 : decode cX4_readLevel 29 = .ok (.if_icmp .ge 66, 3) := by decide +kernel
theorem dX4_readLevel_32 : decode cX4_readLevel 32 = .ok (.aload_n 0, 1) := by decide +kernel
theorem dX4_readLevel_33 : decode cX4_readLevel 33 = .ok (.invokevirtual 58, 3) := by decide +kernel
theorem dX4_readLevel_36 : decode cX4_readLevel 36 = .ok (.istore 4, 2) := by decide +kernel
theorem dX4_readLevel_38 : decode cX4_readLevel 38 = .ok (.iload 4, 2) := by decide +kernel
theorem dX4_readLevel_40 : decode cX4_readLevel 40 = .ok (.invokestatic 62, 3) := by decide +kernel
theorem dX4_readLevel_43 : decode cX4_readLevel 43 = .ok (.iload_n 1, 1) := by decide +kernel
theorem dX4_readLevel_44 : decode cX4_readLevel 44 = .ok (.if_icmp .eq 5, 3) := by decide +kernel
theorem dX4_readLevel_47 : decode cX4_readLevel 47 = .ok (.iconst 1, 1) := by decide +kernel
theorem dX4_readLevel_48 : decode cX4_readLevel 48 = .ok (.ireturn, 1) := by decide +kernel
theorem dX4_readLevel_49 : decode cX4_readLevel 49 = .ok (.aload_n 0, 1) := by decide +kernel
theorem dX4_readLevel_50 : decode cX4_readLevel 50 = .ok (.dup, 1) := by decide +kernel
theorem dX4_readLevel_51 : decode cX4_readLevel 51 = .ok (.getfield 44, 3) := by decide +kernel
theorem dX4_readLevel_54 : decode cX4_readLevel 54 = .ok (.iconst 1, 1) := by decide +kernel
theorem dX4_readLevel_55 : decode cX4_readLevel 55 = .ok (.iadd, 1) := by decide +kernel
theorem dX4_readLevel_56 : decode cX4_readLevel 56 = .ok (.putfield 44, 3) := by decide +kernel
theorem dX4_readLevel_59 : decode cX4_readLevel 59 = .ok (.aload_n 0, 1) := by decide +kernel
theorem dX4_readLevel_60 : decode cX4_readLevel 60 = .ok (.iload_n 1, 1) := by decide +kernel
theorem dX4_readLevel_61 : decode cX4_readLevel 61 = .ok (.iconst 1, 1) := by decide +kernel
theorem dX4_readLevel_62 : decode cX4_readLevel 62 = .ok (.iadd, 1) := by decide +kernel
theorem dX4_readLevel_63 : decode cX4_readLevel 63 = .ok (.iload_n 2, 1) := by decide +kernel
theorem dX4_readLevel_64 : decode cX4_readLevel 64 = .ok (.invokevirtual 50, 3) := by decide +kernel
theorem dX4_readLevel_67 : decode cX4_readLevel 67 = .ok (.ifCond .ne 5, 3) := by decide +kernel
theorem dX4_readLevel_70 : decode cX4_readLevel 70 = .ok (.iconst 0, 1) := by decide +kernel
theorem dX4_readLevel_71 : decode cX4_readLevel 71 = .ok (.ireturn, 1) := by decide +kernel
theorem dX4_readLevel_72 : decode cX4_readLevel 72 = .ok (.aload_n 0, 1) := by decide +kernel
theorem dX4_readLevel_73 : decode cX4_readLevel 73 = .ok (.getfield 12, 3) := by decide +kernel
theorem dX4_readLevel_76 : decode cX4_readLevel 76 = .ok (.iload 4, 2) := by decide +kernel
theorem dX4_readLevel_78 : decode cX4_readLevel 78 = .ok (.ineg, 1) := by decide +kernel
theorem dX4_readLevel_79 : decode cX4_readLevel 79 = .ok (.invokevirtual 66, 3) := by decide +kernel
theorem dX4_readLevel_82 : decode cX4_readLevel 82 = .ok (.iload_n 1, 1) := by decide +kernel
theorem dX4_readLevel_83 : decode cX4_readLevel 83 = .ok (.iconst 2, 1) := by decide +kernel
theorem dX4_readLevel_84 : decode cX4_readLevel 84 = .ok (.if_icmp .ne 5, 3) := by decide +kernel
theorem dX4_readLevel_87 : decode cX4_readLevel 87 = .ok (.iconst 1, 1) := by decide +kernel
theorem dX4_readLevel_88 : decode cX4_readLevel 88 = .ok (.ireturn, 1) := by decide +kernel
theorem dX4_readLevel_89 : decode cX4_readLevel 89 = .ok (.iinc 3 1, 3) := by decide +kernel
theorem dX4_readLevel_92 : decode cX4_readLevel 92 = .ok (.goto (-66), 3) := by decide +kernel
theorem dX4_readLevel_95 : decode cX4_readLevel 95 = .ok (.iconst 1, 1) := by decide +kernel
theorem dX4_readLevel_96 : decode cX4_readLevel 96 = .ok (.ireturn, 1) := by decide +kernel
theorem dX4_readLast_0 : decode cX4_readLast 0 = .ok (.aload_n 0, 1) := by decide +kernel
theorem dX4_readLast_1 : decode cX4_readLast 1 = .ok (.invokevirtual 58, 3) := by decide +kernel
theorem dX4_readLast_4 : decode cX4_readLast 4 = .ok (.istore_n 2, 1) := by decide +kernel
theorem dX4_readLast_5 : decode cX4_readLast 5 = .ok (.iload_n 2, 1) := by decide +kernel
theorem dX4_readLast_6 : decode cX4_readLast 6 = .ok (.invokestatic 70, 3) := by decide +kernel
theorem dX4_readLast_9 : decode cX4_readLast 9 = .ok (.ifCond .eq 9, 3) := by decide +kernel
theorem dX4_readLast_12 : decode cX4_readLast 12 = .ok (.aload_n 0, 1) := by decide +kernel
theorem dX4_readLast_13 : decode cX4_readLast 13 = .ok (.invokevirtual 73, 3) := by decide +kernel
theorem dX4_readLast_16 : decode cX4_readLast 16 = .ok (.iconst 1, 1) := by decide +kernel
theorem dX4_readLast_17 : decode cX4_readLast 17 = .ok (.ireturn, 1) := by decide +kernel
theorem dX4_readLast_18 : decode cX4_readLast 18 = .ok (.aload_n 0, 1) := by decide +kernel
theorem dX4_readLast_19 : decode cX4_readLast 19 = .ok (.iload_n 2, 1) := by decide +kernel
theorem dX4_readLast_20 : decode cX4_readLast 20 = .ok (.invokevirtual 76, 3) := by decide +kernel
theorem dX4_readLast_23 : decode cX4_readLast 23 = .ok (.istore_n 3, 1) := by decide +kernel
theorem dX4_readLast_24 : decode cX4_readLast 24 = .ok (.iload_n 3, 1) := by decide +kernel
theorem dX4_readLast_25 : decode cX4_readLast 25 = .ok (.ifCond .eq 24, 3) := by decide +kernel
theorem dX4_readLast_28 : decode cX4_readLast 28 = .ok (.aload_n 0, 1) := by decide +kernel
theorem dX4_readLast_29 : decode cX4_readLast 29 = .ok (.getfield 12, 3) := by decide +kernel
theorem dX4_readLast_32 : decode cX4_readLast 32 = .ok (.iload_n 3, 1) := by decide +kernel
theorem dX4_readLast_33 : decode cX4_readLast 33 = .ok (.ineg, 1) := by decide +kernel
theorem dX4_readLast_34 : decode cX4_readLast 34 = .ok (.invokevirtual 66, 3) := by decide +kernel
theorem dX4_readLast_37 : decode cX4_readLast 37 = .ok (.aload_n 0, 1) := by decide +kernel
theorem dX4_readLast_38 : decode cX4_readLast 38 = .ok (.dup, 1) := by decide +kernel
theorem dX4_readLast_39 : decode cX4_readLast 39 = .ok (.getfield 44, 3) := by decide +kernel
theorem dX4_readLast_42 : decode cX4_readLast 42 = .ok (.iconst 1, 1) := by decide +kernel
theorem dX4_readLast_43 : decode cX4_readLast 43 = .ok (.iadd, 1) := by decide +kernel
theorem dX4_readLast_44 : decode cX4_readLast 44 = .ok (.putfield 44, 3) := by decide +kernel
theorem dX4_readLast_47 : decode cX4_readLast 47 = .ok (.iconst 1, 1) := by decide +kernel
theorem dX4_readLast_48 : decode cX4_readLast 48 = .ok (.ireturn, 1) := by decide +kernel
theorem dX4_readLast_49 : decode cX4_readLast 49 = .ok (.iload_n 1, 1) := by decide +kernel
theorem dX4_readLast_50 : decode cX4_readLast 50 = .ok (.iconst 5, 1) := by decide +kernel
theorem dX4_readLast_51 : decode cX4_readLast 51 = .ok (.if_icmp .ge 15, 3) := by decide +kernel
theorem dX4_readLast_54 : decode cX4_readLast 54 = .ok (.iload_n 2, 1) := by decide +kernel
theorem dX4_readLast_55 : decode cX4_readLast 55 = .ok (.bipush 33, 2) := by decide +kernel
theorem dX4_readLast_57 : decode cX4_readLast 57 = .ok (.if_icmp .eq 11, 3) := by decide +kernel
theorem dX4_readLast_60 : decode cX4_readLast 60 = .ok (.iload_n 2, 1) := by decide +kernel
theorem dX4_readLast_61 : decode cX4_readLast 61 = .ok (.bipush 40, 2) := by decide +kernel
theorem dX4_readLast_63 : decode cX4_readLast 63 = .ok (.if_icmp .eq 5, 3) := by decide +kernel
theorem dX4_readLast_66 : decode cX4_readLast 66 = .ok (.iconst 0, 1) := by decide +kernel
theorem dX4_readLast_67 : decode cX4_readLast 67 = .ok (.ireturn, 1) := by decide +kernel
theorem dX4_readLast_68 : decode cX4_readLast 68 = .ok (.aload_n 0, 1) := by decide +kernel
theorem dX4_readLast_69 : decode cX4_readLast 69 = .ok (.dup, 1) := by decide +kernel
theorem dX4_readLast_70 : decode cX4_readLast 70 = .ok (.getfield 44, 3) := by decide +kernel
theorem dX4_readLast_73 : decode cX4_readLast 73 = .ok (.iconst 1, 1) := by decide +kernel
theorem dX4_readLast_74 : decode cX4_readLast 74 = .ok (.iadd, 1) := by decide +kernel
theorem dX4_readLast_75 : decode cX4_readLast 75 = .ok (.putfield 44, 3) := by decide +kernel
theorem dX4_readLast_78 : decode cX4_readLast 78 = .ok (.iload_n 2, 1) := by decide +kernel
theorem dX4_readLast_79 : decode cX4_readLast 79 = .ok (.bipush 33, 2) := by decide +kernel
theorem dX4_readLast_81 : decode cX4_readLast 81 = .ok (.if_icmp .ne 25, 3) := by decide +kernel
theorem dX4_readLast_84 : decode cX4_readLast 84 = .ok (.aload_n 0, 1) := by decide +kernel
theorem dX4_readLast_85 : decode cX4_readLast 85 = .ok (.iconst 5, 1) := by decide +kernel
theorem dX4_readLast_86 : decode cX4_readLast 86 = .ok (.iload_n 1, 1) := by decide +kernel
theorem dX4_readLast_87 : decode cX4_readLast 87 = .ok (.iconst 1, 1) := by decide +kernel
theorem dX4_readLast_88 : decode cX4_readLast 88 = .ok (.iadd, 1) := by decide +kernel
theorem dX4_readLast_89 : decode cX4_readLast 89 = .ok (.invokevirtual 50, 3) := by decide +kernel
theorem dX4_readLast_92 : decode cX4_readLast 92 = .ok (.istore 4, 2) := by decide +kernel
theorem dX4_readLast_94 : decode cX4_readLast 94 = .ok (.aload_n 0, 1) := by decide +kernel
theorem dX4_readLast_95 : decode cX4_readLast 95 = .ok (.getfield 12, 3) := by decide +kernel
theorem dX4_readLast_98 : decode cX4_readLast 98 = .ok (.bipush (-33), 2) := by decide +kernel
theorem dX4_readLast_100 : decode cX4_readLast 100 = .ok (.invokevirtual 66, 3) := by decide +kernel
theorem dX4_readLast_103 : decode cX4_readLast 103 = .ok (.iload 4, 2) := by decide +kernel
theorem dX4_readLast_105 : decode cX4_readLast 105 = .ok (.ireturn, 1) := by decide +kernel
theorem dX4_readLast_106 : decode cX4_readLast 106 = .ok (.aload_n 0, 1) := by decide +kernel
theorem dX4_readLast_107 : decode cX4_readLast 107 = .ok (.iconst 0, 1) := by decide +kernel
theorem dX4_readLast_108 : decode cX4_readLast 108 = .ok (.iload_n 1, 1) := by decide +kernel
theorem dX4_readLast_109 : decode cX4_readLast 109 = .ok (.iconst 1, 1) := by decide +kernel
theorem dX4_readLast_110 : decode cX4_readLast 110 = .ok (.iadd, 1) := by decide +kernel
theorem dX4_readLast_111 : decode cX4_readLast 111 = .ok (.invokevirtual 50, 3) := by decide +kernel
theorem dX4_readLast_114 : decode cX4_readLast 114 = .ok (.ifCond .eq 12, 3) := by decide +kernel
theorem dX4_readLast_117 : decode cX4_readLast 117 = .ok (.aload_n 0, 1) := by decide +kernel
theorem dX4_readLast_118 : decode cX4_readLast 118 = .ok (.invokevirtual 58, 3) := by decide +kernel
theorem dX4_readLast_121 : decode cX4_readLast 121 = .ok (.bipush 41, 2) := by decide +kernel
theorem dX4_readLast_123 : decode cX4_readLast 123 = .ok (.if_icmp .eq 5, 3) := by decide +kernel
theorem dX4_readLast_126 : decode cX4_readLast 126 = .ok (.iconst 0, 1) := by decide +kernel
theorem dX4_readLast_127 : decode cX4_readLast 127 = .ok (.ireturn, 1) := by decide +kernel
theorem dX4_readLast_128 : decode cX4_readLast 128 = .ok (.aload_n 0, 1) := by decide +kernel
theorem dX4_readLast_129 : decode cX4_readLast 129 = .ok (.dup, 1) := by decide +kernel
theorem dX4_readLast_130 : decode cX4_readLast 130 = .ok (.getfield 44, 3) := by decide +kernel
theorem dX4_readLast_133 : decode cX4_readLast 133 = .ok (.iconst 1, 1) := by decide +kernel
theorem dX4_readLast_134 : decode cX4_readLast 134 = .ok (.iadd, 1) := by decide +kernel
theorem dX4_readLast_135 : decode cX4_readLast 135 = .ok (.putfield 44, 3) := by decide +kernel
theorem dX4_readLast_138 : decode cX4_readLast 138 = .ok (.iconst 1, 1) := by decide +kernel
theorem dX4_readLast_139 : decode cX4_readLast 139 = .ok (.ireturn, 1) := by decide +kernel
def X4_readLevel_L26 (rc : Nat → Int32 → Int32 → Mem → Option (Int32 × Mem)) : Nat → Int32 → Int32 → Int32 → Mem → Option (Mem ⊕ (Int32 × Mem))
  | 0, _, _, _, _ => none
  | fu + 1, v1, v2, v3, M => (if v3 < 50 then ((X4_next M).bind fun q2 => (if (X4_levelOf q2) = v1 then ((rc 0 (v1 + 1) v2 (up3 M 4 0 4 ((M 4 0 4) + 1))).bind fun q3 => (if q3.1 = 0 then (some (.inr (0, q3.2))) else ((X2_add 6 (-q2) q3.2).bind fun q4 => (if v1 = 2 then (some (.inr (1, q4))) else (X4_readLevel_L26 rc fu v1 v2 (v3 + 1) q4))))) else (some (.inr (1, M))))) else (some (.inl M)))
set_option maxRecDepth 100000 in
set_option maxHeartbeats 4000000 in
theorem X4_readLevel_L26_ok (rc : Nat → Int32 → Int32 → Mem → Option (Int32 × Mem))  {d : Nat} (hd0 : 2 ≤ d) (hr0 : ∀ {a0 a1 : Int32} {M N : Mem} {res : Int32 × Mem}, rc 0 a0 a1 M = some res → Spec mt_X4_readLevel d [.inr (.inr (4, 0)), .inl a0, .inl a1] (M, N) (some (.inl res.1)) (res.2, N)) (hr1 : ∀ {a0 a1 : Int32} {M N : Mem} {res : Int32 × Mem}, rc 1 a0 a1 M = some res → Spec mt_X4_readLast d [.inr (.inr (4, 0)), .inl a0] (M, N) (some (.inl res.1)) (res.2, N)) {r : Option AV} {M' : MM} : ∀ (fu : Nat) (v1 : Int32) (v2 : Int32) (v3 : Int32) (M N : Mem) {res : (Mem) ⊕ (Int32 × Mem)} (h : X4_readLevel_L26 rc fu v1 v2 v3 M = some res) (K : ∀ q, res = .inl q → G mt_X4_readLevel (d + 1) r M' 95 [] [] (q, N)) (K2 : ∀ q, res = .inr q → r = (some (.inl q.1)) ∧ M' = (q.2, N)), G mt_X4_readLevel (d + 1) r M' 26 [(0, .inr (.inr (4, 0))), (1, .inl v1), (2, .inl v2), (3, .inl v3)] [] (M, N) := by
  intro fu
  induction fu with
  | zero =>
    intro v1 v2 v3 M N res h
    cases h
  | succ fu ih =>
    intro v1 v2 v3 M N res h K K2
    replace h : (if v3 < 50 then ((X4_next M).bind fun q2 => (if (X4_levelOf q2) = v1 then ((rc 0 (v1 + 1) v2 (up3 M 4 0 4 ((M 4 0 4) + 1))).bind fun q3 => (if q3.1 = 0 then (some (.inr (0, q3.2))) else ((X2_add 6 (-q2) q3.2).bind fun q4 => (if v1 = 2 then (some (.inr (1, q4))) else (X4_readLevel_L26 rc fu v1 v2 (v3 + 1) q4))))) else (some (.inr (1, M))))) else (some (.inl M))) = some res := h
    refine G_iload_n dX4_readLevel_26 rfl ?_
    refine G_bipush (v := 50) dX4_readLevel_27 (by decide) ?_
    refine G_icmp_ge (tgt := 95) dX4_readLevel_29 (by decide) (fun hc7 => ?_) (fun hc7 => ?_)
    · replace h := (if_neg hc7).symm.trans h
      refine G_sub [] [] rfl ?_
      exact K _ (Option.some.inj h).symm
    · replace h := (if_pos hc7).symm.trans h
      refine G_aload_n dX4_readLevel_32 rfl ?_
      obtain ⟨q2, hq2, h⟩ := bnd h
      refine G_callVv (T := TX4) (N := 5) (f := 4) (i := 0) (X4_next_ok hq2) ok_X4_next ml_X4_58 (by omega) rfl (by decide) (by decide) (by decide) rfl rfl (Nat.le_of_ble_eq_true rfl) dX4_readLevel_33 ?_
      refine G_istore (L2 := [(4, .inl q2), (0, .inr (.inr (4, 0))), (1, .inl v1), (2, .inl v2), (3, .inl v3)]) dX4_readLevel_36 (by decide) rfl ?_
      refine G_iload dX4_readLevel_38 rfl ?_
      refine G_callSv  (X4_levelOf_ok rfl) ok_X4_levelOf ml_X4_62 (by omega) rfl rfl (Nat.le_of_ble_eq_true rfl) dX4_readLevel_40 ?_
      refine G_iload_n dX4_readLevel_43 rfl ?_
      refine G_icmp_eq (tgt := 49) dX4_readLevel_44 (by decide) (fun hc8 => ?_) (fun hc8 => ?_)
      · replace h := (if_pos hc8).symm.trans h
        refine G_aload_n dX4_readLevel_49 rfl ?_
        refine G_dup rfl dX4_readLevel_50 ?_
        refine fg_X4_44 (v := (M 4 0 4)) rfl rfl (by decide) dX4_readLevel_51 ?_
        refine G_iconst (v := 1) dX4_readLevel_54 (by decide) ?_
        refine G_iadd dX4_readLevel_55 ?_
        refine fp_X4_44 rfl (by decide) dX4_readLevel_56 ?_
        refine G_aload_n dX4_readLevel_59 rfl ?_
        refine G_iload_n dX4_readLevel_60 rfl ?_
        refine G_iconst (v := 1) dX4_readLevel_61 (by decide) ?_
        refine G_iadd dX4_readLevel_62 ?_
        refine G_iload_n dX4_readLevel_63 rfl ?_
        obtain ⟨q3, hq3, h⟩ := bnd h
        refine G_callVv (T := TX4) (N := 5) (f := 4) (i := 0) (hr0 hq3) ok_X4_readLevel ml_X4_50 (by omega) rfl (by decide) (by decide) (by decide) rfl rfl (Nat.le_of_ble_eq_true rfl) dX4_readLevel_64 ?_
        refine G_if_ne (tgt := 72) dX4_readLevel_67 (by decide) (fun hc9 => ?_) (fun hc9 => ?_)
        · replace h := (if_neg hc9).symm.trans h
          refine G_aload_n dX4_readLevel_72 rfl ?_
          refine fg_X4_12 rfl (by decide) dX4_readLevel_73 ?_
          refine G_iload dX4_readLevel_76 rfl ?_
          refine G_ineg dX4_readLevel_78 ?_
          obtain ⟨q4, hq4, h⟩ := bnd h
          refine G_callVn (T := TX2) (N := 3) (f := 2) (i := 6) (X2_add_ok (by decide) hq4) ok_X2_add ml_X4_66 (by omega) rfl (by decide) (by decide) (by decide) rfl rfl (Nat.le_of_ble_eq_true rfl) dX4_readLevel_79 ?_
          refine G_iload_n dX4_readLevel_82 rfl ?_
          refine G_iconst (v := 2) dX4_readLevel_83 (by decide) ?_
          refine G_icmp_ne (tgt := 89) dX4_readLevel_84 (by decide) (fun hc10 => ?_) (fun hc10 => ?_)
          · replace h := (if_neg hc10).symm.trans h
            refine G_iinc (v := (v3 + 1)) (L2 := [(3, .inl (v3 + 1)), (4, .inl q2), (0, .inr (.inr (4, 0))), (1, .inl v1), (2, .inl v2)]) dX4_readLevel_89 rfl (by first | rfl | (show _ + Int32.ofInt _ = _; rfl)) (by decide) rfl ?_
            refine G_goto (tgt := 26) dX4_readLevel_92 (by decide) ?_
            refine G_sub [(0, .inr (.inr (4, 0))), (1, .inl v1), (2, .inl v2), (3, .inl (v3 + 1))] [2, 3, 4, 0] rfl ?_
            exact ih v1 v2 (v3 + 1) q4 _  h K K2
          · replace h := (if_pos hc10).symm.trans h
            refine G_iconst (v := 1) dX4_readLevel_87 (by decide) ?_
            obtain ⟨e1, e2⟩ := K2 _ (Option.some.inj h).symm
            subst e1; subst e2
            exact G_ret dX4_readLevel_88 (Or.inr rfl) rfl rfl
        · replace h := (if_pos hc9).symm.trans h
          refine G_iconst (v := 0) dX4_readLevel_70 (by decide) ?_
          obtain ⟨e1, e2⟩ := K2 _ (Option.some.inj h).symm
          subst e1; subst e2
          exact G_ret dX4_readLevel_71 (Or.inl rfl) rfl rfl
      · replace h := (if_neg hc8).symm.trans h
        refine G_iconst (v := 1) dX4_readLevel_47 (by decide) ?_
        obtain ⟨e1, e2⟩ := K2 _ (Option.some.inj h).symm
        subst e1; subst e2
        exact G_ret dX4_readLevel_48 (Or.inr rfl) rfl rfl

def X4_readLevel (rc : Nat → Int32 → Int32 → Mem → Option (Int32 × Mem)) (v1 : Int32) (v2 : Int32) (M : Mem) : Option (Int32 × Mem) := (if v1 < 5 then ((rc 0 (v1 + 1) v2 M).bind fun q1 => (if q1.1 = 0 then (some (0, q1.2)) else ((X4_readLevel_L26 rc 400 v1 v2 0 q1.2).bind fun q5 => match q5 with
  | .inl q5 => (some (1, q5))
  | .inr q5 => some q5))) else ((rc 1 v2 0 M).bind fun q6 => (if q6.1 = 0 then (some (0, q6.2)) else if q6.1 = 1 then (some (1, q6.2)) else none)))
set_option maxRecDepth 100000 in
set_option maxHeartbeats 4000000 in
theorem X4_readLevel_ok (rc : Nat → Int32 → Int32 → Mem → Option (Int32 × Mem))  {d : Nat} (hd0 : 2 ≤ d) (hr0 : ∀ {a0 a1 : Int32} {M N : Mem} {res : Int32 × Mem}, rc 0 a0 a1 M = some res → Spec mt_X4_readLevel d [.inr (.inr (4, 0)), .inl a0, .inl a1] (M, N) (some (.inl res.1)) (res.2, N)) (hr1 : ∀ {a0 a1 : Int32} {M N : Mem} {res : Int32 × Mem}, rc 1 a0 a1 M = some res → Spec mt_X4_readLast d [.inr (.inr (4, 0)), .inl a0] (M, N) (some (.inl res.1)) (res.2, N)) {v1 : Int32} {v2 : Int32} {M N : Mem} {res : Int32 × Mem} (h : X4_readLevel rc v1 v2 M = some res) : Spec mt_X4_readLevel (d + 1) [.inr (.inr (4, 0)), .inl v1, .inl v2] (M, N) (some (.inl res.1)) (res.2, N) := by
  unfold X4_readLevel at h
  refine Spec_of_G (by decide) rfl (Nat.le_of_ble_eq_true rfl) ?_
  refine G_sub [(0, .inr (.inr (4, 0))), (1, .inl v1), (2, .inl v2)] [0, 1, 2] rfl ?_
  refine G_iload_n dX4_readLevel_0 rfl ?_
  refine G_iconst (v := 5) dX4_readLevel_1 (by decide) ?_
  refine G_icmp_lt (tgt := 11) dX4_readLevel_2 (by decide) (fun hc1 => ?_) (fun hc1 => ?_)
  · replace h := (if_pos hc1).symm.trans h
    refine G_aload_n dX4_readLevel_11 rfl ?_
    refine G_iload_n dX4_readLevel_12 rfl ?_
    refine G_iconst (v := 1) dX4_readLevel_13 (by decide) ?_
    refine G_iadd dX4_readLevel_14 ?_
    refine G_iload_n dX4_readLevel_15 rfl ?_
    obtain ⟨q1, hq1, h⟩ := bnd h
    refine G_callVv (T := TX4) (N := 5) (f := 4) (i := 0) (hr0 hq1) ok_X4_readLevel ml_X4_50 (by omega) rfl (by decide) (by decide) (by decide) rfl rfl (Nat.le_of_ble_eq_true rfl) dX4_readLevel_16 ?_
    refine G_if_ne (tgt := 24) dX4_readLevel_19 (by decide) (fun hc2 => ?_) (fun hc2 => ?_)
    · replace h := (if_neg hc2).symm.trans h
      refine G_iconst (v := 0) dX4_readLevel_24 (by decide) ?_
      refine G_istore_n (L2 := [(3, .inl 0), (0, .inr (.inr (4, 0))), (1, .inl v1), (2, .inl v2)]) dX4_readLevel_25 (by decide) rfl ?_
      refine G_sub [(0, .inr (.inr (4, 0))), (1, .inl v1), (2, .inl v2), (3, .inl 0)] [1, 2, 3, 0] rfl ?_
      obtain ⟨q5, hq5, h⟩ := bnd h
      refine X4_readLevel_L26_ok rc  hd0 hr0 hr1 400 v1 v2 0 q1.2 _  hq5 (fun q5n q5e => ?_) (fun q5n q5e => ?_)
      · subst q5e
        refine G_iconst (v := 1) dX4_readLevel_95 (by decide) ?_
        obtain rfl := Option.some.inj h
        exact G_ret dX4_readLevel_96 (Or.inr rfl) rfl rfl
      · subst q5e
        obtain rfl := Option.some.inj h
        exact ⟨rfl, rfl⟩
    · replace h := (if_pos hc2).symm.trans h
      refine G_iconst (v := 0) dX4_readLevel_22 (by decide) ?_
      obtain rfl := Option.some.inj h
      exact G_ret dX4_readLevel_23 (Or.inl rfl) rfl rfl
  · replace h := (if_neg hc1).symm.trans h
    refine G_aload_n dX4_readLevel_5 rfl ?_
    refine G_iload_n dX4_readLevel_6 rfl ?_
    obtain ⟨q6, hq6, h⟩ := bnd h
    refine G_callVv (T := TX4) (N := 5) (f := 4) (i := 0) (hr1 hq6) ok_X4_readLast ml_X4_54 (by omega) rfl (by decide) (by decide) (by decide) rfl rfl (Nat.le_of_ble_eq_true rfl) dX4_readLevel_7 ?_
    by_cases hc11 : q6.1 = 0
    · replace h := (if_pos hc11).symm.trans h
      rw [hc11]
      obtain rfl := Option.some.inj h
      exact G_ret dX4_readLevel_10 (Or.inl rfl) rfl rfl
    replace h := (if_neg hc11).symm.trans h
    by_cases hc12 : q6.1 = 1
    · replace h := (if_pos hc12).symm.trans h
      rw [hc12]
      obtain rfl := Option.some.inj h
      exact G_ret dX4_readLevel_10 (Or.inr rfl) rfl rfl
    cases (if_neg hc12).symm.trans h

def X4_readLast_J68 (rc : Nat → Int32 → Int32 → Mem → Option (Int32 × Mem)) (v1 : Int32) (v2 : Int32) (M : Mem) : Option (Int32 × Mem) := (if v2 = 33 then ((rc 0 5 (v1 + 1) (up3 M 4 0 4 ((M 4 0 4) + 1))).bind fun q4 => ((X2_add 6 (-33) q4.2).bind fun q5 => (if q4.1 = 0 then (some (0, q5)) else if q4.1 = 1 then (some (1, q5)) else none))) else ((rc 0 0 (v1 + 1) (up3 M 4 0 4 ((M 4 0 4) + 1))).bind fun q2 => (if q2.1 = 0 then (some (0, q2.2)) else ((X4_next q2.2).bind fun q3 => (if q3 = 41 then (some (1, (up3 q2.2 4 0 4 ((q2.2 4 0 4) + 1)))) else (some (0, q2.2)))))))
set_option maxRecDepth 100000 in
set_option maxHeartbeats 4000000 in
theorem X4_readLast_J68_ok (rc : Nat → Int32 → Int32 → Mem → Option (Int32 × Mem))  {d : Nat} (hd0 : 2 ≤ d) (hr0 : ∀ {a0 a1 : Int32} {M N : Mem} {res : Int32 × Mem}, rc 0 a0 a1 M = some res → Spec mt_X4_readLevel d [.inr (.inr (4, 0)), .inl a0, .inl a1] (M, N) (some (.inl res.1)) (res.2, N)) (hr1 : ∀ {a0 a1 : Int32} {M N : Mem} {res : Int32 × Mem}, rc 1 a0 a1 M = some res → Spec mt_X4_readLast d [.inr (.inr (4, 0)), .inl a0] (M, N) (some (.inl res.1)) (res.2, N)) {v1 : Int32} {v2 : Int32} {M N : Mem} {res : Int32 × Mem} (h : X4_readLast_J68 rc v1 v2 M = some res) : G mt_X4_readLast (d + 1) (some (.inl res.1)) (res.2, N) 68 [(0, .inr (.inr (4, 0))), (1, .inl v1), (2, .inl v2)] [] (M, N) := by
  unfold X4_readLast_J68 at h
  refine G_aload_n dX4_readLast_68 rfl ?_
  refine G_dup rfl dX4_readLast_69 ?_
  refine fg_X4_44 (v := (M 4 0 4)) rfl rfl (by decide) dX4_readLast_70 ?_
  refine G_iconst (v := 1) dX4_readLast_73 (by decide) ?_
  refine G_iadd dX4_readLast_74 ?_
  refine fp_X4_44 rfl (by decide) dX4_readLast_75 ?_
  refine G_iload_n dX4_readLast_78 rfl ?_
  refine G_bipush (v := 33) dX4_readLast_79 (by decide) ?_
  refine G_icmp_ne (tgt := 106) dX4_readLast_81 (by decide) (fun hc5 => ?_) (fun hc5 => ?_)
  · replace h := (if_neg hc5).symm.trans h
    refine G_aload_n dX4_readLast_106 rfl ?_
    refine G_iconst (v := 0) dX4_readLast_107 (by decide) ?_
    refine G_iload_n dX4_readLast_108 rfl ?_
    refine G_iconst (v := 1) dX4_readLast_109 (by decide) ?_
    refine G_iadd dX4_readLast_110 ?_
    obtain ⟨q2, hq2, h⟩ := bnd h
    refine G_callVv (T := TX4) (N := 5) (f := 4) (i := 0) (hr0 hq2) ok_X4_readLevel ml_X4_50 (by omega) rfl (by decide) (by decide) (by decide) rfl rfl (Nat.le_of_ble_eq_true rfl) dX4_readLast_111 ?_
    refine G_if_eq (tgt := 126) dX4_readLast_114 (by decide) (fun hc6 => ?_) (fun hc6 => ?_)
    · replace h := (if_pos hc6).symm.trans h
      refine G_iconst (v := 0) dX4_readLast_126 (by decide) ?_
      obtain rfl := Option.some.inj h
      exact G_ret dX4_readLast_127 (Or.inl rfl) rfl rfl
    · replace h := (if_neg hc6).symm.trans h
      refine G_aload_n dX4_readLast_117 rfl ?_
      obtain ⟨q3, hq3, h⟩ := bnd h
      refine G_callVv (T := TX4) (N := 5) (f := 4) (i := 0) (X4_next_ok hq3) ok_X4_next ml_X4_58 (by omega) rfl (by decide) (by decide) (by decide) rfl rfl (Nat.le_of_ble_eq_true rfl) dX4_readLast_118 ?_
      refine G_bipush (v := 41) dX4_readLast_121 (by decide) ?_
      refine G_icmp_eq (tgt := 128) dX4_readLast_123 (by decide) (fun hc7 => ?_) (fun hc7 => ?_)
      · replace h := (if_pos hc7).symm.trans h
        refine G_aload_n dX4_readLast_128 rfl ?_
        refine G_dup rfl dX4_readLast_129 ?_
        refine fg_X4_44 (v := (q2.2 4 0 4)) rfl rfl (by decide) dX4_readLast_130 ?_
        refine G_iconst (v := 1) dX4_readLast_133 (by decide) ?_
        refine G_iadd dX4_readLast_134 ?_
        refine fp_X4_44 rfl (by decide) dX4_readLast_135 ?_
        refine G_iconst (v := 1) dX4_readLast_138 (by decide) ?_
        obtain rfl := Option.some.inj h
        exact G_ret dX4_readLast_139 (Or.inr rfl) rfl rfl
      · replace h := (if_neg hc7).symm.trans h
        refine G_iconst (v := 0) dX4_readLast_126 (by decide) ?_
        obtain rfl := Option.some.inj h
        exact G_ret dX4_readLast_127 (Or.inl rfl) rfl rfl
  · replace h := (if_pos hc5).symm.trans h
    refine G_aload_n dX4_readLast_84 rfl ?_
    refine G_iconst (v := 5) dX4_readLast_85 (by decide) ?_
    refine G_iload_n dX4_readLast_86 rfl ?_
    refine G_iconst (v := 1) dX4_readLast_87 (by decide) ?_
    refine G_iadd dX4_readLast_88 ?_
    obtain ⟨q4, hq4, h⟩ := bnd h
    refine G_callVv (T := TX4) (N := 5) (f := 4) (i := 0) (hr0 hq4) ok_X4_readLevel ml_X4_50 (by omega) rfl (by decide) (by decide) (by decide) rfl rfl (Nat.le_of_ble_eq_true rfl) dX4_readLast_89 ?_
    refine G_istore (L2 := [(4, .inl q4.1), (0, .inr (.inr (4, 0))), (1, .inl v1), (2, .inl v2)]) dX4_readLast_92 (by decide) rfl ?_
    refine G_aload_n dX4_readLast_94 rfl ?_
    refine fg_X4_12 rfl (by decide) dX4_readLast_95 ?_
    refine G_bipush (v := (-33)) dX4_readLast_98 (by decide) ?_
    obtain ⟨q5, hq5, h⟩ := bnd h
    refine G_callVn (T := TX2) (N := 3) (f := 2) (i := 6) (X2_add_ok (by decide) hq5) ok_X2_add ml_X4_66 (by omega) rfl (by decide) (by decide) (by decide) rfl rfl (Nat.le_of_ble_eq_true rfl) dX4_readLast_100 ?_
    refine G_iload dX4_readLast_103 rfl ?_
    by_cases hc8 : q4.1 = 0
    · replace h := (if_pos hc8).symm.trans h
      rw [hc8]
      obtain rfl := Option.some.inj h
      exact G_ret dX4_readLast_105 (Or.inl rfl) rfl rfl
    replace h := (if_neg hc8).symm.trans h
    by_cases hc9 : q4.1 = 1
    · replace h := (if_pos hc9).symm.trans h
      rw [hc9]
      obtain rfl := Option.some.inj h
      exact G_ret dX4_readLast_105 (Or.inr rfl) rfl rfl
    cases (if_neg hc9).symm.trans h

def X4_readLast (rc : Nat → Int32 → Int32 → Mem → Option (Int32 × Mem)) (v1 : Int32) (M : Mem) : Option (Int32 × Mem) := ((X4_next M).bind fun q1 => (if (X4_isDigit q1) = 0 then (if (X4_nameOf q1 M) = 0 then (if v1 < 5 then (if q1 = 33 then (X4_readLast_J68 rc v1 q1 M) else (if q1 = 40 then (X4_readLast_J68 rc v1 q1 M) else (some (0, M)))) else (some (0, M))) else ((X2_add 6 (-(X4_nameOf q1 M)) M).bind fun q6 => (some (1, (up3 q6 4 0 4 ((q6 4 0 4) + 1)))))) else ((X4_readNumber M).bind fun q7 => (some (1, q7)))))
set_option maxRecDepth 100000 in
set_option maxHeartbeats 4000000 in
theorem X4_readLast_ok (rc : Nat → Int32 → Int32 → Mem → Option (Int32 × Mem))  {d : Nat} (hd0 : 2 ≤ d) (hr0 : ∀ {a0 a1 : Int32} {M N : Mem} {res : Int32 × Mem}, rc 0 a0 a1 M = some res → Spec mt_X4_readLevel d [.inr (.inr (4, 0)), .inl a0, .inl a1] (M, N) (some (.inl res.1)) (res.2, N)) (hr1 : ∀ {a0 a1 : Int32} {M N : Mem} {res : Int32 × Mem}, rc 1 a0 a1 M = some res → Spec mt_X4_readLast d [.inr (.inr (4, 0)), .inl a0] (M, N) (some (.inl res.1)) (res.2, N)) {v1 : Int32} {M N : Mem} {res : Int32 × Mem} (h : X4_readLast rc v1 M = some res) : Spec mt_X4_readLast (d + 1) [.inr (.inr (4, 0)), .inl v1] (M, N) (some (.inl res.1)) (res.2, N) := by
  unfold X4_readLast at h
  refine Spec_of_G (by decide) rfl (Nat.le_of_ble_eq_true rfl) ?_
  refine G_sub [(0, .inr (.inr (4, 0))), (1, .inl v1)] [0, 1] rfl ?_
  refine G_aload_n dX4_readLast_0 rfl ?_
  obtain ⟨q1, hq1, h⟩ := bnd h
  refine G_callVv (T := TX4) (N := 5) (f := 4) (i := 0) (X4_next_ok hq1) ok_X4_next ml_X4_58 (by omega) rfl (by decide) (by decide) (by decide) rfl rfl (Nat.le_of_ble_eq_true rfl) dX4_readLast_1 ?_
  refine G_istore_n (L2 := [(2, .inl q1), (0, .inr (.inr (4, 0))), (1, .inl v1)]) dX4_readLast_4 (by decide) rfl ?_
  refine G_iload_n dX4_readLast_5 rfl ?_
  refine G_callSv  (X4_isDigit_ok rfl) ok_X4_isDigit ml_X4_70 (by omega) rfl rfl (Nat.le_of_ble_eq_true rfl) dX4_readLast_6 ?_
  refine G_if_eq (tgt := 18) dX4_readLast_9 (by decide) (fun hc1 => ?_) (fun hc1 => ?_)
  · replace h := (if_pos hc1).symm.trans h
    refine G_aload_n dX4_readLast_18 rfl ?_
    refine G_iload_n dX4_readLast_19 rfl ?_
    refine G_callVv (T := TX4) (N := 5) (f := 4) (i := 0) (X4_nameOf_ok rfl) ok_X4_nameOf ml_X4_76 (by omega) rfl (by decide) (by decide) (by decide) rfl rfl (Nat.le_of_ble_eq_true rfl) dX4_readLast_20 ?_
    refine G_istore_n (L2 := [(3, .inl (X4_nameOf q1 M)), (2, .inl q1), (0, .inr (.inr (4, 0))), (1, .inl v1)]) dX4_readLast_23 (by decide) rfl ?_
    refine G_iload_n dX4_readLast_24 rfl ?_
    refine G_if_eq (tgt := 49) dX4_readLast_25 (by decide) (fun hc2 => ?_) (fun hc2 => ?_)
    · replace h := (if_pos hc2).symm.trans h
      refine G_iload_n dX4_readLast_49 rfl ?_
      refine G_iconst (v := 5) dX4_readLast_50 (by decide) ?_
      refine G_icmp_ge (tgt := 66) dX4_readLast_51 (by decide) (fun hc3 => ?_) (fun hc3 => ?_)
      · replace h := (if_neg hc3).symm.trans h
        refine G_iconst (v := 0) dX4_readLast_66 (by decide) ?_
        obtain rfl := Option.some.inj h
        exact G_ret dX4_readLast_67 (Or.inl rfl) rfl rfl
      · replace h := (if_pos hc3).symm.trans h
        refine G_iload_n dX4_readLast_54 rfl ?_
        refine G_bipush (v := 33) dX4_readLast_55 (by decide) ?_
        refine G_icmp_eq (tgt := 68) dX4_readLast_57 (by decide) (fun hc4 => ?_) (fun hc4 => ?_)
        · replace h := (if_pos hc4).symm.trans h
          refine G_sub [(0, .inr (.inr (4, 0))), (1, .inl v1), (2, .inl q1)] [2, 3, 1] rfl ?_
          exact X4_readLast_J68_ok rc  hd0 hr0 hr1  h
        · replace h := (if_neg hc4).symm.trans h
          refine G_iload_n dX4_readLast_60 rfl ?_
          refine G_bipush (v := 40) dX4_readLast_61 (by decide) ?_
          refine G_icmp_eq (tgt := 68) dX4_readLast_63 (by decide) (fun hc10 => ?_) (fun hc10 => ?_)
          · replace h := (if_pos hc10).symm.trans h
            refine G_sub [(0, .inr (.inr (4, 0))), (1, .inl v1), (2, .inl q1)] [2, 3, 1] rfl ?_
            exact X4_readLast_J68_ok rc  hd0 hr0 hr1  h
          · replace h := (if_neg hc10).symm.trans h
            refine G_iconst (v := 0) dX4_readLast_66 (by decide) ?_
            obtain rfl := Option.some.inj h
            exact G_ret dX4_readLast_67 (Or.inl rfl) rfl rfl
    · replace h := (if_neg hc2).symm.trans h
      refine G_aload_n dX4_readLast_28 rfl ?_
      refine fg_X4_12 rfl (by decide) dX4_readLast_29 ?_
      refine G_iload_n dX4_readLast_32 rfl ?_
      refine G_ineg dX4_readLast_33 ?_
      obtain ⟨q6, hq6, h⟩ := bnd h
      refine G_callVn (T := TX2) (N := 3) (f := 2) (i := 6) (X2_add_ok (by decide) hq6) ok_X2_add ml_X4_66 (by omega) rfl (by decide) (by decide) (by decide) rfl rfl (Nat.le_of_ble_eq_true rfl) dX4_readLast_34 ?_
      refine G_aload_n dX4_readLast_37 rfl ?_
      refine G_dup rfl dX4_readLast_38 ?_
      refine fg_X4_44 (v := (q6 4 0 4)) rfl rfl (by decide) dX4_readLast_39 ?_
      refine G_iconst (v := 1) dX4_readLast_42 (by decide) ?_
      refine G_iadd dX4_readLast_43 ?_
      refine fp_X4_44 rfl (by decide) dX4_readLast_44 ?_
      refine G_iconst (v := 1) dX4_readLast_47 (by decide) ?_
      obtain rfl := Option.some.inj h
      exact G_ret dX4_readLast_48 (Or.inr rfl) rfl rfl
  · replace h := (if_neg hc1).symm.trans h
    refine G_aload_n dX4_readLast_12 rfl ?_
    obtain ⟨q7, hq7, h⟩ := bnd h
    refine G_callVn (T := TX4) (N := 5) (f := 4) (i := 0) (X4_readNumber_ok hq7) ok_X4_readNumber ml_X4_73 (by omega) rfl (by decide) (by decide) (by decide) rfl rfl (Nat.le_of_ble_eq_true rfl) dX4_readLast_13 ?_
    refine G_iconst (v := 1) dX4_readLast_16 (by decide) ?_
    obtain rfl := Option.some.inj h
    exact G_ret dX4_readLast_17 (Or.inr rfl) rfl rfl

def X4_rec_readLevel : Nat → Nat → Int32 → Int32 → Mem → Option (Int32 × Mem)
  | 0, _, _, _, _ => none
  | fu + 1, tg, a0, a1, M => (if tg = 0 then X4_readLevel (X4_rec_readLevel fu) a0 a1 M else (if tg = 1 then X4_readLast (X4_rec_readLevel fu) a0 M else none))
theorem X4_rec_readLevel_ok : ∀ (fu : Nat), (∀ {a0 a1 : Int32} {M N : Mem} {res : Int32 × Mem}, X4_rec_readLevel fu 0 a0 a1 M = some res → Spec mt_X4_readLevel (fu + 2) [.inr (.inr (4, 0)), .inl a0, .inl a1] (M, N) (some (.inl res.1)) (res.2, N)) ∧ (∀ {a0 a1 : Int32} {M N : Mem} {res : Int32 × Mem}, X4_rec_readLevel fu 1 a0 a1 M = some res → Spec mt_X4_readLast (fu + 2) [.inr (.inr (4, 0)), .inl a0] (M, N) (some (.inl res.1)) (res.2, N)) := by
  intro fu
  induction fu with
  | zero => exact ⟨fun h => (by cases h), fun h => (by cases h)⟩
  | succ fu ih =>
    obtain ⟨h0, h1⟩ := ih
    refine ⟨?_, ?_⟩
    · intro a0 a1 M N res h
      have e := X4_readLevel_ok (X4_rec_readLevel fu) (d := fu + 2) (by omega) h0 h1 (M := M) (N := N) (res := res) h
      rw [show fu + 1 + 2 = fu + 2 + 1 from by omega]
      exact e
    · intro a0 a1 M N res h
      have e := X4_readLast_ok (X4_rec_readLevel fu) (d := fu + 2) (by omega) h0 h1 (M := M) (N := N) (res := res) h
      rw [show fu + 1 + 2 = fu + 2 + 1 from by omega]
      exact e
def X4_readLevelC (a0 : Int32) (a1 : Int32) (M : Mem) : Option (Int32 × Mem) := X4_rec_readLevel 100 0 a0 a1  M
theorem X4_readLevelC_ok {a0 : Int32} {a1 : Int32} {M N : Mem} {res : Int32 × Mem} (h : X4_readLevelC a0 a1 M = some res) : Spec mt_X4_readLevel 102 [.inr (.inr (4, 0)), .inl a0, .inl a1] (M, N) (some (.inl res.1)) (res.2, N) := (X4_rec_readLevel_ok 100).1 h
def X4_readLastC (a0 : Int32) (M : Mem) : Option (Int32 × Mem) := X4_rec_readLevel 100 1 a0 0 M
theorem X4_readLastC_ok {a0 : Int32} {M N : Mem} {res : Int32 × Mem} (h : X4_readLastC a0 M = some res) : Spec mt_X4_readLast 102 [.inr (.inr (4, 0)), .inl a0] (M, N) (some (.inl res.1)) (res.2, N) := (X4_rec_readLevel_ok 100).2 h

theorem dX4_readTape_0 : decode cX4_readTape 0 = .ok (.aload_n 0, 1) := by decide +kernel
theorem dX4_readTape_1 : decode cX4_readTape 1 = .ok (.iconst 0, 1) := by decide +kernel
theorem dX4_readTape_2 : decode cX4_readTape 2 = .ok (.iload_n 2, 1) := by decide +kernel
theorem dX4_readTape_3 : decode cX4_readTape 3 = .ok (.aload_n 1, 1) := by decide +kernel
theorem dX4_readTape_4 : decode cX4_readTape 4 = .ok (.arraylength, 1) := by decide +kernel
theorem dX4_readTape_5 : decode cX4_readTape 5 = .ok (.bipush 50, 2) := by decide +kernel
theorem dX4_readTape_7 : decode cX4_readTape 7 = .ok (.invokestatic 22, 3) := by decide +kernel
theorem dX4_readTape_10 : decode cX4_readTape 10 = .ok (.invokestatic 22, 3) := by decide +kernel
theorem dX4_readTape_13 : decode cX4_readTape 13 = .ok (.invokestatic 28, 3) := by decide +kernel
theorem dX4_readTape_16 : decode cX4_readTape 16 = .ok (.putfield 31, 3) := by decide +kernel
theorem dX4_readTape_19 : decode cX4_readTape 19 = .ok (.aload_n 1, 1) := by decide +kernel
theorem dX4_readTape_20 : decode cX4_readTape 20 = .ok (.iconst 0, 1) := by decide +kernel
theorem dX4_readTape_21 : decode cX4_readTape 21 = .ok (.aload_n 0, 1) := by decide +kernel
theorem dX4_readTape_22 : decode cX4_readTape 22 = .ok (.getfield 18, 3) := by decide +kernel
theorem dX4_readTape_25 : decode cX4_readTape 25 = .ok (.iconst 0, 1) := by decide +kernel
theorem dX4_readTape_26 : decode cX4_readTape 26 = .ok (.aload_n 0, 1) := by decide +kernel
theorem dX4_readTape_27 : decode cX4_readTape 27 = .ok (.getfield 31, 3) := by decide +kernel
theorem dX4_readTape_30 : decode cX4_readTape 30 = .ok (.invokestatic 35, 3) := by decide +kernel
theorem dX4_readTape_33 : decode cX4_readTape 33 = .ok (.aload_n 0, 1) := by decide +kernel
theorem dX4_readTape_34 : decode cX4_readTape 34 = .ok (.iload_n 3, 1) := by decide +kernel
theorem dX4_readTape_35 : decode cX4_readTape 35 = .ok (.putfield 41, 3) := by decide +kernel
theorem dX4_readTape_38 : decode cX4_readTape 38 = .ok (.aload_n 0, 1) := by decide +kernel
theorem dX4_readTape_39 : decode cX4_readTape 39 = .ok (.iconst 0, 1) := by decide +kernel
theorem dX4_readTape_40 : decode cX4_readTape 40 = .ok (.putfield 44, 3) := by decide +kernel
theorem dX4_readTape_43 : decode cX4_readTape 43 = .ok (.aload_n 0, 1) := by decide +kernel
theorem dX4_readTape_44 : decode cX4_readTape 44 = .ok (.getfield 12, 3) := by decide +kernel
theorem dX4_readTape_47 : decode cX4_readTape 47 = .ok (.invokevirtual 47, 3) := by decide +kernel
theorem dX4_readTape_50 : decode cX4_readTape 50 = .ok (.aload_n 0, 1) := by decide +kernel
theorem dX4_readTape_51 : decode cX4_readTape 51 = .ok (.iconst 0, 1) := by decide +kernel
theorem dX4_readTape_52 : decode cX4_readTape 52 = .ok (.iconst 0, 1) := by decide +kernel
theorem dX4_readTape_53 : decode cX4_readTape 53 = .ok (.invokevirtual 50, 3) := by decide +kernel
theorem dX4_readTape_56 : decode cX4_readTape 56 = .ok (.ifCond .eq 18, 3) := by decide +kernel
theorem dX4_readTape_59 : decode cX4_readTape 59 = .ok (.aload_n 0, 1) := by decide +kernel
theorem dX4_readTape_60 : decode cX4_readTape 60 = .ok (.getfield 44, 3) := by decide +kernel
theorem dX4_readTape_63 : decode cX4_readTape 63 = .ok (.aload_n 0, 1) := by decide +kernel
theorem dX4_readTape_64 : decode cX4_readTape 64 = .ok (.getfield 31, 3) := by decide +kernel
theorem dX4_readTape_67 : decode cX4_readTape 67 = .ok (.if_icmp .ne 7, 3) := by decide +kernel
theorem dX4_readTape_70 : decode cX4_readTape 70 = .ok (.iconst 1, 1) := by decide +kernel
theorem dX4_readTape_71 : decode cX4_readTape 71 = .ok (.goto 4, 3) := by decide +kernel
theorem dX4_readTape_74 : decode cX4_readTape 74 = .ok (.iconst 0, 1) := by decide +kernel
theorem dX4_readTape_75 : decode cX4_readTape 75 = .ok (.ireturn, 1) := by decide +kernel
def X4_readTape (i1 : Nat) (v2 : Int32) (v3 : Int32) (M : Mem) : Option (Int32 × Mem) := (if cpok (0 : Int32) (0 : Int32) (jmax 0 (jmin v2 (jmin 50 50))) 50 50 = true then ((X2_clear 6 (up3 (up3 (cp3 (up3 M 4 0 2 (jmax 0 (jmin v2 (jmin 50 50)))) 8 i1 0 8 2 0 ((jmax 0 (jmin v2 (jmin 50 50))).toNatClampNeg)) 4 0 3 v3) 4 0 4 0)).bind fun q2 => ((X4_readLevelC 0 0 q2).bind fun q3 => (if q3.1 = 0 then (some (0, q3.2)) else (if (q3.2 4 0 4) = (q3.2 4 0 2) then (some (1, q3.2)) else (some (0, q3.2)))))) else none)
set_option maxRecDepth 100000 in
set_option maxHeartbeats 4000000 in
theorem X4_readTape_ok  {i1 : Nat} {v2 : Int32} {v3 : Int32} {M N : Mem} {res : Int32 × Mem} (hi1 : i1 < 3) (h : X4_readTape i1 v2 v3 M = some res) : Spec mt_X4_readTape 103 [.inr (.inr (4, 0)), .inr (.inr (8, i1)), .inl v2, .inl v3] (M, N) (some (.inl res.1)) (res.2, N) := by
  unfold X4_readTape at h
  refine Spec_of_G (by decide) rfl (Nat.le_of_ble_eq_true rfl) ?_
  refine G_sub [(0, .inr (.inr (4, 0))), (1, .inr (.inr (8, i1))), (2, .inl v2), (3, .inl v3)] [0, 1, 2, 3] rfl ?_
  refine G_aload_n dX4_readTape_0 rfl ?_
  refine G_iconst (v := 0) dX4_readTape_1 (by decide) ?_
  refine G_iload_n dX4_readTape_2 rfl ?_
  refine G_aload_n dX4_readTape_3 rfl ?_
  refine G_alenb (v := 50) (by decide) (show i1 < 3 from (by omega)) (by decide) rfl (by decide) dX4_readTape_4 ?_
  refine G_bipush (v := 50) dX4_readTape_5 (by decide) ?_
  refine G_min ml_X4_22 st_min in_Math cd_min (by decide) (Nat.le_of_ble_eq_true rfl) dX4_readTape_7 ?_
  refine G_min ml_X4_22 st_min in_Math cd_min (by decide) (Nat.le_of_ble_eq_true rfl) dX4_readTape_10 ?_
  refine G_max ml_X4_28 st_max in_Math cd_max (by decide) (Nat.le_of_ble_eq_true rfl) dX4_readTape_13 ?_
  refine fp_X4_31 rfl (by decide) dX4_readTape_16 ?_
  refine G_aload_n dX4_readTape_19 rfl ?_
  refine G_iconst (v := 0) dX4_readTape_20 (by decide) ?_
  refine G_aload_n dX4_readTape_21 rfl ?_
  refine fg_X4_18 rfl (by decide) dX4_readTape_22 ?_
  refine G_iconst (v := 0) dX4_readTape_25 (by decide) ?_
  refine G_aload_n dX4_readTape_26 rfl ?_
  refine fg_X4_31 (v := (jmax 0 (jmin v2 (jmin 50 50)))) up3_eq rfl (by decide) dX4_readTape_27 ?_
  obtain ⟨hb1, h⟩ := chk h
  refine G_copy (M2 := ((cp3 (up3 M 4 0 2 (jmax 0 (jmin v2 (jmin 50 50)))) 8 i1 0 8 2 0 ((jmax 0 (jmin v2 (jmin 50 50))).toNatClampNeg)), N)) ml_X4_35 na_copy st_copy in_System (by decide) (show i1 < 3 from (by omega)) (by decide) (by decide) (by decide) (by decide) (by decide) hb1 (by decide) rfl rfl dX4_readTape_30 ?_
  refine G_aload_n dX4_readTape_33 rfl ?_
  refine G_iload_n dX4_readTape_34 rfl ?_
  refine fp_X4_41 rfl (by decide) dX4_readTape_35 ?_
  refine G_aload_n dX4_readTape_38 rfl ?_
  refine G_iconst (v := 0) dX4_readTape_39 (by decide) ?_
  refine fp_X4_44 rfl (by decide) dX4_readTape_40 ?_
  refine G_aload_n dX4_readTape_43 rfl ?_
  refine fg_X4_12 rfl (by decide) dX4_readTape_44 ?_
  obtain ⟨q2, hq2, h⟩ := bnd h
  refine G_callVn (T := TX2) (N := 3) (f := 2) (i := 6) (X2_clear_ok (by decide) hq2) ok_X2_clear ml_X4_47 (by decide) rfl (by decide) (by decide) (by decide) rfl rfl (Nat.le_of_ble_eq_true rfl) dX4_readTape_47 ?_
  refine G_aload_n dX4_readTape_50 rfl ?_
  refine G_iconst (v := 0) dX4_readTape_51 (by decide) ?_
  refine G_iconst (v := 0) dX4_readTape_52 (by decide) ?_
  obtain ⟨q3, hq3, h⟩ := bnd h
  refine G_callVv (T := TX4) (N := 5) (f := 4) (i := 0) (X4_readLevelC_ok hq3) ok_X4_readLevel ml_X4_50 (by decide) rfl (by decide) (by decide) (by decide) rfl rfl (Nat.le_of_ble_eq_true rfl) dX4_readTape_53 ?_
  refine G_if_eq (tgt := 74) dX4_readTape_56 (by decide) (fun hc1 => ?_) (fun hc1 => ?_)
  · replace h := (if_pos hc1).symm.trans h
    refine G_iconst (v := 0) dX4_readTape_74 (by decide) ?_
    obtain rfl := Option.some.inj h
    exact G_ret dX4_readTape_75 (Or.inl rfl) rfl rfl
  · replace h := (if_neg hc1).symm.trans h
    refine G_aload_n dX4_readTape_59 rfl ?_
    refine fg_X4_44 (v := (q3.2 4 0 4)) rfl rfl (by decide) dX4_readTape_60 ?_
    refine G_aload_n dX4_readTape_63 rfl ?_
    refine fg_X4_31 (v := (q3.2 4 0 2)) rfl rfl (by decide) dX4_readTape_64 ?_
    refine G_icmp_ne (tgt := 74) dX4_readTape_67 (by decide) (fun hc2 => ?_) (fun hc2 => ?_)
    · replace h := (if_neg hc2).symm.trans h
      refine G_iconst (v := 0) dX4_readTape_74 (by decide) ?_
      obtain rfl := Option.some.inj h
      exact G_ret dX4_readTape_75 (Or.inl rfl) rfl rfl
    · replace h := (if_pos hc2).symm.trans h
      refine G_iconst (v := 1) dX4_readTape_70 (by decide) ?_
      refine G_goto (tgt := 75) dX4_readTape_71 (by decide) ?_
      obtain rfl := Option.some.inj h
      exact G_ret dX4_readTape_75 (Or.inr rfl) rfl rfl

theorem dX1_lawOf_0 : decode cX1_lawOf 0 = .ok (.iload_n 1, 1) := by decide +kernel
theorem dX1_lawOf_1 : decode cX1_lawOf 1 = .ok (.ifCond .ne 10, 3) := by decide +kernel
theorem dX1_lawOf_4 : decode cX1_lawOf 4 = .ok (.aload_n 0, 1) := by decide +kernel
theorem dX1_lawOf_5 : decode cX1_lawOf 5 = .ok (.getfield 27, 3) := by decide +kernel
theorem dX1_lawOf_8 : decode cX1_lawOf 8 = .ok (.goto 7, 3) := by decide +kernel
theorem dX1_lawOf_11 : decode cX1_lawOf 11 = .ok (.aload_n 0, 1) := by decide +kernel
theorem dX1_lawOf_12 : decode cX1_lawOf 12 = .ok (.getfield 31, 3) := by decide +kernel
theorem dX1_lawOf_15 : decode cX1_lawOf 15 = .ok (.areturn, 1) := by decide +kernel
def X1_lawOf (i0 : Nat) (v1 : Int32) (M : Mem) : Nat := (if v1 = 0 then (2 * i0) else (2 * i0 + 1))
set_option maxRecDepth 100000 in
set_option maxHeartbeats 4000000 in
theorem X1_lawOf_ok  {i0 : Nat} {v1 : Int32} {M N : Mem} {res : Nat} (hi0 : i0 < 3) (h : X1_lawOf i0 v1 M = res) : Spec mt_X1_lawOf 0 [.inr (.inr (1, i0)), .inl v1] (M, N) (some (.inr (.inr (2, res)))) (M, N) := by
  unfold X1_lawOf at h
  refine Spec_of_G (by decide) rfl (Nat.le_of_ble_eq_true rfl) ?_
  refine G_sub [(0, .inr (.inr (1, i0))), (1, .inl v1)] [0, 1] rfl ?_
  refine G_iload_n dX1_lawOf_0 rfl ?_
  refine G_if_ne (tgt := 11) dX1_lawOf_1 (by decide) (fun hc1 => ?_) (fun hc1 => ?_)
  · replace h := (if_neg hc1).symm.trans h
    refine G_aload_n dX1_lawOf_11 rfl ?_
    refine fg_X1_31 rfl hi0 dX1_lawOf_12 ?_
    subst h
    exact G_ret dX1_lawOf_15 trivial rfl rfl
  · replace h := (if_pos hc1).symm.trans h
    refine G_aload_n dX1_lawOf_4 rfl ?_
    refine fg_X1_27 rfl hi0 dX1_lawOf_5 ?_
    refine G_goto (tgt := 15) dX1_lawOf_8 (by decide) ?_
    subst h
    exact G_ret dX1_lawOf_15 trivial rfl rfl

theorem dX1_given_0 : decode cX1_given 0 = .ok (.aload_n 0, 1) := by decide +kernel
theorem dX1_given_1 : decode cX1_given 1 = .ok (.iload_n 1, 1) := by decide +kernel
theorem dX1_given_2 : decode cX1_given 2 = .ok (.invokevirtual 64, 3) := by decide +kernel
theorem dX1_given_5 : decode cX1_given 5 = .ok (.astore 5, 2) := by decide +kernel
theorem dX1_given_7 : decode cX1_given 7 = .ok (.iconst 0, 1) := by decide +kernel
theorem dX1_given_8 : decode cX1_given 8 = .ok (.istore 6, 2) := by decide +kernel
theorem dX1_given_10 : decode cX1_given 10 = .ok (.aload 5, 2) := by decide +kernel
theorem dX1_given_12 : decode cX1_given 12 = .ok (.invokevirtual 68, 3) := by decide +kernel
theorem dX1_given_15 : decode cX1_given 15 = .ok (.ifCond .eq 17, 3) := by decide +kernel
theorem dX1_given_18 : decode cX1_given 18 = .ok (.aload 5, 2) := by decide +kernel
theorem dX1_given_20 : decode cX1_given 20 = .ok (.iload_n 2, 1) := by decide +kernel
theorem dX1_given_21 : decode cX1_given 21 = .ok (.iload_n 3, 1) := by decide +kernel
theorem dX1_given_22 : decode cX1_given 22 = .ok (.iload 4, 2) := by decide +kernel
theorem dX1_given_24 : decode cX1_given 24 = .ok (.invokevirtual 72, 3) := by decide +kernel
theorem dX1_given_27 : decode cX1_given 27 = .ok (.istore 6, 2) := by decide +kernel
theorem dX1_given_29 : decode cX1_given 29 = .ok (.goto 14, 3) := by decide +kernel
theorem dX1_given_32 : decode cX1_given 32 = .ok (.iload_n 1, 1) := by decide +kernel
theorem dX1_given_33 : decode cX1_given 33 = .ok (.ifCond .ne 10, 3) := by decide +kernel
theorem dX1_given_36 : decode cX1_given 36 = .ok (.iload_n 2, 1) := by decide +kernel
theorem dX1_given_37 : decode cX1_given 37 = .ok (.iload_n 3, 1) := by decide +kernel
theorem dX1_given_38 : decode cX1_given 38 = .ok (.imul, 1) := by decide +kernel
theorem dX1_given_39 : decode cX1_given 39 = .ok (.iconst 5, 1) := by decide +kernel
theorem dX1_given_40 : decode cX1_given 40 = .ok (.idiv, 1) := by decide +kernel
theorem dX1_given_41 : decode cX1_given 41 = .ok (.istore 6, 2) := by decide +kernel
theorem dX1_given_43 : decode cX1_given 43 = .ok (.iconst 0, 1) := by decide +kernel
theorem dX1_given_44 : decode cX1_given 44 = .ok (.bipush 99, 2) := by decide +kernel
theorem dX1_given_46 : decode cX1_given 46 = .ok (.iload 6, 2) := by decide +kernel
theorem dX1_given_48 : decode cX1_given 48 = .ok (.invokestatic 76, 3) := by decide +kernel
theorem dX1_given_51 : decode cX1_given 51 = .ok (.invokestatic 82, 3) := by decide +kernel
theorem dX1_given_54 : decode cX1_given 54 = .ok (.ireturn, 1) := by decide +kernel
def X1_given (i0 : Nat) (v1 : Int32) (v2 : Int32) (v3 : Int32) (v4 : Int32) (M : Mem) : Option (Int32 × Mem) := (if (X1_lawOf i0 v1 M) < 7 then (if (X2_stands (X1_lawOf i0 v1 M) M) = 0 then (if v1 = 0 then (some ((jmax 0 (jmin 99 ((v2 * v3) / 5))), M)) else (some ((jmax 0 (jmin 99 0)), M))) else ((X2_workedOut (X1_lawOf i0 v1 M) v2 v3 v4 M).bind fun q2 => (some ((jmax 0 (jmin 99 q2.1)), q2.2)))) else none)
set_option maxRecDepth 100000 in
set_option maxHeartbeats 4000000 in
theorem X1_given_ok  {i0 : Nat} {v1 : Int32} {v2 : Int32} {v3 : Int32} {v4 : Int32} {M N : Mem} {res : Int32 × Mem} (hi0 : i0 < 3) (h : X1_given i0 v1 v2 v3 v4 M = some res) : Spec mt_X1_given 2 [.inr (.inr (1, i0)), .inl v1, .inl v2, .inl v3, .inl v4] (M, N) (some (.inl res.1)) (res.2, N) := by
  unfold X1_given at h
  refine Spec_of_G (by decide) rfl (Nat.le_of_ble_eq_true rfl) ?_
  refine G_sub [(0, .inr (.inr (1, i0))), (1, .inl v1), (2, .inl v2), (3, .inl v3), (4, .inl v4)] [0, 1, 2, 3, 4] rfl ?_
  refine G_aload_n dX1_given_0 rfl ?_
  refine G_iload_n dX1_given_1 rfl ?_
  refine G_callVv (T := TX1) (N := 8) (f := 1) (i := i0) (X1_lawOf_ok hi0 rfl) ok_X1_lawOf ml_X1_64 (by decide) rfl (by decide) (show i0 < 3 from hi0) (by decide) rfl rfl (Nat.le_of_ble_eq_true rfl) dX1_given_2 ?_
  obtain ⟨hl1, h⟩ := chk h
  refine G_astore (L2 := [(5, .inr (.inr (2, (X1_lawOf i0 v1 M)))), (0, .inr (.inr (1, i0))), (1, .inl v1), (2, .inl v2), (3, .inl v3), (4, .inl v4)]) dX1_given_5 (by decide) rfl ?_
  refine G_iconst (v := 0) dX1_given_7 (by decide) ?_
  refine G_istore (L2 := [(6, .inl 0), (5, .inr (.inr (2, (X1_lawOf i0 v1 M)))), (0, .inr (.inr (1, i0))), (1, .inl v1), (2, .inl v2), (3, .inl v3), (4, .inl v4)]) dX1_given_8 (by decide) rfl ?_
  refine G_aload dX1_given_10 rfl ?_
  refine G_callVv (T := TX2) (N := 3) (f := 2) (i := (X1_lawOf i0 v1 M)) (X2_stands_ok (by omega) rfl) ok_X2_stands ml_X1_68 (by decide) rfl (by decide) (show (X1_lawOf i0 v1 M) < 7 from (by omega)) (by decide) rfl rfl (Nat.le_of_ble_eq_true rfl) dX1_given_12 ?_
  refine G_if_eq (tgt := 32) dX1_given_15 (by decide) (fun hc1 => ?_) (fun hc1 => ?_)
  · replace h := (if_pos hc1).symm.trans h
    refine G_iload_n dX1_given_32 rfl ?_
    refine G_if_ne (tgt := 43) dX1_given_33 (by decide) (fun hc2 => ?_) (fun hc2 => ?_)
    · replace h := (if_neg hc2).symm.trans h
      refine G_iconst (v := 0) dX1_given_43 (by decide) ?_
      refine G_bipush (v := 99) dX1_given_44 (by decide) ?_
      refine G_iload dX1_given_46 rfl ?_
      refine G_min ml_X1_76 st_min in_Math cd_min (by decide) (Nat.le_of_ble_eq_true rfl) dX1_given_48 ?_
      refine G_max ml_X1_82 st_max in_Math cd_max (by decide) (Nat.le_of_ble_eq_true rfl) dX1_given_51 ?_
      obtain rfl := Option.some.inj h
      exact G_ret dX1_given_54 trivial rfl rfl
    · replace h := (if_pos hc2).symm.trans h
      refine G_iload_n dX1_given_36 rfl ?_
      refine G_iload_n dX1_given_37 rfl ?_
      refine G_imul dX1_given_38 ?_
      refine G_iconst (v := 5) dX1_given_39 (by decide) ?_
      refine G_idiv (by decide) dX1_given_40 ?_
      refine G_istore (L2 := [(6, .inl ((v2 * v3) / 5)), (5, .inr (.inr (2, (X1_lawOf i0 v1 M)))), (0, .inr (.inr (1, i0))), (1, .inl v1), (2, .inl v2), (3, .inl v3), (4, .inl v4)]) dX1_given_41 (by decide) rfl ?_
      refine G_iconst (v := 0) dX1_given_43 (by decide) ?_
      refine G_bipush (v := 99) dX1_given_44 (by decide) ?_
      refine G_iload dX1_given_46 rfl ?_
      refine G_min ml_X1_76 st_min in_Math cd_min (by decide) (Nat.le_of_ble_eq_true rfl) dX1_given_48 ?_
      refine G_max ml_X1_82 st_max in_Math cd_max (by decide) (Nat.le_of_ble_eq_true rfl) dX1_given_51 ?_
      obtain rfl := Option.some.inj h
      exact G_ret dX1_given_54 trivial rfl rfl
  · replace h := (if_neg hc1).symm.trans h
    refine G_aload dX1_given_18 rfl ?_
    refine G_iload_n dX1_given_20 rfl ?_
    refine G_iload_n dX1_given_21 rfl ?_
    refine G_iload dX1_given_22 rfl ?_
    obtain ⟨q2, hq2, h⟩ := bnd h
    refine G_callVv (T := TX2) (N := 3) (f := 2) (i := (X1_lawOf i0 v1 M)) (X2_workedOut_ok (by omega) hq2) ok_X2_workedOut ml_X1_72 (by decide) rfl (by decide) (show (X1_lawOf i0 v1 M) < 7 from (by omega)) (by decide) rfl rfl (Nat.le_of_ble_eq_true rfl) dX1_given_24 ?_
    refine G_istore (L2 := [(6, .inl q2.1), (5, .inr (.inr (2, (X1_lawOf i0 v1 M)))), (0, .inr (.inr (1, i0))), (1, .inl v1), (2, .inl v2), (3, .inl v3), (4, .inl v4)]) dX1_given_27 (by decide) rfl ?_
    refine G_goto (tgt := 43) dX1_given_29 (by decide) ?_
    refine G_iconst (v := 0) dX1_given_43 (by decide) ?_
    refine G_bipush (v := 99) dX1_given_44 (by decide) ?_
    refine G_iload dX1_given_46 rfl ?_
    refine G_min ml_X1_76 st_min in_Math cd_min (by decide) (Nat.le_of_ble_eq_true rfl) dX1_given_48 ?_
    refine G_max ml_X1_82 st_max in_Math cd_max (by decide) (Nat.le_of_ble_eq_true rfl) dX1_given_51 ?_
    obtain rfl := Option.some.inj h
    exact G_ret dX1_given_54 trivial rfl rfl

theorem dX1_passYearOf_0 : decode cX1_passYearOf 0 = .ok (.aload_n 1, 1) := by decide +kernel
theorem dX1_passYearOf_1 : decode cX1_passYearOf 1 = .ok (.aload_n 0, 1) := by decide +kernel
theorem dX1_passYearOf_2 : decode cX1_passYearOf 2 = .ok (.iconst 0, 1) := by decide +kernel
theorem dX1_passYearOf_3 : decode cX1_passYearOf 3 = .ok (.aload_n 1, 1) := by decide +kernel
theorem dX1_passYearOf_4 : decode cX1_passYearOf 4 = .ok (.getfield 96, 3) := by decide +kernel
theorem dX1_passYearOf_7 : decode cX1_passYearOf 7 = .ok (.aload_n 0, 1) := by decide +kernel
theorem dX1_passYearOf_8 : decode cX1_passYearOf 8 = .ok (.getfield 15, 3) := by decide +kernel
theorem dX1_passYearOf_11 : decode cX1_passYearOf 11 = .ok (.iload_n 2, 1) := by decide +kernel
theorem dX1_passYearOf_12 : decode cX1_passYearOf 12 = .ok (.iaload, 1) := by decide +kernel
theorem dX1_passYearOf_13 : decode cX1_passYearOf 13 = .ok (.aload_n 0, 1) := by decide +kernel
theorem dX1_passYearOf_14 : decode cX1_passYearOf 14 = .ok (.getfield 9, 3) := by decide +kernel
theorem dX1_passYearOf_17 : decode cX1_passYearOf 17 = .ok (.iload_n 2, 1) := by decide +kernel
theorem dX1_passYearOf_18 : decode cX1_passYearOf 18 = .ok (.iaload, 1) := by decide +kernel
theorem dX1_passYearOf_19 : decode cX1_passYearOf 19 = .ok (.invokevirtual 99, 3) := by decide +kernel
theorem dX1_passYearOf_22 : decode cX1_passYearOf 22 = .ok (.invokevirtual 103, 3) := by decide +kernel
theorem dX1_passYearOf_25 : decode cX1_passYearOf 25 = .ok (.aload_n 0, 1) := by decide +kernel
theorem dX1_passYearOf_26 : decode cX1_passYearOf 26 = .ok (.getfield 31, 3) := by decide +kernel
theorem dX1_passYearOf_29 : decode cX1_passYearOf 29 = .ok (.invokevirtual 68, 3) := by decide +kernel
theorem dX1_passYearOf_32 : decode cX1_passYearOf 32 = .ok (.ifCond .ne 4, 3) := by decide +kernel
theorem dX1_passYearOf_35 : decode cX1_passYearOf 35 = .ok (.return_, 1) := by decide +kernel
theorem dX1_passYearOf_36 : decode cX1_passYearOf 36 = .ok (.aload_n 0, 1) := by decide +kernel
theorem dX1_passYearOf_37 : decode cX1_passYearOf 37 = .ok (.iload_n 2, 1) := by decide +kernel
theorem dX1_passYearOf_38 : decode cX1_passYearOf 38 = .ok (.invokevirtual 107, 3) := by decide +kernel
theorem dX1_passYearOf_41 : decode cX1_passYearOf 41 = .ok (.invokestatic 111, 3) := by decide +kernel
theorem dX1_passYearOf_44 : decode cX1_passYearOf 44 = .ok (.istore_n 3, 1) := by decide +kernel
theorem dX1_passYearOf_45 : decode cX1_passYearOf 45 = .ok (.aload_n 0, 1) := by decide +kernel
theorem dX1_passYearOf_46 : decode cX1_passYearOf 46 = .ok (.iconst 1, 1) := by decide +kernel
theorem dX1_passYearOf_47 : decode cX1_passYearOf 47 = .ok (.aload_n 1, 1) := by decide +kernel
theorem dX1_passYearOf_48 : decode cX1_passYearOf 48 = .ok (.getfield 96, 3) := by decide +kernel
theorem dX1_passYearOf_51 : decode cX1_passYearOf 51 = .ok (.aload_n 0, 1) := by decide +kernel
theorem dX1_passYearOf_52 : decode cX1_passYearOf 52 = .ok (.getfield 58, 3) := by decide +kernel
theorem dX1_passYearOf_55 : decode cX1_passYearOf 55 = .ok (.bipush 13, 2) := by decide +kernel
theorem dX1_passYearOf_57 : decode cX1_passYearOf 57 = .ok (.irem, 1) := by decide +kernel
theorem dX1_passYearOf_58 : decode cX1_passYearOf 58 = .ok (.iload_n 3, 1) := by decide +kernel
theorem dX1_passYearOf_59 : decode cX1_passYearOf 59 = .ok (.invokevirtual 99, 3) := by decide +kernel
theorem dX1_passYearOf_62 : decode cX1_passYearOf 62 = .ok (.aload_n 0, 1) := by decide +kernel
theorem dX1_passYearOf_63 : decode cX1_passYearOf 63 = .ok (.getfield 15, 3) := by decide +kernel
theorem dX1_passYearOf_66 : decode cX1_passYearOf 66 = .ok (.iload_n 2, 1) := by decide +kernel
theorem dX1_passYearOf_67 : decode cX1_passYearOf 67 = .ok (.iaload, 1) := by decide +kernel
theorem dX1_passYearOf_68 : decode cX1_passYearOf 68 = .ok (.if_icmp .le 24, 3) := by decide +kernel
theorem dX1_passYearOf_71 : decode cX1_passYearOf 71 = .ok (.aload_n 1, 1) := by decide +kernel
theorem dX1_passYearOf_72 : decode cX1_passYearOf 72 = .ok (.iconst (-1), 1) := by decide +kernel
theorem dX1_passYearOf_73 : decode cX1_passYearOf 73 = .ok (.putfield 85, 3) := by decide +kernel
theorem dX1_passYearOf_76 : decode cX1_passYearOf 76 = .ok (.aload_n 0, 1) := by decide +kernel
theorem dX1_passYearOf_77 : decode cX1_passYearOf 77 = .ok (.sipush 999, 3) := by decide +kernel
theorem dX1_passYearOf_80 : decode cX1_passYearOf 80 = .ok (.aload_n 0, 1) := by decide +kernel
theorem dX1_passYearOf_81 : decode cX1_passYearOf 81 = .ok (.getfield 61, 3) := by decide +kernel
theorem dX1_passYearOf_84 : decode cX1_passYearOf 84 = .ok (.iconst 1, 1) := by decide +kernel
theorem dX1_passYearOf_85 : decode cX1_passYearOf 85 = .ok (.iadd, 1) := by decide +kernel
theorem dX1_passYearOf_86 : decode cX1_passYearOf 86 = .ok (.invokestatic 76, 3) := by decide +kernel
theorem dX1_passYearOf_89 : decode cX1_passYearOf 89 = .ok (.putfield 61, 3) := by decide +kernel
theorem dX1_passYearOf_92 : decode cX1_passYearOf 92 = .ok (.return_, 1) := by decide +kernel
def X1_passYearOf (i0 : Nat) (i1 : Nat) (v2 : Int32) (M : Mem) : Option (Mem) := (if ib v2 5 = true then ((X1_given i0 0 (M 3 i1 3) (M 11 i0 v2.toNatClampNeg) (M 10 i0 v2.toNatClampNeg) M).bind fun q2 => ((X3_liveYear i1 q2.1 q2.2).bind fun q3 => (if (X2_stands (2 * i0 + 1) q3) = 0 then (some q3) else ((X1_potsIn i0 v2 q3).bind fun q4 => ((X1_given i0 1 (q3 3 i1 3) (jrem (q3 1 i0 6) 13) (J6_bitCount_0f7a4 q4) q3).bind fun q5 => (if (q5.2 11 i0 v2.toNatClampNeg) < q5.1 then (some (up3 (up3 q5.2 3 i1 2 (-1)) 1 i0 7 (jmin 999 ((q5.2 1 i0 7) + 1)))) else (some q5.2))))))) else none)
set_option maxRecDepth 100000 in
set_option maxHeartbeats 4000000 in
theorem X1_passYearOf_ok  {i0 : Nat} {i1 : Nat} {v2 : Int32} {M N : Mem} {res : Mem} (hi0 : i0 < 3) (hi1 : i1 < 30) (h : X1_passYearOf i0 i1 v2 M = some res) : Spec mt_X1_passYearOf 3 [.inr (.inr (1, i0)), .inr (.inr (3, i1)), .inl v2] (M, N) none (res, N) := by
  unfold X1_passYearOf at h
  refine Spec_of_G (by decide) rfl (Nat.le_of_ble_eq_true rfl) ?_
  refine G_sub [(0, .inr (.inr (1, i0))), (1, .inr (.inr (3, i1))), (2, .inl v2)] [0, 1, 2] rfl ?_
  refine G_aload_n dX1_passYearOf_0 rfl ?_
  refine G_aload_n dX1_passYearOf_1 rfl ?_
  refine G_iconst (v := 0) dX1_passYearOf_2 (by decide) ?_
  refine G_aload_n dX1_passYearOf_3 rfl ?_
  refine fg_X1_96 (v := (M 3 i1 3)) rfl rfl hi1 dX1_passYearOf_4 ?_
  refine G_aload_n dX1_passYearOf_7 rfl ?_
  refine fg_X1_15 rfl hi0 dX1_passYearOf_8 ?_
  refine G_iload_n dX1_passYearOf_11 rfl ?_
  obtain ⟨hb1, h⟩ := chk h
  have lhb1 := ib_lt hb1
  refine al_11 (kk := v2.toNatClampNeg) (v := (M 11 i0 v2.toNatClampNeg)) hi0 hb1 rfl rfl dX1_passYearOf_12 ?_
  refine G_aload_n dX1_passYearOf_13 rfl ?_
  refine fg_X1_9 rfl hi0 dX1_passYearOf_14 ?_
  refine G_iload_n dX1_passYearOf_17 rfl ?_
  refine al_10 (kk := v2.toNatClampNeg) (v := (M 10 i0 v2.toNatClampNeg)) hi0 hb1 rfl rfl dX1_passYearOf_18 ?_
  obtain ⟨q2, hq2, h⟩ := bnd h
  refine G_callVv (T := TX1) (N := 8) (f := 1) (i := i0) (X1_given_ok hi0 hq2) ok_X1_given ml_X1_99 (by decide) rfl (by decide) (show i0 < 3 from hi0) (by decide) rfl rfl (Nat.le_of_ble_eq_true rfl) dX1_passYearOf_19 ?_
  obtain ⟨q3, hq3, h⟩ := bnd h
  refine G_callVn (T := TX3) (N := 8) (f := 3) (i := i1) (X3_liveYear_ok hi1 hq3) ok_X3_liveYear ml_X1_103 (by decide) rfl (by decide) (show i1 < 30 from hi1) (by decide) rfl rfl (Nat.le_of_ble_eq_true rfl) dX1_passYearOf_22 ?_
  refine G_aload_n dX1_passYearOf_25 rfl ?_
  refine fg_X1_31 rfl hi0 dX1_passYearOf_26 ?_
  refine G_callVv (T := TX2) (N := 3) (f := 2) (i := (2 * i0 + 1)) (X2_stands_ok (by omega) rfl) ok_X2_stands ml_X1_68 (by decide) rfl (by decide) (show (2 * i0 + 1) < 7 from (by omega)) (by decide) rfl rfl (Nat.le_of_ble_eq_true rfl) dX1_passYearOf_29 ?_
  refine G_if_ne (tgt := 36) dX1_passYearOf_32 (by decide) (fun hc1 => ?_) (fun hc1 => ?_)
  · replace h := (if_neg hc1).symm.trans h
    refine G_aload_n dX1_passYearOf_36 rfl ?_
    refine G_iload_n dX1_passYearOf_37 rfl ?_
    obtain ⟨q4, hq4, h⟩ := bnd h
    refine G_callVv (T := TX1) (N := 8) (f := 1) (i := i0) (X1_potsIn_ok hi0 hq4) ok_X1_potsIn ml_X1_107 (by decide) rfl (by decide) (show i0 < 3 from hi0) (by decide) rfl rfl (Nat.le_of_ble_eq_true rfl) dX1_passYearOf_38 ?_
    refine G_callSv  (J6_bitCount_0f7a4_ok rfl) ok_J6_bitCount_0f7a4 ml_X1_111 (by decide) rfl rfl (Nat.le_of_ble_eq_true rfl) dX1_passYearOf_41 ?_
    refine G_istore_n (L2 := [(3, .inl (J6_bitCount_0f7a4 q4)), (0, .inr (.inr (1, i0))), (1, .inr (.inr (3, i1))), (2, .inl v2)]) dX1_passYearOf_44 (by decide) rfl ?_
    refine G_aload_n dX1_passYearOf_45 rfl ?_
    refine G_iconst (v := 1) dX1_passYearOf_46 (by decide) ?_
    refine G_aload_n dX1_passYearOf_47 rfl ?_
    refine fg_X1_96 (v := (q3 3 i1 3)) rfl rfl hi1 dX1_passYearOf_48 ?_
    refine G_aload_n dX1_passYearOf_51 rfl ?_
    refine fg_X1_58 (v := (q3 1 i0 6)) rfl rfl hi0 dX1_passYearOf_52 ?_
    refine G_bipush (v := 13) dX1_passYearOf_55 (by decide) ?_
    refine G_irem (by decide) dX1_passYearOf_57 ?_
    refine G_iload_n dX1_passYearOf_58 rfl ?_
    obtain ⟨q5, hq5, h⟩ := bnd h
    refine G_callVv (T := TX1) (N := 8) (f := 1) (i := i0) (X1_given_ok hi0 hq5) ok_X1_given ml_X1_99 (by decide) rfl (by decide) (show i0 < 3 from hi0) (by decide) rfl rfl (Nat.le_of_ble_eq_true rfl) dX1_passYearOf_59 ?_
    refine G_aload_n dX1_passYearOf_62 rfl ?_
    refine fg_X1_15 rfl hi0 dX1_passYearOf_63 ?_
    refine G_iload_n dX1_passYearOf_66 rfl ?_
    refine al_11 (kk := v2.toNatClampNeg) (v := (q5.2 11 i0 v2.toNatClampNeg)) hi0 hb1 rfl rfl dX1_passYearOf_67 ?_
    refine G_icmp_le (tgt := 92) dX1_passYearOf_68 (by decide) (fun hc2 => ?_) (fun hc2 => ?_)
    · replace h := (if_neg hc2).symm.trans h
      obtain rfl := Option.some.inj h
      exact G_ret dX1_passYearOf_92 trivial rfl rfl
    · replace h := (if_pos hc2).symm.trans h
      refine G_aload_n dX1_passYearOf_71 rfl ?_
      refine G_iconst (v := (-1)) dX1_passYearOf_72 (by decide) ?_
      refine fp_X1_85 rfl hi1 dX1_passYearOf_73 ?_
      refine G_aload_n dX1_passYearOf_76 rfl ?_
      refine G_sipush (v := 999) dX1_passYearOf_77 (by decide) ?_
      refine G_aload_n dX1_passYearOf_80 rfl ?_
      refine fg_X1_61 (v := (q5.2 1 i0 7)) (up3_f (by decide)) rfl hi0 dX1_passYearOf_81 ?_
      refine G_iconst (v := 1) dX1_passYearOf_84 (by decide) ?_
      refine G_iadd dX1_passYearOf_85 ?_
      refine G_min ml_X1_76 st_min in_Math cd_min (by decide) (Nat.le_of_ble_eq_true rfl) dX1_passYearOf_86 ?_
      refine fp_X1_61 rfl hi0 dX1_passYearOf_89 ?_
      obtain rfl := Option.some.inj h
      exact G_ret dX1_passYearOf_92 trivial rfl rfl
  · replace h := (if_pos hc1).symm.trans h
    obtain rfl := Option.some.inj h
    exact G_ret dX1_passYearOf_35 trivial rfl rfl

theorem dX1_passYears_0 : decode cX1_passYears 0 = .ok (.iconst 0, 1) := by decide +kernel
theorem dX1_passYears_1 : decode cX1_passYears 1 = .ok (.istore_n 2, 1) := by decide +kernel
theorem dX1_passYears_2 : decode cX1_passYears 2 = .ok (.iload_n 2, 1) := by decide +kernel
theorem dX1_passYears_3 : decode cX1_passYears 3 = .ok (.iload_n 1, 1) := by decide +kernel
theorem dX1_passYears_4 : decode cX1_passYears 4 = .ok (.if_icmp .ge 69, 3) := by decide +kernel
theorem dX1_passYears_7 : decode cX1_passYears 7 = .ok (.iconst 0, 1) := by decide +kernel
theorem dX1_passYears_8 : decode cX1_passYears 8 = .ok (.istore_n 3, 1) := by decide +kernel
theorem dX1_passYears_9 : decode cX1_passYears 9 = .ok (.iload_n 3, 1) := by decide +kernel
theorem dX1_passYears_10 : decode cX1_passYears 10 = .ok (.aload_n 0, 1) := by decide +kernel
theorem dX1_passYears_11 : decode cX1_passYears 11 = .ok (.getfield 47, 3) := by decide +kernel
theorem dX1_passYears_14 : decode cX1_passYears 14 = .ok (.if_icmp .ge 43, 3) := by decide +kernel
theorem dX1_passYears_17 : decode cX1_passYears 17 = .ok (.aload_n 0, 1) := by decide +kernel
theorem dX1_passYears_18 : decode cX1_passYears 18 = .ok (.getfield 20, 3) := by decide +kernel
theorem dX1_passYears_21 : decode cX1_passYears 21 = .ok (.iload_n 3, 1) := by decide +kernel
theorem dX1_passYears_22 : decode cX1_passYears 22 = .ok (.aaload, 1) := by decide +kernel
theorem dX1_passYears_23 : decode cX1_passYears 23 = .ok (.getfield 85, 3) := by decide +kernel
theorem dX1_passYears_26 : decode cX1_passYears 26 = .ok (.invokestatic 88, 3) := by decide +kernel
theorem dX1_passYears_29 : decode cX1_passYears 29 = .ok (.ifCond .eq 22, 3) := by decide +kernel
theorem dX1_passYears_32 : decode cX1_passYears 32 = .ok (.aload_n 0, 1) := by decide +kernel
theorem dX1_passYears_33 : decode cX1_passYears 33 = .ok (.aload_n 0, 1) := by decide +kernel
theorem dX1_passYears_34 : decode cX1_passYears 34 = .ok (.getfield 20, 3) := by decide +kernel
theorem dX1_passYears_37 : decode cX1_passYears 37 = .ok (.iload_n 3, 1) := by decide +kernel
theorem dX1_passYears_38 : decode cX1_passYears 38 = .ok (.aaload, 1) := by decide +kernel
theorem dX1_passYears_39 : decode cX1_passYears 39 = .ok (.aload_n 0, 1) := by decide +kernel
theorem dX1_passYears_40 : decode cX1_passYears 40 = .ok (.getfield 20, 3) := by decide +kernel
theorem dX1_passYears_43 : decode cX1_passYears 43 = .ok (.iload_n 3, 1) := by decide +kernel
theorem dX1_passYears_44 : decode cX1_passYears 44 = .ok (.aaload, 1) := by decide +kernel
theorem dX1_passYears_45 : decode cX1_passYears 45 = .ok (.getfield 85, 3) := by decide +kernel
theorem dX1_passYears_48 : decode cX1_passYears 48 = .ok (.invokevirtual 92, 3) := by decide +kernel
theorem dX1_passYears_51 : decode cX1_passYears 51 = .ok (.iinc 3 1, 3) := by decide +kernel
theorem dX1_passYears_54 : decode cX1_passYears 54 = .ok (.goto (-45), 3) := by decide +kernel
theorem dX1_passYears_57 : decode cX1_passYears 57 = .ok (.aload_n 0, 1) := by decide +kernel
theorem dX1_passYears_58 : decode cX1_passYears 58 = .ok (.dup, 1) := by decide +kernel
theorem dX1_passYears_59 : decode cX1_passYears 59 = .ok (.getfield 58, 3) := by decide +kernel
theorem dX1_passYears_62 : decode cX1_passYears 62 = .ok (.iconst 1, 1) := by decide +kernel
theorem dX1_passYears_63 : decode cX1_passYears 63 = .ok (.iadd, 1) := by decide +kernel
theorem dX1_passYears_64 : decode cX1_passYears 64 = .ok (.putfield 58, 3) := by decide +kernel
theorem dX1_passYears_67 : decode cX1_passYears 67 = .ok (.iinc 2 1, 3) := by decide +kernel
theorem dX1_passYears_70 : decode cX1_passYears 70 = .ok (.goto (-68), 3) := by decide +kernel
theorem dX1_passYears_73 : decode cX1_passYears 73 = .ok (.return_, 1) := by decide +kernel
def X1_passYears_L9 : Nat → Nat → Int32 → Int32 → Int32 → Mem → Option (Mem)
  | 0, _, _, _, _, _ => none
  | fu + 1, i0, v1, v2, v3, M => (if v3 < (M 1 i0 5) then (if ib v3 10 = true then (if (X7_isHouse (M 3 (10 * i0 + v3.toNatClampNeg) 2)) = 0 then (X1_passYears_L9 fu i0 v1 v2 (v3 + 1) M) else ((X1_passYearOf i0 (10 * i0 + v3.toNatClampNeg) (M 3 (10 * i0 + v3.toNatClampNeg) 2) M).bind fun q2 => (X1_passYears_L9 fu i0 v1 v2 (v3 + 1) q2))) else none) else (some M))
set_option maxRecDepth 100000 in
set_option maxHeartbeats 4000000 in
theorem X1_passYears_L9_ok  {r : Option AV} {M' : MM} : ∀ (fu : Nat) (i0 : Nat) (v1 : Int32) (v2 : Int32) (v3 : Int32) (M N : Mem) {res : Mem} (hi0 : i0 < 3) (h : X1_passYears_L9 fu i0 v1 v2 v3 M = some res) (K : G mt_X1_passYears 4 r M' 57 [(0, .inr (.inr (1, i0))), (1, .inl v1), (2, .inl v2)] [] (res, N)), G mt_X1_passYears 4 r M' 9 [(0, .inr (.inr (1, i0))), (1, .inl v1), (2, .inl v2), (3, .inl v3)] [] (M, N) := by
  intro fu
  induction fu with
  | zero =>
    intro i0 v1 v2 v3 M N res hi0 h
    cases h
  | succ fu ih =>
    intro i0 v1 v2 v3 M N res hi0 h K
    replace h : (if v3 < (M 1 i0 5) then (if ib v3 10 = true then (if (X7_isHouse (M 3 (10 * i0 + v3.toNatClampNeg) 2)) = 0 then (X1_passYears_L9 fu i0 v1 v2 (v3 + 1) M) else ((X1_passYearOf i0 (10 * i0 + v3.toNatClampNeg) (M 3 (10 * i0 + v3.toNatClampNeg) 2) M).bind fun q2 => (X1_passYears_L9 fu i0 v1 v2 (v3 + 1) q2))) else none) else (some M)) = some res := h
    refine G_iload_n dX1_passYears_9 rfl ?_
    refine G_aload_n dX1_passYears_10 rfl ?_
    refine fg_X1_47 (v := (M 1 i0 5)) rfl rfl hi0 dX1_passYears_11 ?_
    refine G_icmp_ge (tgt := 57) dX1_passYears_14 (by decide) (fun hc2 => ?_) (fun hc2 => ?_)
    · replace h := (if_neg hc2).symm.trans h
      refine G_sub [(0, .inr (.inr (1, i0))), (1, .inl v1), (2, .inl v2)] [0, 1, 2] rfl ?_
      obtain rfl := Option.some.inj h
      exact K
    · replace h := (if_pos hc2).symm.trans h
      refine G_aload_n dX1_passYears_17 rfl ?_
      refine fg_X1_20 rfl hi0 dX1_passYears_18 ?_
      refine G_iload_n dX1_passYears_21 rfl ?_
      obtain ⟨hb1, h⟩ := chk h
      have lhb1 := ib_lt hb1
      refine G_aald3 (by decide) (show i0 < 3 from hi0) (by decide) rfl hb1 dX1_passYears_22 ?_
      refine fg_X1_85 (v := (M 3 (10 * i0 + v3.toNatClampNeg) 2)) rfl rfl (by omega) dX1_passYears_23 ?_
      refine G_callSNv  (X7_isHouse_ok rfl) ok_X7_isHouse (by first | exact List.mem_cons_self | exact List.mem_cons_of_mem _ List.mem_cons_self) (by decide) rfl rfl (Nat.le_of_ble_eq_true rfl) dX1_passYears_26 ?_
      refine G_if_eq (tgt := 51) dX1_passYears_29 (by decide) (fun hc3 => ?_) (fun hc3 => ?_)
      · replace h := (if_pos hc3).symm.trans h
        refine G_iinc (v := (v3 + 1)) (L2 := [(3, .inl (v3 + 1)), (0, .inr (.inr (1, i0))), (1, .inl v1), (2, .inl v2)]) dX1_passYears_51 rfl (by first | rfl | (show _ + Int32.ofInt _ = _; rfl)) (by decide) rfl ?_
        refine G_goto (tgt := 9) dX1_passYears_54 (by decide) ?_
        refine G_sub [(0, .inr (.inr (1, i0))), (1, .inl v1), (2, .inl v2), (3, .inl (v3 + 1))] [1, 2, 3, 0] rfl ?_
        exact ih i0 v1 v2 (v3 + 1) M _ hi0 h K
      · replace h := (if_neg hc3).symm.trans h
        refine G_aload_n dX1_passYears_32 rfl ?_
        refine G_aload_n dX1_passYears_33 rfl ?_
        refine fg_X1_20 rfl hi0 dX1_passYears_34 ?_
        refine G_iload_n dX1_passYears_37 rfl ?_
        refine G_aald3 (by decide) (show i0 < 3 from hi0) (by decide) rfl hb1 dX1_passYears_38 ?_
        refine G_aload_n dX1_passYears_39 rfl ?_
        refine fg_X1_20 rfl hi0 dX1_passYears_40 ?_
        refine G_iload_n dX1_passYears_43 rfl ?_
        refine G_aald3 (by decide) (show i0 < 3 from hi0) (by decide) rfl hb1 dX1_passYears_44 ?_
        refine fg_X1_85 (v := (M 3 (10 * i0 + v3.toNatClampNeg) 2)) rfl rfl (by omega) dX1_passYears_45 ?_
        obtain ⟨q2, hq2, h⟩ := bnd h
        refine G_callVn (T := TX1) (N := 8) (f := 1) (i := i0) (X1_passYearOf_ok hi0 (by omega) hq2) ok_X1_passYearOf ml_X1_92 (by decide) rfl (by decide) (show i0 < 3 from hi0) (by decide) rfl rfl (Nat.le_of_ble_eq_true rfl) dX1_passYears_48 ?_
        refine G_iinc (v := (v3 + 1)) (L2 := [(3, .inl (v3 + 1)), (0, .inr (.inr (1, i0))), (1, .inl v1), (2, .inl v2)]) dX1_passYears_51 rfl (by first | rfl | (show _ + Int32.ofInt _ = _; rfl)) (by decide) rfl ?_
        refine G_goto (tgt := 9) dX1_passYears_54 (by decide) ?_
        refine G_sub [(0, .inr (.inr (1, i0))), (1, .inl v1), (2, .inl v2), (3, .inl (v3 + 1))] [1, 2, 3, 0] rfl ?_
        exact ih i0 v1 v2 (v3 + 1) q2 _ hi0 h K

def X1_passYears_L2 : Nat → Nat → Int32 → Int32 → Mem → Option (Mem)
  | 0, _, _, _, _ => none
  | fu + 1, i0, v1, v2, M => (if v2 < v1 then ((X1_passYears_L9 400 i0 v1 v2 0 M).bind fun q3 => (X1_passYears_L2 fu i0 v1 (v2 + 1) (up3 q3 1 i0 6 ((q3 1 i0 6) + 1)))) else (some M))
set_option maxRecDepth 100000 in
set_option maxHeartbeats 4000000 in
theorem X1_passYears_L2_ok  {r : Option AV} {M' : MM} : ∀ (fu : Nat) (i0 : Nat) (v1 : Int32) (v2 : Int32) (M N : Mem) {res : Mem} (hi0 : i0 < 3) (h : X1_passYears_L2 fu i0 v1 v2 M = some res) (K : G mt_X1_passYears 4 r M' 73 [] [] (res, N)), G mt_X1_passYears 4 r M' 2 [(0, .inr (.inr (1, i0))), (1, .inl v1), (2, .inl v2)] [] (M, N) := by
  intro fu
  induction fu with
  | zero =>
    intro i0 v1 v2 M N res hi0 h
    cases h
  | succ fu ih =>
    intro i0 v1 v2 M N res hi0 h K
    replace h : (if v2 < v1 then ((X1_passYears_L9 400 i0 v1 v2 0 M).bind fun q3 => (X1_passYears_L2 fu i0 v1 (v2 + 1) (up3 q3 1 i0 6 ((q3 1 i0 6) + 1)))) else (some M)) = some res := h
    refine G_iload_n dX1_passYears_2 rfl ?_
    refine G_iload_n dX1_passYears_3 rfl ?_
    refine G_icmp_ge (tgt := 73) dX1_passYears_4 (by decide) (fun hc1 => ?_) (fun hc1 => ?_)
    · replace h := (if_neg hc1).symm.trans h
      refine G_sub [] [] rfl ?_
      obtain rfl := Option.some.inj h
      exact K
    · replace h := (if_pos hc1).symm.trans h
      refine G_iconst (v := 0) dX1_passYears_7 (by decide) ?_
      refine G_istore_n (L2 := [(3, .inl 0), (0, .inr (.inr (1, i0))), (1, .inl v1), (2, .inl v2)]) dX1_passYears_8 (by decide) rfl ?_
      refine G_sub [(0, .inr (.inr (1, i0))), (1, .inl v1), (2, .inl v2), (3, .inl 0)] [1, 2, 3, 0] rfl ?_
      obtain ⟨q3, hq3, h⟩ := bnd h
      refine X1_passYears_L9_ok  400 i0 v1 v2 0 M _ hi0 hq3 ?_
      refine G_aload_n dX1_passYears_57 rfl ?_
      refine G_dup rfl dX1_passYears_58 ?_
      refine fg_X1_58 (v := (q3 1 i0 6)) rfl rfl hi0 dX1_passYears_59 ?_
      refine G_iconst (v := 1) dX1_passYears_62 (by decide) ?_
      refine G_iadd dX1_passYears_63 ?_
      refine fp_X1_58 rfl hi0 dX1_passYears_64 ?_
      refine G_iinc (v := (v2 + 1)) (L2 := [(2, .inl (v2 + 1)), (0, .inr (.inr (1, i0))), (1, .inl v1)]) dX1_passYears_67 rfl (by first | rfl | (show _ + Int32.ofInt _ = _; rfl)) (by decide) rfl ?_
      refine G_goto (tgt := 2) dX1_passYears_70 (by decide) ?_
      refine G_sub [(0, .inr (.inr (1, i0))), (1, .inl v1), (2, .inl (v2 + 1))] [1, 2, 0] rfl ?_
      exact ih i0 v1 (v2 + 1) (up3 q3 1 i0 6 ((q3 1 i0 6) + 1)) _ hi0 h K

def X1_passYears (i0 : Nat) (v1 : Int32) (M : Mem) : Option (Mem) := ((X1_passYears_L2 400 i0 v1 0 M).bind fun q4 => (some q4))
set_option maxRecDepth 100000 in
set_option maxHeartbeats 4000000 in
theorem X1_passYears_ok  {i0 : Nat} {v1 : Int32} {M N : Mem} {res : Mem} (hi0 : i0 < 3) (h : X1_passYears i0 v1 M = some res) : Spec mt_X1_passYears 4 [.inr (.inr (1, i0)), .inl v1] (M, N) none (res, N) := by
  unfold X1_passYears at h
  refine Spec_of_G (by decide) rfl (Nat.le_of_ble_eq_true rfl) ?_
  refine G_sub [(0, .inr (.inr (1, i0))), (1, .inl v1)] [0, 1] rfl ?_
  refine G_iconst (v := 0) dX1_passYears_0 (by decide) ?_
  refine G_istore_n (L2 := [(2, .inl 0), (0, .inr (.inr (1, i0))), (1, .inl v1)]) dX1_passYears_1 (by decide) rfl ?_
  refine G_sub [(0, .inr (.inr (1, i0))), (1, .inl v1), (2, .inl 0)] [1, 2, 0] rfl ?_
  obtain ⟨q4, hq4, h⟩ := bnd h
  refine X1_passYears_L2_ok  400 i0 v1 0 M _ hi0 hq4 ?_
  obtain rfl := Option.some.inj h
  exact G_ret dX1_passYears_73 trivial rfl rfl

theorem dX1_allHandles_0 : decode cX1_allHandles 0 = .ok (.iconst 0, 1) := by decide +kernel
theorem dX1_allHandles_1 : decode cX1_allHandles 1 = .ok (.istore_n 1, 1) := by decide +kernel
theorem dX1_allHandles_2 : decode cX1_allHandles 2 = .ok (.iconst 0, 1) := by decide +kernel
theorem dX1_allHandles_3 : decode cX1_allHandles 3 = .ok (.istore_n 2, 1) := by decide +kernel
theorem dX1_allHandles_4 : decode cX1_allHandles 4 = .ok (.iload_n 2, 1) := by decide +kernel
theorem dX1_allHandles_5 : decode cX1_allHandles 5 = .ok (.aload_n 0, 1) := by decide +kernel
theorem dX1_allHandles_6 : decode cX1_allHandles 6 = .ok (.getfield 47, 3) := by decide +kernel
theorem dX1_allHandles_9 : decode cX1_allHandles 9 = .ok (.if_icmp .ge 21, 3) := by decide +kernel
theorem dX1_allHandles_12 : decode cX1_allHandles 12 = .ok (.iload_n 1, 1) := by decide +kernel
theorem dX1_allHandles_13 : decode cX1_allHandles 13 = .ok (.aload_n 0, 1) := by decide +kernel
theorem dX1_allHandles_14 : decode cX1_allHandles 14 = .ok (.getfield 20, 3) := by decide +kernel
theorem dX1_allHandles_17 : decode cX1_allHandles 17 = .ok (.iload_n 2, 1) := by decide +kernel
theorem dX1_allHandles_18 : decode cX1_allHandles 18 = .ok (.aaload, 1) := by decide +kernel
theorem dX1_allHandles_19 : decode cX1_allHandles 19 = .ok (.getfield 116, 3) := by decide +kernel
theorem dX1_allHandles_22 : decode cX1_allHandles 22 = .ok (.iadd, 1) := by decide +kernel
theorem dX1_allHandles_23 : decode cX1_allHandles 23 = .ok (.istore_n 1, 1) := by decide +kernel
theorem dX1_allHandles_24 : decode cX1_allHandles 24 = .ok (.iinc 2 1, 3) := by decide +kernel
theorem dX1_allHandles_27 : decode cX1_allHandles 27 = .ok (.goto (-23), 3) := by decide +kernel
theorem dX1_allHandles_30 : decode cX1_allHandles 30 = .ok (.iload_n 1, 1) := by decide +kernel
theorem dX1_allHandles_31 : decode cX1_allHandles 31 = .ok (.ireturn, 1) := by decide +kernel
def X1_allHandles_L4 : Nat → Nat → Int32 → Int32 → Mem → Option (Int32)
  | 0, _, _, _, _ => none
  | fu + 1, i0, v1, v2, M => (if v2 < (M 1 i0 5) then (if ib v2 10 = true then (X1_allHandles_L4 fu i0 (v1 + (M 3 (10 * i0 + v2.toNatClampNeg) 6)) (v2 + 1) M) else none) else (some v1))
set_option maxRecDepth 100000 in
set_option maxHeartbeats 4000000 in
theorem X1_allHandles_L4_ok  {r : Option AV} {M' : MM} : ∀ (fu : Nat) (i0 : Nat) (v1 : Int32) (v2 : Int32) (M N : Mem) {res : Int32} (hi0 : i0 < 3) (h : X1_allHandles_L4 fu i0 v1 v2 M = some res) (K : G mt_X1_allHandles 0 r M' 30 [(1, .inl res)] [] (M, N)), G mt_X1_allHandles 0 r M' 4 [(0, .inr (.inr (1, i0))), (1, .inl v1), (2, .inl v2)] [] (M, N) := by
  intro fu
  induction fu with
  | zero =>
    intro i0 v1 v2 M N res hi0 h
    cases h
  | succ fu ih =>
    intro i0 v1 v2 M N res hi0 h K
    replace h : (if v2 < (M 1 i0 5) then (if ib v2 10 = true then (X1_allHandles_L4 fu i0 (v1 + (M 3 (10 * i0 + v2.toNatClampNeg) 6)) (v2 + 1) M) else none) else (some v1)) = some res := h
    refine G_iload_n dX1_allHandles_4 rfl ?_
    refine G_aload_n dX1_allHandles_5 rfl ?_
    refine fg_X1_47 (v := (M 1 i0 5)) rfl rfl hi0 dX1_allHandles_6 ?_
    refine G_icmp_ge (tgt := 30) dX1_allHandles_9 (by decide) (fun hc1 => ?_) (fun hc1 => ?_)
    · replace h := (if_neg hc1).symm.trans h
      refine G_sub [(1, .inl v1)] [1] rfl ?_
      obtain rfl := Option.some.inj h
      exact K
    · replace h := (if_pos hc1).symm.trans h
      refine G_iload_n dX1_allHandles_12 rfl ?_
      refine G_aload_n dX1_allHandles_13 rfl ?_
      refine fg_X1_20 rfl hi0 dX1_allHandles_14 ?_
      refine G_iload_n dX1_allHandles_17 rfl ?_
      obtain ⟨hb1, h⟩ := chk h
      have lhb1 := ib_lt hb1
      refine G_aald3 (by decide) (show i0 < 3 from hi0) (by decide) rfl hb1 dX1_allHandles_18 ?_
      refine fg_X1_116 (v := (M 3 (10 * i0 + v2.toNatClampNeg) 6)) rfl rfl (by omega) dX1_allHandles_19 ?_
      refine G_iadd dX1_allHandles_22 ?_
      refine G_istore_n (L2 := [(1, .inl (v1 + (M 3 (10 * i0 + v2.toNatClampNeg) 6))), (0, .inr (.inr (1, i0))), (2, .inl v2)]) dX1_allHandles_23 (by decide) rfl ?_
      refine G_iinc (v := (v2 + 1)) (L2 := [(2, .inl (v2 + 1)), (1, .inl (v1 + (M 3 (10 * i0 + v2.toNatClampNeg) 6))), (0, .inr (.inr (1, i0)))]) dX1_allHandles_24 rfl (by first | rfl | (show _ + Int32.ofInt _ = _; rfl)) (by decide) rfl ?_
      refine G_goto (tgt := 4) dX1_allHandles_27 (by decide) ?_
      refine G_sub [(0, .inr (.inr (1, i0))), (1, .inl (v1 + (M 3 (10 * i0 + v2.toNatClampNeg) 6))), (2, .inl (v2 + 1))] [2, 1, 0] rfl ?_
      exact ih i0 (v1 + (M 3 (10 * i0 + v2.toNatClampNeg) 6)) (v2 + 1) M _ hi0 h K

def X1_allHandles (i0 : Nat) (M : Mem) : Option (Int32) := ((X1_allHandles_L4 400 i0 0 0 M).bind fun q2 => (some q2))
set_option maxRecDepth 100000 in
set_option maxHeartbeats 4000000 in
theorem X1_allHandles_ok  {i0 : Nat} {M N : Mem} {res : Int32} (hi0 : i0 < 3) (h : X1_allHandles i0 M = some res) : Spec mt_X1_allHandles 0 [.inr (.inr (1, i0))] (M, N) (some (.inl res)) (M, N) := by
  unfold X1_allHandles at h
  refine Spec_of_G (by decide) rfl (Nat.le_of_ble_eq_true rfl) ?_
  refine G_sub [(0, .inr (.inr (1, i0)))] [0] rfl ?_
  refine G_iconst (v := 0) dX1_allHandles_0 (by decide) ?_
  refine G_istore_n (L2 := [(1, .inl 0), (0, .inr (.inr (1, i0)))]) dX1_allHandles_1 (by decide) rfl ?_
  refine G_iconst (v := 0) dX1_allHandles_2 (by decide) ?_
  refine G_istore_n (L2 := [(2, .inl 0), (1, .inl 0), (0, .inr (.inr (1, i0)))]) dX1_allHandles_3 (by decide) rfl ?_
  refine G_sub [(0, .inr (.inr (1, i0))), (1, .inl 0), (2, .inl 0)] [2, 1, 0] rfl ?_
  obtain ⟨q2, hq2, h⟩ := bnd h
  refine X1_allHandles_L4_ok  400 i0 0 0 M _ hi0 hq2 ?_
  refine G_iload_n dX1_allHandles_30 rfl ?_
  obtain rfl := Option.some.inj h
  exact G_ret dX1_allHandles_31 trivial rfl rfl

theorem dX1_copy_0 : decode cX1_copy 0 = .ok (.aload_n 1, 1) := by decide +kernel
theorem dX1_copy_1 : decode cX1_copy 1 = .ok (.getfield 9, 3) := by decide +kernel
theorem dX1_copy_4 : decode cX1_copy 4 = .ok (.iconst 0, 1) := by decide +kernel
theorem dX1_copy_5 : decode cX1_copy 5 = .ok (.aload_n 0, 1) := by decide +kernel
theorem dX1_copy_6 : decode cX1_copy 6 = .ok (.getfield 9, 3) := by decide +kernel
theorem dX1_copy_9 : decode cX1_copy 9 = .ok (.iconst 0, 1) := by decide +kernel
theorem dX1_copy_10 : decode cX1_copy 10 = .ok (.iconst 5, 1) := by decide +kernel
theorem dX1_copy_11 : decode cX1_copy 11 = .ok (.invokestatic 41, 3) := by decide +kernel
theorem dX1_copy_14 : decode cX1_copy 14 = .ok (.aload_n 1, 1) := by decide +kernel
theorem dX1_copy_15 : decode cX1_copy 15 = .ok (.getfield 15, 3) := by decide +kernel
theorem dX1_copy_18 : decode cX1_copy 18 = .ok (.iconst 0, 1) := by decide +kernel
theorem dX1_copy_19 : decode cX1_copy 19 = .ok (.aload_n 0, 1) := by decide +kernel
theorem dX1_copy_20 : decode cX1_copy 20 = .ok (.getfield 15, 3) := by decide +kernel
theorem dX1_copy_23 : decode cX1_copy 23 = .ok (.iconst 0, 1) := by decide +kernel
theorem dX1_copy_24 : decode cX1_copy 24 = .ok (.iconst 5, 1) := by decide +kernel
theorem dX1_copy_25 : decode cX1_copy 25 = .ok (.invokestatic 41, 3) := by decide +kernel
theorem dX1_copy_28 : decode cX1_copy 28 = .ok (.iconst 0, 1) := by decide +kernel
theorem dX1_copy_29 : decode cX1_copy 29 = .ok (.istore_n 2, 1) := by decide +kernel
theorem dX1_copy_30 : decode cX1_copy 30 = .ok (.iload_n 2, 1) := by decide +kernel
theorem dX1_copy_31 : decode cX1_copy 31 = .ok (.aload_n 1, 1) := by decide +kernel
theorem dX1_copy_32 : decode cX1_copy 32 = .ok (.getfield 47, 3) := by decide +kernel
theorem dX1_copy_35 : decode cX1_copy 35 = .ok (.if_icmp .ge 24, 3) := by decide +kernel
theorem dX1_copy_38 : decode cX1_copy 38 = .ok (.aload_n 0, 1) := by decide +kernel
theorem dX1_copy_39 : decode cX1_copy 39 = .ok (.getfield 20, 3) := by decide +kernel
theorem dX1_copy_42 : decode cX1_copy 42 = .ok (.iload_n 2, 1) := by decide +kernel
theorem dX1_copy_43 : decode cX1_copy 43 = .ok (.aaload, 1) := by decide +kernel
theorem dX1_copy_44 : decode cX1_copy 44 = .ok (.aload_n 1, 1) := by decide +kernel
theorem dX1_copy_45 : decode cX1_copy 45 = .ok (.getfield 20, 3) := by decide +kernel
theorem dX1_copy_48 : decode cX1_copy 48 = .ok (.iload_n 2, 1) := by decide +kernel
theorem dX1_copy_49 : decode cX1_copy 49 = .ok (.aaload, 1) := by decide +kernel
theorem dX1_copy_50 : decode cX1_copy 50 = .ok (.invokevirtual 51, 3) := by decide +kernel
theorem dX1_copy_53 : decode cX1_copy 53 = .ok (.iinc 2 1, 3) := by decide +kernel
theorem dX1_copy_56 : decode cX1_copy 56 = .ok (.goto (-26), 3) := by decide +kernel
theorem dX1_copy_59 : decode cX1_copy 59 = .ok (.aload_n 0, 1) := by decide +kernel
theorem dX1_copy_60 : decode cX1_copy 60 = .ok (.getfield 27, 3) := by decide +kernel
theorem dX1_copy_63 : decode cX1_copy 63 = .ok (.aload_n 1, 1) := by decide +kernel
theorem dX1_copy_64 : decode cX1_copy 64 = .ok (.getfield 27, 3) := by decide +kernel
theorem dX1_copy_67 : decode cX1_copy 67 = .ok (.invokevirtual 55, 3) := by decide +kernel
theorem dX1_copy_70 : decode cX1_copy 70 = .ok (.aload_n 0, 1) := by decide +kernel
theorem dX1_copy_71 : decode cX1_copy 71 = .ok (.getfield 31, 3) := by decide +kernel
theorem dX1_copy_74 : decode cX1_copy 74 = .ok (.aload_n 1, 1) := by decide +kernel
theorem dX1_copy_75 : decode cX1_copy 75 = .ok (.getfield 31, 3) := by decide +kernel
theorem dX1_copy_78 : decode cX1_copy 78 = .ok (.invokevirtual 55, 3) := by decide +kernel
theorem dX1_copy_81 : decode cX1_copy 81 = .ok (.aload_n 0, 1) := by decide +kernel
theorem dX1_copy_82 : decode cX1_copy 82 = .ok (.aload_n 1, 1) := by decide +kernel
theorem dX1_copy_83 : decode cX1_copy 83 = .ok (.getfield 47, 3) := by decide +kernel
theorem dX1_copy_86 : decode cX1_copy 86 = .ok (.putfield 47, 3) := by decide +kernel
theorem dX1_copy_89 : decode cX1_copy 89 = .ok (.aload_n 0, 1) := by decide +kernel
theorem dX1_copy_90 : decode cX1_copy 90 = .ok (.aload_n 1, 1) := by decide +kernel
theorem dX1_copy_91 : decode cX1_copy 91 = .ok (.getfield 58, 3) := by decide +kernel
theorem dX1_copy_94 : decode cX1_copy 94 = .ok (.putfield 58, 3) := by decide +kernel
theorem dX1_copy_97 : decode cX1_copy 97 = .ok (.aload_n 0, 1) := by decide +kernel
theorem dX1_copy_98 : decode cX1_copy 98 = .ok (.aload_n 1, 1) := by decide +kernel
theorem dX1_copy_99 : decode cX1_copy 99 = .ok (.getfield 61, 3) := by decide +kernel
theorem dX1_copy_102 : decode cX1_copy 102 = .ok (.putfield 61, 3) := by decide +kernel
theorem dX1_copy_105 : decode cX1_copy 105 = .ok (.return_, 1) := by decide +kernel
def X1_copy_L30 : Nat → Nat → Nat → Int32 → Mem → Option (Mem)
  | 0, _, _, _, _ => none
  | fu + 1, i0, i1, v2, M => (if v2 < (M 1 i1 5) then (if ib v2 10 = true then ((X3_copy (10 * i0 + v2.toNatClampNeg) (10 * i1 + v2.toNatClampNeg) M).bind fun q4 => (X1_copy_L30 fu i0 i1 (v2 + 1) q4)) else none) else (some M))
set_option maxRecDepth 100000 in
set_option maxHeartbeats 4000000 in
theorem X1_copy_L30_ok  {r : Option AV} {M' : MM} : ∀ (fu : Nat) (i0 : Nat) (i1 : Nat) (v2 : Int32) (M N : Mem) {res : Mem} (hi0 : i0 < 3) (hi1 : i1 < 3) (h : X1_copy_L30 fu i0 i1 v2 M = some res) (K : G mt_X1_copy 2 r M' 59 [(0, .inr (.inr (1, i0))), (1, .inr (.inr (1, i1)))] [] (res, N)), G mt_X1_copy 2 r M' 30 [(0, .inr (.inr (1, i0))), (1, .inr (.inr (1, i1))), (2, .inl v2)] [] (M, N) := by
  intro fu
  induction fu with
  | zero =>
    intro i0 i1 v2 M N res hi0 hi1 h
    cases h
  | succ fu ih =>
    intro i0 i1 v2 M N res hi0 hi1 h K
    replace h : (if v2 < (M 1 i1 5) then (if ib v2 10 = true then ((X3_copy (10 * i0 + v2.toNatClampNeg) (10 * i1 + v2.toNatClampNeg) M).bind fun q4 => (X1_copy_L30 fu i0 i1 (v2 + 1) q4)) else none) else (some M)) = some res := h
    refine G_iload_n dX1_copy_30 rfl ?_
    refine G_aload_n dX1_copy_31 rfl ?_
    refine fg_X1_47 (v := (M 1 i1 5)) rfl rfl hi1 dX1_copy_32 ?_
    refine G_icmp_ge (tgt := 59) dX1_copy_35 (by decide) (fun hc1 => ?_) (fun hc1 => ?_)
    · replace h := (if_neg hc1).symm.trans h
      refine G_sub [(0, .inr (.inr (1, i0))), (1, .inr (.inr (1, i1)))] [0, 1] rfl ?_
      obtain rfl := Option.some.inj h
      exact K
    · replace h := (if_pos hc1).symm.trans h
      refine G_aload_n dX1_copy_38 rfl ?_
      refine fg_X1_20 rfl hi0 dX1_copy_39 ?_
      refine G_iload_n dX1_copy_42 rfl ?_
      obtain ⟨hb3, h⟩ := chk h
      have lhb3 := ib_lt hb3
      refine G_aald3 (by decide) (show i0 < 3 from hi0) (by decide) rfl hb3 dX1_copy_43 ?_
      refine G_aload_n dX1_copy_44 rfl ?_
      refine fg_X1_20 rfl hi1 dX1_copy_45 ?_
      refine G_iload_n dX1_copy_48 rfl ?_
      refine G_aald3 (by decide) (show i1 < 3 from hi1) (by decide) rfl hb3 dX1_copy_49 ?_
      obtain ⟨q4, hq4, h⟩ := bnd h
      refine G_callVn (T := TX3) (N := 8) (f := 3) (i := (10 * i0 + v2.toNatClampNeg)) (X3_copy_ok (by omega) (by omega) hq4) ok_X3_copy ml_X1_51 (by decide) rfl (by decide) (show (10 * i0 + v2.toNatClampNeg) < 30 from (by omega)) (by decide) rfl rfl (Nat.le_of_ble_eq_true rfl) dX1_copy_50 ?_
      refine G_iinc (v := (v2 + 1)) (L2 := [(2, .inl (v2 + 1)), (0, .inr (.inr (1, i0))), (1, .inr (.inr (1, i1)))]) dX1_copy_53 rfl (by first | rfl | (show _ + Int32.ofInt _ = _; rfl)) (by decide) rfl ?_
      refine G_goto (tgt := 30) dX1_copy_56 (by decide) ?_
      refine G_sub [(0, .inr (.inr (1, i0))), (1, .inr (.inr (1, i1))), (2, .inl (v2 + 1))] [1, 2, 0] rfl ?_
      exact ih i0 i1 (v2 + 1) q4 _ hi0 hi1 h K

def X1_copy (i0 : Nat) (i1 : Nat) (M : Mem) : Option (Mem) := (if cpok (0 : Int32) (0 : Int32) (5 : Int32) 5 5 = true then (if cpok (0 : Int32) (0 : Int32) (5 : Int32) 5 5 = true then ((X1_copy_L30 400 i0 i1 0 (cp3 (cp3 M 10 i1 0 10 i0 0 5) 11 i1 0 11 i0 0 5)).bind fun q5 => ((X2_copy (2 * i0) (2 * i1) q5).bind fun q6 => ((X2_copy (2 * i0 + 1) (2 * i1 + 1) q6).bind fun q7 => (some (up3 (up3 (up3 q7 1 i0 5 (q7 1 i1 5)) 1 i0 6 (q7 1 i1 6)) 1 i0 7 (q7 1 i1 7)))))) else none) else none)
set_option maxRecDepth 100000 in
set_option maxHeartbeats 4000000 in
theorem X1_copy_ok  {i0 : Nat} {i1 : Nat} {M N : Mem} {res : Mem} (hi0 : i0 < 3) (hi1 : i1 < 3) (h : X1_copy i0 i1 M = some res) : Spec mt_X1_copy 2 [.inr (.inr (1, i0)), .inr (.inr (1, i1))] (M, N) none (res, N) := by
  unfold X1_copy at h
  refine Spec_of_G (by decide) rfl (Nat.le_of_ble_eq_true rfl) ?_
  refine G_sub [(0, .inr (.inr (1, i0))), (1, .inr (.inr (1, i1)))] [0, 1] rfl ?_
  refine G_aload_n dX1_copy_0 rfl ?_
  refine fg_X1_9 rfl hi1 dX1_copy_1 ?_
  refine G_iconst (v := 0) dX1_copy_4 (by decide) ?_
  refine G_aload_n dX1_copy_5 rfl ?_
  refine fg_X1_9 rfl hi0 dX1_copy_6 ?_
  refine G_iconst (v := 0) dX1_copy_9 (by decide) ?_
  refine G_iconst (v := 5) dX1_copy_10 (by decide) ?_
  obtain ⟨hb1, h⟩ := chk h
  refine G_copy (M2 := ((cp3 M 10 i1 0 10 i0 0 5), N)) ml_X1_41 na_copy st_copy in_System (by decide) (show i1 < 3 from hi1) (by decide) (show i0 < 3 from hi0) (by decide) (by decide) (by decide) hb1 (by decide) rfl rfl dX1_copy_11 ?_
  refine G_aload_n dX1_copy_14 rfl ?_
  refine fg_X1_15 rfl hi1 dX1_copy_15 ?_
  refine G_iconst (v := 0) dX1_copy_18 (by decide) ?_
  refine G_aload_n dX1_copy_19 rfl ?_
  refine fg_X1_15 rfl hi0 dX1_copy_20 ?_
  refine G_iconst (v := 0) dX1_copy_23 (by decide) ?_
  refine G_iconst (v := 5) dX1_copy_24 (by decide) ?_
  obtain ⟨hb2, h⟩ := chk h
  refine G_copy (M2 := ((cp3 (cp3 M 10 i1 0 10 i0 0 5) 11 i1 0 11 i0 0 5), N)) ml_X1_41 na_copy st_copy in_System (by decide) (show i1 < 3 from hi1) (by decide) (show i0 < 3 from hi0) (by decide) (by decide) (by decide) hb2 (by decide) rfl rfl dX1_copy_25 ?_
  refine G_iconst (v := 0) dX1_copy_28 (by decide) ?_
  refine G_istore_n (L2 := [(2, .inl 0), (0, .inr (.inr (1, i0))), (1, .inr (.inr (1, i1)))]) dX1_copy_29 (by decide) rfl ?_
  refine G_sub [(0, .inr (.inr (1, i0))), (1, .inr (.inr (1, i1))), (2, .inl 0)] [1, 2, 0] rfl ?_
  obtain ⟨q5, hq5, h⟩ := bnd h
  refine X1_copy_L30_ok  400 i0 i1 0 (cp3 (cp3 M 10 i1 0 10 i0 0 5) 11 i1 0 11 i0 0 5) _ hi0 hi1 hq5 ?_
  refine G_aload_n dX1_copy_59 rfl ?_
  refine fg_X1_27 rfl hi0 dX1_copy_60 ?_
  refine G_aload_n dX1_copy_63 rfl ?_
  refine fg_X1_27 rfl hi1 dX1_copy_64 ?_
  obtain ⟨q6, hq6, h⟩ := bnd h
  refine G_callVn (T := TX2) (N := 3) (f := 2) (i := (2 * i0)) (X2_copy_ok (by omega) (by omega) hq6) ok_X2_copy ml_X1_55 (by decide) rfl (by decide) (show (2 * i0) < 7 from (by omega)) (by decide) rfl rfl (Nat.le_of_ble_eq_true rfl) dX1_copy_67 ?_
  refine G_aload_n dX1_copy_70 rfl ?_
  refine fg_X1_31 rfl hi0 dX1_copy_71 ?_
  refine G_aload_n dX1_copy_74 rfl ?_
  refine fg_X1_31 rfl hi1 dX1_copy_75 ?_
  obtain ⟨q7, hq7, h⟩ := bnd h
  refine G_callVn (T := TX2) (N := 3) (f := 2) (i := (2 * i0 + 1)) (X2_copy_ok (by omega) (by omega) hq7) ok_X2_copy ml_X1_55 (by decide) rfl (by decide) (show (2 * i0 + 1) < 7 from (by omega)) (by decide) rfl rfl (Nat.le_of_ble_eq_true rfl) dX1_copy_78 ?_
  refine G_aload_n dX1_copy_81 rfl ?_
  refine G_aload_n dX1_copy_82 rfl ?_
  refine fg_X1_47 (v := (q7 1 i1 5)) rfl rfl hi1 dX1_copy_83 ?_
  refine fp_X1_47 rfl hi0 dX1_copy_86 ?_
  refine G_aload_n dX1_copy_89 rfl ?_
  refine G_aload_n dX1_copy_90 rfl ?_
  refine fg_X1_58 (v := (q7 1 i1 6)) (up3_k (by decide)) rfl hi1 dX1_copy_91 ?_
  refine fp_X1_58 rfl hi0 dX1_copy_94 ?_
  refine G_aload_n dX1_copy_97 rfl ?_
  refine G_aload_n dX1_copy_98 rfl ?_
  refine fg_X1_61 (v := (q7 1 i1 7)) ((up3_k (by decide)).trans (up3_k (by decide))) rfl hi1 dX1_copy_99 ?_
  refine fp_X1_61 rfl hi0 dX1_copy_102 ?_
  obtain rfl := Option.some.inj h
  exact G_ret dX1_copy_105 trivial rfl rfl

theorem dX1_potsWithHandle_0 : decode cX1_potsWithHandle 0 = .ok (.iconst 0, 1) := by decide +kernel
theorem dX1_potsWithHandle_1 : decode cX1_potsWithHandle 1 = .ok (.istore_n 1, 1) := by decide +kernel
theorem dX1_potsWithHandle_2 : decode cX1_potsWithHandle 2 = .ok (.iconst 0, 1) := by decide +kernel
theorem dX1_potsWithHandle_3 : decode cX1_potsWithHandle 3 = .ok (.istore_n 2, 1) := by decide +kernel
theorem dX1_potsWithHandle_4 : decode cX1_potsWithHandle 4 = .ok (.iload_n 2, 1) := by decide +kernel
theorem dX1_potsWithHandle_5 : decode cX1_potsWithHandle 5 = .ok (.aload_n 0, 1) := by decide +kernel
theorem dX1_potsWithHandle_6 : decode cX1_potsWithHandle 6 = .ok (.getfield 47, 3) := by decide +kernel
theorem dX1_potsWithHandle_9 : decode cX1_potsWithHandle 9 = .ok (.if_icmp .ge 27, 3) := by decide +kernel
theorem dX1_potsWithHandle_12 : decode cX1_potsWithHandle 12 = .ok (.aload_n 0, 1) := by decide +kernel
theorem dX1_potsWithHandle_13 : decode cX1_potsWithHandle 13 = .ok (.getfield 20, 3) := by decide +kernel
theorem dX1_potsWithHandle_16 : decode cX1_potsWithHandle 16 = .ok (.iload_n 2, 1) := by decide +kernel
theorem dX1_potsWithHandle_17 : decode cX1_potsWithHandle 17 = .ok (.aaload, 1) := by decide +kernel
theorem dX1_potsWithHandle_18 : decode cX1_potsWithHandle 18 = .ok (.getfield 116, 3) := by decide +kernel
theorem dX1_potsWithHandle_21 : decode cX1_potsWithHandle 21 = .ok (.ifCond .le 9, 3) := by decide +kernel
theorem dX1_potsWithHandle_24 : decode cX1_potsWithHandle 24 = .ok (.iload_n 1, 1) := by decide +kernel
theorem dX1_potsWithHandle_25 : decode cX1_potsWithHandle 25 = .ok (.iconst 1, 1) := by decide +kernel
theorem dX1_potsWithHandle_26 : decode cX1_potsWithHandle 26 = .ok (.iload_n 2, 1) := by decide +kernel
theorem dX1_potsWithHandle_27 : decode cX1_potsWithHandle 27 = .ok (.ishl, 1) := by decide +kernel
theorem dX1_potsWithHandle_28 : decode cX1_potsWithHandle 28 = .ok (.ior, 1) := by decide +kernel
theorem dX1_potsWithHandle_29 : decode cX1_potsWithHandle 29 = .ok (.istore_n 1, 1) := by decide +kernel
theorem dX1_potsWithHandle_30 : decode cX1_potsWithHandle 30 = .ok (.iinc 2 1, 3) := by decide +kernel
theorem dX1_potsWithHandle_33 : decode cX1_potsWithHandle 33 = .ok (.goto (-29), 3) := by decide +kernel
theorem dX1_potsWithHandle_36 : decode cX1_potsWithHandle 36 = .ok (.iload_n 1, 1) := by decide +kernel
theorem dX1_potsWithHandle_37 : decode cX1_potsWithHandle 37 = .ok (.ireturn, 1) := by decide +kernel
def X1_potsWithHandle_L4 : Nat → Nat → Int32 → Int32 → Mem → Option (Int32)
  | 0, _, _, _, _ => none
  | fu + 1, i0, v1, v2, M => (if v2 < (M 1 i0 5) then (if ib v2 10 = true then (if 0 < (M 3 (10 * i0 + v2.toNatClampNeg) 6) then (X1_potsWithHandle_L4 fu i0 (v1 ||| (1 <<< (v2 &&& 31))) (v2 + 1) M) else (X1_potsWithHandle_L4 fu i0 v1 (v2 + 1) M)) else none) else (some v1))
set_option maxRecDepth 100000 in
set_option maxHeartbeats 4000000 in
theorem X1_potsWithHandle_L4_ok  {r : Option AV} {M' : MM} : ∀ (fu : Nat) (i0 : Nat) (v1 : Int32) (v2 : Int32) (M N : Mem) {res : Int32} (hi0 : i0 < 3) (h : X1_potsWithHandle_L4 fu i0 v1 v2 M = some res) (K : G mt_X1_potsWithHandle 0 r M' 36 [(1, .inl res)] [] (M, N)), G mt_X1_potsWithHandle 0 r M' 4 [(0, .inr (.inr (1, i0))), (1, .inl v1), (2, .inl v2)] [] (M, N) := by
  intro fu
  induction fu with
  | zero =>
    intro i0 v1 v2 M N res hi0 h
    cases h
  | succ fu ih =>
    intro i0 v1 v2 M N res hi0 h K
    replace h : (if v2 < (M 1 i0 5) then (if ib v2 10 = true then (if 0 < (M 3 (10 * i0 + v2.toNatClampNeg) 6) then (X1_potsWithHandle_L4 fu i0 (v1 ||| (1 <<< (v2 &&& 31))) (v2 + 1) M) else (X1_potsWithHandle_L4 fu i0 v1 (v2 + 1) M)) else none) else (some v1)) = some res := h
    refine G_iload_n dX1_potsWithHandle_4 rfl ?_
    refine G_aload_n dX1_potsWithHandle_5 rfl ?_
    refine fg_X1_47 (v := (M 1 i0 5)) rfl rfl hi0 dX1_potsWithHandle_6 ?_
    refine G_icmp_ge (tgt := 36) dX1_potsWithHandle_9 (by decide) (fun hc1 => ?_) (fun hc1 => ?_)
    · replace h := (if_neg hc1).symm.trans h
      refine G_sub [(1, .inl v1)] [1] rfl ?_
      obtain rfl := Option.some.inj h
      exact K
    · replace h := (if_pos hc1).symm.trans h
      refine G_aload_n dX1_potsWithHandle_12 rfl ?_
      refine fg_X1_20 rfl hi0 dX1_potsWithHandle_13 ?_
      refine G_iload_n dX1_potsWithHandle_16 rfl ?_
      obtain ⟨hb1, h⟩ := chk h
      have lhb1 := ib_lt hb1
      refine G_aald3 (by decide) (show i0 < 3 from hi0) (by decide) rfl hb1 dX1_potsWithHandle_17 ?_
      refine fg_X1_116 (v := (M 3 (10 * i0 + v2.toNatClampNeg) 6)) rfl rfl (by omega) dX1_potsWithHandle_18 ?_
      refine G_if_le (tgt := 30) dX1_potsWithHandle_21 (by decide) (fun hc2 => ?_) (fun hc2 => ?_)
      · replace h := (if_neg hc2).symm.trans h
        refine G_iinc (v := (v2 + 1)) (L2 := [(2, .inl (v2 + 1)), (0, .inr (.inr (1, i0))), (1, .inl v1)]) dX1_potsWithHandle_30 rfl (by first | rfl | (show _ + Int32.ofInt _ = _; rfl)) (by decide) rfl ?_
        refine G_goto (tgt := 4) dX1_potsWithHandle_33 (by decide) ?_
        refine G_sub [(0, .inr (.inr (1, i0))), (1, .inl v1), (2, .inl (v2 + 1))] [1, 2, 0] rfl ?_
        exact ih i0 v1 (v2 + 1) M _ hi0 h K
      · replace h := (if_pos hc2).symm.trans h
        refine G_iload_n dX1_potsWithHandle_24 rfl ?_
        refine G_iconst (v := 1) dX1_potsWithHandle_25 (by decide) ?_
        refine G_iload_n dX1_potsWithHandle_26 rfl ?_
        refine G_ishl dX1_potsWithHandle_27 ?_
        refine G_ior dX1_potsWithHandle_28 ?_
        refine G_istore_n (L2 := [(1, .inl (v1 ||| (1 <<< (v2 &&& 31)))), (0, .inr (.inr (1, i0))), (2, .inl v2)]) dX1_potsWithHandle_29 (by decide) rfl ?_
        refine G_iinc (v := (v2 + 1)) (L2 := [(2, .inl (v2 + 1)), (1, .inl (v1 ||| (1 <<< (v2 &&& 31)))), (0, .inr (.inr (1, i0)))]) dX1_potsWithHandle_30 rfl (by first | rfl | (show _ + Int32.ofInt _ = _; rfl)) (by decide) rfl ?_
        refine G_goto (tgt := 4) dX1_potsWithHandle_33 (by decide) ?_
        refine G_sub [(0, .inr (.inr (1, i0))), (1, .inl (v1 ||| (1 <<< (v2 &&& 31)))), (2, .inl (v2 + 1))] [2, 1, 0] rfl ?_
        exact ih i0 (v1 ||| (1 <<< (v2 &&& 31))) (v2 + 1) M _ hi0 h K

def X1_potsWithHandle (i0 : Nat) (M : Mem) : Option (Int32) := ((X1_potsWithHandle_L4 400 i0 0 0 M).bind fun q2 => (some q2))
set_option maxRecDepth 100000 in
set_option maxHeartbeats 4000000 in
theorem X1_potsWithHandle_ok  {i0 : Nat} {M N : Mem} {res : Int32} (hi0 : i0 < 3) (h : X1_potsWithHandle i0 M = some res) : Spec mt_X1_potsWithHandle 0 [.inr (.inr (1, i0))] (M, N) (some (.inl res)) (M, N) := by
  unfold X1_potsWithHandle at h
  refine Spec_of_G (by decide) rfl (Nat.le_of_ble_eq_true rfl) ?_
  refine G_sub [(0, .inr (.inr (1, i0)))] [0] rfl ?_
  refine G_iconst (v := 0) dX1_potsWithHandle_0 (by decide) ?_
  refine G_istore_n (L2 := [(1, .inl 0), (0, .inr (.inr (1, i0)))]) dX1_potsWithHandle_1 (by decide) rfl ?_
  refine G_iconst (v := 0) dX1_potsWithHandle_2 (by decide) ?_
  refine G_istore_n (L2 := [(2, .inl 0), (1, .inl 0), (0, .inr (.inr (1, i0)))]) dX1_potsWithHandle_3 (by decide) rfl ?_
  refine G_sub [(0, .inr (.inr (1, i0))), (1, .inl 0), (2, .inl 0)] [2, 1, 0] rfl ?_
  obtain ⟨q2, hq2, h⟩ := bnd h
  refine X1_potsWithHandle_L4_ok  400 i0 0 0 M _ hi0 hq2 ?_
  refine G_iload_n dX1_potsWithHandle_36 rfl ?_
  obtain rfl := Option.some.inj h
  exact G_ret dX1_potsWithHandle_37 trivial rfl rfl

theorem dX1_allPots_0 : decode cX1_allPots 0 = .ok (.iconst 1, 1) := by decide +kernel
theorem dX1_allPots_1 : decode cX1_allPots 1 = .ok (.aload_n 0, 1) := by decide +kernel
theorem dX1_allPots_2 : decode cX1_allPots 2 = .ok (.getfield 47, 3) := by decide +kernel
theorem dX1_allPots_5 : decode cX1_allPots 5 = .ok (.ishl, 1) := by decide +kernel
theorem dX1_allPots_6 : decode cX1_allPots 6 = .ok (.iconst 1, 1) := by decide +kernel
theorem dX1_allPots_7 : decode cX1_allPots 7 = .ok (.isub, 1) := by decide +kernel
theorem dX1_allPots_8 : decode cX1_allPots 8 = .ok (.ireturn, 1) := by decide +kernel
def X1_allPots (i0 : Nat) (M : Mem) : Int32 := ((1 <<< ((M 1 i0 5) &&& 31)) - 1)
set_option maxRecDepth 100000 in
set_option maxHeartbeats 4000000 in
theorem X1_allPots_ok  {i0 : Nat} {M N : Mem} {res : Int32} (hi0 : i0 < 3) (h : X1_allPots i0 M = res) : Spec mt_X1_allPots 0 [.inr (.inr (1, i0))] (M, N) (some (.inl res)) (M, N) := by
  unfold X1_allPots at h
  refine Spec_of_G (by decide) rfl (Nat.le_of_ble_eq_true rfl) ?_
  refine G_sub [(0, .inr (.inr (1, i0)))] [0] rfl ?_
  refine G_iconst (v := 1) dX1_allPots_0 (by decide) ?_
  refine G_aload_n dX1_allPots_1 rfl ?_
  refine fg_X1_47 (v := (M 1 i0 5)) rfl rfl hi0 dX1_allPots_2 ?_
  refine G_ishl dX1_allPots_5 ?_
  refine G_iconst (v := 1) dX1_allPots_6 (by decide) ?_
  refine G_isub dX1_allPots_7 ?_
  subst h
  exact G_ret dX1_allPots_8 trivial rfl rfl

theorem dX1_handlesIn_0 : decode cX1_handlesIn 0 = .ok (.iconst 0, 1) := by decide +kernel
theorem dX1_handlesIn_1 : decode cX1_handlesIn 1 = .ok (.istore_n 2, 1) := by decide +kernel
theorem dX1_handlesIn_2 : decode cX1_handlesIn 2 = .ok (.iconst 0, 1) := by decide +kernel
theorem dX1_handlesIn_3 : decode cX1_handlesIn 3 = .ok (.istore_n 3, 1) := by decide +kernel
theorem dX1_handlesIn_4 : decode cX1_handlesIn 4 = .ok (.iload_n 3, 1) := by decide +kernel
theorem dX1_handlesIn_5 : decode cX1_handlesIn 5 = .ok (.aload_n 0, 1) := by decide +kernel
theorem dX1_handlesIn_6 : decode cX1_handlesIn 6 = .ok (.getfield 47, 3) := by decide +kernel
theorem dX1_handlesIn_9 : decode cX1_handlesIn 9 = .ok (.if_icmp .ge 34, 3) := by decide +kernel
theorem dX1_handlesIn_12 : decode cX1_handlesIn 12 = .ok (.aload_n 0, 1) := by decide +kernel
theorem dX1_handlesIn_13 : decode cX1_handlesIn 13 = .ok (.getfield 20, 3) := by decide +kernel
theorem dX1_handlesIn_16 : decode cX1_handlesIn 16 = .ok (.iload_n 3, 1) := by decide +kernel
theorem dX1_handlesIn_17 : decode cX1_handlesIn 17 = .ok (.aaload, 1) := by decide +kernel
theorem dX1_handlesIn_18 : decode cX1_handlesIn 18 = .ok (.getfield 85, 3) := by decide +kernel
theorem dX1_handlesIn_21 : decode cX1_handlesIn 21 = .ok (.iload_n 1, 1) := by decide +kernel
theorem dX1_handlesIn_22 : decode cX1_handlesIn 22 = .ok (.if_icmp .ne 15, 3) := by decide +kernel
theorem dX1_handlesIn_25 : decode cX1_handlesIn 25 = .ok (.iload_n 2, 1) := by decide +kernel
theorem dX1_handlesIn_26 : decode cX1_handlesIn 26 = .ok (.aload_n 0, 1) := by decide +kernel
theorem dX1_handlesIn_27 : decode cX1_handlesIn 27 = .ok (.getfield 20, 3) := by decide +kernel
theorem dX1_handlesIn_30 : decode cX1_handlesIn 30 = .ok (.iload_n 3, 1) := by decide +kernel
theorem dX1_handlesIn_31 : decode cX1_handlesIn 31 = .ok (.aaload, 1) := by decide +kernel
theorem dX1_handlesIn_32 : decode cX1_handlesIn 32 = .ok (.getfield 116, 3) := by decide +kernel
theorem dX1_handlesIn_35 : decode cX1_handlesIn 35 = .ok (.iadd, 1) := by decide +kernel
theorem dX1_handlesIn_36 : decode cX1_handlesIn 36 = .ok (.istore_n 2, 1) := by decide +kernel
theorem dX1_handlesIn_37 : decode cX1_handlesIn 37 = .ok (.iinc 3 1, 3) := by decide +kernel
theorem dX1_handlesIn_40 : decode cX1_handlesIn 40 = .ok (.goto (-36), 3) := by decide +kernel
theorem dX1_handlesIn_43 : decode cX1_handlesIn 43 = .ok (.iload_n 2, 1) := by decide +kernel
theorem dX1_handlesIn_44 : decode cX1_handlesIn 44 = .ok (.ireturn, 1) := by decide +kernel
def X1_handlesIn_L4 : Nat → Nat → Int32 → Int32 → Int32 → Mem → Option (Int32)
  | 0, _, _, _, _, _ => none
  | fu + 1, i0, v1, v2, v3, M => (if v3 < (M 1 i0 5) then (if ib v3 10 = true then (if (M 3 (10 * i0 + v3.toNatClampNeg) 2) = v1 then (X1_handlesIn_L4 fu i0 v1 (v2 + (M 3 (10 * i0 + v3.toNatClampNeg) 6)) (v3 + 1) M) else (X1_handlesIn_L4 fu i0 v1 v2 (v3 + 1) M)) else none) else (some v2))
set_option maxRecDepth 100000 in
set_option maxHeartbeats 4000000 in
theorem X1_handlesIn_L4_ok  {r : Option AV} {M' : MM} : ∀ (fu : Nat) (i0 : Nat) (v1 : Int32) (v2 : Int32) (v3 : Int32) (M N : Mem) {res : Int32} (hi0 : i0 < 3) (h : X1_handlesIn_L4 fu i0 v1 v2 v3 M = some res) (K : G mt_X1_handlesIn 0 r M' 43 [(2, .inl res)] [] (M, N)), G mt_X1_handlesIn 0 r M' 4 [(0, .inr (.inr (1, i0))), (1, .inl v1), (2, .inl v2), (3, .inl v3)] [] (M, N) := by
  intro fu
  induction fu with
  | zero =>
    intro i0 v1 v2 v3 M N res hi0 h
    cases h
  | succ fu ih =>
    intro i0 v1 v2 v3 M N res hi0 h K
    replace h : (if v3 < (M 1 i0 5) then (if ib v3 10 = true then (if (M 3 (10 * i0 + v3.toNatClampNeg) 2) = v1 then (X1_handlesIn_L4 fu i0 v1 (v2 + (M 3 (10 * i0 + v3.toNatClampNeg) 6)) (v3 + 1) M) else (X1_handlesIn_L4 fu i0 v1 v2 (v3 + 1) M)) else none) else (some v2)) = some res := h
    refine G_iload_n dX1_handlesIn_4 rfl ?_
    refine G_aload_n dX1_handlesIn_5 rfl ?_
    refine fg_X1_47 (v := (M 1 i0 5)) rfl rfl hi0 dX1_handlesIn_6 ?_
    refine G_icmp_ge (tgt := 43) dX1_handlesIn_9 (by decide) (fun hc1 => ?_) (fun hc1 => ?_)
    · replace h := (if_neg hc1).symm.trans h
      refine G_sub [(2, .inl v2)] [2] rfl ?_
      obtain rfl := Option.some.inj h
      exact K
    · replace h := (if_pos hc1).symm.trans h
      refine G_aload_n dX1_handlesIn_12 rfl ?_
      refine fg_X1_20 rfl hi0 dX1_handlesIn_13 ?_
      refine G_iload_n dX1_handlesIn_16 rfl ?_
      obtain ⟨hb1, h⟩ := chk h
      have lhb1 := ib_lt hb1
      refine G_aald3 (by decide) (show i0 < 3 from hi0) (by decide) rfl hb1 dX1_handlesIn_17 ?_
      refine fg_X1_85 (v := (M 3 (10 * i0 + v3.toNatClampNeg) 2)) rfl rfl (by omega) dX1_handlesIn_18 ?_
      refine G_iload_n dX1_handlesIn_21 rfl ?_
      refine G_icmp_ne (tgt := 37) dX1_handlesIn_22 (by decide) (fun hc2 => ?_) (fun hc2 => ?_)
      · replace h := (if_neg hc2).symm.trans h
        refine G_iinc (v := (v3 + 1)) (L2 := [(3, .inl (v3 + 1)), (0, .inr (.inr (1, i0))), (1, .inl v1), (2, .inl v2)]) dX1_handlesIn_37 rfl (by first | rfl | (show _ + Int32.ofInt _ = _; rfl)) (by decide) rfl ?_
        refine G_goto (tgt := 4) dX1_handlesIn_40 (by decide) ?_
        refine G_sub [(0, .inr (.inr (1, i0))), (1, .inl v1), (2, .inl v2), (3, .inl (v3 + 1))] [1, 2, 3, 0] rfl ?_
        exact ih i0 v1 v2 (v3 + 1) M _ hi0 h K
      · replace h := (if_pos hc2).symm.trans h
        refine G_iload_n dX1_handlesIn_25 rfl ?_
        refine G_aload_n dX1_handlesIn_26 rfl ?_
        refine fg_X1_20 rfl hi0 dX1_handlesIn_27 ?_
        refine G_iload_n dX1_handlesIn_30 rfl ?_
        refine G_aald3 (by decide) (show i0 < 3 from hi0) (by decide) rfl hb1 dX1_handlesIn_31 ?_
        refine fg_X1_116 (v := (M 3 (10 * i0 + v3.toNatClampNeg) 6)) rfl rfl (by omega) dX1_handlesIn_32 ?_
        refine G_iadd dX1_handlesIn_35 ?_
        refine G_istore_n (L2 := [(2, .inl (v2 + (M 3 (10 * i0 + v3.toNatClampNeg) 6))), (0, .inr (.inr (1, i0))), (1, .inl v1), (3, .inl v3)]) dX1_handlesIn_36 (by decide) rfl ?_
        refine G_iinc (v := (v3 + 1)) (L2 := [(3, .inl (v3 + 1)), (2, .inl (v2 + (M 3 (10 * i0 + v3.toNatClampNeg) 6))), (0, .inr (.inr (1, i0))), (1, .inl v1)]) dX1_handlesIn_37 rfl (by first | rfl | (show _ + Int32.ofInt _ = _; rfl)) (by decide) rfl ?_
        refine G_goto (tgt := 4) dX1_handlesIn_40 (by decide) ?_
        refine G_sub [(0, .inr (.inr (1, i0))), (1, .inl v1), (2, .inl (v2 + (M 3 (10 * i0 + v3.toNatClampNeg) 6))), (3, .inl (v3 + 1))] [2, 3, 1, 0] rfl ?_
        exact ih i0 v1 (v2 + (M 3 (10 * i0 + v3.toNatClampNeg) 6)) (v3 + 1) M _ hi0 h K

def X1_handlesIn (i0 : Nat) (v1 : Int32) (M : Mem) : Option (Int32) := ((X1_handlesIn_L4 400 i0 v1 0 0 M).bind fun q2 => (some q2))
set_option maxRecDepth 100000 in
set_option maxHeartbeats 4000000 in
theorem X1_handlesIn_ok  {i0 : Nat} {v1 : Int32} {M N : Mem} {res : Int32} (hi0 : i0 < 3) (h : X1_handlesIn i0 v1 M = some res) : Spec mt_X1_handlesIn 0 [.inr (.inr (1, i0)), .inl v1] (M, N) (some (.inl res)) (M, N) := by
  unfold X1_handlesIn at h
  refine Spec_of_G (by decide) rfl (Nat.le_of_ble_eq_true rfl) ?_
  refine G_sub [(0, .inr (.inr (1, i0))), (1, .inl v1)] [0, 1] rfl ?_
  refine G_iconst (v := 0) dX1_handlesIn_0 (by decide) ?_
  refine G_istore_n (L2 := [(2, .inl 0), (0, .inr (.inr (1, i0))), (1, .inl v1)]) dX1_handlesIn_1 (by decide) rfl ?_
  refine G_iconst (v := 0) dX1_handlesIn_2 (by decide) ?_
  refine G_istore_n (L2 := [(3, .inl 0), (2, .inl 0), (0, .inr (.inr (1, i0))), (1, .inl v1)]) dX1_handlesIn_3 (by decide) rfl ?_
  refine G_sub [(0, .inr (.inr (1, i0))), (1, .inl v1), (2, .inl 0), (3, .inl 0)] [2, 3, 1, 0] rfl ?_
  obtain ⟨q2, hq2, h⟩ := bnd h
  refine X1_handlesIn_L4_ok  400 i0 v1 0 0 M _ hi0 hq2 ?_
  refine G_iload_n dX1_handlesIn_43 rfl ?_
  obtain rfl := Option.some.inj h
  exact G_ret dX1_handlesIn_44 trivial rfl rfl

theorem dX6_bodyOf_0 : decode cX6_bodyOf 0 = .ok (.bipush 10, 2) := by decide +kernel
theorem dX6_bodyOf_2 : decode cX6_bodyOf 2 = .ok (.iload_n 0, 1) := by decide +kernel
theorem dX6_bodyOf_3 : decode cX6_bodyOf 3 = .ok (.imul, 1) := by decide +kernel
theorem dX6_bodyOf_4 : decode cX6_bodyOf 4 = .ok (.iload_n 1, 1) := by decide +kernel
theorem dX6_bodyOf_5 : decode cX6_bodyOf 5 = .ok (.iadd, 1) := by decide +kernel
theorem dX6_bodyOf_6 : decode cX6_bodyOf 6 = .ok (.lookupswitch 131 #[(0, 98), (1, 101), (2, 104), (3, 107), (10, 110), (21, 113), (32, 116), (43, 119), (51, 122), (62, 125), (63, 128)], 98) := by decide +kernel
theorem dX6_bodyOf_104 : decode cX6_bodyOf 104 = .ok (.bipush 10, 2) := by decide +kernel
theorem dX6_bodyOf_106 : decode cX6_bodyOf 106 = .ok (.ireturn, 1) := by decide +kernel
theorem dX6_bodyOf_107 : decode cX6_bodyOf 107 = .ok (.bipush 11, 2) := by decide +kernel
theorem dX6_bodyOf_109 : decode cX6_bodyOf 109 = .ok (.ireturn, 1) := by decide +kernel
theorem dX6_bodyOf_110 : decode cX6_bodyOf 110 = .ok (.bipush 12, 2) := by decide +kernel
theorem dX6_bodyOf_112 : decode cX6_bodyOf 112 = .ok (.ireturn, 1) := by decide +kernel
theorem dX6_bodyOf_113 : decode cX6_bodyOf 113 = .ok (.bipush 13, 2) := by decide +kernel
theorem dX6_bodyOf_115 : decode cX6_bodyOf 115 = .ok (.ireturn, 1) := by decide +kernel
theorem dX6_bodyOf_116 : decode cX6_bodyOf 116 = .ok (.bipush 20, 2) := by decide +kernel
theorem dX6_bodyOf_118 : decode cX6_bodyOf 118 = .ok (.ireturn, 1) := by decide +kernel
theorem dX6_bodyOf_119 : decode cX6_bodyOf 119 = .ok (.bipush 30, 2) := by decide +kernel
theorem dX6_bodyOf_121 : decode cX6_bodyOf 121 = .ok (.ireturn, 1) := by decide +kernel
theorem dX6_bodyOf_122 : decode cX6_bodyOf 122 = .ok (.bipush 40, 2) := by decide +kernel
theorem dX6_bodyOf_124 : decode cX6_bodyOf 124 = .ok (.ireturn, 1) := by decide +kernel
theorem dX6_bodyOf_125 : decode cX6_bodyOf 125 = .ok (.bipush 50, 2) := by decide +kernel
theorem dX6_bodyOf_127 : decode cX6_bodyOf 127 = .ok (.ireturn, 1) := by decide +kernel
theorem dX6_bodyOf_128 : decode cX6_bodyOf 128 = .ok (.bipush 60, 2) := by decide +kernel
theorem dX6_bodyOf_130 : decode cX6_bodyOf 130 = .ok (.ireturn, 1) := by decide +kernel
theorem dX6_bodyOf_131 : decode cX6_bodyOf 131 = .ok (.bipush 70, 2) := by decide +kernel
theorem dX6_bodyOf_133 : decode cX6_bodyOf 133 = .ok (.ireturn, 1) := by decide +kernel
theorem dX6_bodyOf_134 : decode cX6_bodyOf 134 = .ok (.bipush 71, 2) := by decide +kernel
theorem dX6_bodyOf_136 : decode cX6_bodyOf 136 = .ok (.ireturn, 1) := by decide +kernel
theorem dX6_bodyOf_137 : decode cX6_bodyOf 137 = .ok (.iconst 0, 1) := by decide +kernel
theorem dX6_bodyOf_138 : decode cX6_bodyOf 138 = .ok (.ireturn, 1) := by decide +kernel
def X6_bodyOf (v0 : Int32) (v1 : Int32) : Int32 := (if ((10 * v0) + v1) = 0 then 10 else (if ((10 * v0) + v1) = 1 then 11 else (if ((10 * v0) + v1) = 2 then 12 else (if ((10 * v0) + v1) = 3 then 13 else (if ((10 * v0) + v1) = 10 then 20 else (if ((10 * v0) + v1) = 21 then 30 else (if ((10 * v0) + v1) = 32 then 40 else (if ((10 * v0) + v1) = 43 then 50 else (if ((10 * v0) + v1) = 51 then 60 else (if ((10 * v0) + v1) = 62 then 70 else (if ((10 * v0) + v1) = 63 then 71 else 0)))))))))))
set_option maxRecDepth 100000 in
set_option maxHeartbeats 4000000 in
theorem X6_bodyOf_ok  {v0 : Int32} {v1 : Int32} {MM0 : MM} {res : Int32} (h : X6_bodyOf v0 v1 = res) : Spec mt_X6_bodyOf 0 [.inl v0, .inl v1] MM0 (some (.inl res)) MM0 := by
  unfold X6_bodyOf at h
  refine Spec_of_G (by decide) rfl (Nat.le_of_ble_eq_true rfl) ?_
  refine G_sub [(0, .inl v0), (1, .inl v1)] [0, 1] rfl ?_
  refine G_bipush (v := 10) dX6_bodyOf_0 (by decide) ?_
  refine G_iload_n dX6_bodyOf_2 rfl ?_
  refine G_imul dX6_bodyOf_3 ?_
  refine G_iload_n dX6_bodyOf_4 rfl ?_
  refine G_iadd dX6_bodyOf_5 ?_
  by_cases hc1 : ((10 * v0) + v1) = 0
  · replace h := (if_pos hc1).symm.trans h
    refine G_lookEq (off := 98) (tgt := 104) hc1 dX6_bodyOf_6 (by decide) (by decide) (by decide) ?_
    refine G_bipush (v := 10) dX6_bodyOf_104 (by decide) ?_
    subst h
    exact G_ret dX6_bodyOf_106 trivial rfl rfl
  replace h := (if_neg hc1).symm.trans h
  by_cases hc2 : ((10 * v0) + v1) = 1
  · replace h := (if_pos hc2).symm.trans h
    refine G_lookEq (off := 101) (tgt := 107) hc2 dX6_bodyOf_6 (by decide) (by decide) (by decide) ?_
    refine G_bipush (v := 11) dX6_bodyOf_107 (by decide) ?_
    subst h
    exact G_ret dX6_bodyOf_109 trivial rfl rfl
  replace h := (if_neg hc2).symm.trans h
  by_cases hc3 : ((10 * v0) + v1) = 2
  · replace h := (if_pos hc3).symm.trans h
    refine G_lookEq (off := 104) (tgt := 110) hc3 dX6_bodyOf_6 (by decide) (by decide) (by decide) ?_
    refine G_bipush (v := 12) dX6_bodyOf_110 (by decide) ?_
    subst h
    exact G_ret dX6_bodyOf_112 trivial rfl rfl
  replace h := (if_neg hc3).symm.trans h
  by_cases hc4 : ((10 * v0) + v1) = 3
  · replace h := (if_pos hc4).symm.trans h
    refine G_lookEq (off := 107) (tgt := 113) hc4 dX6_bodyOf_6 (by decide) (by decide) (by decide) ?_
    refine G_bipush (v := 13) dX6_bodyOf_113 (by decide) ?_
    subst h
    exact G_ret dX6_bodyOf_115 trivial rfl rfl
  replace h := (if_neg hc4).symm.trans h
  by_cases hc5 : ((10 * v0) + v1) = 10
  · replace h := (if_pos hc5).symm.trans h
    refine G_lookEq (off := 110) (tgt := 116) hc5 dX6_bodyOf_6 (by decide) (by decide) (by decide) ?_
    refine G_bipush (v := 20) dX6_bodyOf_116 (by decide) ?_
    subst h
    exact G_ret dX6_bodyOf_118 trivial rfl rfl
  replace h := (if_neg hc5).symm.trans h
  by_cases hc6 : ((10 * v0) + v1) = 21
  · replace h := (if_pos hc6).symm.trans h
    refine G_lookEq (off := 113) (tgt := 119) hc6 dX6_bodyOf_6 (by decide) (by decide) (by decide) ?_
    refine G_bipush (v := 30) dX6_bodyOf_119 (by decide) ?_
    subst h
    exact G_ret dX6_bodyOf_121 trivial rfl rfl
  replace h := (if_neg hc6).symm.trans h
  by_cases hc7 : ((10 * v0) + v1) = 32
  · replace h := (if_pos hc7).symm.trans h
    refine G_lookEq (off := 116) (tgt := 122) hc7 dX6_bodyOf_6 (by decide) (by decide) (by decide) ?_
    refine G_bipush (v := 40) dX6_bodyOf_122 (by decide) ?_
    subst h
    exact G_ret dX6_bodyOf_124 trivial rfl rfl
  replace h := (if_neg hc7).symm.trans h
  by_cases hc8 : ((10 * v0) + v1) = 43
  · replace h := (if_pos hc8).symm.trans h
    refine G_lookEq (off := 119) (tgt := 125) hc8 dX6_bodyOf_6 (by decide) (by decide) (by decide) ?_
    refine G_bipush (v := 50) dX6_bodyOf_125 (by decide) ?_
    subst h
    exact G_ret dX6_bodyOf_127 trivial rfl rfl
  replace h := (if_neg hc8).symm.trans h
  by_cases hc9 : ((10 * v0) + v1) = 51
  · replace h := (if_pos hc9).symm.trans h
    refine G_lookEq (off := 122) (tgt := 128) hc9 dX6_bodyOf_6 (by decide) (by decide) (by decide) ?_
    refine G_bipush (v := 60) dX6_bodyOf_128 (by decide) ?_
    subst h
    exact G_ret dX6_bodyOf_130 trivial rfl rfl
  replace h := (if_neg hc9).symm.trans h
  by_cases hc10 : ((10 * v0) + v1) = 62
  · replace h := (if_pos hc10).symm.trans h
    refine G_lookEq (off := 125) (tgt := 131) hc10 dX6_bodyOf_6 (by decide) (by decide) (by decide) ?_
    refine G_bipush (v := 70) dX6_bodyOf_131 (by decide) ?_
    subst h
    exact G_ret dX6_bodyOf_133 trivial rfl rfl
  replace h := (if_neg hc10).symm.trans h
  by_cases hc11 : ((10 * v0) + v1) = 63
  · replace h := (if_pos hc11).symm.trans h
    refine G_lookEq (off := 128) (tgt := 134) hc11 dX6_bodyOf_6 (by decide) (by decide) (by decide) ?_
    refine G_bipush (v := 71) dX6_bodyOf_134 (by decide) ?_
    subst h
    exact G_ret dX6_bodyOf_136 trivial rfl rfl
  replace h := (if_neg hc11).symm.trans h
  have nhc1 := ne_lit (n := 0) (by decide) hc1
  have nhc2 := ne_lit (n := 1) (by decide) hc2
  have nhc3 := ne_lit (n := 2) (by decide) hc3
  have nhc4 := ne_lit (n := 3) (by decide) hc4
  have nhc5 := ne_lit (n := 10) (by decide) hc5
  have nhc6 := ne_lit (n := 21) (by decide) hc6
  have nhc7 := ne_lit (n := 32) (by decide) hc7
  have nhc8 := ne_lit (n := 43) (by decide) hc8
  have nhc9 := ne_lit (n := 51) (by decide) hc9
  have nhc10 := ne_lit (n := 62) (by decide) hc10
  have nhc11 := ne_lit (n := 63) (by decide) hc11
  refine G_lookup (off := 131) (tgt := 137) dX6_bodyOf_6 (by decide) (by generalize (((10 * v0) + v1) : Int32).toInt = zz at nhc1 nhc2 nhc3 nhc4 nhc5 nhc6 nhc7 nhc8 nhc9 nhc10 nhc11 ⊢; simp [Op.lookupswitch.offset, Ne.symm nhc1, Ne.symm nhc2, Ne.symm nhc3, Ne.symm nhc4, Ne.symm nhc5, Ne.symm nhc6, Ne.symm nhc7, Ne.symm nhc8, Ne.symm nhc9, Ne.symm nhc10, Ne.symm nhc11]; done) (by decide) ?_
  refine G_iconst (v := 0) dX6_bodyOf_137 (by decide) ?_
  subst h
  exact G_ret dX6_bodyOf_138 trivial rfl rfl

theorem dX6_begin_0 : decode cX6_begin 0 = .ok (.aload_n 0, 1) := by decide +kernel
theorem dX6_begin_1 : decode cX6_begin 1 = .ok (.getfield 15, 3) := by decide +kernel
theorem dX6_begin_4 : decode cX6_begin 4 = .ok (.bipush 40, 2) := by decide +kernel
theorem dX6_begin_6 : decode cX6_begin 6 = .ok (.if_icmp .ge 23, 3) := by decide +kernel
theorem dX6_begin_9 : decode cX6_begin 9 = .ok (.aload_n 0, 1) := by decide +kernel
theorem dX6_begin_10 : decode cX6_begin 10 = .ok (.getfield 9, 3) := by decide +kernel
theorem dX6_begin_13 : decode cX6_begin 13 = .ok (.aload_n 0, 1) := by decide +kernel
theorem dX6_begin_14 : decode cX6_begin 14 = .ok (.getfield 15, 3) := by decide +kernel
theorem dX6_begin_17 : decode cX6_begin 17 = .ok (.iload_n 1, 1) := by decide +kernel
theorem dX6_begin_18 : decode cX6_begin 18 = .ok (.iastore, 1) := by decide +kernel
theorem dX6_begin_19 : decode cX6_begin 19 = .ok (.aload_n 0, 1) := by decide +kernel
theorem dX6_begin_20 : decode cX6_begin 20 = .ok (.dup, 1) := by decide +kernel
theorem dX6_begin_21 : decode cX6_begin 21 = .ok (.getfield 15, 3) := by decide +kernel
theorem dX6_begin_24 : decode cX6_begin 24 = .ok (.iconst 1, 1) := by decide +kernel
theorem dX6_begin_25 : decode cX6_begin 25 = .ok (.iadd, 1) := by decide +kernel
theorem dX6_begin_26 : decode cX6_begin 26 = .ok (.putfield 15, 3) := by decide +kernel
theorem dX6_begin_29 : decode cX6_begin 29 = .ok (.return_, 1) := by decide +kernel
def X6_begin (v1 : Int32) (M : Mem) : Option (Mem) := (if (M 6 0 1) < 40 then (if ib (M 6 0 1) 40 = true then (some (up3 (up3 M 16 0 ((M 6 0 1).toNatClampNeg) v1) 6 0 1 ((M 6 0 1) + 1))) else none) else (some M))
set_option maxRecDepth 100000 in
set_option maxHeartbeats 4000000 in
theorem X6_begin_ok  {v1 : Int32} {M N : Mem} {res : Mem} (h : X6_begin v1 M = some res) : Spec mt_X6_begin 0 [.inr (.inr (6, 0)), .inl v1] (M, N) none (res, N) := by
  unfold X6_begin at h
  refine Spec_of_G (by decide) rfl (Nat.le_of_ble_eq_true rfl) ?_
  refine G_sub [(0, .inr (.inr (6, 0))), (1, .inl v1)] [0, 1] rfl ?_
  refine G_aload_n dX6_begin_0 rfl ?_
  refine fg_X6_15 (v := (M 6 0 1)) rfl rfl (by decide) dX6_begin_1 ?_
  refine G_bipush (v := 40) dX6_begin_4 (by decide) ?_
  refine G_icmp_ge (tgt := 29) dX6_begin_6 (by decide) (fun hc1 => ?_) (fun hc1 => ?_)
  · replace h := (if_neg hc1).symm.trans h
    obtain rfl := Option.some.inj h
    exact G_ret dX6_begin_29 trivial rfl rfl
  · replace h := (if_pos hc1).symm.trans h
    refine G_aload_n dX6_begin_9 rfl ?_
    refine fg_X6_9 rfl (by decide) dX6_begin_10 ?_
    refine G_aload_n dX6_begin_13 rfl ?_
    refine fg_X6_15 (v := (M 6 0 1)) rfl rfl (by decide) dX6_begin_14 ?_
    refine G_iload_n dX6_begin_17 rfl ?_
    obtain ⟨hb1, h⟩ := chk h
    have lhb1 := ib_lt hb1
    refine as_16 (kk := (M 6 0 1).toNatClampNeg) (by decide) hb1 rfl dX6_begin_18 ?_
    refine G_aload_n dX6_begin_19 rfl ?_
    refine G_dup rfl dX6_begin_20 ?_
    refine fg_X6_15 (v := (M 6 0 1)) (up3_f (by decide)) rfl (by decide) dX6_begin_21 ?_
    refine G_iconst (v := 1) dX6_begin_24 (by decide) ?_
    refine G_iadd dX6_begin_25 ?_
    refine fp_X6_15 rfl (by decide) dX6_begin_26 ?_
    obtain rfl := Option.some.inj h
    exact G_ret dX6_begin_29 trivial rfl rfl

theorem dX6_say_0 : decode cX6_say 0 = .ok (.iload 4, 2) := by decide +kernel
theorem dX6_say_2 : decode cX6_say 2 = .ok (.bipush 40, 2) := by decide +kernel
theorem dX6_say_4 : decode cX6_say 4 = .ok (.if_icmp .le 5, 3) := by decide +kernel
theorem dX6_say_7 : decode cX6_say 7 = .ok (.iconst 0, 1) := by decide +kernel
theorem dX6_say_8 : decode cX6_say 8 = .ok (.ireturn, 1) := by decide +kernel
theorem dX6_say_9 : decode cX6_say 9 = .ok (.iload_n 1, 1) := by decide +kernel
theorem dX6_say_10 : decode cX6_say 10 = .ok (.istore 5, 2) := by decide +kernel
theorem dX6_say_12 : decode cX6_say 12 = .ok (.iconst 0, 1) := by decide +kernel
theorem dX6_say_13 : decode cX6_say 13 = .ok (.istore 6, 2) := by decide +kernel
theorem dX6_say_15 : decode cX6_say 15 = .ok (.iload 6, 2) := by decide +kernel
theorem dX6_say_17 : decode cX6_say 17 = .ok (.bipush 7, 2) := by decide +kernel
theorem dX6_say_19 : decode cX6_say 19 = .ok (.if_icmp .ge 52, 3) := by decide +kernel
theorem dX6_say_22 : decode cX6_say 22 = .ok (.iload 5, 2) := by decide +kernel
theorem dX6_say_24 : decode cX6_say 24 = .ok (.ifCond .lt 47, 3) := by decide +kernel
theorem dX6_say_27 : decode cX6_say 27 = .ok (.iload 5, 2) := by decide +kernel
theorem dX6_say_29 : decode cX6_say 29 = .ok (.iload_n 2, 1) := by decide +kernel
theorem dX6_say_30 : decode cX6_say 30 = .ok (.invokestatic 36, 3) := by decide +kernel
theorem dX6_say_33 : decode cX6_say 33 = .ok (.istore 7, 2) := by decide +kernel
theorem dX6_say_35 : decode cX6_say 35 = .ok (.iload 7, 2) := by decide +kernel
theorem dX6_say_37 : decode cX6_say 37 = .ok (.ifCond .eq 21, 3) := by decide +kernel
theorem dX6_say_40 : decode cX6_say 40 = .ok (.aload_n 0, 1) := by decide +kernel
theorem dX6_say_41 : decode cX6_say 41 = .ok (.iload 7, 2) := by decide +kernel
theorem dX6_say_43 : decode cX6_say 43 = .ok (.invokevirtual 40, 3) := by decide +kernel
theorem dX6_say_46 : decode cX6_say 46 = .ok (.aload_n 0, 1) := by decide +kernel
theorem dX6_say_47 : decode cX6_say 47 = .ok (.iload 7, 2) := by decide +kernel
theorem dX6_say_49 : decode cX6_say 49 = .ok (.iload_n 3, 1) := by decide +kernel
theorem dX6_say_50 : decode cX6_say 50 = .ok (.iload 4, 2) := by decide +kernel
theorem dX6_say_52 : decode cX6_say 52 = .ok (.iconst 1, 1) := by decide +kernel
theorem dX6_say_53 : decode cX6_say 53 = .ok (.iadd, 1) := by decide +kernel
theorem dX6_say_54 : decode cX6_say 54 = .ok (.invokevirtual 44, 3) := by decide +kernel
theorem dX6_say_57 : decode cX6_say 57 = .ok (.ireturn, 1) := by decide +kernel
theorem dX6_say_58 : decode cX6_say 58 = .ok (.iload 5, 2) := by decide +kernel
theorem dX6_say_60 : decode cX6_say 60 = .ok (.invokestatic 48, 3) := by decide +kernel
theorem dX6_say_63 : decode cX6_say 63 = .ok (.istore 5, 2) := by decide +kernel
theorem dX6_say_65 : decode cX6_say 65 = .ok (.iinc 6 1, 3) := by decide +kernel
theorem dX6_say_68 : decode cX6_say 68 = .ok (.goto (-53), 3) := by decide +kernel
theorem dX6_say_71 : decode cX6_say 71 = .ok (.iconst 0, 1) := by decide +kernel
theorem dX6_say_72 : decode cX6_say 72 = .ok (.ireturn, 1) := by decide +kernel
theorem dX6_sayBody_0 : decode cX6_sayBody 0 = .ok (.iload_n 1, 1) := by decide +kernel
theorem dX6_sayBody_1 : decode cX6_sayBody 1 = .ok (.lookupswitch 262 #[(10, 99), (11, 106), (12, 120), (13, 127), (20, 151), (30, 162), (40, 183), (50, 193), (60, 214), (70, 225), (71, 240)], 99) := by decide +kernel
theorem dX6_sayBody_100 : decode cX6_sayBody 100 = .ok (.iload_n 2, 1) := by decide +kernel
theorem dX6_sayBody_101 : decode cX6_sayBody 101 = .ok (.aload_n 0, 1) := by decide +kernel
theorem dX6_sayBody_102 : decode cX6_sayBody 102 = .ok (.getfield 25, 3) := by decide +kernel
theorem dX6_sayBody_105 : decode cX6_sayBody 105 = .ok (.iadd, 1) := by decide +kernel
theorem dX6_sayBody_106 : decode cX6_sayBody 106 = .ok (.ireturn, 1) := by decide +kernel
theorem dX6_sayBody_107 : decode cX6_sayBody 107 = .ok (.aload_n 0, 1) := by decide +kernel
theorem dX6_sayBody_108 : decode cX6_sayBody 108 = .ok (.aload_n 0, 1) := by decide +kernel
theorem dX6_sayBody_109 : decode cX6_sayBody 109 = .ok (.getfield 24, 3) := by decide +kernel
theorem dX6_sayBody_112 : decode cX6_sayBody 112 = .ok (.iconst 0, 1) := by decide +kernel
theorem dX6_sayBody_113 : decode cX6_sayBody 113 = .ok (.iload_n 2, 1) := by decide +kernel
theorem dX6_sayBody_114 : decode cX6_sayBody 114 = .ok (.iload_n 3, 1) := by decide +kernel
theorem dX6_sayBody_115 : decode cX6_sayBody 115 = .ok (.invokevirtual 32, 3) := by decide +kernel
theorem dX6_sayBody_118 : decode cX6_sayBody 118 = .ok (.iconst 2, 1) := by decide +kernel
theorem dX6_sayBody_119 : decode cX6_sayBody 119 = .ok (.imul, 1) := by decide +kernel
theorem dX6_sayBody_120 : decode cX6_sayBody 120 = .ok (.ireturn, 1) := by decide +kernel
theorem dX6_sayBody_121 : decode cX6_sayBody 121 = .ok (.iload_n 2, 1) := by decide +kernel
theorem dX6_sayBody_122 : decode cX6_sayBody 122 = .ok (.aload_n 0, 1) := by decide +kernel
theorem dX6_sayBody_123 : decode cX6_sayBody 123 = .ok (.getfield 31, 3) := by decide +kernel
theorem dX6_sayBody_126 : decode cX6_sayBody 126 = .ok (.isub, 1) := by decide +kernel
theorem dX6_sayBody_127 : decode cX6_sayBody 127 = .ok (.ireturn, 1) := by decide +kernel
theorem dX6_sayBody_128 : decode cX6_sayBody 128 = .ok (.aload_n 0, 1) := by decide +kernel
theorem dX6_sayBody_129 : decode cX6_sayBody 129 = .ok (.aload_n 0, 1) := by decide +kernel
theorem dX6_sayBody_130 : decode cX6_sayBody 130 = .ok (.getfield 24, 3) := by decide +kernel
theorem dX6_sayBody_133 : decode cX6_sayBody 133 = .ok (.iconst 1, 1) := by decide +kernel
theorem dX6_sayBody_134 : decode cX6_sayBody 134 = .ok (.iload_n 2, 1) := by decide +kernel
theorem dX6_sayBody_135 : decode cX6_sayBody 135 = .ok (.iload_n 3, 1) := by decide +kernel
theorem dX6_sayBody_136 : decode cX6_sayBody 136 = .ok (.invokevirtual 32, 3) := by decide +kernel
theorem dX6_sayBody_139 : decode cX6_sayBody 139 = .ok (.aload_n 0, 1) := by decide +kernel
theorem dX6_sayBody_140 : decode cX6_sayBody 140 = .ok (.aload_n 0, 1) := by decide +kernel
theorem dX6_sayBody_141 : decode cX6_sayBody 141 = .ok (.getfield 24, 3) := by decide +kernel
theorem dX6_sayBody_144 : decode cX6_sayBody 144 = .ok (.iconst 2, 1) := by decide +kernel
theorem dX6_sayBody_145 : decode cX6_sayBody 145 = .ok (.iload_n 2, 1) := by decide +kernel
theorem dX6_sayBody_146 : decode cX6_sayBody 146 = .ok (.iload_n 3, 1) := by decide +kernel
theorem dX6_sayBody_147 : decode cX6_sayBody 147 = .ok (.invokevirtual 32, 3) := by decide +kernel
theorem dX6_sayBody_150 : decode cX6_sayBody 150 = .ok (.ixor, 1) := by decide +kernel
theorem dX6_sayBody_151 : decode cX6_sayBody 151 = .ok (.ireturn, 1) := by decide +kernel
theorem dX6_sayBody_152 : decode cX6_sayBody 152 = .ok (.aload_n 0, 1) := by decide +kernel
theorem dX6_sayBody_153 : decode cX6_sayBody 153 = .ok (.iconst 1, 1) := by decide +kernel
theorem dX6_sayBody_154 : decode cX6_sayBody 154 = .ok (.iconst 0, 1) := by decide +kernel
theorem dX6_sayBody_155 : decode cX6_sayBody 155 = .ok (.iload_n 2, 1) := by decide +kernel
theorem dX6_sayBody_156 : decode cX6_sayBody 156 = .ok (.iload_n 3, 1) := by decide +kernel
theorem dX6_sayBody_157 : decode cX6_sayBody 157 = .ok (.invokevirtual 52, 3) := by decide +kernel
theorem dX6_sayBody_160 : decode cX6_sayBody 160 = .ok (.iconst 3, 1) := by decide +kernel
theorem dX6_sayBody_161 : decode cX6_sayBody 161 = .ok (.imul, 1) := by decide +kernel
theorem dX6_sayBody_162 : decode cX6_sayBody 162 = .ok (.ireturn, 1) := by decide +kernel
theorem dX6_sayBody_163 : decode cX6_sayBody 163 = .ok (.aload_n 0, 1) := by decide +kernel
theorem dX6_sayBody_164 : decode cX6_sayBody 164 = .ok (.iconst 2, 1) := by decide +kernel
theorem dX6_sayBody_165 : decode cX6_sayBody 165 = .ok (.iconst 1, 1) := by decide +kernel
theorem dX6_sayBody_166 : decode cX6_sayBody 166 = .ok (.iload_n 2, 1) := by decide +kernel
theorem dX6_sayBody_167 : decode cX6_sayBody 167 = .ok (.iload_n 3, 1) := by decide +kernel
theorem dX6_sayBody_168 : decode cX6_sayBody 168 = .ok (.invokevirtual 52, 3) := by decide +kernel
theorem dX6_sayBody_171 : decode cX6_sayBody 171 = .ok (.aload_n 0, 1) := by decide +kernel
theorem dX6_sayBody_172 : decode cX6_sayBody 172 = .ok (.aload_n 0, 1) := by decide +kernel
theorem dX6_sayBody_173 : decode cX6_sayBody 173 = .ok (.getfield 24, 3) := by decide +kernel
theorem dX6_sayBody_176 : decode cX6_sayBody 176 = .ok (.iconst 2, 1) := by decide +kernel
theorem dX6_sayBody_177 : decode cX6_sayBody 177 = .ok (.iconst 1, 1) := by decide +kernel
theorem dX6_sayBody_178 : decode cX6_sayBody 178 = .ok (.iload_n 3, 1) := by decide +kernel
theorem dX6_sayBody_179 : decode cX6_sayBody 179 = .ok (.invokevirtual 32, 3) := by decide +kernel
theorem dX6_sayBody_182 : decode cX6_sayBody 182 = .ok (.isub, 1) := by decide +kernel
theorem dX6_sayBody_183 : decode cX6_sayBody 183 = .ok (.ireturn, 1) := by decide +kernel
theorem dX6_sayBody_184 : decode cX6_sayBody 184 = .ok (.aload_n 0, 1) := by decide +kernel
theorem dX6_sayBody_185 : decode cX6_sayBody 185 = .ok (.iconst 3, 1) := by decide +kernel
theorem dX6_sayBody_186 : decode cX6_sayBody 186 = .ok (.iconst 2, 1) := by decide +kernel
theorem dX6_sayBody_187 : decode cX6_sayBody 187 = .ok (.iload_n 2, 1) := by decide +kernel
theorem dX6_sayBody_188 : decode cX6_sayBody 188 = .ok (.iload_n 3, 1) := by decide +kernel
theorem dX6_sayBody_189 : decode cX6_sayBody 189 = .ok (.invokevirtual 52, 3) := by decide +kernel
theorem dX6_sayBody_192 : decode cX6_sayBody 192 = .ok (.ineg, 1) := by decide +kernel
theorem dX6_sayBody_193 : decode cX6_sayBody 193 = .ok (.ireturn, 1) := by decide +kernel
theorem dX6_sayBody_194 : decode cX6_sayBody 194 = .ok (.aload_n 0, 1) := by decide +kernel
theorem dX6_sayBody_195 : decode cX6_sayBody 195 = .ok (.iconst 4, 1) := by decide +kernel
theorem dX6_sayBody_196 : decode cX6_sayBody 196 = .ok (.iconst 3, 1) := by decide +kernel
theorem dX6_sayBody_197 : decode cX6_sayBody 197 = .ok (.iload_n 2, 1) := by decide +kernel
theorem dX6_sayBody_198 : decode cX6_sayBody 198 = .ok (.iload_n 3, 1) := by decide +kernel
theorem dX6_sayBody_199 : decode cX6_sayBody 199 = .ok (.invokevirtual 52, 3) := by decide +kernel
theorem dX6_sayBody_202 : decode cX6_sayBody 202 = .ok (.aload_n 0, 1) := by decide +kernel
theorem dX6_sayBody_203 : decode cX6_sayBody 203 = .ok (.aload_n 0, 1) := by decide +kernel
theorem dX6_sayBody_204 : decode cX6_sayBody 204 = .ok (.getfield 24, 3) := by decide +kernel
theorem dX6_sayBody_207 : decode cX6_sayBody 207 = .ok (.iconst 0, 1) := by decide +kernel
theorem dX6_sayBody_208 : decode cX6_sayBody 208 = .ok (.iconst 2, 1) := by decide +kernel
theorem dX6_sayBody_209 : decode cX6_sayBody 209 = .ok (.iload_n 3, 1) := by decide +kernel
theorem dX6_sayBody_210 : decode cX6_sayBody 210 = .ok (.invokevirtual 32, 3) := by decide +kernel
theorem dX6_sayBody_213 : decode cX6_sayBody 213 = .ok (.isub, 1) := by decide +kernel
theorem dX6_sayBody_214 : decode cX6_sayBody 214 = .ok (.ireturn, 1) := by decide +kernel
theorem dX6_sayBody_215 : decode cX6_sayBody 215 = .ok (.aload_n 0, 1) := by decide +kernel
theorem dX6_sayBody_216 : decode cX6_sayBody 216 = .ok (.iconst 5, 1) := by decide +kernel
theorem dX6_sayBody_217 : decode cX6_sayBody 217 = .ok (.iconst 1, 1) := by decide +kernel
theorem dX6_sayBody_218 : decode cX6_sayBody 218 = .ok (.iload_n 2, 1) := by decide +kernel
theorem dX6_sayBody_219 : decode cX6_sayBody 219 = .ok (.iconst 1, 1) := by decide +kernel
theorem dX6_sayBody_220 : decode cX6_sayBody 220 = .ok (.iadd, 1) := by decide +kernel
theorem dX6_sayBody_221 : decode cX6_sayBody 221 = .ok (.iload_n 3, 1) := by decide +kernel
theorem dX6_sayBody_222 : decode cX6_sayBody 222 = .ok (.invokevirtual 52, 3) := by decide +kernel
theorem dX6_sayBody_225 : decode cX6_sayBody 225 = .ok (.ireturn, 1) := by decide +kernel
theorem dX6_sayBody_226 : decode cX6_sayBody 226 = .ok (.aload_n 0, 1) := by decide +kernel
theorem dX6_sayBody_227 : decode cX6_sayBody 227 = .ok (.bipush 6, 2) := by decide +kernel
theorem dX6_sayBody_229 : decode cX6_sayBody 229 = .ok (.iconst 2, 1) := by decide +kernel
theorem dX6_sayBody_230 : decode cX6_sayBody 230 = .ok (.iload_n 2, 1) := by decide +kernel
theorem dX6_sayBody_231 : decode cX6_sayBody 231 = .ok (.iload_n 3, 1) := by decide +kernel
theorem dX6_sayBody_232 : decode cX6_sayBody 232 = .ok (.invokevirtual 52, 3) := by decide +kernel
theorem dX6_sayBody_235 : decode cX6_sayBody 235 = .ok (.aload_n 0, 1) := by decide +kernel
theorem dX6_sayBody_236 : decode cX6_sayBody 236 = .ok (.getfield 25, 3) := by decide +kernel
theorem dX6_sayBody_239 : decode cX6_sayBody 239 = .ok (.ixor, 1) := by decide +kernel
theorem dX6_sayBody_240 : decode cX6_sayBody 240 = .ok (.ireturn, 1) := by decide +kernel
theorem dX6_sayBody_241 : decode cX6_sayBody 241 = .ok (.aload_n 0, 1) := by decide +kernel
theorem dX6_sayBody_242 : decode cX6_sayBody 242 = .ok (.aload_n 0, 1) := by decide +kernel
theorem dX6_sayBody_243 : decode cX6_sayBody 243 = .ok (.getfield 24, 3) := by decide +kernel
theorem dX6_sayBody_246 : decode cX6_sayBody 246 = .ok (.iconst 1, 1) := by decide +kernel
theorem dX6_sayBody_247 : decode cX6_sayBody 247 = .ok (.iload_n 2, 1) := by decide +kernel
theorem dX6_sayBody_248 : decode cX6_sayBody 248 = .ok (.iload_n 3, 1) := by decide +kernel
theorem dX6_sayBody_249 : decode cX6_sayBody 249 = .ok (.invokevirtual 32, 3) := by decide +kernel
theorem dX6_sayBody_252 : decode cX6_sayBody 252 = .ok (.aload_n 0, 1) := by decide +kernel
theorem dX6_sayBody_253 : decode cX6_sayBody 253 = .ok (.bipush 6, 2) := by decide +kernel
theorem dX6_sayBody_255 : decode cX6_sayBody 255 = .ok (.iconst 3, 1) := by decide +kernel
theorem dX6_sayBody_256 : decode cX6_sayBody 256 = .ok (.iload_n 2, 1) := by decide +kernel
theorem dX6_sayBody_257 : decode cX6_sayBody 257 = .ok (.iload_n 3, 1) := by decide +kernel
theorem dX6_sayBody_258 : decode cX6_sayBody 258 = .ok (.invokevirtual 52, 3) := by decide +kernel
theorem dX6_sayBody_261 : decode cX6_sayBody 261 = .ok (.isub, 1) := by decide +kernel
theorem dX6_sayBody_262 : decode cX6_sayBody 262 = .ok (.ireturn, 1) := by decide +kernel
theorem dX6_sayBody_263 : decode cX6_sayBody 263 = .ok (.iconst 0, 1) := by decide +kernel
theorem dX6_sayBody_264 : decode cX6_sayBody 264 = .ok (.ireturn, 1) := by decide +kernel
theorem dX6_sayAbove_0 : decode cX6_sayAbove 0 = .ok (.aload_n 0, 1) := by decide +kernel
theorem dX6_sayAbove_1 : decode cX6_sayAbove 1 = .ok (.iload_n 1, 1) := by decide +kernel
theorem dX6_sayAbove_2 : decode cX6_sayAbove 2 = .ok (.invokestatic 48, 3) := by decide +kernel
theorem dX6_sayAbove_5 : decode cX6_sayAbove 5 = .ok (.iload_n 2, 1) := by decide +kernel
theorem dX6_sayAbove_6 : decode cX6_sayAbove 6 = .ok (.iload_n 3, 1) := by decide +kernel
theorem dX6_sayAbove_7 : decode cX6_sayAbove 7 = .ok (.iload 4, 2) := by decide +kernel
theorem dX6_sayAbove_9 : decode cX6_sayAbove 9 = .ok (.invokevirtual 32, 3) := by decide +kernel
theorem dX6_sayAbove_12 : decode cX6_sayAbove 12 = .ok (.ireturn, 1) := by decide +kernel
def X6_say_L15 (rc : Nat → Int32 → Int32 → Int32 → Int32 → Mem → Option (Int32 × Mem)) : Nat → Int32 → Int32 → Int32 → Int32 → Int32 → Mem → Option (Unit ⊕ (Int32 × Mem))
  | 0, _, _, _, _, _, _ => none
  | fu + 1, v2, v3, v4, v5, v6, M => (if v6 < 7 then (if v5 < 0 then (some (.inl ())) else (if (X6_bodyOf v5 v2) = 0 then (X6_say_L15 rc fu v2 v3 v4 (X7_kindAbove v5) (v6 + 1) M) else ((X6_begin (X6_bodyOf v5 v2) M).bind fun q1 => ((rc 1 (X6_bodyOf v5 v2) v3 (v4 + 1) 0 q1).bind fun q2 => (some (.inr (q2.1, q2.2))))))) else (some (.inl ())))
set_option maxRecDepth 100000 in
set_option maxHeartbeats 4000000 in
theorem X6_say_L15_ok (rc : Nat → Int32 → Int32 → Int32 → Int32 → Mem → Option (Int32 × Mem))  {d : Nat} (hd0 : 1 ≤ d) (hr0 : ∀ {a0 a1 a2 a3 : Int32} {M N : Mem} {res : Int32 × Mem}, rc 0 a0 a1 a2 a3 M = some res → Spec mt_X6_say d [.inr (.inr (6, 0)), .inl a0, .inl a1, .inl a2, .inl a3] (M, N) (some (.inl res.1)) (res.2, N)) (hr1 : ∀ {a0 a1 a2 a3 : Int32} {M N : Mem} {res : Int32 × Mem}, rc 1 a0 a1 a2 a3 M = some res → Spec mt_X6_sayBody d [.inr (.inr (6, 0)), .inl a0, .inl a1, .inl a2] (M, N) (some (.inl res.1)) (res.2, N)) (hr2 : ∀ {a0 a1 a2 a3 : Int32} {M N : Mem} {res : Int32 × Mem}, rc 2 a0 a1 a2 a3 M = some res → Spec mt_X6_sayAbove d [.inr (.inr (6, 0)), .inl a0, .inl a1, .inl a2, .inl a3] (M, N) (some (.inl res.1)) (res.2, N)) {r : Option AV} {M' : MM} : ∀ (fu : Nat) (v2 : Int32) (v3 : Int32) (v4 : Int32) (v5 : Int32) (v6 : Int32) (M N : Mem) {res : (Unit) ⊕ (Int32 × Mem)} (h : X6_say_L15 rc fu v2 v3 v4 v5 v6 M = some res) (K : ∀ q, res = .inl q → G mt_X6_say (d + 1) r M' 71 [] [] (M, N)) (K2 : ∀ q, res = .inr q → r = (some (.inl q.1)) ∧ M' = (q.2, N)), G mt_X6_say (d + 1) r M' 15 [(0, .inr (.inr (6, 0))), (2, .inl v2), (3, .inl v3), (4, .inl v4), (5, .inl v5), (6, .inl v6)] [] (M, N) := by
  intro fu
  induction fu with
  | zero =>
    intro v2 v3 v4 v5 v6 M N res h
    cases h
  | succ fu ih =>
    intro v2 v3 v4 v5 v6 M N res h K K2
    replace h : (if v6 < 7 then (if v5 < 0 then (some (.inl ())) else (if (X6_bodyOf v5 v2) = 0 then (X6_say_L15 rc fu v2 v3 v4 (X7_kindAbove v5) (v6 + 1) M) else ((X6_begin (X6_bodyOf v5 v2) M).bind fun q1 => ((rc 1 (X6_bodyOf v5 v2) v3 (v4 + 1) 0 q1).bind fun q2 => (some (.inr (q2.1, q2.2))))))) else (some (.inl ()))) = some res := h
    refine G_iload dX6_say_15 rfl ?_
    refine G_bipush (v := 7) dX6_say_17 (by decide) ?_
    refine G_icmp_ge (tgt := 71) dX6_say_19 (by decide) (fun hc5 => ?_) (fun hc5 => ?_)
    · replace h := (if_neg hc5).symm.trans h
      refine G_sub [] [] rfl ?_
      exact K _ (Option.some.inj h).symm
    · replace h := (if_pos hc5).symm.trans h
      refine G_iload dX6_say_22 rfl ?_
      refine G_if_lt (tgt := 71) dX6_say_24 (by decide) (fun hc6 => ?_) (fun hc6 => ?_)
      · replace h := (if_pos hc6).symm.trans h
        refine G_sub [] [] rfl ?_
        exact K _ (Option.some.inj h).symm
      · replace h := (if_neg hc6).symm.trans h
        refine G_iload dX6_say_27 rfl ?_
        refine G_iload_n dX6_say_29 rfl ?_
        refine G_callSv  (X6_bodyOf_ok rfl) ok_X6_bodyOf ml_X6_36 (by omega) rfl rfl (Nat.le_of_ble_eq_true rfl) dX6_say_30 ?_
        refine G_istore (L2 := [(7, .inl (X6_bodyOf v5 v2)), (0, .inr (.inr (6, 0))), (2, .inl v2), (3, .inl v3), (4, .inl v4), (5, .inl v5), (6, .inl v6)]) dX6_say_33 (by decide) rfl ?_
        refine G_iload dX6_say_35 rfl ?_
        refine G_if_eq (tgt := 58) dX6_say_37 (by decide) (fun hc7 => ?_) (fun hc7 => ?_)
        · replace h := (if_pos hc7).symm.trans h
          refine G_iload dX6_say_58 rfl ?_
          refine G_callSNv  (X7_kindAbove_ok rfl) ok_X7_kindAbove (by first | exact List.mem_cons_self | exact List.mem_cons_of_mem _ List.mem_cons_self) (by omega) rfl rfl (Nat.le_of_ble_eq_true rfl) dX6_say_60 ?_
          refine G_istore (L2 := [(5, .inl (X7_kindAbove v5)), (7, .inl (X6_bodyOf v5 v2)), (0, .inr (.inr (6, 0))), (2, .inl v2), (3, .inl v3), (4, .inl v4), (6, .inl v6)]) dX6_say_63 (by decide) rfl ?_
          refine G_iinc (v := (v6 + 1)) (L2 := [(6, .inl (v6 + 1)), (5, .inl (X7_kindAbove v5)), (7, .inl (X6_bodyOf v5 v2)), (0, .inr (.inr (6, 0))), (2, .inl v2), (3, .inl v3), (4, .inl v4)]) dX6_say_65 rfl (by first | rfl | (show _ + Int32.ofInt _ = _; rfl)) (by decide) rfl ?_
          refine G_goto (tgt := 15) dX6_say_68 (by decide) ?_
          refine G_sub [(0, .inr (.inr (6, 0))), (2, .inl v2), (3, .inl v3), (4, .inl v4), (5, .inl (X7_kindAbove v5)), (6, .inl (v6 + 1))] [3, 4, 5, 6, 1, 0] rfl ?_
          exact ih v2 v3 v4 (X7_kindAbove v5) (v6 + 1) M _  h K K2
        · replace h := (if_neg hc7).symm.trans h
          refine G_aload_n dX6_say_40 rfl ?_
          refine G_iload dX6_say_41 rfl ?_
          obtain ⟨q1, hq1, h⟩ := bnd h
          refine G_callVn (T := TX6) (N := 5) (f := 6) (i := 0) (X6_begin_ok hq1) ok_X6_begin ml_X6_40 (by omega) rfl (by decide) (by decide) (by decide) rfl rfl (Nat.le_of_ble_eq_true rfl) dX6_say_43 ?_
          refine G_aload_n dX6_say_46 rfl ?_
          refine G_iload dX6_say_47 rfl ?_
          refine G_iload_n dX6_say_49 rfl ?_
          refine G_iload dX6_say_50 rfl ?_
          refine G_iconst (v := 1) dX6_say_52 (by decide) ?_
          refine G_iadd dX6_say_53 ?_
          obtain ⟨q2, hq2, h⟩ := bnd h
          refine G_callVv (T := TX6) (N := 5) (f := 6) (i := 0) (hr1 hq2) ok_X6_sayBody ml_X6_44 (by omega) rfl (by decide) (by decide) (by decide) rfl rfl (Nat.le_of_ble_eq_true rfl) dX6_say_54 ?_
          obtain ⟨e1, e2⟩ := K2 _ (Option.some.inj h).symm
          subst e1; subst e2
          exact G_ret dX6_say_57 trivial rfl rfl

def X6_say (rc : Nat → Int32 → Int32 → Int32 → Int32 → Mem → Option (Int32 × Mem)) (v1 : Int32) (v2 : Int32) (v3 : Int32) (v4 : Int32) (M : Mem) : Option (Int32 × Mem) := (if 40 < v4 then (some (0, M)) else ((X6_say_L15 rc 400 v2 v3 v4 v1 0 M).bind fun q3 => match q3 with
  | .inl q3 => (some (0, M))
  | .inr q3 => some q3))
set_option maxRecDepth 100000 in
set_option maxHeartbeats 4000000 in
theorem X6_say_ok (rc : Nat → Int32 → Int32 → Int32 → Int32 → Mem → Option (Int32 × Mem))  {d : Nat} (hd0 : 1 ≤ d) (hr0 : ∀ {a0 a1 a2 a3 : Int32} {M N : Mem} {res : Int32 × Mem}, rc 0 a0 a1 a2 a3 M = some res → Spec mt_X6_say d [.inr (.inr (6, 0)), .inl a0, .inl a1, .inl a2, .inl a3] (M, N) (some (.inl res.1)) (res.2, N)) (hr1 : ∀ {a0 a1 a2 a3 : Int32} {M N : Mem} {res : Int32 × Mem}, rc 1 a0 a1 a2 a3 M = some res → Spec mt_X6_sayBody d [.inr (.inr (6, 0)), .inl a0, .inl a1, .inl a2] (M, N) (some (.inl res.1)) (res.2, N)) (hr2 : ∀ {a0 a1 a2 a3 : Int32} {M N : Mem} {res : Int32 × Mem}, rc 2 a0 a1 a2 a3 M = some res → Spec mt_X6_sayAbove d [.inr (.inr (6, 0)), .inl a0, .inl a1, .inl a2, .inl a3] (M, N) (some (.inl res.1)) (res.2, N)) {v1 : Int32} {v2 : Int32} {v3 : Int32} {v4 : Int32} {M N : Mem} {res : Int32 × Mem} (h : X6_say rc v1 v2 v3 v4 M = some res) : Spec mt_X6_say (d + 1) [.inr (.inr (6, 0)), .inl v1, .inl v2, .inl v3, .inl v4] (M, N) (some (.inl res.1)) (res.2, N) := by
  unfold X6_say at h
  refine Spec_of_G (by decide) rfl (Nat.le_of_ble_eq_true rfl) ?_
  refine G_sub [(0, .inr (.inr (6, 0))), (1, .inl v1), (2, .inl v2), (3, .inl v3), (4, .inl v4)] [0, 1, 2, 3, 4] rfl ?_
  refine G_iload dX6_say_0 rfl ?_
  refine G_bipush (v := 40) dX6_say_2 (by decide) ?_
  refine G_icmp_le (tgt := 9) dX6_say_4 (by decide) (fun hc1 => ?_) (fun hc1 => ?_)
  · replace h := (if_neg hc1).symm.trans h
    refine G_iload_n dX6_say_9 rfl ?_
    refine G_istore (L2 := [(5, .inl v1), (0, .inr (.inr (6, 0))), (1, .inl v1), (2, .inl v2), (3, .inl v3), (4, .inl v4)]) dX6_say_10 (by decide) rfl ?_
    refine G_iconst (v := 0) dX6_say_12 (by decide) ?_
    refine G_istore (L2 := [(6, .inl 0), (5, .inl v1), (0, .inr (.inr (6, 0))), (1, .inl v1), (2, .inl v2), (3, .inl v3), (4, .inl v4)]) dX6_say_13 (by decide) rfl ?_
    refine G_sub [(0, .inr (.inr (6, 0))), (2, .inl v2), (3, .inl v3), (4, .inl v4), (5, .inl v1), (6, .inl 0)] [2, 4, 5, 6, 1, 0] rfl ?_
    obtain ⟨q3, hq3, h⟩ := bnd h
    refine X6_say_L15_ok rc  hd0 hr0 hr1 hr2 400 v2 v3 v4 v1 0 M _  hq3 (fun q3n q3e => ?_) (fun q3n q3e => ?_)
    · subst q3e
      refine G_iconst (v := 0) dX6_say_71 (by decide) ?_
      obtain rfl := Option.some.inj h
      exact G_ret dX6_say_72 trivial rfl rfl
    · subst q3e
      obtain rfl := Option.some.inj h
      exact ⟨rfl, rfl⟩
  · replace h := (if_pos hc1).symm.trans h
    refine G_iconst (v := 0) dX6_say_7 (by decide) ?_
    obtain rfl := Option.some.inj h
    exact G_ret dX6_say_8 trivial rfl rfl

def X6_sayBody (rc : Nat → Int32 → Int32 → Int32 → Int32 → Mem → Option (Int32 × Mem)) (v1 : Int32) (v2 : Int32) (v3 : Int32) (M : Mem) : Option (Int32 × Mem) := (if v1 = 10 then (some ((v2 + (M 6 0 3)), M)) else (if v1 = 11 then ((rc 0 (M 6 0 2) 0 v2 v3 M).bind fun q1 => (some ((q1.1 * 2), q1.2))) else (if v1 = 12 then (some ((v2 - (M 6 0 4)), M)) else (if v1 = 13 then ((rc 0 (M 6 0 2) 1 v2 v3 M).bind fun q2 => ((rc 0 (q2.2 6 0 2) 2 v2 v3 q2.2).bind fun q3 => (some ((q2.1 ^^^ q3.1), q3.2)))) else (if v1 = 20 then ((rc 2 1 0 v2 v3 M).bind fun q4 => (some ((q4.1 * 3), q4.2))) else (if v1 = 30 then ((rc 2 2 1 v2 v3 M).bind fun q5 => ((rc 0 (q5.2 6 0 2) 2 1 v3 q5.2).bind fun q6 => (some ((q5.1 - q6.1), q6.2)))) else (if v1 = 40 then ((rc 2 3 2 v2 v3 M).bind fun q7 => (some ((-q7.1), q7.2))) else (if v1 = 50 then ((rc 2 4 3 v2 v3 M).bind fun q8 => ((rc 0 (q8.2 6 0 2) 0 2 v3 q8.2).bind fun q9 => (some ((q8.1 - q9.1), q9.2)))) else (if v1 = 60 then ((rc 2 5 1 (v2 + 1) v3 M).bind fun q10 => (some (q10.1, q10.2))) else (if v1 = 70 then ((rc 2 6 2 v2 v3 M).bind fun q11 => (some ((q11.1 ^^^ (q11.2 6 0 3)), q11.2))) else (if v1 = 71 then ((rc 0 (M 6 0 2) 1 v2 v3 M).bind fun q12 => ((rc 2 6 3 v2 v3 q12.2).bind fun q13 => (some ((q12.1 - q13.1), q13.2)))) else (some (0, M)))))))))))))
set_option maxRecDepth 100000 in
set_option maxHeartbeats 4000000 in
theorem X6_sayBody_ok (rc : Nat → Int32 → Int32 → Int32 → Int32 → Mem → Option (Int32 × Mem))  {d : Nat} (hd0 : 1 ≤ d) (hr0 : ∀ {a0 a1 a2 a3 : Int32} {M N : Mem} {res : Int32 × Mem}, rc 0 a0 a1 a2 a3 M = some res → Spec mt_X6_say d [.inr (.inr (6, 0)), .inl a0, .inl a1, .inl a2, .inl a3] (M, N) (some (.inl res.1)) (res.2, N)) (hr1 : ∀ {a0 a1 a2 a3 : Int32} {M N : Mem} {res : Int32 × Mem}, rc 1 a0 a1 a2 a3 M = some res → Spec mt_X6_sayBody d [.inr (.inr (6, 0)), .inl a0, .inl a1, .inl a2] (M, N) (some (.inl res.1)) (res.2, N)) (hr2 : ∀ {a0 a1 a2 a3 : Int32} {M N : Mem} {res : Int32 × Mem}, rc 2 a0 a1 a2 a3 M = some res → Spec mt_X6_sayAbove d [.inr (.inr (6, 0)), .inl a0, .inl a1, .inl a2, .inl a3] (M, N) (some (.inl res.1)) (res.2, N)) {v1 : Int32} {v2 : Int32} {v3 : Int32} {M N : Mem} {res : Int32 × Mem} (h : X6_sayBody rc v1 v2 v3 M = some res) : Spec mt_X6_sayBody (d + 1) [.inr (.inr (6, 0)), .inl v1, .inl v2, .inl v3] (M, N) (some (.inl res.1)) (res.2, N) := by
  unfold X6_sayBody at h
  refine Spec_of_G (by decide) rfl (Nat.le_of_ble_eq_true rfl) ?_
  refine G_sub [(0, .inr (.inr (6, 0))), (1, .inl v1), (2, .inl v2), (3, .inl v3)] [0, 1, 2, 3] rfl ?_
  refine G_iload_n dX6_sayBody_0 rfl ?_
  by_cases hc1 : v1 = 10
  · replace h := (if_pos hc1).symm.trans h
    refine G_lookEq (off := 99) (tgt := 100) hc1 dX6_sayBody_1 (by decide) (by decide) (by decide) ?_
    refine G_iload_n dX6_sayBody_100 rfl ?_
    refine G_aload_n dX6_sayBody_101 rfl ?_
    refine fg_X6_25 (v := (M 6 0 3)) rfl rfl (by decide) dX6_sayBody_102 ?_
    refine G_iadd dX6_sayBody_105 ?_
    obtain rfl := Option.some.inj h
    exact G_ret dX6_sayBody_106 trivial rfl rfl
  replace h := (if_neg hc1).symm.trans h
  by_cases hc2 : v1 = 11
  · replace h := (if_pos hc2).symm.trans h
    refine G_lookEq (off := 106) (tgt := 107) hc2 dX6_sayBody_1 (by decide) (by decide) (by decide) ?_
    refine G_aload_n dX6_sayBody_107 rfl ?_
    refine G_aload_n dX6_sayBody_108 rfl ?_
    refine fg_X6_24 (v := (M 6 0 2)) rfl rfl (by decide) dX6_sayBody_109 ?_
    refine G_iconst (v := 0) dX6_sayBody_112 (by decide) ?_
    refine G_iload_n dX6_sayBody_113 rfl ?_
    refine G_iload_n dX6_sayBody_114 rfl ?_
    obtain ⟨q1, hq1, h⟩ := bnd h
    refine G_callVv (T := TX6) (N := 5) (f := 6) (i := 0) (hr0 hq1) ok_X6_say ml_X6_32 (by omega) rfl (by decide) (by decide) (by decide) rfl rfl (Nat.le_of_ble_eq_true rfl) dX6_sayBody_115 ?_
    refine G_iconst (v := 2) dX6_sayBody_118 (by decide) ?_
    refine G_imul dX6_sayBody_119 ?_
    obtain rfl := Option.some.inj h
    exact G_ret dX6_sayBody_120 trivial rfl rfl
  replace h := (if_neg hc2).symm.trans h
  by_cases hc3 : v1 = 12
  · replace h := (if_pos hc3).symm.trans h
    refine G_lookEq (off := 120) (tgt := 121) hc3 dX6_sayBody_1 (by decide) (by decide) (by decide) ?_
    refine G_iload_n dX6_sayBody_121 rfl ?_
    refine G_aload_n dX6_sayBody_122 rfl ?_
    refine fg_X6_31 (v := (M 6 0 4)) rfl rfl (by decide) dX6_sayBody_123 ?_
    refine G_isub dX6_sayBody_126 ?_
    obtain rfl := Option.some.inj h
    exact G_ret dX6_sayBody_127 trivial rfl rfl
  replace h := (if_neg hc3).symm.trans h
  by_cases hc4 : v1 = 13
  · replace h := (if_pos hc4).symm.trans h
    refine G_lookEq (off := 127) (tgt := 128) hc4 dX6_sayBody_1 (by decide) (by decide) (by decide) ?_
    refine G_aload_n dX6_sayBody_128 rfl ?_
    refine G_aload_n dX6_sayBody_129 rfl ?_
    refine fg_X6_24 (v := (M 6 0 2)) rfl rfl (by decide) dX6_sayBody_130 ?_
    refine G_iconst (v := 1) dX6_sayBody_133 (by decide) ?_
    refine G_iload_n dX6_sayBody_134 rfl ?_
    refine G_iload_n dX6_sayBody_135 rfl ?_
    obtain ⟨q2, hq2, h⟩ := bnd h
    refine G_callVv (T := TX6) (N := 5) (f := 6) (i := 0) (hr0 hq2) ok_X6_say ml_X6_32 (by omega) rfl (by decide) (by decide) (by decide) rfl rfl (Nat.le_of_ble_eq_true rfl) dX6_sayBody_136 ?_
    refine G_aload_n dX6_sayBody_139 rfl ?_
    refine G_aload_n dX6_sayBody_140 rfl ?_
    refine fg_X6_24 (v := (q2.2 6 0 2)) rfl rfl (by decide) dX6_sayBody_141 ?_
    refine G_iconst (v := 2) dX6_sayBody_144 (by decide) ?_
    refine G_iload_n dX6_sayBody_145 rfl ?_
    refine G_iload_n dX6_sayBody_146 rfl ?_
    obtain ⟨q3, hq3, h⟩ := bnd h
    refine G_callVv (T := TX6) (N := 5) (f := 6) (i := 0) (hr0 hq3) ok_X6_say ml_X6_32 (by omega) rfl (by decide) (by decide) (by decide) rfl rfl (Nat.le_of_ble_eq_true rfl) dX6_sayBody_147 ?_
    refine G_ixor dX6_sayBody_150 ?_
    obtain rfl := Option.some.inj h
    exact G_ret dX6_sayBody_151 trivial rfl rfl
  replace h := (if_neg hc4).symm.trans h
  by_cases hc5 : v1 = 20
  · replace h := (if_pos hc5).symm.trans h
    refine G_lookEq (off := 151) (tgt := 152) hc5 dX6_sayBody_1 (by decide) (by decide) (by decide) ?_
    refine G_aload_n dX6_sayBody_152 rfl ?_
    refine G_iconst (v := 1) dX6_sayBody_153 (by decide) ?_
    refine G_iconst (v := 0) dX6_sayBody_154 (by decide) ?_
    refine G_iload_n dX6_sayBody_155 rfl ?_
    refine G_iload_n dX6_sayBody_156 rfl ?_
    obtain ⟨q4, hq4, h⟩ := bnd h
    refine G_callVv (T := TX6) (N := 5) (f := 6) (i := 0) (hr2 hq4) ok_X6_sayAbove ml_X6_52 (by omega) rfl (by decide) (by decide) (by decide) rfl rfl (Nat.le_of_ble_eq_true rfl) dX6_sayBody_157 ?_
    refine G_iconst (v := 3) dX6_sayBody_160 (by decide) ?_
    refine G_imul dX6_sayBody_161 ?_
    obtain rfl := Option.some.inj h
    exact G_ret dX6_sayBody_162 trivial rfl rfl
  replace h := (if_neg hc5).symm.trans h
  by_cases hc6 : v1 = 30
  · replace h := (if_pos hc6).symm.trans h
    refine G_lookEq (off := 162) (tgt := 163) hc6 dX6_sayBody_1 (by decide) (by decide) (by decide) ?_
    refine G_aload_n dX6_sayBody_163 rfl ?_
    refine G_iconst (v := 2) dX6_sayBody_164 (by decide) ?_
    refine G_iconst (v := 1) dX6_sayBody_165 (by decide) ?_
    refine G_iload_n dX6_sayBody_166 rfl ?_
    refine G_iload_n dX6_sayBody_167 rfl ?_
    obtain ⟨q5, hq5, h⟩ := bnd h
    refine G_callVv (T := TX6) (N := 5) (f := 6) (i := 0) (hr2 hq5) ok_X6_sayAbove ml_X6_52 (by omega) rfl (by decide) (by decide) (by decide) rfl rfl (Nat.le_of_ble_eq_true rfl) dX6_sayBody_168 ?_
    refine G_aload_n dX6_sayBody_171 rfl ?_
    refine G_aload_n dX6_sayBody_172 rfl ?_
    refine fg_X6_24 (v := (q5.2 6 0 2)) rfl rfl (by decide) dX6_sayBody_173 ?_
    refine G_iconst (v := 2) dX6_sayBody_176 (by decide) ?_
    refine G_iconst (v := 1) dX6_sayBody_177 (by decide) ?_
    refine G_iload_n dX6_sayBody_178 rfl ?_
    obtain ⟨q6, hq6, h⟩ := bnd h
    refine G_callVv (T := TX6) (N := 5) (f := 6) (i := 0) (hr0 hq6) ok_X6_say ml_X6_32 (by omega) rfl (by decide) (by decide) (by decide) rfl rfl (Nat.le_of_ble_eq_true rfl) dX6_sayBody_179 ?_
    refine G_isub dX6_sayBody_182 ?_
    obtain rfl := Option.some.inj h
    exact G_ret dX6_sayBody_183 trivial rfl rfl
  replace h := (if_neg hc6).symm.trans h
  by_cases hc7 : v1 = 40
  · replace h := (if_pos hc7).symm.trans h
    refine G_lookEq (off := 183) (tgt := 184) hc7 dX6_sayBody_1 (by decide) (by decide) (by decide) ?_
    refine G_aload_n dX6_sayBody_184 rfl ?_
    refine G_iconst (v := 3) dX6_sayBody_185 (by decide) ?_
    refine G_iconst (v := 2) dX6_sayBody_186 (by decide) ?_
    refine G_iload_n dX6_sayBody_187 rfl ?_
    refine G_iload_n dX6_sayBody_188 rfl ?_
    obtain ⟨q7, hq7, h⟩ := bnd h
    refine G_callVv (T := TX6) (N := 5) (f := 6) (i := 0) (hr2 hq7) ok_X6_sayAbove ml_X6_52 (by omega) rfl (by decide) (by decide) (by decide) rfl rfl (Nat.le_of_ble_eq_true rfl) dX6_sayBody_189 ?_
    refine G_ineg dX6_sayBody_192 ?_
    obtain rfl := Option.some.inj h
    exact G_ret dX6_sayBody_193 trivial rfl rfl
  replace h := (if_neg hc7).symm.trans h
  by_cases hc8 : v1 = 50
  · replace h := (if_pos hc8).symm.trans h
    refine G_lookEq (off := 193) (tgt := 194) hc8 dX6_sayBody_1 (by decide) (by decide) (by decide) ?_
    refine G_aload_n dX6_sayBody_194 rfl ?_
    refine G_iconst (v := 4) dX6_sayBody_195 (by decide) ?_
    refine G_iconst (v := 3) dX6_sayBody_196 (by decide) ?_
    refine G_iload_n dX6_sayBody_197 rfl ?_
    refine G_iload_n dX6_sayBody_198 rfl ?_
    obtain ⟨q8, hq8, h⟩ := bnd h
    refine G_callVv (T := TX6) (N := 5) (f := 6) (i := 0) (hr2 hq8) ok_X6_sayAbove ml_X6_52 (by omega) rfl (by decide) (by decide) (by decide) rfl rfl (Nat.le_of_ble_eq_true rfl) dX6_sayBody_199 ?_
    refine G_aload_n dX6_sayBody_202 rfl ?_
    refine G_aload_n dX6_sayBody_203 rfl ?_
    refine fg_X6_24 (v := (q8.2 6 0 2)) rfl rfl (by decide) dX6_sayBody_204 ?_
    refine G_iconst (v := 0) dX6_sayBody_207 (by decide) ?_
    refine G_iconst (v := 2) dX6_sayBody_208 (by decide) ?_
    refine G_iload_n dX6_sayBody_209 rfl ?_
    obtain ⟨q9, hq9, h⟩ := bnd h
    refine G_callVv (T := TX6) (N := 5) (f := 6) (i := 0) (hr0 hq9) ok_X6_say ml_X6_32 (by omega) rfl (by decide) (by decide) (by decide) rfl rfl (Nat.le_of_ble_eq_true rfl) dX6_sayBody_210 ?_
    refine G_isub dX6_sayBody_213 ?_
    obtain rfl := Option.some.inj h
    exact G_ret dX6_sayBody_214 trivial rfl rfl
  replace h := (if_neg hc8).symm.trans h
  by_cases hc9 : v1 = 60
  · replace h := (if_pos hc9).symm.trans h
    refine G_lookEq (off := 214) (tgt := 215) hc9 dX6_sayBody_1 (by decide) (by decide) (by decide) ?_
    refine G_aload_n dX6_sayBody_215 rfl ?_
    refine G_iconst (v := 5) dX6_sayBody_216 (by decide) ?_
    refine G_iconst (v := 1) dX6_sayBody_217 (by decide) ?_
    refine G_iload_n dX6_sayBody_218 rfl ?_
    refine G_iconst (v := 1) dX6_sayBody_219 (by decide) ?_
    refine G_iadd dX6_sayBody_220 ?_
    refine G_iload_n dX6_sayBody_221 rfl ?_
    obtain ⟨q10, hq10, h⟩ := bnd h
    refine G_callVv (T := TX6) (N := 5) (f := 6) (i := 0) (hr2 hq10) ok_X6_sayAbove ml_X6_52 (by omega) rfl (by decide) (by decide) (by decide) rfl rfl (Nat.le_of_ble_eq_true rfl) dX6_sayBody_222 ?_
    obtain rfl := Option.some.inj h
    exact G_ret dX6_sayBody_225 trivial rfl rfl
  replace h := (if_neg hc9).symm.trans h
  by_cases hc10 : v1 = 70
  · replace h := (if_pos hc10).symm.trans h
    refine G_lookEq (off := 225) (tgt := 226) hc10 dX6_sayBody_1 (by decide) (by decide) (by decide) ?_
    refine G_aload_n dX6_sayBody_226 rfl ?_
    refine G_bipush (v := 6) dX6_sayBody_227 (by decide) ?_
    refine G_iconst (v := 2) dX6_sayBody_229 (by decide) ?_
    refine G_iload_n dX6_sayBody_230 rfl ?_
    refine G_iload_n dX6_sayBody_231 rfl ?_
    obtain ⟨q11, hq11, h⟩ := bnd h
    refine G_callVv (T := TX6) (N := 5) (f := 6) (i := 0) (hr2 hq11) ok_X6_sayAbove ml_X6_52 (by omega) rfl (by decide) (by decide) (by decide) rfl rfl (Nat.le_of_ble_eq_true rfl) dX6_sayBody_232 ?_
    refine G_aload_n dX6_sayBody_235 rfl ?_
    refine fg_X6_25 (v := (q11.2 6 0 3)) rfl rfl (by decide) dX6_sayBody_236 ?_
    refine G_ixor dX6_sayBody_239 ?_
    obtain rfl := Option.some.inj h
    exact G_ret dX6_sayBody_240 trivial rfl rfl
  replace h := (if_neg hc10).symm.trans h
  by_cases hc11 : v1 = 71
  · replace h := (if_pos hc11).symm.trans h
    refine G_lookEq (off := 240) (tgt := 241) hc11 dX6_sayBody_1 (by decide) (by decide) (by decide) ?_
    refine G_aload_n dX6_sayBody_241 rfl ?_
    refine G_aload_n dX6_sayBody_242 rfl ?_
    refine fg_X6_24 (v := (M 6 0 2)) rfl rfl (by decide) dX6_sayBody_243 ?_
    refine G_iconst (v := 1) dX6_sayBody_246 (by decide) ?_
    refine G_iload_n dX6_sayBody_247 rfl ?_
    refine G_iload_n dX6_sayBody_248 rfl ?_
    obtain ⟨q12, hq12, h⟩ := bnd h
    refine G_callVv (T := TX6) (N := 5) (f := 6) (i := 0) (hr0 hq12) ok_X6_say ml_X6_32 (by omega) rfl (by decide) (by decide) (by decide) rfl rfl (Nat.le_of_ble_eq_true rfl) dX6_sayBody_249 ?_
    refine G_aload_n dX6_sayBody_252 rfl ?_
    refine G_bipush (v := 6) dX6_sayBody_253 (by decide) ?_
    refine G_iconst (v := 3) dX6_sayBody_255 (by decide) ?_
    refine G_iload_n dX6_sayBody_256 rfl ?_
    refine G_iload_n dX6_sayBody_257 rfl ?_
    obtain ⟨q13, hq13, h⟩ := bnd h
    refine G_callVv (T := TX6) (N := 5) (f := 6) (i := 0) (hr2 hq13) ok_X6_sayAbove ml_X6_52 (by omega) rfl (by decide) (by decide) (by decide) rfl rfl (Nat.le_of_ble_eq_true rfl) dX6_sayBody_258 ?_
    refine G_isub dX6_sayBody_261 ?_
    obtain rfl := Option.some.inj h
    exact G_ret dX6_sayBody_262 trivial rfl rfl
  replace h := (if_neg hc11).symm.trans h
  have nhc1 := ne_lit (n := 10) (by decide) hc1
  have nhc2 := ne_lit (n := 11) (by decide) hc2
  have nhc3 := ne_lit (n := 12) (by decide) hc3
  have nhc4 := ne_lit (n := 13) (by decide) hc4
  have nhc5 := ne_lit (n := 20) (by decide) hc5
  have nhc6 := ne_lit (n := 30) (by decide) hc6
  have nhc7 := ne_lit (n := 40) (by decide) hc7
  have nhc8 := ne_lit (n := 50) (by decide) hc8
  have nhc9 := ne_lit (n := 60) (by decide) hc9
  have nhc10 := ne_lit (n := 70) (by decide) hc10
  have nhc11 := ne_lit (n := 71) (by decide) hc11
  refine G_lookup (off := 262) (tgt := 263) dX6_sayBody_1 (by decide) (by generalize (v1 : Int32).toInt = zz at nhc1 nhc2 nhc3 nhc4 nhc5 nhc6 nhc7 nhc8 nhc9 nhc10 nhc11 ⊢; simp [Op.lookupswitch.offset, Ne.symm nhc1, Ne.symm nhc2, Ne.symm nhc3, Ne.symm nhc4, Ne.symm nhc5, Ne.symm nhc6, Ne.symm nhc7, Ne.symm nhc8, Ne.symm nhc9, Ne.symm nhc10, Ne.symm nhc11]; done) (by decide) ?_
  refine G_iconst (v := 0) dX6_sayBody_263 (by decide) ?_
  obtain rfl := Option.some.inj h
  exact G_ret dX6_sayBody_264 trivial rfl rfl

def X6_sayAbove (rc : Nat → Int32 → Int32 → Int32 → Int32 → Mem → Option (Int32 × Mem)) (v1 : Int32) (v2 : Int32) (v3 : Int32) (v4 : Int32) (M : Mem) : Option (Int32 × Mem) := ((rc 0 (X7_kindAbove v1) v2 v3 v4 M).bind fun q1 => (some (q1.1, q1.2)))
set_option maxRecDepth 100000 in
set_option maxHeartbeats 4000000 in
theorem X6_sayAbove_ok (rc : Nat → Int32 → Int32 → Int32 → Int32 → Mem → Option (Int32 × Mem))  {d : Nat} (hd0 : 1 ≤ d) (hr0 : ∀ {a0 a1 a2 a3 : Int32} {M N : Mem} {res : Int32 × Mem}, rc 0 a0 a1 a2 a3 M = some res → Spec mt_X6_say d [.inr (.inr (6, 0)), .inl a0, .inl a1, .inl a2, .inl a3] (M, N) (some (.inl res.1)) (res.2, N)) (hr1 : ∀ {a0 a1 a2 a3 : Int32} {M N : Mem} {res : Int32 × Mem}, rc 1 a0 a1 a2 a3 M = some res → Spec mt_X6_sayBody d [.inr (.inr (6, 0)), .inl a0, .inl a1, .inl a2] (M, N) (some (.inl res.1)) (res.2, N)) (hr2 : ∀ {a0 a1 a2 a3 : Int32} {M N : Mem} {res : Int32 × Mem}, rc 2 a0 a1 a2 a3 M = some res → Spec mt_X6_sayAbove d [.inr (.inr (6, 0)), .inl a0, .inl a1, .inl a2, .inl a3] (M, N) (some (.inl res.1)) (res.2, N)) {v1 : Int32} {v2 : Int32} {v3 : Int32} {v4 : Int32} {M N : Mem} {res : Int32 × Mem} (h : X6_sayAbove rc v1 v2 v3 v4 M = some res) : Spec mt_X6_sayAbove (d + 1) [.inr (.inr (6, 0)), .inl v1, .inl v2, .inl v3, .inl v4] (M, N) (some (.inl res.1)) (res.2, N) := by
  unfold X6_sayAbove at h
  refine Spec_of_G (by decide) rfl (Nat.le_of_ble_eq_true rfl) ?_
  refine G_sub [(0, .inr (.inr (6, 0))), (1, .inl v1), (2, .inl v2), (3, .inl v3), (4, .inl v4)] [0, 1, 2, 3, 4] rfl ?_
  refine G_aload_n dX6_sayAbove_0 rfl ?_
  refine G_iload_n dX6_sayAbove_1 rfl ?_
  refine G_callSNv  (X7_kindAbove_ok rfl) ok_X7_kindAbove (by first | exact List.mem_cons_self | exact List.mem_cons_of_mem _ List.mem_cons_self) (by omega) rfl rfl (Nat.le_of_ble_eq_true rfl) dX6_sayAbove_2 ?_
  refine G_iload_n dX6_sayAbove_5 rfl ?_
  refine G_iload_n dX6_sayAbove_6 rfl ?_
  refine G_iload dX6_sayAbove_7 rfl ?_
  obtain ⟨q1, hq1, h⟩ := bnd h
  refine G_callVv (T := TX6) (N := 5) (f := 6) (i := 0) (hr0 hq1) ok_X6_say ml_X6_32 (by omega) rfl (by decide) (by decide) (by decide) rfl rfl (Nat.le_of_ble_eq_true rfl) dX6_sayAbove_9 ?_
  obtain rfl := Option.some.inj h
  exact G_ret dX6_sayAbove_12 trivial rfl rfl

def X6_rec_say : Nat → Nat → Int32 → Int32 → Int32 → Int32 → Mem → Option (Int32 × Mem)
  | 0, _, _, _, _, _, _ => none
  | fu + 1, tg, a0, a1, a2, a3, M => (if tg = 0 then X6_say (X6_rec_say fu) a0 a1 a2 a3 M else (if tg = 1 then X6_sayBody (X6_rec_say fu) a0 a1 a2 M else (if tg = 2 then X6_sayAbove (X6_rec_say fu) a0 a1 a2 a3 M else none)))
theorem X6_rec_say_ok : ∀ (fu : Nat), (∀ {a0 a1 a2 a3 : Int32} {M N : Mem} {res : Int32 × Mem}, X6_rec_say fu 0 a0 a1 a2 a3 M = some res → Spec mt_X6_say (fu + 1) [.inr (.inr (6, 0)), .inl a0, .inl a1, .inl a2, .inl a3] (M, N) (some (.inl res.1)) (res.2, N)) ∧ (∀ {a0 a1 a2 a3 : Int32} {M N : Mem} {res : Int32 × Mem}, X6_rec_say fu 1 a0 a1 a2 a3 M = some res → Spec mt_X6_sayBody (fu + 1) [.inr (.inr (6, 0)), .inl a0, .inl a1, .inl a2] (M, N) (some (.inl res.1)) (res.2, N)) ∧ (∀ {a0 a1 a2 a3 : Int32} {M N : Mem} {res : Int32 × Mem}, X6_rec_say fu 2 a0 a1 a2 a3 M = some res → Spec mt_X6_sayAbove (fu + 1) [.inr (.inr (6, 0)), .inl a0, .inl a1, .inl a2, .inl a3] (M, N) (some (.inl res.1)) (res.2, N)) := by
  intro fu
  induction fu with
  | zero => exact ⟨fun h => (by cases h), fun h => (by cases h), fun h => (by cases h)⟩
  | succ fu ih =>
    obtain ⟨h0, h1, h2⟩ := ih
    refine ⟨?_, ?_, ?_⟩
    · intro a0 a1 a2 a3 M N res h
      have e := X6_say_ok (X6_rec_say fu) (d := fu + 1) (by omega) h0 h1 h2 (M := M) (N := N) (res := res) h
      rw [show fu + 1 + 1 = fu + 1 + 1 from by omega]
      exact e
    · intro a0 a1 a2 a3 M N res h
      have e := X6_sayBody_ok (X6_rec_say fu) (d := fu + 1) (by omega) h0 h1 h2 (M := M) (N := N) (res := res) h
      rw [show fu + 1 + 1 = fu + 1 + 1 from by omega]
      exact e
    · intro a0 a1 a2 a3 M N res h
      have e := X6_sayAbove_ok (X6_rec_say fu) (d := fu + 1) (by omega) h0 h1 h2 (M := M) (N := N) (res := res) h
      rw [show fu + 1 + 1 = fu + 1 + 1 from by omega]
      exact e
def X6_sayC (a0 : Int32) (a1 : Int32) (a2 : Int32) (a3 : Int32) (M : Mem) : Option (Int32 × Mem) := X6_rec_say 100 0 a0 a1 a2 a3  M
theorem X6_sayC_ok {a0 : Int32} {a1 : Int32} {a2 : Int32} {a3 : Int32} {M N : Mem} {res : Int32 × Mem} (h : X6_sayC a0 a1 a2 a3 M = some res) : Spec mt_X6_say 101 [.inr (.inr (6, 0)), .inl a0, .inl a1, .inl a2, .inl a3] (M, N) (some (.inl res.1)) (res.2, N) := (X6_rec_say_ok 100).1 h
def X6_sayBodyC (a0 : Int32) (a1 : Int32) (a2 : Int32) (M : Mem) : Option (Int32 × Mem) := X6_rec_say 100 1 a0 a1 a2 0 M
theorem X6_sayBodyC_ok {a0 : Int32} {a1 : Int32} {a2 : Int32} {M N : Mem} {res : Int32 × Mem} (h : X6_sayBodyC a0 a1 a2 M = some res) : Spec mt_X6_sayBody 101 [.inr (.inr (6, 0)), .inl a0, .inl a1, .inl a2] (M, N) (some (.inl res.1)) (res.2, N) := (X6_rec_say_ok 100).2.1 h
def X6_sayAboveC (a0 : Int32) (a1 : Int32) (a2 : Int32) (a3 : Int32) (M : Mem) : Option (Int32 × Mem) := X6_rec_say 100 2 a0 a1 a2 a3  M
theorem X6_sayAboveC_ok {a0 : Int32} {a1 : Int32} {a2 : Int32} {a3 : Int32} {M N : Mem} {res : Int32 × Mem} (h : X6_sayAboveC a0 a1 a2 a3 M = some res) : Spec mt_X6_sayAbove 101 [.inr (.inr (6, 0)), .inl a0, .inl a1, .inl a2, .inl a3] (M, N) (some (.inl res.1)) (res.2, N) := (X6_rec_say_ok 100).2.2 h

theorem dX6_speak_0 : decode cX6_speak 0 = .ok (.aload_n 0, 1) := by decide +kernel
theorem dX6_speak_1 : decode cX6_speak 1 = .ok (.iconst 0, 1) := by decide +kernel
theorem dX6_speak_2 : decode cX6_speak 2 = .ok (.putfield 15, 3) := by decide +kernel
theorem dX6_speak_5 : decode cX6_speak 5 = .ok (.aload_n 0, 1) := by decide +kernel
theorem dX6_speak_6 : decode cX6_speak 6 = .ok (.aload_n 1, 1) := by decide +kernel
theorem dX6_speak_7 : decode cX6_speak 7 = .ok (.getfield 19, 3) := by decide +kernel
theorem dX6_speak_10 : decode cX6_speak 10 = .ok (.putfield 24, 3) := by decide +kernel
theorem dX6_speak_13 : decode cX6_speak 13 = .ok (.aload_n 0, 1) := by decide +kernel
theorem dX6_speak_14 : decode cX6_speak 14 = .ok (.iload_n 2, 1) := by decide +kernel
theorem dX6_speak_15 : decode cX6_speak 15 = .ok (.putfield 25, 3) := by decide +kernel
theorem dX6_speak_18 : decode cX6_speak 18 = .ok (.aload_n 0, 1) := by decide +kernel
theorem dX6_speak_19 : decode cX6_speak 19 = .ok (.aload_n 1, 1) := by decide +kernel
theorem dX6_speak_20 : decode cX6_speak 20 = .ok (.getfield 28, 3) := by decide +kernel
theorem dX6_speak_23 : decode cX6_speak 23 = .ok (.putfield 31, 3) := by decide +kernel
theorem dX6_speak_26 : decode cX6_speak 26 = .ok (.aload_n 0, 1) := by decide +kernel
theorem dX6_speak_27 : decode cX6_speak 27 = .ok (.aload_n 0, 1) := by decide +kernel
theorem dX6_speak_28 : decode cX6_speak 28 = .ok (.getfield 24, 3) := by decide +kernel
theorem dX6_speak_31 : decode cX6_speak 31 = .ok (.iload_n 3, 1) := by decide +kernel
theorem dX6_speak_32 : decode cX6_speak 32 = .ok (.iload 4, 2) := by decide +kernel
theorem dX6_speak_34 : decode cX6_speak 34 = .ok (.iconst 0, 1) := by decide +kernel
theorem dX6_speak_35 : decode cX6_speak 35 = .ok (.invokevirtual 32, 3) := by decide +kernel
theorem dX6_speak_38 : decode cX6_speak 38 = .ok (.ireturn, 1) := by decide +kernel
def X6_speak (i1 : Nat) (v2 : Int32) (v3 : Int32) (v4 : Int32) (M : Mem) : Option (Int32 × Mem) := ((X6_sayC (M 3 i1 0) v3 v4 0 (up3 (up3 (up3 (up3 M 6 0 1 0) 6 0 2 (M 3 i1 0)) 6 0 3 v2) 6 0 4 (M 3 i1 1))).bind fun q1 => (some (q1.1, q1.2)))
set_option maxRecDepth 100000 in
set_option maxHeartbeats 4000000 in
theorem X6_speak_ok  {i1 : Nat} {v2 : Int32} {v3 : Int32} {v4 : Int32} {M N : Mem} {res : Int32 × Mem} (hi1 : i1 < 30) (h : X6_speak i1 v2 v3 v4 M = some res) : Spec mt_X6_speak 102 [.inr (.inr (6, 0)), .inr (.inr (3, i1)), .inl v2, .inl v3, .inl v4] (M, N) (some (.inl res.1)) (res.2, N) := by
  unfold X6_speak at h
  refine Spec_of_G (by decide) rfl (Nat.le_of_ble_eq_true rfl) ?_
  refine G_sub [(0, .inr (.inr (6, 0))), (1, .inr (.inr (3, i1))), (2, .inl v2), (3, .inl v3), (4, .inl v4)] [0, 1, 2, 3, 4] rfl ?_
  refine G_aload_n dX6_speak_0 rfl ?_
  refine G_iconst (v := 0) dX6_speak_1 (by decide) ?_
  refine fp_X6_15 rfl (by decide) dX6_speak_2 ?_
  refine G_aload_n dX6_speak_5 rfl ?_
  refine G_aload_n dX6_speak_6 rfl ?_
  refine fg_X6_19 (v := (M 3 i1 0)) (up3_f (by decide)) rfl hi1 dX6_speak_7 ?_
  refine fp_X6_24 rfl (by decide) dX6_speak_10 ?_
  refine G_aload_n dX6_speak_13 rfl ?_
  refine G_iload_n dX6_speak_14 rfl ?_
  refine fp_X6_25 rfl (by decide) dX6_speak_15 ?_
  refine G_aload_n dX6_speak_18 rfl ?_
  refine G_aload_n dX6_speak_19 rfl ?_
  refine fg_X6_28 (v := (M 3 i1 1)) ((up3_f (by decide)).trans ((up3_f (by decide)).trans (up3_f (by decide)))) rfl hi1 dX6_speak_20 ?_
  refine fp_X6_31 rfl (by decide) dX6_speak_23 ?_
  refine G_aload_n dX6_speak_26 rfl ?_
  refine G_aload_n dX6_speak_27 rfl ?_
  refine fg_X6_24 (v := (M 3 i1 0)) ((up3_k (by decide)).trans ((up3_k (by decide)).trans up3_eq)) rfl (by decide) dX6_speak_28 ?_
  refine G_iload_n dX6_speak_31 rfl ?_
  refine G_iload dX6_speak_32 rfl ?_
  refine G_iconst (v := 0) dX6_speak_34 (by decide) ?_
  obtain ⟨q1, hq1, h⟩ := bnd h
  refine G_callVv (T := TX6) (N := 5) (f := 6) (i := 0) (X6_sayC_ok hq1) ok_X6_say ml_X6_32 (by decide) rfl (by decide) (by decide) (by decide) rfl rfl (Nat.le_of_ble_eq_true rfl) dX6_speak_35 ?_
  obtain rfl := Option.some.inj h
  exact G_ret dX6_speak_38 trivial rfl rfl

theorem dX1_falsePots_0 : decode cX1_falsePots 0 = .ok (.iconst 0, 1) := by decide +kernel
theorem dX1_falsePots_1 : decode cX1_falsePots 1 = .ok (.istore_n 1, 1) := by decide +kernel
theorem dX1_falsePots_2 : decode cX1_falsePots 2 = .ok (.iconst 0, 1) := by decide +kernel
theorem dX1_falsePots_3 : decode cX1_falsePots 3 = .ok (.istore_n 2, 1) := by decide +kernel
theorem dX1_falsePots_4 : decode cX1_falsePots 4 = .ok (.iload_n 2, 1) := by decide +kernel
theorem dX1_falsePots_5 : decode cX1_falsePots 5 = .ok (.aload_n 0, 1) := by decide +kernel
theorem dX1_falsePots_6 : decode cX1_falsePots 6 = .ok (.getfield 47, 3) := by decide +kernel
theorem dX1_falsePots_9 : decode cX1_falsePots 9 = .ok (.if_icmp .ge 27, 3) := by decide +kernel
theorem dX1_falsePots_12 : decode cX1_falsePots 12 = .ok (.aload_n 0, 1) := by decide +kernel
theorem dX1_falsePots_13 : decode cX1_falsePots 13 = .ok (.getfield 20, 3) := by decide +kernel
theorem dX1_falsePots_16 : decode cX1_falsePots 16 = .ok (.iload_n 2, 1) := by decide +kernel
theorem dX1_falsePots_17 : decode cX1_falsePots 17 = .ok (.aaload, 1) := by decide +kernel
theorem dX1_falsePots_18 : decode cX1_falsePots 18 = .ok (.getfield 119, 3) := by decide +kernel
theorem dX1_falsePots_21 : decode cX1_falsePots 21 = .ok (.ifCond .eq 9, 3) := by decide +kernel
theorem dX1_falsePots_24 : decode cX1_falsePots 24 = .ok (.iload_n 1, 1) := by decide +kernel
theorem dX1_falsePots_25 : decode cX1_falsePots 25 = .ok (.iconst 1, 1) := by decide +kernel
theorem dX1_falsePots_26 : decode cX1_falsePots 26 = .ok (.iload_n 2, 1) := by decide +kernel
theorem dX1_falsePots_27 : decode cX1_falsePots 27 = .ok (.ishl, 1) := by decide +kernel
theorem dX1_falsePots_28 : decode cX1_falsePots 28 = .ok (.ior, 1) := by decide +kernel
theorem dX1_falsePots_29 : decode cX1_falsePots 29 = .ok (.istore_n 1, 1) := by decide +kernel
theorem dX1_falsePots_30 : decode cX1_falsePots 30 = .ok (.iinc 2 1, 3) := by decide +kernel
theorem dX1_falsePots_33 : decode cX1_falsePots 33 = .ok (.goto (-29), 3) := by decide +kernel
theorem dX1_falsePots_36 : decode cX1_falsePots 36 = .ok (.iload_n 1, 1) := by decide +kernel
theorem dX1_falsePots_37 : decode cX1_falsePots 37 = .ok (.ireturn, 1) := by decide +kernel
def X1_falsePots_L4 : Nat → Nat → Int32 → Int32 → Mem → Option (Int32)
  | 0, _, _, _, _ => none
  | fu + 1, i0, v1, v2, M => (if v2 < (M 1 i0 5) then (if ib v2 10 = true then (if (nbZ (M 3 (10 * i0 + v2.toNatClampNeg) 7)) = 0 then (X1_falsePots_L4 fu i0 v1 (v2 + 1) M) else (X1_falsePots_L4 fu i0 (v1 ||| (1 <<< (v2 &&& 31))) (v2 + 1) M)) else none) else (some v1))
set_option maxRecDepth 100000 in
set_option maxHeartbeats 4000000 in
theorem X1_falsePots_L4_ok  {r : Option AV} {M' : MM} : ∀ (fu : Nat) (i0 : Nat) (v1 : Int32) (v2 : Int32) (M N : Mem) {res : Int32} (hi0 : i0 < 3) (h : X1_falsePots_L4 fu i0 v1 v2 M = some res) (K : G mt_X1_falsePots 0 r M' 36 [(1, .inl res)] [] (M, N)), G mt_X1_falsePots 0 r M' 4 [(0, .inr (.inr (1, i0))), (1, .inl v1), (2, .inl v2)] [] (M, N) := by
  intro fu
  induction fu with
  | zero =>
    intro i0 v1 v2 M N res hi0 h
    cases h
  | succ fu ih =>
    intro i0 v1 v2 M N res hi0 h K
    replace h : (if v2 < (M 1 i0 5) then (if ib v2 10 = true then (if (nbZ (M 3 (10 * i0 + v2.toNatClampNeg) 7)) = 0 then (X1_falsePots_L4 fu i0 v1 (v2 + 1) M) else (X1_falsePots_L4 fu i0 (v1 ||| (1 <<< (v2 &&& 31))) (v2 + 1) M)) else none) else (some v1)) = some res := h
    refine G_iload_n dX1_falsePots_4 rfl ?_
    refine G_aload_n dX1_falsePots_5 rfl ?_
    refine fg_X1_47 (v := (M 1 i0 5)) rfl rfl hi0 dX1_falsePots_6 ?_
    refine G_icmp_ge (tgt := 36) dX1_falsePots_9 (by decide) (fun hc1 => ?_) (fun hc1 => ?_)
    · replace h := (if_neg hc1).symm.trans h
      refine G_sub [(1, .inl v1)] [1] rfl ?_
      obtain rfl := Option.some.inj h
      exact K
    · replace h := (if_pos hc1).symm.trans h
      refine G_aload_n dX1_falsePots_12 rfl ?_
      refine fg_X1_20 rfl hi0 dX1_falsePots_13 ?_
      refine G_iload_n dX1_falsePots_16 rfl ?_
      obtain ⟨hb1, h⟩ := chk h
      have lhb1 := ib_lt hb1
      refine G_aald3 (by decide) (show i0 < 3 from hi0) (by decide) rfl hb1 dX1_falsePots_17 ?_
      refine fg_X1_119 (v := (nbZ (M 3 (10 * i0 + v2.toNatClampNeg) 7))) rfl rfl (by omega) dX1_falsePots_18 ?_
      refine G_if_eq (tgt := 30) dX1_falsePots_21 (by decide) (fun hc2 => ?_) (fun hc2 => ?_)
      · replace h := (if_pos hc2).symm.trans h
        refine G_iinc (v := (v2 + 1)) (L2 := [(2, .inl (v2 + 1)), (0, .inr (.inr (1, i0))), (1, .inl v1)]) dX1_falsePots_30 rfl (by first | rfl | (show _ + Int32.ofInt _ = _; rfl)) (by decide) rfl ?_
        refine G_goto (tgt := 4) dX1_falsePots_33 (by decide) ?_
        refine G_sub [(0, .inr (.inr (1, i0))), (1, .inl v1), (2, .inl (v2 + 1))] [1, 2, 0] rfl ?_
        exact ih i0 v1 (v2 + 1) M _ hi0 h K
      · replace h := (if_neg hc2).symm.trans h
        refine G_iload_n dX1_falsePots_24 rfl ?_
        refine G_iconst (v := 1) dX1_falsePots_25 (by decide) ?_
        refine G_iload_n dX1_falsePots_26 rfl ?_
        refine G_ishl dX1_falsePots_27 ?_
        refine G_ior dX1_falsePots_28 ?_
        refine G_istore_n (L2 := [(1, .inl (v1 ||| (1 <<< (v2 &&& 31)))), (0, .inr (.inr (1, i0))), (2, .inl v2)]) dX1_falsePots_29 (by decide) rfl ?_
        refine G_iinc (v := (v2 + 1)) (L2 := [(2, .inl (v2 + 1)), (1, .inl (v1 ||| (1 <<< (v2 &&& 31)))), (0, .inr (.inr (1, i0)))]) dX1_falsePots_30 rfl (by first | rfl | (show _ + Int32.ofInt _ = _; rfl)) (by decide) rfl ?_
        refine G_goto (tgt := 4) dX1_falsePots_33 (by decide) ?_
        refine G_sub [(0, .inr (.inr (1, i0))), (1, .inl (v1 ||| (1 <<< (v2 &&& 31)))), (2, .inl (v2 + 1))] [2, 1, 0] rfl ?_
        exact ih i0 (v1 ||| (1 <<< (v2 &&& 31))) (v2 + 1) M _ hi0 h K

def X1_falsePots (i0 : Nat) (M : Mem) : Option (Int32) := ((X1_falsePots_L4 400 i0 0 0 M).bind fun q2 => (some q2))
set_option maxRecDepth 100000 in
set_option maxHeartbeats 4000000 in
theorem X1_falsePots_ok  {i0 : Nat} {M N : Mem} {res : Int32} (hi0 : i0 < 3) (h : X1_falsePots i0 M = some res) : Spec mt_X1_falsePots 0 [.inr (.inr (1, i0))] (M, N) (some (.inl res)) (M, N) := by
  unfold X1_falsePots at h
  refine Spec_of_G (by decide) rfl (Nat.le_of_ble_eq_true rfl) ?_
  refine G_sub [(0, .inr (.inr (1, i0)))] [0] rfl ?_
  refine G_iconst (v := 0) dX1_falsePots_0 (by decide) ?_
  refine G_istore_n (L2 := [(1, .inl 0), (0, .inr (.inr (1, i0)))]) dX1_falsePots_1 (by decide) rfl ?_
  refine G_iconst (v := 0) dX1_falsePots_2 (by decide) ?_
  refine G_istore_n (L2 := [(2, .inl 0), (1, .inl 0), (0, .inr (.inr (1, i0)))]) dX1_falsePots_3 (by decide) rfl ?_
  refine G_sub [(0, .inr (.inr (1, i0))), (1, .inl 0), (2, .inl 0)] [2, 1, 0] rfl ?_
  obtain ⟨q2, hq2, h⟩ := bnd h
  refine X1_falsePots_L4_ok  400 i0 0 0 M _ hi0 hq2 ?_
  refine G_iload_n dX1_falsePots_36 rfl ?_
  obtain rfl := Option.some.inj h
  exact G_ret dX1_falsePots_37 trivial rfl rfl

