theorem dJ7_fill_53178_0 : decode cJ7_fill_53178 0 = .ok (.iconst 0, 1) := by decide +kernel
theorem dJ7_fill_53178_1 : decode cJ7_fill_53178 1 = .ok (.istore_n 2, 1) := by decide +kernel
theorem dJ7_fill_53178_2 : decode cJ7_fill_53178 2 = .ok (.aload_n 0, 1) := by decide +kernel
theorem dJ7_fill_53178_3 : decode cJ7_fill_53178 3 = .ok (.arraylength, 1) := by decide +kernel
theorem dJ7_fill_53178_4 : decode cJ7_fill_53178 4 = .ok (.istore_n 3, 1) := by decide +kernel
theorem dJ7_fill_53178_5 : decode cJ7_fill_53178 5 = .ok (.iload_n 2, 1) := by decide +kernel
theorem dJ7_fill_53178_6 : decode cJ7_fill_53178 6 = .ok (.iload_n 3, 1) := by decide +kernel
theorem dJ7_fill_53178_7 : decode cJ7_fill_53178 7 = .ok (.if_icmp .ge 13, 3) := by decide +kernel
theorem dJ7_fill_53178_10 : decode cJ7_fill_53178 10 = .ok (.aload_n 0, 1) := by decide +kernel
theorem dJ7_fill_53178_11 : decode cJ7_fill_53178 11 = .ok (.iload_n 2, 1) := by decide +kernel
theorem dJ7_fill_53178_12 : decode cJ7_fill_53178 12 = .ok (.iload_n 1, 1) := by decide +kernel
theorem dJ7_fill_53178_13 : decode cJ7_fill_53178 13 = .ok (.iastore, 1) := by decide +kernel
theorem dJ7_fill_53178_14 : decode cJ7_fill_53178 14 = .ok (.iinc 2 1, 3) := by decide +kernel
theorem dJ7_fill_53178_17 : decode cJ7_fill_53178 17 = .ok (.goto (-12), 3) := by decide +kernel
theorem dJ7_fill_53178_20 : decode cJ7_fill_53178 20 = .ok (.return_, 1) := by decide +kernel
def J7_fill_53178_L5 : Nat → Nat → Int32 → Int32 → Int32 → Mem → Option (Mem)
  | 0, _, _, _, _, _ => none
  | fu + 1, i0, v1, v2, v3, M => (if v2 < v3 then (if ib v2 40 = true then (J7_fill_53178_L5 fu i0 v1 (v2 + 1) v3 (up3 M 15 i0 v2.toNatClampNeg v1)) else none) else (some M))
set_option maxRecDepth 100000 in
set_option maxHeartbeats 4000000 in
theorem J7_fill_53178_L5_ok  {r : Option AV} {M' : MM} : ∀ (fu : Nat) (i0 : Nat) (v1 : Int32) (v2 : Int32) (v3 : Int32) (M N : Mem) {res : Mem} (hi0 : i0 < 4) (h : J7_fill_53178_L5 fu i0 v1 v2 v3 M = some res) (K : G mt_J7_fill_53178 0 r M' 20 [] [] (res, N)), G mt_J7_fill_53178 0 r M' 5 [(0, .inr (.inr (15, i0))), (1, .inl v1), (2, .inl v2), (3, .inl v3)] [] (M, N) := by
  intro fu
  induction fu with
  | zero =>
    intro i0 v1 v2 v3 M N res hi0 h
    cases h
  | succ fu ih =>
    intro i0 v1 v2 v3 M N res hi0 h K
    replace h : (if v2 < v3 then (if ib v2 40 = true then (J7_fill_53178_L5 fu i0 v1 (v2 + 1) v3 (up3 M 15 i0 v2.toNatClampNeg v1)) else none) else (some M)) = some res := h
    refine G_iload_n dJ7_fill_53178_5 rfl ?_
    refine G_iload_n dJ7_fill_53178_6 rfl ?_
    refine G_icmp_ge (tgt := 20) dJ7_fill_53178_7 (by decide) (fun hc1 => ?_) (fun hc1 => ?_)
    · replace h := (if_neg hc1).symm.trans h
      refine G_sub [] [] rfl ?_
      obtain rfl := Option.some.inj h
      exact K
    · replace h := (if_pos hc1).symm.trans h
      refine G_aload_n dJ7_fill_53178_10 rfl ?_
      refine G_iload_n dJ7_fill_53178_11 rfl ?_
      refine G_iload_n dJ7_fill_53178_12 rfl ?_
      obtain ⟨hb1, h⟩ := chk h
      have lhb1 := ib_lt hb1
      refine as_15 (kk := v2.toNatClampNeg) hi0 hb1 rfl dJ7_fill_53178_13 ?_
      refine G_iinc (v := (v2 + 1)) (L2 := [(2, .inl (v2 + 1)), (0, .inr (.inr (15, i0))), (1, .inl v1), (3, .inl v3)]) dJ7_fill_53178_14 rfl (by first | rfl | (show _ + Int32.ofInt _ = _; rfl)) (by decide) rfl ?_
      refine G_goto (tgt := 5) dJ7_fill_53178_17 (by decide) ?_
      refine G_sub [(0, .inr (.inr (15, i0))), (1, .inl v1), (2, .inl (v2 + 1)), (3, .inl v3)] [1, 2, 0, 3] rfl ?_
      exact ih i0 v1 (v2 + 1) v3 (up3 M 15 i0 v2.toNatClampNeg v1) _ hi0 h K

def J7_fill_53178 (i0 : Nat) (v1 : Int32) (M : Mem) : Option (Mem) := ((J7_fill_53178_L5 400 i0 v1 0 40 M).bind fun q2 => (some q2))
set_option maxRecDepth 100000 in
set_option maxHeartbeats 4000000 in
theorem J7_fill_53178_ok  {i0 : Nat} {v1 : Int32} {M N : Mem} {res : Mem} (hi0 : i0 < 4) (h : J7_fill_53178 i0 v1 M = some res) : Spec mt_J7_fill_53178 0 [.inr (.inr (15, i0)), .inl v1] (M, N) none (res, N) := by
  unfold J7_fill_53178 at h
  refine Spec_of_G (by decide) rfl (Nat.le_of_ble_eq_true rfl) ?_
  refine G_sub [(0, .inr (.inr (15, i0))), (1, .inl v1)] [0, 1] rfl ?_
  refine G_iconst (v := 0) dJ7_fill_53178_0 (by decide) ?_
  refine G_istore_n (L2 := [(2, .inl 0), (0, .inr (.inr (15, i0))), (1, .inl v1)]) dJ7_fill_53178_1 (by decide) rfl ?_
  refine G_aload_n dJ7_fill_53178_2 rfl ?_
  refine G_alen (v := 40) (by decide) (show i0 < 4 from hi0) (by decide) rfl (by decide) dJ7_fill_53178_3 ?_
  refine G_istore_n (L2 := [(3, .inl 40), (2, .inl 0), (0, .inr (.inr (15, i0))), (1, .inl v1)]) dJ7_fill_53178_4 (by decide) rfl ?_
  refine G_sub [(0, .inr (.inr (15, i0))), (1, .inl v1), (2, .inl 0), (3, .inl 40)] [2, 3, 1, 0] rfl ?_
  obtain ⟨q2, hq2, h⟩ := bnd h
  refine J7_fill_53178_L5_ok  400 i0 v1 0 40 M _ hi0 hq2 ?_
  obtain rfl := Option.some.inj h
  exact G_ret dJ7_fill_53178_20 trivial rfl rfl

theorem dX7_isHouse_0 : decode cX7_isHouse 0 = .ok (.iload_n 0, 1) := by decide +kernel
theorem dX7_isHouse_1 : decode cX7_isHouse 1 = .ok (.ifCond .lt 12, 3) := by decide +kernel
theorem dX7_isHouse_4 : decode cX7_isHouse 4 = .ok (.iload_n 0, 1) := by decide +kernel
theorem dX7_isHouse_5 : decode cX7_isHouse 5 = .ok (.iconst 5, 1) := by decide +kernel
theorem dX7_isHouse_6 : decode cX7_isHouse 6 = .ok (.if_icmp .ge 7, 3) := by decide +kernel
theorem dX7_isHouse_9 : decode cX7_isHouse 9 = .ok (.iconst 1, 1) := by decide +kernel
theorem dX7_isHouse_10 : decode cX7_isHouse 10 = .ok (.goto 4, 3) := by decide +kernel
theorem dX7_isHouse_13 : decode cX7_isHouse 13 = .ok (.iconst 0, 1) := by decide +kernel
theorem dX7_isHouse_14 : decode cX7_isHouse 14 = .ok (.ireturn, 1) := by decide +kernel
def X7_isHouse (v0 : Int32) : Int32 := (if v0 < 0 then 0 else (if v0 < 5 then 1 else 0))
set_option maxRecDepth 100000 in
set_option maxHeartbeats 4000000 in
theorem X7_isHouse_ok  {v0 : Int32} {MM0 : MM} {res : Int32} (h : X7_isHouse v0 = res) : Spec mt_X7_isHouse 0 [.inl v0] MM0 (some (.inl res)) MM0 := by
  unfold X7_isHouse at h
  refine Spec_of_G (by decide) rfl (Nat.le_of_ble_eq_true rfl) ?_
  refine G_sub [(0, .inl v0)] [0] rfl ?_
  refine G_iload_n dX7_isHouse_0 rfl ?_
  refine G_if_lt (tgt := 13) dX7_isHouse_1 (by decide) (fun hc1 => ?_) (fun hc1 => ?_)
  · replace h := (if_pos hc1).symm.trans h
    refine G_iconst (v := 0) dX7_isHouse_13 (by decide) ?_
    subst h
    exact G_ret dX7_isHouse_14 (Or.inl rfl) rfl rfl
  · replace h := (if_neg hc1).symm.trans h
    refine G_iload_n dX7_isHouse_4 rfl ?_
    refine G_iconst (v := 5) dX7_isHouse_5 (by decide) ?_
    refine G_icmp_ge (tgt := 13) dX7_isHouse_6 (by decide) (fun hc2 => ?_) (fun hc2 => ?_)
    · replace h := (if_neg hc2).symm.trans h
      refine G_iconst (v := 0) dX7_isHouse_13 (by decide) ?_
      subst h
      exact G_ret dX7_isHouse_14 (Or.inl rfl) rfl rfl
    · replace h := (if_pos hc2).symm.trans h
      refine G_iconst (v := 1) dX7_isHouse_9 (by decide) ?_
      refine G_goto (tgt := 14) dX7_isHouse_10 (by decide) ?_
      subst h
      exact G_ret dX7_isHouse_14 (Or.inr rfl) rfl rfl
theorem X7_isHouse_z {v0 : Int32} : X7_isHouse v0 = 0 ∨ X7_isHouse v0 = 1 := by
  unfold X7_isHouse
  (repeat' split) <;> first | exact Or.inl rfl | exact Or.inr rfl | exact X8_in_z

theorem dX7_isWithin_0 : decode cX7_isWithin 0 = .ok (.iload_n 0, 1) := by decide +kernel
theorem dX7_isWithin_1 : decode cX7_isWithin 1 = .ok (.ifCond .lt 12, 3) := by decide +kernel
theorem dX7_isWithin_4 : decode cX7_isWithin 4 = .ok (.iload_n 0, 1) := by decide +kernel
theorem dX7_isWithin_5 : decode cX7_isWithin 5 = .ok (.iload_n 1, 1) := by decide +kernel
theorem dX7_isWithin_6 : decode cX7_isWithin 6 = .ok (.if_icmp .gt 7, 3) := by decide +kernel
theorem dX7_isWithin_9 : decode cX7_isWithin 9 = .ok (.iconst 1, 1) := by decide +kernel
theorem dX7_isWithin_10 : decode cX7_isWithin 10 = .ok (.goto 4, 3) := by decide +kernel
theorem dX7_isWithin_13 : decode cX7_isWithin 13 = .ok (.iconst 0, 1) := by decide +kernel
theorem dX7_isWithin_14 : decode cX7_isWithin 14 = .ok (.ireturn, 1) := by decide +kernel
def X7_isWithin (v0 : Int32) (v1 : Int32) : Int32 := (if v0 < 0 then 0 else (if v1 < v0 then 0 else 1))
set_option maxRecDepth 100000 in
set_option maxHeartbeats 4000000 in
theorem X7_isWithin_ok  {v0 : Int32} {v1 : Int32} {MM0 : MM} {res : Int32} (h : X7_isWithin v0 v1 = res) : Spec mt_X7_isWithin 0 [.inl v0, .inl v1] MM0 (some (.inl res)) MM0 := by
  unfold X7_isWithin at h
  refine Spec_of_G (by decide) rfl (Nat.le_of_ble_eq_true rfl) ?_
  refine G_sub [(0, .inl v0), (1, .inl v1)] [0, 1] rfl ?_
  refine G_iload_n dX7_isWithin_0 rfl ?_
  refine G_if_lt (tgt := 13) dX7_isWithin_1 (by decide) (fun hc1 => ?_) (fun hc1 => ?_)
  · replace h := (if_pos hc1).symm.trans h
    refine G_iconst (v := 0) dX7_isWithin_13 (by decide) ?_
    subst h
    exact G_ret dX7_isWithin_14 (Or.inl rfl) rfl rfl
  · replace h := (if_neg hc1).symm.trans h
    refine G_iload_n dX7_isWithin_4 rfl ?_
    refine G_iload_n dX7_isWithin_5 rfl ?_
    refine G_icmp_gt (tgt := 13) dX7_isWithin_6 (by decide) (fun hc2 => ?_) (fun hc2 => ?_)
    · replace h := (if_pos hc2).symm.trans h
      refine G_iconst (v := 0) dX7_isWithin_13 (by decide) ?_
      subst h
      exact G_ret dX7_isWithin_14 (Or.inl rfl) rfl rfl
    · replace h := (if_neg hc2).symm.trans h
      refine G_iconst (v := 1) dX7_isWithin_9 (by decide) ?_
      refine G_goto (tgt := 14) dX7_isWithin_10 (by decide) ?_
      subst h
      exact G_ret dX7_isWithin_14 (Or.inr rfl) rfl rfl
theorem X7_isWithin_z {v0 : Int32} {v1 : Int32} : X7_isWithin v0 v1 = 0 ∨ X7_isWithin v0 v1 = 1 := by
  unfold X7_isWithin
  (repeat' split) <;> first | exact Or.inl rfl | exact Or.inr rfl | exact X8_in_z

theorem dX7_isKindWithNumber_0 : decode cX7_isKindWithNumber 0 = .ok (.iload_n 0, 1) := by decide +kernel
theorem dX7_isKindWithNumber_1 : decode cX7_isKindWithNumber 1 = .ok (.ifCond .lt 16, 3) := by decide +kernel
theorem dX7_isKindWithNumber_4 : decode cX7_isKindWithNumber 4 = .ok (.iload_n 0, 1) := by decide +kernel
theorem dX7_isKindWithNumber_5 : decode cX7_isKindWithNumber 5 = .ok (.bipush 10, 2) := by decide +kernel
theorem dX7_isKindWithNumber_7 : decode cX7_isKindWithNumber 7 = .ok (.idiv, 1) := by decide +kernel
theorem dX7_isKindWithNumber_8 : decode cX7_isKindWithNumber 8 = .ok (.bipush 6, 2) := by decide +kernel
theorem dX7_isKindWithNumber_10 : decode cX7_isKindWithNumber 10 = .ok (.if_icmp .gt 7, 3) := by decide +kernel
theorem dX7_isKindWithNumber_13 : decode cX7_isKindWithNumber 13 = .ok (.iconst 1, 1) := by decide +kernel
theorem dX7_isKindWithNumber_14 : decode cX7_isKindWithNumber 14 = .ok (.goto 4, 3) := by decide +kernel
theorem dX7_isKindWithNumber_17 : decode cX7_isKindWithNumber 17 = .ok (.iconst 0, 1) := by decide +kernel
theorem dX7_isKindWithNumber_18 : decode cX7_isKindWithNumber 18 = .ok (.ireturn, 1) := by decide +kernel
def X7_isKindWithNumber (v0 : Int32) : Int32 := (if v0 < 0 then 0 else (if 6 < (v0 / 10) then 0 else 1))
set_option maxRecDepth 100000 in
set_option maxHeartbeats 4000000 in
theorem X7_isKindWithNumber_ok  {v0 : Int32} {MM0 : MM} {res : Int32} (h : X7_isKindWithNumber v0 = res) : Spec mt_X7_isKindWithNumber 0 [.inl v0] MM0 (some (.inl res)) MM0 := by
  unfold X7_isKindWithNumber at h
  refine Spec_of_G (by decide) rfl (Nat.le_of_ble_eq_true rfl) ?_
  refine G_sub [(0, .inl v0)] [0] rfl ?_
  refine G_iload_n dX7_isKindWithNumber_0 rfl ?_
  refine G_if_lt (tgt := 17) dX7_isKindWithNumber_1 (by decide) (fun hc1 => ?_) (fun hc1 => ?_)
  · replace h := (if_pos hc1).symm.trans h
    refine G_iconst (v := 0) dX7_isKindWithNumber_17 (by decide) ?_
    subst h
    exact G_ret dX7_isKindWithNumber_18 (Or.inl rfl) rfl rfl
  · replace h := (if_neg hc1).symm.trans h
    refine G_iload_n dX7_isKindWithNumber_4 rfl ?_
    refine G_bipush (v := 10) dX7_isKindWithNumber_5 (by decide) ?_
    refine G_idiv (by decide) dX7_isKindWithNumber_7 ?_
    refine G_bipush (v := 6) dX7_isKindWithNumber_8 (by decide) ?_
    refine G_icmp_gt (tgt := 17) dX7_isKindWithNumber_10 (by decide) (fun hc2 => ?_) (fun hc2 => ?_)
    · replace h := (if_pos hc2).symm.trans h
      refine G_iconst (v := 0) dX7_isKindWithNumber_17 (by decide) ?_
      subst h
      exact G_ret dX7_isKindWithNumber_18 (Or.inl rfl) rfl rfl
    · replace h := (if_neg hc2).symm.trans h
      refine G_iconst (v := 1) dX7_isKindWithNumber_13 (by decide) ?_
      refine G_goto (tgt := 18) dX7_isKindWithNumber_14 (by decide) ?_
      subst h
      exact G_ret dX7_isKindWithNumber_18 (Or.inr rfl) rfl rfl
theorem X7_isKindWithNumber_z {v0 : Int32} : X7_isKindWithNumber v0 = 0 ∨ X7_isKindWithNumber v0 = 1 := by
  unfold X7_isKindWithNumber
  (repeat' split) <;> first | exact Or.inl rfl | exact Or.inr rfl | exact X8_in_z

theorem dX3_begin_0 : decode cX3_begin 0 = .ok (.aload_n 0, 1) := by decide +kernel
theorem dX3_begin_1 : decode cX3_begin 1 = .ok (.iload_n 1, 1) := by decide +kernel
theorem dX3_begin_2 : decode cX3_begin 2 = .ok (.bipush 10, 2) := by decide +kernel
theorem dX3_begin_4 : decode cX3_begin 4 = .ok (.idiv, 1) := by decide +kernel
theorem dX3_begin_5 : decode cX3_begin 5 = .ok (.putfield 9, 3) := by decide +kernel
theorem dX3_begin_8 : decode cX3_begin 8 = .ok (.aload_n 0, 1) := by decide +kernel
theorem dX3_begin_9 : decode cX3_begin 9 = .ok (.iload_n 1, 1) := by decide +kernel
theorem dX3_begin_10 : decode cX3_begin 10 = .ok (.bipush 10, 2) := by decide +kernel
theorem dX3_begin_12 : decode cX3_begin 12 = .ok (.irem, 1) := by decide +kernel
theorem dX3_begin_13 : decode cX3_begin 13 = .ok (.putfield 15, 3) := by decide +kernel
theorem dX3_begin_16 : decode cX3_begin 16 = .ok (.aload_n 0, 1) := by decide +kernel
theorem dX3_begin_17 : decode cX3_begin 17 = .ok (.iload_n 2, 1) := by decide +kernel
theorem dX3_begin_18 : decode cX3_begin 18 = .ok (.putfield 18, 3) := by decide +kernel
theorem dX3_begin_21 : decode cX3_begin 21 = .ok (.aload_n 0, 1) := by decide +kernel
theorem dX3_begin_22 : decode cX3_begin 22 = .ok (.iload_n 3, 1) := by decide +kernel
theorem dX3_begin_23 : decode cX3_begin 23 = .ok (.putfield 21, 3) := by decide +kernel
theorem dX3_begin_26 : decode cX3_begin 26 = .ok (.aload_n 0, 1) := by decide +kernel
theorem dX3_begin_27 : decode cX3_begin 27 = .ok (.iconst 0, 1) := by decide +kernel
theorem dX3_begin_28 : decode cX3_begin 28 = .ok (.putfield 24, 3) := by decide +kernel
theorem dX3_begin_31 : decode cX3_begin 31 = .ok (.aload_n 0, 1) := by decide +kernel
theorem dX3_begin_32 : decode cX3_begin 32 = .ok (.iconst 0, 1) := by decide +kernel
theorem dX3_begin_33 : decode cX3_begin 33 = .ok (.putfield 27, 3) := by decide +kernel
theorem dX3_begin_36 : decode cX3_begin 36 = .ok (.aload_n 0, 1) := by decide +kernel
theorem dX3_begin_37 : decode cX3_begin 37 = .ok (.iconst 0, 1) := by decide +kernel
theorem dX3_begin_38 : decode cX3_begin 38 = .ok (.putfield 30, 3) := by decide +kernel
theorem dX3_begin_41 : decode cX3_begin 41 = .ok (.aload_n 0, 1) := by decide +kernel
theorem dX3_begin_42 : decode cX3_begin 42 = .ok (.iconst 0, 1) := by decide +kernel
theorem dX3_begin_43 : decode cX3_begin 43 = .ok (.putfield 33, 3) := by decide +kernel
theorem dX3_begin_46 : decode cX3_begin 46 = .ok (.return_, 1) := by decide +kernel
def X3_begin (i0 : Nat) (v1 : Int32) (v2 : Int32) (v3 : Int32) (M : Mem) : Option (Mem) := (some (up3 (up3 (up3 (up3 (up3 (up3 (up3 (up3 M 3 i0 0 (v1 / 10)) 3 i0 1 (jrem v1 10)) 3 i0 2 v2) 3 i0 3 v3) 3 i0 4 0) 3 i0 5 0) 3 i0 6 0) 3 i0 7 0))
set_option maxRecDepth 100000 in
set_option maxHeartbeats 4000000 in
theorem X3_begin_ok  {i0 : Nat} {v1 : Int32} {v2 : Int32} {v3 : Int32} {M N : Mem} {res : Mem} (hi0 : i0 < 30) (h : X3_begin i0 v1 v2 v3 M = some res) : Spec mt_X3_begin 0 [.inr (.inr (3, i0)), .inl v1, .inl v2, .inl v3] (M, N) none (res, N) := by
  unfold X3_begin at h
  refine Spec_of_G (by decide) rfl (Nat.le_of_ble_eq_true rfl) ?_
  refine G_sub [(0, .inr (.inr (3, i0))), (1, .inl v1), (2, .inl v2), (3, .inl v3)] [0, 1, 2, 3] rfl ?_
  refine G_aload_n dX3_begin_0 rfl ?_
  refine G_iload_n dX3_begin_1 rfl ?_
  refine G_bipush (v := 10) dX3_begin_2 (by decide) ?_
  refine G_idiv (by decide) dX3_begin_4 ?_
  refine fp_X3_9 rfl hi0 dX3_begin_5 ?_
  refine G_aload_n dX3_begin_8 rfl ?_
  refine G_iload_n dX3_begin_9 rfl ?_
  refine G_bipush (v := 10) dX3_begin_10 (by decide) ?_
  refine G_irem (by decide) dX3_begin_12 ?_
  refine fp_X3_15 rfl hi0 dX3_begin_13 ?_
  refine G_aload_n dX3_begin_16 rfl ?_
  refine G_iload_n dX3_begin_17 rfl ?_
  refine fp_X3_18 rfl hi0 dX3_begin_18 ?_
  refine G_aload_n dX3_begin_21 rfl ?_
  refine G_iload_n dX3_begin_22 rfl ?_
  refine fp_X3_21 rfl hi0 dX3_begin_23 ?_
  refine G_aload_n dX3_begin_26 rfl ?_
  refine G_iconst (v := 0) dX3_begin_27 (by decide) ?_
  refine fp_X3_24 rfl hi0 dX3_begin_28 ?_
  refine G_aload_n dX3_begin_31 rfl ?_
  refine G_iconst (v := 0) dX3_begin_32 (by decide) ?_
  refine fp_X3_27 rfl hi0 dX3_begin_33 ?_
  refine G_aload_n dX3_begin_36 rfl ?_
  refine G_iconst (v := 0) dX3_begin_37 (by decide) ?_
  refine fp_X3_30 rfl hi0 dX3_begin_38 ?_
  refine G_aload_n dX3_begin_41 rfl ?_
  refine G_iconst (v := 0) dX3_begin_42 (by decide) ?_
  refine fp_X3_33 (by decide) rfl hi0 dX3_begin_43 ?_
  obtain rfl := Option.some.inj h
  exact G_ret dX3_begin_46 trivial rfl rfl

theorem dX3_wants_0 : decode cX3_wants 0 = .ok (.aload_n 0, 1) := by decide +kernel
theorem dX3_wants_1 : decode cX3_wants 1 = .ok (.getfield 9, 3) := by decide +kernel
theorem dX3_wants_4 : decode cX3_wants 4 = .ok (.tableswitch 84 1 6 #[40, 43, 51, 40, 54, 81], 40) := by decide +kernel
theorem dX3_wants_44 : decode cX3_wants 44 = .ok (.bipush 100, 2) := by decide +kernel
theorem dX3_wants_46 : decode cX3_wants 46 = .ok (.ireturn, 1) := by decide +kernel
theorem dX3_wants_47 : decode cX3_wants 47 = .ok (.bipush 50, 2) := by decide +kernel
theorem dX3_wants_49 : decode cX3_wants 49 = .ok (.aload_n 0, 1) := by decide +kernel
theorem dX3_wants_50 : decode cX3_wants 50 = .ok (.getfield 15, 3) := by decide +kernel
theorem dX3_wants_53 : decode cX3_wants 53 = .ok (.isub, 1) := by decide +kernel
theorem dX3_wants_54 : decode cX3_wants 54 = .ok (.ireturn, 1) := by decide +kernel
theorem dX3_wants_55 : decode cX3_wants 55 = .ok (.bipush 20, 2) := by decide +kernel
theorem dX3_wants_57 : decode cX3_wants 57 = .ok (.ireturn, 1) := by decide +kernel
theorem dX3_wants_58 : decode cX3_wants 58 = .ok (.aload_n 0, 1) := by decide +kernel
theorem dX3_wants_59 : decode cX3_wants 59 = .ok (.getfield 30, 3) := by decide +kernel
theorem dX3_wants_62 : decode cX3_wants 62 = .ok (.ifCond .le 15, 3) := by decide +kernel
theorem dX3_wants_65 : decode cX3_wants 65 = .ok (.iconst 2, 1) := by decide +kernel
theorem dX3_wants_66 : decode cX3_wants 66 = .ok (.bipush 50, 2) := by decide +kernel
theorem dX3_wants_68 : decode cX3_wants 68 = .ok (.aload_n 0, 1) := by decide +kernel
theorem dX3_wants_69 : decode cX3_wants 69 = .ok (.getfield 15, 3) := by decide +kernel
theorem dX3_wants_72 : decode cX3_wants 72 = .ok (.isub, 1) := by decide +kernel
theorem dX3_wants_73 : decode cX3_wants 73 = .ok (.imul, 1) := by decide +kernel
theorem dX3_wants_74 : decode cX3_wants 74 = .ok (.goto 10, 3) := by decide +kernel
theorem dX3_wants_77 : decode cX3_wants 77 = .ok (.bipush 50, 2) := by decide +kernel
theorem dX3_wants_79 : decode cX3_wants 79 = .ok (.aload_n 0, 1) := by decide +kernel
theorem dX3_wants_80 : decode cX3_wants 80 = .ok (.getfield 15, 3) := by decide +kernel
theorem dX3_wants_83 : decode cX3_wants 83 = .ok (.isub, 1) := by decide +kernel
theorem dX3_wants_84 : decode cX3_wants 84 = .ok (.ireturn, 1) := by decide +kernel
theorem dX3_wants_85 : decode cX3_wants 85 = .ok (.bipush 30, 2) := by decide +kernel
theorem dX3_wants_87 : decode cX3_wants 87 = .ok (.ireturn, 1) := by decide +kernel
theorem dX3_wants_88 : decode cX3_wants 88 = .ok (.bipush 50, 2) := by decide +kernel
theorem dX3_wants_90 : decode cX3_wants 90 = .ok (.ireturn, 1) := by decide +kernel
def X3_wants (i0 : Nat) (M : Mem) : Int32 := (if (M 3 i0 0) = 1 then 100 else (if (M 3 i0 0) = 2 then (50 - (M 3 i0 1)) else (if (M 3 i0 0) = 3 then 20 else (if (M 3 i0 0) = 4 then 100 else (if (M 3 i0 0) = 5 then (if 0 < (M 3 i0 6) then (2 * (50 - (M 3 i0 1))) else (50 - (M 3 i0 1))) else (if (M 3 i0 0) = 6 then 30 else 50))))))
set_option maxRecDepth 100000 in
set_option maxHeartbeats 4000000 in
theorem X3_wants_ok  {i0 : Nat} {M N : Mem} {res : Int32} (hi0 : i0 < 30) (h : X3_wants i0 M = res) : Spec mt_X3_wants 0 [.inr (.inr (3, i0))] (M, N) (some (.inl res)) (M, N) := by
  unfold X3_wants at h
  refine Spec_of_G (by decide) rfl (Nat.le_of_ble_eq_true rfl) ?_
  refine G_sub [(0, .inr (.inr (3, i0)))] [0] rfl ?_
  refine G_aload_n dX3_wants_0 rfl ?_
  refine fg_X3_9 (v := (M 3 i0 0)) rfl rfl hi0 dX3_wants_1 ?_
  by_cases hc1 : (M 3 i0 0) = 1
  · replace h := (if_pos hc1).symm.trans h
    refine G_tableEq (off := 40) (tgt := 44) hc1 dX3_wants_4 (by decide) (by decide) (by decide) (by decide) ?_
    refine G_bipush (v := 100) dX3_wants_44 (by decide) ?_
    subst h
    exact G_ret dX3_wants_46 trivial rfl rfl
  replace h := (if_neg hc1).symm.trans h
  by_cases hc2 : (M 3 i0 0) = 2
  · replace h := (if_pos hc2).symm.trans h
    refine G_tableEq (off := 43) (tgt := 47) hc2 dX3_wants_4 (by decide) (by decide) (by decide) (by decide) ?_
    refine G_bipush (v := 50) dX3_wants_47 (by decide) ?_
    refine G_aload_n dX3_wants_49 rfl ?_
    refine fg_X3_15 (v := (M 3 i0 1)) rfl rfl hi0 dX3_wants_50 ?_
    refine G_isub dX3_wants_53 ?_
    subst h
    exact G_ret dX3_wants_54 trivial rfl rfl
  replace h := (if_neg hc2).symm.trans h
  by_cases hc3 : (M 3 i0 0) = 3
  · replace h := (if_pos hc3).symm.trans h
    refine G_tableEq (off := 51) (tgt := 55) hc3 dX3_wants_4 (by decide) (by decide) (by decide) (by decide) ?_
    refine G_bipush (v := 20) dX3_wants_55 (by decide) ?_
    subst h
    exact G_ret dX3_wants_57 trivial rfl rfl
  replace h := (if_neg hc3).symm.trans h
  by_cases hc4 : (M 3 i0 0) = 4
  · replace h := (if_pos hc4).symm.trans h
    refine G_tableEq (off := 40) (tgt := 44) hc4 dX3_wants_4 (by decide) (by decide) (by decide) (by decide) ?_
    refine G_bipush (v := 100) dX3_wants_44 (by decide) ?_
    subst h
    exact G_ret dX3_wants_46 trivial rfl rfl
  replace h := (if_neg hc4).symm.trans h
  by_cases hc5 : (M 3 i0 0) = 5
  · replace h := (if_pos hc5).symm.trans h
    refine G_tableEq (off := 54) (tgt := 58) hc5 dX3_wants_4 (by decide) (by decide) (by decide) (by decide) ?_
    refine G_aload_n dX3_wants_58 rfl ?_
    refine fg_X3_30 (v := (M 3 i0 6)) rfl rfl hi0 dX3_wants_59 ?_
    refine G_if_le (tgt := 77) dX3_wants_62 (by decide) (fun hc6 => ?_) (fun hc6 => ?_)
    · replace h := (if_neg hc6).symm.trans h
      refine G_bipush (v := 50) dX3_wants_77 (by decide) ?_
      refine G_aload_n dX3_wants_79 rfl ?_
      refine fg_X3_15 (v := (M 3 i0 1)) rfl rfl hi0 dX3_wants_80 ?_
      refine G_isub dX3_wants_83 ?_
      subst h
      exact G_ret dX3_wants_84 trivial rfl rfl
    · replace h := (if_pos hc6).symm.trans h
      refine G_iconst (v := 2) dX3_wants_65 (by decide) ?_
      refine G_bipush (v := 50) dX3_wants_66 (by decide) ?_
      refine G_aload_n dX3_wants_68 rfl ?_
      refine fg_X3_15 (v := (M 3 i0 1)) rfl rfl hi0 dX3_wants_69 ?_
      refine G_isub dX3_wants_72 ?_
      refine G_imul dX3_wants_73 ?_
      refine G_goto (tgt := 84) dX3_wants_74 (by decide) ?_
      subst h
      exact G_ret dX3_wants_84 trivial rfl rfl
  replace h := (if_neg hc5).symm.trans h
  by_cases hc7 : (M 3 i0 0) = 6
  · replace h := (if_pos hc7).symm.trans h
    refine G_tableEq (off := 81) (tgt := 85) hc7 dX3_wants_4 (by decide) (by decide) (by decide) (by decide) ?_
    refine G_bipush (v := 30) dX3_wants_85 (by decide) ?_
    subst h
    exact G_ret dX3_wants_87 trivial rfl rfl
  replace h := (if_neg hc7).symm.trans h
  have nhc1 := ne_lit (n := 1) (by decide) hc1
  have nhc2 := ne_lit (n := 2) (by decide) hc2
  have nhc3 := ne_lit (n := 3) (by decide) hc3
  have nhc4 := ne_lit (n := 4) (by decide) hc4
  have nhc5 := ne_lit (n := 5) (by decide) hc5
  have nhc7 := ne_lit (n := 6) (by decide) hc7
  refine G_tableOut (tgt := 88) dX3_wants_4 (by omega) (by decide) ?_
  refine G_bipush (v := 50) dX3_wants_88 (by decide) ?_
  subst h
  exact G_ret dX3_wants_90 trivial rfl rfl

theorem dX3_bears_0 : decode cX3_bears 0 = .ok (.aload_n 0, 1) := by decide +kernel
theorem dX3_bears_1 : decode cX3_bears 1 = .ok (.getfield 9, 3) := by decide +kernel
theorem dX3_bears_4 : decode cX3_bears 4 = .ok (.lookupswitch 32 #[(2, 28), (5, 30)], 28) := by decide +kernel
theorem dX3_bears_32 : decode cX3_bears 32 = .ok (.iconst 2, 1) := by decide +kernel
theorem dX3_bears_33 : decode cX3_bears 33 = .ok (.ireturn, 1) := by decide +kernel
theorem dX3_bears_34 : decode cX3_bears 34 = .ok (.iconst 3, 1) := by decide +kernel
theorem dX3_bears_35 : decode cX3_bears 35 = .ok (.ireturn, 1) := by decide +kernel
theorem dX3_bears_36 : decode cX3_bears 36 = .ok (.iconst 1, 1) := by decide +kernel
theorem dX3_bears_37 : decode cX3_bears 37 = .ok (.ireturn, 1) := by decide +kernel
def X3_bears (i0 : Nat) (M : Mem) : Int32 := (if (M 3 i0 0) = 2 then 2 else (if (M 3 i0 0) = 5 then 3 else 1))
set_option maxRecDepth 100000 in
set_option maxHeartbeats 4000000 in
theorem X3_bears_ok  {i0 : Nat} {M N : Mem} {res : Int32} (hi0 : i0 < 30) (h : X3_bears i0 M = res) : Spec mt_X3_bears 0 [.inr (.inr (3, i0))] (M, N) (some (.inl res)) (M, N) := by
  unfold X3_bears at h
  refine Spec_of_G (by decide) rfl (Nat.le_of_ble_eq_true rfl) ?_
  refine G_sub [(0, .inr (.inr (3, i0)))] [0] rfl ?_
  refine G_aload_n dX3_bears_0 rfl ?_
  refine fg_X3_9 (v := (M 3 i0 0)) rfl rfl hi0 dX3_bears_1 ?_
  by_cases hc1 : (M 3 i0 0) = 2
  · replace h := (if_pos hc1).symm.trans h
    refine G_lookEq (off := 28) (tgt := 32) hc1 dX3_bears_4 (by decide) (by decide) (by decide) ?_
    refine G_iconst (v := 2) dX3_bears_32 (by decide) ?_
    subst h
    exact G_ret dX3_bears_33 trivial rfl rfl
  replace h := (if_neg hc1).symm.trans h
  by_cases hc2 : (M 3 i0 0) = 5
  · replace h := (if_pos hc2).symm.trans h
    refine G_lookEq (off := 30) (tgt := 34) hc2 dX3_bears_4 (by decide) (by decide) (by decide) ?_
    refine G_iconst (v := 3) dX3_bears_34 (by decide) ?_
    subst h
    exact G_ret dX3_bears_35 trivial rfl rfl
  replace h := (if_neg hc2).symm.trans h
  have nhc1 := ne_lit (n := 2) (by decide) hc1
  have nhc2 := ne_lit (n := 5) (by decide) hc2
  refine G_lookup (off := 32) (tgt := 36) dX3_bears_4 (by decide) (by generalize ((M 3 i0 0) : Int32).toInt = zz at nhc1 nhc2 ⊢; simp [Op.lookupswitch.offset, Ne.symm nhc1, Ne.symm nhc2]; done) (by decide) ?_
  refine G_iconst (v := 1) dX3_bears_36 (by decide) ?_
  subst h
  exact G_ret dX3_bears_37 trivial rfl rfl

theorem dX3_goTo_0 : decode cX3_goTo 0 = .ok (.aload_n 0, 1) := by decide +kernel
theorem dX3_goTo_1 : decode cX3_goTo 1 = .ok (.iload_n 1, 1) := by decide +kernel
theorem dX3_goTo_2 : decode cX3_goTo 2 = .ok (.putfield 18, 3) := by decide +kernel
theorem dX3_goTo_5 : decode cX3_goTo 5 = .ok (.aload_n 0, 1) := by decide +kernel
theorem dX3_goTo_6 : decode cX3_goTo 6 = .ok (.iconst 0, 1) := by decide +kernel
theorem dX3_goTo_7 : decode cX3_goTo 7 = .ok (.putfield 27, 3) := by decide +kernel
theorem dX3_goTo_10 : decode cX3_goTo 10 = .ok (.aload_n 0, 1) := by decide +kernel
theorem dX3_goTo_11 : decode cX3_goTo 11 = .ok (.dup, 1) := by decide +kernel
theorem dX3_goTo_12 : decode cX3_goTo 12 = .ok (.getfield 24, 3) := by decide +kernel
theorem dX3_goTo_15 : decode cX3_goTo 15 = .ok (.iconst 2, 1) := by decide +kernel
theorem dX3_goTo_16 : decode cX3_goTo 16 = .ok (.idiv, 1) := by decide +kernel
theorem dX3_goTo_17 : decode cX3_goTo 17 = .ok (.putfield 24, 3) := by decide +kernel
theorem dX3_goTo_20 : decode cX3_goTo 20 = .ok (.aload_n 0, 1) := by decide +kernel
theorem dX3_goTo_21 : decode cX3_goTo 21 = .ok (.getfield 33, 3) := by decide +kernel
theorem dX3_goTo_24 : decode cX3_goTo 24 = .ok (.ifCond .eq 13, 3) := by decide +kernel
theorem dX3_goTo_27 : decode cX3_goTo 27 = .ok (.aload_n 0, 1) := by decide +kernel
theorem dX3_goTo_28 : decode cX3_goTo 28 = .ok (.iconst 0, 1) := by decide +kernel
theorem dX3_goTo_29 : decode cX3_goTo 29 = .ok (.putfield 30, 3) := by decide +kernel
theorem dX3_goTo_32 : decode cX3_goTo 32 = .ok (.aload_n 0, 1) := by decide +kernel
theorem dX3_goTo_33 : decode cX3_goTo 33 = .ok (.iconst 0, 1) := by decide +kernel
theorem dX3_goTo_34 : decode cX3_goTo 34 = .ok (.putfield 33, 3) := by decide +kernel
theorem dX3_goTo_37 : decode cX3_goTo 37 = .ok (.return_, 1) := by decide +kernel
def X3_goTo (i0 : Nat) (v1 : Int32) (M : Mem) : Option (Mem) := (if (nbZ (M 3 i0 7)) = 0 then (some (up3 (up3 (up3 M 3 i0 2 v1) 3 i0 5 0) 3 i0 4 ((M 3 i0 4) / 2))) else (some (up3 (up3 (up3 (up3 (up3 M 3 i0 2 v1) 3 i0 5 0) 3 i0 4 ((M 3 i0 4) / 2)) 3 i0 6 0) 3 i0 7 0)))
set_option maxRecDepth 100000 in
set_option maxHeartbeats 4000000 in
theorem X3_goTo_ok  {i0 : Nat} {v1 : Int32} {M N : Mem} {res : Mem} (hi0 : i0 < 30) (h : X3_goTo i0 v1 M = some res) : Spec mt_X3_goTo 0 [.inr (.inr (3, i0)), .inl v1] (M, N) none (res, N) := by
  unfold X3_goTo at h
  refine Spec_of_G (by decide) rfl (Nat.le_of_ble_eq_true rfl) ?_
  refine G_sub [(0, .inr (.inr (3, i0))), (1, .inl v1)] [0, 1] rfl ?_
  refine G_aload_n dX3_goTo_0 rfl ?_
  refine G_iload_n dX3_goTo_1 rfl ?_
  refine fp_X3_18 rfl hi0 dX3_goTo_2 ?_
  refine G_aload_n dX3_goTo_5 rfl ?_
  refine G_iconst (v := 0) dX3_goTo_6 (by decide) ?_
  refine fp_X3_27 rfl hi0 dX3_goTo_7 ?_
  refine G_aload_n dX3_goTo_10 rfl ?_
  refine G_dup rfl dX3_goTo_11 ?_
  refine fg_X3_24 (v := (M 3 i0 4)) ((up3_k (by decide)).trans (up3_k (by decide))) rfl hi0 dX3_goTo_12 ?_
  refine G_iconst (v := 2) dX3_goTo_15 (by decide) ?_
  refine G_idiv (by decide) dX3_goTo_16 ?_
  refine fp_X3_24 rfl hi0 dX3_goTo_17 ?_
  refine G_aload_n dX3_goTo_20 rfl ?_
  refine fg_X3_33 (v := (nbZ (M 3 i0 7))) (congrArg nbZ ((up3_k (by decide)).trans ((up3_k (by decide)).trans (up3_k (by decide))))) rfl hi0 dX3_goTo_21 ?_
  refine G_if_eq (tgt := 37) dX3_goTo_24 (by decide) (fun hc1 => ?_) (fun hc1 => ?_)
  · replace h := (if_pos hc1).symm.trans h
    obtain rfl := Option.some.inj h
    exact G_ret dX3_goTo_37 trivial rfl rfl
  · replace h := (if_neg hc1).symm.trans h
    refine G_aload_n dX3_goTo_27 rfl ?_
    refine G_iconst (v := 0) dX3_goTo_28 (by decide) ?_
    refine fp_X3_30 rfl hi0 dX3_goTo_29 ?_
    refine G_aload_n dX3_goTo_32 rfl ?_
    refine G_iconst (v := 0) dX3_goTo_33 (by decide) ?_
    refine fp_X3_33 (by decide) rfl hi0 dX3_goTo_34 ?_
    obtain rfl := Option.some.inj h
    exact G_ret dX3_goTo_37 trivial rfl rfl

theorem dX3_canTakeFalseHandle_0 : decode cX3_canTakeFalseHandle 0 = .ok (.aload_n 0, 1) := by decide +kernel
theorem dX3_canTakeFalseHandle_1 : decode cX3_canTakeFalseHandle 1 = .ok (.getfield 18, 3) := by decide +kernel
theorem dX3_canTakeFalseHandle_4 : decode cX3_canTakeFalseHandle 4 = .ok (.iconst (-1), 1) := by decide +kernel
theorem dX3_canTakeFalseHandle_5 : decode cX3_canTakeFalseHandle 5 = .ok (.if_icmp .eq 14, 3) := by decide +kernel
theorem dX3_canTakeFalseHandle_8 : decode cX3_canTakeFalseHandle 8 = .ok (.aload_n 0, 1) := by decide +kernel
theorem dX3_canTakeFalseHandle_9 : decode cX3_canTakeFalseHandle 9 = .ok (.getfield 30, 3) := by decide +kernel
theorem dX3_canTakeFalseHandle_12 : decode cX3_canTakeFalseHandle 12 = .ok (.ifCond .ne 7, 3) := by decide +kernel
theorem dX3_canTakeFalseHandle_15 : decode cX3_canTakeFalseHandle 15 = .ok (.iconst 1, 1) := by decide +kernel
theorem dX3_canTakeFalseHandle_16 : decode cX3_canTakeFalseHandle 16 = .ok (.goto 4, 3) := by decide +kernel
theorem dX3_canTakeFalseHandle_19 : decode cX3_canTakeFalseHandle 19 = .ok (.iconst 0, 1) := by decide +kernel
theorem dX3_canTakeFalseHandle_20 : decode cX3_canTakeFalseHandle 20 = .ok (.ireturn, 1) := by decide +kernel
def X3_canTakeFalseHandle (i0 : Nat) (M : Mem) : Int32 := (if (M 3 i0 2) = (-1) then 0 else (if (M 3 i0 6) = 0 then 1 else 0))
set_option maxRecDepth 100000 in
set_option maxHeartbeats 4000000 in
theorem X3_canTakeFalseHandle_ok  {i0 : Nat} {M N : Mem} {res : Int32} (hi0 : i0 < 30) (h : X3_canTakeFalseHandle i0 M = res) : Spec mt_X3_canTakeFalseHandle 0 [.inr (.inr (3, i0))] (M, N) (some (.inl res)) (M, N) := by
  unfold X3_canTakeFalseHandle at h
  refine Spec_of_G (by decide) rfl (Nat.le_of_ble_eq_true rfl) ?_
  refine G_sub [(0, .inr (.inr (3, i0)))] [0] rfl ?_
  refine G_aload_n dX3_canTakeFalseHandle_0 rfl ?_
  refine fg_X3_18 (v := (M 3 i0 2)) rfl rfl hi0 dX3_canTakeFalseHandle_1 ?_
  refine G_iconst (v := (-1)) dX3_canTakeFalseHandle_4 (by decide) ?_
  refine G_icmp_eq (tgt := 19) dX3_canTakeFalseHandle_5 (by decide) (fun hc1 => ?_) (fun hc1 => ?_)
  · replace h := (if_pos hc1).symm.trans h
    refine G_iconst (v := 0) dX3_canTakeFalseHandle_19 (by decide) ?_
    subst h
    exact G_ret dX3_canTakeFalseHandle_20 (Or.inl rfl) rfl rfl
  · replace h := (if_neg hc1).symm.trans h
    refine G_aload_n dX3_canTakeFalseHandle_8 rfl ?_
    refine fg_X3_30 (v := (M 3 i0 6)) rfl rfl hi0 dX3_canTakeFalseHandle_9 ?_
    refine G_if_ne (tgt := 19) dX3_canTakeFalseHandle_12 (by decide) (fun hc2 => ?_) (fun hc2 => ?_)
    · replace h := (if_neg hc2).symm.trans h
      refine G_iconst (v := 0) dX3_canTakeFalseHandle_19 (by decide) ?_
      subst h
      exact G_ret dX3_canTakeFalseHandle_20 (Or.inl rfl) rfl rfl
    · replace h := (if_pos hc2).symm.trans h
      refine G_iconst (v := 1) dX3_canTakeFalseHandle_15 (by decide) ?_
      refine G_goto (tgt := 20) dX3_canTakeFalseHandle_16 (by decide) ?_
      subst h
      exact G_ret dX3_canTakeFalseHandle_20 (Or.inr rfl) rfl rfl
theorem X3_canTakeFalseHandle_z {i0 : Nat} {M : Mem} : X3_canTakeFalseHandle i0 M = 0 ∨ X3_canTakeFalseHandle i0 M = 1 := by
  unfold X3_canTakeFalseHandle
  (repeat' split) <;> first | exact Or.inl rfl | exact Or.inr rfl | exact X8_in_z

theorem dX3_takeFalseHandle_0 : decode cX3_takeFalseHandle 0 = .ok (.aload_n 0, 1) := by decide +kernel
theorem dX3_takeFalseHandle_1 : decode cX3_takeFalseHandle 1 = .ok (.iconst 1, 1) := by decide +kernel
theorem dX3_takeFalseHandle_2 : decode cX3_takeFalseHandle 2 = .ok (.putfield 30, 3) := by decide +kernel
theorem dX3_takeFalseHandle_5 : decode cX3_takeFalseHandle 5 = .ok (.aload_n 0, 1) := by decide +kernel
theorem dX3_takeFalseHandle_6 : decode cX3_takeFalseHandle 6 = .ok (.iconst 1, 1) := by decide +kernel
theorem dX3_takeFalseHandle_7 : decode cX3_takeFalseHandle 7 = .ok (.putfield 33, 3) := by decide +kernel
theorem dX3_takeFalseHandle_10 : decode cX3_takeFalseHandle 10 = .ok (.return_, 1) := by decide +kernel
def X3_takeFalseHandle (i0 : Nat) (M : Mem) : Option (Mem) := (some (up3 (up3 M 3 i0 6 1) 3 i0 7 1))
set_option maxRecDepth 100000 in
set_option maxHeartbeats 4000000 in
theorem X3_takeFalseHandle_ok  {i0 : Nat} {M N : Mem} {res : Mem} (hi0 : i0 < 30) (h : X3_takeFalseHandle i0 M = some res) : Spec mt_X3_takeFalseHandle 0 [.inr (.inr (3, i0))] (M, N) none (res, N) := by
  unfold X3_takeFalseHandle at h
  refine Spec_of_G (by decide) rfl (Nat.le_of_ble_eq_true rfl) ?_
  refine G_sub [(0, .inr (.inr (3, i0)))] [0] rfl ?_
  refine G_aload_n dX3_takeFalseHandle_0 rfl ?_
  refine G_iconst (v := 1) dX3_takeFalseHandle_1 (by decide) ?_
  refine fp_X3_30 rfl hi0 dX3_takeFalseHandle_2 ?_
  refine G_aload_n dX3_takeFalseHandle_5 rfl ?_
  refine G_iconst (v := 1) dX3_takeFalseHandle_6 (by decide) ?_
  refine fp_X3_33 (by decide) rfl hi0 dX3_takeFalseHandle_7 ?_
  obtain rfl := Option.some.inj h
  exact G_ret dX3_takeFalseHandle_10 trivial rfl rfl

theorem dX7_kindAbove_0 : decode cX7_kindAbove 0 = .ok (.iload_n 0, 1) := by decide +kernel
theorem dX7_kindAbove_1 : decode cX7_kindAbove 1 = .ok (.tableswitch 47 1 6 #[39, 39, 39, 41, 43, 45], 39) := by decide +kernel
theorem dX7_kindAbove_40 : decode cX7_kindAbove 40 = .ok (.iconst 0, 1) := by decide +kernel
theorem dX7_kindAbove_41 : decode cX7_kindAbove 41 = .ok (.ireturn, 1) := by decide +kernel
theorem dX7_kindAbove_42 : decode cX7_kindAbove 42 = .ok (.iconst 1, 1) := by decide +kernel
theorem dX7_kindAbove_43 : decode cX7_kindAbove 43 = .ok (.ireturn, 1) := by decide +kernel
theorem dX7_kindAbove_44 : decode cX7_kindAbove 44 = .ok (.iconst 2, 1) := by decide +kernel
theorem dX7_kindAbove_45 : decode cX7_kindAbove 45 = .ok (.ireturn, 1) := by decide +kernel
theorem dX7_kindAbove_46 : decode cX7_kindAbove 46 = .ok (.iconst 3, 1) := by decide +kernel
theorem dX7_kindAbove_47 : decode cX7_kindAbove 47 = .ok (.ireturn, 1) := by decide +kernel
theorem dX7_kindAbove_48 : decode cX7_kindAbove 48 = .ok (.iconst (-1), 1) := by decide +kernel
theorem dX7_kindAbove_49 : decode cX7_kindAbove 49 = .ok (.ireturn, 1) := by decide +kernel
def X7_kindAbove (v0 : Int32) : Int32 := (if v0 = 1 then 0 else (if v0 = 2 then 0 else (if v0 = 3 then 0 else (if v0 = 4 then 1 else (if v0 = 5 then 2 else (if v0 = 6 then 3 else (-1)))))))
set_option maxRecDepth 100000 in
set_option maxHeartbeats 4000000 in
theorem X7_kindAbove_ok  {v0 : Int32} {MM0 : MM} {res : Int32} (h : X7_kindAbove v0 = res) : Spec mt_X7_kindAbove 0 [.inl v0] MM0 (some (.inl res)) MM0 := by
  unfold X7_kindAbove at h
  refine Spec_of_G (by decide) rfl (Nat.le_of_ble_eq_true rfl) ?_
  refine G_sub [(0, .inl v0)] [0] rfl ?_
  refine G_iload_n dX7_kindAbove_0 rfl ?_
  by_cases hc1 : v0 = 1
  · replace h := (if_pos hc1).symm.trans h
    refine G_tableEq (off := 39) (tgt := 40) hc1 dX7_kindAbove_1 (by decide) (by decide) (by decide) (by decide) ?_
    refine G_iconst (v := 0) dX7_kindAbove_40 (by decide) ?_
    subst h
    exact G_ret dX7_kindAbove_41 trivial rfl rfl
  replace h := (if_neg hc1).symm.trans h
  by_cases hc2 : v0 = 2
  · replace h := (if_pos hc2).symm.trans h
    refine G_tableEq (off := 39) (tgt := 40) hc2 dX7_kindAbove_1 (by decide) (by decide) (by decide) (by decide) ?_
    refine G_iconst (v := 0) dX7_kindAbove_40 (by decide) ?_
    subst h
    exact G_ret dX7_kindAbove_41 trivial rfl rfl
  replace h := (if_neg hc2).symm.trans h
  by_cases hc3 : v0 = 3
  · replace h := (if_pos hc3).symm.trans h
    refine G_tableEq (off := 39) (tgt := 40) hc3 dX7_kindAbove_1 (by decide) (by decide) (by decide) (by decide) ?_
    refine G_iconst (v := 0) dX7_kindAbove_40 (by decide) ?_
    subst h
    exact G_ret dX7_kindAbove_41 trivial rfl rfl
  replace h := (if_neg hc3).symm.trans h
  by_cases hc4 : v0 = 4
  · replace h := (if_pos hc4).symm.trans h
    refine G_tableEq (off := 41) (tgt := 42) hc4 dX7_kindAbove_1 (by decide) (by decide) (by decide) (by decide) ?_
    refine G_iconst (v := 1) dX7_kindAbove_42 (by decide) ?_
    subst h
    exact G_ret dX7_kindAbove_43 trivial rfl rfl
  replace h := (if_neg hc4).symm.trans h
  by_cases hc5 : v0 = 5
  · replace h := (if_pos hc5).symm.trans h
    refine G_tableEq (off := 43) (tgt := 44) hc5 dX7_kindAbove_1 (by decide) (by decide) (by decide) (by decide) ?_
    refine G_iconst (v := 2) dX7_kindAbove_44 (by decide) ?_
    subst h
    exact G_ret dX7_kindAbove_45 trivial rfl rfl
  replace h := (if_neg hc5).symm.trans h
  by_cases hc6 : v0 = 6
  · replace h := (if_pos hc6).symm.trans h
    refine G_tableEq (off := 45) (tgt := 46) hc6 dX7_kindAbove_1 (by decide) (by decide) (by decide) (by decide) ?_
    refine G_iconst (v := 3) dX7_kindAbove_46 (by decide) ?_
    subst h
    exact G_ret dX7_kindAbove_47 trivial rfl rfl
  replace h := (if_neg hc6).symm.trans h
  have nhc1 := ne_lit (n := 1) (by decide) hc1
  have nhc2 := ne_lit (n := 2) (by decide) hc2
  have nhc3 := ne_lit (n := 3) (by decide) hc3
  have nhc4 := ne_lit (n := 4) (by decide) hc4
  have nhc5 := ne_lit (n := 5) (by decide) hc5
  have nhc6 := ne_lit (n := 6) (by decide) hc6
  refine G_tableOut (tgt := 48) dX7_kindAbove_1 (by omega) (by decide) ?_
  refine G_iconst (v := (-1)) dX7_kindAbove_48 (by decide) ?_
  subst h
  exact G_ret dX7_kindAbove_49 trivial rfl rfl

theorem dX7_isUnder_0 : decode cX7_isUnder 0 = .ok (.iload_n 0, 1) := by decide +kernel
theorem dX7_isUnder_1 : decode cX7_isUnder 1 = .ok (.istore_n 2, 1) := by decide +kernel
theorem dX7_isUnder_2 : decode cX7_isUnder 2 = .ok (.iconst 0, 1) := by decide +kernel
theorem dX7_isUnder_3 : decode cX7_isUnder 3 = .ok (.istore_n 3, 1) := by decide +kernel
theorem dX7_isUnder_4 : decode cX7_isUnder 4 = .ok (.iload_n 3, 1) := by decide +kernel
theorem dX7_isUnder_5 : decode cX7_isUnder 5 = .ok (.bipush 7, 2) := by decide +kernel
theorem dX7_isUnder_7 : decode cX7_isUnder 7 = .ok (.if_icmp .ge 25, 3) := by decide +kernel
theorem dX7_isUnder_10 : decode cX7_isUnder 10 = .ok (.iload_n 2, 1) := by decide +kernel
theorem dX7_isUnder_11 : decode cX7_isUnder 11 = .ok (.ifCond .lt 21, 3) := by decide +kernel
theorem dX7_isUnder_14 : decode cX7_isUnder 14 = .ok (.iload_n 2, 1) := by decide +kernel
theorem dX7_isUnder_15 : decode cX7_isUnder 15 = .ok (.iload_n 1, 1) := by decide +kernel
theorem dX7_isUnder_16 : decode cX7_isUnder 16 = .ok (.if_icmp .ne 5, 3) := by decide +kernel
theorem dX7_isUnder_19 : decode cX7_isUnder 19 = .ok (.iconst 1, 1) := by decide +kernel
theorem dX7_isUnder_20 : decode cX7_isUnder 20 = .ok (.ireturn, 1) := by decide +kernel
theorem dX7_isUnder_21 : decode cX7_isUnder 21 = .ok (.iload_n 2, 1) := by decide +kernel
theorem dX7_isUnder_22 : decode cX7_isUnder 22 = .ok (.invokestatic 299, 3) := by decide +kernel
theorem dX7_isUnder_25 : decode cX7_isUnder 25 = .ok (.istore_n 2, 1) := by decide +kernel
theorem dX7_isUnder_26 : decode cX7_isUnder 26 = .ok (.iinc 3 1, 3) := by decide +kernel
theorem dX7_isUnder_29 : decode cX7_isUnder 29 = .ok (.goto (-25), 3) := by decide +kernel
theorem dX7_isUnder_32 : decode cX7_isUnder 32 = .ok (.iconst 0, 1) := by decide +kernel
theorem dX7_isUnder_33 : decode cX7_isUnder 33 = .ok (.ireturn, 1) := by decide +kernel
def X7_isUnder_L4 : Nat → Int32 → Int32 → Int32 → Option (Unit ⊕ (Int32))
  | 0, _, _, _ => none
  | fu + 1, v1, v2, v3 => (if v3 < 7 then (if v2 < 0 then (some (.inl ())) else (if v2 = v1 then (some (.inr 1)) else (X7_isUnder_L4 fu v1 (X7_kindAbove v2) (v3 + 1)))) else (some (.inl ())))
set_option maxRecDepth 100000 in
set_option maxHeartbeats 4000000 in
theorem X7_isUnder_L4_ok  {r : Option AV} {M' : MM} : ∀ (fu : Nat) (v1 : Int32) (v2 : Int32) (v3 : Int32) (MM0 : MM) {res : (Unit) ⊕ (Int32)} (h : X7_isUnder_L4 fu v1 v2 v3 = some res) (K : ∀ q, res = .inl q → G mt_X7_isUnder 1 r M' 32 [] [] MM0) (K2 : ∀ q, res = .inr q → r = (some (.inl q)) ∧ M' = MM0), G mt_X7_isUnder 1 r M' 4 [(1, .inl v1), (2, .inl v2), (3, .inl v3)] [] MM0 := by
  intro fu
  induction fu with
  | zero =>
    intro v1 v2 v3 MM0 res h
    cases h
  | succ fu ih =>
    intro v1 v2 v3 MM0 res h K K2
    replace h : (if v3 < 7 then (if v2 < 0 then (some (.inl ())) else (if v2 = v1 then (some (.inr 1)) else (X7_isUnder_L4 fu v1 (X7_kindAbove v2) (v3 + 1)))) else (some (.inl ()))) = some res := h
    refine G_iload_n dX7_isUnder_4 rfl ?_
    refine G_bipush (v := 7) dX7_isUnder_5 (by decide) ?_
    refine G_icmp_ge (tgt := 32) dX7_isUnder_7 (by decide) (fun hc4 => ?_) (fun hc4 => ?_)
    · replace h := (if_neg hc4).symm.trans h
      refine G_sub [] [] rfl ?_
      exact K _ (Option.some.inj h).symm
    · replace h := (if_pos hc4).symm.trans h
      refine G_iload_n dX7_isUnder_10 rfl ?_
      refine G_if_lt (tgt := 32) dX7_isUnder_11 (by decide) (fun hc5 => ?_) (fun hc5 => ?_)
      · replace h := (if_pos hc5).symm.trans h
        refine G_sub [] [] rfl ?_
        exact K _ (Option.some.inj h).symm
      · replace h := (if_neg hc5).symm.trans h
        refine G_iload_n dX7_isUnder_14 rfl ?_
        refine G_iload_n dX7_isUnder_15 rfl ?_
        refine G_icmp_ne (tgt := 21) dX7_isUnder_16 (by decide) (fun hc6 => ?_) (fun hc6 => ?_)
        · replace h := (if_neg hc6).symm.trans h
          refine G_iload_n dX7_isUnder_21 rfl ?_
          refine G_callSv  (X7_kindAbove_ok rfl) ok_X7_kindAbove ml_X7_299 (by decide) rfl rfl (Nat.le_of_ble_eq_true rfl) dX7_isUnder_22 ?_
          refine G_istore_n (L2 := [(2, .inl (X7_kindAbove v2)), (1, .inl v1), (3, .inl v3)]) dX7_isUnder_25 (by decide) rfl ?_
          refine G_iinc (v := (v3 + 1)) (L2 := [(3, .inl (v3 + 1)), (2, .inl (X7_kindAbove v2)), (1, .inl v1)]) dX7_isUnder_26 rfl (by first | rfl | (show _ + Int32.ofInt _ = _; rfl)) (by decide) rfl ?_
          refine G_goto (tgt := 4) dX7_isUnder_29 (by decide) ?_
          refine G_sub [(1, .inl v1), (2, .inl (X7_kindAbove v2)), (3, .inl (v3 + 1))] [2, 1, 0] rfl ?_
          exact ih v1 (X7_kindAbove v2) (v3 + 1) _  h K K2
        · replace h := (if_pos hc6).symm.trans h
          refine G_iconst (v := 1) dX7_isUnder_19 (by decide) ?_
          obtain ⟨e1, e2⟩ := K2 _ (Option.some.inj h).symm
          subst e1; subst e2
          exact G_ret dX7_isUnder_20 (Or.inr rfl) rfl rfl

def X7_isUnder (v0 : Int32) (v1 : Int32) : Option (Int32) := ((X7_isUnder_L4 400 v1 v0 0).bind fun q1 => match q1 with
  | .inl q1 => (some 0)
  | .inr q1 => some q1)
set_option maxRecDepth 100000 in
set_option maxHeartbeats 4000000 in
theorem X7_isUnder_ok  {v0 : Int32} {v1 : Int32} {MM0 : MM} {res : Int32} (h : X7_isUnder v0 v1 = some res) : Spec mt_X7_isUnder 1 [.inl v0, .inl v1] MM0 (some (.inl res)) MM0 := by
  unfold X7_isUnder at h
  refine Spec_of_G (by decide) rfl (Nat.le_of_ble_eq_true rfl) ?_
  refine G_sub [(0, .inl v0), (1, .inl v1)] [0, 1] rfl ?_
  refine G_iload_n dX7_isUnder_0 rfl ?_
  refine G_istore_n (L2 := [(2, .inl v0), (0, .inl v0), (1, .inl v1)]) dX7_isUnder_1 (by decide) rfl ?_
  refine G_iconst (v := 0) dX7_isUnder_2 (by decide) ?_
  refine G_istore_n (L2 := [(3, .inl 0), (2, .inl v0), (0, .inl v0), (1, .inl v1)]) dX7_isUnder_3 (by decide) rfl ?_
  refine G_sub [(1, .inl v1), (2, .inl v0), (3, .inl 0)] [3, 1, 0] rfl ?_
  obtain ⟨q1, hq1, h⟩ := bnd h
  refine X7_isUnder_L4_ok  400 v1 v0 0 _  hq1 (fun q1n q1e => ?_) (fun q1n q1e => ?_)
  · subst q1e
    refine G_iconst (v := 0) dX7_isUnder_32 (by decide) ?_
    obtain rfl := Option.some.inj h
    exact G_ret dX7_isUnder_33 (Or.inl rfl) rfl rfl
  · subst q1e
    obtain rfl := Option.some.inj h
    exact ⟨rfl, rfl⟩

theorem dX2_clear_0 : decode cX2_clear 0 = .ok (.aload_n 0, 1) := by decide +kernel
theorem dX2_clear_1 : decode cX2_clear 1 = .ok (.iconst 0, 1) := by decide +kernel
theorem dX2_clear_2 : decode cX2_clear 2 = .ok (.putfield 18, 3) := by decide +kernel
theorem dX2_clear_5 : decode cX2_clear 5 = .ok (.return_, 1) := by decide +kernel
def X2_clear (i0 : Nat) (M : Mem) : Option (Mem) := (some (up3 M 2 i0 2 0))
set_option maxRecDepth 100000 in
set_option maxHeartbeats 4000000 in
theorem X2_clear_ok  {i0 : Nat} {M N : Mem} {res : Mem} (hi0 : i0 < 7) (h : X2_clear i0 M = some res) : Spec mt_X2_clear 0 [.inr (.inr (2, i0))] (M, N) none (res, N) := by
  unfold X2_clear at h
  refine Spec_of_G (by decide) rfl (Nat.le_of_ble_eq_true rfl) ?_
  refine G_sub [(0, .inr (.inr (2, i0)))] [0] rfl ?_
  refine G_aload_n dX2_clear_0 rfl ?_
  refine G_iconst (v := 0) dX2_clear_1 (by decide) ?_
  refine fp_X2_18 rfl hi0 dX2_clear_2 ?_
  obtain rfl := Option.some.inj h
  exact G_ret dX2_clear_5 trivial rfl rfl

theorem dX2_add_0 : decode cX2_add 0 = .ok (.aload_n 0, 1) := by decide +kernel
theorem dX2_add_1 : decode cX2_add 1 = .ok (.getfield 18, 3) := by decide +kernel
theorem dX2_add_4 : decode cX2_add 4 = .ok (.bipush 50, 2) := by decide +kernel
theorem dX2_add_6 : decode cX2_add 6 = .ok (.if_icmp .ge 23, 3) := by decide +kernel
theorem dX2_add_9 : decode cX2_add 9 = .ok (.aload_n 0, 1) := by decide +kernel
theorem dX2_add_10 : decode cX2_add 10 = .ok (.getfield 9, 3) := by decide +kernel
theorem dX2_add_13 : decode cX2_add 13 = .ok (.aload_n 0, 1) := by decide +kernel
theorem dX2_add_14 : decode cX2_add 14 = .ok (.getfield 18, 3) := by decide +kernel
theorem dX2_add_17 : decode cX2_add 17 = .ok (.iload_n 1, 1) := by decide +kernel
theorem dX2_add_18 : decode cX2_add 18 = .ok (.iastore, 1) := by decide +kernel
theorem dX2_add_19 : decode cX2_add 19 = .ok (.aload_n 0, 1) := by decide +kernel
theorem dX2_add_20 : decode cX2_add 20 = .ok (.dup, 1) := by decide +kernel
theorem dX2_add_21 : decode cX2_add 21 = .ok (.getfield 18, 3) := by decide +kernel
theorem dX2_add_24 : decode cX2_add 24 = .ok (.iconst 1, 1) := by decide +kernel
theorem dX2_add_25 : decode cX2_add 25 = .ok (.iadd, 1) := by decide +kernel
theorem dX2_add_26 : decode cX2_add 26 = .ok (.putfield 18, 3) := by decide +kernel
theorem dX2_add_29 : decode cX2_add 29 = .ok (.return_, 1) := by decide +kernel
def X2_add (i0 : Nat) (v1 : Int32) (M : Mem) : Option (Mem) := (if (M 2 i0 2) < 50 then (if ib (M 2 i0 2) 50 = true then (some (up3 (up3 M 13 i0 ((M 2 i0 2).toNatClampNeg) v1) 2 i0 2 ((M 2 i0 2) + 1))) else none) else (some M))
set_option maxRecDepth 100000 in
set_option maxHeartbeats 4000000 in
theorem X2_add_ok  {i0 : Nat} {v1 : Int32} {M N : Mem} {res : Mem} (hi0 : i0 < 7) (h : X2_add i0 v1 M = some res) : Spec mt_X2_add 0 [.inr (.inr (2, i0)), .inl v1] (M, N) none (res, N) := by
  unfold X2_add at h
  refine Spec_of_G (by decide) rfl (Nat.le_of_ble_eq_true rfl) ?_
  refine G_sub [(0, .inr (.inr (2, i0))), (1, .inl v1)] [0, 1] rfl ?_
  refine G_aload_n dX2_add_0 rfl ?_
  refine fg_X2_18 (v := (M 2 i0 2)) rfl rfl hi0 dX2_add_1 ?_
  refine G_bipush (v := 50) dX2_add_4 (by decide) ?_
  refine G_icmp_ge (tgt := 29) dX2_add_6 (by decide) (fun hc1 => ?_) (fun hc1 => ?_)
  · replace h := (if_neg hc1).symm.trans h
    obtain rfl := Option.some.inj h
    exact G_ret dX2_add_29 trivial rfl rfl
  · replace h := (if_pos hc1).symm.trans h
    refine G_aload_n dX2_add_9 rfl ?_
    refine fg_X2_9 rfl hi0 dX2_add_10 ?_
    refine G_aload_n dX2_add_13 rfl ?_
    refine fg_X2_18 (v := (M 2 i0 2)) rfl rfl hi0 dX2_add_14 ?_
    refine G_iload_n dX2_add_17 rfl ?_
    obtain ⟨hb1, h⟩ := chk h
    have lhb1 := ib_lt hb1
    refine as_13 (kk := (M 2 i0 2).toNatClampNeg) hi0 hb1 rfl dX2_add_18 ?_
    refine G_aload_n dX2_add_19 rfl ?_
    refine G_dup rfl dX2_add_20 ?_
    refine fg_X2_18 (v := (M 2 i0 2)) (up3_f (by decide)) rfl hi0 dX2_add_21 ?_
    refine G_iconst (v := 1) dX2_add_24 (by decide) ?_
    refine G_iadd dX2_add_25 ?_
    refine fp_X2_18 rfl hi0 dX2_add_26 ?_
    obtain rfl := Option.some.inj h
    exact G_ret dX2_add_29 trivial rfl rfl

theorem dX2_copy_0 : decode cX2_copy 0 = .ok (.aload_n 1, 1) := by decide +kernel
theorem dX2_copy_1 : decode cX2_copy 1 = .ok (.getfield 9, 3) := by decide +kernel
theorem dX2_copy_4 : decode cX2_copy 4 = .ok (.iconst 0, 1) := by decide +kernel
theorem dX2_copy_5 : decode cX2_copy 5 = .ok (.aload_n 0, 1) := by decide +kernel
theorem dX2_copy_6 : decode cX2_copy 6 = .ok (.getfield 9, 3) := by decide +kernel
theorem dX2_copy_9 : decode cX2_copy 9 = .ok (.iconst 0, 1) := by decide +kernel
theorem dX2_copy_10 : decode cX2_copy 10 = .ok (.aload_n 1, 1) := by decide +kernel
theorem dX2_copy_11 : decode cX2_copy 11 = .ok (.getfield 18, 3) := by decide +kernel
theorem dX2_copy_14 : decode cX2_copy 14 = .ok (.invokestatic 22, 3) := by decide +kernel
theorem dX2_copy_17 : decode cX2_copy 17 = .ok (.aload_n 0, 1) := by decide +kernel
theorem dX2_copy_18 : decode cX2_copy 18 = .ok (.aload_n 1, 1) := by decide +kernel
theorem dX2_copy_19 : decode cX2_copy 19 = .ok (.getfield 18, 3) := by decide +kernel
theorem dX2_copy_22 : decode cX2_copy 22 = .ok (.putfield 18, 3) := by decide +kernel
theorem dX2_copy_25 : decode cX2_copy 25 = .ok (.return_, 1) := by decide +kernel
def X2_copy (i0 : Nat) (i1 : Nat) (M : Mem) : Option (Mem) := (if cpok (0 : Int32) (0 : Int32) (M 2 i1 2) 50 50 = true then (some (up3 (cp3 M 13 i1 0 13 i0 0 ((M 2 i1 2).toNatClampNeg)) 2 i0 2 (M 2 i1 2))) else none)
set_option maxRecDepth 100000 in
set_option maxHeartbeats 4000000 in
theorem X2_copy_ok  {i0 : Nat} {i1 : Nat} {M N : Mem} {res : Mem} (hi0 : i0 < 7) (hi1 : i1 < 7) (h : X2_copy i0 i1 M = some res) : Spec mt_X2_copy 1 [.inr (.inr (2, i0)), .inr (.inr (2, i1))] (M, N) none (res, N) := by
  unfold X2_copy at h
  refine Spec_of_G (by decide) rfl (Nat.le_of_ble_eq_true rfl) ?_
  refine G_sub [(0, .inr (.inr (2, i0))), (1, .inr (.inr (2, i1)))] [0, 1] rfl ?_
  refine G_aload_n dX2_copy_0 rfl ?_
  refine fg_X2_9 rfl hi1 dX2_copy_1 ?_
  refine G_iconst (v := 0) dX2_copy_4 (by decide) ?_
  refine G_aload_n dX2_copy_5 rfl ?_
  refine fg_X2_9 rfl hi0 dX2_copy_6 ?_
  refine G_iconst (v := 0) dX2_copy_9 (by decide) ?_
  refine G_aload_n dX2_copy_10 rfl ?_
  refine fg_X2_18 (v := (M 2 i1 2)) rfl rfl hi1 dX2_copy_11 ?_
  obtain ⟨hb1, h⟩ := chk h
  refine G_copy (M2 := ((cp3 M 13 i1 0 13 i0 0 ((M 2 i1 2).toNatClampNeg)), N)) ml_X2_22 na_copy st_copy in_System (by decide) (show i1 < 7 from hi1) (by decide) (show i0 < 7 from hi0) (by decide) (by decide) (by decide) hb1 (by decide) rfl rfl dX2_copy_14 ?_
  refine G_aload_n dX2_copy_17 rfl ?_
  refine G_aload_n dX2_copy_18 rfl ?_
  refine fg_X2_18 (v := (M 2 i1 2)) (cp3_f (by decide)) rfl hi1 dX2_copy_19 ?_
  refine fp_X2_18 rfl hi0 dX2_copy_22 ?_
  obtain rfl := Option.some.inj h
  exact G_ret dX2_copy_25 trivial rfl rfl

theorem dX2_stands_0 : decode cX2_stands 0 = .ok (.aload_n 0, 1) := by decide +kernel
theorem dX2_stands_1 : decode cX2_stands 1 = .ok (.getfield 18, 3) := by decide +kernel
theorem dX2_stands_4 : decode cX2_stands 4 = .ok (.ifCond .le 7, 3) := by decide +kernel
theorem dX2_stands_7 : decode cX2_stands 7 = .ok (.iconst 1, 1) := by decide +kernel
theorem dX2_stands_8 : decode cX2_stands 8 = .ok (.goto 4, 3) := by decide +kernel
theorem dX2_stands_11 : decode cX2_stands 11 = .ok (.iconst 0, 1) := by decide +kernel
theorem dX2_stands_12 : decode cX2_stands 12 = .ok (.ireturn, 1) := by decide +kernel
def X2_stands (i0 : Nat) (M : Mem) : Int32 := (if 0 < (M 2 i0 2) then 1 else 0)
set_option maxRecDepth 100000 in
set_option maxHeartbeats 4000000 in
theorem X2_stands_ok  {i0 : Nat} {M N : Mem} {res : Int32} (hi0 : i0 < 7) (h : X2_stands i0 M = res) : Spec mt_X2_stands 0 [.inr (.inr (2, i0))] (M, N) (some (.inl res)) (M, N) := by
  unfold X2_stands at h
  refine Spec_of_G (by decide) rfl (Nat.le_of_ble_eq_true rfl) ?_
  refine G_sub [(0, .inr (.inr (2, i0)))] [0] rfl ?_
  refine G_aload_n dX2_stands_0 rfl ?_
  refine fg_X2_18 (v := (M 2 i0 2)) rfl rfl hi0 dX2_stands_1 ?_
  refine G_if_le (tgt := 11) dX2_stands_4 (by decide) (fun hc1 => ?_) (fun hc1 => ?_)
  · replace h := (if_neg hc1).symm.trans h
    refine G_iconst (v := 0) dX2_stands_11 (by decide) ?_
    subst h
    exact G_ret dX2_stands_12 (Or.inl rfl) rfl rfl
  · replace h := (if_pos hc1).symm.trans h
    refine G_iconst (v := 1) dX2_stands_7 (by decide) ?_
    refine G_goto (tgt := 12) dX2_stands_8 (by decide) ?_
    subst h
    exact G_ret dX2_stands_12 (Or.inr rfl) rfl rfl
theorem X2_stands_z {i0 : Nat} {M : Mem} : X2_stands i0 M = 0 ∨ X2_stands i0 M = 1 := by
  unfold X2_stands
  (repeat' split) <;> first | exact Or.inl rfl | exact Or.inr rfl | exact X8_in_z

theorem dX2_joined_0 : decode cX2_joined 0 = .ok (.iload_n 0, 1) := by decide +kernel
theorem dX2_joined_1 : decode cX2_joined 1 = .ok (.lookupswitch 188 #[(37, 176), (38, 105), (42, 160), (43, 152), (45, 156), (47, 164), (60, 119), (61, 130), (62, 141), (124, 91)], 91) := by decide +kernel
theorem dX2_joined_92 : decode cX2_joined 92 = .ok (.iload_n 1, 1) := by decide +kernel
theorem dX2_joined_93 : decode cX2_joined 93 = .ok (.ifCond .ne 7, 3) := by decide +kernel
theorem dX2_joined_96 : decode cX2_joined 96 = .ok (.iload_n 2, 1) := by decide +kernel
theorem dX2_joined_97 : decode cX2_joined 97 = .ok (.ifCond .eq 7, 3) := by decide +kernel
theorem dX2_joined_100 : decode cX2_joined 100 = .ok (.iconst 1, 1) := by decide +kernel
theorem dX2_joined_101 : decode cX2_joined 101 = .ok (.goto 4, 3) := by decide +kernel
theorem dX2_joined_104 : decode cX2_joined 104 = .ok (.iconst 0, 1) := by decide +kernel
theorem dX2_joined_105 : decode cX2_joined 105 = .ok (.ireturn, 1) := by decide +kernel
theorem dX2_joined_106 : decode cX2_joined 106 = .ok (.iload_n 1, 1) := by decide +kernel
theorem dX2_joined_107 : decode cX2_joined 107 = .ok (.ifCond .eq 11, 3) := by decide +kernel
theorem dX2_joined_110 : decode cX2_joined 110 = .ok (.iload_n 2, 1) := by decide +kernel
theorem dX2_joined_111 : decode cX2_joined 111 = .ok (.ifCond .eq 7, 3) := by decide +kernel
theorem dX2_joined_114 : decode cX2_joined 114 = .ok (.iconst 1, 1) := by decide +kernel
theorem dX2_joined_115 : decode cX2_joined 115 = .ok (.goto 4, 3) := by decide +kernel
theorem dX2_joined_118 : decode cX2_joined 118 = .ok (.iconst 0, 1) := by decide +kernel
theorem dX2_joined_119 : decode cX2_joined 119 = .ok (.ireturn, 1) := by decide +kernel
theorem dX2_joined_120 : decode cX2_joined 120 = .ok (.iload_n 1, 1) := by decide +kernel
theorem dX2_joined_121 : decode cX2_joined 121 = .ok (.iload_n 2, 1) := by decide +kernel
theorem dX2_joined_122 : decode cX2_joined 122 = .ok (.if_icmp .ge 7, 3) := by decide +kernel
theorem dX2_joined_125 : decode cX2_joined 125 = .ok (.iconst 1, 1) := by decide +kernel
theorem dX2_joined_126 : decode cX2_joined 126 = .ok (.goto 4, 3) := by decide +kernel
theorem dX2_joined_129 : decode cX2_joined 129 = .ok (.iconst 0, 1) := by decide +kernel
theorem dX2_joined_130 : decode cX2_joined 130 = .ok (.ireturn, 1) := by decide +kernel
theorem dX2_joined_131 : decode cX2_joined 131 = .ok (.iload_n 1, 1) := by decide +kernel
theorem dX2_joined_132 : decode cX2_joined 132 = .ok (.iload_n 2, 1) := by decide +kernel
theorem dX2_joined_133 : decode cX2_joined 133 = .ok (.if_icmp .ne 7, 3) := by decide +kernel
theorem dX2_joined_136 : decode cX2_joined 136 = .ok (.iconst 1, 1) := by decide +kernel
theorem dX2_joined_137 : decode cX2_joined 137 = .ok (.goto 4, 3) := by decide +kernel
theorem dX2_joined_140 : decode cX2_joined 140 = .ok (.iconst 0, 1) := by decide +kernel
theorem dX2_joined_141 : decode cX2_joined 141 = .ok (.ireturn, 1) := by decide +kernel
theorem dX2_joined_142 : decode cX2_joined 142 = .ok (.iload_n 1, 1) := by decide +kernel
theorem dX2_joined_143 : decode cX2_joined 143 = .ok (.iload_n 2, 1) := by decide +kernel
theorem dX2_joined_144 : decode cX2_joined 144 = .ok (.if_icmp .le 7, 3) := by decide +kernel
theorem dX2_joined_147 : decode cX2_joined 147 = .ok (.iconst 1, 1) := by decide +kernel
theorem dX2_joined_148 : decode cX2_joined 148 = .ok (.goto 4, 3) := by decide +kernel
theorem dX2_joined_151 : decode cX2_joined 151 = .ok (.iconst 0, 1) := by decide +kernel
theorem dX2_joined_152 : decode cX2_joined 152 = .ok (.ireturn, 1) := by decide +kernel
theorem dX2_joined_153 : decode cX2_joined 153 = .ok (.iload_n 1, 1) := by decide +kernel
theorem dX2_joined_154 : decode cX2_joined 154 = .ok (.iload_n 2, 1) := by decide +kernel
theorem dX2_joined_155 : decode cX2_joined 155 = .ok (.iadd, 1) := by decide +kernel
theorem dX2_joined_156 : decode cX2_joined 156 = .ok (.ireturn, 1) := by decide +kernel
theorem dX2_joined_157 : decode cX2_joined 157 = .ok (.iload_n 1, 1) := by decide +kernel
theorem dX2_joined_158 : decode cX2_joined 158 = .ok (.iload_n 2, 1) := by decide +kernel
theorem dX2_joined_159 : decode cX2_joined 159 = .ok (.isub, 1) := by decide +kernel
theorem dX2_joined_160 : decode cX2_joined 160 = .ok (.ireturn, 1) := by decide +kernel
theorem dX2_joined_161 : decode cX2_joined 161 = .ok (.iload_n 1, 1) := by decide +kernel
theorem dX2_joined_162 : decode cX2_joined 162 = .ok (.iload_n 2, 1) := by decide +kernel
theorem dX2_joined_163 : decode cX2_joined 163 = .ok (.imul, 1) := by decide +kernel
theorem dX2_joined_164 : decode cX2_joined 164 = .ok (.ireturn, 1) := by decide +kernel
theorem dX2_joined_165 : decode cX2_joined 165 = .ok (.iload_n 2, 1) := by decide +kernel
theorem dX2_joined_166 : decode cX2_joined 166 = .ok (.ifCond .ne 7, 3) := by decide +kernel
theorem dX2_joined_169 : decode cX2_joined 169 = .ok (.iconst 0, 1) := by decide +kernel
theorem dX2_joined_170 : decode cX2_joined 170 = .ok (.goto 6, 3) := by decide +kernel
theorem dX2_joined_173 : decode cX2_joined 173 = .ok (.iload_n 1, 1) := by decide +kernel
theorem dX2_joined_174 : decode cX2_joined 174 = .ok (.iload_n 2, 1) := by decide +kernel
theorem dX2_joined_175 : decode cX2_joined 175 = .ok (.idiv, 1) := by decide +kernel
theorem dX2_joined_176 : decode cX2_joined 176 = .ok (.ireturn, 1) := by decide +kernel
theorem dX2_joined_177 : decode cX2_joined 177 = .ok (.iload_n 2, 1) := by decide +kernel
theorem dX2_joined_178 : decode cX2_joined 178 = .ok (.ifCond .ne 7, 3) := by decide +kernel
theorem dX2_joined_181 : decode cX2_joined 181 = .ok (.iconst 0, 1) := by decide +kernel
theorem dX2_joined_182 : decode cX2_joined 182 = .ok (.goto 6, 3) := by decide +kernel
theorem dX2_joined_185 : decode cX2_joined 185 = .ok (.iload_n 1, 1) := by decide +kernel
theorem dX2_joined_186 : decode cX2_joined 186 = .ok (.iload_n 2, 1) := by decide +kernel
theorem dX2_joined_187 : decode cX2_joined 187 = .ok (.irem, 1) := by decide +kernel
theorem dX2_joined_188 : decode cX2_joined 188 = .ok (.ireturn, 1) := by decide +kernel
theorem dX2_joined_189 : decode cX2_joined 189 = .ok (.iconst 0, 1) := by decide +kernel
theorem dX2_joined_190 : decode cX2_joined 190 = .ok (.ireturn, 1) := by decide +kernel
def X2_joined (v0 : Int32) (v1 : Int32) (v2 : Int32) : Int32 := (if v0 = 37 then (if v2 = 0 then 0 else (jrem v1 v2)) else (if v0 = 38 then (if v1 = 0 then 0 else (if v2 = 0 then 0 else 1)) else (if v0 = 42 then (v1 * v2) else (if v0 = 43 then (v1 + v2) else (if v0 = 45 then (v1 - v2) else (if v0 = 47 then (if v2 = 0 then 0 else (v1 / v2)) else (if v0 = 60 then (if v1 < v2 then 1 else 0) else (if v0 = 61 then (if v1 = v2 then 1 else 0) else (if v0 = 62 then (if v2 < v1 then 1 else 0) else (if v0 = 124 then (if v1 = 0 then (if v2 = 0 then 0 else 1) else 1) else 0))))))))))
set_option maxRecDepth 100000 in
set_option maxHeartbeats 4000000 in
theorem X2_joined_ok  {v0 : Int32} {v1 : Int32} {v2 : Int32} {MM0 : MM} {res : Int32} (h : X2_joined v0 v1 v2 = res) : Spec mt_X2_joined 0 [.inl v0, .inl v1, .inl v2] MM0 (some (.inl res)) MM0 := by
  unfold X2_joined at h
  refine Spec_of_G (by decide) rfl (Nat.le_of_ble_eq_true rfl) ?_
  refine G_sub [(0, .inl v0), (1, .inl v1), (2, .inl v2)] [0, 1, 2] rfl ?_
  refine G_iload_n dX2_joined_0 rfl ?_
  by_cases hc1 : v0 = 37
  · replace h := (if_pos hc1).symm.trans h
    refine G_lookEq (off := 176) (tgt := 177) hc1 dX2_joined_1 (by decide) (by decide) (by decide) ?_
    refine G_iload_n dX2_joined_177 rfl ?_
    refine G_if_ne (tgt := 185) dX2_joined_178 (by decide) (fun hc2 => ?_) (fun hc2 => ?_)
    · replace h := (if_neg hc2).symm.trans h
      refine G_iload_n dX2_joined_185 rfl ?_
      refine G_iload_n dX2_joined_186 rfl ?_
      refine G_irem hc2 dX2_joined_187 ?_
      subst h
      exact G_ret dX2_joined_188 trivial rfl rfl
    · replace h := (if_pos hc2).symm.trans h
      refine G_iconst (v := 0) dX2_joined_181 (by decide) ?_
      refine G_goto (tgt := 188) dX2_joined_182 (by decide) ?_
      subst h
      exact G_ret dX2_joined_188 trivial rfl rfl
  replace h := (if_neg hc1).symm.trans h
  by_cases hc3 : v0 = 38
  · replace h := (if_pos hc3).symm.trans h
    refine G_lookEq (off := 105) (tgt := 106) hc3 dX2_joined_1 (by decide) (by decide) (by decide) ?_
    refine G_iload_n dX2_joined_106 rfl ?_
    refine G_if_eq (tgt := 118) dX2_joined_107 (by decide) (fun hc4 => ?_) (fun hc4 => ?_)
    · replace h := (if_pos hc4).symm.trans h
      refine G_iconst (v := 0) dX2_joined_118 (by decide) ?_
      subst h
      exact G_ret dX2_joined_119 trivial rfl rfl
    · replace h := (if_neg hc4).symm.trans h
      refine G_iload_n dX2_joined_110 rfl ?_
      refine G_if_eq (tgt := 118) dX2_joined_111 (by decide) (fun hc5 => ?_) (fun hc5 => ?_)
      · replace h := (if_pos hc5).symm.trans h
        refine G_iconst (v := 0) dX2_joined_118 (by decide) ?_
        subst h
        exact G_ret dX2_joined_119 trivial rfl rfl
      · replace h := (if_neg hc5).symm.trans h
        refine G_iconst (v := 1) dX2_joined_114 (by decide) ?_
        refine G_goto (tgt := 119) dX2_joined_115 (by decide) ?_
        subst h
        exact G_ret dX2_joined_119 trivial rfl rfl
  replace h := (if_neg hc3).symm.trans h
  by_cases hc6 : v0 = 42
  · replace h := (if_pos hc6).symm.trans h
    refine G_lookEq (off := 160) (tgt := 161) hc6 dX2_joined_1 (by decide) (by decide) (by decide) ?_
    refine G_iload_n dX2_joined_161 rfl ?_
    refine G_iload_n dX2_joined_162 rfl ?_
    refine G_imul dX2_joined_163 ?_
    subst h
    exact G_ret dX2_joined_164 trivial rfl rfl
  replace h := (if_neg hc6).symm.trans h
  by_cases hc7 : v0 = 43
  · replace h := (if_pos hc7).symm.trans h
    refine G_lookEq (off := 152) (tgt := 153) hc7 dX2_joined_1 (by decide) (by decide) (by decide) ?_
    refine G_iload_n dX2_joined_153 rfl ?_
    refine G_iload_n dX2_joined_154 rfl ?_
    refine G_iadd dX2_joined_155 ?_
    subst h
    exact G_ret dX2_joined_156 trivial rfl rfl
  replace h := (if_neg hc7).symm.trans h
  by_cases hc8 : v0 = 45
  · replace h := (if_pos hc8).symm.trans h
    refine G_lookEq (off := 156) (tgt := 157) hc8 dX2_joined_1 (by decide) (by decide) (by decide) ?_
    refine G_iload_n dX2_joined_157 rfl ?_
    refine G_iload_n dX2_joined_158 rfl ?_
    refine G_isub dX2_joined_159 ?_
    subst h
    exact G_ret dX2_joined_160 trivial rfl rfl
  replace h := (if_neg hc8).symm.trans h
  by_cases hc9 : v0 = 47
  · replace h := (if_pos hc9).symm.trans h
    refine G_lookEq (off := 164) (tgt := 165) hc9 dX2_joined_1 (by decide) (by decide) (by decide) ?_
    refine G_iload_n dX2_joined_165 rfl ?_
    refine G_if_ne (tgt := 173) dX2_joined_166 (by decide) (fun hc10 => ?_) (fun hc10 => ?_)
    · replace h := (if_neg hc10).symm.trans h
      refine G_iload_n dX2_joined_173 rfl ?_
      refine G_iload_n dX2_joined_174 rfl ?_
      refine G_idiv hc10 dX2_joined_175 ?_
      subst h
      exact G_ret dX2_joined_176 trivial rfl rfl
    · replace h := (if_pos hc10).symm.trans h
      refine G_iconst (v := 0) dX2_joined_169 (by decide) ?_
      refine G_goto (tgt := 176) dX2_joined_170 (by decide) ?_
      subst h
      exact G_ret dX2_joined_176 trivial rfl rfl
  replace h := (if_neg hc9).symm.trans h
  by_cases hc11 : v0 = 60
  · replace h := (if_pos hc11).symm.trans h
    refine G_lookEq (off := 119) (tgt := 120) hc11 dX2_joined_1 (by decide) (by decide) (by decide) ?_
    refine G_iload_n dX2_joined_120 rfl ?_
    refine G_iload_n dX2_joined_121 rfl ?_
    refine G_icmp_ge (tgt := 129) dX2_joined_122 (by decide) (fun hc12 => ?_) (fun hc12 => ?_)
    · replace h := (if_neg hc12).symm.trans h
      refine G_iconst (v := 0) dX2_joined_129 (by decide) ?_
      subst h
      exact G_ret dX2_joined_130 trivial rfl rfl
    · replace h := (if_pos hc12).symm.trans h
      refine G_iconst (v := 1) dX2_joined_125 (by decide) ?_
      refine G_goto (tgt := 130) dX2_joined_126 (by decide) ?_
      subst h
      exact G_ret dX2_joined_130 trivial rfl rfl
  replace h := (if_neg hc11).symm.trans h
  by_cases hc13 : v0 = 61
  · replace h := (if_pos hc13).symm.trans h
    refine G_lookEq (off := 130) (tgt := 131) hc13 dX2_joined_1 (by decide) (by decide) (by decide) ?_
    refine G_iload_n dX2_joined_131 rfl ?_
    refine G_iload_n dX2_joined_132 rfl ?_
    refine G_icmp_ne (tgt := 140) dX2_joined_133 (by decide) (fun hc14 => ?_) (fun hc14 => ?_)
    · replace h := (if_neg hc14).symm.trans h
      refine G_iconst (v := 0) dX2_joined_140 (by decide) ?_
      subst h
      exact G_ret dX2_joined_141 trivial rfl rfl
    · replace h := (if_pos hc14).symm.trans h
      refine G_iconst (v := 1) dX2_joined_136 (by decide) ?_
      refine G_goto (tgt := 141) dX2_joined_137 (by decide) ?_
      subst h
      exact G_ret dX2_joined_141 trivial rfl rfl
  replace h := (if_neg hc13).symm.trans h
  by_cases hc15 : v0 = 62
  · replace h := (if_pos hc15).symm.trans h
    refine G_lookEq (off := 141) (tgt := 142) hc15 dX2_joined_1 (by decide) (by decide) (by decide) ?_
    refine G_iload_n dX2_joined_142 rfl ?_
    refine G_iload_n dX2_joined_143 rfl ?_
    refine G_icmp_le (tgt := 151) dX2_joined_144 (by decide) (fun hc16 => ?_) (fun hc16 => ?_)
    · replace h := (if_neg hc16).symm.trans h
      refine G_iconst (v := 0) dX2_joined_151 (by decide) ?_
      subst h
      exact G_ret dX2_joined_152 trivial rfl rfl
    · replace h := (if_pos hc16).symm.trans h
      refine G_iconst (v := 1) dX2_joined_147 (by decide) ?_
      refine G_goto (tgt := 152) dX2_joined_148 (by decide) ?_
      subst h
      exact G_ret dX2_joined_152 trivial rfl rfl
  replace h := (if_neg hc15).symm.trans h
  by_cases hc17 : v0 = 124
  · replace h := (if_pos hc17).symm.trans h
    refine G_lookEq (off := 91) (tgt := 92) hc17 dX2_joined_1 (by decide) (by decide) (by decide) ?_
    refine G_iload_n dX2_joined_92 rfl ?_
    refine G_if_ne (tgt := 100) dX2_joined_93 (by decide) (fun hc18 => ?_) (fun hc18 => ?_)
    · replace h := (if_neg hc18).symm.trans h
      refine G_iconst (v := 1) dX2_joined_100 (by decide) ?_
      refine G_goto (tgt := 105) dX2_joined_101 (by decide) ?_
      subst h
      exact G_ret dX2_joined_105 trivial rfl rfl
    · replace h := (if_pos hc18).symm.trans h
      refine G_iload_n dX2_joined_96 rfl ?_
      refine G_if_eq (tgt := 104) dX2_joined_97 (by decide) (fun hc19 => ?_) (fun hc19 => ?_)
      · replace h := (if_pos hc19).symm.trans h
        refine G_iconst (v := 0) dX2_joined_104 (by decide) ?_
        subst h
        exact G_ret dX2_joined_105 trivial rfl rfl
      · replace h := (if_neg hc19).symm.trans h
        refine G_iconst (v := 1) dX2_joined_100 (by decide) ?_
        refine G_goto (tgt := 105) dX2_joined_101 (by decide) ?_
        subst h
        exact G_ret dX2_joined_105 trivial rfl rfl
  replace h := (if_neg hc17).symm.trans h
  have nhc1 := ne_lit (n := 37) (by decide) hc1
  have nhc3 := ne_lit (n := 38) (by decide) hc3
  have nhc6 := ne_lit (n := 42) (by decide) hc6
  have nhc7 := ne_lit (n := 43) (by decide) hc7
  have nhc8 := ne_lit (n := 45) (by decide) hc8
  have nhc9 := ne_lit (n := 47) (by decide) hc9
  have nhc11 := ne_lit (n := 60) (by decide) hc11
  have nhc13 := ne_lit (n := 61) (by decide) hc13
  have nhc15 := ne_lit (n := 62) (by decide) hc15
  have nhc17 := ne_lit (n := 124) (by decide) hc17
  refine G_lookup (off := 188) (tgt := 189) dX2_joined_1 (by decide) (by generalize (v0 : Int32).toInt = zz at nhc1 nhc3 nhc6 nhc7 nhc8 nhc9 nhc11 nhc13 nhc15 nhc17 ⊢; simp [Op.lookupswitch.offset, Ne.symm nhc1, Ne.symm nhc3, Ne.symm nhc6, Ne.symm nhc7, Ne.symm nhc8, Ne.symm nhc9, Ne.symm nhc11, Ne.symm nhc13, Ne.symm nhc15, Ne.symm nhc17]; done) (by decide) ?_
  refine G_iconst (v := 0) dX2_joined_189 (by decide) ?_
  subst h
  exact G_ret dX2_joined_190 trivial rfl rfl

theorem dX2_namedOrNumber_0 : decode cX2_namedOrNumber 0 = .ok (.iload_n 0, 1) := by decide +kernel
theorem dX2_namedOrNumber_1 : decode cX2_namedOrNumber 1 = .ok (.tableswitch 33 (-3) (-1) #[31, 29, 27], 27) := by decide +kernel
theorem dX2_namedOrNumber_28 : decode cX2_namedOrNumber 28 = .ok (.iload_n 1, 1) := by decide +kernel
theorem dX2_namedOrNumber_29 : decode cX2_namedOrNumber 29 = .ok (.ireturn, 1) := by decide +kernel
theorem dX2_namedOrNumber_30 : decode cX2_namedOrNumber 30 = .ok (.iload_n 2, 1) := by decide +kernel
theorem dX2_namedOrNumber_31 : decode cX2_namedOrNumber 31 = .ok (.ireturn, 1) := by decide +kernel
theorem dX2_namedOrNumber_32 : decode cX2_namedOrNumber 32 = .ok (.iload_n 3, 1) := by decide +kernel
theorem dX2_namedOrNumber_33 : decode cX2_namedOrNumber 33 = .ok (.ireturn, 1) := by decide +kernel
theorem dX2_namedOrNumber_34 : decode cX2_namedOrNumber 34 = .ok (.iload_n 0, 1) := by decide +kernel
theorem dX2_namedOrNumber_35 : decode cX2_namedOrNumber 35 = .ok (.ireturn, 1) := by decide +kernel
def X2_namedOrNumber (v0 : Int32) (v1 : Int32) (v2 : Int32) (v3 : Int32) : Int32 := (if v0 = (-3) then v3 else (if v0 = (-2) then v2 else (if v0 = (-1) then v1 else v0)))
set_option maxRecDepth 100000 in
set_option maxHeartbeats 4000000 in
theorem X2_namedOrNumber_ok  {v0 : Int32} {v1 : Int32} {v2 : Int32} {v3 : Int32} {MM0 : MM} {res : Int32} (h : X2_namedOrNumber v0 v1 v2 v3 = res) : Spec mt_X2_namedOrNumber 0 [.inl v0, .inl v1, .inl v2, .inl v3] MM0 (some (.inl res)) MM0 := by
  unfold X2_namedOrNumber at h
  refine Spec_of_G (by decide) rfl (Nat.le_of_ble_eq_true rfl) ?_
  refine G_sub [(0, .inl v0), (1, .inl v1), (2, .inl v2), (3, .inl v3)] [0, 1, 2, 3] rfl ?_
  refine G_iload_n dX2_namedOrNumber_0 rfl ?_
  by_cases hc1 : v0 = (-3)
  · replace h := (if_pos hc1).symm.trans h
    refine G_tableEq (off := 31) (tgt := 32) hc1 dX2_namedOrNumber_1 (by decide) (by decide) (by decide) (by decide) ?_
    refine G_iload_n dX2_namedOrNumber_32 rfl ?_
    subst h
    exact G_ret dX2_namedOrNumber_33 trivial rfl rfl
  replace h := (if_neg hc1).symm.trans h
  by_cases hc2 : v0 = (-2)
  · replace h := (if_pos hc2).symm.trans h
    refine G_tableEq (off := 29) (tgt := 30) hc2 dX2_namedOrNumber_1 (by decide) (by decide) (by decide) (by decide) ?_
    refine G_iload_n dX2_namedOrNumber_30 rfl ?_
    subst h
    exact G_ret dX2_namedOrNumber_31 trivial rfl rfl
  replace h := (if_neg hc2).symm.trans h
  by_cases hc3 : v0 = (-1)
  · replace h := (if_pos hc3).symm.trans h
    refine G_tableEq (off := 27) (tgt := 28) hc3 dX2_namedOrNumber_1 (by decide) (by decide) (by decide) (by decide) ?_
    refine G_iload_n dX2_namedOrNumber_28 rfl ?_
    subst h
    exact G_ret dX2_namedOrNumber_29 trivial rfl rfl
  replace h := (if_neg hc3).symm.trans h
  have nhc1 := ne_lit (n := (-3)) (by decide) hc1
  have nhc2 := ne_lit (n := (-2)) (by decide) hc2
  have nhc3 := ne_lit (n := (-1)) (by decide) hc3
  refine G_tableOut (tgt := 34) dX2_namedOrNumber_1 (by omega) (by decide) ?_
  refine G_iload_n dX2_namedOrNumber_34 rfl ?_
  subst h
  exact G_ret dX2_namedOrNumber_35 trivial rfl rfl

theorem dX2_workedOut_0 : decode cX2_workedOut 0 = .ok (.iconst 0, 1) := by decide +kernel
theorem dX2_workedOut_1 : decode cX2_workedOut 1 = .ok (.istore 4, 2) := by decide +kernel
theorem dX2_workedOut_3 : decode cX2_workedOut 3 = .ok (.iconst 0, 1) := by decide +kernel
theorem dX2_workedOut_4 : decode cX2_workedOut 4 = .ok (.istore 5, 2) := by decide +kernel
theorem dX2_workedOut_6 : decode cX2_workedOut 6 = .ok (.iload 5, 2) := by decide +kernel
theorem dX2_workedOut_8 : decode cX2_workedOut 8 = .ok (.aload_n 0, 1) := by decide +kernel
theorem dX2_workedOut_9 : decode cX2_workedOut 9 = .ok (.getfield 18, 3) := by decide +kernel
theorem dX2_workedOut_12 : decode cX2_workedOut 12 = .ok (.if_icmp .ge 135, 3) := by decide +kernel
theorem dX2_workedOut_15 : decode cX2_workedOut 15 = .ok (.aload_n 0, 1) := by decide +kernel
theorem dX2_workedOut_16 : decode cX2_workedOut 16 = .ok (.getfield 9, 3) := by decide +kernel
theorem dX2_workedOut_19 : decode cX2_workedOut 19 = .ok (.iload 5, 2) := by decide +kernel
theorem dX2_workedOut_21 : decode cX2_workedOut 21 = .ok (.iaload, 1) := by decide +kernel
theorem dX2_workedOut_22 : decode cX2_workedOut 22 = .ok (.istore 6, 2) := by decide +kernel
theorem dX2_workedOut_24 : decode cX2_workedOut 24 = .ok (.iload 6, 2) := by decide +kernel
theorem dX2_workedOut_26 : decode cX2_workedOut 26 = .ok (.bipush (-33), 2) := by decide +kernel
theorem dX2_workedOut_28 : decode cX2_workedOut 28 = .ok (.if_icmp .ne 38, 3) := by decide +kernel
theorem dX2_workedOut_31 : decode cX2_workedOut 31 = .ok (.iload 4, 2) := by decide +kernel
theorem dX2_workedOut_33 : decode cX2_workedOut 33 = .ok (.iconst 1, 1) := by decide +kernel
theorem dX2_workedOut_34 : decode cX2_workedOut 34 = .ok (.if_icmp .lt 107, 3) := by decide +kernel
theorem dX2_workedOut_37 : decode cX2_workedOut 37 = .ok (.aload_n 0, 1) := by decide +kernel
theorem dX2_workedOut_38 : decode cX2_workedOut 38 = .ok (.getfield 15, 3) := by decide +kernel
theorem dX2_workedOut_41 : decode cX2_workedOut 41 = .ok (.iload 4, 2) := by decide +kernel
theorem dX2_workedOut_43 : decode cX2_workedOut 43 = .ok (.iconst 1, 1) := by decide +kernel
theorem dX2_workedOut_44 : decode cX2_workedOut 44 = .ok (.isub, 1) := by decide +kernel
theorem dX2_workedOut_45 : decode cX2_workedOut 45 = .ok (.aload_n 0, 1) := by decide +kernel
theorem dX2_workedOut_46 : decode cX2_workedOut 46 = .ok (.getfield 15, 3) := by decide +kernel
theorem dX2_workedOut_49 : decode cX2_workedOut 49 = .ok (.iload 4, 2) := by decide +kernel
theorem dX2_workedOut_51 : decode cX2_workedOut 51 = .ok (.iconst 1, 1) := by decide +kernel
theorem dX2_workedOut_52 : decode cX2_workedOut 52 = .ok (.isub, 1) := by decide +kernel
theorem dX2_workedOut_53 : decode cX2_workedOut 53 = .ok (.iaload, 1) := by decide +kernel
theorem dX2_workedOut_54 : decode cX2_workedOut 54 = .ok (.ifCond .ne 7, 3) := by decide +kernel
theorem dX2_workedOut_57 : decode cX2_workedOut 57 = .ok (.iconst 1, 1) := by decide +kernel
theorem dX2_workedOut_58 : decode cX2_workedOut 58 = .ok (.goto 4, 3) := by decide +kernel
theorem dX2_workedOut_61 : decode cX2_workedOut 61 = .ok (.iconst 0, 1) := by decide +kernel
theorem dX2_workedOut_62 : decode cX2_workedOut 62 = .ok (.iastore, 1) := by decide +kernel
theorem dX2_workedOut_63 : decode cX2_workedOut 63 = .ok (.goto 78, 3) := by decide +kernel
theorem dX2_workedOut_66 : decode cX2_workedOut 66 = .ok (.iload 6, 2) := by decide +kernel
theorem dX2_workedOut_68 : decode cX2_workedOut 68 = .ok (.bipush (-3), 2) := by decide +kernel
theorem dX2_workedOut_70 : decode cX2_workedOut 70 = .ok (.if_icmp .ge 46, 3) := by decide +kernel
theorem dX2_workedOut_73 : decode cX2_workedOut 73 = .ok (.iload 4, 2) := by decide +kernel
theorem dX2_workedOut_75 : decode cX2_workedOut 75 = .ok (.iconst 2, 1) := by decide +kernel
theorem dX2_workedOut_76 : decode cX2_workedOut 76 = .ok (.if_icmp .lt 65, 3) := by decide +kernel
theorem dX2_workedOut_79 : decode cX2_workedOut 79 = .ok (.iinc 4 (-1), 3) := by decide +kernel
theorem dX2_workedOut_82 : decode cX2_workedOut 82 = .ok (.aload_n 0, 1) := by decide +kernel
theorem dX2_workedOut_83 : decode cX2_workedOut 83 = .ok (.getfield 15, 3) := by decide +kernel
theorem dX2_workedOut_86 : decode cX2_workedOut 86 = .ok (.iload 4, 2) := by decide +kernel
theorem dX2_workedOut_88 : decode cX2_workedOut 88 = .ok (.iconst 1, 1) := by decide +kernel
theorem dX2_workedOut_89 : decode cX2_workedOut 89 = .ok (.isub, 1) := by decide +kernel
theorem dX2_workedOut_90 : decode cX2_workedOut 90 = .ok (.iload 6, 2) := by decide +kernel
theorem dX2_workedOut_92 : decode cX2_workedOut 92 = .ok (.ineg, 1) := by decide +kernel
theorem dX2_workedOut_93 : decode cX2_workedOut 93 = .ok (.aload_n 0, 1) := by decide +kernel
theorem dX2_workedOut_94 : decode cX2_workedOut 94 = .ok (.getfield 15, 3) := by decide +kernel
theorem dX2_workedOut_97 : decode cX2_workedOut 97 = .ok (.iload 4, 2) := by decide +kernel
theorem dX2_workedOut_99 : decode cX2_workedOut 99 = .ok (.iconst 1, 1) := by decide +kernel
theorem dX2_workedOut_100 : decode cX2_workedOut 100 = .ok (.isub, 1) := by decide +kernel
theorem dX2_workedOut_101 : decode cX2_workedOut 101 = .ok (.iaload, 1) := by decide +kernel
theorem dX2_workedOut_102 : decode cX2_workedOut 102 = .ok (.aload_n 0, 1) := by decide +kernel
theorem dX2_workedOut_103 : decode cX2_workedOut 103 = .ok (.getfield 15, 3) := by decide +kernel
theorem dX2_workedOut_106 : decode cX2_workedOut 106 = .ok (.iload 4, 2) := by decide +kernel
theorem dX2_workedOut_108 : decode cX2_workedOut 108 = .ok (.iaload, 1) := by decide +kernel
theorem dX2_workedOut_109 : decode cX2_workedOut 109 = .ok (.invokestatic 28, 3) := by decide +kernel
theorem dX2_workedOut_112 : decode cX2_workedOut 112 = .ok (.iastore, 1) := by decide +kernel
theorem dX2_workedOut_113 : decode cX2_workedOut 113 = .ok (.goto 28, 3) := by decide +kernel
theorem dX2_workedOut_116 : decode cX2_workedOut 116 = .ok (.iload 4, 2) := by decide +kernel
theorem dX2_workedOut_118 : decode cX2_workedOut 118 = .ok (.bipush 50, 2) := by decide +kernel
theorem dX2_workedOut_120 : decode cX2_workedOut 120 = .ok (.if_icmp .ge 21, 3) := by decide +kernel
theorem dX2_workedOut_123 : decode cX2_workedOut 123 = .ok (.aload_n 0, 1) := by decide +kernel
theorem dX2_workedOut_124 : decode cX2_workedOut 124 = .ok (.getfield 15, 3) := by decide +kernel
theorem dX2_workedOut_127 : decode cX2_workedOut 127 = .ok (.iload 4, 2) := by decide +kernel
theorem dX2_workedOut_129 : decode cX2_workedOut 129 = .ok (.iload 6, 2) := by decide +kernel
theorem dX2_workedOut_131 : decode cX2_workedOut 131 = .ok (.iload_n 1, 1) := by decide +kernel
theorem dX2_workedOut_132 : decode cX2_workedOut 132 = .ok (.iload_n 2, 1) := by decide +kernel
theorem dX2_workedOut_133 : decode cX2_workedOut 133 = .ok (.iload_n 3, 1) := by decide +kernel
theorem dX2_workedOut_134 : decode cX2_workedOut 134 = .ok (.invokestatic 32, 3) := by decide +kernel
theorem dX2_workedOut_137 : decode cX2_workedOut 137 = .ok (.iastore, 1) := by decide +kernel
theorem dX2_workedOut_138 : decode cX2_workedOut 138 = .ok (.iinc 4 1, 3) := by decide +kernel
theorem dX2_workedOut_141 : decode cX2_workedOut 141 = .ok (.iinc 5 1, 3) := by decide +kernel
theorem dX2_workedOut_144 : decode cX2_workedOut 144 = .ok (.goto (-138), 3) := by decide +kernel
theorem dX2_workedOut_147 : decode cX2_workedOut 147 = .ok (.iload 4, 2) := by decide +kernel
theorem dX2_workedOut_149 : decode cX2_workedOut 149 = .ok (.ifCond .le 15, 3) := by decide +kernel
theorem dX2_workedOut_152 : decode cX2_workedOut 152 = .ok (.aload_n 0, 1) := by decide +kernel
theorem dX2_workedOut_153 : decode cX2_workedOut 153 = .ok (.getfield 15, 3) := by decide +kernel
theorem dX2_workedOut_156 : decode cX2_workedOut 156 = .ok (.iload 4, 2) := by decide +kernel
theorem dX2_workedOut_158 : decode cX2_workedOut 158 = .ok (.iconst 1, 1) := by decide +kernel
theorem dX2_workedOut_159 : decode cX2_workedOut 159 = .ok (.isub, 1) := by decide +kernel
theorem dX2_workedOut_160 : decode cX2_workedOut 160 = .ok (.iaload, 1) := by decide +kernel
theorem dX2_workedOut_161 : decode cX2_workedOut 161 = .ok (.goto 4, 3) := by decide +kernel
theorem dX2_workedOut_164 : decode cX2_workedOut 164 = .ok (.iconst 0, 1) := by decide +kernel
theorem dX2_workedOut_165 : decode cX2_workedOut 165 = .ok (.ireturn, 1) := by decide +kernel
def X2_workedOut_L6 : Nat → Nat → Int32 → Int32 → Int32 → Int32 → Int32 → Mem → Option (Int32 × Mem)
  | 0, _, _, _, _, _, _, _ => none
  | fu + 1, i0, v1, v2, v3, v4, v5, M => (if v5 < (M 2 i0 2) then (if ib v5 50 = true then (if (M 13 i0 v5.toNatClampNeg) = (-33) then (if v4 < 1 then (X2_workedOut_L6 fu i0 v1 v2 v3 v4 (v5 + 1) M) else (if ib (v4 - 1) 50 = true then (if (M 14 i0 ((v4 - 1).toNatClampNeg)) = 0 then (X2_workedOut_L6 fu i0 v1 v2 v3 v4 (v5 + 1) (up3 M 14 i0 ((v4 - 1).toNatClampNeg) 1)) else (X2_workedOut_L6 fu i0 v1 v2 v3 v4 (v5 + 1) (up3 M 14 i0 ((v4 - 1).toNatClampNeg) 0))) else none)) else (if (M 13 i0 v5.toNatClampNeg) < (-3) then (if v4 < 2 then (X2_workedOut_L6 fu i0 v1 v2 v3 v4 (v5 + 1) M) else (if ib ((v4 + (-1)) - 1) 50 = true then (if ib (v4 + (-1)) 50 = true then (X2_workedOut_L6 fu i0 v1 v2 v3 (v4 + (-1)) (v5 + 1) (up3 M 14 i0 (((v4 + (-1)) - 1).toNatClampNeg) (X2_joined (-(M 13 i0 v5.toNatClampNeg)) (M 14 i0 (((v4 + (-1)) - 1).toNatClampNeg)) (M 14 i0 ((v4 + (-1)).toNatClampNeg))))) else none) else none)) else (if v4 < 50 then (if ib v4 50 = true then (X2_workedOut_L6 fu i0 v1 v2 v3 (v4 + 1) (v5 + 1) (up3 M 14 i0 v4.toNatClampNeg (X2_namedOrNumber (M 13 i0 v5.toNatClampNeg) v1 v2 v3))) else none) else (X2_workedOut_L6 fu i0 v1 v2 v3 v4 (v5 + 1) M)))) else none) else (some (v4, M)))
set_option maxRecDepth 100000 in
set_option maxHeartbeats 4000000 in
theorem X2_workedOut_L6_ok  {r : Option AV} {M' : MM} : ∀ (fu : Nat) (i0 : Nat) (v1 : Int32) (v2 : Int32) (v3 : Int32) (v4 : Int32) (v5 : Int32) (M N : Mem) {res : Int32 × Mem} (hi0 : i0 < 7) (h : X2_workedOut_L6 fu i0 v1 v2 v3 v4 v5 M = some res) (K : G mt_X2_workedOut 1 r M' 147 [(0, .inr (.inr (2, i0))), (4, .inl res.1)] [] (res.2, N)), G mt_X2_workedOut 1 r M' 6 [(0, .inr (.inr (2, i0))), (1, .inl v1), (2, .inl v2), (3, .inl v3), (4, .inl v4), (5, .inl v5)] [] (M, N) := by
  intro fu
  induction fu with
  | zero =>
    intro i0 v1 v2 v3 v4 v5 M N res hi0 h
    cases h
  | succ fu ih =>
    intro i0 v1 v2 v3 v4 v5 M N res hi0 h K
    replace h : (if v5 < (M 2 i0 2) then (if ib v5 50 = true then (if (M 13 i0 v5.toNatClampNeg) = (-33) then (if v4 < 1 then (X2_workedOut_L6 fu i0 v1 v2 v3 v4 (v5 + 1) M) else (if ib (v4 - 1) 50 = true then (if (M 14 i0 ((v4 - 1).toNatClampNeg)) = 0 then (X2_workedOut_L6 fu i0 v1 v2 v3 v4 (v5 + 1) (up3 M 14 i0 ((v4 - 1).toNatClampNeg) 1)) else (X2_workedOut_L6 fu i0 v1 v2 v3 v4 (v5 + 1) (up3 M 14 i0 ((v4 - 1).toNatClampNeg) 0))) else none)) else (if (M 13 i0 v5.toNatClampNeg) < (-3) then (if v4 < 2 then (X2_workedOut_L6 fu i0 v1 v2 v3 v4 (v5 + 1) M) else (if ib ((v4 + (-1)) - 1) 50 = true then (if ib (v4 + (-1)) 50 = true then (X2_workedOut_L6 fu i0 v1 v2 v3 (v4 + (-1)) (v5 + 1) (up3 M 14 i0 (((v4 + (-1)) - 1).toNatClampNeg) (X2_joined (-(M 13 i0 v5.toNatClampNeg)) (M 14 i0 (((v4 + (-1)) - 1).toNatClampNeg)) (M 14 i0 ((v4 + (-1)).toNatClampNeg))))) else none) else none)) else (if v4 < 50 then (if ib v4 50 = true then (X2_workedOut_L6 fu i0 v1 v2 v3 (v4 + 1) (v5 + 1) (up3 M 14 i0 v4.toNatClampNeg (X2_namedOrNumber (M 13 i0 v5.toNatClampNeg) v1 v2 v3))) else none) else (X2_workedOut_L6 fu i0 v1 v2 v3 v4 (v5 + 1) M)))) else none) else (some (v4, M))) = some res := h
    refine G_iload dX2_workedOut_6 rfl ?_
    refine G_aload_n dX2_workedOut_8 rfl ?_
    refine fg_X2_18 (v := (M 2 i0 2)) rfl rfl hi0 dX2_workedOut_9 ?_
    refine G_icmp_ge (tgt := 147) dX2_workedOut_12 (by decide) (fun hc1 => ?_) (fun hc1 => ?_)
    · replace h := (if_neg hc1).symm.trans h
      refine G_sub [(0, .inr (.inr (2, i0))), (4, .inl v4)] [0, 4] rfl ?_
      obtain rfl := Option.some.inj h
      exact K
    · replace h := (if_pos hc1).symm.trans h
      refine G_aload_n dX2_workedOut_15 rfl ?_
      refine fg_X2_9 rfl hi0 dX2_workedOut_16 ?_
      refine G_iload dX2_workedOut_19 rfl ?_
      obtain ⟨hb1, h⟩ := chk h
      have lhb1 := ib_lt hb1
      refine al_13 (kk := v5.toNatClampNeg) (v := (M 13 i0 v5.toNatClampNeg)) hi0 hb1 rfl rfl dX2_workedOut_21 ?_
      refine G_istore (L2 := [(6, .inl (M 13 i0 v5.toNatClampNeg)), (0, .inr (.inr (2, i0))), (1, .inl v1), (2, .inl v2), (3, .inl v3), (4, .inl v4), (5, .inl v5)]) dX2_workedOut_22 (by decide) rfl ?_
      refine G_iload dX2_workedOut_24 rfl ?_
      refine G_bipush (v := (-33)) dX2_workedOut_26 (by decide) ?_
      refine G_icmp_ne (tgt := 66) dX2_workedOut_28 (by decide) (fun hc2 => ?_) (fun hc2 => ?_)
      · replace h := (if_neg hc2).symm.trans h
        refine G_iload dX2_workedOut_66 rfl ?_
        refine G_bipush (v := (-3)) dX2_workedOut_68 (by decide) ?_
        refine G_icmp_ge (tgt := 116) dX2_workedOut_70 (by decide) (fun hc3 => ?_) (fun hc3 => ?_)
        · replace h := (if_neg hc3).symm.trans h
          refine G_iload dX2_workedOut_116 rfl ?_
          refine G_bipush (v := 50) dX2_workedOut_118 (by decide) ?_
          refine G_icmp_ge (tgt := 141) dX2_workedOut_120 (by decide) (fun hc4 => ?_) (fun hc4 => ?_)
          · replace h := (if_neg hc4).symm.trans h
            refine G_iinc (v := (v5 + 1)) (L2 := [(5, .inl (v5 + 1)), (6, .inl (M 13 i0 v5.toNatClampNeg)), (0, .inr (.inr (2, i0))), (1, .inl v1), (2, .inl v2), (3, .inl v3), (4, .inl v4)]) dX2_workedOut_141 rfl (by first | rfl | (show _ + Int32.ofInt _ = _; rfl)) (by decide) rfl ?_
            refine G_goto (tgt := 6) dX2_workedOut_144 (by decide) ?_
            refine G_sub [(0, .inr (.inr (2, i0))), (1, .inl v1), (2, .inl v2), (3, .inl v3), (4, .inl v4), (5, .inl (v5 + 1))] [2, 3, 4, 5, 6, 0] rfl ?_
            exact ih i0 v1 v2 v3 v4 (v5 + 1) M _ hi0 h K
          · replace h := (if_pos hc4).symm.trans h
            refine G_aload_n dX2_workedOut_123 rfl ?_
            refine fg_X2_15 rfl hi0 dX2_workedOut_124 ?_
            refine G_iload dX2_workedOut_127 rfl ?_
            refine G_iload dX2_workedOut_129 rfl ?_
            refine G_iload_n dX2_workedOut_131 rfl ?_
            refine G_iload_n dX2_workedOut_132 rfl ?_
            refine G_iload_n dX2_workedOut_133 rfl ?_
            refine G_callSv  (X2_namedOrNumber_ok rfl) ok_X2_namedOrNumber ml_X2_32 (by decide) rfl rfl (Nat.le_of_ble_eq_true rfl) dX2_workedOut_134 ?_
            obtain ⟨hb2, h⟩ := chk h
            have lhb2 := ib_lt hb2
            refine as_14 (kk := v4.toNatClampNeg) hi0 hb2 rfl dX2_workedOut_137 ?_
            refine G_iinc (v := (v4 + 1)) (L2 := [(4, .inl (v4 + 1)), (6, .inl (M 13 i0 v5.toNatClampNeg)), (0, .inr (.inr (2, i0))), (1, .inl v1), (2, .inl v2), (3, .inl v3), (5, .inl v5)]) dX2_workedOut_138 rfl (by first | rfl | (show _ + Int32.ofInt _ = _; rfl)) (by decide) rfl ?_
            refine G_iinc (v := (v5 + 1)) (L2 := [(5, .inl (v5 + 1)), (4, .inl (v4 + 1)), (6, .inl (M 13 i0 v5.toNatClampNeg)), (0, .inr (.inr (2, i0))), (1, .inl v1), (2, .inl v2), (3, .inl v3)]) dX2_workedOut_141 rfl (by first | rfl | (show _ + Int32.ofInt _ = _; rfl)) (by decide) rfl ?_
            refine G_goto (tgt := 6) dX2_workedOut_144 (by decide) ?_
            refine G_sub [(0, .inr (.inr (2, i0))), (1, .inl v1), (2, .inl v2), (3, .inl v3), (4, .inl (v4 + 1)), (5, .inl (v5 + 1))] [3, 4, 5, 6, 1, 0] rfl ?_
            exact ih i0 v1 v2 v3 (v4 + 1) (v5 + 1) (up3 M 14 i0 v4.toNatClampNeg (X2_namedOrNumber (M 13 i0 v5.toNatClampNeg) v1 v2 v3)) _ hi0 h K
        · replace h := (if_pos hc3).symm.trans h
          refine G_iload dX2_workedOut_73 rfl ?_
          refine G_iconst (v := 2) dX2_workedOut_75 (by decide) ?_
          refine G_icmp_lt (tgt := 141) dX2_workedOut_76 (by decide) (fun hc5 => ?_) (fun hc5 => ?_)
          · replace h := (if_pos hc5).symm.trans h
            refine G_iinc (v := (v5 + 1)) (L2 := [(5, .inl (v5 + 1)), (6, .inl (M 13 i0 v5.toNatClampNeg)), (0, .inr (.inr (2, i0))), (1, .inl v1), (2, .inl v2), (3, .inl v3), (4, .inl v4)]) dX2_workedOut_141 rfl (by first | rfl | (show _ + Int32.ofInt _ = _; rfl)) (by decide) rfl ?_
            refine G_goto (tgt := 6) dX2_workedOut_144 (by decide) ?_
            refine G_sub [(0, .inr (.inr (2, i0))), (1, .inl v1), (2, .inl v2), (3, .inl v3), (4, .inl v4), (5, .inl (v5 + 1))] [2, 3, 4, 5, 6, 0] rfl ?_
            exact ih i0 v1 v2 v3 v4 (v5 + 1) M _ hi0 h K
          · replace h := (if_neg hc5).symm.trans h
            refine G_iinc (v := (v4 + (-1))) (L2 := [(4, .inl (v4 + (-1))), (6, .inl (M 13 i0 v5.toNatClampNeg)), (0, .inr (.inr (2, i0))), (1, .inl v1), (2, .inl v2), (3, .inl v3), (5, .inl v5)]) dX2_workedOut_79 rfl (by first | rfl | (show _ + Int32.ofInt _ = _; rfl)) (by decide) rfl ?_
            refine G_aload_n dX2_workedOut_82 rfl ?_
            refine fg_X2_15 rfl hi0 dX2_workedOut_83 ?_
            refine G_iload dX2_workedOut_86 rfl ?_
            refine G_iconst (v := 1) dX2_workedOut_88 (by decide) ?_
            refine G_isub dX2_workedOut_89 ?_
            refine G_iload dX2_workedOut_90 rfl ?_
            refine G_ineg dX2_workedOut_92 ?_
            refine G_aload_n dX2_workedOut_93 rfl ?_
            refine fg_X2_15 rfl hi0 dX2_workedOut_94 ?_
            refine G_iload dX2_workedOut_97 rfl ?_
            refine G_iconst (v := 1) dX2_workedOut_99 (by decide) ?_
            refine G_isub dX2_workedOut_100 ?_
            obtain ⟨hb3, h⟩ := chk h
            have lhb3 := ib_lt hb3
            refine al_14 (kk := ((v4 + (-1)) - 1).toNatClampNeg) (v := (M 14 i0 (((v4 + (-1)) - 1).toNatClampNeg))) hi0 hb3 rfl rfl dX2_workedOut_101 ?_
            refine G_aload_n dX2_workedOut_102 rfl ?_
            refine fg_X2_15 rfl hi0 dX2_workedOut_103 ?_
            refine G_iload dX2_workedOut_106 rfl ?_
            obtain ⟨hb4, h⟩ := chk h
            have lhb4 := ib_lt hb4
            refine al_14 (kk := (v4 + (-1)).toNatClampNeg) (v := (M 14 i0 ((v4 + (-1)).toNatClampNeg))) hi0 hb4 rfl rfl dX2_workedOut_108 ?_
            refine G_callSv  (X2_joined_ok rfl) ok_X2_joined ml_X2_28 (by decide) rfl rfl (Nat.le_of_ble_eq_true rfl) dX2_workedOut_109 ?_
            refine as_14 (kk := ((v4 + (-1)) - 1).toNatClampNeg) hi0 hb3 rfl dX2_workedOut_112 ?_
            refine G_goto (tgt := 141) dX2_workedOut_113 (by decide) ?_
            refine G_iinc (v := (v5 + 1)) (L2 := [(5, .inl (v5 + 1)), (4, .inl (v4 + (-1))), (6, .inl (M 13 i0 v5.toNatClampNeg)), (0, .inr (.inr (2, i0))), (1, .inl v1), (2, .inl v2), (3, .inl v3)]) dX2_workedOut_141 rfl (by first | rfl | (show _ + Int32.ofInt _ = _; rfl)) (by decide) rfl ?_
            refine G_goto (tgt := 6) dX2_workedOut_144 (by decide) ?_
            refine G_sub [(0, .inr (.inr (2, i0))), (1, .inl v1), (2, .inl v2), (3, .inl v3), (4, .inl (v4 + (-1))), (5, .inl (v5 + 1))] [3, 4, 5, 6, 1, 0] rfl ?_
            exact ih i0 v1 v2 v3 (v4 + (-1)) (v5 + 1) (up3 M 14 i0 (((v4 + (-1)) - 1).toNatClampNeg) (X2_joined (-(M 13 i0 v5.toNatClampNeg)) (M 14 i0 (((v4 + (-1)) - 1).toNatClampNeg)) (M 14 i0 ((v4 + (-1)).toNatClampNeg)))) _ hi0 h K
      · replace h := (if_pos hc2).symm.trans h
        refine G_iload dX2_workedOut_31 rfl ?_
        refine G_iconst (v := 1) dX2_workedOut_33 (by decide) ?_
        refine G_icmp_lt (tgt := 141) dX2_workedOut_34 (by decide) (fun hc6 => ?_) (fun hc6 => ?_)
        · replace h := (if_pos hc6).symm.trans h
          refine G_iinc (v := (v5 + 1)) (L2 := [(5, .inl (v5 + 1)), (6, .inl (M 13 i0 v5.toNatClampNeg)), (0, .inr (.inr (2, i0))), (1, .inl v1), (2, .inl v2), (3, .inl v3), (4, .inl v4)]) dX2_workedOut_141 rfl (by first | rfl | (show _ + Int32.ofInt _ = _; rfl)) (by decide) rfl ?_
          refine G_goto (tgt := 6) dX2_workedOut_144 (by decide) ?_
          refine G_sub [(0, .inr (.inr (2, i0))), (1, .inl v1), (2, .inl v2), (3, .inl v3), (4, .inl v4), (5, .inl (v5 + 1))] [2, 3, 4, 5, 6, 0] rfl ?_
          exact ih i0 v1 v2 v3 v4 (v5 + 1) M _ hi0 h K
        · replace h := (if_neg hc6).symm.trans h
          refine G_aload_n dX2_workedOut_37 rfl ?_
          refine fg_X2_15 rfl hi0 dX2_workedOut_38 ?_
          refine G_iload dX2_workedOut_41 rfl ?_
          refine G_iconst (v := 1) dX2_workedOut_43 (by decide) ?_
          refine G_isub dX2_workedOut_44 ?_
          refine G_aload_n dX2_workedOut_45 rfl ?_
          refine fg_X2_15 rfl hi0 dX2_workedOut_46 ?_
          refine G_iload dX2_workedOut_49 rfl ?_
          refine G_iconst (v := 1) dX2_workedOut_51 (by decide) ?_
          refine G_isub dX2_workedOut_52 ?_
          obtain ⟨hb5, h⟩ := chk h
          have lhb5 := ib_lt hb5
          refine al_14 (kk := (v4 - 1).toNatClampNeg) (v := (M 14 i0 ((v4 - 1).toNatClampNeg))) hi0 hb5 rfl rfl dX2_workedOut_53 ?_
          refine G_if_ne (tgt := 61) dX2_workedOut_54 (by decide) (fun hc7 => ?_) (fun hc7 => ?_)
          · replace h := (if_neg hc7).symm.trans h
            refine G_iconst (v := 0) dX2_workedOut_61 (by decide) ?_
            refine as_14 (kk := (v4 - 1).toNatClampNeg) hi0 hb5 rfl dX2_workedOut_62 ?_
            refine G_goto (tgt := 141) dX2_workedOut_63 (by decide) ?_
            refine G_iinc (v := (v5 + 1)) (L2 := [(5, .inl (v5 + 1)), (6, .inl (M 13 i0 v5.toNatClampNeg)), (0, .inr (.inr (2, i0))), (1, .inl v1), (2, .inl v2), (3, .inl v3), (4, .inl v4)]) dX2_workedOut_141 rfl (by first | rfl | (show _ + Int32.ofInt _ = _; rfl)) (by decide) rfl ?_
            refine G_goto (tgt := 6) dX2_workedOut_144 (by decide) ?_
            refine G_sub [(0, .inr (.inr (2, i0))), (1, .inl v1), (2, .inl v2), (3, .inl v3), (4, .inl v4), (5, .inl (v5 + 1))] [2, 3, 4, 5, 6, 0] rfl ?_
            exact ih i0 v1 v2 v3 v4 (v5 + 1) (up3 M 14 i0 ((v4 - 1).toNatClampNeg) 0) _ hi0 h K
          · replace h := (if_pos hc7).symm.trans h
            refine G_iconst (v := 1) dX2_workedOut_57 (by decide) ?_
            refine G_goto (tgt := 62) dX2_workedOut_58 (by decide) ?_
            refine as_14 (kk := (v4 - 1).toNatClampNeg) hi0 hb5 rfl dX2_workedOut_62 ?_
            refine G_goto (tgt := 141) dX2_workedOut_63 (by decide) ?_
            refine G_iinc (v := (v5 + 1)) (L2 := [(5, .inl (v5 + 1)), (6, .inl (M 13 i0 v5.toNatClampNeg)), (0, .inr (.inr (2, i0))), (1, .inl v1), (2, .inl v2), (3, .inl v3), (4, .inl v4)]) dX2_workedOut_141 rfl (by first | rfl | (show _ + Int32.ofInt _ = _; rfl)) (by decide) rfl ?_
            refine G_goto (tgt := 6) dX2_workedOut_144 (by decide) ?_
            refine G_sub [(0, .inr (.inr (2, i0))), (1, .inl v1), (2, .inl v2), (3, .inl v3), (4, .inl v4), (5, .inl (v5 + 1))] [2, 3, 4, 5, 6, 0] rfl ?_
            exact ih i0 v1 v2 v3 v4 (v5 + 1) (up3 M 14 i0 ((v4 - 1).toNatClampNeg) 1) _ hi0 h K

def X2_workedOut (i0 : Nat) (v1 : Int32) (v2 : Int32) (v3 : Int32) (M : Mem) : Option (Int32 × Mem) := ((X2_workedOut_L6 400 i0 v1 v2 v3 0 0 M).bind fun q6 => (if 0 < q6.1 then (if ib (q6.1 - 1) 50 = true then (some ((q6.2 14 i0 ((q6.1 - 1).toNatClampNeg)), q6.2)) else none) else (some (0, q6.2))))
set_option maxRecDepth 100000 in
set_option maxHeartbeats 4000000 in
theorem X2_workedOut_ok  {i0 : Nat} {v1 : Int32} {v2 : Int32} {v3 : Int32} {M N : Mem} {res : Int32 × Mem} (hi0 : i0 < 7) (h : X2_workedOut i0 v1 v2 v3 M = some res) : Spec mt_X2_workedOut 1 [.inr (.inr (2, i0)), .inl v1, .inl v2, .inl v3] (M, N) (some (.inl res.1)) (res.2, N) := by
  unfold X2_workedOut at h
  refine Spec_of_G (by decide) rfl (Nat.le_of_ble_eq_true rfl) ?_
  refine G_sub [(0, .inr (.inr (2, i0))), (1, .inl v1), (2, .inl v2), (3, .inl v3)] [0, 1, 2, 3] rfl ?_
  refine G_iconst (v := 0) dX2_workedOut_0 (by decide) ?_
  refine G_istore (L2 := [(4, .inl 0), (0, .inr (.inr (2, i0))), (1, .inl v1), (2, .inl v2), (3, .inl v3)]) dX2_workedOut_1 (by decide) rfl ?_
  refine G_iconst (v := 0) dX2_workedOut_3 (by decide) ?_
  refine G_istore (L2 := [(5, .inl 0), (4, .inl 0), (0, .inr (.inr (2, i0))), (1, .inl v1), (2, .inl v2), (3, .inl v3)]) dX2_workedOut_4 (by decide) rfl ?_
  refine G_sub [(0, .inr (.inr (2, i0))), (1, .inl v1), (2, .inl v2), (3, .inl v3), (4, .inl 0), (5, .inl 0)] [2, 3, 4, 5, 1, 0] rfl ?_
  obtain ⟨q6, hq6, h⟩ := bnd h
  refine X2_workedOut_L6_ok  400 i0 v1 v2 v3 0 0 M _ hi0 hq6 ?_
  refine G_iload dX2_workedOut_147 rfl ?_
  refine G_if_le (tgt := 164) dX2_workedOut_149 (by decide) (fun hc8 => ?_) (fun hc8 => ?_)
  · replace h := (if_neg hc8).symm.trans h
    refine G_iconst (v := 0) dX2_workedOut_164 (by decide) ?_
    obtain rfl := Option.some.inj h
    exact G_ret dX2_workedOut_165 trivial rfl rfl
  · replace h := (if_pos hc8).symm.trans h
    refine G_aload_n dX2_workedOut_152 rfl ?_
    refine fg_X2_15 rfl hi0 dX2_workedOut_153 ?_
    refine G_iload dX2_workedOut_156 rfl ?_
    refine G_iconst (v := 1) dX2_workedOut_158 (by decide) ?_
    refine G_isub dX2_workedOut_159 ?_
    obtain ⟨hb7, h⟩ := chk h
    have lhb7 := ib_lt hb7
    refine al_14 (kk := (q6.1 - 1).toNatClampNeg) (v := (q6.2 14 i0 ((q6.1 - 1).toNatClampNeg))) hi0 hb7 rfl rfl dX2_workedOut_160 ?_
    refine G_goto (tgt := 165) dX2_workedOut_161 (by decide) ?_
    obtain rfl := Option.some.inj h
    exact G_ret dX2_workedOut_165 trivial rfl rfl

theorem dX3_warmedBy_0 : decode cX3_warmedBy 0 = .ok (.aload_n 0, 1) := by decide +kernel
theorem dX3_warmedBy_1 : decode cX3_warmedBy 1 = .ok (.getfield 9, 3) := by decide +kernel
theorem dX3_warmedBy_4 : decode cX3_warmedBy 4 = .ok (.tableswitch 92 1 6 #[40, 47, 51, 55, 73, 82], 40) := by decide +kernel
theorem dX3_warmedBy_44 : decode cX3_warmedBy 44 = .ok (.iload_n 1, 1) := by decide +kernel
theorem dX3_warmedBy_45 : decode cX3_warmedBy 45 = .ok (.aload_n 0, 1) := by decide +kernel
theorem dX3_warmedBy_46 : decode cX3_warmedBy 46 = .ok (.getfield 15, 3) := by decide +kernel
theorem dX3_warmedBy_49 : decode cX3_warmedBy 49 = .ok (.iadd, 1) := by decide +kernel
theorem dX3_warmedBy_50 : decode cX3_warmedBy 50 = .ok (.ireturn, 1) := by decide +kernel
theorem dX3_warmedBy_51 : decode cX3_warmedBy 51 = .ok (.iconst 2, 1) := by decide +kernel
theorem dX3_warmedBy_52 : decode cX3_warmedBy 52 = .ok (.iload_n 1, 1) := by decide +kernel
theorem dX3_warmedBy_53 : decode cX3_warmedBy 53 = .ok (.imul, 1) := by decide +kernel
theorem dX3_warmedBy_54 : decode cX3_warmedBy 54 = .ok (.ireturn, 1) := by decide +kernel
theorem dX3_warmedBy_55 : decode cX3_warmedBy 55 = .ok (.iload_n 1, 1) := by decide +kernel
theorem dX3_warmedBy_56 : decode cX3_warmedBy 56 = .ok (.iconst 2, 1) := by decide +kernel
theorem dX3_warmedBy_57 : decode cX3_warmedBy 57 = .ok (.idiv, 1) := by decide +kernel
theorem dX3_warmedBy_58 : decode cX3_warmedBy 58 = .ok (.ireturn, 1) := by decide +kernel
theorem dX3_warmedBy_59 : decode cX3_warmedBy 59 = .ok (.aload_n 0, 1) := by decide +kernel
theorem dX3_warmedBy_60 : decode cX3_warmedBy 60 = .ok (.getfield 30, 3) := by decide +kernel
theorem dX3_warmedBy_63 : decode cX3_warmedBy 63 = .ok (.ifCond .le 7, 3) := by decide +kernel
theorem dX3_warmedBy_66 : decode cX3_warmedBy 66 = .ok (.iconst 0, 1) := by decide +kernel
theorem dX3_warmedBy_67 : decode cX3_warmedBy 67 = .ok (.goto 9, 3) := by decide +kernel
theorem dX3_warmedBy_70 : decode cX3_warmedBy 70 = .ok (.iload_n 1, 1) := by decide +kernel
theorem dX3_warmedBy_71 : decode cX3_warmedBy 71 = .ok (.aload_n 0, 1) := by decide +kernel
theorem dX3_warmedBy_72 : decode cX3_warmedBy 72 = .ok (.getfield 15, 3) := by decide +kernel
theorem dX3_warmedBy_75 : decode cX3_warmedBy 75 = .ok (.iadd, 1) := by decide +kernel
theorem dX3_warmedBy_76 : decode cX3_warmedBy 76 = .ok (.ireturn, 1) := by decide +kernel
theorem dX3_warmedBy_77 : decode cX3_warmedBy 77 = .ok (.iconst 2, 1) := by decide +kernel
theorem dX3_warmedBy_78 : decode cX3_warmedBy 78 = .ok (.iload_n 1, 1) := by decide +kernel
theorem dX3_warmedBy_79 : decode cX3_warmedBy 79 = .ok (.imul, 1) := by decide +kernel
theorem dX3_warmedBy_80 : decode cX3_warmedBy 80 = .ok (.aload_n 0, 1) := by decide +kernel
theorem dX3_warmedBy_81 : decode cX3_warmedBy 81 = .ok (.getfield 30, 3) := by decide +kernel
theorem dX3_warmedBy_84 : decode cX3_warmedBy 84 = .ok (.iadd, 1) := by decide +kernel
theorem dX3_warmedBy_85 : decode cX3_warmedBy 85 = .ok (.ireturn, 1) := by decide +kernel
theorem dX3_warmedBy_86 : decode cX3_warmedBy 86 = .ok (.iconst 0, 1) := by decide +kernel
theorem dX3_warmedBy_87 : decode cX3_warmedBy 87 = .ok (.iload_n 1, 1) := by decide +kernel
theorem dX3_warmedBy_88 : decode cX3_warmedBy 88 = .ok (.iconst 2, 1) := by decide +kernel
theorem dX3_warmedBy_89 : decode cX3_warmedBy 89 = .ok (.idiv, 1) := by decide +kernel
theorem dX3_warmedBy_90 : decode cX3_warmedBy 90 = .ok (.iconst 1, 1) := by decide +kernel
theorem dX3_warmedBy_91 : decode cX3_warmedBy 91 = .ok (.isub, 1) := by decide +kernel
theorem dX3_warmedBy_92 : decode cX3_warmedBy 92 = .ok (.invokestatic 37, 3) := by decide +kernel
theorem dX3_warmedBy_95 : decode cX3_warmedBy 95 = .ok (.ireturn, 1) := by decide +kernel
theorem dX3_warmedBy_96 : decode cX3_warmedBy 96 = .ok (.iload_n 1, 1) := by decide +kernel
theorem dX3_warmedBy_97 : decode cX3_warmedBy 97 = .ok (.ireturn, 1) := by decide +kernel
def X3_warmedBy (i0 : Nat) (v1 : Int32) (M : Mem) : Int32 := (if (M 3 i0 0) = 1 then (v1 + (M 3 i0 1)) else (if (M 3 i0 0) = 2 then (2 * v1) else (if (M 3 i0 0) = 3 then (v1 / 2) else (if (M 3 i0 0) = 4 then (if 0 < (M 3 i0 6) then 0 else (v1 + (M 3 i0 1))) else (if (M 3 i0 0) = 5 then ((2 * v1) + (M 3 i0 6)) else (if (M 3 i0 0) = 6 then (jmax 0 ((v1 / 2) - 1)) else v1))))))
set_option maxRecDepth 100000 in
set_option maxHeartbeats 4000000 in
theorem X3_warmedBy_ok  {i0 : Nat} {v1 : Int32} {M N : Mem} {res : Int32} (hi0 : i0 < 30) (h : X3_warmedBy i0 v1 M = res) : Spec mt_X3_warmedBy 1 [.inr (.inr (3, i0)), .inl v1] (M, N) (some (.inl res)) (M, N) := by
  unfold X3_warmedBy at h
  refine Spec_of_G (by decide) rfl (Nat.le_of_ble_eq_true rfl) ?_
  refine G_sub [(0, .inr (.inr (3, i0))), (1, .inl v1)] [0, 1] rfl ?_
  refine G_aload_n dX3_warmedBy_0 rfl ?_
  refine fg_X3_9 (v := (M 3 i0 0)) rfl rfl hi0 dX3_warmedBy_1 ?_
  by_cases hc1 : (M 3 i0 0) = 1
  · replace h := (if_pos hc1).symm.trans h
    refine G_tableEq (off := 40) (tgt := 44) hc1 dX3_warmedBy_4 (by decide) (by decide) (by decide) (by decide) ?_
    refine G_iload_n dX3_warmedBy_44 rfl ?_
    refine G_aload_n dX3_warmedBy_45 rfl ?_
    refine fg_X3_15 (v := (M 3 i0 1)) rfl rfl hi0 dX3_warmedBy_46 ?_
    refine G_iadd dX3_warmedBy_49 ?_
    subst h
    exact G_ret dX3_warmedBy_50 trivial rfl rfl
  replace h := (if_neg hc1).symm.trans h
  by_cases hc2 : (M 3 i0 0) = 2
  · replace h := (if_pos hc2).symm.trans h
    refine G_tableEq (off := 47) (tgt := 51) hc2 dX3_warmedBy_4 (by decide) (by decide) (by decide) (by decide) ?_
    refine G_iconst (v := 2) dX3_warmedBy_51 (by decide) ?_
    refine G_iload_n dX3_warmedBy_52 rfl ?_
    refine G_imul dX3_warmedBy_53 ?_
    subst h
    exact G_ret dX3_warmedBy_54 trivial rfl rfl
  replace h := (if_neg hc2).symm.trans h
  by_cases hc3 : (M 3 i0 0) = 3
  · replace h := (if_pos hc3).symm.trans h
    refine G_tableEq (off := 51) (tgt := 55) hc3 dX3_warmedBy_4 (by decide) (by decide) (by decide) (by decide) ?_
    refine G_iload_n dX3_warmedBy_55 rfl ?_
    refine G_iconst (v := 2) dX3_warmedBy_56 (by decide) ?_
    refine G_idiv (by decide) dX3_warmedBy_57 ?_
    subst h
    exact G_ret dX3_warmedBy_58 trivial rfl rfl
  replace h := (if_neg hc3).symm.trans h
  by_cases hc4 : (M 3 i0 0) = 4
  · replace h := (if_pos hc4).symm.trans h
    refine G_tableEq (off := 55) (tgt := 59) hc4 dX3_warmedBy_4 (by decide) (by decide) (by decide) (by decide) ?_
    refine G_aload_n dX3_warmedBy_59 rfl ?_
    refine fg_X3_30 (v := (M 3 i0 6)) rfl rfl hi0 dX3_warmedBy_60 ?_
    refine G_if_le (tgt := 70) dX3_warmedBy_63 (by decide) (fun hc5 => ?_) (fun hc5 => ?_)
    · replace h := (if_neg hc5).symm.trans h
      refine G_iload_n dX3_warmedBy_70 rfl ?_
      refine G_aload_n dX3_warmedBy_71 rfl ?_
      refine fg_X3_15 (v := (M 3 i0 1)) rfl rfl hi0 dX3_warmedBy_72 ?_
      refine G_iadd dX3_warmedBy_75 ?_
      subst h
      exact G_ret dX3_warmedBy_76 trivial rfl rfl
    · replace h := (if_pos hc5).symm.trans h
      refine G_iconst (v := 0) dX3_warmedBy_66 (by decide) ?_
      refine G_goto (tgt := 76) dX3_warmedBy_67 (by decide) ?_
      subst h
      exact G_ret dX3_warmedBy_76 trivial rfl rfl
  replace h := (if_neg hc4).symm.trans h
  by_cases hc6 : (M 3 i0 0) = 5
  · replace h := (if_pos hc6).symm.trans h
    refine G_tableEq (off := 73) (tgt := 77) hc6 dX3_warmedBy_4 (by decide) (by decide) (by decide) (by decide) ?_
    refine G_iconst (v := 2) dX3_warmedBy_77 (by decide) ?_
    refine G_iload_n dX3_warmedBy_78 rfl ?_
    refine G_imul dX3_warmedBy_79 ?_
    refine G_aload_n dX3_warmedBy_80 rfl ?_
    refine fg_X3_30 (v := (M 3 i0 6)) rfl rfl hi0 dX3_warmedBy_81 ?_
    refine G_iadd dX3_warmedBy_84 ?_
    subst h
    exact G_ret dX3_warmedBy_85 trivial rfl rfl
  replace h := (if_neg hc6).symm.trans h
  by_cases hc7 : (M 3 i0 0) = 6
  · replace h := (if_pos hc7).symm.trans h
    refine G_tableEq (off := 82) (tgt := 86) hc7 dX3_warmedBy_4 (by decide) (by decide) (by decide) (by decide) ?_
    refine G_iconst (v := 0) dX3_warmedBy_86 (by decide) ?_
    refine G_iload_n dX3_warmedBy_87 rfl ?_
    refine G_iconst (v := 2) dX3_warmedBy_88 (by decide) ?_
    refine G_idiv (by decide) dX3_warmedBy_89 ?_
    refine G_iconst (v := 1) dX3_warmedBy_90 (by decide) ?_
    refine G_isub dX3_warmedBy_91 ?_
    refine G_max ml_X3_37 st_max in_Math cd_max (by decide) (Nat.le_of_ble_eq_true rfl) dX3_warmedBy_92 ?_
    subst h
    exact G_ret dX3_warmedBy_95 trivial rfl rfl
  replace h := (if_neg hc7).symm.trans h
  have nhc1 := ne_lit (n := 1) (by decide) hc1
  have nhc2 := ne_lit (n := 2) (by decide) hc2
  have nhc3 := ne_lit (n := 3) (by decide) hc3
  have nhc4 := ne_lit (n := 4) (by decide) hc4
  have nhc6 := ne_lit (n := 5) (by decide) hc6
  have nhc7 := ne_lit (n := 6) (by decide) hc7
  refine G_tableOut (tgt := 96) dX3_warmedBy_4 (by omega) (by decide) ?_
  refine G_iload_n dX3_warmedBy_96 rfl ?_
  subst h
  exact G_ret dX3_warmedBy_97 trivial rfl rfl

theorem dX3_liveYear_0 : decode cX3_liveYear 0 = .ok (.aload_n 0, 1) := by decide +kernel
theorem dX3_liveYear_1 : decode cX3_liveYear 1 = .ok (.sipush 999, 3) := by decide +kernel
theorem dX3_liveYear_4 : decode cX3_liveYear 4 = .ok (.aload_n 0, 1) := by decide +kernel
theorem dX3_liveYear_5 : decode cX3_liveYear 5 = .ok (.getfield 24, 3) := by decide +kernel
theorem dX3_liveYear_8 : decode cX3_liveYear 8 = .ok (.aload_n 0, 1) := by decide +kernel
theorem dX3_liveYear_9 : decode cX3_liveYear 9 = .ok (.iload_n 1, 1) := by decide +kernel
theorem dX3_liveYear_10 : decode cX3_liveYear 10 = .ok (.invokevirtual 43, 3) := by decide +kernel
theorem dX3_liveYear_13 : decode cX3_liveYear 13 = .ok (.iadd, 1) := by decide +kernel
theorem dX3_liveYear_14 : decode cX3_liveYear 14 = .ok (.invokestatic 47, 3) := by decide +kernel
theorem dX3_liveYear_17 : decode cX3_liveYear 17 = .ok (.putfield 24, 3) := by decide +kernel
theorem dX3_liveYear_20 : decode cX3_liveYear 20 = .ok (.aload_n 0, 1) := by decide +kernel
theorem dX3_liveYear_21 : decode cX3_liveYear 21 = .ok (.sipush 999, 3) := by decide +kernel
theorem dX3_liveYear_24 : decode cX3_liveYear 24 = .ok (.aload_n 0, 1) := by decide +kernel
theorem dX3_liveYear_25 : decode cX3_liveYear 25 = .ok (.getfield 27, 3) := by decide +kernel
theorem dX3_liveYear_28 : decode cX3_liveYear 28 = .ok (.iconst 1, 1) := by decide +kernel
theorem dX3_liveYear_29 : decode cX3_liveYear 29 = .ok (.iadd, 1) := by decide +kernel
theorem dX3_liveYear_30 : decode cX3_liveYear 30 = .ok (.invokestatic 47, 3) := by decide +kernel
theorem dX3_liveYear_33 : decode cX3_liveYear 33 = .ok (.putfield 27, 3) := by decide +kernel
theorem dX3_liveYear_36 : decode cX3_liveYear 36 = .ok (.aload_n 0, 1) := by decide +kernel
theorem dX3_liveYear_37 : decode cX3_liveYear 37 = .ok (.invokevirtual 50, 3) := by decide +kernel
theorem dX3_liveYear_40 : decode cX3_liveYear 40 = .ok (.istore_n 2, 1) := by decide +kernel
theorem dX3_liveYear_41 : decode cX3_liveYear 41 = .ok (.aload_n 0, 1) := by decide +kernel
theorem dX3_liveYear_42 : decode cX3_liveYear 42 = .ok (.getfield 27, 3) := by decide +kernel
theorem dX3_liveYear_45 : decode cX3_liveYear 45 = .ok (.bipush 11, 2) := by decide +kernel
theorem dX3_liveYear_47 : decode cX3_liveYear 47 = .ok (.if_icmp .lt 42, 3) := by decide +kernel
theorem dX3_liveYear_50 : decode cX3_liveYear 50 = .ok (.aload_n 0, 1) := by decide +kernel
theorem dX3_liveYear_51 : decode cX3_liveYear 51 = .ok (.getfield 24, 3) := by decide +kernel
theorem dX3_liveYear_54 : decode cX3_liveYear 54 = .ok (.iload_n 2, 1) := by decide +kernel
theorem dX3_liveYear_55 : decode cX3_liveYear 55 = .ok (.if_icmp .lt 34, 3) := by decide +kernel
theorem dX3_liveYear_58 : decode cX3_liveYear 58 = .ok (.aload_n 0, 1) := by decide +kernel
theorem dX3_liveYear_59 : decode cX3_liveYear 59 = .ok (.getfield 30, 3) := by decide +kernel
theorem dX3_liveYear_62 : decode cX3_liveYear 62 = .ok (.aload_n 0, 1) := by decide +kernel
theorem dX3_liveYear_63 : decode cX3_liveYear 63 = .ok (.invokevirtual 54, 3) := by decide +kernel
theorem dX3_liveYear_66 : decode cX3_liveYear 66 = .ok (.if_icmp .ge 23, 3) := by decide +kernel
theorem dX3_liveYear_69 : decode cX3_liveYear 69 = .ok (.aload_n 0, 1) := by decide +kernel
theorem dX3_liveYear_70 : decode cX3_liveYear 70 = .ok (.dup, 1) := by decide +kernel
theorem dX3_liveYear_71 : decode cX3_liveYear 71 = .ok (.getfield 30, 3) := by decide +kernel
theorem dX3_liveYear_74 : decode cX3_liveYear 74 = .ok (.iconst 1, 1) := by decide +kernel
theorem dX3_liveYear_75 : decode cX3_liveYear 75 = .ok (.iadd, 1) := by decide +kernel
theorem dX3_liveYear_76 : decode cX3_liveYear 76 = .ok (.putfield 30, 3) := by decide +kernel
theorem dX3_liveYear_79 : decode cX3_liveYear 79 = .ok (.aload_n 0, 1) := by decide +kernel
theorem dX3_liveYear_80 : decode cX3_liveYear 80 = .ok (.dup, 1) := by decide +kernel
theorem dX3_liveYear_81 : decode cX3_liveYear 81 = .ok (.getfield 24, 3) := by decide +kernel
theorem dX3_liveYear_84 : decode cX3_liveYear 84 = .ok (.iload_n 2, 1) := by decide +kernel
theorem dX3_liveYear_85 : decode cX3_liveYear 85 = .ok (.isub, 1) := by decide +kernel
theorem dX3_liveYear_86 : decode cX3_liveYear 86 = .ok (.putfield 24, 3) := by decide +kernel
theorem dX3_liveYear_89 : decode cX3_liveYear 89 = .ok (.return_, 1) := by decide +kernel
def X3_liveYear (i0 : Nat) (v1 : Int32) (M : Mem) : Option (Mem) := (if (jmin 999 ((M 3 i0 5) + 1)) < 11 then (some (up3 (up3 M 3 i0 4 (jmin 999 ((M 3 i0 4) + (X3_warmedBy i0 v1 M)))) 3 i0 5 (jmin 999 ((M 3 i0 5) + 1)))) else (if (jmin 999 ((M 3 i0 4) + (X3_warmedBy i0 v1 M))) < (X3_wants i0 (up3 (up3 M 3 i0 4 (jmin 999 ((M 3 i0 4) + (X3_warmedBy i0 v1 M)))) 3 i0 5 (jmin 999 ((M 3 i0 5) + 1)))) then (some (up3 (up3 M 3 i0 4 (jmin 999 ((M 3 i0 4) + (X3_warmedBy i0 v1 M)))) 3 i0 5 (jmin 999 ((M 3 i0 5) + 1)))) else (if (M 3 i0 6) < (X3_bears i0 (up3 (up3 M 3 i0 4 (jmin 999 ((M 3 i0 4) + (X3_warmedBy i0 v1 M)))) 3 i0 5 (jmin 999 ((M 3 i0 5) + 1)))) then (some (up3 (up3 (up3 (up3 M 3 i0 4 (jmin 999 ((M 3 i0 4) + (X3_warmedBy i0 v1 M)))) 3 i0 5 (jmin 999 ((M 3 i0 5) + 1))) 3 i0 6 ((M 3 i0 6) + 1)) 3 i0 4 ((jmin 999 ((M 3 i0 4) + (X3_warmedBy i0 v1 M))) - (X3_wants i0 (up3 (up3 M 3 i0 4 (jmin 999 ((M 3 i0 4) + (X3_warmedBy i0 v1 M)))) 3 i0 5 (jmin 999 ((M 3 i0 5) + 1))))))) else (some (up3 (up3 M 3 i0 4 (jmin 999 ((M 3 i0 4) + (X3_warmedBy i0 v1 M)))) 3 i0 5 (jmin 999 ((M 3 i0 5) + 1)))))))
set_option maxRecDepth 100000 in
set_option maxHeartbeats 4000000 in
theorem X3_liveYear_ok  {i0 : Nat} {v1 : Int32} {M N : Mem} {res : Mem} (hi0 : i0 < 30) (h : X3_liveYear i0 v1 M = some res) : Spec mt_X3_liveYear 2 [.inr (.inr (3, i0)), .inl v1] (M, N) none (res, N) := by
  unfold X3_liveYear at h
  refine Spec_of_G (by decide) rfl (Nat.le_of_ble_eq_true rfl) ?_
  refine G_sub [(0, .inr (.inr (3, i0))), (1, .inl v1)] [0, 1] rfl ?_
  refine G_aload_n dX3_liveYear_0 rfl ?_
  refine G_sipush (v := 999) dX3_liveYear_1 (by decide) ?_
  refine G_aload_n dX3_liveYear_4 rfl ?_
  refine fg_X3_24 (v := (M 3 i0 4)) rfl rfl hi0 dX3_liveYear_5 ?_
  refine G_aload_n dX3_liveYear_8 rfl ?_
  refine G_iload_n dX3_liveYear_9 rfl ?_
  refine G_callVv (T := TX3) (N := 8) (f := 3) (i := i0) (X3_warmedBy_ok hi0 rfl) ok_X3_warmedBy ml_X3_43 (by decide) rfl (by decide) (show i0 < 30 from hi0) (by decide) rfl rfl (Nat.le_of_ble_eq_true rfl) dX3_liveYear_10 ?_
  refine G_iadd dX3_liveYear_13 ?_
  refine G_min ml_X3_47 st_min in_Math cd_min (by decide) (Nat.le_of_ble_eq_true rfl) dX3_liveYear_14 ?_
  refine fp_X3_24 rfl hi0 dX3_liveYear_17 ?_
  refine G_aload_n dX3_liveYear_20 rfl ?_
  refine G_sipush (v := 999) dX3_liveYear_21 (by decide) ?_
  refine G_aload_n dX3_liveYear_24 rfl ?_
  refine fg_X3_27 (v := (M 3 i0 5)) (up3_k (by decide)) rfl hi0 dX3_liveYear_25 ?_
  refine G_iconst (v := 1) dX3_liveYear_28 (by decide) ?_
  refine G_iadd dX3_liveYear_29 ?_
  refine G_min ml_X3_47 st_min in_Math cd_min (by decide) (Nat.le_of_ble_eq_true rfl) dX3_liveYear_30 ?_
  refine fp_X3_27 rfl hi0 dX3_liveYear_33 ?_
  refine G_aload_n dX3_liveYear_36 rfl ?_
  refine G_callVv (T := TX3) (N := 8) (f := 3) (i := i0) (X3_wants_ok hi0 rfl) ok_X3_wants ml_X3_50 (by decide) rfl (by decide) (show i0 < 30 from hi0) (by decide) rfl rfl (Nat.le_of_ble_eq_true rfl) dX3_liveYear_37 ?_
  refine G_istore_n (L2 := [(2, .inl (X3_wants i0 (up3 (up3 M 3 i0 4 (jmin 999 ((M 3 i0 4) + (X3_warmedBy i0 v1 M)))) 3 i0 5 (jmin 999 ((M 3 i0 5) + 1))))), (0, .inr (.inr (3, i0))), (1, .inl v1)]) dX3_liveYear_40 (by decide) rfl ?_
  refine G_aload_n dX3_liveYear_41 rfl ?_
  refine fg_X3_27 (v := (jmin 999 ((M 3 i0 5) + 1))) up3_eq rfl hi0 dX3_liveYear_42 ?_
  refine G_bipush (v := 11) dX3_liveYear_45 (by decide) ?_
  refine G_icmp_lt (tgt := 89) dX3_liveYear_47 (by decide) (fun hc1 => ?_) (fun hc1 => ?_)
  · replace h := (if_pos hc1).symm.trans h
    obtain rfl := Option.some.inj h
    exact G_ret dX3_liveYear_89 trivial rfl rfl
  · replace h := (if_neg hc1).symm.trans h
    refine G_aload_n dX3_liveYear_50 rfl ?_
    refine fg_X3_24 (v := (jmin 999 ((M 3 i0 4) + (X3_warmedBy i0 v1 M)))) ((up3_k (by decide)).trans up3_eq) rfl hi0 dX3_liveYear_51 ?_
    refine G_iload_n dX3_liveYear_54 rfl ?_
    refine G_icmp_lt (tgt := 89) dX3_liveYear_55 (by decide) (fun hc2 => ?_) (fun hc2 => ?_)
    · replace h := (if_pos hc2).symm.trans h
      obtain rfl := Option.some.inj h
      exact G_ret dX3_liveYear_89 trivial rfl rfl
    · replace h := (if_neg hc2).symm.trans h
      refine G_aload_n dX3_liveYear_58 rfl ?_
      refine fg_X3_30 (v := (M 3 i0 6)) ((up3_k (by decide)).trans (up3_k (by decide))) rfl hi0 dX3_liveYear_59 ?_
      refine G_aload_n dX3_liveYear_62 rfl ?_
      refine G_callVv (T := TX3) (N := 8) (f := 3) (i := i0) (X3_bears_ok hi0 rfl) ok_X3_bears ml_X3_54 (by decide) rfl (by decide) (show i0 < 30 from hi0) (by decide) rfl rfl (Nat.le_of_ble_eq_true rfl) dX3_liveYear_63 ?_
      refine G_icmp_ge (tgt := 89) dX3_liveYear_66 (by decide) (fun hc3 => ?_) (fun hc3 => ?_)
      · replace h := (if_neg hc3).symm.trans h
        obtain rfl := Option.some.inj h
        exact G_ret dX3_liveYear_89 trivial rfl rfl
      · replace h := (if_pos hc3).symm.trans h
        refine G_aload_n dX3_liveYear_69 rfl ?_
        refine G_dup rfl dX3_liveYear_70 ?_
        refine fg_X3_30 (v := (M 3 i0 6)) ((up3_k (by decide)).trans (up3_k (by decide))) rfl hi0 dX3_liveYear_71 ?_
        refine G_iconst (v := 1) dX3_liveYear_74 (by decide) ?_
        refine G_iadd dX3_liveYear_75 ?_
        refine fp_X3_30 rfl hi0 dX3_liveYear_76 ?_
        refine G_aload_n dX3_liveYear_79 rfl ?_
        refine G_dup rfl dX3_liveYear_80 ?_
        refine fg_X3_24 (v := (jmin 999 ((M 3 i0 4) + (X3_warmedBy i0 v1 M)))) ((up3_k (by decide)).trans ((up3_k (by decide)).trans up3_eq)) rfl hi0 dX3_liveYear_81 ?_
        refine G_iload_n dX3_liveYear_84 rfl ?_
        refine G_isub dX3_liveYear_85 ?_
        refine fp_X3_24 rfl hi0 dX3_liveYear_86 ?_
        obtain rfl := Option.some.inj h
        exact G_ret dX3_liveYear_89 trivial rfl rfl

theorem dJ6_bitCount_0f7a4_0 : decode cJ6_bitCount_0f7a4 0 = .ok (.iload_n 0, 1) := by decide +kernel
theorem dJ6_bitCount_0f7a4_1 : decode cJ6_bitCount_0f7a4 1 = .ok (.iload_n 0, 1) := by decide +kernel
theorem dJ6_bitCount_0f7a4_2 : decode cJ6_bitCount_0f7a4 2 = .ok (.iconst 1, 1) := by decide +kernel
theorem dJ6_bitCount_0f7a4_3 : decode cJ6_bitCount_0f7a4 3 = .ok (.iushr, 1) := by decide +kernel
theorem dJ6_bitCount_0f7a4_4 : decode cJ6_bitCount_0f7a4 4 = .ok (.ldc_w 265, 3) := by decide +kernel
theorem dJ6_bitCount_0f7a4_7 : decode cJ6_bitCount_0f7a4 7 = .ok (.iand, 1) := by decide +kernel
theorem dJ6_bitCount_0f7a4_8 : decode cJ6_bitCount_0f7a4 8 = .ok (.isub, 1) := by decide +kernel
theorem dJ6_bitCount_0f7a4_9 : decode cJ6_bitCount_0f7a4 9 = .ok (.istore_n 0, 1) := by decide +kernel
theorem dJ6_bitCount_0f7a4_10 : decode cJ6_bitCount_0f7a4 10 = .ok (.iload_n 0, 1) := by decide +kernel
theorem dJ6_bitCount_0f7a4_11 : decode cJ6_bitCount_0f7a4 11 = .ok (.ldc_w 266, 3) := by decide +kernel
theorem dJ6_bitCount_0f7a4_14 : decode cJ6_bitCount_0f7a4 14 = .ok (.iand, 1) := by decide +kernel
theorem dJ6_bitCount_0f7a4_15 : decode cJ6_bitCount_0f7a4 15 = .ok (.iload_n 0, 1) := by decide +kernel
theorem dJ6_bitCount_0f7a4_16 : decode cJ6_bitCount_0f7a4 16 = .ok (.iconst 2, 1) := by decide +kernel
theorem dJ6_bitCount_0f7a4_17 : decode cJ6_bitCount_0f7a4 17 = .ok (.iushr, 1) := by decide +kernel
theorem dJ6_bitCount_0f7a4_18 : decode cJ6_bitCount_0f7a4 18 = .ok (.ldc_w 266, 3) := by decide +kernel
theorem dJ6_bitCount_0f7a4_21 : decode cJ6_bitCount_0f7a4 21 = .ok (.iand, 1) := by decide +kernel
theorem dJ6_bitCount_0f7a4_22 : decode cJ6_bitCount_0f7a4 22 = .ok (.iadd, 1) := by decide +kernel
theorem dJ6_bitCount_0f7a4_23 : decode cJ6_bitCount_0f7a4 23 = .ok (.istore_n 0, 1) := by decide +kernel
theorem dJ6_bitCount_0f7a4_24 : decode cJ6_bitCount_0f7a4 24 = .ok (.iload_n 0, 1) := by decide +kernel
theorem dJ6_bitCount_0f7a4_25 : decode cJ6_bitCount_0f7a4 25 = .ok (.iload_n 0, 1) := by decide +kernel
theorem dJ6_bitCount_0f7a4_26 : decode cJ6_bitCount_0f7a4 26 = .ok (.iconst 4, 1) := by decide +kernel
theorem dJ6_bitCount_0f7a4_27 : decode cJ6_bitCount_0f7a4 27 = .ok (.iushr, 1) := by decide +kernel
theorem dJ6_bitCount_0f7a4_28 : decode cJ6_bitCount_0f7a4 28 = .ok (.iadd, 1) := by decide +kernel
theorem dJ6_bitCount_0f7a4_29 : decode cJ6_bitCount_0f7a4 29 = .ok (.ldc_w 267, 3) := by decide +kernel
theorem dJ6_bitCount_0f7a4_32 : decode cJ6_bitCount_0f7a4 32 = .ok (.iand, 1) := by decide +kernel
theorem dJ6_bitCount_0f7a4_33 : decode cJ6_bitCount_0f7a4 33 = .ok (.istore_n 0, 1) := by decide +kernel
theorem dJ6_bitCount_0f7a4_34 : decode cJ6_bitCount_0f7a4 34 = .ok (.iload_n 0, 1) := by decide +kernel
theorem dJ6_bitCount_0f7a4_35 : decode cJ6_bitCount_0f7a4 35 = .ok (.iload_n 0, 1) := by decide +kernel
theorem dJ6_bitCount_0f7a4_36 : decode cJ6_bitCount_0f7a4 36 = .ok (.bipush 8, 2) := by decide +kernel
theorem dJ6_bitCount_0f7a4_38 : decode cJ6_bitCount_0f7a4 38 = .ok (.iushr, 1) := by decide +kernel
theorem dJ6_bitCount_0f7a4_39 : decode cJ6_bitCount_0f7a4 39 = .ok (.iadd, 1) := by decide +kernel
theorem dJ6_bitCount_0f7a4_40 : decode cJ6_bitCount_0f7a4 40 = .ok (.istore_n 0, 1) := by decide +kernel
theorem dJ6_bitCount_0f7a4_41 : decode cJ6_bitCount_0f7a4 41 = .ok (.iload_n 0, 1) := by decide +kernel
theorem dJ6_bitCount_0f7a4_42 : decode cJ6_bitCount_0f7a4 42 = .ok (.iload_n 0, 1) := by decide +kernel
theorem dJ6_bitCount_0f7a4_43 : decode cJ6_bitCount_0f7a4 43 = .ok (.bipush 16, 2) := by decide +kernel
theorem dJ6_bitCount_0f7a4_45 : decode cJ6_bitCount_0f7a4 45 = .ok (.iushr, 1) := by decide +kernel
theorem dJ6_bitCount_0f7a4_46 : decode cJ6_bitCount_0f7a4 46 = .ok (.iadd, 1) := by decide +kernel
theorem dJ6_bitCount_0f7a4_47 : decode cJ6_bitCount_0f7a4 47 = .ok (.istore_n 0, 1) := by decide +kernel
theorem dJ6_bitCount_0f7a4_48 : decode cJ6_bitCount_0f7a4 48 = .ok (.iload_n 0, 1) := by decide +kernel
theorem dJ6_bitCount_0f7a4_49 : decode cJ6_bitCount_0f7a4 49 = .ok (.bipush 63, 2) := by decide +kernel
theorem dJ6_bitCount_0f7a4_51 : decode cJ6_bitCount_0f7a4 51 = .ok (.iand, 1) := by decide +kernel
theorem dJ6_bitCount_0f7a4_52 : decode cJ6_bitCount_0f7a4 52 = .ok (.ireturn, 1) := by decide +kernel
def J6_bitCount_0f7a4 (v0 : Int32) : Int32 := ((((((((v0 - ((jushr v0 1) &&& 1431655765)) &&& 858993459) + ((jushr (v0 - ((jushr v0 1) &&& 1431655765)) 2) &&& 858993459)) + (jushr (((v0 - ((jushr v0 1) &&& 1431655765)) &&& 858993459) + ((jushr (v0 - ((jushr v0 1) &&& 1431655765)) 2) &&& 858993459)) 4)) &&& 252645135) + (jushr (((((v0 - ((jushr v0 1) &&& 1431655765)) &&& 858993459) + ((jushr (v0 - ((jushr v0 1) &&& 1431655765)) 2) &&& 858993459)) + (jushr (((v0 - ((jushr v0 1) &&& 1431655765)) &&& 858993459) + ((jushr (v0 - ((jushr v0 1) &&& 1431655765)) 2) &&& 858993459)) 4)) &&& 252645135) 8)) + (jushr ((((((v0 - ((jushr v0 1) &&& 1431655765)) &&& 858993459) + ((jushr (v0 - ((jushr v0 1) &&& 1431655765)) 2) &&& 858993459)) + (jushr (((v0 - ((jushr v0 1) &&& 1431655765)) &&& 858993459) + ((jushr (v0 - ((jushr v0 1) &&& 1431655765)) 2) &&& 858993459)) 4)) &&& 252645135) + (jushr (((((v0 - ((jushr v0 1) &&& 1431655765)) &&& 858993459) + ((jushr (v0 - ((jushr v0 1) &&& 1431655765)) 2) &&& 858993459)) + (jushr (((v0 - ((jushr v0 1) &&& 1431655765)) &&& 858993459) + ((jushr (v0 - ((jushr v0 1) &&& 1431655765)) 2) &&& 858993459)) 4)) &&& 252645135) 8)) 16)) &&& 63)
set_option maxRecDepth 100000 in
set_option maxHeartbeats 4000000 in
theorem J6_bitCount_0f7a4_ok  {v0 : Int32} {MM0 : MM} {res : Int32} (h : J6_bitCount_0f7a4 v0 = res) : Spec mt_J6_bitCount_0f7a4 0 [.inl v0] MM0 (some (.inl res)) MM0 := by
  unfold J6_bitCount_0f7a4 at h
  refine Spec_of_G (by decide) rfl (Nat.le_of_ble_eq_true rfl) ?_
  refine G_sub [(0, .inl v0)] [0] rfl ?_
  refine G_iload_n dJ6_bitCount_0f7a4_0 rfl ?_
  refine G_iload_n dJ6_bitCount_0f7a4_1 rfl ?_
  refine G_iconst (v := 1) dJ6_bitCount_0f7a4_2 (by decide) ?_
  refine G_iushr dJ6_bitCount_0f7a4_3 ?_
  refine G_ldcw ko_J6_265 dJ6_bitCount_0f7a4_4 ?_
  refine G_iand dJ6_bitCount_0f7a4_7 ?_
  refine G_isub dJ6_bitCount_0f7a4_8 ?_
  refine G_istore_n (L2 := [(0, .inl (v0 - ((jushr v0 1) &&& 1431655765)))]) dJ6_bitCount_0f7a4_9 (by decide) rfl ?_
  refine G_iload_n dJ6_bitCount_0f7a4_10 rfl ?_
  refine G_ldcw ko_J6_266 dJ6_bitCount_0f7a4_11 ?_
  refine G_iand dJ6_bitCount_0f7a4_14 ?_
  refine G_iload_n dJ6_bitCount_0f7a4_15 rfl ?_
  refine G_iconst (v := 2) dJ6_bitCount_0f7a4_16 (by decide) ?_
  refine G_iushr dJ6_bitCount_0f7a4_17 ?_
  refine G_ldcw ko_J6_266 dJ6_bitCount_0f7a4_18 ?_
  refine G_iand dJ6_bitCount_0f7a4_21 ?_
  refine G_iadd dJ6_bitCount_0f7a4_22 ?_
  refine G_istore_n (L2 := [(0, .inl (((v0 - ((jushr v0 1) &&& 1431655765)) &&& 858993459) + ((jushr (v0 - ((jushr v0 1) &&& 1431655765)) 2) &&& 858993459)))]) dJ6_bitCount_0f7a4_23 (by decide) rfl ?_
  refine G_iload_n dJ6_bitCount_0f7a4_24 rfl ?_
  refine G_iload_n dJ6_bitCount_0f7a4_25 rfl ?_
  refine G_iconst (v := 4) dJ6_bitCount_0f7a4_26 (by decide) ?_
  refine G_iushr dJ6_bitCount_0f7a4_27 ?_
  refine G_iadd dJ6_bitCount_0f7a4_28 ?_
  refine G_ldcw ko_J6_267 dJ6_bitCount_0f7a4_29 ?_
  refine G_iand dJ6_bitCount_0f7a4_32 ?_
  refine G_istore_n (L2 := [(0, .inl (((((v0 - ((jushr v0 1) &&& 1431655765)) &&& 858993459) + ((jushr (v0 - ((jushr v0 1) &&& 1431655765)) 2) &&& 858993459)) + (jushr (((v0 - ((jushr v0 1) &&& 1431655765)) &&& 858993459) + ((jushr (v0 - ((jushr v0 1) &&& 1431655765)) 2) &&& 858993459)) 4)) &&& 252645135))]) dJ6_bitCount_0f7a4_33 (by decide) rfl ?_
  refine G_iload_n dJ6_bitCount_0f7a4_34 rfl ?_
  refine G_iload_n dJ6_bitCount_0f7a4_35 rfl ?_
  refine G_bipush (v := 8) dJ6_bitCount_0f7a4_36 (by decide) ?_
  refine G_iushr dJ6_bitCount_0f7a4_38 ?_
  refine G_iadd dJ6_bitCount_0f7a4_39 ?_
  refine G_istore_n (L2 := [(0, .inl ((((((v0 - ((jushr v0 1) &&& 1431655765)) &&& 858993459) + ((jushr (v0 - ((jushr v0 1) &&& 1431655765)) 2) &&& 858993459)) + (jushr (((v0 - ((jushr v0 1) &&& 1431655765)) &&& 858993459) + ((jushr (v0 - ((jushr v0 1) &&& 1431655765)) 2) &&& 858993459)) 4)) &&& 252645135) + (jushr (((((v0 - ((jushr v0 1) &&& 1431655765)) &&& 858993459) + ((jushr (v0 - ((jushr v0 1) &&& 1431655765)) 2) &&& 858993459)) + (jushr (((v0 - ((jushr v0 1) &&& 1431655765)) &&& 858993459) + ((jushr (v0 - ((jushr v0 1) &&& 1431655765)) 2) &&& 858993459)) 4)) &&& 252645135) 8)))]) dJ6_bitCount_0f7a4_40 (by decide) rfl ?_
  refine G_iload_n dJ6_bitCount_0f7a4_41 rfl ?_
  refine G_iload_n dJ6_bitCount_0f7a4_42 rfl ?_
  refine G_bipush (v := 16) dJ6_bitCount_0f7a4_43 (by decide) ?_
  refine G_iushr dJ6_bitCount_0f7a4_45 ?_
  refine G_iadd dJ6_bitCount_0f7a4_46 ?_
  refine G_istore_n (L2 := [(0, .inl (((((((v0 - ((jushr v0 1) &&& 1431655765)) &&& 858993459) + ((jushr (v0 - ((jushr v0 1) &&& 1431655765)) 2) &&& 858993459)) + (jushr (((v0 - ((jushr v0 1) &&& 1431655765)) &&& 858993459) + ((jushr (v0 - ((jushr v0 1) &&& 1431655765)) 2) &&& 858993459)) 4)) &&& 252645135) + (jushr (((((v0 - ((jushr v0 1) &&& 1431655765)) &&& 858993459) + ((jushr (v0 - ((jushr v0 1) &&& 1431655765)) 2) &&& 858993459)) + (jushr (((v0 - ((jushr v0 1) &&& 1431655765)) &&& 858993459) + ((jushr (v0 - ((jushr v0 1) &&& 1431655765)) 2) &&& 858993459)) 4)) &&& 252645135) 8)) + (jushr ((((((v0 - ((jushr v0 1) &&& 1431655765)) &&& 858993459) + ((jushr (v0 - ((jushr v0 1) &&& 1431655765)) 2) &&& 858993459)) + (jushr (((v0 - ((jushr v0 1) &&& 1431655765)) &&& 858993459) + ((jushr (v0 - ((jushr v0 1) &&& 1431655765)) 2) &&& 858993459)) 4)) &&& 252645135) + (jushr (((((v0 - ((jushr v0 1) &&& 1431655765)) &&& 858993459) + ((jushr (v0 - ((jushr v0 1) &&& 1431655765)) 2) &&& 858993459)) + (jushr (((v0 - ((jushr v0 1) &&& 1431655765)) &&& 858993459) + ((jushr (v0 - ((jushr v0 1) &&& 1431655765)) 2) &&& 858993459)) 4)) &&& 252645135) 8)) 16)))]) dJ6_bitCount_0f7a4_47 (by decide) rfl ?_
  refine G_iload_n dJ6_bitCount_0f7a4_48 rfl ?_
  refine G_bipush (v := 63) dJ6_bitCount_0f7a4_49 (by decide) ?_
  refine G_iand dJ6_bitCount_0f7a4_51 ?_
  subst h
  exact G_ret dJ6_bitCount_0f7a4_52 trivial rfl rfl

theorem dX0_draw_0 : decode cX0_draw 0 = .ok (.aload_n 0, 1) := by decide +kernel
theorem dX0_draw_1 : decode cX0_draw 1 = .ok (.aload_n 0, 1) := by decide +kernel
theorem dX0_draw_2 : decode cX0_draw 2 = .ok (.getfield 19, 3) := by decide +kernel
theorem dX0_draw_5 : decode cX0_draw 5 = .ok (.ldc 35, 2) := by decide +kernel
theorem dX0_draw_7 : decode cX0_draw 7 = .ok (.imul, 1) := by decide +kernel
theorem dX0_draw_8 : decode cX0_draw 8 = .ok (.sipush 12345, 3) := by decide +kernel
theorem dX0_draw_11 : decode cX0_draw 11 = .ok (.iadd, 1) := by decide +kernel
theorem dX0_draw_12 : decode cX0_draw 12 = .ok (.putfield 19, 3) := by decide +kernel
theorem dX0_draw_15 : decode cX0_draw 15 = .ok (.aload_n 0, 1) := by decide +kernel
theorem dX0_draw_16 : decode cX0_draw 16 = .ok (.getfield 19, 3) := by decide +kernel
theorem dX0_draw_19 : decode cX0_draw 19 = .ok (.bipush 8, 2) := by decide +kernel
theorem dX0_draw_21 : decode cX0_draw 21 = .ok (.iushr, 1) := by decide +kernel
theorem dX0_draw_22 : decode cX0_draw 22 = .ok (.ireturn, 1) := by decide +kernel
def X0_draw (i0 : Nat) (M : Mem) : Option (Int32 × Mem) := (some ((jushr (((M 0 i0 4) * 1103515245) + 12345) 8), (up3 M 0 i0 4 (((M 0 i0 4) * 1103515245) + 12345))))
set_option maxRecDepth 100000 in
set_option maxHeartbeats 4000000 in
theorem X0_draw_ok  {i0 : Nat} {M N : Mem} {res : Int32 × Mem} (hi0 : i0 < 2) (h : X0_draw i0 M = some res) : Spec mt_X0_draw 0 [.inr (.inr (0, i0))] (M, N) (some (.inl res.1)) (res.2, N) := by
  unfold X0_draw at h
  refine Spec_of_G (by decide) rfl (Nat.le_of_ble_eq_true rfl) ?_
  refine G_sub [(0, .inr (.inr (0, i0)))] [0] rfl ?_
  refine G_aload_n dX0_draw_0 rfl ?_
  refine G_aload_n dX0_draw_1 rfl ?_
  refine fg_X0_19 (v := (M 0 i0 4)) rfl rfl hi0 dX0_draw_2 ?_
  refine G_ldc ko_X0_35 dX0_draw_5 ?_
  refine G_imul dX0_draw_7 ?_
  refine G_sipush (v := 12345) dX0_draw_8 (by decide) ?_
  refine G_iadd dX0_draw_11 ?_
  refine fp_X0_19 rfl hi0 dX0_draw_12 ?_
  refine G_aload_n dX0_draw_15 rfl ?_
  refine fg_X0_19 (v := (((M 0 i0 4) * 1103515245) + 12345)) up3_eq rfl hi0 dX0_draw_16 ?_
  refine G_bipush (v := 8) dX0_draw_19 (by decide) ?_
  refine G_iushr dX0_draw_21 ?_
  obtain rfl := Option.some.inj h
  exact G_ret dX0_draw_22 trivial rfl rfl

theorem dX3_copy_0 : decode cX3_copy 0 = .ok (.aload_n 0, 1) := by decide +kernel
theorem dX3_copy_1 : decode cX3_copy 1 = .ok (.aload_n 1, 1) := by decide +kernel
theorem dX3_copy_2 : decode cX3_copy 2 = .ok (.getfield 9, 3) := by decide +kernel
theorem dX3_copy_5 : decode cX3_copy 5 = .ok (.putfield 9, 3) := by decide +kernel
theorem dX3_copy_8 : decode cX3_copy 8 = .ok (.aload_n 0, 1) := by decide +kernel
theorem dX3_copy_9 : decode cX3_copy 9 = .ok (.aload_n 1, 1) := by decide +kernel
theorem dX3_copy_10 : decode cX3_copy 10 = .ok (.getfield 15, 3) := by decide +kernel
theorem dX3_copy_13 : decode cX3_copy 13 = .ok (.putfield 15, 3) := by decide +kernel
theorem dX3_copy_16 : decode cX3_copy 16 = .ok (.aload_n 0, 1) := by decide +kernel
theorem dX3_copy_17 : decode cX3_copy 17 = .ok (.aload_n 1, 1) := by decide +kernel
theorem dX3_copy_18 : decode cX3_copy 18 = .ok (.getfield 18, 3) := by decide +kernel
theorem dX3_copy_21 : decode cX3_copy 21 = .ok (.putfield 18, 3) := by decide +kernel
theorem dX3_copy_24 : decode cX3_copy 24 = .ok (.aload_n 0, 1) := by decide +kernel
theorem dX3_copy_25 : decode cX3_copy 25 = .ok (.aload_n 1, 1) := by decide +kernel
theorem dX3_copy_26 : decode cX3_copy 26 = .ok (.getfield 21, 3) := by decide +kernel
theorem dX3_copy_29 : decode cX3_copy 29 = .ok (.putfield 21, 3) := by decide +kernel
theorem dX3_copy_32 : decode cX3_copy 32 = .ok (.aload_n 0, 1) := by decide +kernel
theorem dX3_copy_33 : decode cX3_copy 33 = .ok (.aload_n 1, 1) := by decide +kernel
theorem dX3_copy_34 : decode cX3_copy 34 = .ok (.getfield 24, 3) := by decide +kernel
theorem dX3_copy_37 : decode cX3_copy 37 = .ok (.putfield 24, 3) := by decide +kernel
theorem dX3_copy_40 : decode cX3_copy 40 = .ok (.aload_n 0, 1) := by decide +kernel
theorem dX3_copy_41 : decode cX3_copy 41 = .ok (.aload_n 1, 1) := by decide +kernel
theorem dX3_copy_42 : decode cX3_copy 42 = .ok (.getfield 27, 3) := by decide +kernel
theorem dX3_copy_45 : decode cX3_copy 45 = .ok (.putfield 27, 3) := by decide +kernel
theorem dX3_copy_48 : decode cX3_copy 48 = .ok (.aload_n 0, 1) := by decide +kernel
theorem dX3_copy_49 : decode cX3_copy 49 = .ok (.aload_n 1, 1) := by decide +kernel
theorem dX3_copy_50 : decode cX3_copy 50 = .ok (.getfield 30, 3) := by decide +kernel
theorem dX3_copy_53 : decode cX3_copy 53 = .ok (.putfield 30, 3) := by decide +kernel
theorem dX3_copy_56 : decode cX3_copy 56 = .ok (.aload_n 0, 1) := by decide +kernel
theorem dX3_copy_57 : decode cX3_copy 57 = .ok (.aload_n 1, 1) := by decide +kernel
theorem dX3_copy_58 : decode cX3_copy 58 = .ok (.getfield 33, 3) := by decide +kernel
theorem dX3_copy_61 : decode cX3_copy 61 = .ok (.putfield 33, 3) := by decide +kernel
theorem dX3_copy_64 : decode cX3_copy 64 = .ok (.return_, 1) := by decide +kernel
def X3_copy (i0 : Nat) (i1 : Nat) (M : Mem) : Option (Mem) := (some (up3 (up3 (up3 (up3 (up3 (up3 (up3 (up3 M 3 i0 0 (M 3 i1 0)) 3 i0 1 (M 3 i1 1)) 3 i0 2 (M 3 i1 2)) 3 i0 3 (M 3 i1 3)) 3 i0 4 (M 3 i1 4)) 3 i0 5 (M 3 i1 5)) 3 i0 6 (M 3 i1 6)) 3 i0 7 (nbZ (M 3 i1 7))))
set_option maxRecDepth 100000 in
set_option maxHeartbeats 4000000 in
theorem X3_copy_ok  {i0 : Nat} {i1 : Nat} {M N : Mem} {res : Mem} (hi0 : i0 < 30) (hi1 : i1 < 30) (h : X3_copy i0 i1 M = some res) : Spec mt_X3_copy 0 [.inr (.inr (3, i0)), .inr (.inr (3, i1))] (M, N) none (res, N) := by
  unfold X3_copy at h
  refine Spec_of_G (by decide) rfl (Nat.le_of_ble_eq_true rfl) ?_
  refine G_sub [(0, .inr (.inr (3, i0))), (1, .inr (.inr (3, i1)))] [0, 1] rfl ?_
  refine G_aload_n dX3_copy_0 rfl ?_
  refine G_aload_n dX3_copy_1 rfl ?_
  refine fg_X3_9 (v := (M 3 i1 0)) rfl rfl hi1 dX3_copy_2 ?_
  refine fp_X3_9 rfl hi0 dX3_copy_5 ?_
  refine G_aload_n dX3_copy_8 rfl ?_
  refine G_aload_n dX3_copy_9 rfl ?_
  refine fg_X3_15 (v := (M 3 i1 1)) (up3_k (by decide)) rfl hi1 dX3_copy_10 ?_
  refine fp_X3_15 rfl hi0 dX3_copy_13 ?_
  refine G_aload_n dX3_copy_16 rfl ?_
  refine G_aload_n dX3_copy_17 rfl ?_
  refine fg_X3_18 (v := (M 3 i1 2)) ((up3_k (by decide)).trans (up3_k (by decide))) rfl hi1 dX3_copy_18 ?_
  refine fp_X3_18 rfl hi0 dX3_copy_21 ?_
  refine G_aload_n dX3_copy_24 rfl ?_
  refine G_aload_n dX3_copy_25 rfl ?_
  refine fg_X3_21 (v := (M 3 i1 3)) ((up3_k (by decide)).trans ((up3_k (by decide)).trans (up3_k (by decide)))) rfl hi1 dX3_copy_26 ?_
  refine fp_X3_21 rfl hi0 dX3_copy_29 ?_
  refine G_aload_n dX3_copy_32 rfl ?_
  refine G_aload_n dX3_copy_33 rfl ?_
  refine fg_X3_24 (v := (M 3 i1 4)) ((up3_k (by decide)).trans ((up3_k (by decide)).trans ((up3_k (by decide)).trans (up3_k (by decide))))) rfl hi1 dX3_copy_34 ?_
  refine fp_X3_24 rfl hi0 dX3_copy_37 ?_
  refine G_aload_n dX3_copy_40 rfl ?_
  refine G_aload_n dX3_copy_41 rfl ?_
  refine fg_X3_27 (v := (M 3 i1 5)) ((up3_k (by decide)).trans ((up3_k (by decide)).trans ((up3_k (by decide)).trans ((up3_k (by decide)).trans (up3_k (by decide)))))) rfl hi1 dX3_copy_42 ?_
  refine fp_X3_27 rfl hi0 dX3_copy_45 ?_
  refine G_aload_n dX3_copy_48 rfl ?_
  refine G_aload_n dX3_copy_49 rfl ?_
  refine fg_X3_30 (v := (M 3 i1 6)) ((up3_k (by decide)).trans ((up3_k (by decide)).trans ((up3_k (by decide)).trans ((up3_k (by decide)).trans ((up3_k (by decide)).trans (up3_k (by decide))))))) rfl hi1 dX3_copy_50 ?_
  refine fp_X3_30 rfl hi0 dX3_copy_53 ?_
  refine G_aload_n dX3_copy_56 rfl ?_
  refine G_aload_n dX3_copy_57 rfl ?_
  refine fg_X3_33 (v := (nbZ (M 3 i1 7))) (congrArg nbZ ((up3_k (by decide)).trans ((up3_k (by decide)).trans ((up3_k (by decide)).trans ((up3_k (by decide)).trans ((up3_k (by decide)).trans ((up3_k (by decide)).trans (up3_k (by decide))))))))) rfl hi1 dX3_copy_58 ?_
  refine fp_X3_33 (nbZ_nbZ _) rfl hi0 dX3_copy_61 ?_
  obtain rfl := Option.some.inj h
  exact G_ret dX3_copy_64 trivial rfl rfl

theorem dX7_isSheet_0 : decode cX7_isSheet 0 = .ok (.iload_n 0, 1) := by decide +kernel
theorem dX7_isSheet_1 : decode cX7_isSheet 1 = .ok (.ifCond .lt 12, 3) := by decide +kernel
theorem dX7_isSheet_4 : decode cX7_isSheet 4 = .ok (.iload_n 0, 1) := by decide +kernel
theorem dX7_isSheet_5 : decode cX7_isSheet 5 = .ok (.iconst 4, 1) := by decide +kernel
theorem dX7_isSheet_6 : decode cX7_isSheet 6 = .ok (.if_icmp .ge 7, 3) := by decide +kernel
theorem dX7_isSheet_9 : decode cX7_isSheet 9 = .ok (.iconst 1, 1) := by decide +kernel
theorem dX7_isSheet_10 : decode cX7_isSheet 10 = .ok (.goto 4, 3) := by decide +kernel
theorem dX7_isSheet_13 : decode cX7_isSheet 13 = .ok (.iconst 0, 1) := by decide +kernel
theorem dX7_isSheet_14 : decode cX7_isSheet 14 = .ok (.ireturn, 1) := by decide +kernel
def X7_isSheet (v0 : Int32) : Int32 := (if v0 < 0 then 0 else (if v0 < 4 then 1 else 0))
set_option maxRecDepth 100000 in
set_option maxHeartbeats 4000000 in
theorem X7_isSheet_ok  {v0 : Int32} {MM0 : MM} {res : Int32} (h : X7_isSheet v0 = res) : Spec mt_X7_isSheet 0 [.inl v0] MM0 (some (.inl res)) MM0 := by
  unfold X7_isSheet at h
  refine Spec_of_G (by decide) rfl (Nat.le_of_ble_eq_true rfl) ?_
  refine G_sub [(0, .inl v0)] [0] rfl ?_
  refine G_iload_n dX7_isSheet_0 rfl ?_
  refine G_if_lt (tgt := 13) dX7_isSheet_1 (by decide) (fun hc1 => ?_) (fun hc1 => ?_)
  · replace h := (if_pos hc1).symm.trans h
    refine G_iconst (v := 0) dX7_isSheet_13 (by decide) ?_
    subst h
    exact G_ret dX7_isSheet_14 (Or.inl rfl) rfl rfl
  · replace h := (if_neg hc1).symm.trans h
    refine G_iload_n dX7_isSheet_4 rfl ?_
    refine G_iconst (v := 4) dX7_isSheet_5 (by decide) ?_
    refine G_icmp_ge (tgt := 13) dX7_isSheet_6 (by decide) (fun hc2 => ?_) (fun hc2 => ?_)
    · replace h := (if_neg hc2).symm.trans h
      refine G_iconst (v := 0) dX7_isSheet_13 (by decide) ?_
      subst h
      exact G_ret dX7_isSheet_14 (Or.inl rfl) rfl rfl
    · replace h := (if_pos hc2).symm.trans h
      refine G_iconst (v := 1) dX7_isSheet_9 (by decide) ?_
      refine G_goto (tgt := 14) dX7_isSheet_10 (by decide) ?_
      subst h
      exact G_ret dX7_isSheet_14 (Or.inr rfl) rfl rfl
theorem X7_isSheet_z {v0 : Int32} : X7_isSheet v0 = 0 ∨ X7_isSheet v0 = 1 := by
  unfold X7_isSheet
  (repeat' split) <;> first | exact Or.inl rfl | exact Or.inr rfl | exact X8_in_z

theorem dX5_isMissing_0 : decode cX5_isMissing 0 = .ok (.aload_n 0, 1) := by decide +kernel
theorem dX5_isMissing_1 : decode cX5_isMissing 1 = .ok (.getfield 15, 3) := by decide +kernel
theorem dX5_isMissing_4 : decode cX5_isMissing 4 = .ok (.ifCond .ne 7, 3) := by decide +kernel
theorem dX5_isMissing_7 : decode cX5_isMissing 7 = .ok (.iconst 1, 1) := by decide +kernel
theorem dX5_isMissing_8 : decode cX5_isMissing 8 = .ok (.goto 4, 3) := by decide +kernel
theorem dX5_isMissing_11 : decode cX5_isMissing 11 = .ok (.iconst 0, 1) := by decide +kernel
theorem dX5_isMissing_12 : decode cX5_isMissing 12 = .ok (.ireturn, 1) := by decide +kernel
def X5_isMissing (i0 : Nat) (M : Mem) : Int32 := (if (M 5 i0 1) = 0 then 1 else 0)
set_option maxRecDepth 100000 in
set_option maxHeartbeats 4000000 in
theorem X5_isMissing_ok  {i0 : Nat} {M N : Mem} {res : Int32} (hi0 : i0 < 4) (h : X5_isMissing i0 M = res) : Spec mt_X5_isMissing 0 [.inr (.inr (5, i0))] (M, N) (some (.inl res)) (M, N) := by
  unfold X5_isMissing at h
  refine Spec_of_G (by decide) rfl (Nat.le_of_ble_eq_true rfl) ?_
  refine G_sub [(0, .inr (.inr (5, i0)))] [0] rfl ?_
  refine G_aload_n dX5_isMissing_0 rfl ?_
  refine fg_X5_15 (v := (M 5 i0 1)) rfl rfl hi0 dX5_isMissing_1 ?_
  refine G_if_ne (tgt := 11) dX5_isMissing_4 (by decide) (fun hc1 => ?_) (fun hc1 => ?_)
  · replace h := (if_neg hc1).symm.trans h
    refine G_iconst (v := 0) dX5_isMissing_11 (by decide) ?_
    subst h
    exact G_ret dX5_isMissing_12 (Or.inl rfl) rfl rfl
  · replace h := (if_pos hc1).symm.trans h
    refine G_iconst (v := 1) dX5_isMissing_7 (by decide) ?_
    refine G_goto (tgt := 12) dX5_isMissing_8 (by decide) ?_
    subst h
    exact G_ret dX5_isMissing_12 (Or.inr rfl) rfl rfl
theorem X5_isMissing_z {i0 : Nat} {M : Mem} : X5_isMissing i0 M = 0 ∨ X5_isMissing i0 M = 1 := by
  unfold X5_isMissing
  (repeat' split) <;> first | exact Or.inl rfl | exact Or.inr rfl | exact X8_in_z

theorem dX5_lay_0 : decode cX5_lay 0 = .ok (.aload_n 0, 1) := by decide +kernel
theorem dX5_lay_1 : decode cX5_lay 1 = .ok (.iload_n 1, 1) := by decide +kernel
theorem dX5_lay_2 : decode cX5_lay 2 = .ok (.putfield 15, 3) := by decide +kernel
theorem dX5_lay_5 : decode cX5_lay 5 = .ok (.aload_n 0, 1) := by decide +kernel
theorem dX5_lay_6 : decode cX5_lay 6 = .ok (.iload_n 2, 1) := by decide +kernel
theorem dX5_lay_7 : decode cX5_lay 7 = .ok (.putfield 19, 3) := by decide +kernel
theorem dX5_lay_10 : decode cX5_lay 10 = .ok (.aload_n 0, 1) := by decide +kernel
theorem dX5_lay_11 : decode cX5_lay 11 = .ok (.getfield 9, 3) := by decide +kernel
theorem dX5_lay_14 : decode cX5_lay 14 = .ok (.iconst 0, 1) := by decide +kernel
theorem dX5_lay_15 : decode cX5_lay 15 = .ok (.invokestatic 22, 3) := by decide +kernel
theorem dX5_lay_18 : decode cX5_lay 18 = .ok (.return_, 1) := by decide +kernel
def X5_lay (i0 : Nat) (v1 : Int32) (v2 : Int32) (M : Mem) : Option (Mem) := ((J7_fill_53178 i0 0 (up3 (up3 M 5 i0 1 v1) 5 i0 2 v2)).bind fun q1 => (some q1))
set_option maxRecDepth 100000 in
set_option maxHeartbeats 4000000 in
theorem X5_lay_ok  {i0 : Nat} {v1 : Int32} {v2 : Int32} {M N : Mem} {res : Mem} (hi0 : i0 < 4) (h : X5_lay i0 v1 v2 M = some res) : Spec mt_X5_lay 1 [.inr (.inr (5, i0)), .inl v1, .inl v2] (M, N) none (res, N) := by
  unfold X5_lay at h
  refine Spec_of_G (by decide) rfl (Nat.le_of_ble_eq_true rfl) ?_
  refine G_sub [(0, .inr (.inr (5, i0))), (1, .inl v1), (2, .inl v2)] [0, 1, 2] rfl ?_
  refine G_aload_n dX5_lay_0 rfl ?_
  refine G_iload_n dX5_lay_1 rfl ?_
  refine fp_X5_15 rfl hi0 dX5_lay_2 ?_
  refine G_aload_n dX5_lay_5 rfl ?_
  refine G_iload_n dX5_lay_6 rfl ?_
  refine fp_X5_19 rfl hi0 dX5_lay_7 ?_
  refine G_aload_n dX5_lay_10 rfl ?_
  refine fg_X5_9 rfl hi0 dX5_lay_11 ?_
  refine G_iconst (v := 0) dX5_lay_14 (by decide) ?_
  obtain ⟨q1, hq1, h⟩ := bnd h
  refine G_callSn  (J7_fill_53178_ok hi0 hq1) ok_J7_fill_53178 ml_X5_22 (by decide) rfl rfl (Nat.le_of_ble_eq_true rfl) dX5_lay_15 ?_
  obtain rfl := Option.some.inj h
  exact G_ret dX5_lay_18 trivial rfl rfl

theorem dX5_lowestBits_0 : decode cX5_lowestBits 0 = .ok (.aload_n 0, 1) := by decide +kernel
theorem dX5_lowestBits_1 : decode cX5_lowestBits 1 = .ok (.getfield 15, 3) := by decide +kernel
theorem dX5_lowestBits_4 : decode cX5_lowestBits 4 = .ok (.bipush 8, 2) := by decide +kernel
theorem dX5_lowestBits_6 : decode cX5_lowestBits 6 = .ok (.if_icmp .ne 6, 3) := by decide +kernel
theorem dX5_lowestBits_9 : decode cX5_lowestBits 9 = .ok (.iload_n 1, 1) := by decide +kernel
theorem dX5_lowestBits_10 : decode cX5_lowestBits 10 = .ok (.i2b, 1) := by decide +kernel
theorem dX5_lowestBits_11 : decode cX5_lowestBits 11 = .ok (.ireturn, 1) := by decide +kernel
theorem dX5_lowestBits_12 : decode cX5_lowestBits 12 = .ok (.aload_n 0, 1) := by decide +kernel
theorem dX5_lowestBits_13 : decode cX5_lowestBits 13 = .ok (.getfield 15, 3) := by decide +kernel
theorem dX5_lowestBits_16 : decode cX5_lowestBits 16 = .ok (.bipush 16, 2) := by decide +kernel
theorem dX5_lowestBits_18 : decode cX5_lowestBits 18 = .ok (.if_icmp .ne 8, 3) := by decide +kernel
theorem dX5_lowestBits_21 : decode cX5_lowestBits 21 = .ok (.iload_n 1, 1) := by decide +kernel
theorem dX5_lowestBits_22 : decode cX5_lowestBits 22 = .ok (.i2s, 1) := by decide +kernel
theorem dX5_lowestBits_23 : decode cX5_lowestBits 23 = .ok (.goto 4, 3) := by decide +kernel
theorem dX5_lowestBits_26 : decode cX5_lowestBits 26 = .ok (.iload_n 1, 1) := by decide +kernel
theorem dX5_lowestBits_27 : decode cX5_lowestBits 27 = .ok (.ireturn, 1) := by decide +kernel
def X5_lowestBits (i0 : Nat) (v1 : Int32) (M : Mem) : Int32 := (if (M 5 i0 1) = 8 then (nbB v1) else (if (M 5 i0 1) = 16 then (v1.toInt16.toInt32) else v1))
set_option maxRecDepth 100000 in
set_option maxHeartbeats 4000000 in
theorem X5_lowestBits_ok  {i0 : Nat} {v1 : Int32} {M N : Mem} {res : Int32} (hi0 : i0 < 4) (h : X5_lowestBits i0 v1 M = res) : Spec mt_X5_lowestBits 0 [.inr (.inr (5, i0)), .inl v1] (M, N) (some (.inl res)) (M, N) := by
  unfold X5_lowestBits at h
  refine Spec_of_G (by decide) rfl (Nat.le_of_ble_eq_true rfl) ?_
  refine G_sub [(0, .inr (.inr (5, i0))), (1, .inl v1)] [0, 1] rfl ?_
  refine G_aload_n dX5_lowestBits_0 rfl ?_
  refine fg_X5_15 (v := (M 5 i0 1)) rfl rfl hi0 dX5_lowestBits_1 ?_
  refine G_bipush (v := 8) dX5_lowestBits_4 (by decide) ?_
  refine G_icmp_ne (tgt := 12) dX5_lowestBits_6 (by decide) (fun hc1 => ?_) (fun hc1 => ?_)
  · replace h := (if_neg hc1).symm.trans h
    refine G_aload_n dX5_lowestBits_12 rfl ?_
    refine fg_X5_15 (v := (M 5 i0 1)) rfl rfl hi0 dX5_lowestBits_13 ?_
    refine G_bipush (v := 16) dX5_lowestBits_16 (by decide) ?_
    refine G_icmp_ne (tgt := 26) dX5_lowestBits_18 (by decide) (fun hc2 => ?_) (fun hc2 => ?_)
    · replace h := (if_neg hc2).symm.trans h
      refine G_iload_n dX5_lowestBits_26 rfl ?_
      subst h
      exact G_ret dX5_lowestBits_27 trivial rfl rfl
    · replace h := (if_pos hc2).symm.trans h
      refine G_iload_n dX5_lowestBits_21 rfl ?_
      refine G_i2s dX5_lowestBits_22 ?_
      refine G_goto (tgt := 27) dX5_lowestBits_23 (by decide) ?_
      subst h
      exact G_ret dX5_lowestBits_27 trivial rfl rfl
  · replace h := (if_pos hc1).symm.trans h
    refine G_iload_n dX5_lowestBits_9 rfl ?_
    refine G_i2b dX5_lowestBits_10 ?_
    subst h
    exact G_ret dX5_lowestBits_11 trivial rfl rfl

theorem dX5_holds_0 : decode cX5_holds 0 = .ok (.iload_n 2, 1) := by decide +kernel
theorem dX5_holds_1 : decode cX5_holds 1 = .ok (.ifCond .lt 29, 3) := by decide +kernel
theorem dX5_holds_4 : decode cX5_holds 4 = .ok (.iload_n 1, 1) := by decide +kernel
theorem dX5_holds_5 : decode cX5_holds 5 = .ok (.ifCond .lt 25, 3) := by decide +kernel
theorem dX5_holds_8 : decode cX5_holds 8 = .ok (.iload_n 2, 1) := by decide +kernel
theorem dX5_holds_9 : decode cX5_holds 9 = .ok (.aload_n 0, 1) := by decide +kernel
theorem dX5_holds_10 : decode cX5_holds 10 = .ok (.getfield 19, 3) := by decide +kernel
theorem dX5_holds_13 : decode cX5_holds 13 = .ok (.if_icmp .gt 17, 3) := by decide +kernel
theorem dX5_holds_16 : decode cX5_holds 16 = .ok (.iload_n 1, 1) := by decide +kernel
theorem dX5_holds_17 : decode cX5_holds 17 = .ok (.aload_n 0, 1) := by decide +kernel
theorem dX5_holds_18 : decode cX5_holds 18 = .ok (.getfield 19, 3) := by decide +kernel
theorem dX5_holds_21 : decode cX5_holds 21 = .ok (.iload_n 2, 1) := by decide +kernel
theorem dX5_holds_22 : decode cX5_holds 22 = .ok (.isub, 1) := by decide +kernel
theorem dX5_holds_23 : decode cX5_holds 23 = .ok (.if_icmp .gt 7, 3) := by decide +kernel
theorem dX5_holds_26 : decode cX5_holds 26 = .ok (.iconst 1, 1) := by decide +kernel
theorem dX5_holds_27 : decode cX5_holds 27 = .ok (.goto 4, 3) := by decide +kernel
theorem dX5_holds_30 : decode cX5_holds 30 = .ok (.iconst 0, 1) := by decide +kernel
theorem dX5_holds_31 : decode cX5_holds 31 = .ok (.ireturn, 1) := by decide +kernel
def X5_holds (i0 : Nat) (v1 : Int32) (v2 : Int32) (M : Mem) : Int32 := (if v2 < 0 then 0 else (if v1 < 0 then 0 else (if (M 5 i0 2) < v2 then 0 else (if ((M 5 i0 2) - v2) < v1 then 0 else 1))))
set_option maxRecDepth 100000 in
set_option maxHeartbeats 4000000 in
theorem X5_holds_ok  {i0 : Nat} {v1 : Int32} {v2 : Int32} {M N : Mem} {res : Int32} (hi0 : i0 < 4) (h : X5_holds i0 v1 v2 M = res) : Spec mt_X5_holds 0 [.inr (.inr (5, i0)), .inl v1, .inl v2] (M, N) (some (.inl res)) (M, N) := by
  unfold X5_holds at h
  refine Spec_of_G (by decide) rfl (Nat.le_of_ble_eq_true rfl) ?_
  refine G_sub [(0, .inr (.inr (5, i0))), (1, .inl v1), (2, .inl v2)] [0, 1, 2] rfl ?_
  refine G_iload_n dX5_holds_0 rfl ?_
  refine G_if_lt (tgt := 30) dX5_holds_1 (by decide) (fun hc1 => ?_) (fun hc1 => ?_)
  · replace h := (if_pos hc1).symm.trans h
    refine G_iconst (v := 0) dX5_holds_30 (by decide) ?_
    subst h
    exact G_ret dX5_holds_31 (Or.inl rfl) rfl rfl
  · replace h := (if_neg hc1).symm.trans h
    refine G_iload_n dX5_holds_4 rfl ?_
    refine G_if_lt (tgt := 30) dX5_holds_5 (by decide) (fun hc2 => ?_) (fun hc2 => ?_)
    · replace h := (if_pos hc2).symm.trans h
      refine G_iconst (v := 0) dX5_holds_30 (by decide) ?_
      subst h
      exact G_ret dX5_holds_31 (Or.inl rfl) rfl rfl
    · replace h := (if_neg hc2).symm.trans h
      refine G_iload_n dX5_holds_8 rfl ?_
      refine G_aload_n dX5_holds_9 rfl ?_
      refine fg_X5_19 (v := (M 5 i0 2)) rfl rfl hi0 dX5_holds_10 ?_
      refine G_icmp_gt (tgt := 30) dX5_holds_13 (by decide) (fun hc3 => ?_) (fun hc3 => ?_)
      · replace h := (if_pos hc3).symm.trans h
        refine G_iconst (v := 0) dX5_holds_30 (by decide) ?_
        subst h
        exact G_ret dX5_holds_31 (Or.inl rfl) rfl rfl
      · replace h := (if_neg hc3).symm.trans h
        refine G_iload_n dX5_holds_16 rfl ?_
        refine G_aload_n dX5_holds_17 rfl ?_
        refine fg_X5_19 (v := (M 5 i0 2)) rfl rfl hi0 dX5_holds_18 ?_
        refine G_iload_n dX5_holds_21 rfl ?_
        refine G_isub dX5_holds_22 ?_
        refine G_icmp_gt (tgt := 30) dX5_holds_23 (by decide) (fun hc4 => ?_) (fun hc4 => ?_)
        · replace h := (if_pos hc4).symm.trans h
          refine G_iconst (v := 0) dX5_holds_30 (by decide) ?_
          subst h
          exact G_ret dX5_holds_31 (Or.inl rfl) rfl rfl
        · replace h := (if_neg hc4).symm.trans h
          refine G_iconst (v := 1) dX5_holds_26 (by decide) ?_
          refine G_goto (tgt := 31) dX5_holds_27 (by decide) ?_
          subst h
          exact G_ret dX5_holds_31 (Or.inr rfl) rfl rfl
theorem X5_holds_z {i0 : Nat} {v1 : Int32} {v2 : Int32} {M : Mem} : X5_holds i0 v1 v2 M = 0 ∨ X5_holds i0 v1 v2 M = 1 := by
  unfold X5_holds
  (repeat' split) <;> first | exact Or.inl rfl | exact Or.inr rfl | exact X8_in_z

theorem dX0_copy_0 : decode cX0_copy 0 = .ok (.aload_n 1, 1) := by decide +kernel
theorem dX0_copy_1 : decode cX0_copy 1 = .ok (.getfield 9, 3) := by decide +kernel
theorem dX0_copy_4 : decode cX0_copy 4 = .ok (.iconst 0, 1) := by decide +kernel
theorem dX0_copy_5 : decode cX0_copy 5 = .ok (.aload_n 0, 1) := by decide +kernel
theorem dX0_copy_6 : decode cX0_copy 6 = .ok (.getfield 9, 3) := by decide +kernel
theorem dX0_copy_9 : decode cX0_copy 9 = .ok (.iconst 0, 1) := by decide +kernel
theorem dX0_copy_10 : decode cX0_copy 10 = .ok (.bipush 50, 2) := by decide +kernel
theorem dX0_copy_12 : decode cX0_copy 12 = .ok (.invokestatic 23, 3) := by decide +kernel
theorem dX0_copy_15 : decode cX0_copy 15 = .ok (.aload_n 1, 1) := by decide +kernel
theorem dX0_copy_16 : decode cX0_copy 16 = .ok (.getfield 15, 3) := by decide +kernel
theorem dX0_copy_19 : decode cX0_copy 19 = .ok (.iconst 0, 1) := by decide +kernel
theorem dX0_copy_20 : decode cX0_copy 20 = .ok (.aload_n 0, 1) := by decide +kernel
theorem dX0_copy_21 : decode cX0_copy 21 = .ok (.getfield 15, 3) := by decide +kernel
theorem dX0_copy_24 : decode cX0_copy 24 = .ok (.iconst 0, 1) := by decide +kernel
theorem dX0_copy_25 : decode cX0_copy 25 = .ok (.bipush 20, 2) := by decide +kernel
theorem dX0_copy_27 : decode cX0_copy 27 = .ok (.invokestatic 23, 3) := by decide +kernel
theorem dX0_copy_30 : decode cX0_copy 30 = .ok (.aload_n 0, 1) := by decide +kernel
theorem dX0_copy_31 : decode cX0_copy 31 = .ok (.aload_n 1, 1) := by decide +kernel
theorem dX0_copy_32 : decode cX0_copy 32 = .ok (.getfield 29, 3) := by decide +kernel
theorem dX0_copy_35 : decode cX0_copy 35 = .ok (.putfield 29, 3) := by decide +kernel
theorem dX0_copy_38 : decode cX0_copy 38 = .ok (.aload_n 0, 1) := by decide +kernel
theorem dX0_copy_39 : decode cX0_copy 39 = .ok (.aload_n 1, 1) := by decide +kernel
theorem dX0_copy_40 : decode cX0_copy 40 = .ok (.getfield 32, 3) := by decide +kernel
theorem dX0_copy_43 : decode cX0_copy 43 = .ok (.putfield 32, 3) := by decide +kernel
theorem dX0_copy_46 : decode cX0_copy 46 = .ok (.aload_n 0, 1) := by decide +kernel
theorem dX0_copy_47 : decode cX0_copy 47 = .ok (.aload_n 1, 1) := by decide +kernel
theorem dX0_copy_48 : decode cX0_copy 48 = .ok (.getfield 19, 3) := by decide +kernel
theorem dX0_copy_51 : decode cX0_copy 51 = .ok (.putfield 19, 3) := by decide +kernel
theorem dX0_copy_54 : decode cX0_copy 54 = .ok (.return_, 1) := by decide +kernel
def X0_copy (i0 : Nat) (i1 : Nat) (M : Mem) : Option (Mem) := (if cpok (0 : Int32) (0 : Int32) (50 : Int32) 50 50 = true then (if cpok (0 : Int32) (0 : Int32) (20 : Int32) 20 20 = true then (some (up3 (up3 (up3 (cp3 (cp3 M 8 i1 0 8 i0 0 50) 9 i1 0 9 i0 0 20) 0 i0 2 (M 0 i1 2)) 0 i0 3 (M 0 i1 3)) 0 i0 4 (M 0 i1 4))) else none) else none)
set_option maxRecDepth 100000 in
set_option maxHeartbeats 4000000 in
theorem X0_copy_ok  {i0 : Nat} {i1 : Nat} {M N : Mem} {res : Mem} (hi0 : i0 < 2) (hi1 : i1 < 2) (h : X0_copy i0 i1 M = some res) : Spec mt_X0_copy 1 [.inr (.inr (0, i0)), .inr (.inr (0, i1))] (M, N) none (res, N) := by
  unfold X0_copy at h
  refine Spec_of_G (by decide) rfl (Nat.le_of_ble_eq_true rfl) ?_
  refine G_sub [(0, .inr (.inr (0, i0))), (1, .inr (.inr (0, i1)))] [0, 1] rfl ?_
  refine G_aload_n dX0_copy_0 rfl ?_
  refine fg_X0_9 rfl hi1 dX0_copy_1 ?_
  refine G_iconst (v := 0) dX0_copy_4 (by decide) ?_
  refine G_aload_n dX0_copy_5 rfl ?_
  refine fg_X0_9 rfl hi0 dX0_copy_6 ?_
  refine G_iconst (v := 0) dX0_copy_9 (by decide) ?_
  refine G_bipush (v := 50) dX0_copy_10 (by decide) ?_
  obtain ⟨hb1, h⟩ := chk h
  refine G_copy (M2 := ((cp3 M 8 i1 0 8 i0 0 50), N)) ml_X0_23 na_copy st_copy in_System (by decide) (show i1 < 3 from (by omega)) (by decide) (show i0 < 3 from (by omega)) (by decide) (by decide) (by decide) hb1 (by decide) rfl rfl dX0_copy_12 ?_
  refine G_aload_n dX0_copy_15 rfl ?_
  refine fg_X0_15 rfl hi1 dX0_copy_16 ?_
  refine G_iconst (v := 0) dX0_copy_19 (by decide) ?_
  refine G_aload_n dX0_copy_20 rfl ?_
  refine fg_X0_15 rfl hi0 dX0_copy_21 ?_
  refine G_iconst (v := 0) dX0_copy_24 (by decide) ?_
  refine G_bipush (v := 20) dX0_copy_25 (by decide) ?_
  obtain ⟨hb2, h⟩ := chk h
  refine G_copy (M2 := ((cp3 (cp3 M 8 i1 0 8 i0 0 50) 9 i1 0 9 i0 0 20), N)) ml_X0_23 na_copy st_copy in_System (by decide) (show i1 < 2 from hi1) (by decide) (show i0 < 2 from hi0) (by decide) (by decide) (by decide) hb2 (by decide) rfl rfl dX0_copy_27 ?_
  refine G_aload_n dX0_copy_30 rfl ?_
  refine G_aload_n dX0_copy_31 rfl ?_
  refine fg_X0_29 (v := (M 0 i1 2)) ((cp3_f (by decide)).trans (cp3_f (by decide))) rfl hi1 dX0_copy_32 ?_
  refine fp_X0_29 rfl hi0 dX0_copy_35 ?_
  refine G_aload_n dX0_copy_38 rfl ?_
  refine G_aload_n dX0_copy_39 rfl ?_
  refine fg_X0_32 (v := (M 0 i1 3)) ((up3_k (by decide)).trans ((cp3_f (by decide)).trans (cp3_f (by decide)))) rfl hi1 dX0_copy_40 ?_
  refine fp_X0_32 rfl hi0 dX0_copy_43 ?_
  refine G_aload_n dX0_copy_46 rfl ?_
  refine G_aload_n dX0_copy_47 rfl ?_
  refine fg_X0_19 (v := (M 0 i1 4)) ((up3_k (by decide)).trans ((up3_k (by decide)).trans ((cp3_f (by decide)).trans (cp3_f (by decide))))) rfl hi1 dX0_copy_48 ?_
  refine fp_X0_19 rfl hi0 dX0_copy_51 ?_
  obtain rfl := Option.some.inj h
  exact G_ret dX0_copy_54 trivial rfl rfl

