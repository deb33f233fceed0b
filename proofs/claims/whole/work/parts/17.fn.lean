theorem dX8_warmsBy_0 : decode cX8_warmsBy 0 = .ok (.iconst 0, 1) := by decide +kernel
theorem dX8_warmsBy_1 : decode cX8_warmsBy 1 = .ok (.istore_n 3, 1) := by decide +kernel
theorem dX8_warmsBy_2 : decode cX8_warmsBy 2 = .ok (.iload_n 1, 1) := by decide +kernel
theorem dX8_warmsBy_3 : decode cX8_warmsBy 3 = .ok (.lookupswitch 107 #[(0, 33), (2, 56), (5, 89)], 33) := by decide +kernel
theorem dX8_warmsBy_36 : decode cX8_warmsBy 36 = .ok (.aload_n 0, 1) := by decide +kernel
theorem dX8_warmsBy_37 : decode cX8_warmsBy 37 = .ok (.bipush 11, 2) := by decide +kernel
theorem dX8_warmsBy_39 : decode cX8_warmsBy 39 = .ok (.invokevirtual 232, 3) := by decide +kernel
theorem dX8_warmsBy_42 : decode cX8_warmsBy 42 = .ok (.aload_n 0, 1) := by decide +kernel
theorem dX8_warmsBy_43 : decode cX8_warmsBy 43 = .ok (.aload_n 0, 1) := by decide +kernel
theorem dX8_warmsBy_44 : decode cX8_warmsBy 44 = .ok (.aload_n 0, 1) := by decide +kernel
theorem dX8_warmsBy_45 : decode cX8_warmsBy 45 = .ok (.getfield 235, 3) := by decide +kernel
theorem dX8_warmsBy_48 : decode cX8_warmsBy 48 = .ok (.iconst 0, 1) := by decide +kernel
theorem dX8_warmsBy_49 : decode cX8_warmsBy 49 = .ok (.invokevirtual 53, 3) := by decide +kernel
theorem dX8_warmsBy_52 : decode cX8_warmsBy 52 = .ok (.iload_n 2, 1) := by decide +kernel
theorem dX8_warmsBy_53 : decode cX8_warmsBy 53 = .ok (.invokevirtual 238, 3) := by decide +kernel
theorem dX8_warmsBy_56 : decode cX8_warmsBy 56 = .ok (.iconst 2, 1) := by decide +kernel
theorem dX8_warmsBy_57 : decode cX8_warmsBy 57 = .ok (.imul, 1) := by decide +kernel
theorem dX8_warmsBy_58 : decode cX8_warmsBy 58 = .ok (.ireturn, 1) := by decide +kernel
theorem dX8_warmsBy_59 : decode cX8_warmsBy 59 = .ok (.aload_n 0, 1) := by decide +kernel
theorem dX8_warmsBy_60 : decode cX8_warmsBy 60 = .ok (.bipush 30, 2) := by decide +kernel
theorem dX8_warmsBy_62 : decode cX8_warmsBy 62 = .ok (.invokevirtual 232, 3) := by decide +kernel
theorem dX8_warmsBy_65 : decode cX8_warmsBy 65 = .ok (.aload_n 0, 1) := by decide +kernel
theorem dX8_warmsBy_66 : decode cX8_warmsBy 66 = .ok (.iconst 2, 1) := by decide +kernel
theorem dX8_warmsBy_67 : decode cX8_warmsBy 67 = .ok (.invokestatic 193, 3) := by decide +kernel
theorem dX8_warmsBy_70 : decode cX8_warmsBy 70 = .ok (.iload_n 2, 1) := by decide +kernel
theorem dX8_warmsBy_71 : decode cX8_warmsBy 71 = .ok (.invokevirtual 241, 3) := by decide +kernel
theorem dX8_warmsBy_74 : decode cX8_warmsBy 74 = .ok (.istore_n 3, 1) := by decide +kernel
theorem dX8_warmsBy_75 : decode cX8_warmsBy 75 = .ok (.iload_n 3, 1) := by decide +kernel
theorem dX8_warmsBy_76 : decode cX8_warmsBy 76 = .ok (.aload_n 0, 1) := by decide +kernel
theorem dX8_warmsBy_77 : decode cX8_warmsBy 77 = .ok (.aload_n 0, 1) := by decide +kernel
theorem dX8_warmsBy_78 : decode cX8_warmsBy 78 = .ok (.aload_n 0, 1) := by decide +kernel
theorem dX8_warmsBy_79 : decode cX8_warmsBy 79 = .ok (.getfield 235, 3) := by decide +kernel
theorem dX8_warmsBy_82 : decode cX8_warmsBy 82 = .ok (.iconst 0, 1) := by decide +kernel
theorem dX8_warmsBy_83 : decode cX8_warmsBy 83 = .ok (.invokevirtual 53, 3) := by decide +kernel
theorem dX8_warmsBy_86 : decode cX8_warmsBy 86 = .ok (.iconst 1, 1) := by decide +kernel
theorem dX8_warmsBy_87 : decode cX8_warmsBy 87 = .ok (.invokevirtual 244, 3) := by decide +kernel
theorem dX8_warmsBy_90 : decode cX8_warmsBy 90 = .ok (.isub, 1) := by decide +kernel
theorem dX8_warmsBy_91 : decode cX8_warmsBy 91 = .ok (.ireturn, 1) := by decide +kernel
theorem dX8_warmsBy_92 : decode cX8_warmsBy 92 = .ok (.aload_n 0, 1) := by decide +kernel
theorem dX8_warmsBy_93 : decode cX8_warmsBy 93 = .ok (.bipush 60, 2) := by decide +kernel
theorem dX8_warmsBy_95 : decode cX8_warmsBy 95 = .ok (.invokevirtual 232, 3) := by decide +kernel
theorem dX8_warmsBy_98 : decode cX8_warmsBy 98 = .ok (.aload_n 0, 1) := by decide +kernel
theorem dX8_warmsBy_99 : decode cX8_warmsBy 99 = .ok (.iconst 5, 1) := by decide +kernel
theorem dX8_warmsBy_100 : decode cX8_warmsBy 100 = .ok (.invokestatic 193, 3) := by decide +kernel
theorem dX8_warmsBy_103 : decode cX8_warmsBy 103 = .ok (.iload_n 2, 1) := by decide +kernel
theorem dX8_warmsBy_104 : decode cX8_warmsBy 104 = .ok (.iconst 1, 1) := by decide +kernel
theorem dX8_warmsBy_105 : decode cX8_warmsBy 105 = .ok (.iadd, 1) := by decide +kernel
theorem dX8_warmsBy_106 : decode cX8_warmsBy 106 = .ok (.invokevirtual 241, 3) := by decide +kernel
theorem dX8_warmsBy_109 : decode cX8_warmsBy 109 = .ok (.ireturn, 1) := by decide +kernel
theorem dX8_warmsBy_110 : decode cX8_warmsBy 110 = .ok (.aload_n 0, 1) := by decide +kernel
theorem dX8_warmsBy_111 : decode cX8_warmsBy 111 = .ok (.iload_n 1, 1) := by decide +kernel
theorem dX8_warmsBy_112 : decode cX8_warmsBy 112 = .ok (.invokestatic 193, 3) := by decide +kernel
theorem dX8_warmsBy_115 : decode cX8_warmsBy 115 = .ok (.iload_n 2, 1) := by decide +kernel
theorem dX8_warmsBy_116 : decode cX8_warmsBy 116 = .ok (.invokevirtual 241, 3) := by decide +kernel
theorem dX8_warmsBy_119 : decode cX8_warmsBy 119 = .ok (.ireturn, 1) := by decide +kernel
def X8_warmsBy (rc : Nat → Int32 → Int32 → Mem → Option (Int32 × Mem)) (v1 : Int32) (v2 : Int32) (M : Mem) : Option (Int32 × Mem) := (if v1 = 0 then ((X8_ran 11 M).bind fun q1 => ((X8_of (q1 19 0 17) 0 q1).bind fun q2 => ((X8_holdsByC q2 v2 q1).bind fun q3 => (some ((q3.1 * 2), q3.2))))) else (if v1 = 2 then ((X8_ran 30 M).bind fun q4 => ((rc 0 (X8_above 2) v2 q4).bind fun q5 => ((X8_of (q5.2 19 0 17) 0 q5.2).bind fun q6 => ((X8_growsByC q6 1 q5.2).bind fun q7 => (some ((q5.1 - q7.1), q7.2)))))) else (if v1 = 5 then ((X8_ran 60 M).bind fun q8 => ((rc 0 (X8_above 5) (v2 + 1) q8).bind fun q9 => (some (q9.1, q9.2)))) else ((rc 0 (X8_above v1) v2 M).bind fun q10 => (some (q10.1, q10.2))))))
set_option maxRecDepth 100000 in
set_option maxHeartbeats 4000000 in
theorem X8_warmsBy_ok (rc : Nat → Int32 → Int32 → Mem → Option (Int32 × Mem))  {d : Nat} (hd0 : 102 ≤ d) (hr0 : ∀ {a0 a1 : Int32} {M N : Mem} {res : Int32 × Mem}, rc 0 a0 a1 M = some res → Spec mt_X8_warmsBy d [.inr (.inr (19, 0)), .inl a0, .inl a1] (N, M) (some (.inl res.1)) (N, res.2)) {v1 : Int32} {v2 : Int32} {M N : Mem} {res : Int32 × Mem} (h : X8_warmsBy rc v1 v2 M = some res) : Spec mt_X8_warmsBy (d + 1) [.inr (.inr (19, 0)), .inl v1, .inl v2] (N, M) (some (.inl res.1)) (N, res.2) := by
  unfold X8_warmsBy at h
  refine Spec_of_G (by decide) rfl (Nat.le_of_ble_eq_true rfl) ?_
  refine G_sub [(0, .inr (.inr (19, 0))), (1, .inl v1), (2, .inl v2)] [0, 1, 2] rfl ?_
  refine G_iconst (v := 0) dX8_warmsBy_0 (by decide) ?_
  refine G_istore_n (L2 := [(3, .inl 0), (0, .inr (.inr (19, 0))), (1, .inl v1), (2, .inl v2)]) dX8_warmsBy_1 (by decide) rfl ?_
  refine G_iload_n dX8_warmsBy_2 rfl ?_
  by_cases hc1 : v1 = 0
  · replace h := (if_pos hc1).symm.trans h
    refine G_lookEq (off := 33) (tgt := 36) hc1 dX8_warmsBy_3 (by decide) (by decide) (by decide) ?_
    refine G_aload_n dX8_warmsBy_36 rfl ?_
    refine G_bipush (v := 11) dX8_warmsBy_37 (by decide) ?_
    obtain ⟨q1, hq1, h⟩ := bnd h
    refine G_callVn (T := TX8) (N := 22) (f := 19) (i := 0) (X8_ran_ok hq1) ok_X8_ran ml_X8_232 (by omega) rfl (by decide) (by decide) (by decide) rfl rfl (Nat.le_of_ble_eq_true rfl) dX8_warmsBy_39 ?_
    refine G_aload_n dX8_warmsBy_42 rfl ?_
    refine G_aload_n dX8_warmsBy_43 rfl ?_
    refine G_aload_n dX8_warmsBy_44 rfl ?_
    refine fg_X8_235 (v := (q1 19 0 17)) rfl rfl (by decide) dX8_warmsBy_45 ?_
    refine G_iconst (v := 0) dX8_warmsBy_48 (by decide) ?_
    obtain ⟨q2, hq2, h⟩ := bnd h
    refine G_callVv (T := TX8) (N := 22) (f := 19) (i := 0) (X8_of_ok hq2) ok_X8_of ml_X8_53 (by omega) rfl (by decide) (by decide) (by decide) rfl rfl (Nat.le_of_ble_eq_true rfl) dX8_warmsBy_49 ?_
    refine G_iload_n dX8_warmsBy_52 rfl ?_
    obtain ⟨q3, hq3, h⟩ := bnd h
    refine G_callVv (T := TX8) (N := 22) (f := 19) (i := 0) (X8_holdsByC_ok hq3) ok_X8_holdsBy ml_X8_238 (by omega) rfl (by decide) (by decide) (by decide) rfl rfl (Nat.le_of_ble_eq_true rfl) dX8_warmsBy_53 ?_
    refine G_iconst (v := 2) dX8_warmsBy_56 (by decide) ?_
    refine G_imul dX8_warmsBy_57 ?_
    obtain rfl := Option.some.inj h
    exact G_ret dX8_warmsBy_58 trivial rfl rfl
  replace h := (if_neg hc1).symm.trans h
  by_cases hc2 : v1 = 2
  · replace h := (if_pos hc2).symm.trans h
    refine G_lookEq (off := 56) (tgt := 59) hc2 dX8_warmsBy_3 (by decide) (by decide) (by decide) ?_
    refine G_aload_n dX8_warmsBy_59 rfl ?_
    refine G_bipush (v := 30) dX8_warmsBy_60 (by decide) ?_
    obtain ⟨q4, hq4, h⟩ := bnd h
    refine G_callVn (T := TX8) (N := 22) (f := 19) (i := 0) (X8_ran_ok hq4) ok_X8_ran ml_X8_232 (by omega) rfl (by decide) (by decide) (by decide) rfl rfl (Nat.le_of_ble_eq_true rfl) dX8_warmsBy_62 ?_
    refine G_aload_n dX8_warmsBy_65 rfl ?_
    refine G_iconst (v := 2) dX8_warmsBy_66 (by decide) ?_
    refine G_callSv  (X8_above_ok rfl) ok_X8_above ml_X8_193 (by omega) rfl rfl (Nat.le_of_ble_eq_true rfl) dX8_warmsBy_67 ?_
    refine G_iload_n dX8_warmsBy_70 rfl ?_
    obtain ⟨q5, hq5, h⟩ := bnd h
    refine G_callVv (T := TX8) (N := 22) (f := 19) (i := 0) (hr0 hq5) ok_X8_warmsBy ml_X8_241 (by omega) rfl (by decide) (by decide) (by decide) rfl rfl (Nat.le_of_ble_eq_true rfl) dX8_warmsBy_71 ?_
    refine G_istore_n (L2 := [(3, .inl q5.1), (0, .inr (.inr (19, 0))), (1, .inl v1), (2, .inl v2)]) dX8_warmsBy_74 (by decide) rfl ?_
    refine G_iload_n dX8_warmsBy_75 rfl ?_
    refine G_aload_n dX8_warmsBy_76 rfl ?_
    refine G_aload_n dX8_warmsBy_77 rfl ?_
    refine G_aload_n dX8_warmsBy_78 rfl ?_
    refine fg_X8_235 (v := (q5.2 19 0 17)) rfl rfl (by decide) dX8_warmsBy_79 ?_
    refine G_iconst (v := 0) dX8_warmsBy_82 (by decide) ?_
    obtain ⟨q6, hq6, h⟩ := bnd h
    refine G_callVv (T := TX8) (N := 22) (f := 19) (i := 0) (X8_of_ok hq6) ok_X8_of ml_X8_53 (by omega) rfl (by decide) (by decide) (by decide) rfl rfl (Nat.le_of_ble_eq_true rfl) dX8_warmsBy_83 ?_
    refine G_iconst (v := 1) dX8_warmsBy_86 (by decide) ?_
    obtain ⟨q7, hq7, h⟩ := bnd h
    refine G_callVv (T := TX8) (N := 22) (f := 19) (i := 0) (X8_growsByC_ok hq7) ok_X8_growsBy ml_X8_244 (by omega) rfl (by decide) (by decide) (by decide) rfl rfl (Nat.le_of_ble_eq_true rfl) dX8_warmsBy_87 ?_
    refine G_isub dX8_warmsBy_90 ?_
    obtain rfl := Option.some.inj h
    exact G_ret dX8_warmsBy_91 trivial rfl rfl
  replace h := (if_neg hc2).symm.trans h
  by_cases hc3 : v1 = 5
  · replace h := (if_pos hc3).symm.trans h
    refine G_lookEq (off := 89) (tgt := 92) hc3 dX8_warmsBy_3 (by decide) (by decide) (by decide) ?_
    refine G_aload_n dX8_warmsBy_92 rfl ?_
    refine G_bipush (v := 60) dX8_warmsBy_93 (by decide) ?_
    obtain ⟨q8, hq8, h⟩ := bnd h
    refine G_callVn (T := TX8) (N := 22) (f := 19) (i := 0) (X8_ran_ok hq8) ok_X8_ran ml_X8_232 (by omega) rfl (by decide) (by decide) (by decide) rfl rfl (Nat.le_of_ble_eq_true rfl) dX8_warmsBy_95 ?_
    refine G_aload_n dX8_warmsBy_98 rfl ?_
    refine G_iconst (v := 5) dX8_warmsBy_99 (by decide) ?_
    refine G_callSv  (X8_above_ok rfl) ok_X8_above ml_X8_193 (by omega) rfl rfl (Nat.le_of_ble_eq_true rfl) dX8_warmsBy_100 ?_
    refine G_iload_n dX8_warmsBy_103 rfl ?_
    refine G_iconst (v := 1) dX8_warmsBy_104 (by decide) ?_
    refine G_iadd dX8_warmsBy_105 ?_
    obtain ⟨q9, hq9, h⟩ := bnd h
    refine G_callVv (T := TX8) (N := 22) (f := 19) (i := 0) (hr0 hq9) ok_X8_warmsBy ml_X8_241 (by omega) rfl (by decide) (by decide) (by decide) rfl rfl (Nat.le_of_ble_eq_true rfl) dX8_warmsBy_106 ?_
    obtain rfl := Option.some.inj h
    exact G_ret dX8_warmsBy_109 trivial rfl rfl
  replace h := (if_neg hc3).symm.trans h
  have nhc1 := ne_lit (n := 0) (by decide) hc1
  have nhc2 := ne_lit (n := 2) (by decide) hc2
  have nhc3 := ne_lit (n := 5) (by decide) hc3
  refine G_lookup (off := 107) (tgt := 110) dX8_warmsBy_3 (by decide) (by generalize (v1 : Int32).toInt = zz at nhc1 nhc2 nhc3 ⊢; simp [Op.lookupswitch.offset, Ne.symm nhc1, Ne.symm nhc2, Ne.symm nhc3]; done) (by decide) ?_
  refine G_aload_n dX8_warmsBy_110 rfl ?_
  refine G_iload_n dX8_warmsBy_111 rfl ?_
  refine G_callSv  (X8_above_ok rfl) ok_X8_above ml_X8_193 (by omega) rfl rfl (Nat.le_of_ble_eq_true rfl) dX8_warmsBy_112 ?_
  refine G_iload_n dX8_warmsBy_115 rfl ?_
  obtain ⟨q10, hq10, h⟩ := bnd h
  refine G_callVv (T := TX8) (N := 22) (f := 19) (i := 0) (hr0 hq10) ok_X8_warmsBy ml_X8_241 (by omega) rfl (by decide) (by decide) (by decide) rfl rfl (Nat.le_of_ble_eq_true rfl) dX8_warmsBy_116 ?_
  obtain rfl := Option.some.inj h
  exact G_ret dX8_warmsBy_119 trivial rfl rfl

def X8_rec_warmsBy : Nat → Nat → Int32 → Int32 → Mem → Option (Int32 × Mem)
  | 0, _, _, _, _ => none
  | fu + 1, tg, a0, a1, M => (if tg = 0 then X8_warmsBy (X8_rec_warmsBy fu) a0 a1 M else none)
theorem X8_rec_warmsBy_ok : ∀ (fu : Nat), (∀ {a0 a1 : Int32} {M N : Mem} {res : Int32 × Mem}, X8_rec_warmsBy fu 0 a0 a1 M = some res → Spec mt_X8_warmsBy (fu + 102) [.inr (.inr (19, 0)), .inl a0, .inl a1] (N, M) (some (.inl res.1)) (N, res.2)) := by
  intro fu
  induction fu with
  | zero => intro a0 a1 M N res h; cases h
  | succ fu ih =>
    intro a0 a1 M N res h
    have e := X8_warmsBy_ok (X8_rec_warmsBy fu) (d := fu + 102) (by omega) (fun h => ih h) (M := M) (N := N) (res := res) h
    rw [show fu + 1 + 102 = fu + 102 + 1 from by omega]
    exact e
def X8_warmsByC (a0 : Int32) (a1 : Int32) (M : Mem) : Option (Int32 × Mem) := X8_rec_warmsBy 100 0 a0 a1  M
theorem X8_warmsByC_ok {a0 : Int32} {a1 : Int32} {M N : Mem} {res : Int32 × Mem} (h : X8_warmsByC a0 a1 M = some res) : Spec mt_X8_warmsBy 202 [.inr (.inr (19, 0)), .inl a0, .inl a1] (N, M) (some (.inl res.1)) (N, res.2) := (X8_rec_warmsBy_ok 100) h

theorem dX8_tellsBy_0 : decode cX8_tellsBy 0 = .ok (.iconst 0, 1) := by decide +kernel
theorem dX8_tellsBy_1 : decode cX8_tellsBy 1 = .ok (.istore_n 3, 1) := by decide +kernel
theorem dX8_tellsBy_2 : decode cX8_tellsBy 2 = .ok (.iload_n 1, 1) := by decide +kernel
theorem dX8_tellsBy_3 : decode cX8_tellsBy 3 = .ok (.lookupswitch 138 #[(0, 33), (4, 71), (6, 104)], 33) := by decide +kernel
theorem dX8_tellsBy_36 : decode cX8_tellsBy 36 = .ok (.aload_n 0, 1) := by decide +kernel
theorem dX8_tellsBy_37 : decode cX8_tellsBy 37 = .ok (.bipush 13, 2) := by decide +kernel
theorem dX8_tellsBy_39 : decode cX8_tellsBy 39 = .ok (.invokevirtual 232, 3) := by decide +kernel
theorem dX8_tellsBy_42 : decode cX8_tellsBy 42 = .ok (.aload_n 0, 1) := by decide +kernel
theorem dX8_tellsBy_43 : decode cX8_tellsBy 43 = .ok (.aload_n 0, 1) := by decide +kernel
theorem dX8_tellsBy_44 : decode cX8_tellsBy 44 = .ok (.aload_n 0, 1) := by decide +kernel
theorem dX8_tellsBy_45 : decode cX8_tellsBy 45 = .ok (.getfield 235, 3) := by decide +kernel
theorem dX8_tellsBy_48 : decode cX8_tellsBy 48 = .ok (.iconst 0, 1) := by decide +kernel
theorem dX8_tellsBy_49 : decode cX8_tellsBy 49 = .ok (.invokevirtual 53, 3) := by decide +kernel
theorem dX8_tellsBy_52 : decode cX8_tellsBy 52 = .ok (.iload_n 2, 1) := by decide +kernel
theorem dX8_tellsBy_53 : decode cX8_tellsBy 53 = .ok (.invokevirtual 241, 3) := by decide +kernel
theorem dX8_tellsBy_56 : decode cX8_tellsBy 56 = .ok (.istore_n 3, 1) := by decide +kernel
theorem dX8_tellsBy_57 : decode cX8_tellsBy 57 = .ok (.iload_n 3, 1) := by decide +kernel
theorem dX8_tellsBy_58 : decode cX8_tellsBy 58 = .ok (.aload_n 0, 1) := by decide +kernel
theorem dX8_tellsBy_59 : decode cX8_tellsBy 59 = .ok (.aload_n 0, 1) := by decide +kernel
theorem dX8_tellsBy_60 : decode cX8_tellsBy 60 = .ok (.aload_n 0, 1) := by decide +kernel
theorem dX8_tellsBy_61 : decode cX8_tellsBy 61 = .ok (.getfield 235, 3) := by decide +kernel
theorem dX8_tellsBy_64 : decode cX8_tellsBy 64 = .ok (.iconst 0, 1) := by decide +kernel
theorem dX8_tellsBy_65 : decode cX8_tellsBy 65 = .ok (.invokevirtual 53, 3) := by decide +kernel
theorem dX8_tellsBy_68 : decode cX8_tellsBy 68 = .ok (.iload_n 2, 1) := by decide +kernel
theorem dX8_tellsBy_69 : decode cX8_tellsBy 69 = .ok (.invokevirtual 244, 3) := by decide +kernel
theorem dX8_tellsBy_72 : decode cX8_tellsBy 72 = .ok (.ixor, 1) := by decide +kernel
theorem dX8_tellsBy_73 : decode cX8_tellsBy 73 = .ok (.ireturn, 1) := by decide +kernel
theorem dX8_tellsBy_74 : decode cX8_tellsBy 74 = .ok (.aload_n 0, 1) := by decide +kernel
theorem dX8_tellsBy_75 : decode cX8_tellsBy 75 = .ok (.bipush 50, 2) := by decide +kernel
theorem dX8_tellsBy_77 : decode cX8_tellsBy 77 = .ok (.invokevirtual 232, 3) := by decide +kernel
theorem dX8_tellsBy_80 : decode cX8_tellsBy 80 = .ok (.aload_n 0, 1) := by decide +kernel
theorem dX8_tellsBy_81 : decode cX8_tellsBy 81 = .ok (.iconst 4, 1) := by decide +kernel
theorem dX8_tellsBy_82 : decode cX8_tellsBy 82 = .ok (.invokestatic 193, 3) := by decide +kernel
theorem dX8_tellsBy_85 : decode cX8_tellsBy 85 = .ok (.iload_n 2, 1) := by decide +kernel
theorem dX8_tellsBy_86 : decode cX8_tellsBy 86 = .ok (.invokevirtual 247, 3) := by decide +kernel
theorem dX8_tellsBy_89 : decode cX8_tellsBy 89 = .ok (.istore_n 3, 1) := by decide +kernel
theorem dX8_tellsBy_90 : decode cX8_tellsBy 90 = .ok (.iload_n 3, 1) := by decide +kernel
theorem dX8_tellsBy_91 : decode cX8_tellsBy 91 = .ok (.aload_n 0, 1) := by decide +kernel
theorem dX8_tellsBy_92 : decode cX8_tellsBy 92 = .ok (.aload_n 0, 1) := by decide +kernel
theorem dX8_tellsBy_93 : decode cX8_tellsBy 93 = .ok (.aload_n 0, 1) := by decide +kernel
theorem dX8_tellsBy_94 : decode cX8_tellsBy 94 = .ok (.getfield 235, 3) := by decide +kernel
theorem dX8_tellsBy_97 : decode cX8_tellsBy 97 = .ok (.iconst 0, 1) := by decide +kernel
theorem dX8_tellsBy_98 : decode cX8_tellsBy 98 = .ok (.invokevirtual 53, 3) := by decide +kernel
theorem dX8_tellsBy_101 : decode cX8_tellsBy 101 = .ok (.iconst 2, 1) := by decide +kernel
theorem dX8_tellsBy_102 : decode cX8_tellsBy 102 = .ok (.invokevirtual 238, 3) := by decide +kernel
theorem dX8_tellsBy_105 : decode cX8_tellsBy 105 = .ok (.isub, 1) := by decide +kernel
theorem dX8_tellsBy_106 : decode cX8_tellsBy 106 = .ok (.ireturn, 1) := by decide +kernel
theorem dX8_tellsBy_107 : decode cX8_tellsBy 107 = .ok (.aload_n 0, 1) := by decide +kernel
theorem dX8_tellsBy_108 : decode cX8_tellsBy 108 = .ok (.bipush 71, 2) := by decide +kernel
theorem dX8_tellsBy_110 : decode cX8_tellsBy 110 = .ok (.invokevirtual 232, 3) := by decide +kernel
theorem dX8_tellsBy_113 : decode cX8_tellsBy 113 = .ok (.aload_n 0, 1) := by decide +kernel
theorem dX8_tellsBy_114 : decode cX8_tellsBy 114 = .ok (.aload_n 0, 1) := by decide +kernel
theorem dX8_tellsBy_115 : decode cX8_tellsBy 115 = .ok (.aload_n 0, 1) := by decide +kernel
theorem dX8_tellsBy_116 : decode cX8_tellsBy 116 = .ok (.getfield 235, 3) := by decide +kernel
theorem dX8_tellsBy_119 : decode cX8_tellsBy 119 = .ok (.iconst 0, 1) := by decide +kernel
theorem dX8_tellsBy_120 : decode cX8_tellsBy 120 = .ok (.invokevirtual 53, 3) := by decide +kernel
theorem dX8_tellsBy_123 : decode cX8_tellsBy 123 = .ok (.iload_n 2, 1) := by decide +kernel
theorem dX8_tellsBy_124 : decode cX8_tellsBy 124 = .ok (.invokevirtual 241, 3) := by decide +kernel
theorem dX8_tellsBy_127 : decode cX8_tellsBy 127 = .ok (.istore_n 3, 1) := by decide +kernel
theorem dX8_tellsBy_128 : decode cX8_tellsBy 128 = .ok (.iload_n 3, 1) := by decide +kernel
theorem dX8_tellsBy_129 : decode cX8_tellsBy 129 = .ok (.aload_n 0, 1) := by decide +kernel
theorem dX8_tellsBy_130 : decode cX8_tellsBy 130 = .ok (.bipush 6, 2) := by decide +kernel
theorem dX8_tellsBy_132 : decode cX8_tellsBy 132 = .ok (.invokestatic 193, 3) := by decide +kernel
theorem dX8_tellsBy_135 : decode cX8_tellsBy 135 = .ok (.iload_n 2, 1) := by decide +kernel
theorem dX8_tellsBy_136 : decode cX8_tellsBy 136 = .ok (.invokevirtual 247, 3) := by decide +kernel
theorem dX8_tellsBy_139 : decode cX8_tellsBy 139 = .ok (.isub, 1) := by decide +kernel
theorem dX8_tellsBy_140 : decode cX8_tellsBy 140 = .ok (.ireturn, 1) := by decide +kernel
theorem dX8_tellsBy_141 : decode cX8_tellsBy 141 = .ok (.aload_n 0, 1) := by decide +kernel
theorem dX8_tellsBy_142 : decode cX8_tellsBy 142 = .ok (.iload_n 1, 1) := by decide +kernel
theorem dX8_tellsBy_143 : decode cX8_tellsBy 143 = .ok (.invokestatic 193, 3) := by decide +kernel
theorem dX8_tellsBy_146 : decode cX8_tellsBy 146 = .ok (.iload_n 2, 1) := by decide +kernel
theorem dX8_tellsBy_147 : decode cX8_tellsBy 147 = .ok (.invokevirtual 247, 3) := by decide +kernel
theorem dX8_tellsBy_150 : decode cX8_tellsBy 150 = .ok (.ireturn, 1) := by decide +kernel
def X8_tellsBy (rc : Nat → Int32 → Int32 → Mem → Option (Int32 × Mem)) (v1 : Int32) (v2 : Int32) (M : Mem) : Option (Int32 × Mem) := (if v1 = 0 then ((X8_ran 13 M).bind fun q1 => ((X8_of (q1 19 0 17) 0 q1).bind fun q2 => ((X8_warmsByC q2 v2 q1).bind fun q3 => ((X8_of (q3.2 19 0 17) 0 q3.2).bind fun q4 => ((X8_growsByC q4 v2 q3.2).bind fun q5 => (some ((q3.1 ^^^ q5.1), q5.2))))))) else (if v1 = 4 then ((X8_ran 50 M).bind fun q6 => ((rc 0 (X8_above 4) v2 q6).bind fun q7 => ((X8_of (q7.2 19 0 17) 0 q7.2).bind fun q8 => ((X8_holdsByC q8 2 q7.2).bind fun q9 => (some ((q7.1 - q9.1), q9.2)))))) else (if v1 = 6 then ((X8_ran 71 M).bind fun q10 => ((X8_of (q10 19 0 17) 0 q10).bind fun q11 => ((X8_warmsByC q11 v2 q10).bind fun q12 => ((rc 0 (X8_above 6) v2 q12.2).bind fun q13 => (some ((q12.1 - q13.1), q13.2)))))) else ((rc 0 (X8_above v1) v2 M).bind fun q14 => (some (q14.1, q14.2))))))
set_option maxRecDepth 100000 in
set_option maxHeartbeats 4000000 in
theorem X8_tellsBy_ok (rc : Nat → Int32 → Int32 → Mem → Option (Int32 × Mem))  {d : Nat} (hd0 : 203 ≤ d) (hr0 : ∀ {a0 a1 : Int32} {M N : Mem} {res : Int32 × Mem}, rc 0 a0 a1 M = some res → Spec mt_X8_tellsBy d [.inr (.inr (19, 0)), .inl a0, .inl a1] (N, M) (some (.inl res.1)) (N, res.2)) {v1 : Int32} {v2 : Int32} {M N : Mem} {res : Int32 × Mem} (h : X8_tellsBy rc v1 v2 M = some res) : Spec mt_X8_tellsBy (d + 1) [.inr (.inr (19, 0)), .inl v1, .inl v2] (N, M) (some (.inl res.1)) (N, res.2) := by
  unfold X8_tellsBy at h
  refine Spec_of_G (by decide) rfl (Nat.le_of_ble_eq_true rfl) ?_
  refine G_sub [(0, .inr (.inr (19, 0))), (1, .inl v1), (2, .inl v2)] [0, 1, 2] rfl ?_
  refine G_iconst (v := 0) dX8_tellsBy_0 (by decide) ?_
  refine G_istore_n (L2 := [(3, .inl 0), (0, .inr (.inr (19, 0))), (1, .inl v1), (2, .inl v2)]) dX8_tellsBy_1 (by decide) rfl ?_
  refine G_iload_n dX8_tellsBy_2 rfl ?_
  by_cases hc1 : v1 = 0
  · replace h := (if_pos hc1).symm.trans h
    refine G_lookEq (off := 33) (tgt := 36) hc1 dX8_tellsBy_3 (by decide) (by decide) (by decide) ?_
    refine G_aload_n dX8_tellsBy_36 rfl ?_
    refine G_bipush (v := 13) dX8_tellsBy_37 (by decide) ?_
    obtain ⟨q1, hq1, h⟩ := bnd h
    refine G_callVn (T := TX8) (N := 22) (f := 19) (i := 0) (X8_ran_ok hq1) ok_X8_ran ml_X8_232 (by omega) rfl (by decide) (by decide) (by decide) rfl rfl (Nat.le_of_ble_eq_true rfl) dX8_tellsBy_39 ?_
    refine G_aload_n dX8_tellsBy_42 rfl ?_
    refine G_aload_n dX8_tellsBy_43 rfl ?_
    refine G_aload_n dX8_tellsBy_44 rfl ?_
    refine fg_X8_235 (v := (q1 19 0 17)) rfl rfl (by decide) dX8_tellsBy_45 ?_
    refine G_iconst (v := 0) dX8_tellsBy_48 (by decide) ?_
    obtain ⟨q2, hq2, h⟩ := bnd h
    refine G_callVv (T := TX8) (N := 22) (f := 19) (i := 0) (X8_of_ok hq2) ok_X8_of ml_X8_53 (by omega) rfl (by decide) (by decide) (by decide) rfl rfl (Nat.le_of_ble_eq_true rfl) dX8_tellsBy_49 ?_
    refine G_iload_n dX8_tellsBy_52 rfl ?_
    obtain ⟨q3, hq3, h⟩ := bnd h
    refine G_callVv (T := TX8) (N := 22) (f := 19) (i := 0) (X8_warmsByC_ok hq3) ok_X8_warmsBy ml_X8_241 (by omega) rfl (by decide) (by decide) (by decide) rfl rfl (Nat.le_of_ble_eq_true rfl) dX8_tellsBy_53 ?_
    refine G_istore_n (L2 := [(3, .inl q3.1), (0, .inr (.inr (19, 0))), (1, .inl v1), (2, .inl v2)]) dX8_tellsBy_56 (by decide) rfl ?_
    refine G_iload_n dX8_tellsBy_57 rfl ?_
    refine G_aload_n dX8_tellsBy_58 rfl ?_
    refine G_aload_n dX8_tellsBy_59 rfl ?_
    refine G_aload_n dX8_tellsBy_60 rfl ?_
    refine fg_X8_235 (v := (q3.2 19 0 17)) rfl rfl (by decide) dX8_tellsBy_61 ?_
    refine G_iconst (v := 0) dX8_tellsBy_64 (by decide) ?_
    obtain ⟨q4, hq4, h⟩ := bnd h
    refine G_callVv (T := TX8) (N := 22) (f := 19) (i := 0) (X8_of_ok hq4) ok_X8_of ml_X8_53 (by omega) rfl (by decide) (by decide) (by decide) rfl rfl (Nat.le_of_ble_eq_true rfl) dX8_tellsBy_65 ?_
    refine G_iload_n dX8_tellsBy_68 rfl ?_
    obtain ⟨q5, hq5, h⟩ := bnd h
    refine G_callVv (T := TX8) (N := 22) (f := 19) (i := 0) (X8_growsByC_ok hq5) ok_X8_growsBy ml_X8_244 (by omega) rfl (by decide) (by decide) (by decide) rfl rfl (Nat.le_of_ble_eq_true rfl) dX8_tellsBy_69 ?_
    refine G_ixor dX8_tellsBy_72 ?_
    obtain rfl := Option.some.inj h
    exact G_ret dX8_tellsBy_73 trivial rfl rfl
  replace h := (if_neg hc1).symm.trans h
  by_cases hc2 : v1 = 4
  · replace h := (if_pos hc2).symm.trans h
    refine G_lookEq (off := 71) (tgt := 74) hc2 dX8_tellsBy_3 (by decide) (by decide) (by decide) ?_
    refine G_aload_n dX8_tellsBy_74 rfl ?_
    refine G_bipush (v := 50) dX8_tellsBy_75 (by decide) ?_
    obtain ⟨q6, hq6, h⟩ := bnd h
    refine G_callVn (T := TX8) (N := 22) (f := 19) (i := 0) (X8_ran_ok hq6) ok_X8_ran ml_X8_232 (by omega) rfl (by decide) (by decide) (by decide) rfl rfl (Nat.le_of_ble_eq_true rfl) dX8_tellsBy_77 ?_
    refine G_aload_n dX8_tellsBy_80 rfl ?_
    refine G_iconst (v := 4) dX8_tellsBy_81 (by decide) ?_
    refine G_callSv  (X8_above_ok rfl) ok_X8_above ml_X8_193 (by omega) rfl rfl (Nat.le_of_ble_eq_true rfl) dX8_tellsBy_82 ?_
    refine G_iload_n dX8_tellsBy_85 rfl ?_
    obtain ⟨q7, hq7, h⟩ := bnd h
    refine G_callVv (T := TX8) (N := 22) (f := 19) (i := 0) (hr0 hq7) ok_X8_tellsBy ml_X8_247 (by omega) rfl (by decide) (by decide) (by decide) rfl rfl (Nat.le_of_ble_eq_true rfl) dX8_tellsBy_86 ?_
    refine G_istore_n (L2 := [(3, .inl q7.1), (0, .inr (.inr (19, 0))), (1, .inl v1), (2, .inl v2)]) dX8_tellsBy_89 (by decide) rfl ?_
    refine G_iload_n dX8_tellsBy_90 rfl ?_
    refine G_aload_n dX8_tellsBy_91 rfl ?_
    refine G_aload_n dX8_tellsBy_92 rfl ?_
    refine G_aload_n dX8_tellsBy_93 rfl ?_
    refine fg_X8_235 (v := (q7.2 19 0 17)) rfl rfl (by decide) dX8_tellsBy_94 ?_
    refine G_iconst (v := 0) dX8_tellsBy_97 (by decide) ?_
    obtain ⟨q8, hq8, h⟩ := bnd h
    refine G_callVv (T := TX8) (N := 22) (f := 19) (i := 0) (X8_of_ok hq8) ok_X8_of ml_X8_53 (by omega) rfl (by decide) (by decide) (by decide) rfl rfl (Nat.le_of_ble_eq_true rfl) dX8_tellsBy_98 ?_
    refine G_iconst (v := 2) dX8_tellsBy_101 (by decide) ?_
    obtain ⟨q9, hq9, h⟩ := bnd h
    refine G_callVv (T := TX8) (N := 22) (f := 19) (i := 0) (X8_holdsByC_ok hq9) ok_X8_holdsBy ml_X8_238 (by omega) rfl (by decide) (by decide) (by decide) rfl rfl (Nat.le_of_ble_eq_true rfl) dX8_tellsBy_102 ?_
    refine G_isub dX8_tellsBy_105 ?_
    obtain rfl := Option.some.inj h
    exact G_ret dX8_tellsBy_106 trivial rfl rfl
  replace h := (if_neg hc2).symm.trans h
  by_cases hc3 : v1 = 6
  · replace h := (if_pos hc3).symm.trans h
    refine G_lookEq (off := 104) (tgt := 107) hc3 dX8_tellsBy_3 (by decide) (by decide) (by decide) ?_
    refine G_aload_n dX8_tellsBy_107 rfl ?_
    refine G_bipush (v := 71) dX8_tellsBy_108 (by decide) ?_
    obtain ⟨q10, hq10, h⟩ := bnd h
    refine G_callVn (T := TX8) (N := 22) (f := 19) (i := 0) (X8_ran_ok hq10) ok_X8_ran ml_X8_232 (by omega) rfl (by decide) (by decide) (by decide) rfl rfl (Nat.le_of_ble_eq_true rfl) dX8_tellsBy_110 ?_
    refine G_aload_n dX8_tellsBy_113 rfl ?_
    refine G_aload_n dX8_tellsBy_114 rfl ?_
    refine G_aload_n dX8_tellsBy_115 rfl ?_
    refine fg_X8_235 (v := (q10 19 0 17)) rfl rfl (by decide) dX8_tellsBy_116 ?_
    refine G_iconst (v := 0) dX8_tellsBy_119 (by decide) ?_
    obtain ⟨q11, hq11, h⟩ := bnd h
    refine G_callVv (T := TX8) (N := 22) (f := 19) (i := 0) (X8_of_ok hq11) ok_X8_of ml_X8_53 (by omega) rfl (by decide) (by decide) (by decide) rfl rfl (Nat.le_of_ble_eq_true rfl) dX8_tellsBy_120 ?_
    refine G_iload_n dX8_tellsBy_123 rfl ?_
    obtain ⟨q12, hq12, h⟩ := bnd h
    refine G_callVv (T := TX8) (N := 22) (f := 19) (i := 0) (X8_warmsByC_ok hq12) ok_X8_warmsBy ml_X8_241 (by omega) rfl (by decide) (by decide) (by decide) rfl rfl (Nat.le_of_ble_eq_true rfl) dX8_tellsBy_124 ?_
    refine G_istore_n (L2 := [(3, .inl q12.1), (0, .inr (.inr (19, 0))), (1, .inl v1), (2, .inl v2)]) dX8_tellsBy_127 (by decide) rfl ?_
    refine G_iload_n dX8_tellsBy_128 rfl ?_
    refine G_aload_n dX8_tellsBy_129 rfl ?_
    refine G_bipush (v := 6) dX8_tellsBy_130 (by decide) ?_
    refine G_callSv  (X8_above_ok rfl) ok_X8_above ml_X8_193 (by omega) rfl rfl (Nat.le_of_ble_eq_true rfl) dX8_tellsBy_132 ?_
    refine G_iload_n dX8_tellsBy_135 rfl ?_
    obtain ⟨q13, hq13, h⟩ := bnd h
    refine G_callVv (T := TX8) (N := 22) (f := 19) (i := 0) (hr0 hq13) ok_X8_tellsBy ml_X8_247 (by omega) rfl (by decide) (by decide) (by decide) rfl rfl (Nat.le_of_ble_eq_true rfl) dX8_tellsBy_136 ?_
    refine G_isub dX8_tellsBy_139 ?_
    obtain rfl := Option.some.inj h
    exact G_ret dX8_tellsBy_140 trivial rfl rfl
  replace h := (if_neg hc3).symm.trans h
  have nhc1 := ne_lit (n := 0) (by decide) hc1
  have nhc2 := ne_lit (n := 4) (by decide) hc2
  have nhc3 := ne_lit (n := 6) (by decide) hc3
  refine G_lookup (off := 138) (tgt := 141) dX8_tellsBy_3 (by decide) (by generalize (v1 : Int32).toInt = zz at nhc1 nhc2 nhc3 ⊢; simp [Op.lookupswitch.offset, Ne.symm nhc1, Ne.symm nhc2, Ne.symm nhc3]; done) (by decide) ?_
  refine G_aload_n dX8_tellsBy_141 rfl ?_
  refine G_iload_n dX8_tellsBy_142 rfl ?_
  refine G_callSv  (X8_above_ok rfl) ok_X8_above ml_X8_193 (by omega) rfl rfl (Nat.le_of_ble_eq_true rfl) dX8_tellsBy_143 ?_
  refine G_iload_n dX8_tellsBy_146 rfl ?_
  obtain ⟨q14, hq14, h⟩ := bnd h
  refine G_callVv (T := TX8) (N := 22) (f := 19) (i := 0) (hr0 hq14) ok_X8_tellsBy ml_X8_247 (by omega) rfl (by decide) (by decide) (by decide) rfl rfl (Nat.le_of_ble_eq_true rfl) dX8_tellsBy_147 ?_
  obtain rfl := Option.some.inj h
  exact G_ret dX8_tellsBy_150 trivial rfl rfl

def X8_rec_tellsBy : Nat → Nat → Int32 → Int32 → Mem → Option (Int32 × Mem)
  | 0, _, _, _, _ => none
  | fu + 1, tg, a0, a1, M => (if tg = 0 then X8_tellsBy (X8_rec_tellsBy fu) a0 a1 M else none)
theorem X8_rec_tellsBy_ok : ∀ (fu : Nat), (∀ {a0 a1 : Int32} {M N : Mem} {res : Int32 × Mem}, X8_rec_tellsBy fu 0 a0 a1 M = some res → Spec mt_X8_tellsBy (fu + 203) [.inr (.inr (19, 0)), .inl a0, .inl a1] (N, M) (some (.inl res.1)) (N, res.2)) := by
  intro fu
  induction fu with
  | zero => intro a0 a1 M N res h; cases h
  | succ fu ih =>
    intro a0 a1 M N res h
    have e := X8_tellsBy_ok (X8_rec_tellsBy fu) (d := fu + 203) (by omega) (fun h => ih h) (M := M) (N := N) (res := res) h
    rw [show fu + 1 + 203 = fu + 203 + 1 from by omega]
    exact e
def X8_tellsByC (a0 : Int32) (a1 : Int32) (M : Mem) : Option (Int32 × Mem) := X8_rec_tellsBy 100 0 a0 a1  M
theorem X8_tellsByC_ok {a0 : Int32} {a1 : Int32} {M N : Mem} {res : Int32 × Mem} (h : X8_tellsByC a0 a1 M = some res) : Spec mt_X8_tellsBy 303 [.inr (.inr (19, 0)), .inl a0, .inl a1] (N, M) (some (.inl res.1)) (N, res.2) := (X8_rec_tellsBy_ok 100) h

theorem dX8_voice_0 : decode cX8_voice 0 = .ok (.aload_n 0, 1) := by decide +kernel
theorem dX8_voice_1 : decode cX8_voice 1 = .ok (.iload_n 1, 1) := by decide +kernel
theorem dX8_voice_2 : decode cX8_voice 2 = .ok (.invokevirtual 182, 3) := by decide +kernel
theorem dX8_voice_5 : decode cX8_voice 5 = .ok (.ifCond .eq 15, 3) := by decide +kernel
theorem dX8_voice_8 : decode cX8_voice 8 = .ok (.iload_n 2, 1) := by decide +kernel
theorem dX8_voice_9 : decode cX8_voice 9 = .ok (.i2l, 1) := by decide +kernel
theorem dX8_voice_10 : decode cX8_voice 10 = .ok (.lconst 0, 1) := by decide +kernel
theorem dX8_voice_11 : decode cX8_voice 11 = .ok (.ldc2_w 250, 3) := by decide +kernel
theorem dX8_voice_14 : decode cX8_voice 14 = .ok (.invokestatic 47, 3) := by decide +kernel
theorem dX8_voice_17 : decode cX8_voice 17 = .ok (.ifCond .ne 9, 3) := by decide +kernel
theorem dX8_voice_20 : decode cX8_voice 20 = .ok (.aload_n 0, 1) := by decide +kernel
theorem dX8_voice_21 : decode cX8_voice 21 = .ok (.iconst 1, 1) := by decide +kernel
theorem dX8_voice_22 : decode cX8_voice 22 = .ok (.invokevirtual 130, 3) := by decide +kernel
theorem dX8_voice_25 : decode cX8_voice 25 = .ok (.ireturn, 1) := by decide +kernel
theorem dX8_voice_26 : decode cX8_voice 26 = .ok (.aload_n 0, 1) := by decide +kernel
theorem dX8_voice_27 : decode cX8_voice 27 = .ok (.iload_n 1, 1) := by decide +kernel
theorem dX8_voice_28 : decode cX8_voice 28 = .ok (.putfield 235, 3) := by decide +kernel
theorem dX8_voice_31 : decode cX8_voice 31 = .ok (.aload_n 0, 1) := by decide +kernel
theorem dX8_voice_32 : decode cX8_voice 32 = .ok (.iconst 0, 1) := by decide +kernel
theorem dX8_voice_33 : decode cX8_voice 33 = .ok (.putfield 229, 3) := by decide +kernel
theorem dX8_voice_36 : decode cX8_voice 36 = .ok (.aload_n 0, 1) := by decide +kernel
theorem dX8_voice_37 : decode cX8_voice 37 = .ok (.aload_n 0, 1) := by decide +kernel
theorem dX8_voice_38 : decode cX8_voice 38 = .ok (.getfield 235, 3) := by decide +kernel
theorem dX8_voice_41 : decode cX8_voice 41 = .ok (.iconst 0, 1) := by decide +kernel
theorem dX8_voice_42 : decode cX8_voice 42 = .ok (.invokevirtual 53, 3) := by decide +kernel
theorem dX8_voice_45 : decode cX8_voice 45 = .ok (.istore 4, 2) := by decide +kernel
theorem dX8_voice_47 : decode cX8_voice 47 = .ok (.iload_n 2, 1) := by decide +kernel
theorem dX8_voice_48 : decode cX8_voice 48 = .ok (.ifCond .ne 13, 3) := by decide +kernel
theorem dX8_voice_51 : decode cX8_voice 51 = .ok (.aload_n 0, 1) := by decide +kernel
theorem dX8_voice_52 : decode cX8_voice 52 = .ok (.iload 4, 2) := by decide +kernel
theorem dX8_voice_54 : decode cX8_voice 54 = .ok (.iload_n 3, 1) := by decide +kernel
theorem dX8_voice_55 : decode cX8_voice 55 = .ok (.invokevirtual 238, 3) := by decide +kernel
theorem dX8_voice_58 : decode cX8_voice 58 = .ok (.goto 40, 3) := by decide +kernel
theorem dX8_voice_61 : decode cX8_voice 61 = .ok (.iload_n 2, 1) := by decide +kernel
theorem dX8_voice_62 : decode cX8_voice 62 = .ok (.iconst 1, 1) := by decide +kernel
theorem dX8_voice_63 : decode cX8_voice 63 = .ok (.if_icmp .ne 13, 3) := by decide +kernel
theorem dX8_voice_66 : decode cX8_voice 66 = .ok (.aload_n 0, 1) := by decide +kernel
theorem dX8_voice_67 : decode cX8_voice 67 = .ok (.iload 4, 2) := by decide +kernel
theorem dX8_voice_69 : decode cX8_voice 69 = .ok (.iload_n 3, 1) := by decide +kernel
theorem dX8_voice_70 : decode cX8_voice 70 = .ok (.invokevirtual 241, 3) := by decide +kernel
theorem dX8_voice_73 : decode cX8_voice 73 = .ok (.goto 25, 3) := by decide +kernel
theorem dX8_voice_76 : decode cX8_voice 76 = .ok (.iload_n 2, 1) := by decide +kernel
theorem dX8_voice_77 : decode cX8_voice 77 = .ok (.iconst 2, 1) := by decide +kernel
theorem dX8_voice_78 : decode cX8_voice 78 = .ok (.if_icmp .ne 13, 3) := by decide +kernel
theorem dX8_voice_81 : decode cX8_voice 81 = .ok (.aload_n 0, 1) := by decide +kernel
theorem dX8_voice_82 : decode cX8_voice 82 = .ok (.iload 4, 2) := by decide +kernel
theorem dX8_voice_84 : decode cX8_voice 84 = .ok (.iload_n 3, 1) := by decide +kernel
theorem dX8_voice_85 : decode cX8_voice 85 = .ok (.invokevirtual 244, 3) := by decide +kernel
theorem dX8_voice_88 : decode cX8_voice 88 = .ok (.goto 10, 3) := by decide +kernel
theorem dX8_voice_91 : decode cX8_voice 91 = .ok (.aload_n 0, 1) := by decide +kernel
theorem dX8_voice_92 : decode cX8_voice 92 = .ok (.iload 4, 2) := by decide +kernel
theorem dX8_voice_94 : decode cX8_voice 94 = .ok (.iload_n 3, 1) := by decide +kernel
theorem dX8_voice_95 : decode cX8_voice 95 = .ok (.invokevirtual 247, 3) := by decide +kernel
theorem dX8_voice_98 : decode cX8_voice 98 = .ok (.ireturn, 1) := by decide +kernel
def X8_voice (v1 : Int32) (v2 : Int32) (v3 : Int32) (M : Mem) : Option (Int32 × Mem) := (if (X8_isPot v1 M) = 0 then ((X8_finds 1 M).bind fun q1 => (some (q1.1, q1.2))) else (if (X8_in (v2.toInt64) (0 : Int64) (3 : Int64)) = 0 then ((X8_finds 1 M).bind fun q7 => (some (q7.1, q7.2))) else ((X8_of v1 0 (up3 (up3 M 19 0 17 v1) 19 0 16 0)).bind fun q2 => (if v2 = 0 then ((X8_holdsByC q2 v3 (up3 (up3 M 19 0 17 v1) 19 0 16 0)).bind fun q6 => (some (q6.1, q6.2))) else (if v2 = 1 then ((X8_warmsByC q2 v3 (up3 (up3 M 19 0 17 v1) 19 0 16 0)).bind fun q5 => (some (q5.1, q5.2))) else (if v2 = 2 then ((X8_growsByC q2 v3 (up3 (up3 M 19 0 17 v1) 19 0 16 0)).bind fun q4 => (some (q4.1, q4.2))) else ((X8_tellsByC q2 v3 (up3 (up3 M 19 0 17 v1) 19 0 16 0)).bind fun q3 => (some (q3.1, q3.2)))))))))
set_option maxRecDepth 100000 in
set_option maxHeartbeats 4000000 in
theorem X8_voice_ok  {v1 : Int32} {v2 : Int32} {v3 : Int32} {M N : Mem} {res : Int32 × Mem} (h : X8_voice v1 v2 v3 M = some res) : Spec mt_X8_voice 304 [.inr (.inr (19, 0)), .inl v1, .inl v2, .inl v3] (N, M) (some (.inl res.1)) (N, res.2) := by
  unfold X8_voice at h
  refine Spec_of_G (by decide) rfl (Nat.le_of_ble_eq_true rfl) ?_
  refine G_sub [(0, .inr (.inr (19, 0))), (1, .inl v1), (2, .inl v2), (3, .inl v3)] [0, 1, 2, 3] rfl ?_
  refine G_aload_n dX8_voice_0 rfl ?_
  refine G_iload_n dX8_voice_1 rfl ?_
  refine G_callVv (T := TX8) (N := 22) (f := 19) (i := 0) (X8_isPot_ok rfl) ok_X8_isPot ml_X8_182 (by decide) rfl (by decide) (by decide) (by decide) rfl rfl (Nat.le_of_ble_eq_true rfl) dX8_voice_2 ?_
  refine G_if_eq (tgt := 20) dX8_voice_5 (by decide) (fun hc1 => ?_) (fun hc1 => ?_)
  · replace h := (if_pos hc1).symm.trans h
    refine G_aload_n dX8_voice_20 rfl ?_
    refine G_iconst (v := 1) dX8_voice_21 (by decide) ?_
    obtain ⟨q1, hq1, h⟩ := bnd h
    refine G_callVv (T := TX8) (N := 22) (f := 19) (i := 0) (X8_finds_ok hq1) ok_X8_finds ml_X8_130 (by decide) rfl (by decide) (by decide) (by decide) rfl rfl (Nat.le_of_ble_eq_true rfl) dX8_voice_22 ?_
    obtain rfl := Option.some.inj h
    exact G_ret dX8_voice_25 trivial rfl rfl
  · replace h := (if_neg hc1).symm.trans h
    refine G_iload_n dX8_voice_8 rfl ?_
    refine G_i2l dX8_voice_9 ?_
    refine G_lconst (v := 0) dX8_voice_10 (by decide) ?_
    refine G_ldc2 ko_X8_250 dX8_voice_11 ?_
    refine G_callSv  (X8_in_ok rfl) ok_X8_in ml_X8_47 (by decide) rfl rfl (Nat.le_of_ble_eq_true rfl) dX8_voice_14 ?_
    refine G_if_ne (tgt := 26) dX8_voice_17 (by decide) (fun hc2 => ?_) (fun hc2 => ?_)
    · replace h := (if_neg hc2).symm.trans h
      refine G_aload_n dX8_voice_26 rfl ?_
      refine G_iload_n dX8_voice_27 rfl ?_
      refine fp_X8_235 rfl (by decide) dX8_voice_28 ?_
      refine G_aload_n dX8_voice_31 rfl ?_
      refine G_iconst (v := 0) dX8_voice_32 (by decide) ?_
      refine fp_X8_229 rfl (by decide) dX8_voice_33 ?_
      refine G_aload_n dX8_voice_36 rfl ?_
      refine G_aload_n dX8_voice_37 rfl ?_
      refine fg_X8_235 (v := v1) ((up3_k (by decide)).trans up3_eq) rfl (by decide) dX8_voice_38 ?_
      refine G_iconst (v := 0) dX8_voice_41 (by decide) ?_
      obtain ⟨q2, hq2, h⟩ := bnd h
      refine G_callVv (T := TX8) (N := 22) (f := 19) (i := 0) (X8_of_ok hq2) ok_X8_of ml_X8_53 (by decide) rfl (by decide) (by decide) (by decide) rfl rfl (Nat.le_of_ble_eq_true rfl) dX8_voice_42 ?_
      refine G_istore (L2 := [(4, .inl q2), (0, .inr (.inr (19, 0))), (1, .inl v1), (2, .inl v2), (3, .inl v3)]) dX8_voice_45 (by decide) rfl ?_
      refine G_iload_n dX8_voice_47 rfl ?_
      refine G_if_ne (tgt := 61) dX8_voice_48 (by decide) (fun hc3 => ?_) (fun hc3 => ?_)
      · replace h := (if_neg hc3).symm.trans h
        refine G_iload_n dX8_voice_61 rfl ?_
        refine G_iconst (v := 1) dX8_voice_62 (by decide) ?_
        refine G_icmp_ne (tgt := 76) dX8_voice_63 (by decide) (fun hc4 => ?_) (fun hc4 => ?_)
        · replace h := (if_neg hc4).symm.trans h
          refine G_iload_n dX8_voice_76 rfl ?_
          refine G_iconst (v := 2) dX8_voice_77 (by decide) ?_
          refine G_icmp_ne (tgt := 91) dX8_voice_78 (by decide) (fun hc5 => ?_) (fun hc5 => ?_)
          · replace h := (if_neg hc5).symm.trans h
            refine G_aload_n dX8_voice_91 rfl ?_
            refine G_iload dX8_voice_92 rfl ?_
            refine G_iload_n dX8_voice_94 rfl ?_
            obtain ⟨q3, hq3, h⟩ := bnd h
            refine G_callVv (T := TX8) (N := 22) (f := 19) (i := 0) (X8_tellsByC_ok hq3) ok_X8_tellsBy ml_X8_247 (by decide) rfl (by decide) (by decide) (by decide) rfl rfl (Nat.le_of_ble_eq_true rfl) dX8_voice_95 ?_
            obtain rfl := Option.some.inj h
            exact G_ret dX8_voice_98 trivial rfl rfl
          · replace h := (if_pos hc5).symm.trans h
            refine G_aload_n dX8_voice_81 rfl ?_
            refine G_iload dX8_voice_82 rfl ?_
            refine G_iload_n dX8_voice_84 rfl ?_
            obtain ⟨q4, hq4, h⟩ := bnd h
            refine G_callVv (T := TX8) (N := 22) (f := 19) (i := 0) (X8_growsByC_ok hq4) ok_X8_growsBy ml_X8_244 (by decide) rfl (by decide) (by decide) (by decide) rfl rfl (Nat.le_of_ble_eq_true rfl) dX8_voice_85 ?_
            refine G_goto (tgt := 98) dX8_voice_88 (by decide) ?_
            obtain rfl := Option.some.inj h
            exact G_ret dX8_voice_98 trivial rfl rfl
        · replace h := (if_pos hc4).symm.trans h
          refine G_aload_n dX8_voice_66 rfl ?_
          refine G_iload dX8_voice_67 rfl ?_
          refine G_iload_n dX8_voice_69 rfl ?_
          obtain ⟨q5, hq5, h⟩ := bnd h
          refine G_callVv (T := TX8) (N := 22) (f := 19) (i := 0) (X8_warmsByC_ok hq5) ok_X8_warmsBy ml_X8_241 (by decide) rfl (by decide) (by decide) (by decide) rfl rfl (Nat.le_of_ble_eq_true rfl) dX8_voice_70 ?_
          refine G_goto (tgt := 98) dX8_voice_73 (by decide) ?_
          obtain rfl := Option.some.inj h
          exact G_ret dX8_voice_98 trivial rfl rfl
      · replace h := (if_pos hc3).symm.trans h
        refine G_aload_n dX8_voice_51 rfl ?_
        refine G_iload dX8_voice_52 rfl ?_
        refine G_iload_n dX8_voice_54 rfl ?_
        obtain ⟨q6, hq6, h⟩ := bnd h
        refine G_callVv (T := TX8) (N := 22) (f := 19) (i := 0) (X8_holdsByC_ok hq6) ok_X8_holdsBy ml_X8_238 (by decide) rfl (by decide) (by decide) (by decide) rfl rfl (Nat.le_of_ble_eq_true rfl) dX8_voice_55 ?_
        refine G_goto (tgt := 98) dX8_voice_58 (by decide) ?_
        obtain rfl := Option.some.inj h
        exact G_ret dX8_voice_98 trivial rfl rfl
    · replace h := (if_pos hc2).symm.trans h
      refine G_aload_n dX8_voice_20 rfl ?_
      refine G_iconst (v := 1) dX8_voice_21 (by decide) ?_
      obtain ⟨q7, hq7, h⟩ := bnd h
      refine G_callVv (T := TX8) (N := 22) (f := 19) (i := 0) (X8_finds_ok hq7) ok_X8_finds ml_X8_130 (by decide) rfl (by decide) (by decide) (by decide) rfl rfl (Nat.le_of_ble_eq_true rfl) dX8_voice_22 ?_
      obtain rfl := Option.some.inj h
      exact G_ret dX8_voice_25 trivial rfl rfl

theorem dX8_sheet_0 : decode cX8_sheet 0 = .ok (.iload_n 1, 1) := by decide +kernel
theorem dX8_sheet_1 : decode cX8_sheet 1 = .ok (.invokestatic 221, 3) := by decide +kernel
theorem dX8_sheet_4 : decode cX8_sheet 4 = .ok (.ifCond .eq 25, 3) := by decide +kernel
theorem dX8_sheet_7 : decode cX8_sheet 7 = .ok (.iload_n 2, 1) := by decide +kernel
theorem dX8_sheet_8 : decode cX8_sheet 8 = .ok (.ifCond .eq 27, 3) := by decide +kernel
theorem dX8_sheet_11 : decode cX8_sheet 11 = .ok (.iload_n 2, 1) := by decide +kernel
theorem dX8_sheet_12 : decode cX8_sheet 12 = .ok (.bipush 8, 2) := by decide +kernel
theorem dX8_sheet_14 : decode cX8_sheet 14 = .ok (.if_icmp .eq 21, 3) := by decide +kernel
theorem dX8_sheet_17 : decode cX8_sheet 17 = .ok (.iload_n 2, 1) := by decide +kernel
theorem dX8_sheet_18 : decode cX8_sheet 18 = .ok (.bipush 16, 2) := by decide +kernel
theorem dX8_sheet_20 : decode cX8_sheet 20 = .ok (.if_icmp .eq 15, 3) := by decide +kernel
theorem dX8_sheet_23 : decode cX8_sheet 23 = .ok (.iload_n 2, 1) := by decide +kernel
theorem dX8_sheet_24 : decode cX8_sheet 24 = .ok (.bipush 32, 2) := by decide +kernel
theorem dX8_sheet_26 : decode cX8_sheet 26 = .ok (.if_icmp .eq 9, 3) := by decide +kernel
theorem dX8_sheet_29 : decode cX8_sheet 29 = .ok (.aload_n 0, 1) := by decide +kernel
theorem dX8_sheet_30 : decode cX8_sheet 30 = .ok (.iconst 1, 1) := by decide +kernel
theorem dX8_sheet_31 : decode cX8_sheet 31 = .ok (.invokevirtual 130, 3) := by decide +kernel
theorem dX8_sheet_34 : decode cX8_sheet 34 = .ok (.ireturn, 1) := by decide +kernel
theorem dX8_sheet_35 : decode cX8_sheet 35 = .ok (.iload_n 2, 1) := by decide +kernel
theorem dX8_sheet_36 : decode cX8_sheet 36 = .ok (.ifCond .eq 13, 3) := by decide +kernel
theorem dX8_sheet_39 : decode cX8_sheet 39 = .ok (.iload_n 3, 1) := by decide +kernel
theorem dX8_sheet_40 : decode cX8_sheet 40 = .ok (.ifCond .ge 9, 3) := by decide +kernel
theorem dX8_sheet_43 : decode cX8_sheet 43 = .ok (.aload_n 0, 1) := by decide +kernel
theorem dX8_sheet_44 : decode cX8_sheet 44 = .ok (.iconst 3, 1) := by decide +kernel
theorem dX8_sheet_45 : decode cX8_sheet 45 = .ok (.invokevirtual 130, 3) := by decide +kernel
theorem dX8_sheet_48 : decode cX8_sheet 48 = .ok (.ireturn, 1) := by decide +kernel
theorem dX8_sheet_49 : decode cX8_sheet 49 = .ok (.iload_n 2, 1) := by decide +kernel
theorem dX8_sheet_50 : decode cX8_sheet 50 = .ok (.ifCond .eq 15, 3) := by decide +kernel
theorem dX8_sheet_53 : decode cX8_sheet 53 = .ok (.iload_n 3, 1) := by decide +kernel
theorem dX8_sheet_54 : decode cX8_sheet 54 = .ok (.bipush 40, 2) := by decide +kernel
theorem dX8_sheet_56 : decode cX8_sheet 56 = .ok (.if_icmp .le 9, 3) := by decide +kernel
theorem dX8_sheet_59 : decode cX8_sheet 59 = .ok (.aload_n 0, 1) := by decide +kernel
theorem dX8_sheet_60 : decode cX8_sheet 60 = .ok (.iconst 1, 1) := by decide +kernel
theorem dX8_sheet_61 : decode cX8_sheet 61 = .ok (.invokevirtual 130, 3) := by decide +kernel
theorem dX8_sheet_64 : decode cX8_sheet 64 = .ok (.ireturn, 1) := by decide +kernel
theorem dX8_sheet_65 : decode cX8_sheet 65 = .ok (.aload_n 0, 1) := by decide +kernel
theorem dX8_sheet_66 : decode cX8_sheet 66 = .ok (.getfield 34, 3) := by decide +kernel
theorem dX8_sheet_69 : decode cX8_sheet 69 = .ok (.iload_n 1, 1) := by decide +kernel
theorem dX8_sheet_70 : decode cX8_sheet 70 = .ok (.iload_n 2, 1) := by decide +kernel
theorem dX8_sheet_71 : decode cX8_sheet 71 = .ok (.iastore, 1) := by decide +kernel
theorem dX8_sheet_72 : decode cX8_sheet 72 = .ok (.aload_n 0, 1) := by decide +kernel
theorem dX8_sheet_73 : decode cX8_sheet 73 = .ok (.getfield 37, 3) := by decide +kernel
theorem dX8_sheet_76 : decode cX8_sheet 76 = .ok (.iload_n 1, 1) := by decide +kernel
theorem dX8_sheet_77 : decode cX8_sheet 77 = .ok (.iload_n 2, 1) := by decide +kernel
theorem dX8_sheet_78 : decode cX8_sheet 78 = .ok (.ifCond .ne 7, 3) := by decide +kernel
theorem dX8_sheet_81 : decode cX8_sheet 81 = .ok (.iconst 0, 1) := by decide +kernel
theorem dX8_sheet_82 : decode cX8_sheet 82 = .ok (.goto 4, 3) := by decide +kernel
theorem dX8_sheet_85 : decode cX8_sheet 85 = .ok (.iload_n 3, 1) := by decide +kernel
theorem dX8_sheet_86 : decode cX8_sheet 86 = .ok (.iastore, 1) := by decide +kernel
theorem dX8_sheet_87 : decode cX8_sheet 87 = .ok (.iconst 0, 1) := by decide +kernel
theorem dX8_sheet_88 : decode cX8_sheet 88 = .ok (.istore 4, 2) := by decide +kernel
theorem dX8_sheet_90 : decode cX8_sheet 90 = .ok (.iload 4, 2) := by decide +kernel
theorem dX8_sheet_92 : decode cX8_sheet 92 = .ok (.bipush 40, 2) := by decide +kernel
theorem dX8_sheet_94 : decode cX8_sheet 94 = .ok (.if_icmp .ge 22, 3) := by decide +kernel
theorem dX8_sheet_97 : decode cX8_sheet 97 = .ok (.aload_n 0, 1) := by decide +kernel
theorem dX8_sheet_98 : decode cX8_sheet 98 = .ok (.getfield 40, 3) := by decide +kernel
theorem dX8_sheet_101 : decode cX8_sheet 101 = .ok (.bipush 40, 2) := by decide +kernel
theorem dX8_sheet_103 : decode cX8_sheet 103 = .ok (.iload_n 1, 1) := by decide +kernel
theorem dX8_sheet_104 : decode cX8_sheet 104 = .ok (.imul, 1) := by decide +kernel
theorem dX8_sheet_105 : decode cX8_sheet 105 = .ok (.iload 4, 2) := by decide +kernel
theorem dX8_sheet_107 : decode cX8_sheet 107 = .ok (.iadd, 1) := by decide +kernel
theorem dX8_sheet_108 : decode cX8_sheet 108 = .ok (.iconst 0, 1) := by decide +kernel
theorem dX8_sheet_109 : decode cX8_sheet 109 = .ok (.iastore, 1) := by decide +kernel
theorem dX8_sheet_110 : decode cX8_sheet 110 = .ok (.iinc 4 1, 3) := by decide +kernel
theorem dX8_sheet_113 : decode cX8_sheet 113 = .ok (.goto (-23), 3) := by decide +kernel
theorem dX8_sheet_116 : decode cX8_sheet 116 = .ok (.iconst 1, 1) := by decide +kernel
theorem dX8_sheet_117 : decode cX8_sheet 117 = .ok (.ireturn, 1) := by decide +kernel
def X8_sheet_L90 : Nat → Int32 → Int32 → Mem → Option (Mem)
  | 0, _, _, _ => none
  | fu + 1, v1, v4, M => (if v4 < 40 then (if ib ((40 * v1) + v4) 160 = true then (X8_sheet_L90 fu v1 (v4 + 1) (up3 M 30 0 (((40 * v1) + v4).toNatClampNeg) 0)) else none) else (some M))
set_option maxRecDepth 100000 in
set_option maxHeartbeats 4000000 in
theorem X8_sheet_L90_ok  {r : Option AV} {M' : MM} : ∀ (fu : Nat) (v1 : Int32) (v4 : Int32) (M N : Mem) {res : Mem} (h : X8_sheet_L90 fu v1 v4 M = some res) (K : G mt_X8_sheet 2 r M' 116 [] [] (N, res)), G mt_X8_sheet 2 r M' 90 [(0, .inr (.inr (19, 0))), (1, .inl v1), (4, .inl v4)] [] (N, M) := by
  intro fu
  induction fu with
  | zero =>
    intro v1 v4 M N res h
    cases h
  | succ fu ih =>
    intro v1 v4 M N res h K
    replace h : (if v4 < 40 then (if ib ((40 * v1) + v4) 160 = true then (X8_sheet_L90 fu v1 (v4 + 1) (up3 M 30 0 (((40 * v1) + v4).toNatClampNeg) 0)) else none) else (some M)) = some res := h
    refine G_iload dX8_sheet_90 rfl ?_
    refine G_bipush (v := 40) dX8_sheet_92 (by decide) ?_
    refine G_icmp_ge (tgt := 116) dX8_sheet_94 (by decide) (fun hc6 => ?_) (fun hc6 => ?_)
    · replace h := (if_neg hc6).symm.trans h
      refine G_sub [] [] rfl ?_
      obtain rfl := Option.some.inj h
      exact K
    · replace h := (if_pos hc6).symm.trans h
      refine G_aload_n dX8_sheet_97 rfl ?_
      refine fg_X8_40 rfl (by decide) dX8_sheet_98 ?_
      refine G_bipush (v := 40) dX8_sheet_101 (by decide) ?_
      refine G_iload_n dX8_sheet_103 rfl ?_
      refine G_imul dX8_sheet_104 ?_
      refine G_iload dX8_sheet_105 rfl ?_
      refine G_iadd dX8_sheet_107 ?_
      refine G_iconst (v := 0) dX8_sheet_108 (by decide) ?_
      obtain ⟨hb4, h⟩ := chk h
      have lhb4 := ib_lt hb4
      refine as_30 (kk := ((40 * v1) + v4).toNatClampNeg) (by decide) hb4 rfl dX8_sheet_109 ?_
      refine G_iinc (v := (v4 + 1)) (L2 := [(4, .inl (v4 + 1)), (0, .inr (.inr (19, 0))), (1, .inl v1)]) dX8_sheet_110 rfl (by first | rfl | (show _ + Int32.ofInt _ = _; rfl)) (by decide) rfl ?_
      refine G_goto (tgt := 90) dX8_sheet_113 (by decide) ?_
      refine G_sub [(0, .inr (.inr (19, 0))), (1, .inl v1), (4, .inl (v4 + 1))] [1, 2, 0] rfl ?_
      exact ih v1 (v4 + 1) (up3 M 30 0 (((40 * v1) + v4).toNatClampNeg) 0) _  h K

def X8_sheet_J86 (v1 : Int32) (s0 : Int32) (s1 : Int32) (M : Mem) : Option (Int32 × Mem) := (if ib s1 4 = true then ((X8_sheet_L90 400 v1 0 (up3 M 29 0 s1.toNatClampNeg s0)).bind fun q5 => (some (1, q5))) else none)
set_option maxRecDepth 100000 in
set_option maxHeartbeats 4000000 in
theorem X8_sheet_J86_ok  {v1 : Int32} {s0 : Int32} {s1 : Int32} {M N : Mem} {res : Int32 × Mem} (h : X8_sheet_J86 v1 s0 s1 M = some res) : G mt_X8_sheet 2 (some (.inl res.1)) (N, res.2) 86 [(0, .inr (.inr (19, 0))), (1, .inl v1)] [.inl s0, .inl s1, .inr (.inr (29, 0))] (N, M) := by
  unfold X8_sheet_J86 at h
  obtain ⟨hb3, h⟩ := chk h
  have lhb3 := ib_lt hb3
  refine as_29 (kk := s1.toNatClampNeg) (by decide) hb3 rfl dX8_sheet_86 ?_
  refine G_iconst (v := 0) dX8_sheet_87 (by decide) ?_
  refine G_istore (L2 := [(4, .inl 0), (0, .inr (.inr (19, 0))), (1, .inl v1)]) dX8_sheet_88 (by decide) rfl ?_
  refine G_sub [(0, .inr (.inr (19, 0))), (1, .inl v1), (4, .inl 0)] [1, 2, 0] rfl ?_
  obtain ⟨q5, hq5, h⟩ := bnd h
  refine X8_sheet_L90_ok  400 v1 0 (up3 M 29 0 s1.toNatClampNeg s0) _  hq5 ?_
  refine G_iconst (v := 1) dX8_sheet_116 (by decide) ?_
  obtain rfl := Option.some.inj h
  exact G_ret dX8_sheet_117 trivial rfl rfl

def X8_sheet_J65 (v1 : Int32) (v2 : Int32) (v3 : Int32) (M : Mem) : Option (Int32 × Mem) := (if ib v1 4 = true then (if v2 = 0 then (X8_sheet_J86 v1 0 v1 (up3 M 28 0 v1.toNatClampNeg v2)) else (X8_sheet_J86 v1 v3 v1 (up3 M 28 0 v1.toNatClampNeg v2))) else none)
set_option maxRecDepth 100000 in
set_option maxHeartbeats 4000000 in
theorem X8_sheet_J65_ok  {v1 : Int32} {v2 : Int32} {v3 : Int32} {M N : Mem} {res : Int32 × Mem} (h : X8_sheet_J65 v1 v2 v3 M = some res) : G mt_X8_sheet 2 (some (.inl res.1)) (N, res.2) 65 [(0, .inr (.inr (19, 0))), (1, .inl v1), (2, .inl v2), (3, .inl v3)] [] (N, M) := by
  unfold X8_sheet_J65 at h
  refine G_aload_n dX8_sheet_65 rfl ?_
  refine fg_X8_34 rfl (by decide) dX8_sheet_66 ?_
  refine G_iload_n dX8_sheet_69 rfl ?_
  refine G_iload_n dX8_sheet_70 rfl ?_
  obtain ⟨hb2, h⟩ := chk h
  have lhb2 := ib_lt hb2
  refine as_28 (kk := v1.toNatClampNeg) (by decide) hb2 rfl dX8_sheet_71 ?_
  refine G_aload_n dX8_sheet_72 rfl ?_
  refine fg_X8_37 rfl (by decide) dX8_sheet_73 ?_
  refine G_iload_n dX8_sheet_76 rfl ?_
  refine G_iload_n dX8_sheet_77 rfl ?_
  refine G_if_ne (tgt := 85) dX8_sheet_78 (by decide) (fun hc5 => ?_) (fun hc5 => ?_)
  · replace h := (if_neg hc5).symm.trans h
    refine G_iload_n dX8_sheet_85 rfl ?_
    refine G_sub [(0, .inr (.inr (19, 0))), (1, .inl v1)] [0, 1] rfl ?_
    exact X8_sheet_J86_ok   h
  · replace h := (if_pos hc5).symm.trans h
    refine G_iconst (v := 0) dX8_sheet_81 (by decide) ?_
    refine G_goto (tgt := 86) dX8_sheet_82 (by decide) ?_
    refine G_sub [(0, .inr (.inr (19, 0))), (1, .inl v1)] [0, 1] rfl ?_
    exact X8_sheet_J86_ok   h

def X8_sheet_J49 (v1 : Int32) (v2 : Int32) (v3 : Int32) (M : Mem) : Option (Int32 × Mem) := (if v2 = 0 then (X8_sheet_J65 v1 v2 v3 M) else (if 40 < v3 then ((X8_finds 1 M).bind fun q6 => (some (q6.1, q6.2))) else (X8_sheet_J65 v1 v2 v3 M)))
set_option maxRecDepth 100000 in
set_option maxHeartbeats 4000000 in
theorem X8_sheet_J49_ok  {v1 : Int32} {v2 : Int32} {v3 : Int32} {M N : Mem} {res : Int32 × Mem} (h : X8_sheet_J49 v1 v2 v3 M = some res) : G mt_X8_sheet 2 (some (.inl res.1)) (N, res.2) 49 [(0, .inr (.inr (19, 0))), (1, .inl v1), (2, .inl v2), (3, .inl v3)] [] (N, M) := by
  unfold X8_sheet_J49 at h
  refine G_iload_n dX8_sheet_49 rfl ?_
  refine G_if_eq (tgt := 65) dX8_sheet_50 (by decide) (fun hc4 => ?_) (fun hc4 => ?_)
  · replace h := (if_pos hc4).symm.trans h
    exact X8_sheet_J65_ok   h
  · replace h := (if_neg hc4).symm.trans h
    refine G_iload_n dX8_sheet_53 rfl ?_
    refine G_bipush (v := 40) dX8_sheet_54 (by decide) ?_
    refine G_icmp_le (tgt := 65) dX8_sheet_56 (by decide) (fun hc7 => ?_) (fun hc7 => ?_)
    · replace h := (if_neg hc7).symm.trans h
      exact X8_sheet_J65_ok   h
    · replace h := (if_pos hc7).symm.trans h
      refine G_aload_n dX8_sheet_59 rfl ?_
      refine G_iconst (v := 1) dX8_sheet_60 (by decide) ?_
      obtain ⟨q6, hq6, h⟩ := bnd h
      refine G_callVv (T := TX8) (N := 22) (f := 19) (i := 0) (X8_finds_ok hq6) ok_X8_finds ml_X8_130 (by decide) rfl (by decide) (by decide) (by decide) rfl rfl (Nat.le_of_ble_eq_true rfl) dX8_sheet_61 ?_
      obtain rfl := Option.some.inj h
      exact G_ret dX8_sheet_64 trivial rfl rfl

def X8_sheet_J35 (v1 : Int32) (v2 : Int32) (v3 : Int32) (M : Mem) : Option (Int32 × Mem) := (if v2 = 0 then (X8_sheet_J49 v1 v2 v3 M) else (if v3 < 0 then ((X8_finds 3 M).bind fun q7 => (some (q7.1, q7.2))) else (X8_sheet_J49 v1 v2 v3 M)))
set_option maxRecDepth 100000 in
set_option maxHeartbeats 4000000 in
theorem X8_sheet_J35_ok  {v1 : Int32} {v2 : Int32} {v3 : Int32} {M N : Mem} {res : Int32 × Mem} (h : X8_sheet_J35 v1 v2 v3 M = some res) : G mt_X8_sheet 2 (some (.inl res.1)) (N, res.2) 35 [(0, .inr (.inr (19, 0))), (1, .inl v1), (2, .inl v2), (3, .inl v3)] [] (N, M) := by
  unfold X8_sheet_J35 at h
  refine G_iload_n dX8_sheet_35 rfl ?_
  refine G_if_eq (tgt := 49) dX8_sheet_36 (by decide) (fun hc3 => ?_) (fun hc3 => ?_)
  · replace h := (if_pos hc3).symm.trans h
    exact X8_sheet_J49_ok   h
  · replace h := (if_neg hc3).symm.trans h
    refine G_iload_n dX8_sheet_39 rfl ?_
    refine G_if_ge (tgt := 49) dX8_sheet_40 (by decide) (fun hc8 => ?_) (fun hc8 => ?_)
    · replace h := (if_neg hc8).symm.trans h
      exact X8_sheet_J49_ok   h
    · replace h := (if_pos hc8).symm.trans h
      refine G_aload_n dX8_sheet_43 rfl ?_
      refine G_iconst (v := 3) dX8_sheet_44 (by decide) ?_
      obtain ⟨q7, hq7, h⟩ := bnd h
      refine G_callVv (T := TX8) (N := 22) (f := 19) (i := 0) (X8_finds_ok hq7) ok_X8_finds ml_X8_130 (by decide) rfl (by decide) (by decide) (by decide) rfl rfl (Nat.le_of_ble_eq_true rfl) dX8_sheet_45 ?_
      obtain rfl := Option.some.inj h
      exact G_ret dX8_sheet_48 trivial rfl rfl

def X8_sheet (v1 : Int32) (v2 : Int32) (v3 : Int32) (M : Mem) : Option (Int32 × Mem) := (if (X8_isSheet v1) = 0 then ((X8_finds 1 M).bind fun q1 => (some (q1.1, q1.2))) else (if v2 = 0 then (X8_sheet_J35 v1 v2 v3 M) else (if v2 = 8 then (X8_sheet_J35 v1 v2 v3 M) else (if v2 = 16 then (X8_sheet_J35 v1 v2 v3 M) else (if v2 = 32 then (X8_sheet_J35 v1 v2 v3 M) else ((X8_finds 1 M).bind fun q8 => (some (q8.1, q8.2))))))))
set_option maxRecDepth 100000 in
set_option maxHeartbeats 4000000 in
theorem X8_sheet_ok  {v1 : Int32} {v2 : Int32} {v3 : Int32} {M N : Mem} {res : Int32 × Mem} (h : X8_sheet v1 v2 v3 M = some res) : Spec mt_X8_sheet 2 [.inr (.inr (19, 0)), .inl v1, .inl v2, .inl v3] (N, M) (some (.inl res.1)) (N, res.2) := by
  unfold X8_sheet at h
  refine Spec_of_G (by decide) rfl (Nat.le_of_ble_eq_true rfl) ?_
  refine G_sub [(0, .inr (.inr (19, 0))), (1, .inl v1), (2, .inl v2), (3, .inl v3)] [0, 1, 2, 3] rfl ?_
  refine G_iload_n dX8_sheet_0 rfl ?_
  refine G_callSv  (X8_isSheet_ok rfl) ok_X8_isSheet ml_X8_221 (by decide) rfl rfl (Nat.le_of_ble_eq_true rfl) dX8_sheet_1 ?_
  refine G_if_eq (tgt := 29) dX8_sheet_4 (by decide) (fun hc1 => ?_) (fun hc1 => ?_)
  · replace h := (if_pos hc1).symm.trans h
    refine G_aload_n dX8_sheet_29 rfl ?_
    refine G_iconst (v := 1) dX8_sheet_30 (by decide) ?_
    obtain ⟨q1, hq1, h⟩ := bnd h
    refine G_callVv (T := TX8) (N := 22) (f := 19) (i := 0) (X8_finds_ok hq1) ok_X8_finds ml_X8_130 (by decide) rfl (by decide) (by decide) (by decide) rfl rfl (Nat.le_of_ble_eq_true rfl) dX8_sheet_31 ?_
    obtain rfl := Option.some.inj h
    exact G_ret dX8_sheet_34 trivial rfl rfl
  · replace h := (if_neg hc1).symm.trans h
    refine G_iload_n dX8_sheet_7 rfl ?_
    refine G_if_eq (tgt := 35) dX8_sheet_8 (by decide) (fun hc2 => ?_) (fun hc2 => ?_)
    · replace h := (if_pos hc2).symm.trans h
      exact X8_sheet_J35_ok   h
    · replace h := (if_neg hc2).symm.trans h
      refine G_iload_n dX8_sheet_11 rfl ?_
      refine G_bipush (v := 8) dX8_sheet_12 (by decide) ?_
      refine G_icmp_eq (tgt := 35) dX8_sheet_14 (by decide) (fun hc9 => ?_) (fun hc9 => ?_)
      · replace h := (if_pos hc9).symm.trans h
        exact X8_sheet_J35_ok   h
      · replace h := (if_neg hc9).symm.trans h
        refine G_iload_n dX8_sheet_17 rfl ?_
        refine G_bipush (v := 16) dX8_sheet_18 (by decide) ?_
        refine G_icmp_eq (tgt := 35) dX8_sheet_20 (by decide) (fun hc10 => ?_) (fun hc10 => ?_)
        · replace h := (if_pos hc10).symm.trans h
          exact X8_sheet_J35_ok   h
        · replace h := (if_neg hc10).symm.trans h
          refine G_iload_n dX8_sheet_23 rfl ?_
          refine G_bipush (v := 32) dX8_sheet_24 (by decide) ?_
          refine G_icmp_eq (tgt := 35) dX8_sheet_26 (by decide) (fun hc11 => ?_) (fun hc11 => ?_)
          · replace h := (if_pos hc11).symm.trans h
            exact X8_sheet_J35_ok   h
          · replace h := (if_neg hc11).symm.trans h
            refine G_aload_n dX8_sheet_29 rfl ?_
            refine G_iconst (v := 1) dX8_sheet_30 (by decide) ?_
            obtain ⟨q8, hq8, h⟩ := bnd h
            refine G_callVv (T := TX8) (N := 22) (f := 19) (i := 0) (X8_finds_ok hq8) ok_X8_finds ml_X8_130 (by decide) rfl (by decide) (by decide) (by decide) rfl rfl (Nat.le_of_ble_eq_true rfl) dX8_sheet_31 ?_
            obtain rfl := Option.some.inj h
            exact G_ret dX8_sheet_34 trivial rfl rfl

theorem dX8_put_0 : decode cX8_put 0 = .ok (.iload_n 1, 1) := by decide +kernel
theorem dX8_put_1 : decode cX8_put 1 = .ok (.invokestatic 221, 3) := by decide +kernel
theorem dX8_put_4 : decode cX8_put 4 = .ok (.ifCond .ne 9, 3) := by decide +kernel
theorem dX8_put_7 : decode cX8_put 7 = .ok (.aload_n 0, 1) := by decide +kernel
theorem dX8_put_8 : decode cX8_put 8 = .ok (.iconst 1, 1) := by decide +kernel
theorem dX8_put_9 : decode cX8_put 9 = .ok (.invokevirtual 130, 3) := by decide +kernel
theorem dX8_put_12 : decode cX8_put 12 = .ok (.ireturn, 1) := by decide +kernel
theorem dX8_put_13 : decode cX8_put 13 = .ok (.aload_n 0, 1) := by decide +kernel
theorem dX8_put_14 : decode cX8_put 14 = .ok (.getfield 34, 3) := by decide +kernel
theorem dX8_put_17 : decode cX8_put 17 = .ok (.iload_n 1, 1) := by decide +kernel
theorem dX8_put_18 : decode cX8_put 18 = .ok (.iaload, 1) := by decide +kernel
theorem dX8_put_19 : decode cX8_put 19 = .ok (.ifCond .ne 9, 3) := by decide +kernel
theorem dX8_put_22 : decode cX8_put 22 = .ok (.aload_n 0, 1) := by decide +kernel
theorem dX8_put_23 : decode cX8_put 23 = .ok (.iconst 2, 1) := by decide +kernel
theorem dX8_put_24 : decode cX8_put 24 = .ok (.invokevirtual 130, 3) := by decide +kernel
theorem dX8_put_27 : decode cX8_put 27 = .ok (.ireturn, 1) := by decide +kernel
theorem dX8_put_28 : decode cX8_put 28 = .ok (.iload_n 2, 1) := by decide +kernel
theorem dX8_put_29 : decode cX8_put 29 = .ok (.i2l, 1) := by decide +kernel
theorem dX8_put_30 : decode cX8_put 30 = .ok (.lconst 0, 1) := by decide +kernel
theorem dX8_put_31 : decode cX8_put 31 = .ok (.aload_n 0, 1) := by decide +kernel
theorem dX8_put_32 : decode cX8_put 32 = .ok (.getfield 37, 3) := by decide +kernel
theorem dX8_put_35 : decode cX8_put 35 = .ok (.iload_n 1, 1) := by decide +kernel
theorem dX8_put_36 : decode cX8_put 36 = .ok (.iaload, 1) := by decide +kernel
theorem dX8_put_37 : decode cX8_put 37 = .ok (.iconst 1, 1) := by decide +kernel
theorem dX8_put_38 : decode cX8_put 38 = .ok (.isub, 1) := by decide +kernel
theorem dX8_put_39 : decode cX8_put 39 = .ok (.i2l, 1) := by decide +kernel
theorem dX8_put_40 : decode cX8_put 40 = .ok (.invokestatic 47, 3) := by decide +kernel
theorem dX8_put_43 : decode cX8_put 43 = .ok (.ifCond .ne 9, 3) := by decide +kernel
theorem dX8_put_46 : decode cX8_put 46 = .ok (.aload_n 0, 1) := by decide +kernel
theorem dX8_put_47 : decode cX8_put 47 = .ok (.iconst 1, 1) := by decide +kernel
theorem dX8_put_48 : decode cX8_put 48 = .ok (.invokevirtual 130, 3) := by decide +kernel
theorem dX8_put_51 : decode cX8_put 51 = .ok (.ireturn, 1) := by decide +kernel
theorem dX8_put_52 : decode cX8_put 52 = .ok (.aload_n 0, 1) := by decide +kernel
theorem dX8_put_53 : decode cX8_put 53 = .ok (.getfield 40, 3) := by decide +kernel
theorem dX8_put_56 : decode cX8_put 56 = .ok (.bipush 40, 2) := by decide +kernel
theorem dX8_put_58 : decode cX8_put 58 = .ok (.iload_n 1, 1) := by decide +kernel
theorem dX8_put_59 : decode cX8_put 59 = .ok (.imul, 1) := by decide +kernel
theorem dX8_put_60 : decode cX8_put 60 = .ok (.iload_n 2, 1) := by decide +kernel
theorem dX8_put_61 : decode cX8_put 61 = .ok (.iadd, 1) := by decide +kernel
theorem dX8_put_62 : decode cX8_put 62 = .ok (.aload_n 0, 1) := by decide +kernel
theorem dX8_put_63 : decode cX8_put 63 = .ok (.getfield 34, 3) := by decide +kernel
theorem dX8_put_66 : decode cX8_put 66 = .ok (.iload_n 1, 1) := by decide +kernel
theorem dX8_put_67 : decode cX8_put 67 = .ok (.iaload, 1) := by decide +kernel
theorem dX8_put_68 : decode cX8_put 68 = .ok (.bipush 8, 2) := by decide +kernel
theorem dX8_put_70 : decode cX8_put 70 = .ok (.if_icmp .ne 8, 3) := by decide +kernel
theorem dX8_put_73 : decode cX8_put 73 = .ok (.iload_n 3, 1) := by decide +kernel
theorem dX8_put_74 : decode cX8_put 74 = .ok (.i2b, 1) := by decide +kernel
theorem dX8_put_75 : decode cX8_put 75 = .ok (.goto 20, 3) := by decide +kernel
theorem dX8_put_78 : decode cX8_put 78 = .ok (.aload_n 0, 1) := by decide +kernel
theorem dX8_put_79 : decode cX8_put 79 = .ok (.getfield 34, 3) := by decide +kernel
theorem dX8_put_82 : decode cX8_put 82 = .ok (.iload_n 1, 1) := by decide +kernel
theorem dX8_put_83 : decode cX8_put 83 = .ok (.iaload, 1) := by decide +kernel
theorem dX8_put_84 : decode cX8_put 84 = .ok (.bipush 16, 2) := by decide +kernel
theorem dX8_put_86 : decode cX8_put 86 = .ok (.if_icmp .ne 8, 3) := by decide +kernel
theorem dX8_put_89 : decode cX8_put 89 = .ok (.iload_n 3, 1) := by decide +kernel
theorem dX8_put_90 : decode cX8_put 90 = .ok (.i2s, 1) := by decide +kernel
theorem dX8_put_91 : decode cX8_put 91 = .ok (.goto 4, 3) := by decide +kernel
theorem dX8_put_94 : decode cX8_put 94 = .ok (.iload_n 3, 1) := by decide +kernel
theorem dX8_put_95 : decode cX8_put 95 = .ok (.iastore, 1) := by decide +kernel
theorem dX8_put_96 : decode cX8_put 96 = .ok (.iconst 1, 1) := by decide +kernel
theorem dX8_put_97 : decode cX8_put 97 = .ok (.ireturn, 1) := by decide +kernel
def X8_put (v1 : Int32) (v2 : Int32) (v3 : Int32) (M : Mem) : Option (Int32 × Mem) := (if (X8_isSheet v1) = 0 then ((X8_finds 1 M).bind fun q7 => (some (q7.1, q7.2))) else (if ib v1 4 = true then (if (M 28 0 v1.toNatClampNeg) = 0 then ((X8_finds 2 M).bind fun q6 => (some (q6.1, q6.2))) else (if (X8_in (v2.toInt64) (0 : Int64) (((M 29 0 v1.toNatClampNeg) - 1).toInt64)) = 0 then ((X8_finds 1 M).bind fun q5 => (some (q5.1, q5.2))) else (if (M 28 0 v1.toNatClampNeg) = 8 then (if ib ((40 * v1) + v2) 160 = true then (some (1, (up3 M 30 0 (((40 * v1) + v2).toNatClampNeg) (nbB v3)))) else none) else (if (M 28 0 v1.toNatClampNeg) = 16 then (if ib ((40 * v1) + v2) 160 = true then (some (1, (up3 M 30 0 (((40 * v1) + v2).toNatClampNeg) (v3.toInt16.toInt32)))) else none) else (if ib ((40 * v1) + v2) 160 = true then (some (1, (up3 M 30 0 (((40 * v1) + v2).toNatClampNeg) v3))) else none))))) else none))
set_option maxRecDepth 100000 in
set_option maxHeartbeats 4000000 in
theorem X8_put_ok  {v1 : Int32} {v2 : Int32} {v3 : Int32} {M N : Mem} {res : Int32 × Mem} (h : X8_put v1 v2 v3 M = some res) : Spec mt_X8_put 2 [.inr (.inr (19, 0)), .inl v1, .inl v2, .inl v3] (N, M) (some (.inl res.1)) (N, res.2) := by
  unfold X8_put at h
  refine Spec_of_G (by decide) rfl (Nat.le_of_ble_eq_true rfl) ?_
  refine G_sub [(0, .inr (.inr (19, 0))), (1, .inl v1), (2, .inl v2), (3, .inl v3)] [0, 1, 2, 3] rfl ?_
  refine G_iload_n dX8_put_0 rfl ?_
  refine G_callSv  (X8_isSheet_ok rfl) ok_X8_isSheet ml_X8_221 (by decide) rfl rfl (Nat.le_of_ble_eq_true rfl) dX8_put_1 ?_
  refine G_if_ne (tgt := 13) dX8_put_4 (by decide) (fun hc1 => ?_) (fun hc1 => ?_)
  · replace h := (if_neg hc1).symm.trans h
    refine G_aload_n dX8_put_13 rfl ?_
    refine fg_X8_34 rfl (by decide) dX8_put_14 ?_
    refine G_iload_n dX8_put_17 rfl ?_
    obtain ⟨hb1, h⟩ := chk h
    have lhb1 := ib_lt hb1
    refine al_28 (kk := v1.toNatClampNeg) (v := (M 28 0 v1.toNatClampNeg)) (by decide) hb1 rfl rfl dX8_put_18 ?_
    refine G_if_ne (tgt := 28) dX8_put_19 (by decide) (fun hc2 => ?_) (fun hc2 => ?_)
    · replace h := (if_neg hc2).symm.trans h
      refine G_iload_n dX8_put_28 rfl ?_
      refine G_i2l dX8_put_29 ?_
      refine G_lconst (v := 0) dX8_put_30 (by decide) ?_
      refine G_aload_n dX8_put_31 rfl ?_
      refine fg_X8_37 rfl (by decide) dX8_put_32 ?_
      refine G_iload_n dX8_put_35 rfl ?_
      refine al_29 (kk := v1.toNatClampNeg) (v := (M 29 0 v1.toNatClampNeg)) (by decide) hb1 rfl rfl dX8_put_36 ?_
      refine G_iconst (v := 1) dX8_put_37 (by decide) ?_
      refine G_isub dX8_put_38 ?_
      refine G_i2l dX8_put_39 ?_
      refine G_callSv  (X8_in_ok rfl) ok_X8_in ml_X8_47 (by decide) rfl rfl (Nat.le_of_ble_eq_true rfl) dX8_put_40 ?_
      refine G_if_ne (tgt := 52) dX8_put_43 (by decide) (fun hc3 => ?_) (fun hc3 => ?_)
      · replace h := (if_neg hc3).symm.trans h
        refine G_aload_n dX8_put_52 rfl ?_
        refine fg_X8_40 rfl (by decide) dX8_put_53 ?_
        refine G_bipush (v := 40) dX8_put_56 (by decide) ?_
        refine G_iload_n dX8_put_58 rfl ?_
        refine G_imul dX8_put_59 ?_
        refine G_iload_n dX8_put_60 rfl ?_
        refine G_iadd dX8_put_61 ?_
        refine G_aload_n dX8_put_62 rfl ?_
        refine fg_X8_34 rfl (by decide) dX8_put_63 ?_
        refine G_iload_n dX8_put_66 rfl ?_
        refine al_28 (kk := v1.toNatClampNeg) (v := (M 28 0 v1.toNatClampNeg)) (by decide) hb1 rfl rfl dX8_put_67 ?_
        refine G_bipush (v := 8) dX8_put_68 (by decide) ?_
        refine G_icmp_ne (tgt := 78) dX8_put_70 (by decide) (fun hc4 => ?_) (fun hc4 => ?_)
        · replace h := (if_neg hc4).symm.trans h
          refine G_aload_n dX8_put_78 rfl ?_
          refine fg_X8_34 rfl (by decide) dX8_put_79 ?_
          refine G_iload_n dX8_put_82 rfl ?_
          refine al_28 (kk := v1.toNatClampNeg) (v := (M 28 0 v1.toNatClampNeg)) (by decide) hb1 rfl rfl dX8_put_83 ?_
          refine G_bipush (v := 16) dX8_put_84 (by decide) ?_
          refine G_icmp_ne (tgt := 94) dX8_put_86 (by decide) (fun hc5 => ?_) (fun hc5 => ?_)
          · replace h := (if_neg hc5).symm.trans h
            refine G_iload_n dX8_put_94 rfl ?_
            obtain ⟨hb2, h⟩ := chk h
            have lhb2 := ib_lt hb2
            refine as_30 (kk := ((40 * v1) + v2).toNatClampNeg) (by decide) hb2 rfl dX8_put_95 ?_
            refine G_iconst (v := 1) dX8_put_96 (by decide) ?_
            obtain rfl := Option.some.inj h
            exact G_ret dX8_put_97 trivial rfl rfl
          · replace h := (if_pos hc5).symm.trans h
            refine G_iload_n dX8_put_89 rfl ?_
            refine G_i2s dX8_put_90 ?_
            refine G_goto (tgt := 95) dX8_put_91 (by decide) ?_
            obtain ⟨hb3, h⟩ := chk h
            have lhb3 := ib_lt hb3
            refine as_30 (kk := ((40 * v1) + v2).toNatClampNeg) (by decide) hb3 rfl dX8_put_95 ?_
            refine G_iconst (v := 1) dX8_put_96 (by decide) ?_
            obtain rfl := Option.some.inj h
            exact G_ret dX8_put_97 trivial rfl rfl
        · replace h := (if_pos hc4).symm.trans h
          refine G_iload_n dX8_put_73 rfl ?_
          refine G_i2b dX8_put_74 ?_
          refine G_goto (tgt := 95) dX8_put_75 (by decide) ?_
          obtain ⟨hb4, h⟩ := chk h
          have lhb4 := ib_lt hb4
          refine as_30 (kk := ((40 * v1) + v2).toNatClampNeg) (by decide) hb4 rfl dX8_put_95 ?_
          refine G_iconst (v := 1) dX8_put_96 (by decide) ?_
          obtain rfl := Option.some.inj h
          exact G_ret dX8_put_97 trivial rfl rfl
      · replace h := (if_pos hc3).symm.trans h
        refine G_aload_n dX8_put_46 rfl ?_
        refine G_iconst (v := 1) dX8_put_47 (by decide) ?_
        obtain ⟨q5, hq5, h⟩ := bnd h
        refine G_callVv (T := TX8) (N := 22) (f := 19) (i := 0) (X8_finds_ok hq5) ok_X8_finds ml_X8_130 (by decide) rfl (by decide) (by decide) (by decide) rfl rfl (Nat.le_of_ble_eq_true rfl) dX8_put_48 ?_
        obtain rfl := Option.some.inj h
        exact G_ret dX8_put_51 trivial rfl rfl
    · replace h := (if_pos hc2).symm.trans h
      refine G_aload_n dX8_put_22 rfl ?_
      refine G_iconst (v := 2) dX8_put_23 (by decide) ?_
      obtain ⟨q6, hq6, h⟩ := bnd h
      refine G_callVv (T := TX8) (N := 22) (f := 19) (i := 0) (X8_finds_ok hq6) ok_X8_finds ml_X8_130 (by decide) rfl (by decide) (by decide) (by decide) rfl rfl (Nat.le_of_ble_eq_true rfl) dX8_put_24 ?_
      obtain rfl := Option.some.inj h
      exact G_ret dX8_put_27 trivial rfl rfl
  · replace h := (if_pos hc1).symm.trans h
    refine G_aload_n dX8_put_7 rfl ?_
    refine G_iconst (v := 1) dX8_put_8 (by decide) ?_
    obtain ⟨q7, hq7, h⟩ := bnd h
    refine G_callVv (T := TX8) (N := 22) (f := 19) (i := 0) (X8_finds_ok hq7) ok_X8_finds ml_X8_130 (by decide) rfl (by decide) (by decide) (by decide) rfl rfl (Nat.le_of_ble_eq_true rfl) dX8_put_9 ?_
    obtain rfl := Option.some.inj h
    exact G_ret dX8_put_12 trivial rfl rfl

theorem dX8_move_0 : decode cX8_move 0 = .ok (.iload_n 1, 1) := by decide +kernel
theorem dX8_move_1 : decode cX8_move 1 = .ok (.invokestatic 221, 3) := by decide +kernel
theorem dX8_move_4 : decode cX8_move 4 = .ok (.ifCond .eq 10, 3) := by decide +kernel
theorem dX8_move_7 : decode cX8_move 7 = .ok (.iload_n 3, 1) := by decide +kernel
theorem dX8_move_8 : decode cX8_move 8 = .ok (.invokestatic 221, 3) := by decide +kernel
theorem dX8_move_11 : decode cX8_move 11 = .ok (.ifCond .ne 9, 3) := by decide +kernel
theorem dX8_move_14 : decode cX8_move 14 = .ok (.aload_n 0, 1) := by decide +kernel
theorem dX8_move_15 : decode cX8_move 15 = .ok (.iconst 1, 1) := by decide +kernel
theorem dX8_move_16 : decode cX8_move 16 = .ok (.invokevirtual 130, 3) := by decide +kernel
theorem dX8_move_19 : decode cX8_move 19 = .ok (.ireturn, 1) := by decide +kernel
theorem dX8_move_20 : decode cX8_move 20 = .ok (.aload_n 0, 1) := by decide +kernel
theorem dX8_move_21 : decode cX8_move 21 = .ok (.getfield 34, 3) := by decide +kernel
theorem dX8_move_24 : decode cX8_move 24 = .ok (.iload_n 1, 1) := by decide +kernel
theorem dX8_move_25 : decode cX8_move 25 = .ok (.iaload, 1) := by decide +kernel
theorem dX8_move_26 : decode cX8_move 26 = .ok (.ifCond .eq 12, 3) := by decide +kernel
theorem dX8_move_29 : decode cX8_move 29 = .ok (.aload_n 0, 1) := by decide +kernel
theorem dX8_move_30 : decode cX8_move 30 = .ok (.getfield 34, 3) := by decide +kernel
theorem dX8_move_33 : decode cX8_move 33 = .ok (.iload_n 3, 1) := by decide +kernel
theorem dX8_move_34 : decode cX8_move 34 = .ok (.iaload, 1) := by decide +kernel
theorem dX8_move_35 : decode cX8_move 35 = .ok (.ifCond .ne 9, 3) := by decide +kernel
theorem dX8_move_38 : decode cX8_move 38 = .ok (.aload_n 0, 1) := by decide +kernel
theorem dX8_move_39 : decode cX8_move 39 = .ok (.iconst 2, 1) := by decide +kernel
theorem dX8_move_40 : decode cX8_move 40 = .ok (.invokevirtual 130, 3) := by decide +kernel
theorem dX8_move_43 : decode cX8_move 43 = .ok (.ireturn, 1) := by decide +kernel
theorem dX8_move_44 : decode cX8_move 44 = .ok (.aload_n 0, 1) := by decide +kernel
theorem dX8_move_45 : decode cX8_move 45 = .ok (.getfield 34, 3) := by decide +kernel
theorem dX8_move_48 : decode cX8_move 48 = .ok (.iload_n 1, 1) := by decide +kernel
theorem dX8_move_49 : decode cX8_move 49 = .ok (.iaload, 1) := by decide +kernel
theorem dX8_move_50 : decode cX8_move 50 = .ok (.aload_n 0, 1) := by decide +kernel
theorem dX8_move_51 : decode cX8_move 51 = .ok (.getfield 34, 3) := by decide +kernel
theorem dX8_move_54 : decode cX8_move 54 = .ok (.iload_n 3, 1) := by decide +kernel
theorem dX8_move_55 : decode cX8_move 55 = .ok (.iaload, 1) := by decide +kernel
theorem dX8_move_56 : decode cX8_move 56 = .ok (.if_icmp .eq 9, 3) := by decide +kernel
theorem dX8_move_59 : decode cX8_move 59 = .ok (.aload_n 0, 1) := by decide +kernel
theorem dX8_move_60 : decode cX8_move 60 = .ok (.iconst 5, 1) := by decide +kernel
theorem dX8_move_61 : decode cX8_move 61 = .ok (.invokevirtual 130, 3) := by decide +kernel
theorem dX8_move_64 : decode cX8_move 64 = .ok (.ireturn, 1) := by decide +kernel
theorem dX8_move_65 : decode cX8_move 65 = .ok (.iload 5, 2) := by decide +kernel
theorem dX8_move_67 : decode cX8_move 67 = .ok (.ifCond .lt 39, 3) := by decide +kernel
theorem dX8_move_70 : decode cX8_move 70 = .ok (.iload_n 2, 1) := by decide +kernel
theorem dX8_move_71 : decode cX8_move 71 = .ok (.ifCond .lt 35, 3) := by decide +kernel
theorem dX8_move_74 : decode cX8_move 74 = .ok (.iload 4, 2) := by decide +kernel
theorem dX8_move_76 : decode cX8_move 76 = .ok (.ifCond .lt 30, 3) := by decide +kernel
theorem dX8_move_79 : decode cX8_move 79 = .ok (.iload 5, 2) := by decide +kernel
theorem dX8_move_81 : decode cX8_move 81 = .ok (.aload_n 0, 1) := by decide +kernel
theorem dX8_move_82 : decode cX8_move 82 = .ok (.getfield 37, 3) := by decide +kernel
theorem dX8_move_85 : decode cX8_move 85 = .ok (.iload_n 1, 1) := by decide +kernel
theorem dX8_move_86 : decode cX8_move 86 = .ok (.iaload, 1) := by decide +kernel
theorem dX8_move_87 : decode cX8_move 87 = .ok (.iload_n 2, 1) := by decide +kernel
theorem dX8_move_88 : decode cX8_move 88 = .ok (.isub, 1) := by decide +kernel
theorem dX8_move_89 : decode cX8_move 89 = .ok (.if_icmp .gt 17, 3) := by decide +kernel
theorem dX8_move_92 : decode cX8_move 92 = .ok (.iload 5, 2) := by decide +kernel
theorem dX8_move_94 : decode cX8_move 94 = .ok (.aload_n 0, 1) := by decide +kernel
theorem dX8_move_95 : decode cX8_move 95 = .ok (.getfield 37, 3) := by decide +kernel
theorem dX8_move_98 : decode cX8_move 98 = .ok (.iload_n 3, 1) := by decide +kernel
theorem dX8_move_99 : decode cX8_move 99 = .ok (.iaload, 1) := by decide +kernel
theorem dX8_move_100 : decode cX8_move 100 = .ok (.iload 4, 2) := by decide +kernel
theorem dX8_move_102 : decode cX8_move 102 = .ok (.isub, 1) := by decide +kernel
theorem dX8_move_103 : decode cX8_move 103 = .ok (.if_icmp .le 9, 3) := by decide +kernel
theorem dX8_move_106 : decode cX8_move 106 = .ok (.aload_n 0, 1) := by decide +kernel
theorem dX8_move_107 : decode cX8_move 107 = .ok (.iconst 1, 1) := by decide +kernel
theorem dX8_move_108 : decode cX8_move 108 = .ok (.invokevirtual 130, 3) := by decide +kernel
theorem dX8_move_111 : decode cX8_move 111 = .ok (.ireturn, 1) := by decide +kernel
theorem dX8_move_112 : decode cX8_move 112 = .ok (.iconst 0, 1) := by decide +kernel
theorem dX8_move_113 : decode cX8_move 113 = .ok (.istore 6, 2) := by decide +kernel
theorem dX8_move_115 : decode cX8_move 115 = .ok (.iload 6, 2) := by decide +kernel
theorem dX8_move_117 : decode cX8_move 117 = .ok (.iload 5, 2) := by decide +kernel
theorem dX8_move_119 : decode cX8_move 119 = .ok (.if_icmp .ge 30, 3) := by decide +kernel
theorem dX8_move_122 : decode cX8_move 122 = .ok (.aload_n 0, 1) := by decide +kernel
theorem dX8_move_123 : decode cX8_move 123 = .ok (.getfield 43, 3) := by decide +kernel
theorem dX8_move_126 : decode cX8_move 126 = .ok (.iload 6, 2) := by decide +kernel
theorem dX8_move_128 : decode cX8_move 128 = .ok (.aload_n 0, 1) := by decide +kernel
theorem dX8_move_129 : decode cX8_move 129 = .ok (.getfield 40, 3) := by decide +kernel
theorem dX8_move_132 : decode cX8_move 132 = .ok (.bipush 40, 2) := by decide +kernel
theorem dX8_move_134 : decode cX8_move 134 = .ok (.iload_n 1, 1) := by decide +kernel
theorem dX8_move_135 : decode cX8_move 135 = .ok (.imul, 1) := by decide +kernel
theorem dX8_move_136 : decode cX8_move 136 = .ok (.iload_n 2, 1) := by decide +kernel
theorem dX8_move_137 : decode cX8_move 137 = .ok (.iadd, 1) := by decide +kernel
theorem dX8_move_138 : decode cX8_move 138 = .ok (.iload 6, 2) := by decide +kernel
theorem dX8_move_140 : decode cX8_move 140 = .ok (.iadd, 1) := by decide +kernel
theorem dX8_move_141 : decode cX8_move 141 = .ok (.iaload, 1) := by decide +kernel
theorem dX8_move_142 : decode cX8_move 142 = .ok (.iastore, 1) := by decide +kernel
theorem dX8_move_143 : decode cX8_move 143 = .ok (.iinc 6 1, 3) := by decide +kernel
theorem dX8_move_146 : decode cX8_move 146 = .ok (.goto (-31), 3) := by decide +kernel
theorem dX8_move_149 : decode cX8_move 149 = .ok (.iconst 0, 1) := by decide +kernel
theorem dX8_move_150 : decode cX8_move 150 = .ok (.istore 6, 2) := by decide +kernel
theorem dX8_move_152 : decode cX8_move 152 = .ok (.iload 6, 2) := by decide +kernel
theorem dX8_move_154 : decode cX8_move 154 = .ok (.iload 5, 2) := by decide +kernel
theorem dX8_move_156 : decode cX8_move 156 = .ok (.if_icmp .ge 31, 3) := by decide +kernel
theorem dX8_move_159 : decode cX8_move 159 = .ok (.aload_n 0, 1) := by decide +kernel
theorem dX8_move_160 : decode cX8_move 160 = .ok (.getfield 40, 3) := by decide +kernel
theorem dX8_move_163 : decode cX8_move 163 = .ok (.bipush 40, 2) := by decide +kernel
theorem dX8_move_165 : decode cX8_move 165 = .ok (.iload_n 3, 1) := by decide +kernel
theorem dX8_move_166 : decode cX8_move 166 = .ok (.imul, 1) := by decide +kernel
theorem dX8_move_167 : decode cX8_move 167 = .ok (.iload 4, 2) := by decide +kernel
theorem dX8_move_169 : decode cX8_move 169 = .ok (.iadd, 1) := by decide +kernel
theorem dX8_move_170 : decode cX8_move 170 = .ok (.iload 6, 2) := by decide +kernel
theorem dX8_move_172 : decode cX8_move 172 = .ok (.iadd, 1) := by decide +kernel
theorem dX8_move_173 : decode cX8_move 173 = .ok (.aload_n 0, 1) := by decide +kernel
theorem dX8_move_174 : decode cX8_move 174 = .ok (.getfield 43, 3) := by decide +kernel
theorem dX8_move_177 : decode cX8_move 177 = .ok (.iload 6, 2) := by decide +kernel
theorem dX8_move_179 : decode cX8_move 179 = .ok (.iaload, 1) := by decide +kernel
theorem dX8_move_180 : decode cX8_move 180 = .ok (.iastore, 1) := by decide +kernel
theorem dX8_move_181 : decode cX8_move 181 = .ok (.iinc 6 1, 3) := by decide +kernel
theorem dX8_move_184 : decode cX8_move 184 = .ok (.goto (-32), 3) := by decide +kernel
theorem dX8_move_187 : decode cX8_move 187 = .ok (.iload 5, 2) := by decide +kernel
theorem dX8_move_189 : decode cX8_move 189 = .ok (.ireturn, 1) := by decide +kernel
def X8_move_L115 : Nat → Int32 → Int32 → Int32 → Int32 → Int32 → Int32 → Mem → Option (Mem)
  | 0, _, _, _, _, _, _, _ => none
  | fu + 1, v1, v2, v3, v4, v5, v6, M => (if v6 < v5 then (if ib (((40 * v1) + v2) + v6) 160 = true then (if ib v6 40 = true then (X8_move_L115 fu v1 v2 v3 v4 v5 (v6 + 1) (up3 M 31 0 v6.toNatClampNeg (M 30 0 ((((40 * v1) + v2) + v6).toNatClampNeg)))) else none) else none) else (some M))
set_option maxRecDepth 100000 in
set_option maxHeartbeats 4000000 in
theorem X8_move_L115_ok  {r : Option AV} {M' : MM} : ∀ (fu : Nat) (v1 : Int32) (v2 : Int32) (v3 : Int32) (v4 : Int32) (v5 : Int32) (v6 : Int32) (M N : Mem) {res : Mem} (h : X8_move_L115 fu v1 v2 v3 v4 v5 v6 M = some res) (K : G mt_X8_move 2 r M' 149 [(0, .inr (.inr (19, 0))), (3, .inl v3), (4, .inl v4), (5, .inl v5)] [] (N, res)), G mt_X8_move 2 r M' 115 [(0, .inr (.inr (19, 0))), (1, .inl v1), (2, .inl v2), (3, .inl v3), (4, .inl v4), (5, .inl v5), (6, .inl v6)] [] (N, M) := by
  intro fu
  induction fu with
  | zero =>
    intro v1 v2 v3 v4 v5 v6 M N res h
    cases h
  | succ fu ih =>
    intro v1 v2 v3 v4 v5 v6 M N res h K
    replace h : (if v6 < v5 then (if ib (((40 * v1) + v2) + v6) 160 = true then (if ib v6 40 = true then (X8_move_L115 fu v1 v2 v3 v4 v5 (v6 + 1) (up3 M 31 0 v6.toNatClampNeg (M 30 0 ((((40 * v1) + v2) + v6).toNatClampNeg)))) else none) else none) else (some M)) = some res := h
    refine G_iload dX8_move_115 rfl ?_
    refine G_iload dX8_move_117 rfl ?_
    refine G_icmp_ge (tgt := 149) dX8_move_119 (by decide) (fun hc11 => ?_) (fun hc11 => ?_)
    · replace h := (if_neg hc11).symm.trans h
      refine G_sub [(0, .inr (.inr (19, 0))), (3, .inl v3), (4, .inl v4), (5, .inl v5)] [0, 3, 4, 5] rfl ?_
      obtain rfl := Option.some.inj h
      exact K
    · replace h := (if_pos hc11).symm.trans h
      refine G_aload_n dX8_move_122 rfl ?_
      refine fg_X8_43 rfl (by decide) dX8_move_123 ?_
      refine G_iload dX8_move_126 rfl ?_
      refine G_aload_n dX8_move_128 rfl ?_
      refine fg_X8_40 rfl (by decide) dX8_move_129 ?_
      refine G_bipush (v := 40) dX8_move_132 (by decide) ?_
      refine G_iload_n dX8_move_134 rfl ?_
      refine G_imul dX8_move_135 ?_
      refine G_iload_n dX8_move_136 rfl ?_
      refine G_iadd dX8_move_137 ?_
      refine G_iload dX8_move_138 rfl ?_
      refine G_iadd dX8_move_140 ?_
      obtain ⟨hb9, h⟩ := chk h
      have lhb9 := ib_lt hb9
      refine al_30 (kk := (((40 * v1) + v2) + v6).toNatClampNeg) (v := (M 30 0 ((((40 * v1) + v2) + v6).toNatClampNeg))) (by decide) hb9 rfl rfl dX8_move_141 ?_
      obtain ⟨hb10, h⟩ := chk h
      have lhb10 := ib_lt hb10
      refine as_31 (kk := v6.toNatClampNeg) (by decide) hb10 rfl dX8_move_142 ?_
      refine G_iinc (v := (v6 + 1)) (L2 := [(6, .inl (v6 + 1)), (0, .inr (.inr (19, 0))), (1, .inl v1), (2, .inl v2), (3, .inl v3), (4, .inl v4), (5, .inl v5)]) dX8_move_143 rfl (by first | rfl | (show _ + Int32.ofInt _ = _; rfl)) (by decide) rfl ?_
      refine G_goto (tgt := 115) dX8_move_146 (by decide) ?_
      refine G_sub [(0, .inr (.inr (19, 0))), (1, .inl v1), (2, .inl v2), (3, .inl v3), (4, .inl v4), (5, .inl v5), (6, .inl (v6 + 1))] [1, 2, 3, 4, 5, 6, 0] rfl ?_
      exact ih v1 v2 v3 v4 v5 (v6 + 1) (up3 M 31 0 v6.toNatClampNeg (M 30 0 ((((40 * v1) + v2) + v6).toNatClampNeg))) _  h K

def X8_move_L152 : Nat → Int32 → Int32 → Int32 → Int32 → Mem → Option (Mem)
  | 0, _, _, _, _, _ => none
  | fu + 1, v3, v4, v5, v6, M => (if v6 < v5 then (if ib v6 40 = true then (if ib (((40 * v3) + v4) + v6) 160 = true then (X8_move_L152 fu v3 v4 v5 (v6 + 1) (up3 M 30 0 ((((40 * v3) + v4) + v6).toNatClampNeg) (M 31 0 v6.toNatClampNeg))) else none) else none) else (some M))
set_option maxRecDepth 100000 in
set_option maxHeartbeats 4000000 in
theorem X8_move_L152_ok  {r : Option AV} {M' : MM} : ∀ (fu : Nat) (v3 : Int32) (v4 : Int32) (v5 : Int32) (v6 : Int32) (M N : Mem) {res : Mem} (h : X8_move_L152 fu v3 v4 v5 v6 M = some res) (K : G mt_X8_move 2 r M' 187 [(5, .inl v5)] [] (N, res)), G mt_X8_move 2 r M' 152 [(0, .inr (.inr (19, 0))), (3, .inl v3), (4, .inl v4), (5, .inl v5), (6, .inl v6)] [] (N, M) := by
  intro fu
  induction fu with
  | zero =>
    intro v3 v4 v5 v6 M N res h
    cases h
  | succ fu ih =>
    intro v3 v4 v5 v6 M N res h K
    replace h : (if v6 < v5 then (if ib v6 40 = true then (if ib (((40 * v3) + v4) + v6) 160 = true then (X8_move_L152 fu v3 v4 v5 (v6 + 1) (up3 M 30 0 ((((40 * v3) + v4) + v6).toNatClampNeg) (M 31 0 v6.toNatClampNeg))) else none) else none) else (some M)) = some res := h
    refine G_iload dX8_move_152 rfl ?_
    refine G_iload dX8_move_154 rfl ?_
    refine G_icmp_ge (tgt := 187) dX8_move_156 (by decide) (fun hc12 => ?_) (fun hc12 => ?_)
    · replace h := (if_neg hc12).symm.trans h
      refine G_sub [(5, .inl v5)] [3] rfl ?_
      obtain rfl := Option.some.inj h
      exact K
    · replace h := (if_pos hc12).symm.trans h
      refine G_aload_n dX8_move_159 rfl ?_
      refine fg_X8_40 rfl (by decide) dX8_move_160 ?_
      refine G_bipush (v := 40) dX8_move_163 (by decide) ?_
      refine G_iload_n dX8_move_165 rfl ?_
      refine G_imul dX8_move_166 ?_
      refine G_iload dX8_move_167 rfl ?_
      refine G_iadd dX8_move_169 ?_
      refine G_iload dX8_move_170 rfl ?_
      refine G_iadd dX8_move_172 ?_
      refine G_aload_n dX8_move_173 rfl ?_
      refine fg_X8_43 rfl (by decide) dX8_move_174 ?_
      refine G_iload dX8_move_177 rfl ?_
      obtain ⟨hb12, h⟩ := chk h
      have lhb12 := ib_lt hb12
      refine al_31 (kk := v6.toNatClampNeg) (v := (M 31 0 v6.toNatClampNeg)) (by decide) hb12 rfl rfl dX8_move_179 ?_
      obtain ⟨hb13, h⟩ := chk h
      have lhb13 := ib_lt hb13
      refine as_30 (kk := (((40 * v3) + v4) + v6).toNatClampNeg) (by decide) hb13 rfl dX8_move_180 ?_
      refine G_iinc (v := (v6 + 1)) (L2 := [(6, .inl (v6 + 1)), (0, .inr (.inr (19, 0))), (3, .inl v3), (4, .inl v4), (5, .inl v5)]) dX8_move_181 rfl (by first | rfl | (show _ + Int32.ofInt _ = _; rfl)) (by decide) rfl ?_
      refine G_goto (tgt := 152) dX8_move_184 (by decide) ?_
      refine G_sub [(0, .inr (.inr (19, 0))), (3, .inl v3), (4, .inl v4), (5, .inl v5), (6, .inl (v6 + 1))] [1, 2, 3, 4, 0] rfl ?_
      exact ih v3 v4 v5 (v6 + 1) (up3 M 30 0 ((((40 * v3) + v4) + v6).toNatClampNeg) (M 31 0 v6.toNatClampNeg)) _  h K

def X8_move (v1 : Int32) (v2 : Int32) (v3 : Int32) (v4 : Int32) (v5 : Int32) (M : Mem) : Option (Int32 × Mem) := (if (X8_isSheet v1) = 0 then ((X8_finds 1 M).bind fun q1 => (some (q1.1, q1.2))) else (if (X8_isSheet v3) = 0 then ((X8_finds 1 M).bind fun q18 => (some (q18.1, q18.2))) else (if ib v1 4 = true then (if (M 28 0 v1.toNatClampNeg) = 0 then ((X8_finds 2 M).bind fun q3 => (some (q3.1, q3.2))) else (if ib v3 4 = true then (if (M 28 0 v3.toNatClampNeg) = 0 then ((X8_finds 2 M).bind fun q17 => (some (q17.1, q17.2))) else (if (M 28 0 v1.toNatClampNeg) = (M 28 0 v3.toNatClampNeg) then (if v5 < 0 then ((X8_finds 1 M).bind fun q5 => (some (q5.1, q5.2))) else (if v2 < 0 then ((X8_finds 1 M).bind fun q6 => (some (q6.1, q6.2))) else (if v4 < 0 then ((X8_finds 1 M).bind fun q7 => (some (q7.1, q7.2))) else (if ((M 29 0 v1.toNatClampNeg) - v2) < v5 then ((X8_finds 1 M).bind fun q8 => (some (q8.1, q8.2))) else (if ((M 29 0 v3.toNatClampNeg) - v4) < v5 then ((X8_finds 1 M).bind fun q15 => (some (q15.1, q15.2))) else ((X8_move_L115 400 v1 v2 v3 v4 v5 0 M).bind fun q11 => ((X8_move_L152 400 v3 v4 v5 0 q11).bind fun q14 => (some (v5, q14))))))))) else ((X8_finds 5 M).bind fun q16 => (some (q16.1, q16.2))))) else none)) else none)))
set_option maxRecDepth 100000 in
set_option maxHeartbeats 4000000 in
theorem X8_move_ok  {v1 : Int32} {v2 : Int32} {v3 : Int32} {v4 : Int32} {v5 : Int32} {M N : Mem} {res : Int32 × Mem} (h : X8_move v1 v2 v3 v4 v5 M = some res) : Spec mt_X8_move 2 [.inr (.inr (19, 0)), .inl v1, .inl v2, .inl v3, .inl v4, .inl v5] (N, M) (some (.inl res.1)) (N, res.2) := by
  unfold X8_move at h
  refine Spec_of_G (by decide) rfl (Nat.le_of_ble_eq_true rfl) ?_
  refine G_sub [(0, .inr (.inr (19, 0))), (1, .inl v1), (2, .inl v2), (3, .inl v3), (4, .inl v4), (5, .inl v5)] [0, 1, 2, 3, 4, 5] rfl ?_
  refine G_iload_n dX8_move_0 rfl ?_
  refine G_callSv  (X8_isSheet_ok rfl) ok_X8_isSheet ml_X8_221 (by decide) rfl rfl (Nat.le_of_ble_eq_true rfl) dX8_move_1 ?_
  refine G_if_eq (tgt := 14) dX8_move_4 (by decide) (fun hc1 => ?_) (fun hc1 => ?_)
  · replace h := (if_pos hc1).symm.trans h
    refine G_aload_n dX8_move_14 rfl ?_
    refine G_iconst (v := 1) dX8_move_15 (by decide) ?_
    obtain ⟨q1, hq1, h⟩ := bnd h
    refine G_callVv (T := TX8) (N := 22) (f := 19) (i := 0) (X8_finds_ok hq1) ok_X8_finds ml_X8_130 (by decide) rfl (by decide) (by decide) (by decide) rfl rfl (Nat.le_of_ble_eq_true rfl) dX8_move_16 ?_
    obtain rfl := Option.some.inj h
    exact G_ret dX8_move_19 trivial rfl rfl
  · replace h := (if_neg hc1).symm.trans h
    refine G_iload_n dX8_move_7 rfl ?_
    refine G_callSv  (X8_isSheet_ok rfl) ok_X8_isSheet ml_X8_221 (by decide) rfl rfl (Nat.le_of_ble_eq_true rfl) dX8_move_8 ?_
    refine G_if_ne (tgt := 20) dX8_move_11 (by decide) (fun hc2 => ?_) (fun hc2 => ?_)
    · replace h := (if_neg hc2).symm.trans h
      refine G_aload_n dX8_move_20 rfl ?_
      refine fg_X8_34 rfl (by decide) dX8_move_21 ?_
      refine G_iload_n dX8_move_24 rfl ?_
      obtain ⟨hb2, h⟩ := chk h
      have lhb2 := ib_lt hb2
      refine al_28 (kk := v1.toNatClampNeg) (v := (M 28 0 v1.toNatClampNeg)) (by decide) hb2 rfl rfl dX8_move_25 ?_
      refine G_if_eq (tgt := 38) dX8_move_26 (by decide) (fun hc3 => ?_) (fun hc3 => ?_)
      · replace h := (if_pos hc3).symm.trans h
        refine G_aload_n dX8_move_38 rfl ?_
        refine G_iconst (v := 2) dX8_move_39 (by decide) ?_
        obtain ⟨q3, hq3, h⟩ := bnd h
        refine G_callVv (T := TX8) (N := 22) (f := 19) (i := 0) (X8_finds_ok hq3) ok_X8_finds ml_X8_130 (by decide) rfl (by decide) (by decide) (by decide) rfl rfl (Nat.le_of_ble_eq_true rfl) dX8_move_40 ?_
        obtain rfl := Option.some.inj h
        exact G_ret dX8_move_43 trivial rfl rfl
      · replace h := (if_neg hc3).symm.trans h
        refine G_aload_n dX8_move_29 rfl ?_
        refine fg_X8_34 rfl (by decide) dX8_move_30 ?_
        refine G_iload_n dX8_move_33 rfl ?_
        obtain ⟨hb4, h⟩ := chk h
        have lhb4 := ib_lt hb4
        refine al_28 (kk := v3.toNatClampNeg) (v := (M 28 0 v3.toNatClampNeg)) (by decide) hb4 rfl rfl dX8_move_34 ?_
        refine G_if_ne (tgt := 44) dX8_move_35 (by decide) (fun hc4 => ?_) (fun hc4 => ?_)
        · replace h := (if_neg hc4).symm.trans h
          refine G_aload_n dX8_move_44 rfl ?_
          refine fg_X8_34 rfl (by decide) dX8_move_45 ?_
          refine G_iload_n dX8_move_48 rfl ?_
          refine al_28 (kk := v1.toNatClampNeg) (v := (M 28 0 v1.toNatClampNeg)) (by decide) hb2 rfl rfl dX8_move_49 ?_
          refine G_aload_n dX8_move_50 rfl ?_
          refine fg_X8_34 rfl (by decide) dX8_move_51 ?_
          refine G_iload_n dX8_move_54 rfl ?_
          refine al_28 (kk := v3.toNatClampNeg) (v := (M 28 0 v3.toNatClampNeg)) (by decide) hb4 rfl rfl dX8_move_55 ?_
          refine G_icmp_eq (tgt := 65) dX8_move_56 (by decide) (fun hc5 => ?_) (fun hc5 => ?_)
          · replace h := (if_pos hc5).symm.trans h
            refine G_iload dX8_move_65 rfl ?_
            refine G_if_lt (tgt := 106) dX8_move_67 (by decide) (fun hc6 => ?_) (fun hc6 => ?_)
            · replace h := (if_pos hc6).symm.trans h
              refine G_aload_n dX8_move_106 rfl ?_
              refine G_iconst (v := 1) dX8_move_107 (by decide) ?_
              obtain ⟨q5, hq5, h⟩ := bnd h
              refine G_callVv (T := TX8) (N := 22) (f := 19) (i := 0) (X8_finds_ok hq5) ok_X8_finds ml_X8_130 (by decide) rfl (by decide) (by decide) (by decide) rfl rfl (Nat.le_of_ble_eq_true rfl) dX8_move_108 ?_
              obtain rfl := Option.some.inj h
              exact G_ret dX8_move_111 trivial rfl rfl
            · replace h := (if_neg hc6).symm.trans h
              refine G_iload_n dX8_move_70 rfl ?_
              refine G_if_lt (tgt := 106) dX8_move_71 (by decide) (fun hc7 => ?_) (fun hc7 => ?_)
              · replace h := (if_pos hc7).symm.trans h
                refine G_aload_n dX8_move_106 rfl ?_
                refine G_iconst (v := 1) dX8_move_107 (by decide) ?_
                obtain ⟨q6, hq6, h⟩ := bnd h
                refine G_callVv (T := TX8) (N := 22) (f := 19) (i := 0) (X8_finds_ok hq6) ok_X8_finds ml_X8_130 (by decide) rfl (by decide) (by decide) (by decide) rfl rfl (Nat.le_of_ble_eq_true rfl) dX8_move_108 ?_
                obtain rfl := Option.some.inj h
                exact G_ret dX8_move_111 trivial rfl rfl
              · replace h := (if_neg hc7).symm.trans h
                refine G_iload dX8_move_74 rfl ?_
                refine G_if_lt (tgt := 106) dX8_move_76 (by decide) (fun hc8 => ?_) (fun hc8 => ?_)
                · replace h := (if_pos hc8).symm.trans h
                  refine G_aload_n dX8_move_106 rfl ?_
                  refine G_iconst (v := 1) dX8_move_107 (by decide) ?_
                  obtain ⟨q7, hq7, h⟩ := bnd h
                  refine G_callVv (T := TX8) (N := 22) (f := 19) (i := 0) (X8_finds_ok hq7) ok_X8_finds ml_X8_130 (by decide) rfl (by decide) (by decide) (by decide) rfl rfl (Nat.le_of_ble_eq_true rfl) dX8_move_108 ?_
                  obtain rfl := Option.some.inj h
                  exact G_ret dX8_move_111 trivial rfl rfl
                · replace h := (if_neg hc8).symm.trans h
                  refine G_iload dX8_move_79 rfl ?_
                  refine G_aload_n dX8_move_81 rfl ?_
                  refine fg_X8_37 rfl (by decide) dX8_move_82 ?_
                  refine G_iload_n dX8_move_85 rfl ?_
                  refine al_29 (kk := v1.toNatClampNeg) (v := (M 29 0 v1.toNatClampNeg)) (by decide) hb2 rfl rfl dX8_move_86 ?_
                  refine G_iload_n dX8_move_87 rfl ?_
                  refine G_isub dX8_move_88 ?_
                  refine G_icmp_gt (tgt := 106) dX8_move_89 (by decide) (fun hc9 => ?_) (fun hc9 => ?_)
                  · replace h := (if_pos hc9).symm.trans h
                    refine G_aload_n dX8_move_106 rfl ?_
                    refine G_iconst (v := 1) dX8_move_107 (by decide) ?_
                    obtain ⟨q8, hq8, h⟩ := bnd h
                    refine G_callVv (T := TX8) (N := 22) (f := 19) (i := 0) (X8_finds_ok hq8) ok_X8_finds ml_X8_130 (by decide) rfl (by decide) (by decide) (by decide) rfl rfl (Nat.le_of_ble_eq_true rfl) dX8_move_108 ?_
                    obtain rfl := Option.some.inj h
                    exact G_ret dX8_move_111 trivial rfl rfl
                  · replace h := (if_neg hc9).symm.trans h
                    refine G_iload dX8_move_92 rfl ?_
                    refine G_aload_n dX8_move_94 rfl ?_
                    refine fg_X8_37 rfl (by decide) dX8_move_95 ?_
                    refine G_iload_n dX8_move_98 rfl ?_
                    refine al_29 (kk := v3.toNatClampNeg) (v := (M 29 0 v3.toNatClampNeg)) (by decide) hb4 rfl rfl dX8_move_99 ?_
                    refine G_iload dX8_move_100 rfl ?_
                    refine G_isub dX8_move_102 ?_
                    refine G_icmp_le (tgt := 112) dX8_move_103 (by decide) (fun hc10 => ?_) (fun hc10 => ?_)
                    · replace h := (if_neg hc10).symm.trans h
                      refine G_iconst (v := 0) dX8_move_112 (by decide) ?_
                      refine G_istore (L2 := [(6, .inl 0), (0, .inr (.inr (19, 0))), (1, .inl v1), (2, .inl v2), (3, .inl v3), (4, .inl v4), (5, .inl v5)]) dX8_move_113 (by decide) rfl ?_
                      refine G_sub [(0, .inr (.inr (19, 0))), (1, .inl v1), (2, .inl v2), (3, .inl v3), (4, .inl v4), (5, .inl v5), (6, .inl 0)] [1, 2, 3, 4, 5, 6, 0] rfl ?_
                      obtain ⟨q11, hq11, h⟩ := bnd h
                      refine X8_move_L115_ok  400 v1 v2 v3 v4 v5 0 M _  hq11 ?_
                      refine G_iconst (v := 0) dX8_move_149 (by decide) ?_
                      refine G_istore (L2 := [(6, .inl 0), (0, .inr (.inr (19, 0))), (3, .inl v3), (4, .inl v4), (5, .inl v5)]) dX8_move_150 (by decide) rfl ?_
                      refine G_sub [(0, .inr (.inr (19, 0))), (3, .inl v3), (4, .inl v4), (5, .inl v5), (6, .inl 0)] [1, 2, 3, 4, 0] rfl ?_
                      obtain ⟨q14, hq14, h⟩ := bnd h
                      refine X8_move_L152_ok  400 v3 v4 v5 0 q11 _  hq14 ?_
                      refine G_iload dX8_move_187 rfl ?_
                      obtain rfl := Option.some.inj h
                      exact G_ret dX8_move_189 trivial rfl rfl
                    · replace h := (if_pos hc10).symm.trans h
                      refine G_aload_n dX8_move_106 rfl ?_
                      refine G_iconst (v := 1) dX8_move_107 (by decide) ?_
                      obtain ⟨q15, hq15, h⟩ := bnd h
                      refine G_callVv (T := TX8) (N := 22) (f := 19) (i := 0) (X8_finds_ok hq15) ok_X8_finds ml_X8_130 (by decide) rfl (by decide) (by decide) (by decide) rfl rfl (Nat.le_of_ble_eq_true rfl) dX8_move_108 ?_
                      obtain rfl := Option.some.inj h
                      exact G_ret dX8_move_111 trivial rfl rfl
          · replace h := (if_neg hc5).symm.trans h
            refine G_aload_n dX8_move_59 rfl ?_
            refine G_iconst (v := 5) dX8_move_60 (by decide) ?_
            obtain ⟨q16, hq16, h⟩ := bnd h
            refine G_callVv (T := TX8) (N := 22) (f := 19) (i := 0) (X8_finds_ok hq16) ok_X8_finds ml_X8_130 (by decide) rfl (by decide) (by decide) (by decide) rfl rfl (Nat.le_of_ble_eq_true rfl) dX8_move_61 ?_
            obtain rfl := Option.some.inj h
            exact G_ret dX8_move_64 trivial rfl rfl
        · replace h := (if_pos hc4).symm.trans h
          refine G_aload_n dX8_move_38 rfl ?_
          refine G_iconst (v := 2) dX8_move_39 (by decide) ?_
          obtain ⟨q17, hq17, h⟩ := bnd h
          refine G_callVv (T := TX8) (N := 22) (f := 19) (i := 0) (X8_finds_ok hq17) ok_X8_finds ml_X8_130 (by decide) rfl (by decide) (by decide) (by decide) rfl rfl (Nat.le_of_ble_eq_true rfl) dX8_move_40 ?_
          obtain rfl := Option.some.inj h
          exact G_ret dX8_move_43 trivial rfl rfl
    · replace h := (if_pos hc2).symm.trans h
      refine G_aload_n dX8_move_14 rfl ?_
      refine G_iconst (v := 1) dX8_move_15 (by decide) ?_
      obtain ⟨q18, hq18, h⟩ := bnd h
      refine G_callVv (T := TX8) (N := 22) (f := 19) (i := 0) (X8_finds_ok hq18) ok_X8_finds ml_X8_130 (by decide) rfl (by decide) (by decide) (by decide) rfl rfl (Nat.le_of_ble_eq_true rfl) dX8_move_16 ?_
      obtain rfl := Option.some.inj h
      exact G_ret dX8_move_19 trivial rfl rfl

theorem dX8_uses_0 : decode cX8_uses 0 = .ok (.iload_n 1, 1) := by decide +kernel
theorem dX8_uses_1 : decode cX8_uses 1 = .ok (.invokestatic 221, 3) := by decide +kernel
theorem dX8_uses_4 : decode cX8_uses 4 = .ok (.ifCond .ne 9, 3) := by decide +kernel
theorem dX8_uses_7 : decode cX8_uses 7 = .ok (.aload_n 0, 1) := by decide +kernel
theorem dX8_uses_8 : decode cX8_uses 8 = .ok (.iconst 1, 1) := by decide +kernel
theorem dX8_uses_9 : decode cX8_uses 9 = .ok (.invokevirtual 130, 3) := by decide +kernel
theorem dX8_uses_12 : decode cX8_uses 12 = .ok (.ireturn, 1) := by decide +kernel
theorem dX8_uses_13 : decode cX8_uses 13 = .ok (.aload_n 0, 1) := by decide +kernel
theorem dX8_uses_14 : decode cX8_uses 14 = .ok (.getfield 34, 3) := by decide +kernel
theorem dX8_uses_17 : decode cX8_uses 17 = .ok (.iload_n 1, 1) := by decide +kernel
theorem dX8_uses_18 : decode cX8_uses 18 = .ok (.iaload, 1) := by decide +kernel
theorem dX8_uses_19 : decode cX8_uses 19 = .ok (.ifCond .ne 9, 3) := by decide +kernel
theorem dX8_uses_22 : decode cX8_uses 22 = .ok (.aload_n 0, 1) := by decide +kernel
theorem dX8_uses_23 : decode cX8_uses 23 = .ok (.iconst 2, 1) := by decide +kernel
theorem dX8_uses_24 : decode cX8_uses 24 = .ok (.invokevirtual 130, 3) := by decide +kernel
theorem dX8_uses_27 : decode cX8_uses 27 = .ok (.ireturn, 1) := by decide +kernel
theorem dX8_uses_28 : decode cX8_uses 28 = .ok (.iconst 0, 1) := by decide +kernel
theorem dX8_uses_29 : decode cX8_uses 29 = .ok (.istore_n 2, 1) := by decide +kernel
theorem dX8_uses_30 : decode cX8_uses 30 = .ok (.iload_n 2, 1) := by decide +kernel
theorem dX8_uses_31 : decode cX8_uses 31 = .ok (.aload_n 0, 1) := by decide +kernel
theorem dX8_uses_32 : decode cX8_uses 32 = .ok (.getfield 37, 3) := by decide +kernel
theorem dX8_uses_35 : decode cX8_uses 35 = .ok (.iload_n 1, 1) := by decide +kernel
theorem dX8_uses_36 : decode cX8_uses 36 = .ok (.iaload, 1) := by decide +kernel
theorem dX8_uses_37 : decode cX8_uses 37 = .ok (.if_icmp .ge 58, 3) := by decide +kernel
theorem dX8_uses_40 : decode cX8_uses 40 = .ok (.iload_n 2, 1) := by decide +kernel
theorem dX8_uses_41 : decode cX8_uses 41 = .ok (.aload_n 0, 1) := by decide +kernel
theorem dX8_uses_42 : decode cX8_uses 42 = .ok (.getfield 7, 3) := by decide +kernel
theorem dX8_uses_45 : decode cX8_uses 45 = .ok (.iconst 0, 1) := by decide +kernel
theorem dX8_uses_46 : decode cX8_uses 46 = .ok (.iaload, 1) := by decide +kernel
theorem dX8_uses_47 : decode cX8_uses 47 = .ok (.if_icmp .ge 48, 3) := by decide +kernel
theorem dX8_uses_50 : decode cX8_uses 50 = .ok (.aload_n 0, 1) := by decide +kernel
theorem dX8_uses_51 : decode cX8_uses 51 = .ok (.getfield 40, 3) := by decide +kernel
theorem dX8_uses_54 : decode cX8_uses 54 = .ok (.bipush 40, 2) := by decide +kernel
theorem dX8_uses_56 : decode cX8_uses 56 = .ok (.iload_n 1, 1) := by decide +kernel
theorem dX8_uses_57 : decode cX8_uses 57 = .ok (.imul, 1) := by decide +kernel
theorem dX8_uses_58 : decode cX8_uses 58 = .ok (.iload_n 2, 1) := by decide +kernel
theorem dX8_uses_59 : decode cX8_uses 59 = .ok (.iadd, 1) := by decide +kernel
theorem dX8_uses_60 : decode cX8_uses 60 = .ok (.iaload, 1) := by decide +kernel
theorem dX8_uses_61 : decode cX8_uses 61 = .ok (.i2l, 1) := by decide +kernel
theorem dX8_uses_62 : decode cX8_uses 62 = .ok (.lconst 0, 1) := by decide +kernel
theorem dX8_uses_63 : decode cX8_uses 63 = .ok (.ldc2_w 173, 3) := by decide +kernel
theorem dX8_uses_66 : decode cX8_uses 66 = .ok (.invokestatic 47, 3) := by decide +kernel
theorem dX8_uses_69 : decode cX8_uses 69 = .ok (.ifCond .eq 26, 3) := by decide +kernel
theorem dX8_uses_72 : decode cX8_uses 72 = .ok (.aload_n 0, 1) := by decide +kernel
theorem dX8_uses_73 : decode cX8_uses 73 = .ok (.iload_n 2, 1) := by decide +kernel
theorem dX8_uses_74 : decode cX8_uses 74 = .ok (.iconst 3, 1) := by decide +kernel
theorem dX8_uses_75 : decode cX8_uses 75 = .ok (.aload_n 0, 1) := by decide +kernel
theorem dX8_uses_76 : decode cX8_uses 76 = .ok (.getfield 40, 3) := by decide +kernel
theorem dX8_uses_79 : decode cX8_uses 79 = .ok (.bipush 40, 2) := by decide +kernel
theorem dX8_uses_81 : decode cX8_uses 81 = .ok (.iload_n 1, 1) := by decide +kernel
theorem dX8_uses_82 : decode cX8_uses 82 = .ok (.imul, 1) := by decide +kernel
theorem dX8_uses_83 : decode cX8_uses 83 = .ok (.iload_n 2, 1) := by decide +kernel
theorem dX8_uses_84 : decode cX8_uses 84 = .ok (.iadd, 1) := by decide +kernel
theorem dX8_uses_85 : decode cX8_uses 85 = .ok (.iaload, 1) := by decide +kernel
theorem dX8_uses_86 : decode cX8_uses 86 = .ok (.invokevirtual 149, 3) := by decide +kernel
theorem dX8_uses_89 : decode cX8_uses 89 = .ok (.iinc 2 1, 3) := by decide +kernel
theorem dX8_uses_92 : decode cX8_uses 92 = .ok (.goto (-62), 3) := by decide +kernel
theorem dX8_uses_95 : decode cX8_uses 95 = .ok (.iload_n 2, 1) := by decide +kernel
theorem dX8_uses_96 : decode cX8_uses 96 = .ok (.ireturn, 1) := by decide +kernel
def X8_uses_L30 : Nat → Int32 → Int32 → Mem → Option (Int32 × Mem)
  | 0, _, _, _ => none
  | fu + 1, v1, v2, M => (if ib v1 4 = true then (if v2 < (M 29 0 v1.toNatClampNeg) then (if v2 < (M 20 0 0) then (if ib ((40 * v1) + v2) 160 = true then (if (X8_in ((M 30 0 (((40 * v1) + v2).toNatClampNeg)).toInt64) (0 : Int64) (9 : Int64)) = 0 then (some (v2, M)) else ((X8_sets v2 3 (M 30 0 (((40 * v1) + v2).toNatClampNeg)) M).bind fun q4 => (X8_uses_L30 fu v1 (v2 + 1) q4))) else none) else (some (v2, M))) else (some (v2, M))) else none)
set_option maxRecDepth 100000 in
set_option maxHeartbeats 4000000 in
theorem X8_uses_L30_ok  {r : Option AV} {M' : MM} : ∀ (fu : Nat) (v1 : Int32) (v2 : Int32) (M N : Mem) {res : Int32 × Mem} (h : X8_uses_L30 fu v1 v2 M = some res) (K : G mt_X8_uses 2 r M' 95 [(2, .inl res.1)] [] (N, res.2)), G mt_X8_uses 2 r M' 30 [(0, .inr (.inr (19, 0))), (1, .inl v1), (2, .inl v2)] [] (N, M) := by
  intro fu
  induction fu with
  | zero =>
    intro v1 v2 M N res h
    cases h
  | succ fu ih =>
    intro v1 v2 M N res h K
    replace h : (if ib v1 4 = true then (if v2 < (M 29 0 v1.toNatClampNeg) then (if v2 < (M 20 0 0) then (if ib ((40 * v1) + v2) 160 = true then (if (X8_in ((M 30 0 (((40 * v1) + v2).toNatClampNeg)).toInt64) (0 : Int64) (9 : Int64)) = 0 then (some (v2, M)) else ((X8_sets v2 3 (M 30 0 (((40 * v1) + v2).toNatClampNeg)) M).bind fun q4 => (X8_uses_L30 fu v1 (v2 + 1) q4))) else none) else (some (v2, M))) else (some (v2, M))) else none) = some res := h
    refine G_iload_n dX8_uses_30 rfl ?_
    refine G_aload_n dX8_uses_31 rfl ?_
    refine fg_X8_37 rfl (by decide) dX8_uses_32 ?_
    refine G_iload_n dX8_uses_35 rfl ?_
    obtain ⟨hb2, h⟩ := chk h
    have lhb2 := ib_lt hb2
    refine al_29 (kk := v1.toNatClampNeg) (v := (M 29 0 v1.toNatClampNeg)) (by decide) hb2 rfl rfl dX8_uses_36 ?_
    refine G_icmp_ge (tgt := 95) dX8_uses_37 (by decide) (fun hc3 => ?_) (fun hc3 => ?_)
    · replace h := (if_neg hc3).symm.trans h
      refine G_sub [(2, .inl v2)] [2] rfl ?_
      obtain rfl := Option.some.inj h
      exact K
    · replace h := (if_pos hc3).symm.trans h
      refine G_iload_n dX8_uses_40 rfl ?_
      refine G_aload_n dX8_uses_41 rfl ?_
      refine fg_X8_7 rfl (by decide) dX8_uses_42 ?_
      refine G_iconst (v := 0) dX8_uses_45 (by decide) ?_
      refine al_20 (kk := 0) (v := (M 20 0 0)) (by decide) (by decide) (by decide) rfl dX8_uses_46 ?_
      refine G_icmp_ge (tgt := 95) dX8_uses_47 (by decide) (fun hc4 => ?_) (fun hc4 => ?_)
      · replace h := (if_neg hc4).symm.trans h
        refine G_sub [(2, .inl v2)] [2] rfl ?_
        obtain rfl := Option.some.inj h
        exact K
      · replace h := (if_pos hc4).symm.trans h
        refine G_aload_n dX8_uses_50 rfl ?_
        refine fg_X8_40 rfl (by decide) dX8_uses_51 ?_
        refine G_bipush (v := 40) dX8_uses_54 (by decide) ?_
        refine G_iload_n dX8_uses_56 rfl ?_
        refine G_imul dX8_uses_57 ?_
        refine G_iload_n dX8_uses_58 rfl ?_
        refine G_iadd dX8_uses_59 ?_
        obtain ⟨hb3, h⟩ := chk h
        have lhb3 := ib_lt hb3
        refine al_30 (kk := ((40 * v1) + v2).toNatClampNeg) (v := (M 30 0 (((40 * v1) + v2).toNatClampNeg))) (by decide) hb3 rfl rfl dX8_uses_60 ?_
        refine G_i2l dX8_uses_61 ?_
        refine G_lconst (v := 0) dX8_uses_62 (by decide) ?_
        refine G_ldc2 ko_X8_173 dX8_uses_63 ?_
        refine G_callSv  (X8_in_ok rfl) ok_X8_in ml_X8_47 (by decide) rfl rfl (Nat.le_of_ble_eq_true rfl) dX8_uses_66 ?_
        refine G_if_eq (tgt := 95) dX8_uses_69 (by decide) (fun hc5 => ?_) (fun hc5 => ?_)
        · replace h := (if_pos hc5).symm.trans h
          refine G_sub [(2, .inl v2)] [2] rfl ?_
          obtain rfl := Option.some.inj h
          exact K
        · replace h := (if_neg hc5).symm.trans h
          refine G_aload_n dX8_uses_72 rfl ?_
          refine G_iload_n dX8_uses_73 rfl ?_
          refine G_iconst (v := 3) dX8_uses_74 (by decide) ?_
          refine G_aload_n dX8_uses_75 rfl ?_
          refine fg_X8_40 rfl (by decide) dX8_uses_76 ?_
          refine G_bipush (v := 40) dX8_uses_79 (by decide) ?_
          refine G_iload_n dX8_uses_81 rfl ?_
          refine G_imul dX8_uses_82 ?_
          refine G_iload_n dX8_uses_83 rfl ?_
          refine G_iadd dX8_uses_84 ?_
          refine al_30 (kk := ((40 * v1) + v2).toNatClampNeg) (v := (M 30 0 (((40 * v1) + v2).toNatClampNeg))) (by decide) hb3 rfl rfl dX8_uses_85 ?_
          obtain ⟨q4, hq4, h⟩ := bnd h
          refine G_callVn (T := TX8) (N := 22) (f := 19) (i := 0) (X8_sets_ok hq4) ok_X8_sets ml_X8_149 (by decide) rfl (by decide) (by decide) (by decide) rfl rfl (Nat.le_of_ble_eq_true rfl) dX8_uses_86 ?_
          refine G_iinc (v := (v2 + 1)) (L2 := [(2, .inl (v2 + 1)), (0, .inr (.inr (19, 0))), (1, .inl v1)]) dX8_uses_89 rfl (by first | rfl | (show _ + Int32.ofInt _ = _; rfl)) (by decide) rfl ?_
          refine G_goto (tgt := 30) dX8_uses_92 (by decide) ?_
          refine G_sub [(0, .inr (.inr (19, 0))), (1, .inl v1), (2, .inl (v2 + 1))] [1, 2, 0] rfl ?_
          exact ih v1 (v2 + 1) q4 _  h K

def X8_uses (v1 : Int32) (M : Mem) : Option (Int32 × Mem) := (if (X8_isSheet v1) = 0 then ((X8_finds 1 M).bind fun q7 => (some (q7.1, q7.2))) else (if ib v1 4 = true then (if (M 28 0 v1.toNatClampNeg) = 0 then ((X8_finds 2 M).bind fun q6 => (some (q6.1, q6.2))) else ((X8_uses_L30 400 v1 0 M).bind fun q5 => (some (q5.1, q5.2)))) else none))
set_option maxRecDepth 100000 in
set_option maxHeartbeats 4000000 in
theorem X8_uses_ok  {v1 : Int32} {M N : Mem} {res : Int32 × Mem} (h : X8_uses v1 M = some res) : Spec mt_X8_uses 2 [.inr (.inr (19, 0)), .inl v1] (N, M) (some (.inl res.1)) (N, res.2) := by
  unfold X8_uses at h
  refine Spec_of_G (by decide) rfl (Nat.le_of_ble_eq_true rfl) ?_
  refine G_sub [(0, .inr (.inr (19, 0))), (1, .inl v1)] [0, 1] rfl ?_
  refine G_iload_n dX8_uses_0 rfl ?_
  refine G_callSv  (X8_isSheet_ok rfl) ok_X8_isSheet ml_X8_221 (by decide) rfl rfl (Nat.le_of_ble_eq_true rfl) dX8_uses_1 ?_
  refine G_if_ne (tgt := 13) dX8_uses_4 (by decide) (fun hc1 => ?_) (fun hc1 => ?_)
  · replace h := (if_neg hc1).symm.trans h
    refine G_aload_n dX8_uses_13 rfl ?_
    refine fg_X8_34 rfl (by decide) dX8_uses_14 ?_
    refine G_iload_n dX8_uses_17 rfl ?_
    obtain ⟨hb1, h⟩ := chk h
    have lhb1 := ib_lt hb1
    refine al_28 (kk := v1.toNatClampNeg) (v := (M 28 0 v1.toNatClampNeg)) (by decide) hb1 rfl rfl dX8_uses_18 ?_
    refine G_if_ne (tgt := 28) dX8_uses_19 (by decide) (fun hc2 => ?_) (fun hc2 => ?_)
    · replace h := (if_neg hc2).symm.trans h
      refine G_iconst (v := 0) dX8_uses_28 (by decide) ?_
      refine G_istore_n (L2 := [(2, .inl 0), (0, .inr (.inr (19, 0))), (1, .inl v1)]) dX8_uses_29 (by decide) rfl ?_
      refine G_sub [(0, .inr (.inr (19, 0))), (1, .inl v1), (2, .inl 0)] [1, 2, 0] rfl ?_
      obtain ⟨q5, hq5, h⟩ := bnd h
      refine X8_uses_L30_ok  400 v1 0 M _  hq5 ?_
      refine G_iload_n dX8_uses_95 rfl ?_
      obtain rfl := Option.some.inj h
      exact G_ret dX8_uses_96 trivial rfl rfl
    · replace h := (if_pos hc2).symm.trans h
      refine G_aload_n dX8_uses_22 rfl ?_
      refine G_iconst (v := 2) dX8_uses_23 (by decide) ?_
      obtain ⟨q6, hq6, h⟩ := bnd h
      refine G_callVv (T := TX8) (N := 22) (f := 19) (i := 0) (X8_finds_ok hq6) ok_X8_finds ml_X8_130 (by decide) rfl (by decide) (by decide) (by decide) rfl rfl (Nat.le_of_ble_eq_true rfl) dX8_uses_24 ?_
      obtain rfl := Option.some.inj h
      exact G_ret dX8_uses_27 trivial rfl rfl
  · replace h := (if_pos hc1).symm.trans h
    refine G_aload_n dX8_uses_7 rfl ?_
    refine G_iconst (v := 1) dX8_uses_8 (by decide) ?_
    obtain ⟨q7, hq7, h⟩ := bnd h
    refine G_callVv (T := TX8) (N := 22) (f := 19) (i := 0) (X8_finds_ok hq7) ok_X8_finds ml_X8_130 (by decide) rfl (by decide) (by decide) (by decide) rfl rfl (Nat.le_of_ble_eq_true rfl) dX8_uses_9 ?_
    obtain rfl := Option.some.inj h
    exact G_ret dX8_uses_12 trivial rfl rfl

theorem dX8_judge_0 : decode cX8_judge 0 = .ok (.iload_n 1, 1) := by decide +kernel
theorem dX8_judge_1 : decode cX8_judge 1 = .ok (.invokestatic 221, 3) := by decide +kernel
theorem dX8_judge_4 : decode cX8_judge 4 = .ok (.ifCond .ne 9, 3) := by decide +kernel
theorem dX8_judge_7 : decode cX8_judge 7 = .ok (.aload_n 0, 1) := by decide +kernel
theorem dX8_judge_8 : decode cX8_judge 8 = .ok (.iconst 1, 1) := by decide +kernel
theorem dX8_judge_9 : decode cX8_judge 9 = .ok (.invokevirtual 130, 3) := by decide +kernel
theorem dX8_judge_12 : decode cX8_judge 12 = .ok (.ireturn, 1) := by decide +kernel
theorem dX8_judge_13 : decode cX8_judge 13 = .ok (.aload_n 0, 1) := by decide +kernel
theorem dX8_judge_14 : decode cX8_judge 14 = .ok (.getfield 34, 3) := by decide +kernel
theorem dX8_judge_17 : decode cX8_judge 17 = .ok (.iload_n 1, 1) := by decide +kernel
theorem dX8_judge_18 : decode cX8_judge 18 = .ok (.iaload, 1) := by decide +kernel
theorem dX8_judge_19 : decode cX8_judge 19 = .ok (.ifCond .ne 9, 3) := by decide +kernel
theorem dX8_judge_22 : decode cX8_judge 22 = .ok (.aload_n 0, 1) := by decide +kernel
theorem dX8_judge_23 : decode cX8_judge 23 = .ok (.iconst 2, 1) := by decide +kernel
theorem dX8_judge_24 : decode cX8_judge 24 = .ok (.invokevirtual 130, 3) := by decide +kernel
theorem dX8_judge_27 : decode cX8_judge 27 = .ok (.ireturn, 1) := by decide +kernel
theorem dX8_judge_28 : decode cX8_judge 28 = .ok (.iconst 0, 1) := by decide +kernel
theorem dX8_judge_29 : decode cX8_judge 29 = .ok (.istore_n 2, 1) := by decide +kernel
theorem dX8_judge_30 : decode cX8_judge 30 = .ok (.iload_n 2, 1) := by decide +kernel
theorem dX8_judge_31 : decode cX8_judge 31 = .ok (.aload_n 0, 1) := by decide +kernel
theorem dX8_judge_32 : decode cX8_judge 32 = .ok (.getfield 37, 3) := by decide +kernel
theorem dX8_judge_35 : decode cX8_judge 35 = .ok (.iload_n 1, 1) := by decide +kernel
theorem dX8_judge_36 : decode cX8_judge 36 = .ok (.iaload, 1) := by decide +kernel
theorem dX8_judge_37 : decode cX8_judge 37 = .ok (.if_icmp .ge 40, 3) := by decide +kernel
theorem dX8_judge_40 : decode cX8_judge 40 = .ok (.iload_n 2, 1) := by decide +kernel
theorem dX8_judge_41 : decode cX8_judge 41 = .ok (.aload_n 0, 1) := by decide +kernel
theorem dX8_judge_42 : decode cX8_judge 42 = .ok (.getfield 7, 3) := by decide +kernel
theorem dX8_judge_45 : decode cX8_judge 45 = .ok (.iconst 0, 1) := by decide +kernel
theorem dX8_judge_46 : decode cX8_judge 46 = .ok (.iaload, 1) := by decide +kernel
theorem dX8_judge_47 : decode cX8_judge 47 = .ok (.if_icmp .ge 30, 3) := by decide +kernel
theorem dX8_judge_50 : decode cX8_judge 50 = .ok (.aload_n 0, 1) := by decide +kernel
theorem dX8_judge_51 : decode cX8_judge 51 = .ok (.getfield 40, 3) := by decide +kernel
theorem dX8_judge_54 : decode cX8_judge 54 = .ok (.bipush 40, 2) := by decide +kernel
theorem dX8_judge_56 : decode cX8_judge 56 = .ok (.iload_n 1, 1) := by decide +kernel
theorem dX8_judge_57 : decode cX8_judge 57 = .ok (.imul, 1) := by decide +kernel
theorem dX8_judge_58 : decode cX8_judge 58 = .ok (.iload_n 2, 1) := by decide +kernel
theorem dX8_judge_59 : decode cX8_judge 59 = .ok (.iadd, 1) := by decide +kernel
theorem dX8_judge_60 : decode cX8_judge 60 = .ok (.iaload, 1) := by decide +kernel
theorem dX8_judge_61 : decode cX8_judge 61 = .ok (.aload_n 0, 1) := by decide +kernel
theorem dX8_judge_62 : decode cX8_judge 62 = .ok (.iload_n 2, 1) := by decide +kernel
theorem dX8_judge_63 : decode cX8_judge 63 = .ok (.bipush 6, 2) := by decide +kernel
theorem dX8_judge_65 : decode cX8_judge 65 = .ok (.invokevirtual 53, 3) := by decide +kernel
theorem dX8_judge_68 : decode cX8_judge 68 = .ok (.if_icmp .ne 9, 3) := by decide +kernel
theorem dX8_judge_71 : decode cX8_judge 71 = .ok (.iinc 2 1, 3) := by decide +kernel
theorem dX8_judge_74 : decode cX8_judge 74 = .ok (.goto (-44), 3) := by decide +kernel
theorem dX8_judge_77 : decode cX8_judge 77 = .ok (.iload_n 2, 1) := by decide +kernel
theorem dX8_judge_78 : decode cX8_judge 78 = .ok (.aload_n 0, 1) := by decide +kernel
theorem dX8_judge_79 : decode cX8_judge 79 = .ok (.getfield 37, 3) := by decide +kernel
theorem dX8_judge_82 : decode cX8_judge 82 = .ok (.iload_n 1, 1) := by decide +kernel
theorem dX8_judge_83 : decode cX8_judge 83 = .ok (.iaload, 1) := by decide +kernel
theorem dX8_judge_84 : decode cX8_judge 84 = .ok (.if_icmp .ne 17, 3) := by decide +kernel
theorem dX8_judge_87 : decode cX8_judge 87 = .ok (.iload_n 2, 1) := by decide +kernel
theorem dX8_judge_88 : decode cX8_judge 88 = .ok (.aload_n 0, 1) := by decide +kernel
theorem dX8_judge_89 : decode cX8_judge 89 = .ok (.getfield 7, 3) := by decide +kernel
theorem dX8_judge_92 : decode cX8_judge 92 = .ok (.iconst 0, 1) := by decide +kernel
theorem dX8_judge_93 : decode cX8_judge 93 = .ok (.iaload, 1) := by decide +kernel
theorem dX8_judge_94 : decode cX8_judge 94 = .ok (.if_icmp .ne 7, 3) := by decide +kernel
theorem dX8_judge_97 : decode cX8_judge 97 = .ok (.iconst (-1), 1) := by decide +kernel
theorem dX8_judge_98 : decode cX8_judge 98 = .ok (.goto 4, 3) := by decide +kernel
theorem dX8_judge_101 : decode cX8_judge 101 = .ok (.iload_n 2, 1) := by decide +kernel
theorem dX8_judge_102 : decode cX8_judge 102 = .ok (.ireturn, 1) := by decide +kernel
def X8_judge_L30 : Nat → Int32 → Int32 → Mem → Option (Int32)
  | 0, _, _, _ => none
  | fu + 1, v1, v2, M => (if ib v1 4 = true then (if v2 < (M 29 0 v1.toNatClampNeg) then (if v2 < (M 20 0 0) then (if ib ((40 * v1) + v2) 160 = true then ((X8_of v2 6 M).bind fun q4 => (if (M 30 0 (((40 * v1) + v2).toNatClampNeg)) = q4 then (X8_judge_L30 fu v1 (v2 + 1) M) else (some v2))) else none) else (some v2)) else (some v2)) else none)
set_option maxRecDepth 100000 in
set_option maxHeartbeats 4000000 in
theorem X8_judge_L30_ok  {r : Option AV} {M' : MM} : ∀ (fu : Nat) (v1 : Int32) (v2 : Int32) (M N : Mem) {res : Int32} (h : X8_judge_L30 fu v1 v2 M = some res) (K : G mt_X8_judge 2 r M' 77 [(0, .inr (.inr (19, 0))), (1, .inl v1), (2, .inl res)] [] (N, M)), G mt_X8_judge 2 r M' 30 [(0, .inr (.inr (19, 0))), (1, .inl v1), (2, .inl v2)] [] (N, M) := by
  intro fu
  induction fu with
  | zero =>
    intro v1 v2 M N res h
    cases h
  | succ fu ih =>
    intro v1 v2 M N res h K
    replace h : (if ib v1 4 = true then (if v2 < (M 29 0 v1.toNatClampNeg) then (if v2 < (M 20 0 0) then (if ib ((40 * v1) + v2) 160 = true then ((X8_of v2 6 M).bind fun q4 => (if (M 30 0 (((40 * v1) + v2).toNatClampNeg)) = q4 then (X8_judge_L30 fu v1 (v2 + 1) M) else (some v2))) else none) else (some v2)) else (some v2)) else none) = some res := h
    refine G_iload_n dX8_judge_30 rfl ?_
    refine G_aload_n dX8_judge_31 rfl ?_
    refine fg_X8_37 rfl (by decide) dX8_judge_32 ?_
    refine G_iload_n dX8_judge_35 rfl ?_
    obtain ⟨hb2, h⟩ := chk h
    have lhb2 := ib_lt hb2
    refine al_29 (kk := v1.toNatClampNeg) (v := (M 29 0 v1.toNatClampNeg)) (by decide) hb2 rfl rfl dX8_judge_36 ?_
    refine G_icmp_ge (tgt := 77) dX8_judge_37 (by decide) (fun hc3 => ?_) (fun hc3 => ?_)
    · replace h := (if_neg hc3).symm.trans h
      obtain rfl := Option.some.inj h
      exact K
    · replace h := (if_pos hc3).symm.trans h
      refine G_iload_n dX8_judge_40 rfl ?_
      refine G_aload_n dX8_judge_41 rfl ?_
      refine fg_X8_7 rfl (by decide) dX8_judge_42 ?_
      refine G_iconst (v := 0) dX8_judge_45 (by decide) ?_
      refine al_20 (kk := 0) (v := (M 20 0 0)) (by decide) (by decide) (by decide) rfl dX8_judge_46 ?_
      refine G_icmp_ge (tgt := 77) dX8_judge_47 (by decide) (fun hc4 => ?_) (fun hc4 => ?_)
      · replace h := (if_neg hc4).symm.trans h
        obtain rfl := Option.some.inj h
        exact K
      · replace h := (if_pos hc4).symm.trans h
        refine G_aload_n dX8_judge_50 rfl ?_
        refine fg_X8_40 rfl (by decide) dX8_judge_51 ?_
        refine G_bipush (v := 40) dX8_judge_54 (by decide) ?_
        refine G_iload_n dX8_judge_56 rfl ?_
        refine G_imul dX8_judge_57 ?_
        refine G_iload_n dX8_judge_58 rfl ?_
        refine G_iadd dX8_judge_59 ?_
        obtain ⟨hb3, h⟩ := chk h
        have lhb3 := ib_lt hb3
        refine al_30 (kk := ((40 * v1) + v2).toNatClampNeg) (v := (M 30 0 (((40 * v1) + v2).toNatClampNeg))) (by decide) hb3 rfl rfl dX8_judge_60 ?_
        refine G_aload_n dX8_judge_61 rfl ?_
        refine G_iload_n dX8_judge_62 rfl ?_
        refine G_bipush (v := 6) dX8_judge_63 (by decide) ?_
        obtain ⟨q4, hq4, h⟩ := bnd h
        refine G_callVv (T := TX8) (N := 22) (f := 19) (i := 0) (X8_of_ok hq4) ok_X8_of ml_X8_53 (by decide) rfl (by decide) (by decide) (by decide) rfl rfl (Nat.le_of_ble_eq_true rfl) dX8_judge_65 ?_
        refine G_icmp_ne (tgt := 77) dX8_judge_68 (by decide) (fun hc5 => ?_) (fun hc5 => ?_)
        · replace h := (if_neg hc5).symm.trans h
          obtain rfl := Option.some.inj h
          exact K
        · replace h := (if_pos hc5).symm.trans h
          refine G_iinc (v := (v2 + 1)) (L2 := [(2, .inl (v2 + 1)), (0, .inr (.inr (19, 0))), (1, .inl v1)]) dX8_judge_71 rfl (by first | rfl | (show _ + Int32.ofInt _ = _; rfl)) (by decide) rfl ?_
          refine G_goto (tgt := 30) dX8_judge_74 (by decide) ?_
          refine G_sub [(0, .inr (.inr (19, 0))), (1, .inl v1), (2, .inl (v2 + 1))] [1, 2, 0] rfl ?_
          exact ih v1 (v2 + 1) M _  h K

def X8_judge_J77 (v1 : Int32) (v2 : Int32) (M : Mem) : Option (Int32 × Mem) := (if ib v1 4 = true then (if v2 = (M 29 0 v1.toNatClampNeg) then (if v2 = (M 20 0 0) then (some ((-1), M)) else (some (v2, M))) else (some (v2, M))) else none)
set_option maxRecDepth 100000 in
set_option maxHeartbeats 4000000 in
theorem X8_judge_J77_ok  {v1 : Int32} {v2 : Int32} {M N : Mem} {res : Int32 × Mem} (h : X8_judge_J77 v1 v2 M = some res) : G mt_X8_judge 2 (some (.inl res.1)) (N, res.2) 77 [(0, .inr (.inr (19, 0))), (1, .inl v1), (2, .inl v2)] [] (N, M) := by
  unfold X8_judge_J77 at h
  refine G_iload_n dX8_judge_77 rfl ?_
  refine G_aload_n dX8_judge_78 rfl ?_
  refine fg_X8_37 rfl (by decide) dX8_judge_79 ?_
  refine G_iload_n dX8_judge_82 rfl ?_
  obtain ⟨hb6, h⟩ := chk h
  have lhb6 := ib_lt hb6
  refine al_29 (kk := v1.toNatClampNeg) (v := (M 29 0 v1.toNatClampNeg)) (by decide) hb6 rfl rfl dX8_judge_83 ?_
  refine G_icmp_ne (tgt := 101) dX8_judge_84 (by decide) (fun hc6 => ?_) (fun hc6 => ?_)
  · replace h := (if_neg hc6).symm.trans h
    refine G_iload_n dX8_judge_101 rfl ?_
    obtain rfl := Option.some.inj h
    exact G_ret dX8_judge_102 trivial rfl rfl
  · replace h := (if_pos hc6).symm.trans h
    refine G_iload_n dX8_judge_87 rfl ?_
    refine G_aload_n dX8_judge_88 rfl ?_
    refine fg_X8_7 rfl (by decide) dX8_judge_89 ?_
    refine G_iconst (v := 0) dX8_judge_92 (by decide) ?_
    refine al_20 (kk := 0) (v := (M 20 0 0)) (by decide) (by decide) (by decide) rfl dX8_judge_93 ?_
    refine G_icmp_ne (tgt := 101) dX8_judge_94 (by decide) (fun hc7 => ?_) (fun hc7 => ?_)
    · replace h := (if_neg hc7).symm.trans h
      refine G_iload_n dX8_judge_101 rfl ?_
      obtain rfl := Option.some.inj h
      exact G_ret dX8_judge_102 trivial rfl rfl
    · replace h := (if_pos hc7).symm.trans h
      refine G_iconst (v := (-1)) dX8_judge_97 (by decide) ?_
      refine G_goto (tgt := 102) dX8_judge_98 (by decide) ?_
      obtain rfl := Option.some.inj h
      exact G_ret dX8_judge_102 trivial rfl rfl

def X8_judge (v1 : Int32) (M : Mem) : Option (Int32 × Mem) := (if (X8_isSheet v1) = 0 then ((X8_finds 1 M).bind fun q8 => (some (q8.1, q8.2))) else (if ib v1 4 = true then (if (M 28 0 v1.toNatClampNeg) = 0 then ((X8_finds 2 M).bind fun q7 => (some (q7.1, q7.2))) else ((X8_judge_L30 400 v1 0 M).bind fun q5 => (X8_judge_J77 v1 q5 M))) else none))
set_option maxRecDepth 100000 in
set_option maxHeartbeats 4000000 in
theorem X8_judge_ok  {v1 : Int32} {M N : Mem} {res : Int32 × Mem} (h : X8_judge v1 M = some res) : Spec mt_X8_judge 2 [.inr (.inr (19, 0)), .inl v1] (N, M) (some (.inl res.1)) (N, res.2) := by
  unfold X8_judge at h
  refine Spec_of_G (by decide) rfl (Nat.le_of_ble_eq_true rfl) ?_
  refine G_sub [(0, .inr (.inr (19, 0))), (1, .inl v1)] [0, 1] rfl ?_
  refine G_iload_n dX8_judge_0 rfl ?_
  refine G_callSv  (X8_isSheet_ok rfl) ok_X8_isSheet ml_X8_221 (by decide) rfl rfl (Nat.le_of_ble_eq_true rfl) dX8_judge_1 ?_
  refine G_if_ne (tgt := 13) dX8_judge_4 (by decide) (fun hc1 => ?_) (fun hc1 => ?_)
  · replace h := (if_neg hc1).symm.trans h
    refine G_aload_n dX8_judge_13 rfl ?_
    refine fg_X8_34 rfl (by decide) dX8_judge_14 ?_
    refine G_iload_n dX8_judge_17 rfl ?_
    obtain ⟨hb1, h⟩ := chk h
    have lhb1 := ib_lt hb1
    refine al_28 (kk := v1.toNatClampNeg) (v := (M 28 0 v1.toNatClampNeg)) (by decide) hb1 rfl rfl dX8_judge_18 ?_
    refine G_if_ne (tgt := 28) dX8_judge_19 (by decide) (fun hc2 => ?_) (fun hc2 => ?_)
    · replace h := (if_neg hc2).symm.trans h
      refine G_iconst (v := 0) dX8_judge_28 (by decide) ?_
      refine G_istore_n (L2 := [(2, .inl 0), (0, .inr (.inr (19, 0))), (1, .inl v1)]) dX8_judge_29 (by decide) rfl ?_
      refine G_sub [(0, .inr (.inr (19, 0))), (1, .inl v1), (2, .inl 0)] [1, 2, 0] rfl ?_
      obtain ⟨q5, hq5, h⟩ := bnd h
      refine X8_judge_L30_ok  400 v1 0 M _  hq5 ?_
      exact X8_judge_J77_ok   h
    · replace h := (if_pos hc2).symm.trans h
      refine G_aload_n dX8_judge_22 rfl ?_
      refine G_iconst (v := 2) dX8_judge_23 (by decide) ?_
      obtain ⟨q7, hq7, h⟩ := bnd h
      refine G_callVv (T := TX8) (N := 22) (f := 19) (i := 0) (X8_finds_ok hq7) ok_X8_finds ml_X8_130 (by decide) rfl (by decide) (by decide) (by decide) rfl rfl (Nat.le_of_ble_eq_true rfl) dX8_judge_24 ?_
      obtain rfl := Option.some.inj h
      exact G_ret dX8_judge_27 trivial rfl rfl
  · replace h := (if_pos hc1).symm.trans h
    refine G_aload_n dX8_judge_7 rfl ?_
    refine G_iconst (v := 1) dX8_judge_8 (by decide) ?_
    obtain ⟨q8, hq8, h⟩ := bnd h
    refine G_callVv (T := TX8) (N := 22) (f := 19) (i := 0) (X8_finds_ok hq8) ok_X8_finds ml_X8_130 (by decide) rfl (by decide) (by decide) (by decide) rfl rfl (Nat.le_of_ble_eq_true rfl) dX8_judge_9 ?_
    obtain rfl := Option.some.inj h
    exact G_ret dX8_judge_12 trivial rfl rfl

theorem dX8_restore_0 : decode cX8_restore 0 = .ok (.aload_n 0, 1) := by decide +kernel
theorem dX8_restore_1 : decode cX8_restore 1 = .ok (.getfield 252, 3) := by decide +kernel
theorem dX8_restore_4 : decode cX8_restore 4 = .ok (.ifCond .ne 9, 3) := by decide +kernel
theorem dX8_restore_7 : decode cX8_restore 7 = .ok (.aload_n 0, 1) := by decide +kernel
theorem dX8_restore_8 : decode cX8_restore 8 = .ok (.iconst 2, 1) := by decide +kernel
theorem dX8_restore_9 : decode cX8_restore 9 = .ok (.invokevirtual 130, 3) := by decide +kernel
theorem dX8_restore_12 : decode cX8_restore 12 = .ok (.ireturn, 1) := by decide +kernel
theorem dX8_restore_13 : decode cX8_restore 13 = .ok (.iconst 0, 1) := by decide +kernel
theorem dX8_restore_14 : decode cX8_restore 14 = .ok (.istore_n 1, 1) := by decide +kernel
theorem dX8_restore_15 : decode cX8_restore 15 = .ok (.iload_n 1, 1) := by decide +kernel
theorem dX8_restore_16 : decode cX8_restore 16 = .ok (.sipush 268, 3) := by decide +kernel
theorem dX8_restore_19 : decode cX8_restore 19 = .ok (.if_icmp .ge 21, 3) := by decide +kernel
theorem dX8_restore_22 : decode cX8_restore 22 = .ok (.aload_n 0, 1) := by decide +kernel
theorem dX8_restore_23 : decode cX8_restore 23 = .ok (.getfield 7, 3) := by decide +kernel
theorem dX8_restore_26 : decode cX8_restore 26 = .ok (.iload_n 1, 1) := by decide +kernel
theorem dX8_restore_27 : decode cX8_restore 27 = .ok (.aload_n 0, 1) := by decide +kernel
theorem dX8_restore_28 : decode cX8_restore 28 = .ok (.getfield 13, 3) := by decide +kernel
theorem dX8_restore_31 : decode cX8_restore 31 = .ok (.iload_n 1, 1) := by decide +kernel
theorem dX8_restore_32 : decode cX8_restore 32 = .ok (.iaload, 1) := by decide +kernel
theorem dX8_restore_33 : decode cX8_restore 33 = .ok (.iastore, 1) := by decide +kernel
theorem dX8_restore_34 : decode cX8_restore 34 = .ok (.iinc 1 1, 3) := by decide +kernel
theorem dX8_restore_37 : decode cX8_restore 37 = .ok (.goto (-22), 3) := by decide +kernel
theorem dX8_restore_40 : decode cX8_restore 40 = .ok (.aload_n 0, 1) := by decide +kernel
theorem dX8_restore_41 : decode cX8_restore 41 = .ok (.getfield 7, 3) := by decide +kernel
theorem dX8_restore_44 : decode cX8_restore 44 = .ok (.iconst 1, 1) := by decide +kernel
theorem dX8_restore_45 : decode cX8_restore 45 = .ok (.iaload, 1) := by decide +kernel
theorem dX8_restore_46 : decode cX8_restore 46 = .ok (.ireturn, 1) := by decide +kernel
def X8_restore_L15 : Nat → Int32 → Mem → Option (Mem)
  | 0, _, _ => none
  | fu + 1, v1, M => (if v1 < 268 then (if ib v1 268 = true then (X8_restore_L15 fu (v1 + 1) (up3 M 20 0 v1.toNatClampNeg (M 21 0 v1.toNatClampNeg))) else none) else (some M))
set_option maxRecDepth 100000 in
set_option maxHeartbeats 4000000 in
theorem X8_restore_L15_ok  {r : Option AV} {M' : MM} : ∀ (fu : Nat) (v1 : Int32) (M N : Mem) {res : Mem} (h : X8_restore_L15 fu v1 M = some res) (K : G mt_X8_restore 1 r M' 40 [(0, .inr (.inr (19, 0)))] [] (N, res)), G mt_X8_restore 1 r M' 15 [(0, .inr (.inr (19, 0))), (1, .inl v1)] [] (N, M) := by
  intro fu
  induction fu with
  | zero =>
    intro v1 M N res h
    cases h
  | succ fu ih =>
    intro v1 M N res h K
    replace h : (if v1 < 268 then (if ib v1 268 = true then (X8_restore_L15 fu (v1 + 1) (up3 M 20 0 v1.toNatClampNeg (M 21 0 v1.toNatClampNeg))) else none) else (some M)) = some res := h
    refine G_iload_n dX8_restore_15 rfl ?_
    refine G_sipush (v := 268) dX8_restore_16 (by decide) ?_
    refine G_icmp_ge (tgt := 40) dX8_restore_19 (by decide) (fun hc2 => ?_) (fun hc2 => ?_)
    · replace h := (if_neg hc2).symm.trans h
      refine G_sub [(0, .inr (.inr (19, 0)))] [0] rfl ?_
      obtain rfl := Option.some.inj h
      exact K
    · replace h := (if_pos hc2).symm.trans h
      refine G_aload_n dX8_restore_22 rfl ?_
      refine fg_X8_7 rfl (by decide) dX8_restore_23 ?_
      refine G_iload_n dX8_restore_26 rfl ?_
      refine G_aload_n dX8_restore_27 rfl ?_
      refine fg_X8_13 rfl (by decide) dX8_restore_28 ?_
      refine G_iload_n dX8_restore_31 rfl ?_
      obtain ⟨hb1, h⟩ := chk h
      have lhb1 := ib_lt hb1
      refine al_21 (kk := v1.toNatClampNeg) (v := (M 21 0 v1.toNatClampNeg)) (by decide) hb1 rfl rfl dX8_restore_32 ?_
      refine as_20 (kk := v1.toNatClampNeg) (by decide) hb1 rfl dX8_restore_33 ?_
      refine G_iinc (v := (v1 + 1)) (L2 := [(1, .inl (v1 + 1)), (0, .inr (.inr (19, 0)))]) dX8_restore_34 rfl (by first | rfl | (show _ + Int32.ofInt _ = _; rfl)) (by decide) rfl ?_
      refine G_goto (tgt := 15) dX8_restore_37 (by decide) ?_
      refine G_sub [(0, .inr (.inr (19, 0))), (1, .inl (v1 + 1))] [1, 0] rfl ?_
      exact ih (v1 + 1) (up3 M 20 0 v1.toNatClampNeg (M 21 0 v1.toNatClampNeg)) _  h K

def X8_restore  (M : Mem) : Option (Int32 × Mem) := (if (M 19 0 3) = 0 then ((X8_finds 2 M).bind fun q3 => (some (q3.1, q3.2))) else ((X8_restore_L15 400 0 M).bind fun q2 => (some ((q2 20 0 1), q2))))
set_option maxRecDepth 100000 in
set_option maxHeartbeats 4000000 in
theorem X8_restore_ok  {M N : Mem} {res : Int32 × Mem} (h : X8_restore M = some res) : Spec mt_X8_restore 1 [.inr (.inr (19, 0))] (N, M) (some (.inl res.1)) (N, res.2) := by
  unfold X8_restore at h
  refine Spec_of_G (by decide) rfl (Nat.le_of_ble_eq_true rfl) ?_
  refine G_sub [(0, .inr (.inr (19, 0)))] [0] rfl ?_
  refine G_aload_n dX8_restore_0 rfl ?_
  refine fg_X8_252 (v := (M 19 0 3)) rfl rfl (by decide) dX8_restore_1 ?_
  refine G_if_ne (tgt := 13) dX8_restore_4 (by decide) (fun hc1 => ?_) (fun hc1 => ?_)
  · replace h := (if_neg hc1).symm.trans h
    refine G_iconst (v := 0) dX8_restore_13 (by decide) ?_
    refine G_istore_n (L2 := [(1, .inl 0), (0, .inr (.inr (19, 0)))]) dX8_restore_14 (by decide) rfl ?_
    refine G_sub [(0, .inr (.inr (19, 0))), (1, .inl 0)] [1, 0] rfl ?_
    obtain ⟨q2, hq2, h⟩ := bnd h
    refine X8_restore_L15_ok  400 0 M _  hq2 ?_
    refine G_aload_n dX8_restore_40 rfl ?_
    refine fg_X8_7 rfl (by decide) dX8_restore_41 ?_
    refine G_iconst (v := 1) dX8_restore_44 (by decide) ?_
    refine al_20 (kk := 1) (v := (q2 20 0 1)) (by decide) (by decide) (by decide) rfl dX8_restore_45 ?_
    obtain rfl := Option.some.inj h
    exact G_ret dX8_restore_46 trivial rfl rfl
  · replace h := (if_pos hc1).symm.trans h
    refine G_aload_n dX8_restore_7 rfl ?_
    refine G_iconst (v := 2) dX8_restore_8 (by decide) ?_
    obtain ⟨q3, hq3, h⟩ := bnd h
    refine G_callVv (T := TX8) (N := 22) (f := 19) (i := 0) (X8_finds_ok hq3) ok_X8_finds ml_X8_130 (by decide) rfl (by decide) (by decide) (by decide) rfl rfl (Nat.le_of_ble_eq_true rfl) dX8_restore_9 ?_
    obtain rfl := Option.some.inj h
    exact G_ret dX8_restore_12 trivial rfl rfl

theorem dX8_tell_0 : decode cX8_tell 0 = .ok (.aload_n 0, 1) := by decide +kernel
theorem dX8_tell_1 : decode cX8_tell 1 = .ok (.getfield 7, 3) := by decide +kernel
theorem dX8_tell_4 : decode cX8_tell 4 = .ok (.iconst 5, 1) := by decide +kernel
theorem dX8_tell_5 : decode cX8_tell 5 = .ok (.iaload, 1) := by decide +kernel
theorem dX8_tell_6 : decode cX8_tell 6 = .ok (.bipush 20, 2) := by decide +kernel
theorem dX8_tell_8 : decode cX8_tell 8 = .ok (.if_icmp .ne 9, 3) := by decide +kernel
theorem dX8_tell_11 : decode cX8_tell 11 = .ok (.aload_n 0, 1) := by decide +kernel
theorem dX8_tell_12 : decode cX8_tell 12 = .ok (.iconst 4, 1) := by decide +kernel
theorem dX8_tell_13 : decode cX8_tell 13 = .ok (.invokevirtual 130, 3) := by decide +kernel
theorem dX8_tell_16 : decode cX8_tell 16 = .ok (.ireturn, 1) := by decide +kernel
theorem dX8_tell_17 : decode cX8_tell 17 = .ok (.aload_n 0, 1) := by decide +kernel
theorem dX8_tell_18 : decode cX8_tell 18 = .ok (.getfield 7, 3) := by decide +kernel
theorem dX8_tell_21 : decode cX8_tell 21 = .ok (.bipush 98, 2) := by decide +kernel
theorem dX8_tell_23 : decode cX8_tell 23 = .ok (.aload_n 0, 1) := by decide +kernel
theorem dX8_tell_24 : decode cX8_tell 24 = .ok (.getfield 7, 3) := by decide +kernel
theorem dX8_tell_27 : decode cX8_tell 27 = .ok (.iconst 5, 1) := by decide +kernel
theorem dX8_tell_28 : decode cX8_tell 28 = .ok (.iaload, 1) := by decide +kernel
theorem dX8_tell_29 : decode cX8_tell 29 = .ok (.iadd, 1) := by decide +kernel
theorem dX8_tell_30 : decode cX8_tell 30 = .ok (.iload_n 1, 1) := by decide +kernel
theorem dX8_tell_31 : decode cX8_tell 31 = .ok (.iastore, 1) := by decide +kernel
theorem dX8_tell_32 : decode cX8_tell 32 = .ok (.aload_n 0, 1) := by decide +kernel
theorem dX8_tell_33 : decode cX8_tell 33 = .ok (.getfield 7, 3) := by decide +kernel
theorem dX8_tell_36 : decode cX8_tell 36 = .ok (.iconst 5, 1) := by decide +kernel
theorem dX8_tell_37 : decode cX8_tell 37 = .ok (.dup2, 1) := by decide +kernel
theorem dX8_tell_38 : decode cX8_tell 38 = .ok (.iaload, 1) := by decide +kernel
theorem dX8_tell_39 : decode cX8_tell 39 = .ok (.iconst 1, 1) := by decide +kernel
theorem dX8_tell_40 : decode cX8_tell 40 = .ok (.iadd, 1) := by decide +kernel
theorem dX8_tell_41 : decode cX8_tell 41 = .ok (.iastore, 1) := by decide +kernel
theorem dX8_tell_42 : decode cX8_tell 42 = .ok (.aload_n 0, 1) := by decide +kernel
theorem dX8_tell_43 : decode cX8_tell 43 = .ok (.getfield 7, 3) := by decide +kernel
theorem dX8_tell_46 : decode cX8_tell 46 = .ok (.iconst 5, 1) := by decide +kernel
theorem dX8_tell_47 : decode cX8_tell 47 = .ok (.iaload, 1) := by decide +kernel
theorem dX8_tell_48 : decode cX8_tell 48 = .ok (.ireturn, 1) := by decide +kernel
def X8_tell (v1 : Int32) (M : Mem) : Option (Int32 × Mem) := (if (M 20 0 5) = 20 then ((X8_finds 4 M).bind fun q2 => (some (q2.1, q2.2))) else (if ib (98 + (M 20 0 5)) 268 = true then (some ((((up3 M 20 0 ((98 + (M 20 0 5)).toNatClampNeg) v1) 20 0 5) + 1), (up3 (up3 M 20 0 ((98 + (M 20 0 5)).toNatClampNeg) v1) 20 0 5 (((up3 M 20 0 ((98 + (M 20 0 5)).toNatClampNeg) v1) 20 0 5) + 1)))) else none))
set_option maxRecDepth 100000 in
set_option maxHeartbeats 4000000 in
theorem X8_tell_ok  {v1 : Int32} {M N : Mem} {res : Int32 × Mem} (h : X8_tell v1 M = some res) : Spec mt_X8_tell 1 [.inr (.inr (19, 0)), .inl v1] (N, M) (some (.inl res.1)) (N, res.2) := by
  unfold X8_tell at h
  refine Spec_of_G (by decide) rfl (Nat.le_of_ble_eq_true rfl) ?_
  refine G_sub [(0, .inr (.inr (19, 0))), (1, .inl v1)] [0, 1] rfl ?_
  refine G_aload_n dX8_tell_0 rfl ?_
  refine fg_X8_7 rfl (by decide) dX8_tell_1 ?_
  refine G_iconst (v := 5) dX8_tell_4 (by decide) ?_
  refine al_20 (kk := 5) (v := (M 20 0 5)) (by decide) (by decide) (by decide) rfl dX8_tell_5 ?_
  refine G_bipush (v := 20) dX8_tell_6 (by decide) ?_
  refine G_icmp_ne (tgt := 17) dX8_tell_8 (by decide) (fun hc1 => ?_) (fun hc1 => ?_)
  · replace h := (if_neg hc1).symm.trans h
    refine G_aload_n dX8_tell_17 rfl ?_
    refine fg_X8_7 rfl (by decide) dX8_tell_18 ?_
    refine G_bipush (v := 98) dX8_tell_21 (by decide) ?_
    refine G_aload_n dX8_tell_23 rfl ?_
    refine fg_X8_7 rfl (by decide) dX8_tell_24 ?_
    refine G_iconst (v := 5) dX8_tell_27 (by decide) ?_
    refine al_20 (kk := 5) (v := (M 20 0 5)) (by decide) (by decide) (by decide) rfl dX8_tell_28 ?_
    refine G_iadd dX8_tell_29 ?_
    refine G_iload_n dX8_tell_30 rfl ?_
    obtain ⟨hb1, h⟩ := chk h
    have lhb1 := ib_lt hb1
    refine as_20 (kk := (98 + (M 20 0 5)).toNatClampNeg) (by decide) hb1 rfl dX8_tell_31 ?_
    refine G_aload_n dX8_tell_32 rfl ?_
    refine fg_X8_7 rfl (by decide) dX8_tell_33 ?_
    refine G_iconst (v := 5) dX8_tell_36 (by decide) ?_
    refine G_dup2 rfl rfl dX8_tell_37 ?_
    refine al_20 (kk := 5) (v := ((up3 M 20 0 ((98 + (M 20 0 5)).toNatClampNeg) v1) 20 0 5)) (by decide) (by decide) (by decide) rfl dX8_tell_38 ?_
    refine G_iconst (v := 1) dX8_tell_39 (by decide) ?_
    refine G_iadd dX8_tell_40 ?_
    refine as_20 (kk := 5) (by decide) (by decide) (by decide) dX8_tell_41 ?_
    refine G_aload_n dX8_tell_42 rfl ?_
    refine fg_X8_7 rfl (by decide) dX8_tell_43 ?_
    refine G_iconst (v := 5) dX8_tell_46 (by decide) ?_
    refine al_20 (kk := 5) (v := (((up3 M 20 0 ((98 + (M 20 0 5)).toNatClampNeg) v1) 20 0 5) + 1)) (by decide) (by decide) (by decide) up3_eq dX8_tell_47 ?_
    obtain rfl := Option.some.inj h
    exact G_ret dX8_tell_48 trivial rfl rfl
  · replace h := (if_pos hc1).symm.trans h
    refine G_aload_n dX8_tell_11 rfl ?_
    refine G_iconst (v := 4) dX8_tell_12 (by decide) ?_
    obtain ⟨q2, hq2, h⟩ := bnd h
    refine G_callVv (T := TX8) (N := 22) (f := 19) (i := 0) (X8_finds_ok hq2) ok_X8_finds ml_X8_130 (by decide) rfl (by decide) (by decide) (by decide) rfl rfl (Nat.le_of_ble_eq_true rfl) dX8_tell_13 ?_
    obtain rfl := Option.some.inj h
    exact G_ret dX8_tell_16 trivial rfl rfl

theorem dX8_check_0 : decode cX8_check 0 = .ok (.aload_n 0, 1) := by decide +kernel
theorem dX8_check_1 : decode cX8_check 1 = .ok (.getfield 7, 3) := by decide +kernel
theorem dX8_check_4 : decode cX8_check 4 = .ok (.iconst 5, 1) := by decide +kernel
theorem dX8_check_5 : decode cX8_check 5 = .ok (.iaload, 1) := by decide +kernel
theorem dX8_check_6 : decode cX8_check 6 = .ok (.istore_n 1, 1) := by decide +kernel
theorem dX8_check_7 : decode cX8_check 7 = .ok (.aload_n 0, 1) := by decide +kernel
theorem dX8_check_8 : decode cX8_check 8 = .ok (.getfield 7, 3) := by decide +kernel
theorem dX8_check_11 : decode cX8_check 11 = .ok (.iconst 5, 1) := by decide +kernel
theorem dX8_check_12 : decode cX8_check 12 = .ok (.iconst 0, 1) := by decide +kernel
theorem dX8_check_13 : decode cX8_check 13 = .ok (.iastore, 1) := by decide +kernel
theorem dX8_check_14 : decode cX8_check 14 = .ok (.aload_n 0, 1) := by decide +kernel
theorem dX8_check_15 : decode cX8_check 15 = .ok (.invokevirtual 210, 3) := by decide +kernel
theorem dX8_check_18 : decode cX8_check 18 = .ok (.iconst 0, 1) := by decide +kernel
theorem dX8_check_19 : decode cX8_check 19 = .ok (.istore_n 2, 1) := by decide +kernel
theorem dX8_check_20 : decode cX8_check 20 = .ok (.iconst 0, 1) := by decide +kernel
theorem dX8_check_21 : decode cX8_check 21 = .ok (.istore_n 3, 1) := by decide +kernel
theorem dX8_check_22 : decode cX8_check 22 = .ok (.iload_n 3, 1) := by decide +kernel
theorem dX8_check_23 : decode cX8_check 23 = .ok (.iload_n 1, 1) := by decide +kernel
theorem dX8_check_24 : decode cX8_check 24 = .ok (.if_icmp .ge 42, 3) := by decide +kernel
theorem dX8_check_27 : decode cX8_check 27 = .ok (.iload_n 2, 1) := by decide +kernel
theorem dX8_check_28 : decode cX8_check 28 = .ok (.ifCond .ne 38, 3) := by decide +kernel
theorem dX8_check_31 : decode cX8_check 31 = .ok (.aload_n 0, 1) := by decide +kernel
theorem dX8_check_32 : decode cX8_check 32 = .ok (.iconst 1, 1) := by decide +kernel
theorem dX8_check_33 : decode cX8_check 33 = .ok (.invokevirtual 198, 3) := by decide +kernel
theorem dX8_check_36 : decode cX8_check 36 = .ok (.aload_n 0, 1) := by decide +kernel
theorem dX8_check_37 : decode cX8_check 37 = .ok (.getfield 7, 3) := by decide +kernel
theorem dX8_check_40 : decode cX8_check 40 = .ok (.bipush 98, 2) := by decide +kernel
theorem dX8_check_42 : decode cX8_check 42 = .ok (.iload_n 3, 1) := by decide +kernel
theorem dX8_check_43 : decode cX8_check 43 = .ok (.iadd, 1) := by decide +kernel
theorem dX8_check_44 : decode cX8_check 44 = .ok (.iaload, 1) := by decide +kernel
theorem dX8_check_45 : decode cX8_check 45 = .ok (.aload_n 0, 1) := by decide +kernel
theorem dX8_check_46 : decode cX8_check 46 = .ok (.invokevirtual 201, 3) := by decide +kernel
theorem dX8_check_49 : decode cX8_check 49 = .ok (.if_icmp .ne 7, 3) := by decide +kernel
theorem dX8_check_52 : decode cX8_check 52 = .ok (.iconst 0, 1) := by decide +kernel
theorem dX8_check_53 : decode cX8_check 53 = .ok (.goto 6, 3) := by decide +kernel
theorem dX8_check_56 : decode cX8_check 56 = .ok (.iconst 1, 1) := by decide +kernel
theorem dX8_check_57 : decode cX8_check 57 = .ok (.iload_n 3, 1) := by decide +kernel
theorem dX8_check_58 : decode cX8_check 58 = .ok (.iadd, 1) := by decide +kernel
theorem dX8_check_59 : decode cX8_check 59 = .ok (.istore_n 2, 1) := by decide +kernel
theorem dX8_check_60 : decode cX8_check 60 = .ok (.iinc 3 1, 3) := by decide +kernel
theorem dX8_check_63 : decode cX8_check 63 = .ok (.goto (-41), 3) := by decide +kernel
theorem dX8_check_66 : decode cX8_check 66 = .ok (.aload_n 0, 1) := by decide +kernel
theorem dX8_check_67 : decode cX8_check 67 = .ok (.invokevirtual 213, 3) := by decide +kernel
theorem dX8_check_70 : decode cX8_check 70 = .ok (.iload_n 2, 1) := by decide +kernel
theorem dX8_check_71 : decode cX8_check 71 = .ok (.ireturn, 1) := by decide +kernel
def X8_check_L22 : Nat → Int32 → Int32 → Int32 → Mem → Option (Int32 × Mem)
  | 0, _, _, _, _ => none
  | fu + 1, v1, v2, v3, M => (if v3 < v1 then (if v2 = 0 then ((X8_yearsGo 1 M).bind fun q2 => (if ib (98 + v3) 268 = true then ((X8_handles q2).bind fun q4 => (if (q2 20 0 ((98 + v3).toNatClampNeg)) = q4 then (X8_check_L22 fu v1 0 (v3 + 1) q2) else (X8_check_L22 fu v1 (1 + v3) (v3 + 1) q2))) else none)) else (some (v2, M))) else (some (v2, M)))
set_option maxRecDepth 100000 in
set_option maxHeartbeats 4000000 in
theorem X8_check_L22_ok  {r : Option AV} {M' : MM} : ∀ (fu : Nat) (v1 : Int32) (v2 : Int32) (v3 : Int32) (M N : Mem) {res : Int32 × Mem} (h : X8_check_L22 fu v1 v2 v3 M = some res) (K : G mt_X8_check 6 r M' 66 [(0, .inr (.inr (19, 0))), (2, .inl res.1)] [] (N, res.2)), G mt_X8_check 6 r M' 22 [(0, .inr (.inr (19, 0))), (1, .inl v1), (2, .inl v2), (3, .inl v3)] [] (N, M) := by
  intro fu
  induction fu with
  | zero =>
    intro v1 v2 v3 M N res h
    cases h
  | succ fu ih =>
    intro v1 v2 v3 M N res h K
    replace h : (if v3 < v1 then (if v2 = 0 then ((X8_yearsGo 1 M).bind fun q2 => (if ib (98 + v3) 268 = true then ((X8_handles q2).bind fun q4 => (if (q2 20 0 ((98 + v3).toNatClampNeg)) = q4 then (X8_check_L22 fu v1 0 (v3 + 1) q2) else (X8_check_L22 fu v1 (1 + v3) (v3 + 1) q2))) else none)) else (some (v2, M))) else (some (v2, M))) = some res := h
    refine G_iload_n dX8_check_22 rfl ?_
    refine G_iload_n dX8_check_23 rfl ?_
    refine G_icmp_ge (tgt := 66) dX8_check_24 (by decide) (fun hc1 => ?_) (fun hc1 => ?_)
    · replace h := (if_neg hc1).symm.trans h
      refine G_sub [(0, .inr (.inr (19, 0))), (2, .inl v2)] [0, 2] rfl ?_
      obtain rfl := Option.some.inj h
      exact K
    · replace h := (if_pos hc1).symm.trans h
      refine G_iload_n dX8_check_27 rfl ?_
      refine G_if_ne (tgt := 66) dX8_check_28 (by decide) (fun hc2 => ?_) (fun hc2 => ?_)
      · replace h := (if_neg hc2).symm.trans h
        refine G_sub [(0, .inr (.inr (19, 0))), (2, .inl v2)] [0, 2] rfl ?_
        obtain rfl := Option.some.inj h
        exact K
      · replace h := (if_pos hc2).symm.trans h
        refine G_aload_n dX8_check_31 rfl ?_
        refine G_iconst (v := 1) dX8_check_32 (by decide) ?_
        obtain ⟨q2, hq2, h⟩ := bnd h
        refine G_callVn (T := TX8) (N := 22) (f := 19) (i := 0) (X8_yearsGo_ok hq2) ok_X8_yearsGo ml_X8_198 (by decide) rfl (by decide) (by decide) (by decide) rfl rfl (Nat.le_of_ble_eq_true rfl) dX8_check_33 ?_
        refine G_aload_n dX8_check_36 rfl ?_
        refine fg_X8_7 rfl (by decide) dX8_check_37 ?_
        refine G_bipush (v := 98) dX8_check_40 (by decide) ?_
        refine G_iload_n dX8_check_42 rfl ?_
        refine G_iadd dX8_check_43 ?_
        obtain ⟨hb3, h⟩ := chk h
        have lhb3 := ib_lt hb3
        refine al_20 (kk := (98 + v3).toNatClampNeg) (v := (q2 20 0 ((98 + v3).toNatClampNeg))) (by decide) hb3 rfl rfl dX8_check_44 ?_
        refine G_aload_n dX8_check_45 rfl ?_
        obtain ⟨q4, hq4, h⟩ := bnd h
        refine G_callVv (T := TX8) (N := 22) (f := 19) (i := 0) (X8_handles_ok hq4) ok_X8_handles ml_X8_201 (by decide) rfl (by decide) (by decide) (by decide) rfl rfl (Nat.le_of_ble_eq_true rfl) dX8_check_46 ?_
        refine G_icmp_ne (tgt := 56) dX8_check_49 (by decide) (fun hc3 => ?_) (fun hc3 => ?_)
        · replace h := (if_neg hc3).symm.trans h
          refine G_iconst (v := 1) dX8_check_56 (by decide) ?_
          refine G_iload_n dX8_check_57 rfl ?_
          refine G_iadd dX8_check_58 ?_
          refine G_istore_n (L2 := [(2, .inl (1 + v3)), (0, .inr (.inr (19, 0))), (1, .inl v1), (3, .inl v3)]) dX8_check_59 (by decide) rfl ?_
          refine G_iinc (v := (v3 + 1)) (L2 := [(3, .inl (v3 + 1)), (2, .inl (1 + v3)), (0, .inr (.inr (19, 0))), (1, .inl v1)]) dX8_check_60 rfl (by first | rfl | (show _ + Int32.ofInt _ = _; rfl)) (by decide) rfl ?_
          refine G_goto (tgt := 22) dX8_check_63 (by decide) ?_
          refine G_sub [(0, .inr (.inr (19, 0))), (1, .inl v1), (2, .inl (1 + v3)), (3, .inl (v3 + 1))] [2, 3, 1, 0] rfl ?_
          exact ih v1 (1 + v3) (v3 + 1) q2 _  h K
        · replace h := (if_pos hc3).symm.trans h
          refine G_iconst (v := 0) dX8_check_52 (by decide) ?_
          refine G_goto (tgt := 59) dX8_check_53 (by decide) ?_
          refine G_istore_n (L2 := [(2, .inl 0), (0, .inr (.inr (19, 0))), (1, .inl v1), (3, .inl v3)]) dX8_check_59 (by decide) rfl ?_
          refine G_iinc (v := (v3 + 1)) (L2 := [(3, .inl (v3 + 1)), (2, .inl 0), (0, .inr (.inr (19, 0))), (1, .inl v1)]) dX8_check_60 rfl (by first | rfl | (show _ + Int32.ofInt _ = _; rfl)) (by decide) rfl ?_
          refine G_goto (tgt := 22) dX8_check_63 (by decide) ?_
          refine G_sub [(0, .inr (.inr (19, 0))), (1, .inl v1), (2, .inl 0), (3, .inl (v3 + 1))] [2, 3, 1, 0] rfl ?_
          exact ih v1 0 (v3 + 1) q2 _  h K

def X8_check_J66 (v2 : Int32) (M : Mem) : Option (Int32 × Mem) := ((X8_putBack M).bind fun q6 => (some (v2, q6)))
set_option maxRecDepth 100000 in
set_option maxHeartbeats 4000000 in
theorem X8_check_J66_ok  {v2 : Int32} {M N : Mem} {res : Int32 × Mem} (h : X8_check_J66 v2 M = some res) : G mt_X8_check 6 (some (.inl res.1)) (N, res.2) 66 [(0, .inr (.inr (19, 0))), (2, .inl v2)] [] (N, M) := by
  unfold X8_check_J66 at h
  refine G_aload_n dX8_check_66 rfl ?_
  obtain ⟨q6, hq6, h⟩ := bnd h
  refine G_callVn (T := TX8) (N := 22) (f := 19) (i := 0) (X8_putBack_ok hq6) ok_X8_putBack ml_X8_213 (by decide) rfl (by decide) (by decide) (by decide) rfl rfl (Nat.le_of_ble_eq_true rfl) dX8_check_67 ?_
  refine G_iload_n dX8_check_70 rfl ?_
  obtain rfl := Option.some.inj h
  exact G_ret dX8_check_71 trivial rfl rfl

def X8_check  (M : Mem) : Option (Int32 × Mem) := ((X8_keepAside (up3 M 20 0 5 0)).bind fun q1 => ((X8_check_L22 400 (M 20 0 5) 0 0 q1).bind fun q5 => (X8_check_J66 q5.1 q5.2)))
set_option maxRecDepth 100000 in
set_option maxHeartbeats 4000000 in
theorem X8_check_ok  {M N : Mem} {res : Int32 × Mem} (h : X8_check M = some res) : Spec mt_X8_check 6 [.inr (.inr (19, 0))] (N, M) (some (.inl res.1)) (N, res.2) := by
  unfold X8_check at h
  refine Spec_of_G (by decide) rfl (Nat.le_of_ble_eq_true rfl) ?_
  refine G_sub [(0, .inr (.inr (19, 0)))] [0] rfl ?_
  refine G_aload_n dX8_check_0 rfl ?_
  refine fg_X8_7 rfl (by decide) dX8_check_1 ?_
  refine G_iconst (v := 5) dX8_check_4 (by decide) ?_
  refine al_20 (kk := 5) (v := (M 20 0 5)) (by decide) (by decide) (by decide) rfl dX8_check_5 ?_
  refine G_istore_n (L2 := [(1, .inl (M 20 0 5)), (0, .inr (.inr (19, 0)))]) dX8_check_6 (by decide) rfl ?_
  refine G_aload_n dX8_check_7 rfl ?_
  refine fg_X8_7 rfl (by decide) dX8_check_8 ?_
  refine G_iconst (v := 5) dX8_check_11 (by decide) ?_
  refine G_iconst (v := 0) dX8_check_12 (by decide) ?_
  refine as_20 (kk := 5) (by decide) (by decide) (by decide) dX8_check_13 ?_
  refine G_aload_n dX8_check_14 rfl ?_
  obtain ⟨q1, hq1, h⟩ := bnd h
  refine G_callVn (T := TX8) (N := 22) (f := 19) (i := 0) (X8_keepAside_ok hq1) ok_X8_keepAside ml_X8_210 (by decide) rfl (by decide) (by decide) (by decide) rfl rfl (Nat.le_of_ble_eq_true rfl) dX8_check_15 ?_
  refine G_iconst (v := 0) dX8_check_18 (by decide) ?_
  refine G_istore_n (L2 := [(2, .inl 0), (1, .inl (M 20 0 5)), (0, .inr (.inr (19, 0)))]) dX8_check_19 (by decide) rfl ?_
  refine G_iconst (v := 0) dX8_check_20 (by decide) ?_
  refine G_istore_n (L2 := [(3, .inl 0), (2, .inl 0), (1, .inl (M 20 0 5)), (0, .inr (.inr (19, 0)))]) dX8_check_21 (by decide) rfl ?_
  refine G_sub [(0, .inr (.inr (19, 0))), (1, .inl (M 20 0 5)), (2, .inl 0), (3, .inl 0)] [3, 2, 1, 0] rfl ?_
  obtain ⟨q5, hq5, h⟩ := bnd h
  refine X8_check_L22_ok  400 (M 20 0 5) 0 0 q1 _  hq5 ?_
  exact X8_check_J66_ok   h

theorem dX8_count_0 : decode cX8_count 0 = .ok (.iload_n 1, 1) := by decide +kernel
theorem dX8_count_1 : decode cX8_count 1 = .ok (.tableswitch 106 0 9 #[55, 55, 55, 62, 67, 73, 80, 87, 94, 99], 55) := by decide +kernel
theorem dX8_count_56 : decode cX8_count 56 = .ok (.aload_n 0, 1) := by decide +kernel
theorem dX8_count_57 : decode cX8_count 57 = .ok (.getfield 7, 3) := by decide +kernel
theorem dX8_count_60 : decode cX8_count 60 = .ok (.iload_n 1, 1) := by decide +kernel
theorem dX8_count_61 : decode cX8_count 61 = .ok (.iaload, 1) := by decide +kernel
theorem dX8_count_62 : decode cX8_count 62 = .ok (.ireturn, 1) := by decide +kernel
theorem dX8_count_63 : decode cX8_count 63 = .ok (.aload_n 0, 1) := by decide +kernel
theorem dX8_count_64 : decode cX8_count 64 = .ok (.invokevirtual 201, 3) := by decide +kernel
theorem dX8_count_67 : decode cX8_count 67 = .ok (.ireturn, 1) := by decide +kernel
theorem dX8_count_68 : decode cX8_count 68 = .ok (.aload_n 0, 1) := by decide +kernel
theorem dX8_count_69 : decode cX8_count 69 = .ok (.iconst 5, 1) := by decide +kernel
theorem dX8_count_70 : decode cX8_count 70 = .ok (.invokevirtual 177, 3) := by decide +kernel
theorem dX8_count_73 : decode cX8_count 73 = .ok (.ireturn, 1) := by decide +kernel
theorem dX8_count_74 : decode cX8_count 74 = .ok (.aload_n 0, 1) := by decide +kernel
theorem dX8_count_75 : decode cX8_count 75 = .ok (.bipush 6, 2) := by decide +kernel
theorem dX8_count_77 : decode cX8_count 77 = .ok (.invokevirtual 177, 3) := by decide +kernel
theorem dX8_count_80 : decode cX8_count 80 = .ok (.ireturn, 1) := by decide +kernel
theorem dX8_count_81 : decode cX8_count 81 = .ok (.aload_n 0, 1) := by decide +kernel
theorem dX8_count_82 : decode cX8_count 82 = .ok (.getfield 7, 3) := by decide +kernel
theorem dX8_count_85 : decode cX8_count 85 = .ok (.iconst 4, 1) := by decide +kernel
theorem dX8_count_86 : decode cX8_count 86 = .ok (.iaload, 1) := by decide +kernel
theorem dX8_count_87 : decode cX8_count 87 = .ok (.ireturn, 1) := by decide +kernel
theorem dX8_count_88 : decode cX8_count 88 = .ok (.aload_n 0, 1) := by decide +kernel
theorem dX8_count_89 : decode cX8_count 89 = .ok (.getfield 7, 3) := by decide +kernel
theorem dX8_count_92 : decode cX8_count 92 = .ok (.iconst 5, 1) := by decide +kernel
theorem dX8_count_93 : decode cX8_count 93 = .ok (.iaload, 1) := by decide +kernel
theorem dX8_count_94 : decode cX8_count 94 = .ok (.ireturn, 1) := by decide +kernel
theorem dX8_count_95 : decode cX8_count 95 = .ok (.aload_n 0, 1) := by decide +kernel
theorem dX8_count_96 : decode cX8_count 96 = .ok (.getfield 229, 3) := by decide +kernel
theorem dX8_count_99 : decode cX8_count 99 = .ok (.ireturn, 1) := by decide +kernel
theorem dX8_count_100 : decode cX8_count 100 = .ok (.aload_n 0, 1) := by decide +kernel
theorem dX8_count_101 : decode cX8_count 101 = .ok (.getfield 7, 3) := by decide +kernel
theorem dX8_count_104 : decode cX8_count 104 = .ok (.iconst 3, 1) := by decide +kernel
theorem dX8_count_105 : decode cX8_count 105 = .ok (.iaload, 1) := by decide +kernel
theorem dX8_count_106 : decode cX8_count 106 = .ok (.ireturn, 1) := by decide +kernel
theorem dX8_count_107 : decode cX8_count 107 = .ok (.aload_n 0, 1) := by decide +kernel
theorem dX8_count_108 : decode cX8_count 108 = .ok (.iconst 1, 1) := by decide +kernel
theorem dX8_count_109 : decode cX8_count 109 = .ok (.invokevirtual 130, 3) := by decide +kernel
theorem dX8_count_112 : decode cX8_count 112 = .ok (.ireturn, 1) := by decide +kernel
def X8_count (v1 : Int32) (M : Mem) : Option (Int32 × Mem) := (if v1 = 0 then (if ib v1 268 = true then (some ((M 20 0 v1.toNatClampNeg), M)) else none) else (if v1 = 1 then (if ib v1 268 = true then (some ((M 20 0 v1.toNatClampNeg), M)) else none) else (if v1 = 2 then (if ib v1 268 = true then (some ((M 20 0 v1.toNatClampNeg), M)) else none) else (if v1 = 3 then ((X8_handles M).bind fun q4 => (some (q4, M))) else (if v1 = 4 then ((X8_setOf 5 M).bind fun q5 => (some (q5, M))) else (if v1 = 5 then ((X8_setOf 6 M).bind fun q6 => (some (q6, M))) else (if v1 = 6 then (some ((M 20 0 4), M)) else (if v1 = 7 then (some ((M 20 0 5), M)) else (if v1 = 8 then (some ((M 19 0 16), M)) else (if v1 = 9 then (some ((M 20 0 3), M)) else ((X8_finds 1 M).bind fun q7 => (some (q7.1, q7.2)))))))))))))
set_option maxRecDepth 100000 in
set_option maxHeartbeats 4000000 in
theorem X8_count_ok  {v1 : Int32} {M N : Mem} {res : Int32 × Mem} (h : X8_count v1 M = some res) : Spec mt_X8_count 3 [.inr (.inr (19, 0)), .inl v1] (N, M) (some (.inl res.1)) (N, res.2) := by
  unfold X8_count at h
  refine Spec_of_G (by decide) rfl (Nat.le_of_ble_eq_true rfl) ?_
  refine G_sub [(0, .inr (.inr (19, 0))), (1, .inl v1)] [0, 1] rfl ?_
  refine G_iload_n dX8_count_0 rfl ?_
  by_cases hc1 : v1 = 0
  · replace h := (if_pos hc1).symm.trans h
    refine G_tableEq (off := 55) (tgt := 56) hc1 dX8_count_1 (by decide) (by decide) (by decide) (by decide) ?_
    refine G_aload_n dX8_count_56 rfl ?_
    refine fg_X8_7 rfl (by decide) dX8_count_57 ?_
    refine G_iload_n dX8_count_60 rfl ?_
    obtain ⟨hb1, h⟩ := chk h
    have lhb1 := ib_lt hb1
    refine al_20 (kk := v1.toNatClampNeg) (v := (M 20 0 v1.toNatClampNeg)) (by decide) hb1 rfl rfl dX8_count_61 ?_
    obtain rfl := Option.some.inj h
    exact G_ret dX8_count_62 trivial rfl rfl
  replace h := (if_neg hc1).symm.trans h
  by_cases hc2 : v1 = 1
  · replace h := (if_pos hc2).symm.trans h
    refine G_tableEq (off := 55) (tgt := 56) hc2 dX8_count_1 (by decide) (by decide) (by decide) (by decide) ?_
    refine G_aload_n dX8_count_56 rfl ?_
    refine fg_X8_7 rfl (by decide) dX8_count_57 ?_
    refine G_iload_n dX8_count_60 rfl ?_
    obtain ⟨hb2, h⟩ := chk h
    have lhb2 := ib_lt hb2
    refine al_20 (kk := v1.toNatClampNeg) (v := (M 20 0 v1.toNatClampNeg)) (by decide) hb2 rfl rfl dX8_count_61 ?_
    obtain rfl := Option.some.inj h
    exact G_ret dX8_count_62 trivial rfl rfl
  replace h := (if_neg hc2).symm.trans h
  by_cases hc3 : v1 = 2
  · replace h := (if_pos hc3).symm.trans h
    refine G_tableEq (off := 55) (tgt := 56) hc3 dX8_count_1 (by decide) (by decide) (by decide) (by decide) ?_
    refine G_aload_n dX8_count_56 rfl ?_
    refine fg_X8_7 rfl (by decide) dX8_count_57 ?_
    refine G_iload_n dX8_count_60 rfl ?_
    obtain ⟨hb3, h⟩ := chk h
    have lhb3 := ib_lt hb3
    refine al_20 (kk := v1.toNatClampNeg) (v := (M 20 0 v1.toNatClampNeg)) (by decide) hb3 rfl rfl dX8_count_61 ?_
    obtain rfl := Option.some.inj h
    exact G_ret dX8_count_62 trivial rfl rfl
  replace h := (if_neg hc3).symm.trans h
  by_cases hc4 : v1 = 3
  · replace h := (if_pos hc4).symm.trans h
    refine G_tableEq (off := 62) (tgt := 63) hc4 dX8_count_1 (by decide) (by decide) (by decide) (by decide) ?_
    refine G_aload_n dX8_count_63 rfl ?_
    obtain ⟨q4, hq4, h⟩ := bnd h
    refine G_callVv (T := TX8) (N := 22) (f := 19) (i := 0) (X8_handles_ok hq4) ok_X8_handles ml_X8_201 (by decide) rfl (by decide) (by decide) (by decide) rfl rfl (Nat.le_of_ble_eq_true rfl) dX8_count_64 ?_
    obtain rfl := Option.some.inj h
    exact G_ret dX8_count_67 trivial rfl rfl
  replace h := (if_neg hc4).symm.trans h
  by_cases hc5 : v1 = 4
  · replace h := (if_pos hc5).symm.trans h
    refine G_tableEq (off := 67) (tgt := 68) hc5 dX8_count_1 (by decide) (by decide) (by decide) (by decide) ?_
    refine G_aload_n dX8_count_68 rfl ?_
    refine G_iconst (v := 5) dX8_count_69 (by decide) ?_
    obtain ⟨q5, hq5, h⟩ := bnd h
    refine G_callVv (T := TX8) (N := 22) (f := 19) (i := 0) (X8_setOf_ok hq5) ok_X8_setOf ml_X8_177 (by decide) rfl (by decide) (by decide) (by decide) rfl rfl (Nat.le_of_ble_eq_true rfl) dX8_count_70 ?_
    obtain rfl := Option.some.inj h
    exact G_ret dX8_count_73 trivial rfl rfl
  replace h := (if_neg hc5).symm.trans h
  by_cases hc6 : v1 = 5
  · replace h := (if_pos hc6).symm.trans h
    refine G_tableEq (off := 73) (tgt := 74) hc6 dX8_count_1 (by decide) (by decide) (by decide) (by decide) ?_
    refine G_aload_n dX8_count_74 rfl ?_
    refine G_bipush (v := 6) dX8_count_75 (by decide) ?_
    obtain ⟨q6, hq6, h⟩ := bnd h
    refine G_callVv (T := TX8) (N := 22) (f := 19) (i := 0) (X8_setOf_ok hq6) ok_X8_setOf ml_X8_177 (by decide) rfl (by decide) (by decide) (by decide) rfl rfl (Nat.le_of_ble_eq_true rfl) dX8_count_77 ?_
    obtain rfl := Option.some.inj h
    exact G_ret dX8_count_80 trivial rfl rfl
  replace h := (if_neg hc6).symm.trans h
  by_cases hc7 : v1 = 6
  · replace h := (if_pos hc7).symm.trans h
    refine G_tableEq (off := 80) (tgt := 81) hc7 dX8_count_1 (by decide) (by decide) (by decide) (by decide) ?_
    refine G_aload_n dX8_count_81 rfl ?_
    refine fg_X8_7 rfl (by decide) dX8_count_82 ?_
    refine G_iconst (v := 4) dX8_count_85 (by decide) ?_
    refine al_20 (kk := 4) (v := (M 20 0 4)) (by decide) (by decide) (by decide) rfl dX8_count_86 ?_
    obtain rfl := Option.some.inj h
    exact G_ret dX8_count_87 trivial rfl rfl
  replace h := (if_neg hc7).symm.trans h
  by_cases hc8 : v1 = 7
  · replace h := (if_pos hc8).symm.trans h
    refine G_tableEq (off := 87) (tgt := 88) hc8 dX8_count_1 (by decide) (by decide) (by decide) (by decide) ?_
    refine G_aload_n dX8_count_88 rfl ?_
    refine fg_X8_7 rfl (by decide) dX8_count_89 ?_
    refine G_iconst (v := 5) dX8_count_92 (by decide) ?_
    refine al_20 (kk := 5) (v := (M 20 0 5)) (by decide) (by decide) (by decide) rfl dX8_count_93 ?_
    obtain rfl := Option.some.inj h
    exact G_ret dX8_count_94 trivial rfl rfl
  replace h := (if_neg hc8).symm.trans h
  by_cases hc9 : v1 = 8
  · replace h := (if_pos hc9).symm.trans h
    refine G_tableEq (off := 94) (tgt := 95) hc9 dX8_count_1 (by decide) (by decide) (by decide) (by decide) ?_
    refine G_aload_n dX8_count_95 rfl ?_
    refine fg_X8_229 (v := (M 19 0 16)) rfl rfl (by decide) dX8_count_96 ?_
    obtain rfl := Option.some.inj h
    exact G_ret dX8_count_99 trivial rfl rfl
  replace h := (if_neg hc9).symm.trans h
  by_cases hc10 : v1 = 9
  · replace h := (if_pos hc10).symm.trans h
    refine G_tableEq (off := 99) (tgt := 100) hc10 dX8_count_1 (by decide) (by decide) (by decide) (by decide) ?_
    refine G_aload_n dX8_count_100 rfl ?_
    refine fg_X8_7 rfl (by decide) dX8_count_101 ?_
    refine G_iconst (v := 3) dX8_count_104 (by decide) ?_
    refine al_20 (kk := 3) (v := (M 20 0 3)) (by decide) (by decide) (by decide) rfl dX8_count_105 ?_
    obtain rfl := Option.some.inj h
    exact G_ret dX8_count_106 trivial rfl rfl
  replace h := (if_neg hc10).symm.trans h
  have nhc1 := ne_lit (n := 0) (by decide) hc1
  have nhc2 := ne_lit (n := 1) (by decide) hc2
  have nhc3 := ne_lit (n := 2) (by decide) hc3
  have nhc4 := ne_lit (n := 3) (by decide) hc4
  have nhc5 := ne_lit (n := 4) (by decide) hc5
  have nhc6 := ne_lit (n := 5) (by decide) hc6
  have nhc7 := ne_lit (n := 6) (by decide) hc7
  have nhc8 := ne_lit (n := 7) (by decide) hc8
  have nhc9 := ne_lit (n := 8) (by decide) hc9
  have nhc10 := ne_lit (n := 9) (by decide) hc10
  refine G_tableOut (tgt := 107) dX8_count_1 (by omega) (by decide) ?_
  refine G_aload_n dX8_count_107 rfl ?_
  refine G_iconst (v := 1) dX8_count_108 (by decide) ?_
  obtain ⟨q7, hq7, h⟩ := bnd h
  refine G_callVv (T := TX8) (N := 22) (f := 19) (i := 0) (X8_finds_ok hq7) ok_X8_finds ml_X8_130 (by decide) rfl (by decide) (by decide) (by decide) rfl rfl (Nat.le_of_ble_eq_true rfl) dX8_count_109 ?_
  obtain rfl := Option.some.inj h
  exact G_ret dX8_count_112 trivial rfl rfl

theorem dX8_told_0 : decode cX8_told 0 = .ok (.iload_n 1, 1) := by decide +kernel
theorem dX8_told_1 : decode cX8_told 1 = .ok (.i2l, 1) := by decide +kernel
theorem dX8_told_2 : decode cX8_told 2 = .ok (.lconst 1, 1) := by decide +kernel
theorem dX8_told_3 : decode cX8_told 3 = .ok (.ldc2_w 255, 3) := by decide +kernel
theorem dX8_told_6 : decode cX8_told 6 = .ok (.invokestatic 47, 3) := by decide +kernel
theorem dX8_told_9 : decode cX8_told 9 = .ok (.ifCond .eq 12, 3) := by decide +kernel
theorem dX8_told_12 : decode cX8_told 12 = .ok (.aload_n 0, 1) := by decide +kernel
theorem dX8_told_13 : decode cX8_told 13 = .ok (.getfield 19, 3) := by decide +kernel
theorem dX8_told_16 : decode cX8_told 16 = .ok (.iload_n 1, 1) := by decide +kernel
theorem dX8_told_17 : decode cX8_told 17 = .ok (.iaload, 1) := by decide +kernel
theorem dX8_told_18 : decode cX8_told 18 = .ok (.goto 8, 3) := by decide +kernel
theorem dX8_told_21 : decode cX8_told 21 = .ok (.aload_n 0, 1) := by decide +kernel
theorem dX8_told_22 : decode cX8_told 22 = .ok (.iconst 1, 1) := by decide +kernel
theorem dX8_told_23 : decode cX8_told 23 = .ok (.invokevirtual 130, 3) := by decide +kernel
theorem dX8_told_26 : decode cX8_told 26 = .ok (.ireturn, 1) := by decide +kernel
def X8_told (v1 : Int32) (M : Mem) : Option (Int32 × Mem) := (if (X8_in (v1.toInt64) (1 : Int64) (5 : Int64)) = 0 then ((X8_finds 1 M).bind fun q1 => (some (q1.1, q1.2))) else (if ib v1 6 = true then (some ((M 23 0 v1.toNatClampNeg), M)) else none))
set_option maxRecDepth 100000 in
set_option maxHeartbeats 4000000 in
theorem X8_told_ok  {v1 : Int32} {M N : Mem} {res : Int32 × Mem} (h : X8_told v1 M = some res) : Spec mt_X8_told 1 [.inr (.inr (19, 0)), .inl v1] (N, M) (some (.inl res.1)) (N, res.2) := by
  unfold X8_told at h
  refine Spec_of_G (by decide) rfl (Nat.le_of_ble_eq_true rfl) ?_
  refine G_sub [(0, .inr (.inr (19, 0))), (1, .inl v1)] [0, 1] rfl ?_
  refine G_iload_n dX8_told_0 rfl ?_
  refine G_i2l dX8_told_1 ?_
  refine G_lconst (v := 1) dX8_told_2 (by decide) ?_
  refine G_ldc2 ko_X8_255 dX8_told_3 ?_
  refine G_callSv  (X8_in_ok rfl) ok_X8_in ml_X8_47 (by decide) rfl rfl (Nat.le_of_ble_eq_true rfl) dX8_told_6 ?_
  refine G_if_eq (tgt := 21) dX8_told_9 (by decide) (fun hc1 => ?_) (fun hc1 => ?_)
  · replace h := (if_pos hc1).symm.trans h
    refine G_aload_n dX8_told_21 rfl ?_
    refine G_iconst (v := 1) dX8_told_22 (by decide) ?_
    obtain ⟨q1, hq1, h⟩ := bnd h
    refine G_callVv (T := TX8) (N := 22) (f := 19) (i := 0) (X8_finds_ok hq1) ok_X8_finds ml_X8_130 (by decide) rfl (by decide) (by decide) (by decide) rfl rfl (Nat.le_of_ble_eq_true rfl) dX8_told_23 ?_
    obtain rfl := Option.some.inj h
    exact G_ret dX8_told_26 trivial rfl rfl
  · replace h := (if_neg hc1).symm.trans h
    refine G_aload_n dX8_told_12 rfl ?_
    refine fg_X8_19 rfl (by decide) dX8_told_13 ?_
    refine G_iload_n dX8_told_16 rfl ?_
    obtain ⟨hb2, h⟩ := chk h
    have lhb2 := ib_lt hb2
    refine al_23 (kk := v1.toNatClampNeg) (v := (M 23 0 v1.toNatClampNeg)) (by decide) hb2 rfl rfl dX8_told_17 ?_
    refine G_goto (tgt := 26) dX8_told_18 (by decide) ?_
    obtain rfl := Option.some.inj h
    exact G_ret dX8_told_26 trivial rfl rfl

