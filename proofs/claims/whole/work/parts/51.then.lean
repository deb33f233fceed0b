theorem eq_then (a1 a2 a3 : Int32) : EqP Rel (X7_then a1 a2 a3) (X8_then a1 a2 a3) := by
  intro C R h
  obtain ⟨n, n1, n2, n3, -⟩ := id h.1
  by_cases c1 : ¬ (0 ≤ a1.toInt ∧ a1.toInt ≤ 60)
  · refine bad 1 (by omega) (by omega) h ?_ ?_
    · unfold X7_then
      rw [if_pos ((is7_60 _).mpr c1)]
      exact bind_some2
    · unfold X8_then
      rw [if_pos ((in8_0_60 _).mpr c1)]
      exact bind_some2
  replace c1 := Decidable.not_not.mp c1
  by_cases c2 : ¬ (0 ≤ a2.toInt ∧ a2.toInt < n)
  · refine bad 1 (by omega) (by omega) h ?_ ?_
    · unfold X7_then
      rw [if_neg (by rw [is7_60]; exact not_not_intro c1), if_pos ((has7 n1 n2 _).mpr c2)]
      exact bind_some2
    · unfold X8_then
      rw [if_neg (by rw [in8_0_60]; exact not_not_intro c1), if_pos ((pot8 n1 n3 _).mpr c2)]
      exact bind_some2
  replace c2 := Decidable.not_not.mp c2
  by_cases c3 : ¬ (0 ≤ a3.toInt ∧ a3.toInt ≤ 2)
  · refine bad 1 (by omega) (by omega) h ?_ ?_
    · unfold X7_then
      rw [if_neg (by rw [is7_60]; exact not_not_intro c1), if_neg (by rw [has7 n1 n2]; exact not_not_intro c2), if_pos ((is7_2 _).mpr c3)]
      exact bind_some2
    · unfold X8_then
      rw [if_neg (by rw [in8_0_60]; exact not_not_intro c1), if_neg (by rw [pot8 n1 n3]; exact not_not_intro c2), if_pos ((in8_0_2 _).mpr c3)]
      exact bind_some2
  replace c3 := Decidable.not_not.mp c3
  have en : nP (R 20 0) = n := by
    unfold nP
    rw [n3, i_of (by omega)]
    rfl
  obtain ⟨N, rfl, N1, N2⟩ := i_get c1 (by omega)
  obtain ⟨p, hp, rfl⟩ := i_small (n := n) c2.1 c2.2
  obtain ⟨w, hw, rfl⟩ := i_small (n := 3) c3.1 (by omega)
  have hp10 : p < 10 := by omega
  have ix : (Int32.ofNat p).toNatClampNeg = p := i_ofix (by omega)
  have ibp : ib (Int32.ofNat p) 10 = true := ib_of (by omega) (by omega)
  obtain ⟨R1, k1, k2⟩ := keep8 R
  obtain ⟨C2, R2, g1, g2, g3, g4, g5, g6⟩ := thinkN (N := N) (by omega) h Fr.rf k2
  obtain ⟨R3, b1, b2⟩ := back8 g5
  have hq := (RelD_n g3).2.2.2 p (by rw [g6, en]; exact hp)
  have fin : ∀ k, k < 7 → X7_then (Int32.ofNat N) (Int32.ofNat p) (Int32.ofNat w) C = some (C2 3 (10 * 1 + p) k, C2) → X8_then (Int32.ofNat N) (Int32.ofNat p) (Int32.ofNat w) R = some (R2 20 0 (16 + 8 * p + k), R3) → ∃ (res : Int32) (C' R' : Mem), X7_then (Int32.ofNat N) (Int32.ofNat p) (Int32.ofNat w) C = some (res, C') ∧ X8_then (Int32.ofNat N) (Int32.ofNat p) (Int32.ofNat w) R = some (res, R') ∧ Rel C' R' := by
    intro k hk e1 e2
    exact ⟨_, C2, R3, e1, by rw [pot_rd g3 hq hk]; exact e2, Rel_TH g4 (ThB_Fr b2) h⟩
  rcases (show w = 0 ∨ w = 1 ∨ w = 2 by omega) with rfl | rfl | rfl
  · refine fin 4 (by omega) ?_ ?_
    · unfold X7_then; rw [if_neg (by rw [is7_60]; exact not_not_intro c1), if_neg (by rw [has7 n1 n2]; exact not_not_intro c2), if_neg (by rw [is7_2]; exact not_not_intro c3)]
      refine bs2 g1 fun P P1 P2 => ?_
      rw [P1, P2, if_pos (show 1 < 3 by decide), if_pos ibp, if_pos (show Int32.ofNat 0 = 0 by decide), ix]
    · unfold X8_then; rw [if_neg (by rw [in8_0_60]; exact not_not_intro c1), if_neg (by rw [pot8 n1 n3]; exact not_not_intro c2), if_neg (by rw [in8_0_2]; exact not_not_intro c3)]
      rw [k1, bs, g2, bs, if_pos (show Int32.ofNat 0 = 0 by decide)]
      unfold X8_then_J68
      rw [o8_4 hp10, bs, b1]
      rfl
  · refine fin 6 (by omega) ?_ ?_
    · unfold X7_then; rw [if_neg (by rw [is7_60]; exact not_not_intro c1), if_neg (by rw [has7 n1 n2]; exact not_not_intro c2), if_neg (by rw [is7_2]; exact not_not_intro c3)]
      refine bs2 g1 fun P P1 P2 => ?_
      rw [P1, P2, if_pos (show 1 < 3 by decide), if_pos ibp, if_neg (show ¬ Int32.ofNat 1 = 0 by decide), if_pos (show Int32.ofNat 1 = 1 by decide), ix]
    · unfold X8_then; rw [if_neg (by rw [in8_0_60]; exact not_not_intro c1), if_neg (by rw [pot8 n1 n3]; exact not_not_intro c2), if_neg (by rw [in8_0_2]; exact not_not_intro c3)]
      rw [k1, bs, g2, bs, if_neg (show ¬ Int32.ofNat 1 = 0 by decide), if_pos (show Int32.ofNat 1 = 1 by decide)]
      unfold X8_then_J68
      rw [o8_6 hp10, bs, b1]
      rfl
  · refine fin 2 (by omega) ?_ ?_
    · unfold X7_then; rw [if_neg (by rw [is7_60]; exact not_not_intro c1), if_neg (by rw [has7 n1 n2]; exact not_not_intro c2), if_neg (by rw [is7_2]; exact not_not_intro c3)]
      refine bs2 g1 fun P P1 P2 => ?_
      rw [P1, P2, if_pos (show 1 < 3 by decide), if_pos ibp, if_neg (show ¬ Int32.ofNat 2 = 0 by decide), if_neg (show ¬ Int32.ofNat 2 = 1 by decide), ix]
    · unfold X8_then; rw [if_neg (by rw [in8_0_60]; exact not_not_intro c1), if_neg (by rw [pot8 n1 n3]; exact not_not_intro c2), if_neg (by rw [in8_0_2]; exact not_not_intro c3)]
      rw [k1, bs, g2, bs, if_neg (show ¬ Int32.ofNat 2 = 0 by decide), if_neg (show ¬ Int32.ofNat 2 = 1 by decide)]
      unfold X8_then_J68
      rw [o8_2 hp10, bs, b1]
      rfl
theorem eq_shelf (a1 a2 : Int32) : EqP Rel (X7_shelf a1 a2) (X8_shelf a1 a2) := by
  intro C R h
  by_cases c1 : ¬ (0 ≤ a1.toInt ∧ a1.toInt ≤ 4)
  · refine bad 1 (by omega) (by omega) h ?_ ?_
    · unfold X7_shelf
      rw [if_pos ((isHouse7 _).mpr c1)]
      exact bind_some2
    · unfold X8_shelf
      rw [if_pos ((isHouse8 _).mpr c1)]
      exact bind_some2
  replace c1 := Decidable.not_not.mp c1
  by_cases c2 : ¬ (0 ≤ a2.toInt ∧ a2.toInt ≤ 60)
  · refine bad 1 (by omega) (by omega) h ?_ ?_
    · unfold X7_shelf
      rw [if_neg (by rw [isHouse7]; exact not_not_intro c1), if_pos ((is7_60 _).mpr c2)]
      exact bind_some2
    · unfold X8_shelf
      rw [if_neg (by rw [isHouse8]; exact not_not_intro c1), if_pos ((in8_0_60 _).mpr c2)]
      exact bind_some2
  replace c2 := Decidable.not_not.mp c2
  obtain ⟨N, rfl, N1, N2⟩ := i_get c2 (by omega)
  obtain ⟨R1, k1, k2⟩ := keep8 R
  obtain ⟨C2, R2, g1, g2, g3, g4, g5, g6⟩ := thinkN (N := N) (by omega) h Fr.rf k2
  obtain ⟨R3, b1, b2⟩ := back8 g5
  refine ⟨Int32.ofNat (stN (pin (R2 20 0) a1) (nP (R2 20 0))) &&& Int32.ofNat (stN (pwh (R2 20 0)) (nP (R2 20 0))), C2, R3, ?_, ?_, Rel_TH g4 (ThB_Fr b2) h⟩
  · unfold X7_shelf; rw [if_neg (by rw [isHouse7]; exact not_not_intro c1), if_neg (by rw [is7_60]; exact not_not_intro c2)]
    refine bs2 g1 fun P P1 P2 => ?_
    rw [P1, P2, if_pos (show 1 < 3 by decide), pots7 _ g3, bs, with7 g3]
    rfl
  · unfold X8_shelf; rw [if_neg (by rw [isHouse8]; exact not_not_intro c1), if_neg (by rw [in8_0_60]; exact not_not_intro c2)]
    rw [k1, bs, g2, bs, setH8 g3 c1, bs, set7_8 g3, bs, b1]
    rfl
theorem rich_L {C R : Mem} {v2 w2 : Int32} (h : RelD 1 C (R 20 0)) : ∀ (m q fu fu' : Nat) (best most : Int32), q + m = 5 → m < fu → m < fu' → ∃ b' m', X7_richest_L38 fu v2 1 best most (Int32.ofNat q) C = some (b', m') ∧ X8_richest_L45 fu' w2 best most (Int32.ofNat q) R = some (b', m') := by
  intro m
  induction m with
  | zero =>
    intro q fu fu' best most hq hf hf'
    obtain ⟨fu, rfl⟩ : ∃ g, fu = g + 1 := ⟨fu - 1, by omega⟩
    obtain ⟨fu', rfl⟩ : ∃ g, fu' = g + 1 := ⟨fu' - 1, by omega⟩
    obtain rfl : q = 5 := by omega
    exact ⟨best, most, by rw [X7_richest_L38, if_neg (by decide)], by rw [X8_richest_L45, if_neg (by decide)]⟩
  | succ m ih =>
    intro q fu fu' best most hq hf hf'
    obtain ⟨fu, rfl⟩ : ∃ g, fu = g + 1 := ⟨fu - 1, by omega⟩
    obtain ⟨fu', rfl⟩ : ∃ g, fu' = g + 1 := ⟨fu' - 1, by omega⟩
    have lt : Int32.ofNat q < 5 := by rw [show (5 : Int32) = Int32.ofNat 5 from rfl, i_ltn (by omega) (by omega)]; omega
    obtain ⟨S, hS⟩ : ∃ S, S = smN (fun p => if R 20 0 (16 + 8 * p + 2) = Int32.ofNat q then R 20 0 (16 + 8 * p + 6) else 0) (nP (R 20 0)) := ⟨_, rfl⟩
    have s7 : X7_richest_L38 (fu + 1) v2 1 best most (Int32.ofNat q) C = if most < S then X7_richest_L38 fu v2 1 (Int32.ofNat q) S (Int32.ofNat (q + 1)) C else X7_richest_L38 fu v2 1 best most (Int32.ofNat (q + 1)) C := by
      rw [X7_richest_L38, if_pos lt, handsIn7 _ h, bs, i_succ, ← hS]
    have s8 : X8_richest_L45 (fu' + 1) w2 best most (Int32.ofNat q) R = if most < S then X8_richest_L45 fu' w2 (Int32.ofNat q) S (Int32.ofNat (q + 1)) R else X8_richest_L45 fu' w2 best most (Int32.ofNat (q + 1)) R := by
      rw [X8_richest_L45, if_pos lt, handsIn8 _ h, bs, i_succ, ← hS]
    rw [s7, s8]
    by_cases hm : most < S
    · rw [if_pos hm, if_pos hm]
      exact ih (q + 1) fu fu' _ _ (by omega) (by omega) (by omega)
    · rw [if_neg hm, if_neg hm]
      exact ih (q + 1) fu fu' _ _ (by omega) (by omega) (by omega)
theorem eq_richest (a1 a2 : Int32) : EqP Rel (X7_richest a1 a2) (X8_richest a1 a2) := by
  intro C R h
  by_cases c1 : ¬ (0 ≤ a1.toInt ∧ a1.toInt ≤ 60)
  · refine bad 1 (by omega) (by omega) h ?_ ?_
    · unfold X7_richest
      rw [if_pos ((is7_60 _).mpr c1)]
      exact bind_some2
    · unfold X8_richest
      rw [if_pos ((in8_0_60 _).mpr c1)]
      exact bind_some2
  replace c1 := Decidable.not_not.mp c1
  by_cases c2 : ¬ (0 ≤ a2.toInt ∧ a2.toInt ≤ 1)
  · refine bad 1 (by omega) (by omega) h ?_ ?_
    · unfold X7_richest
      rw [if_neg (by rw [is7_60]; exact not_not_intro c1), if_pos ((is7_1 _).mpr c2)]
      exact bind_some2
    · unfold X8_richest
      rw [if_neg (by rw [in8_0_60]; exact not_not_intro c1), if_pos ((in8_0_1 _).mpr c2)]
      exact bind_some2
  replace c2 := Decidable.not_not.mp c2
  obtain ⟨N, rfl, N1, N2⟩ := i_get c1 (by omega)
  obtain ⟨R1, k1, k2⟩ := keep8 R
  obtain ⟨C2, R2, g1, g2, g3, g4, g5, g6⟩ := thinkN (N := N) (by omega) h Fr.rf k2
  obtain ⟨R3, b1, b2⟩ := back8 g5
  obtain ⟨bb, mm, r1, r2⟩ := rich_L (v2 := a2) (w2 := a2) g3 5 0 400 400 0 (-1) rfl (by omega) (by omega)
  refine ⟨if a2 = 0 then bb else mm, C2, R3, ?_, ?_, Rel_TH g4 (ThB_Fr b2) h⟩
  · unfold X7_richest; rw [if_neg (by rw [is7_60]; exact not_not_intro c1), if_neg (by rw [is7_1]; exact not_not_intro c2)]
    refine bs2 g1 fun P P1 P2 => ?_
    rw [P1, P2, if_pos (show 1 < 3 by decide)]
    refine bs2 r1 fun P P1 P2 => ?_
    rw [P1, P2]
    split <;> rfl
  · unfold X8_richest; rw [if_neg (by rw [in8_0_60]; exact not_not_intro c1), if_neg (by rw [in8_0_1]; exact not_not_intro c2)]
    rw [k1, bs, g2, bs]
    refine bs2 r2 fun P P1 P2 => ?_
    rw [b1, bs, P1, P2]
    split <;> rfl
theorem eq_breaks (a1 : Int32) : EqP Rel (X7_breaks a1) (X8_breaks a1) := by
  intro C R h
  by_cases c1 : ¬ (0 ≤ a1.toInt ∧ a1.toInt ≤ 60)
  · refine bad 1 (by omega) (by omega) h ?_ ?_
    · unfold X7_breaks
      rw [if_pos ((is7_60 _).mpr c1)]
      exact bind_some2
    · unfold X8_breaks
      rw [if_pos ((in8_0_60 _).mpr c1)]
      exact bind_some2
  replace c1 := Decidable.not_not.mp c1
  obtain ⟨N, rfl, N1, N2⟩ := i_get c1 (by omega)
  obtain ⟨R1, k1, k2⟩ := keep8 R
  obtain ⟨C2, R2, g1, g2, g3, g4, g5, g6⟩ := thinkN (N := N) (by omega) h Fr.rf k2
  obtain ⟨R3, b1, b2⟩ := back8 g5
  have h2 : RelD 0 C2 (R 20 0) := RelD_TH (Or.inl rfl) g4 (fun _ _ => rfl) h.1
  have h1 : RelD 0 C (R1 20 0) := by rw [k2.2]; exact h.1
  refine ⟨J6_bitCount_0f7a4 (Int32.ofNat (stN (pin (R2 20 0) (-1)) (nP (R2 20 0)))) - J6_bitCount_0f7a4 (Int32.ofNat (stN (pin (R 20 0) (-1)) (nP (R 20 0)))), C2, R3, ?_, ?_, Rel_TH g4 (ThB_Fr b2) h⟩
  · unfold X7_breaks; rw [if_neg (by rw [is7_60]; exact not_not_intro c1)]
    refine bs2 g1 fun P P1 P2 => ?_
    rw [P1, P2, if_pos (show 1 < 3 by decide), pots7 _ g3, bs, pots7 _ h2]
    rfl
  · unfold X8_breaks; rw [if_neg (by rw [in8_0_60]; exact not_not_intro c1)]
    rw [k1, bs, set6_8 h1, bs, bits_ok _ (stN_10 _ (RelD_n h1).1), bs, g2, bs, set6_8 g3, bs, bits_ok _ (stN_10 _ (RelD_n g3).1), bs, b1, k2.2]
    rfl
