theorem when_L {C0 R0 : Mem} {p : Nat} {had : Int32} (hp10 : p < 10) : ∀ (m n fu fu' : Nat) (C R : Mem), n + m = 60 → m + 1 < fu → m + 1 < fu' → Fr TH C0 C → ThR R0 R → RelD 1 C (R 20 0) → p < nP (R 20 0) → ¬ had < R 20 0 (16 + 8 * p + 6) → (∃ k C' R', X7_when_L38 fu (Int32.ofNat p) 1 had (Int32.ofNat (n + 1)) C = some (.inr (k, C')) ∧ X8_when_L28 fu' (Int32.ofNat p) had (Int32.ofNat n) R = some (k, R') ∧ had < R' 20 0 (16 + 8 * p + 6) ∧ Fr TH C0 C' ∧ ThR R0 R') ∨ (∃ k C' R', X7_when_L38 fu (Int32.ofNat p) 1 had (Int32.ofNat (n + 1)) C = some (.inl C') ∧ X8_when_L28 fu' (Int32.ofNat p) had (Int32.ofNat n) R = some (k, R') ∧ ¬ had < R' 20 0 (16 + 8 * p + 6) ∧ Fr TH C0 C' ∧ ThR R0 R') := by
  intro m
  induction m with
  | zero =>
    intro n fu fu' C R hn hf hf' hC hR h hp hh
    obtain ⟨fu, rfl⟩ : ∃ g, fu = g + 1 := ⟨fu - 1, by omega⟩
    obtain ⟨fu', rfl⟩ : ∃ g, fu' = g + 1 := ⟨fu' - 1, by omega⟩
    obtain rfl : n = 60 := by omega
    refine Or.inr ⟨60, C, R, ?_, ?_, hh, hC, hR⟩
    · rw [X7_when_L38, if_pos (by decide)]
    · rw [X8_when_L28, if_neg (by decide)]
      rfl
  | succ m ih =>
    intro n fu fu' C R hn hf hf' hC hR h hp hh
    obtain ⟨fu, rfl⟩ : ∃ g, fu = g + 1 := ⟨fu - 1, by omega⟩
    obtain ⟨fu', rfl⟩ : ∃ g, fu' = g + 1 := ⟨fu' - 1, by omega⟩
    obtain ⟨C1, R1, g1, g2, g3, g4, g5, g6⟩ := thinkY (N := 1) (by omega) hC hR h
    have hq := (RelD_n g3).2.2.2 p (by rw [g6]; exact hp)
    have e6 : C1 3 (10 * 1 + p) 6 = R1 20 0 (16 + 8 * p + 6) := pot_rd g3 hq (by omega)
    have s7 : X7_when_L38 (fu + 1) (Int32.ofNat p) 1 had (Int32.ofNat (n + 1)) C = if had < R1 20 0 (16 + 8 * p + 6) then some (.inr (Int32.ofNat (n + 1), C1)) else X7_when_L38 fu (Int32.ofNat p) 1 had (Int32.ofNat (n + 1 + 1)) C1 := by
      rw [X7_when_L38, if_neg (by rw [show (60 : Int32) = Int32.ofNat 60 from rfl, i_ltn (by omega) (by omega)]; omega), show X1_passYears 1 1 C = _ from g1, bs, if_pos (ib_of hp10 (by omega)), i_ofix (by omega), e6, i_succ]
    have s8 : X8_when_L28 (fu' + 1) (Int32.ofNat p) had (Int32.ofNat n) R = X8_when_L28 fu' (Int32.ofNat p) had (Int32.ofNat (n + 1)) R1 := by
      rw [X8_when_L28, if_pos (by rw [show (60 : Int32) = Int32.ofNat 60 from rfl, i_ltn (by omega) (by omega)]; omega), o8_6 hp10, bs, if_neg hh, show X8_yearsGo 1 R = _ from g2, bs, i_succ]
    rw [s7, s8]
    by_cases hb : had < R1 20 0 (16 + 8 * p + 6)
    · refine Or.inl ⟨Int32.ofNat (n + 1), C1, R1, by rw [if_pos hb], ?_, hb, g4, g5⟩
      obtain ⟨fu', rfl⟩ : ∃ g, fu' = g + 1 := ⟨fu' - 1, by omega⟩
      rw [X8_when_L28, o8_6 hp10, bs, if_pos hb]
      split <;> rfl
    · rw [if_neg hb]
      exact ih (n + 1) fu fu' C1 R1 (by omega) (by omega) (by omega) g4 g5 g3 (by rw [g6]; exact hp) hb
theorem eq_when (a1 : Int32) : EqP Rel (X7_when a1) (X8_when a1) := by
  intro C R h
  obtain ⟨n, n1, n2, n3, -⟩ := id h.1
  by_cases c1 : ¬ (0 ≤ a1.toInt ∧ a1.toInt < n)
  · refine bad 1 (by omega) (by omega) h ?_ ?_
    · unfold X7_when
      rw [if_pos ((has7 n1 n2 _).mpr c1)]
      exact bind_some2
    · unfold X8_when
      rw [if_pos ((pot8 n1 n3 _).mpr c1)]
      exact bind_some2
  replace c1 := Decidable.not_not.mp c1
  have en : nP (R 20 0) = n := by
    unfold nP
    rw [n3, i_of (by omega)]
    rfl
  obtain ⟨p, hp, rfl⟩ := i_small (n := n) c1.1 c1.2
  have hp10 : p < 10 := by omega
  have ix : (Int32.ofNat p).toNatClampNeg = p := i_ofix (by omega)
  have ibp : ib (Int32.ofNat p) 10 = true := ib_of (by omega) (by omega)
  obtain ⟨R1, k1, k2⟩ := keep8 R
  obtain ⟨C2, -, g1, g3, g4⟩ := think0 h Fr.rf k2
  have hq := (RelD_n h.1).2.2.2 p (by rw [en]; exact hp)
  have e6 : C2 3 (10 * 0 + p) 6 = R 20 0 (16 + 8 * p + 6) := by
    rw [g4 3 _ 6 (nTH3 (by omega))]
    exact pot_rd h.1 hq (by omega)
  have f6 : R1 20 0 (16 + 8 * p + 6) = R 20 0 (16 + 8 * p + 6) := by rw [k2.2]
  have s7 : X7_when (Int32.ofNat p) C = (X7_when_L38 400 (Int32.ofNat p) 1 (R 20 0 (16 + 8 * p + 6)) (Int32.ofNat (0 + 1)) C2).bind fun q5 => match q5 with
      | .inl q5 => ((X7_fail 2 q5).bind fun q6 => (some (q6.1, q6.2)))
      | .inr q5 => some q5 := by
    unfold X7_when; rw [if_neg (by rw [has7 n1 n2]; exact not_not_intro c1)]
    refine bs2 g1 fun P P1 P2 => ?_
    rw [P1, P2, if_pos (show 1 < 3 by decide), if_pos ibp, ix, e6]
    rfl
  have s8 : X8_when (Int32.ofNat p) R = (X8_when_L28 400 (Int32.ofNat p) (R 20 0 (16 + 8 * p + 6)) (Int32.ofNat 0) R1).bind fun q5 => X8_when_J56 (Int32.ofNat p) (R 20 0 (16 + 8 * p + 6)) q5.1 q5.2 := by
    unfold X8_when; rw [if_neg (by rw [pot8 n1 n3]; exact not_not_intro c1)]
    rw [k1, bs, o8_6 hp10, bs, f6]
    rfl
  rcases when_L (C0 := C) (R0 := R) (had := R 20 0 (16 + 8 * p + 6)) hp10 60 0 400 400 C2 R1 rfl (by omega) (by omega) g4 k2.1 g3 (by rw [think_n k2, en]; exact hp) (by rw [f6, i_lt]; omega) with ⟨k, C', R', r1, r2, r3, r4, r5⟩ | ⟨k, C', R', r1, r2, r3, r4, r5⟩
  · obtain ⟨R3, b1, b2⟩ := back8 r5
    refine ⟨k, C', R3, by rw [s7, r1, bs], ?_, Rel_TH r4 (ThB_Fr b2) h⟩
    rw [s8]
    refine bs2 r2 fun P P1 P2 => ?_
    unfold X8_when_J56 X8_when_J72
    rw [P1, P2, o8_6 hp10, bs, if_pos r3, b1, bs, if_neg (by decide)]
  · obtain ⟨R3, b1, b2⟩ := back8 r5
    refine bad2 2 (by omega) (by omega) (Rel_TH r4 (ThB_Fr b2) h) ?_ ?_
    · rw [s7, r1, bs]
      exact bind_some2
    · rw [s8]
      refine bs2 r2 fun P P1 P2 => ?_
      unfold X8_when_J56 X8_when_J72
      rw [P1, P2, o8_6 hp10, bs, if_neg r3, b1, bs, if_pos (by decide)]
      exact bind_some2
theorem use_L {C R : Mem} (h : Rel C R) {p N : Nat} (hp : p < nP (R 20 0)) (hN : N < 400) : ∀ (m u fu fu' : Nat) (C1 R1 : Mem), u + m = 10 → m < fu → m < fu' → Fr TH C C1 → ThB R R1 → (∃ k C' R', X7_use_L42 fu (Int32.ofNat p) (Int32.ofNat N) (R 20 0 (16 + 8 * p + 6)) (Int32.ofNat u) C1 = some (.inr (k, C')) ∧ X8_use_L32 fu' (Int32.ofNat p) (Int32.ofNat N) (Int32.ofNat u) R1 = some (.inr (k, R')) ∧ Fr TH C C' ∧ ThB R R') ∨ (∃ C' R', X7_use_L42 fu (Int32.ofNat p) (Int32.ofNat N) (R 20 0 (16 + 8 * p + 6)) (Int32.ofNat u) C1 = some (.inl C') ∧ X8_use_L32 fu' (Int32.ofNat p) (Int32.ofNat N) (Int32.ofNat u) R1 = some (.inl R') ∧ Fr TH C C' ∧ ThB R R') := by
  intro m
  induction m with
  | zero =>
    intro u fu fu' C1 R1 hu hf hf' hC hR
    obtain ⟨fu, rfl⟩ : ∃ g, fu = g + 1 := ⟨fu - 1, by omega⟩
    obtain ⟨fu', rfl⟩ : ∃ g, fu' = g + 1 := ⟨fu' - 1, by omega⟩
    obtain rfl : u = 10 := by omega
    refine Or.inr ⟨C1, R1, ?_, ?_, hC, hR⟩
    · rw [X7_use_L42, if_pos (by decide)]
    · rw [X8_use_L32, if_neg (by decide)]
  | succ m ih =>
    intro u fu fu' C1 R1 hu hf hf' hC hR
    obtain ⟨fu, rfl⟩ : ∃ g, fu = g + 1 := ⟨fu - 1, by omega⟩
    obtain ⟨fu', rfl⟩ : ∃ g, fu' = g + 1 := ⟨fu' - 1, by omega⟩
    have hp10 : p < 10 := by
      have := (RelD_n h.1).1
      omega
    obtain ⟨C2, -, g1, g3, g4⟩ := think0 h hC hR
    have hq := (RelD_n g3).2.2.2 p (by rw [think_n hR]; exact hp)
    have s3 := RelD_pot (k := 3) (v := Int32.ofNat u) hq (by omega) (show rngP 3 _ from ⟨by rw [i_of (by omega)]; omega, by rw [i_of (by omega)]; omega⟩) g3
    rw [← up_row] at s3
    obtain ⟨C3, R3, k1, k2, k3, k4, k5, k6⟩ := thinkY (R := R) hN (g4.tr (Fr.up (v := Int32.ofNat u) (k := 3) (show TH 3 (10 * 1 + p) by unfold TH; omega))) (ThR_up hR.1 (by omega)) s3
    obtain ⟨R4, b1, b2⟩ := back8 k5
    have n3 : nP (R3 20 0) = nP (R 20 0) := by rw [k6, nP_cg (D := R1 20 0) (up3_k (by omega)), think_n hR]
    have e6 : C3 3 (10 * 1 + p) 6 = R3 20 0 (16 + 8 * p + 6) := pot_rd k3 ((RelD_n k3).2.2.2 p (by rw [n3]; exact hp)) (by omega)
    have s7 : X7_use_L42 (fu + 1) (Int32.ofNat p) (Int32.ofNat N) (R 20 0 (16 + 8 * p + 6)) (Int32.ofNat u) C1 = if R 20 0 (16 + 8 * p + 6) < R3 20 0 (16 + 8 * p + 6) then some (.inr (Int32.ofNat u, C3)) else X7_use_L42 fu (Int32.ofNat p) (Int32.ofNat N) (R 20 0 (16 + 8 * p + 6)) (Int32.ofNat (u + 1)) C3 := by
      rw [X7_use_L42, if_neg (by rw [show (9 : Int32) = Int32.ofNat 9 from rfl, i_ltn (by omega) (by omega)]; omega)]
      refine bs2 g1 fun P P1 P2 => ?_
      rw [P1, P2, if_pos (show 1 < 3 by decide), if_pos (ib_of hp10 (by omega)), i_ofix (by omega), k1, bs, e6, i_succ]
    have s8 : X8_use_L32 (fu' + 1) (Int32.ofNat p) (Int32.ofNat N) (Int32.ofNat u) R1 = if R 20 0 (16 + 8 * p + 6) < R3 20 0 (16 + 8 * p + 6) then some (.inr (Int32.ofNat u, R4)) else X8_use_L32 fu' (Int32.ofNat p) (Int32.ofNat N) (Int32.ofNat (u + 1)) R4 := by
      rw [X8_use_L32, if_pos (by rw [show (10 : Int32) = Int32.ofNat 10 from rfl, i_ltn (by omega) (by omega)]; omega), s8_3 hp10, bs, k2, bs, o8_6 hp10, bs, b1, bs, o8_6 hp10, bs, b2.2, i_succ]
    rw [s7, s8]
    by_cases hb : R 20 0 (16 + 8 * p + 6) < R3 20 0 (16 + 8 * p + 6)
    · rw [if_pos hb, if_pos hb]
      exact Or.inl ⟨_, C3, R4, rfl, rfl, k4, b2⟩
    · rw [if_neg hb, if_neg hb]
      exact ih (u + 1) fu fu' C3 R4 (by omega) (by omega) (by omega) k4 b2
theorem eq_use (a1 a2 : Int32) : EqP Rel (X7_use a1 a2) (X8_use a1 a2) := by
  intro C R h
  obtain ⟨n, n1, n2, n3, -⟩ := id h.1
  by_cases c1 : ¬ (0 ≤ a1.toInt ∧ a1.toInt < n)
  · refine bad 1 (by omega) (by omega) h ?_ ?_
    · unfold X7_use
      rw [if_pos ((has7 n1 n2 _).mpr c1)]
      exact bind_some2
    · unfold X8_use
      rw [if_pos ((pot8 n1 n3 _).mpr c1)]
      exact bind_some2
  replace c1 := Decidable.not_not.mp c1
  by_cases c2 : ¬ (0 ≤ a2.toInt ∧ a2.toInt ≤ 60)
  · refine bad 1 (by omega) (by omega) h ?_ ?_
    · unfold X7_use
      rw [if_neg (by rw [has7 n1 n2]; exact not_not_intro c1), if_pos ((is7_60 _).mpr c2)]
      exact bind_some2
    · unfold X8_use
      rw [if_neg (by rw [pot8 n1 n3]; exact not_not_intro c1), if_pos ((in8_0_60 _).mpr c2)]
      exact bind_some2
  replace c2 := Decidable.not_not.mp c2
  have en : nP (R 20 0) = n := by
    unfold nP
    rw [n3, i_of (by omega)]
    rfl
  obtain ⟨p, hp, rfl⟩ := i_small (n := n) c1.1 c1.2
  obtain ⟨N, rfl, N1, N2⟩ := i_get c2 (by omega)
  have hp10 : p < 10 := by omega
  have ix : (Int32.ofNat p).toNatClampNeg = p := i_ofix (by omega)
  have ibp : ib (Int32.ofNat p) 10 = true := ib_of (by omega) (by omega)
  obtain ⟨R1, k1, k2⟩ := keep8 R
  have hq := (RelD_n h.1).2.2.2 p (by rw [en]; exact hp)
  have e6 : C 3 (10 * 0 + p) 6 = R 20 0 (16 + 8 * p + 6) := pot_rd h.1 hq (by omega)
  have s7 : X7_use (Int32.ofNat p) (Int32.ofNat N) C = (X7_use_L42 400 (Int32.ofNat p) (Int32.ofNat N) (R 20 0 (16 + 8 * p + 6)) (Int32.ofNat 0) C).bind fun q6 => match q6 with
      | .inl q6 => ((X7_fail 2 q6).bind fun q7 => (some (q7.1, q7.2)))
      | .inr q6 => some q6 := by
    unfold X7_use; rw [if_neg (by rw [has7 n1 n2]; exact not_not_intro c1), if_neg (by rw [is7_60]; exact not_not_intro c2)]
    rw [if_pos ibp, ix, e6]
    rfl
  have s8 : X8_use (Int32.ofNat p) (Int32.ofNat N) R = (X8_use_L32 400 (Int32.ofNat p) (Int32.ofNat N) (Int32.ofNat 0) R1).bind fun q8 => match q8 with
      | .inl q8 => ((X8_finds 2 q8).bind fun q9 => (some (q9.1, q9.2)))
      | .inr q8 => some q8 := by
    unfold X8_use; rw [if_neg (by rw [pot8 n1 n3]; exact not_not_intro c1), if_neg (by rw [in8_0_60]; exact not_not_intro c2)]
    rw [k1, bs]
    rfl
  rcases use_L h (by rw [en]; exact hp) (N := N) (by omega) 10 0 400 400 C R1 rfl (by omega) (by omega) Fr.rf k2 with ⟨k, C', R', r1, r2, r4, r5⟩ | ⟨C', R', r1, r2, r4, r5⟩
  · exact ⟨k, C', R', by rw [s7, r1, bs], by rw [s8, r2, bs], Rel_TH r4 (ThB_Fr r5) h⟩
  · refine bad2 2 (by omega) (by omega) (Rel_TH r4 (ThB_Fr r5) h) ?_ ?_
    · rw [s7, r1, bs]
      exact bind_some2
    · rw [s8, r2, bs]
      exact bind_some2
theorem moved_eq {C R C1 R1 : Mem} {p q N : Nat} (h : Rel C R) (hC : Fr TH C C1) (hR : ThB R R1) (hp : p < nP (R 20 0)) (hq : q < 5) (hN : N < 400) : ∃ C2 R2, X7_whenMoved (Int32.ofNat p) (Int32.ofNat q) (Int32.ofNat N) C1 = some (10 * 1 + p, C2) ∧ (if R1 20 0 (16 + 8 * p + 2) = Int32.ofNat q then X8_yearsGo (Int32.ofNat N) R1 else (X8_moves (Int32.ofNat p) (Int32.ofNat q) R1).bind (fun r => X8_yearsGo (Int32.ofNat N) r)) = some R2 ∧ RelD 1 C2 (R2 20 0) ∧ Fr TH C C2 ∧ ThR R R2 ∧ nP (R2 20 0) = nP (R 20 0) := by
  have hp10 : p < 10 := by
    have := (RelD_n h.1).1
    omega
  obtain ⟨C2, -, g1, g3, g4⟩ := think0 h hC hR
  have hq1 := (RelD_n g3).2.2.2 p (by rw [think_n hR]; exact hp)
  have e2 : C2 3 (10 * 1 + p) 2 = R1 20 0 (16 + 8 * p + 2) := pot_rd g3 hq1 (by omega)
  have s7 : X7_whenMoved (Int32.ofNat p) (Int32.ofNat q) (Int32.ofNat N) C1 = if R1 20 0 (16 + 8 * p + 2) = Int32.ofNat q then X7_whenMoved_J30 (Int32.ofNat N) 1 (10 * 1 + p) C2 else (X3_goTo (10 * 1 + p) (Int32.ofNat q) C2).bind fun q4 => X7_whenMoved_J30 (Int32.ofNat N) 1 (10 * 1 + p) q4 := by
    unfold X7_whenMoved
    refine bs2 g1 fun P P1 P2 => ?_
    rw [P1, P2, if_pos (show 1 < 3 by decide), if_pos (ib_of hp10 (by omega)), i_ofix (by omega), e2]
  rw [s7]
  by_cases hb : R1 20 0 (16 + 8 * p + 2) = Int32.ofNat q
  · rw [if_pos hb, if_pos hb]
    obtain ⟨C3, R3, k1, k2, k3, k4, k5, k6⟩ := thinkY hN g4 hR.1 g3
    refine ⟨C3, R3, ?_, k2, k3, k4, k5, by rw [k6, think_n hR]⟩
    unfold X7_whenMoved_J30
    rw [k1, bs]
  · rw [if_neg hb, if_neg hb]
    obtain ⟨C4, m1, m2, m3⟩ := goTo7 (v := Int32.ofNat q) g3 hq1 ⟨by rw [i_of (by omega)]; omega, by rw [i_of (by omega)]; omega⟩
    obtain ⟨R4, l1, l2, l3⟩ := moves8 (R := R1) (v := Int32.ofNat q) hp10
    obtain ⟨C3, R3, k1, k2, k3, k4, k5, k6⟩ := thinkY (R := R) (R1 := R4) hN (g4.tr (m3.mono (fun f i hh => by unfold TH; omega))) (ThR_20 hR.1 l3 (fun k hk => by rw [l2, moveD_far (by omega)])) (by rw [l2]; exact m2)
    refine ⟨C3, R3, ?_, by rw [l1, bs, k2], k3, k4, k5, ?_⟩
    · rw [m1, bs]
      unfold X7_whenMoved_J30
      rw [k1, bs]
    · rw [k6, nP_cg (D := R1 20 0) (by rw [l2, moveD_far (by omega)]), think_n hR]
theorem place_L {C R : Mem} (h : Rel C R) {p N : Nat} {w : Int32} (hp : p < nP (R 20 0)) (hN : N < 400) : ∀ (m q fu fu' : Nat) (best most liked : Int32) (C1 R1 : Mem), q + m = 5 → m < fu → m < fu' → Fr TH C C1 → ThB R R1 → ∃ b' m' C' R', X7_place_L68 fu (Int32.ofNat p) (Int32.ofNat N) w best most liked (Int32.ofNat q) C1 = some (b', m', C') ∧ X8_place_L66 fu' (Int32.ofNat p) (Int32.ofNat N) w best most liked (Int32.ofNat q) R1 = some (b', m', R') ∧ Fr TH C C' ∧ ThB R R' := by
  intro m
  induction m with
  | zero =>
    intro q fu fu' best most liked C1 R1 hq hf hf' hC hR
    obtain ⟨fu, rfl⟩ : ∃ g, fu = g + 1 := ⟨fu - 1, by omega⟩
    obtain ⟨fu', rfl⟩ : ∃ g, fu' = g + 1 := ⟨fu' - 1, by omega⟩
    obtain rfl : q = 5 := by omega
    exact ⟨best, most, C1, R1, by rw [X7_place_L68, if_neg (by decide)], by rw [X8_place_L66, if_neg (by decide)], hC, hR⟩
  | succ m ih =>
    intro q fu fu' best most liked C1 R1 hq hf hf' hC hR
    obtain ⟨fu, rfl⟩ : ∃ g, fu = g + 1 := ⟨fu - 1, by omega⟩
    obtain ⟨fu', rfl⟩ : ∃ g, fu' = g + 1 := ⟨fu' - 1, by omega⟩
    have hp10 : p < 10 := by
      have := (RelD_n h.1).1
      omega
    have lt : Int32.ofNat q < 5 := by rw [show (5 : Int32) = Int32.ofNat 5 from rfl, i_ltn (by omega) (by omega)]; omega
    obtain ⟨C2, R2, g1, g2, g3, g4, g5, g6⟩ := moved_eq (q := q) (N := N) h hC hR hp (by omega) hN
    obtain ⟨R3, b1, b2⟩ := back8 g5
    have hq1 := (RelD_n g3).2.2.2 p (by rw [g6]; exact hp)
    have e6 : C2 3 (10 * 1 + p) 6 = R2 20 0 (16 + 8 * p + 6) := pot_rd g3 hq1 (by omega)
    have e4 : C2 3 (10 * 1 + p) 4 = R2 20 0 (16 + 8 * p + 4) := pot_rd g3 hq1 (by omega)
    have s7 : X7_place_L68 (fu + 1) (Int32.ofNat p) (Int32.ofNat N) w best most liked (Int32.ofNat q) C1 = if most < R2 20 0 (16 + 8 * p + 6) then X7_place_L68 fu (Int32.ofNat p) (Int32.ofNat N) w (Int32.ofNat q) (R2 20 0 (16 + 8 * p + 6)) (R2 20 0 (16 + 8 * p + 4)) (Int32.ofNat (q + 1)) C2 else if R2 20 0 (16 + 8 * p + 6) = most then (if liked < R2 20 0 (16 + 8 * p + 4) then X7_place_L68 fu (Int32.ofNat p) (Int32.ofNat N) w (Int32.ofNat q) (R2 20 0 (16 + 8 * p + 6)) (R2 20 0 (16 + 8 * p + 4)) (Int32.ofNat (q + 1)) C2 else X7_place_L68 fu (Int32.ofNat p) (Int32.ofNat N) w best most liked (Int32.ofNat (q + 1)) C2) else X7_place_L68 fu (Int32.ofNat p) (Int32.ofNat N) w best most liked (Int32.ofNat (q + 1)) C2 := by
      rw [X7_place_L68, if_pos lt]
      refine bs2 g1 fun P P1 P2 => ?_
      rw [P1, P2, if_pos (show 10 * 1 + p < 30 by omega), e6, e4, i_succ]
    have s8 : X8_place_L66 (fu' + 1) (Int32.ofNat p) (Int32.ofNat N) w best most liked (Int32.ofNat q) R1 = if most < R2 20 0 (16 + 8 * p + 6) then X8_place_L66 fu' (Int32.ofNat p) (Int32.ofNat N) w (Int32.ofNat q) (R2 20 0 (16 + 8 * p + 6)) (R2 20 0 (16 + 8 * p + 4)) (Int32.ofNat (q + 1)) R3 else if R2 20 0 (16 + 8 * p + 6) = most then (if liked < R2 20 0 (16 + 8 * p + 4) then X8_place_L66 fu' (Int32.ofNat p) (Int32.ofNat N) w (Int32.ofNat q) (R2 20 0 (16 + 8 * p + 6)) (R2 20 0 (16 + 8 * p + 4)) (Int32.ofNat (q + 1)) R3 else X8_place_L66 fu' (Int32.ofNat p) (Int32.ofNat N) w best most liked (Int32.ofNat (q + 1)) R3) else X8_place_L66 fu' (Int32.ofNat p) (Int32.ofNat N) w best most liked (Int32.ofNat (q + 1)) R3 := by
      rw [X8_place_L66, if_pos lt, o8_2 hp10, bs]
      by_cases hb : R1 20 0 (16 + 8 * p + 2) = Int32.ofNat q
      · rw [if_pos hb] at g2
        rw [if_pos hb, g2, bs, o8_6 hp10, bs, o8_4 hp10, bs, b1, bs, i_succ]
      · rw [if_neg hb] at g2
        obtain ⟨R4, l1, -⟩ := moves8 (R := R1) (v := Int32.ofNat q) hp10
        rw [l1, bs] at g2
        rw [if_neg hb, l1, bs, g2, bs, o8_6 hp10, bs, o8_4 hp10, bs, b1, bs, i_succ]
    rw [s7, s8]
    by_cases h1 : most < R2 20 0 (16 + 8 * p + 6)
    · rw [if_pos h1, if_pos h1]
      exact ih (q + 1) fu fu' _ _ _ C2 R3 (by omega) (by omega) (by omega) g4 b2
    · rw [if_neg h1, if_neg h1]
      by_cases h2 : R2 20 0 (16 + 8 * p + 6) = most
      · rw [if_pos h2, if_pos h2]
        by_cases h3 : liked < R2 20 0 (16 + 8 * p + 4)
        · rw [if_pos h3, if_pos h3]
          exact ih (q + 1) fu fu' _ _ _ C2 R3 (by omega) (by omega) (by omega) g4 b2
        · rw [if_neg h3, if_neg h3]
          exact ih (q + 1) fu fu' _ _ _ C2 R3 (by omega) (by omega) (by omega) g4 b2
      · rw [if_neg h2, if_neg h2]
        exact ih (q + 1) fu fu' _ _ _ C2 R3 (by omega) (by omega) (by omega) g4 b2
theorem home_b {b p : Nat} {C : Mem} {D : Nat → Int32} (h : RelD b C D) (hp : p < nP D) : D (16 + 8 * p + 2) = -1 ↔ D (16 + 8 * p + 2) < 0 := by
  have r : inR (D (16 + 8 * p + 2)) (-1) 4 := pot_rg (k := 2) h ((RelD_n h).2.2.2 p hp) (by omega)
  refine ⟨fun e => by rw [e]; decide, fun hz => ?_⟩
  rw [i_lt, i_z] at hz
  rw [i_eq]
  have := r.1
  show _ = (-1 : Int)
  omega
theorem eq_place (a1 a2 a3 : Int32) : EqP Rel (X7_place a1 a2 a3) (X8_place a1 a2 a3) := by
  intro C R h
  obtain ⟨n, n1, n2, n3, -⟩ := id h.1
  by_cases c1 : ¬ (0 ≤ a1.toInt ∧ a1.toInt < n)
  · refine bad 1 (by omega) (by omega) h ?_ ?_
    · unfold X7_place
      rw [if_pos ((has7 n1 n2 _).mpr c1)]
      exact bind_some2
    · unfold X8_place
      rw [if_pos ((pot8 n1 n3 _).mpr c1)]
      exact bind_some2
  replace c1 := Decidable.not_not.mp c1
  by_cases c2 : ¬ (0 ≤ a2.toInt ∧ a2.toInt ≤ 60)
  · refine bad 1 (by omega) (by omega) h ?_ ?_
    · unfold X7_place
      rw [if_neg (by rw [has7 n1 n2]; exact not_not_intro c1), if_pos ((is7_60 _).mpr c2)]
      exact bind_some2
    · unfold X8_place
      rw [if_neg (by rw [pot8 n1 n3]; exact not_not_intro c1), if_pos ((in8_0_60 _).mpr c2)]
      exact bind_some2
  replace c2 := Decidable.not_not.mp c2
  by_cases c3 : ¬ (0 ≤ a3.toInt ∧ a3.toInt ≤ 1)
  · refine bad 1 (by omega) (by omega) h ?_ ?_
    · unfold X7_place
      rw [if_neg (by rw [has7 n1 n2]; exact not_not_intro c1), if_neg (by rw [is7_60]; exact not_not_intro c2), if_pos ((is7_1 _).mpr c3)]
      exact bind_some2
    · unfold X8_place
      rw [if_neg (by rw [pot8 n1 n3]; exact not_not_intro c1), if_neg (by rw [in8_0_60]; exact not_not_intro c2), if_pos ((in8_0_1 _).mpr c3)]
      exact bind_some2
  replace c3 := Decidable.not_not.mp c3
  have en : nP (R 20 0) = n := by
    unfold nP
    rw [n3, i_of (by omega)]
    rfl
  obtain ⟨p, hp, rfl⟩ := i_small (n := n) c1.1 c1.2
  obtain ⟨N, rfl, N1, N2⟩ := i_get c2 (by omega)
  have hp10 : p < 10 := by omega
  have ix : (Int32.ofNat p).toNatClampNeg = p := i_ofix (by omega)
  have ibp : ib (Int32.ofNat p) 10 = true := ib_of (by omega) (by omega)
  have hq := (RelD_n h.1).2.2.2 p (by rw [en]; exact hp)
  have e2 : C 3 (10 * 0 + p) 2 = R 20 0 (16 + 8 * p + 2) := pot_rd h.1 hq (by omega)
  have hb := home_b h.1 (p := p) (by rw [en]; exact hp)
  by_cases hh : R 20 0 (16 + 8 * p + 2) < 0
  · refine bad 3 (by omega) (by omega) h ?_ ?_
    · unfold X7_place; rw [if_neg (by rw [has7 n1 n2]; exact not_not_intro c1), if_neg (by rw [is7_60]; exact not_not_intro c2), if_neg (by rw [is7_1]; exact not_not_intro c3)]
      rw [if_pos ibp, ix, e2, if_pos (hb.mpr hh)]
      exact bind_some2
    · unfold X8_place; rw [if_neg (by rw [pot8 n1 n3]; exact not_not_intro c1), if_neg (by rw [in8_0_60]; exact not_not_intro c2), if_neg (by rw [in8_0_1]; exact not_not_intro c3)]
      rw [broken8 hp10, bs, if_pos hh, if_neg (by decide)]
      exact bind_some2
  · obtain ⟨R1, k1, k2⟩ := keep8 R
    obtain ⟨bb, mm, C', R', r1, r2, r3, r4⟩ := place_L h (w := a3) (N := N) (by rw [en]; exact hp) (by omega) 5 0 400 400 0 (-1) (-1) C R1 rfl (by omega) (by omega) Fr.rf k2
    refine ⟨if a3 = 0 then bb else mm, C', R', ?_, ?_, Rel_TH r3 (ThB_Fr r4) h⟩
    · unfold X7_place; rw [if_neg (by rw [has7 n1 n2]; exact not_not_intro c1), if_neg (by rw [is7_60]; exact not_not_intro c2), if_neg (by rw [is7_1]; exact not_not_intro c3)]
      rw [if_pos ibp, ix, e2, if_neg (fun e => hh (hb.mp e)), show X7_place_L68 400 (Int32.ofNat p) (Int32.ofNat N) a3 0 (-1) (-1) 0 C = _ from r1, bs]
      split <;> rfl
    · unfold X8_place; rw [if_neg (by rw [pot8 n1 n3]; exact not_not_intro c1), if_neg (by rw [in8_0_60]; exact not_not_intro c2), if_neg (by rw [in8_0_1]; exact not_not_intro c3)]
      rw [broken8 hp10, bs, if_neg hh, if_pos (by decide), k1, bs, show X8_place_L66 400 (Int32.ofNat p) (Int32.ofNat N) a3 0 (-1) (-1) 0 R1 = _ from r2, bs]
      split <;> rfl
