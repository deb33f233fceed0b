theorem being_eq {C R C1 R1 : Mem} {p q N : Nat} (h : Rel C R) (hC : Fr TH C C1) (hR : ThB R R1) (hp : p < nP (R 20 0)) (hq : q < 5) (hN : N < 400) : ∃ C2 R2, X7_whenBeing (Int32.ofNat p) (Int32.ofNat q) (Int32.ofNat N) C1 = some (10 * 1 + p, C2) ∧ X8_yearsGo (Int32.ofNat N) (up3 R1 20 0 (16 + 8 * p + 2) (Int32.ofNat q)) = some R2 ∧ RelD 1 C2 (R2 20 0) ∧ Fr TH C C2 ∧ ThR R R2 ∧ nP (R2 20 0) = nP (R 20 0) := by
  have hp10 : p < 10 := by
    have := (RelD_n h.1).1
    omega
  obtain ⟨C2, -, g1, g3, g4⟩ := think0 h hC hR
  have hq1 := (RelD_n g3).2.2.2 p (by rw [think_n hR]; exact hp)
  have s3 := RelD_pot (k := 2) (v := Int32.ofNat q) hq1 (by omega) (show rngP 2 _ from ⟨by rw [i_of (by omega)]; omega, by rw [i_of (by omega)]; omega⟩) g3
  rw [← up_row] at s3
  obtain ⟨C3, R3, k1, k2, k3, k4, k5, k6⟩ := thinkY (R := R) hN (g4.tr (Fr.up (v := Int32.ofNat q) (k := 2) (show TH 3 (10 * 1 + p) by unfold TH; omega))) (ThR_up hR.1 (by omega)) s3
  refine ⟨C3, R3, ?_, k2, k3, k4, k5, by rw [k6, nP_cg (D := R1 20 0) (up3_k (by omega)), think_n hR]⟩
  unfold X7_whenBeing
  refine bs2 g1 fun P P1 P2 => ?_
  rw [P1, P2, if_pos (show 1 < 3 by decide), if_pos (ib_of hp10 (by omega)), i_ofix (by omega), k1, bs]
theorem odds_L {C R : Mem} (h : Rel C R) {p N : Nat} {w : Int32} (hp : p < nP (R 20 0)) (hN : N < 400) (hb : ¬ R 20 0 (16 + 8 * p + 2) < 0) : ∀ (m q fu fu' k : Nat) (C1 R1 : Mem), q + m = 5 → m < fu → m < fu' → k ≤ q → Fr TH C C1 → ThB R R1 → ∃ k' C' R', X7_odds_L56 fu (Int32.ofNat p) (Int32.ofNat N) w (Int32.ofNat k) (Int32.ofNat q) C1 = some (Int32.ofNat k', C') ∧ X8_odds_L46 fu' (Int32.ofNat p) (Int32.ofNat N) w (Int32.ofNat k) (Int32.ofNat q) R1 = some (Int32.ofNat k', R') ∧ k' ≤ 5 ∧ Fr TH C C' ∧ ThB R R' := by
  intro m
  induction m with
  | zero =>
    intro q fu fu' k C1 R1 hq hf hf' hk hC hR
    obtain ⟨fu, rfl⟩ : ∃ g, fu = g + 1 := ⟨fu - 1, by omega⟩
    obtain ⟨fu', rfl⟩ : ∃ g, fu' = g + 1 := ⟨fu' - 1, by omega⟩
    obtain rfl : q = 5 := by omega
    exact ⟨k, C1, R1, by rw [X7_odds_L56, if_neg (by decide)], by rw [X8_odds_L46, if_neg (by decide)], hk, hC, hR⟩
  | succ m ih =>
    intro q fu fu' k C1 R1 hq hf hf' hk hC hR
    obtain ⟨fu, rfl⟩ : ∃ g, fu = g + 1 := ⟨fu - 1, by omega⟩
    obtain ⟨fu', rfl⟩ : ∃ g, fu' = g + 1 := ⟨fu' - 1, by omega⟩
    have hp10 : p < 10 := by
      have := (RelD_n h.1).1
      omega
    have lt : Int32.ofNat q < 5 := by rw [show (5 : Int32) = Int32.ofNat 5 from rfl, i_ltn (by omega) (by omega)]; omega
    obtain ⟨C2, R2, g1, g2, g3, g4, g5, g6⟩ := being_eq (q := q) (N := N) h hC hR hp (by omega) hN
    obtain ⟨R3, b1, b2⟩ := back8 g5
    have hq1 := (RelD_n g3).2.2.2 p (by rw [g6]; exact hp)
    have e6 : C2 3 (10 * 1 + p) 6 = R2 20 0 (16 + 8 * p + 6) := pot_rd g3 hq1 (by omega)
    have e2 : C2 3 (10 * 1 + p) 2 = R2 20 0 (16 + 8 * p + 2) := pot_rd g3 hq1 (by omega)
    have hm := home_b g3 (p := p) (by rw [g6]; exact hp)
    have s7 : X7_odds_L56 (fu + 1) (Int32.ofNat p) (Int32.ofNat N) w (Int32.ofNat k) (Int32.ofNat q) C1 = if R2 20 0 (16 + 8 * p + 2) < 0 then X7_odds_L56 fu (Int32.ofNat p) (Int32.ofNat N) w (Int32.ofNat k) (Int32.ofNat (q + 1)) C2 else if 0 < R2 20 0 (16 + 8 * p + 6) then X7_odds_L56 fu (Int32.ofNat p) (Int32.ofNat N) w (Int32.ofNat (k + 1)) (Int32.ofNat (q + 1)) C2 else X7_odds_L56 fu (Int32.ofNat p) (Int32.ofNat N) w (Int32.ofNat k) (Int32.ofNat (q + 1)) C2 := by
      rw [X7_odds_L56, if_pos lt]
      refine bs2 g1 fun P P1 P2 => ?_
      rw [P1, P2, if_pos (show 10 * 1 + p < 30 by omega), e6, e2, i_succ, i_succ]
      by_cases hz : R2 20 0 (16 + 8 * p + 2) < 0
      · rw [if_pos hz, if_pos (hm.mpr hz)]
      · rw [if_neg hz, if_neg (fun e => hz (hm.mp e))]
    have s8 : X8_odds_L46 (fu' + 1) (Int32.ofNat p) (Int32.ofNat N) w (Int32.ofNat k) (Int32.ofNat q) R1 = if R2 20 0 (16 + 8 * p + 2) < 0 then X8_odds_L46 fu' (Int32.ofNat p) (Int32.ofNat N) w (Int32.ofNat k) (Int32.ofNat (q + 1)) R3 else if 0 < R2 20 0 (16 + 8 * p + 6) then X8_odds_L46 fu' (Int32.ofNat p) (Int32.ofNat N) w (Int32.ofNat (k + 1)) (Int32.ofNat (q + 1)) R3 else X8_odds_L46 fu' (Int32.ofNat p) (Int32.ofNat N) w (Int32.ofNat k) (Int32.ofNat (q + 1)) R3 := by
      rw [X8_odds_L46, if_pos lt, broken8 hp10, bs, hR.2, if_neg hb, if_pos (show (0 : Int32) = 0 from rfl), s8_2 hp10, bs, g2, bs, broken8 hp10, bs, o8_6 hp10, bs, b1, bs, bs, i_add0, i_succ, i_succ]
      by_cases hz : R2 20 0 (16 + 8 * p + 2) < 0
      · rw [if_pos hz, if_pos hz, if_neg (by decide)]
      · rw [if_neg hz, if_neg hz, if_pos (by decide)]
    rw [s7, s8]
    by_cases h1 : R2 20 0 (16 + 8 * p + 2) < 0
    · rw [if_pos h1, if_pos h1]
      exact ih (q + 1) fu fu' k C2 R3 (by omega) (by omega) (by omega) (by omega) g4 b2
    · rw [if_neg h1, if_neg h1]
      by_cases h2 : 0 < R2 20 0 (16 + 8 * p + 6)
      · rw [if_pos h2, if_pos h2]
        exact ih (q + 1) fu fu' (k + 1) C2 R3 (by omega) (by omega) (by omega) (by omega) g4 b2
      · rw [if_neg h2, if_neg h2]
        exact ih (q + 1) fu fu' k C2 R3 (by omega) (by omega) (by omega) (by omega) g4 b2
theorem odds_B {p : Nat} (hp10 : p < 10) {v2 w : Int32} {R : Mem} (hb : R 20 0 (16 + 8 * p + 2) < 0) : ∀ (m q fu' : Nat), q + m = 5 → m < fu' → X8_odds_L46 fu' (Int32.ofNat p) v2 w 0 (Int32.ofNat q) R = some (0, R) := by
  intro m
  induction m with
  | zero =>
    intro q fu' hq hf'
    obtain ⟨fu', rfl⟩ : ∃ g, fu' = g + 1 := ⟨fu' - 1, by omega⟩
    obtain rfl : q = 5 := by omega
    rw [X8_odds_L46, if_neg (by decide)]
  | succ m ih =>
    intro q fu' hq hf'
    obtain ⟨fu', rfl⟩ : ∃ g, fu' = g + 1 := ⟨fu' - 1, by omega⟩
    rw [X8_odds_L46, if_pos (by rw [show (5 : Int32) = Int32.ofNat 5 from rfl, i_ltn (by omega) (by omega)]; omega), broken8 hp10, bs, if_pos hb, if_neg (by decide), i_succ]
    exact ih (q + 1) fu' (by omega) (by omega)
theorem common_ok : ∀ k, k < 6 → X8_common (Int32.ofNat k) 5 = some (if k = 0 ∨ k = 5 then 5 else 1) := by decide +kernel
theorem odds_fin {k : Nat} (hk : k ≤ 5) (w : Int32) : ∃ r, (∀ M, X7_odds_J98 w (Int32.ofNat k) M = some (r, M)) ∧ ∀ M, (if w = 0 then X8_odds_J121 (Int32.ofNat k) (Int32.ofNat k) M else X8_odds_J121 (Int32.ofNat k) 5 M) = some (r, M) := by
  have e8 : ∀ s0 M, X8_odds_J121 (Int32.ofNat k) s0 M = some (s0 / (if k = 0 ∨ k = 5 then 5 else 1), M) := by
    intro s0 M
    unfold X8_odds_J121
    rw [common_ok k (by omega), bs]
    by_cases hc : k = 0 ∨ k = 5
    · rw [if_pos hc, if_neg (by decide)]
    · rw [if_neg hc, if_neg (by decide)]
  have e7 : ∀ M, X7_odds_J98 w (Int32.ofNat k) M = if w = 0 then some (Int32.ofNat k / (if k = 0 ∨ k = 5 then 5 else 1), M) else some (5 / (if k = 0 ∨ k = 5 then 5 else 1), M) := by
    intro M
    unfold X7_odds_J98 X7_odds_J109 X7_odds_J114
    rcases (show k = 0 ∨ k = 1 ∨ k = 2 ∨ k = 3 ∨ k = 4 ∨ k = 5 by omega) with rfl | rfl | rfl | rfl | rfl | rfl <;> rfl
  by_cases hw : w = 0
  · refine ⟨Int32.ofNat k / (if k = 0 ∨ k = 5 then 5 else 1), fun M => ?_, fun M => ?_⟩
    · rw [e7, if_pos hw]
    · rw [e8, if_pos hw]
  · refine ⟨5 / (if k = 0 ∨ k = 5 then 5 else 1), fun M => ?_, fun M => ?_⟩
    · rw [e7, if_neg hw]
    · rw [e8, e8, if_neg hw]
theorem eq_odds (a1 a2 a3 : Int32) : EqP Rel (X7_odds a1 a2 a3) (X8_odds a1 a2 a3) := by
  intro C R h
  obtain ⟨n, n1, n2, n3, -⟩ := id h.1
  by_cases c1 : ¬ (0 ≤ a1.toInt ∧ a1.toInt < n)
  · refine bad 1 (by omega) (by omega) h ?_ ?_
    · unfold X7_odds
      rw [if_pos ((has7 n1 n2 _).mpr c1)]
      exact bind_some2
    · unfold X8_odds
      rw [if_pos ((pot8 n1 n3 _).mpr c1)]
      exact bind_some2
  replace c1 := Decidable.not_not.mp c1
  by_cases c2 : ¬ (0 ≤ a2.toInt ∧ a2.toInt ≤ 60)
  · refine bad 1 (by omega) (by omega) h ?_ ?_
    · unfold X7_odds
      rw [if_neg (by rw [has7 n1 n2]; exact not_not_intro c1), if_pos ((is7_60 _).mpr c2)]
      exact bind_some2
    · unfold X8_odds
      rw [if_neg (by rw [pot8 n1 n3]; exact not_not_intro c1), if_pos ((in8_0_60 _).mpr c2)]
      exact bind_some2
  replace c2 := Decidable.not_not.mp c2
  by_cases c3 : ¬ (0 ≤ a3.toInt ∧ a3.toInt ≤ 1)
  · refine bad 1 (by omega) (by omega) h ?_ ?_
    · unfold X7_odds
      rw [if_neg (by rw [has7 n1 n2]; exact not_not_intro c1), if_neg (by rw [is7_60]; exact not_not_intro c2), if_pos ((is7_1 _).mpr c3)]
      exact bind_some2
    · unfold X8_odds
      rw [if_neg (by rw [pot8 n1 n3]; exact not_not_intro c1), if_neg (by rw [in8_0_60]; exact not_not_intro c2), if_pos ((in8_0_1 _).mpr c3)]
      exact bind_some2
  replace c3 := Decidable.not_not.mp c3
  have en : nP (R 20 0) = n := by
    unfold nP
    rw [n3, i_of (by omega)]
    rfl
  obtain ⟨p, hp, rfl⟩ := i_small (n := n) c1.1 c1.2
  obtain ⟨N, rfl, N1, N2⟩ := i_get c2 (by omega)
  have hp10 : p < 10 := by omega
  have ix : (Int32.ofNat p).toNatClampNeg = p := i_ofix (by omega)
  have ibp : ib (Int32.ofNat p) 10 = true := ib_of (by omega) (by omega)
  have hq := (RelD_n h.1).2.2.2 p (by rw [en]; exact hp)
  have e2 : C 3 (10 * 0 + p) 2 = R 20 0 (16 + 8 * p + 2) := pot_rd h.1 hq (by omega)
  have hb := home_b h.1 (p := p) (by rw [en]; exact hp)
  obtain ⟨R1, k1, k2⟩ := keep8 R
  have s8 : ∀ (k : Nat) (R' : Mem), X8_odds_L46 400 (Int32.ofNat p) (Int32.ofNat N) a3 0 0 R1 = some (Int32.ofNat k, R') → X8_odds (Int32.ofNat p) (Int32.ofNat N) a3 R = if a3 = 0 then X8_odds_J121 (Int32.ofNat k) (Int32.ofNat k) R' else X8_odds_J121 (Int32.ofNat k) 5 R' := by
    intro k R' e
    unfold X8_odds; rw [if_neg (by rw [pot8 n1 n3]; exact not_not_intro c1), if_neg (by rw [in8_0_60]; exact not_not_intro c2), if_neg (by rw [in8_0_1]; exact not_not_intro c3)]
    rw [k1, bs]
    refine bs2 e fun P P1 P2 => ?_
    rw [P1, P2]
  by_cases hh : R 20 0 (16 + 8 * p + 2) < 0
  · obtain ⟨r, f7, f8⟩ := odds_fin (k := 0) (by omega) a3
    refine ⟨r, C, R1, ?_, ?_, Rel_TH Fr.rf (ThB_Fr k2) h⟩
    · unfold X7_odds; rw [if_neg (by rw [has7 n1 n2]; exact not_not_intro c1), if_neg (by rw [is7_60]; exact not_not_intro c2), if_neg (by rw [is7_1]; exact not_not_intro c3)]
      rw [if_pos ibp, ix, e2, if_pos (hb.mpr hh)]
      exact f7 C
    · rw [s8 0 R1 (odds_B hp10 (by rw [k2.2]; exact hh) 5 0 400 rfl (by omega))]
      exact f8 R1
  · obtain ⟨k, C', R', r1, r2, hk, r3, r4⟩ := odds_L h (w := a3) (N := N) (by rw [en]; exact hp) (by omega) hh 5 0 400 400 0 C R1 rfl (by omega) (by omega) (by omega) Fr.rf k2
    obtain ⟨r, f7, f8⟩ := odds_fin hk a3
    refine ⟨r, C', R', ?_, ?_, Rel_TH r3 (ThB_Fr r4) h⟩
    · unfold X7_odds; rw [if_neg (by rw [has7 n1 n2]; exact not_not_intro c1), if_neg (by rw [is7_60]; exact not_not_intro c2), if_neg (by rw [is7_1]; exact not_not_intro c3)]
      rw [if_pos ibp, ix, e2, if_neg (fun e => hh (hb.mp e)), show X7_odds_L56 400 (Int32.ofNat p) (Int32.ofNat N) a3 0 0 C = _ from r1, bs]
      exact f7 C'
    · rw [s8 k R' r2]
      exact f8 R'
theorem deal_L {C R : Mem} (h : Rel C R) {N : Nat} (hN : N < 400) {RA RB : Mem} (hA : ThB R RA) (hAB : X8_yearsGo (Int32.ofNat N) RA = some RB) {base : Int32} (hbase : base = smN (fun p => RB 20 0 (16 + 8 * p + 6)) (nP (RB 20 0))) : ∀ (m q fu fu' : Nat) (best most : Int32) (C1 R1 : Mem), q + m = nP (R 20 0) → m < fu → m < fu' → Fr TH C C1 → ThB R R1 → base.toInt ≤ most.toInt → ∃ b' C' R', X7_dealer_L29 fu (Int32.ofNat N) best most (Int32.ofNat q) C1 = some (b', C') ∧ X8_dealer_L41 fu' (Int32.ofNat N) most best (Int32.ofNat q) R1 = some (b', R') ∧ Fr TH C C' ∧ ThB R R' := by
  obtain ⟨n1, n2, n3, n4⟩ := RelD_n h.1
  intro m
  induction m with
  | zero =>
    intro q fu fu' best most C1 R1 hq hf hf' hC hR hm
    obtain ⟨fu, rfl⟩ : ∃ g, fu = g + 1 := ⟨fu - 1, by omega⟩
    obtain ⟨fu', rfl⟩ : ∃ g, fu' = g + 1 := ⟨fu' - 1, by omega⟩
    refine ⟨best, C1, R1, ?_, ?_, hC, hR⟩
    · rw [X7_dealer_L29, hC 1 0 5 (nTH1 (by decide)), n2, if_neg (by rw [i_ltn (by omega) (by omega)]; omega)]
    · rw [X8_dealer_L41, hR.2, n3, if_neg (by rw [i_ltn (by omega) (by omega)]; omega)]
  | succ m ih =>
    intro q fu fu' best most C1 R1 hq hf hf' hC hR hm
    obtain ⟨fu, rfl⟩ : ∃ g, fu = g + 1 := ⟨fu - 1, by omega⟩
    obtain ⟨fu', rfl⟩ : ∃ g, fu' = g + 1 := ⟨fu' - 1, by omega⟩
    have hqn : q < nP (R 20 0) := by omega
    have hq10 : q < 10 := by omega
    have lt : Int32.ofNat q < Int32.ofNat (nP (R 20 0)) := by rw [i_ltn (by omega) (by omega)]; omega
    obtain ⟨C2, g0, g1, g3, g4⟩ := think0 h hC hR
    have hq1 := (RelD_n g3).2.2.2 q (by rw [think_n hR]; exact hqn)
    have e6 : C2 3 (10 * 1 + q) 6 = R 20 0 (16 + 8 * q + 6) := by rw [← hR.2]; exact pot_rd g3 hq1 (by omega)
    have e2 : C2 3 (10 * 1 + q) 2 = R 20 0 (16 + 8 * q + 2) := by rw [← hR.2]; exact pot_rd g3 hq1 (by omega)
    have hb := home_b h.1 (p := q) hqn
    have ct : X3_canTakeFalseHandle (10 * 1 + q) C2 = if R 20 0 (16 + 8 * q + 2) < 0 then 0 else if R 20 0 (16 + 8 * q + 6) = 0 then 1 else 0 := by
      unfold X3_canTakeFalseHandle
      rw [e2, e6]
      by_cases hz : R 20 0 (16 + 8 * q + 2) < 0
      · rw [if_pos hz, if_pos (hb.mpr hz)]
      · rw [if_neg hz, if_neg (fun e => hz (hb.mp e))]
    have s7 : ∀ (v : Int32) (C3 : Mem), X7_handlesIfStuck (Int32.ofNat q) (Int32.ofNat N) C1 = some (v, C3) → X7_dealer_L29 (fu + 1) (Int32.ofNat N) best most (Int32.ofNat q) C1 = if most < v then X7_dealer_L29 fu (Int32.ofNat N) (Int32.ofNat q) v (Int32.ofNat (q + 1)) C3 else X7_dealer_L29 fu (Int32.ofNat N) best most (Int32.ofNat (q + 1)) C3 := by
      intro v C3 e
      rw [X7_dealer_L29, hC 1 0 5 (nTH1 (by decide)), n2, if_pos lt]
      refine bs2 e fun P P1 P2 => ?_
      rw [P1, P2, i_succ]
    have none1 : X3_canTakeFalseHandle (10 * 1 + q) C2 = 0 → ∃ C3, X7_dealer_L29 (fu + 1) (Int32.ofNat N) best most (Int32.ofNat q) C1 = X7_dealer_L29 fu (Int32.ofNat N) best most (Int32.ofNat (q + 1)) C3 ∧ Fr TH C C3 := by
      intro hz
      obtain ⟨C3, R3, k1, k2, k3, k4, k5, k6⟩ := thinkY (R := R) (R1 := RA) hN g4 hA.1 (by rw [hA.2, ← hR.2]; exact g3)
      have eR : R3 = RB := by
        have := k2.symm.trans hAB
        injection this
      subst eR
      have ev : X7_handlesIfStuck (Int32.ofNat q) (Int32.ofNat N) C1 = some (base, C3) := by
        unfold X7_handlesIfStuck
        refine bs2 g1 fun P P1 P2 => ?_
        rw [P1, P2, if_pos (show 1 < 3 by decide), if_pos (ib_of hq10 (by omega)), i_ofix (by omega), if_pos hz]
        unfold X7_handlesIfStuck_J26
        rw [k1, bs, hands7 k3, hbase]
        rfl
      refine ⟨C3, ?_, k4⟩
      rw [s7 base C3 ev, if_neg (by rw [i_lt]; omega)]
    by_cases h1 : R 20 0 (16 + 8 * q + 2) < 0
    · obtain ⟨C3, t1, t2⟩ := none1 (by rw [ct, if_pos h1])
      have s8 : X8_dealer_L41 (fu' + 1) (Int32.ofNat N) most best (Int32.ofNat q) R1 = X8_dealer_L41 fu' (Int32.ofNat N) most best (Int32.ofNat (q + 1)) R1 := by
        rw [X8_dealer_L41, hR.2, n3, if_pos lt, broken8 hq10, bs, hR.2, if_pos h1, if_neg (by decide), i_succ]
      rw [t1, s8]
      exact ih (q + 1) fu fu' best most C3 R1 (by omega) (by omega) (by omega) t2 hR hm
    · by_cases h2 : R 20 0 (16 + 8 * q + 6) = 0
      · have s1 := RelD_pot (k := 6) (v := 1) hq1 (by omega) (show rngP 6 1 from ⟨by decide, by decide⟩) g3
        have s2 := RelD_pot (k := 7) (v := 1) (by rw [up_potb]; exact hq1) (by omega) (show rngP 7 1 from ⟨by decide, by decide⟩) s1
        rw [← up_row, ← up_row] at s2
        have th : TH 3 (10 * 1 + q) := by unfold TH; omega
        obtain ⟨C3, R3, k1, k2, k3, k4, k5, k6⟩ := thinkY (R := R) hN ((g4.tr (Fr.up th)).tr (Fr.up th)) (ThR_up (ThR_up hR.1 (by omega)) (by omega)) s2
        obtain ⟨R4, b1, b2⟩ := back8 k5
        obtain ⟨v, hv⟩ : ∃ v, v = smN (fun p => R3 20 0 (16 + 8 * p + 6)) (nP (R3 20 0)) := ⟨_, rfl⟩
        have ev : X7_handlesIfStuck (Int32.ofNat q) (Int32.ofNat N) C1 = some (v, C3) := by
          unfold X7_handlesIfStuck
          refine bs2 g1 fun P P1 P2 => ?_
          rw [P1, P2, if_pos (show 1 < 3 by decide), if_pos (ib_of hq10 (by omega)), i_ofix (by omega), ct, if_neg h1, if_pos h2, if_neg (by decide)]
          unfold X3_takeFalseHandle X7_handlesIfStuck_J26
          rw [bs, k1, bs, hands7 k3, hv]
          rfl
        have s8 : X8_dealer_L41 (fu' + 1) (Int32.ofNat N) most best (Int32.ofNat q) R1 = if most < v then X8_dealer_L41 fu' (Int32.ofNat N) v (Int32.ofNat q) (Int32.ofNat (q + 1)) R4 else X8_dealer_L41 fu' (Int32.ofNat N) most best (Int32.ofNat (q + 1)) R4 := by
          rw [X8_dealer_L41, hR.2, n3, if_pos lt, broken8 hq10, bs, hR.2, if_neg h1, if_pos (by decide), o8_6 hq10, bs, hR.2, if_pos h2, s8_6 hq10, bs, s8_7 hq10, bs, k2, bs, hands8 k3, bs, b1, bs, ← hv, i_succ]
        rw [s7 v C3 ev, s8]
        by_cases h3 : most < v
        · rw [if_pos h3, if_pos h3]
          rw [i_lt] at h3
          exact ih (q + 1) fu fu' _ _ C3 R4 (by omega) (by omega) (by omega) k4 b2 (by omega)
        · rw [if_neg h3, if_neg h3]
          exact ih (q + 1) fu fu' _ _ C3 R4 (by omega) (by omega) (by omega) k4 b2 hm
      · obtain ⟨C3, t1, t2⟩ := none1 (by rw [ct, if_neg h1, if_neg h2])
        have s8 : X8_dealer_L41 (fu' + 1) (Int32.ofNat N) most best (Int32.ofNat q) R1 = X8_dealer_L41 fu' (Int32.ofNat N) most best (Int32.ofNat (q + 1)) R1 := by
          rw [X8_dealer_L41, hR.2, n3, if_pos lt, broken8 hq10, bs, hR.2, if_neg h1, if_pos (by decide), o8_6 hq10, bs, hR.2, if_neg h2, i_succ]
        rw [t1, s8]
        exact ih (q + 1) fu fu' best most C3 R1 (by omega) (by omega) (by omega) t2 hR hm
theorem eq_dealer (a1 : Int32) : EqP Rel (X7_dealer a1) (X8_dealer a1) := by
  intro C R h
  by_cases c1 : ¬ (0 ≤ a1.toInt ∧ a1.toInt ≤ 30)
  · refine bad 1 (by omega) (by omega) h ?_ ?_
    · unfold X7_dealer
      rw [if_pos ((is7_30 _).mpr c1)]
      exact bind_some2
    · unfold X8_dealer
      rw [if_pos ((in8_0_30 _).mpr c1)]
      exact bind_some2
  replace c1 := Decidable.not_not.mp c1
  obtain ⟨N, rfl, N1, N2⟩ := i_get c1 (by omega)
  obtain ⟨R1, k1, k2⟩ := keep8 R
  obtain ⟨C2, R2, g1, g2, g3, g4, g5, g6⟩ := thinkN (N := N) (by omega) h Fr.rf k2
  obtain ⟨R3, b1, b2⟩ := back8 g5
  obtain ⟨base, hbase⟩ : ∃ v, v = smN (fun p => R2 20 0 (16 + 8 * p + 6)) (nP (R2 20 0)) := ⟨_, rfl⟩
  have n10 := (RelD_n h.1).1
  obtain ⟨b', C', R', r1, r2, r3, r4⟩ := deal_L h (N := N) (by omega) k2 g2 hbase (nP (R 20 0)) 0 400 400 (-1) base C2 R3 (by omega) (by omega) (by omega) g4 b2 (Int.le_refl _)
  refine ⟨b', C', R', ?_, ?_, Rel_TH r3 (ThB_Fr r4) h⟩
  · unfold X7_dealer; rw [if_neg (by rw [is7_30]; exact not_not_intro c1)]
    refine bs2 g1 fun P P1 P2 => ?_
    rw [P1, P2, if_pos (show 1 < 3 by decide), hands7 g3, bs, ← hbase, show X7_dealer_L29 400 (Int32.ofNat N) (-1) base 0 C2 = _ from r1]
    rfl
  · unfold X8_dealer; rw [if_neg (by rw [in8_0_30]; exact not_not_intro c1)]
    rw [k1, bs, g2, bs, hands8 g3, bs, b1, bs, ← hbase, show X8_dealer_L41 400 (Int32.ofNat N) base (-1) 0 R3 = _ from r2]
    rfl
theorem check_L {C R : Mem} {w : Nat} (hw : w ≤ 20) (hw2 : ∀ k, k < w → C 9 0 k = R 20 0 (98 + k)) : ∀ (m i fu fu' : Nat) (C1 R1 : Mem), i + m = w → m + 1 < fu → m + 1 < fu' → Fr TH C C1 → ThR R R1 → RelD 1 C1 (R1 20 0) → ∃ r C' R', ((X7_check_L23 fu (Int32.ofNat w) 1 (Int32.ofNat i) C1).bind fun q5 => match q5 with
  | .inl q5 => (some (0, q5))
  | .inr q5 => some q5) = some (r, C') ∧ X8_check_L22 fu' (Int32.ofNat w) 0 (Int32.ofNat i) R1 = some (r, R') ∧ Fr TH C C' ∧ ThR R R' := by
  intro m
  induction m with
  | zero =>
    intro i fu fu' C1 R1 hi hf hf' hC hR h
    obtain ⟨fu, rfl⟩ : ∃ g, fu = g + 1 := ⟨fu - 1, by omega⟩
    obtain ⟨fu', rfl⟩ : ∃ g, fu' = g + 1 := ⟨fu' - 1, by omega⟩
    refine ⟨0, C1, R1, ?_, ?_, hC, hR⟩
    · rw [X7_check_L23, if_neg (by rw [i_ltn (by omega) (by omega)]; omega), bs]
    · rw [X8_check_L22, if_neg (by rw [i_ltn (by omega) (by omega)]; omega)]
  | succ m ih =>
    intro i fu fu' C1 R1 hi hf hf' hC hR h
    obtain ⟨fu, rfl⟩ : ∃ g, fu = g + 1 := ⟨fu - 1, by omega⟩
    obtain ⟨fu', rfl⟩ : ∃ g, fu' = g + 1 := ⟨fu' - 1, by omega⟩
    have lt : Int32.ofNat i < Int32.ofNat w := by rw [i_ltn (by omega) (by omega)]; omega
    obtain ⟨C2, R2, k1, k2, k3, k4, k5, k6⟩ := thinkY (R := R) (N := 1) (by omega) hC hR h
    obtain ⟨v, hv⟩ : ∃ v, v = smN (fun p => R2 20 0 (16 + 8 * p + 6)) (nP (R2 20 0)) := ⟨_, rfl⟩
    have e9 : C2 9 0 i = R2 20 0 (98 + i) := by rw [k4 9 0 i (nTHf (by omega)), k5.2.1 (98 + i) (by omega)]; exact hw2 i (by omega)
    have s7 : X7_check_L23 (fu + 1) (Int32.ofNat w) 1 (Int32.ofNat i) C1 = if v = R2 20 0 (98 + i) then X7_check_L23 fu (Int32.ofNat w) 1 (Int32.ofNat (i + 1)) C2 else some (.inr (Int32.ofNat (1 + i), C2)) := by
      rw [X7_check_L23, if_pos lt, show X1_passYears 1 1 C1 = _ from k1, bs, hands7 k3, bs, if_pos (ib_of (by omega) (by omega)), i_ofix (by omega), e9, ← hv, i_succ, show (1 : Int32) = Int32.ofNat 1 from rfl, i_ofadd]
    have s8 : X8_check_L22 (fu' + 1) (Int32.ofNat w) 0 (Int32.ofNat i) R1 = if R2 20 0 (98 + i) = v then X8_check_L22 fu' (Int32.ofNat w) 0 (Int32.ofNat (i + 1)) R2 else X8_check_L22 fu' (Int32.ofNat w) (Int32.ofNat (1 + i)) (Int32.ofNat (i + 1)) R2 := by
      rw [X8_check_L22, if_pos lt, if_pos (by decide), show X8_yearsGo 1 R1 = _ from k2, bs, show (98 : Int32) = Int32.ofNat 98 from rfl, i_ofadd, if_pos (ib_of (by omega) (by omega)), i_ofix (by omega), hands8 k3, bs, ← hv, i_succ, show (1 : Int32) = Int32.ofNat 1 from rfl, i_ofadd]
    rw [s7, s8]
    by_cases hb : v = R2 20 0 (98 + i)
    · rw [if_pos hb, if_pos hb.symm]
      exact ih (i + 1) fu fu' C2 R2 (by omega) (by omega) (by omega) k4 k5 k3
    · rw [if_neg hb, if_neg (fun e => hb e.symm)]
      refine ⟨Int32.ofNat (1 + i), C2, R2, by rw [bs], ?_, k4, k5⟩
      obtain ⟨fu', rfl⟩ : ∃ g, fu' = g + 1 := ⟨fu' - 1, by omega⟩
      have ne : ¬ Int32.ofNat (1 + i) = 0 := by rw [i_eq, i_of (by omega), i_z]; omega
      rw [X8_check_L22, if_neg ne]
      split <;> rfl
theorem eq_check : EqP Rel X7_check X8_check := by
  intro C R h
  obtain ⟨k1, ⟨t, t1, t2, t3, t4⟩, w, w1, w2, w3, w4⟩ := id h.2.1
  have h0 : Rel (up3 C 0 0 3 0) (up3 R 20 0 5 0) := by
    refine Rel_dsk1 ⟨Or.inl rfl, rfl⟩ (by unfold supK; omega) ?_ h
    refine ⟨?_, ⟨t, t1, (up3_k (by decide)).trans t2, (upD_ne (by decide)).trans t3, fun k hk => ?_⟩, 0, by omega, up3_eq, upD_eq, fun k hk => absurd hk (Nat.not_lt_zero k)⟩
    · rw [up3_k (by decide), upD_ne (by decide)]; exact k1
    · rw [up3_f (by decide), upD_ne (by omega)]; exact t4 k hk
  obtain ⟨R1, e1, e2⟩ := keep8 (up3 R 20 0 5 0)
  obtain ⟨C2, -, g1, g3, g4⟩ := think0 h0 Fr.rf e2
  obtain ⟨r, C', R', r1, r2, r3, r4⟩ := check_L (C := up3 C 0 0 3 0) (R := up3 R 20 0 5 0) w1 (fun k hk => by rw [up3_f (by decide), up3_k (by omega)]; exact w4 k hk) w 0 400 400 C2 R1 (by omega) (by omega) (by omega) g4 e2.1 g3
  obtain ⟨R3, b1, b2⟩ := back8 r4
  refine ⟨r, C', R3, ?_, ?_, Rel_TH r3 (ThB_Fr b2) h0⟩
  · unfold X7_check
    refine bs2 g1 fun P P1 P2 => ?_
    rw [P1, P2, if_pos (show 1 < 3 by decide), w2]
    exact r1
  · unfold X8_check
    rw [e1, bs, w3, show X8_check_L22 400 (Int32.ofNat w) 0 0 R1 = _ from r2, bs]
    unfold X8_check_J66
    rw [b1]
    rfl
