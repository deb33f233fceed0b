theorem up3_self {M : Mem} {f i k : Nat} : up3 M f i k (M f i k) = M := by
  funext f' i' k'
  unfold up3
  by_cases h : f' = f ∧ k' = k ∧ i' = i
  · obtain ⟨rfl, rfl, rfl⟩ := h
    rw [if_pos ⟨rfl, rfl, rfl⟩]
  · rw [if_neg h]
theorem bit01 : ∀ s, s < 32 → ∀ q, q < 5 → ((Int32.ofNat s >>> (Int32.ofNat q &&& 31)) &&& 1) = 0 ∨ ((Int32.ofNat s >>> (Int32.ofNat q &&& 31)) &&& 1) = 1 := by decide +kernel
theorem bc6 : ∀ s, s < 32 → J6_bitCount_0f7a4 (Int32.ofNat s) < 6 := by decide +kernel
theorem care_L {s : Nat} (hs : s < 32) {v1 v3 w1 w2 w3 : Int32} : ∀ (m q fu fu' : Nat) (C R : Mem), q + m = 5 → m < fu → m < fu' → RelD 1 C (R 20 0) → ∃ C' R', X7_haveHandlesIfCaredFor_L9 fu v1 (Int32.ofNat s) v3 1 (Int32.ofNat q) C = some C' ∧ X8_needed_L76 fu' w1 w2 w3 (Int32.ofNat s) (Int32.ofNat q) R = some R' ∧ RelD 1 C' (R' 20 0) ∧ Fr TH C C' ∧ (∀ f i k, ¬ f = 20 → R' f i k = R f i k) ∧ ∀ k, k < 6 ∨ 16 ≤ k → R' 20 0 k = R 20 0 k := by
  intro m
  induction m with
  | zero =>
    intro q fu fu' C R hq hf hf' h
    obtain ⟨fu, rfl⟩ : ∃ g, fu = g + 1 := ⟨fu - 1, by omega⟩
    obtain ⟨fu', rfl⟩ : ∃ g, fu' = g + 1 := ⟨fu' - 1, by omega⟩
    obtain rfl : q = 5 := by omega
    exact ⟨C, R, by rw [X7_haveHandlesIfCaredFor_L9, if_neg (by decide)], by rw [X8_needed_L76, if_neg (by decide)], h, Fr.rf, fun _ _ _ _ => rfl, fun _ _ => rfl⟩
  | succ m ih =>
    intro q fu fu' C R hq hf hf' h
    obtain ⟨fu, rfl⟩ : ∃ g, fu = g + 1 := ⟨fu - 1, by omega⟩
    obtain ⟨fu', rfl⟩ : ∃ g, fu' = g + 1 := ⟨fu' - 1, by omega⟩
    have lt : Int32.ofNat q < 5 := by rw [show (5 : Int32) = Int32.ofNat 5 from rfl, i_ltn (by omega) (by omega)]; omega
    have ibq : ib (Int32.ofNat (6 + 2 * q + 1)) 268 = true := ib_of (by omega) (by omega)
    rcases bit01 s hs q (by omega) with hz | hz
    · have s7 : X7_haveHandlesIfCaredFor_L9 (fu + 1) v1 (Int32.ofNat s) v3 1 (Int32.ofNat q) C = X7_haveHandlesIfCaredFor_L9 fu v1 (Int32.ofNat s) v3 1 (Int32.ofNat (q + 1)) C := by
        rw [X7_haveHandlesIfCaredFor_L9, if_pos lt, if_pos hz, i_succ]
      have s8 : X8_needed_L76 (fu' + 1) w1 w2 w3 (Int32.ofNat s) (Int32.ofNat q) R = X8_needed_L76 fu' w1 w2 w3 (Int32.ofNat s) (Int32.ofNat (q + 1)) R := by
        rw [X8_needed_L76, if_pos lt, if_neg (by rw [hz]; decide), h_ix, i_succ, if_pos ibq, i_ofix (by omega), up3_self, i_succ]
      rw [s7, s8]
      exact ih (q + 1) fu fu' C R (by omega) (by omega) (by omega) h
    · have s7 : X7_haveHandlesIfCaredFor_L9 (fu + 1) v1 (Int32.ofNat s) v3 1 (Int32.ofNat q) C = X7_haveHandlesIfCaredFor_L9 fu v1 (Int32.ofNat s) v3 1 (Int32.ofNat (q + 1)) (up3 C 11 1 q 9) := by
        rw [X7_haveHandlesIfCaredFor_L9, if_pos lt, if_neg (by rw [hz]; decide), if_pos (ib_of (by omega) (by omega)), i_ofix (by omega), i_succ]
      have s8 : X8_needed_L76 (fu' + 1) w1 w2 w3 (Int32.ofNat s) (Int32.ofNat q) R = X8_needed_L76 fu' w1 w2 w3 (Int32.ofNat s) (Int32.ofNat (q + 1)) (up3 R 20 0 (6 + 2 * q + 1) 9) := by
        rw [X8_needed_L76, if_pos lt, if_pos hz, h_ix, i_succ, if_pos ibq, i_ofix (by omega), i_succ]
      rw [s7, s8]
      have s1 := RelD_house (h := q) (w := 1) (v := 9) (by omega) (by omega) (show inR 9 0 9 from ⟨by decide, by decide⟩) h
      rw [← up_row] at s1
      obtain ⟨C', R', g1, g2, g3, g4, g5, g6⟩ := ih (q + 1) fu fu' (up3 C 11 1 q 9) (up3 R 20 0 (6 + 2 * q + 1) 9) (by omega) (by omega) (by omega) s1
      refine ⟨C', R', g1, g2, g3, (Fr.up (show TH 11 1 by unfold TH; omega)).tr g4, fun f i k a => (g5 f i k a).trans (up3_f a), fun k hk => (g6 k hk).trans (up3_k (by omega))⟩
theorem have_eq {C R C1 R1 : Mem} {s N : Nat} {a1 w3 : Int32} (h : Rel C R) (hC : Fr TH C C1) (hR : ThB R R1) (hs : s < 32) (hN : N < 400) : ∃ C2 Ra R2 st, X7_haveHandlesIfCaredFor a1 (Int32.ofNat s) (Int32.ofNat N) C1 = some (if (a1 &&& (st ^^^ (-1))) = 0 then 1 else 0, C2) ∧ X8_needed_L76 400 a1 (Int32.ofNat N) w3 (Int32.ofNat s) 0 R1 = some Ra ∧ X8_yearsGo (Int32.ofNat N) Ra = some R2 ∧ X8_setOf 7 R2 = some st ∧ Fr TH C C2 ∧ ThR R R2 := by
  obtain ⟨C2, -, g1, g3, g4⟩ := think0 h hC hR
  obtain ⟨C3, Ra, k1, k2, k3, k4, k5, k6⟩ := care_L hs (v1 := a1) (v3 := Int32.ofNat N) (w1 := a1) (w2 := Int32.ofNat N) (w3 := w3) 5 0 400 400 C2 R1 rfl (by omega) (by omega) g3
  obtain ⟨C4, R2, m1, m2, m3, m4, m5, m6⟩ := thinkY (R := R) hN (g4.tr k4) (ThR_20 hR.1 k5 (fun k hk => k6 k (by omega))) k3
  refine ⟨C4, Ra, R2, _, ?_, k2, m2, set7_8 m3, m4, m5⟩
  unfold X7_haveHandlesIfCaredFor
  refine bs2 g1 fun P P1 P2 => ?_
  rw [P1, P2, if_pos (show 1 < 3 by decide), show X7_haveHandlesIfCaredFor_L9 400 a1 (Int32.ofNat s) (Int32.ofNat N) 1 0 C2 = _ from k1, bs, m1, bs, with7 m3, bs]
  split <;> rfl
theorem need_L {C R : Mem} (h : Rel C R) {N : Nat} {a1 : Int32} (hN : N < 400) : ∀ (m s fu fu' : Nat) (best few : Int32) (C1 R1 : Mem), s + m = 32 → m < fu → m < fu' → Fr TH C C1 → ThB R R1 → ((best = -1 ∧ few = 6) ∨ ∃ t, t < 32 ∧ best = Int32.ofNat t ∧ few = J6_bitCount_0f7a4 (Int32.ofNat t)) → ∃ b' C' R', X7_needed_L38 fu a1 (Int32.ofNat N) best few (Int32.ofNat s) C1 = some (b', C') ∧ X8_needed_L47 fu' a1 (Int32.ofNat N) best (Int32.ofNat s) R1 = some (b', R') ∧ Fr TH C C' ∧ ThB R R' := by
  intro m
  induction m with
  | zero =>
    intro s fu fu' best few C1 R1 hs hf hf' hC hR hi
    obtain ⟨fu, rfl⟩ : ∃ g, fu = g + 1 := ⟨fu - 1, by omega⟩
    obtain ⟨fu', rfl⟩ : ∃ g, fu' = g + 1 := ⟨fu' - 1, by omega⟩
    obtain rfl : s = 32 := by omega
    exact ⟨best, C1, R1, by rw [X7_needed_L38, if_neg (by decide)], by rw [X8_needed_L47, if_neg (by decide)], hC, hR⟩
  | succ m ih =>
    intro s fu fu' best few C1 R1 hs hf hf' hC hR hi
    obtain ⟨fu, rfl⟩ : ∃ g, fu = g + 1 := ⟨fu - 1, by omega⟩
    obtain ⟨fu', rfl⟩ : ∃ g, fu' = g + 1 := ⟨fu' - 1, by omega⟩
    have lt : Int32.ofNat s < 32 := by rw [show (32 : Int32) = Int32.ofNat 32 from rfl, i_ltn (by omega) (by omega)]; omega
    obtain ⟨C2, Ra, R2, st, g1, g2, g3, g4, g5, g6⟩ := have_eq (s := s) (N := N) (a1 := a1) (w3 := best) h hC hR (by omega) hN
    obtain ⟨R3, b1, b2⟩ := back8 g6
    have s7 : X7_needed_L38 (fu + 1) a1 (Int32.ofNat N) best few (Int32.ofNat s) C1 = if J6_bitCount_0f7a4 (Int32.ofNat s) < few then (if (a1 &&& (st ^^^ (-1))) = 0 then X7_needed_L38 fu a1 (Int32.ofNat N) (Int32.ofNat s) (J6_bitCount_0f7a4 (Int32.ofNat s)) (Int32.ofNat (s + 1)) C2 else X7_needed_L38 fu a1 (Int32.ofNat N) best few (Int32.ofNat (s + 1)) C2) else X7_needed_L38 fu a1 (Int32.ofNat N) best few (Int32.ofNat (s + 1)) C1 := by
      rw [X7_needed_L38, if_pos lt, i_succ]
      by_cases hc : J6_bitCount_0f7a4 (Int32.ofNat s) < few
      · rw [if_pos hc, if_pos hc]
        refine bs2 g1 fun P P1 P2 => ?_
        rw [P1, P2]
        by_cases hz : (a1 &&& (st ^^^ (-1))) = 0
        · rw [if_pos hz, if_pos hz, if_neg (by decide)]
        · rw [if_neg hz, if_neg hz, if_pos (by decide)]
      · rw [if_neg hc, if_neg hc]
    have s8 : X8_needed_L47 (fu' + 1) a1 (Int32.ofNat N) best (Int32.ofNat s) R1 = if J6_bitCount_0f7a4 (Int32.ofNat s) < few then (if (a1 &&& (st ^^^ (-1))) = 0 then X8_needed_L47 fu' a1 (Int32.ofNat N) (Int32.ofNat s) (Int32.ofNat (s + 1)) R3 else X8_needed_L47 fu' a1 (Int32.ofNat N) best (Int32.ofNat (s + 1)) R3) else X8_needed_L47 fu' a1 (Int32.ofNat N) best (Int32.ofNat (s + 1)) R1 := by
      rw [X8_needed_L47, if_pos lt, g2, bs, g3, bs, g4, bs, b1, bs, bs, i_succ]
      rcases hi with ⟨rfl, rfl⟩ | ⟨t, ht, rfl, rfl⟩
      · rw [if_pos (show (-1 : Int32) < 0 by decide), if_pos (bc6 s (by omega))]
      · rw [if_neg (show ¬ Int32.ofNat t < 0 by rw [i_lt, i_of (by omega), i_z]; omega), bits_ok s (by omega), bs, bits_ok t (by omega), bs]
    rw [s7, s8]
    by_cases hc : J6_bitCount_0f7a4 (Int32.ofNat s) < few
    · rw [if_pos hc, if_pos hc]
      by_cases hz : (a1 &&& (st ^^^ (-1))) = 0
      · rw [if_pos hz, if_pos hz]
        exact ih (s + 1) fu fu' _ _ C2 R3 (by omega) (by omega) (by omega) g5 b2 (Or.inr ⟨s, by omega, rfl, rfl⟩)
      · rw [if_neg hz, if_neg hz]
        exact ih (s + 1) fu fu' _ _ C2 R3 (by omega) (by omega) (by omega) g5 b2 hi
    · rw [if_neg hc, if_neg hc]
      exact ih (s + 1) fu fu' _ _ C1 R1 (by omega) (by omega) (by omega) hC hR hi
theorem eq_needed (a1 a2 : Int32) : EqP Rel (X7_needed a1 a2) (X8_needed a1 a2) := by
  intro C R h
  obtain ⟨n1, n2, n3, n4⟩ := RelD_n h.1
  obtain ⟨A, hA⟩ : ∃ A : Int32, A = (1 <<< (R 20 0 0 &&& 31)) - 1 := ⟨_, rfl⟩
  have a7 : X1_allPots 0 C = A := by
    unfold X1_allPots
    rw [n2, ← n3, hA]
  have s7 : X7_needed a1 a2 C = if X7_isWithin a1 A = 0 then ((X7_fail 1 C).bind fun q1 => (some (q1.1, q1.2))) else (if (X7_isWithin a2 20) = 0 then ((X7_fail 1 C).bind fun q5 => (some (q5.1, q5.2))) else ((X7_needed_L38 400 a1 a2 (-1) 6 0 C).bind fun q3 => (if q3.1 < 0 then ((X7_fail 2 q3.2).bind fun q4 => (some (q4.1, q4.2))) else (some (q3.1, q3.2))))) := by
    unfold X7_needed
    rw [a7]
  have s8 : X8_needed a1 a2 R = if X8_in (a1.toInt64) (0 : Int64) (A.toInt64) = 0 then ((X8_finds 1 R).bind fun q1 => (some (q1.1, q1.2))) else (if (X8_in (a2.toInt64) (0 : Int64) (20 : Int64)) = 0 then ((X8_finds 1 R).bind fun q19 => (some (q19.1, q19.2))) else ((X8_keepAside R).bind fun q2 => ((X8_needed_L47 400 a1 a2 (-1) 0 q2).bind fun q17 => (if q17.1 < 0 then ((X8_finds 2 q17.2).bind fun q18 => (some (q18.1, q18.2))) else (some (q17.1, q17.2)))))) := by
    unfold X8_needed
    rw [← hA]
  rw [s7, s8]
  have g8 : X8_in (a1.toInt64) (0 : Int64) (A.toInt64) = 0 ↔ ¬ (0 ≤ a1.toInt ∧ a1.toInt ≤ A.toInt) := by
    rw [in8, to64, to64]
    exact Iff.rfl
  by_cases c1 : ¬ (0 ≤ a1.toInt ∧ a1.toInt ≤ A.toInt)
  · rw [if_pos ((isWithin7 a1 A).mpr c1), if_pos (g8.mpr c1)]
    exact bad2 1 (by omega) (by omega) h bind_some2 bind_some2
  rw [if_neg (fun e => c1 ((isWithin7 a1 A).mp e)), if_neg (fun e => c1 (g8.mp e))]
  by_cases c2 : ¬ (0 ≤ a2.toInt ∧ a2.toInt ≤ 20)
  · rw [if_pos ((is7_20 a2).mpr c2), if_pos ((in8_0_20 a2).mpr c2)]
    exact bad2 1 (by omega) (by omega) h bind_some2 bind_some2
  rw [if_neg (fun e => c2 ((is7_20 a2).mp e)), if_neg (fun e => c2 ((in8_0_20 a2).mp e))]
  replace c2 := Decidable.not_not.mp c2
  obtain ⟨N, rfl, N1, N2⟩ := i_get c2 (by omega)
  obtain ⟨R1, k1, k2⟩ := keep8 R
  obtain ⟨b', C', R', r1, r2, r3, r4⟩ := need_L h (N := N) (a1 := a1) (by omega) 32 0 400 400 (-1) 6 C R1 rfl (by omega) (by omega) Fr.rf k2 (Or.inl ⟨rfl, rfl⟩)
  by_cases hb : b' < 0
  · refine bad2 2 (by omega) (by omega) (Rel_TH r3 (ThB_Fr r4) h) ?_ ?_
    · refine bs2 r1 fun P P1 P2 => ?_
      rw [P1, P2, if_pos hb]
      exact bind_some2
    · rw [k1, bs]
      refine bs2 r2 fun P P1 P2 => ?_
      rw [P1, P2, if_pos hb]
      exact bind_some2
  · refine ⟨b', C', R', ?_, ?_, Rel_TH r3 (ThB_Fr r4) h⟩
    · refine bs2 r1 fun P P1 P2 => ?_
      rw [P1, P2, if_neg hb]
    · rw [k1, bs]
      refine bs2 r2 fun P P1 P2 => ?_
      rw [P1, P2, if_neg hb]
theorem told_L {C R : Mem} {s c p : Nat} {w3 w4 w5 : Int32} (hs : s < 4) (hc : c ≤ 40) (hp10 : p < 10) (e5 : C 5 s 2 = Int32.ofNat c) (e29 : R 29 0 s = Int32.ofNat c) (en : ∀ k, k < 40 → C 15 s k = R 30 0 (40 * s + k)) : ∀ (m i fu fu' : Nat) (C1 Rp R1 : Mem), i + m = c → 1 ≤ i → m + 1 < fu → m + 1 < fu' → Fr TH C C1 → ThR R Rp → X8_yearsGo 1 Rp = some R1 → RelD 1 C1 (Rp 20 0) → p < nP (Rp 20 0) → ∃ r C' R', ((X7_isLikedAsTold_L24 fu s 1 (10 * 1 + p) (Int32.ofNat i) C1).bind fun q6 => match q6 with
  | .inl q6 => (some (1, q6))
  | .inr q6 => some q6) = some (r, C') ∧ X8_whose_L90 fu' (Int32.ofNat s) (Int32.ofNat p) w3 w4 w5 1 (Int32.ofNat i) R1 = some (r, R') ∧ Fr TH C C' ∧ ThR R R' := by
  intro m
  induction m with
  | zero =>
    intro i fu fu' C1 Rp R1 hi h1 hf hf' hC hRp hy h hp
    obtain ⟨fu, rfl⟩ : ∃ g, fu = g + 1 := ⟨fu - 1, by omega⟩
    obtain ⟨fu', rfl⟩ : ∃ g, fu' = g + 1 := ⟨fu' - 1, by omega⟩
    obtain ⟨C2, R2, k1, k2, k3, k4, k5, k6⟩ := thinkY (R := R) (N := 1) (by omega) hC hRp h
    obtain rfl : R2 = R1 := by
      have := k2.symm.trans hy
      injection this
    refine ⟨1, C1, R2, ?_, ?_, hC, k5⟩
    · rw [X7_isLikedAsTold_L24, hC 5 s 2 (nTHf (by omega)), e5, if_neg (by rw [i_ltn (by omega) (by omega)]; omega), bs]
    · rw [X8_whose_L90, if_pos (ib_of hs (by omega)), i_ofix (by omega), k5.1 29 0 s (by omega) (by omega) (by omega) (by omega), e29, if_neg (by rw [i_ltn (by omega) (by omega)]; omega)]
  | succ m ih =>
    intro i fu fu' C1 Rp R1 hi h1 hf hf' hC hRp hy h hp
    obtain ⟨fu, rfl⟩ : ∃ g, fu = g + 1 := ⟨fu - 1, by omega⟩
    obtain ⟨fu', rfl⟩ : ∃ g, fu' = g + 1 := ⟨fu' - 1, by omega⟩
    have lt : Int32.ofNat i < Int32.ofNat c := by rw [i_ltn (by omega) (by omega)]; omega
    obtain ⟨C2, R2, k1, k2, k3, k4, k5, k6⟩ := thinkY (R := R) (N := 1) (by omega) hC hRp h
    obtain rfl : R2 = R1 := by
      have := k2.symm.trans hy
      injection this
    obtain ⟨C3, R3, m1, m2, m3, m4, m5, m6⟩ := thinkY (R := R) (N := 1) (by omega) k4 k5 k3
    have hq1 := (RelD_n k3).2.2.2 p (by rw [k6]; exact hp)
    have e4 : C2 3 (10 * 1 + p) 4 = R2 20 0 (16 + 8 * p + 4) := pot_rd k3 hq1 (by omega)
    have e15 : C2 15 s i = R2 30 0 (40 * s + i) := by rw [k4 15 s i (nTHf (by omega)), k5.1 30 0 _ (by omega) (by omega) (by omega) (by omega)]; exact en i (by omega)
    have s7 : X7_isLikedAsTold_L24 (fu + 1) s 1 (10 * 1 + p) (Int32.ofNat i) C1 = if R2 20 0 (16 + 8 * p + 4) = R2 30 0 (40 * s + i) then X7_isLikedAsTold_L24 fu s 1 (10 * 1 + p) (Int32.ofNat (i + 1)) C2 else some (.inr (0, C2)) := by
      rw [X7_isLikedAsTold_L24, hC 5 s 2 (nTHf (by omega)), e5, if_pos lt, if_pos (show (0 : Int32) < Int32.ofNat i by rw [show (0 : Int32) = Int32.ofNat 0 from rfl, i_ltn (by omega) (by omega)]; omega), show X1_passYears 1 1 C1 = _ from k1, bs, if_pos (ib_of (k := i) (n := 40) (by omega) (by omega)), i_ofix (by omega), e4, e15, i_succ]
    have s8 : X8_whose_L90 (fu' + 1) (Int32.ofNat s) (Int32.ofNat p) w3 w4 w5 1 (Int32.ofNat i) R2 = if R2 30 0 (40 * s + i) = R2 20 0 (16 + 8 * p + 4) then X8_whose_L90 fu' (Int32.ofNat s) (Int32.ofNat p) w3 w4 w5 1 (Int32.ofNat (i + 1)) R3 else X8_whose_L90 fu' (Int32.ofNat s) (Int32.ofNat p) w3 w4 w5 0 (Int32.ofNat (i + 1)) R3 := by
      rw [X8_whose_L90, if_pos (ib_of hs (by omega)), i_ofix (n := s) (by omega), k5.1 29 0 s (by omega) (by omega) (by omega) (by omega), e29, if_pos lt, if_neg (show ¬ (1 : Int32) = 0 by decide), sh_ix, if_pos (ib_of (k := 40 * s + i) (n := 160) (by omega) (by omega)), o8_4 hp10, bs, i_ofix (by omega), show X8_yearsGo 1 R2 = _ from m2, bs, bs, i_succ]
    rw [s7, s8]
    by_cases hb : R2 20 0 (16 + 8 * p + 4) = R2 30 0 (40 * s + i)
    · rw [if_pos hb, if_pos hb.symm]
      exact ih (i + 1) fu fu' C2 R2 R3 (by omega) (by omega) (by omega) (by omega) k4 k5 m2 k3 (by rw [k6]; exact hp)
    · rw [if_neg hb, if_neg (fun e => hb e.symm)]
      refine ⟨0, C2, R3, by rw [bs], ?_, k4, m5⟩
      obtain ⟨fu', rfl⟩ : ∃ g, fu' = g + 1 := ⟨fu' - 1, by omega⟩
      rw [X8_whose_L90, if_pos (ib_of hs (by omega)), if_pos (show (0 : Int32) = 0 from rfl)]
      split <;> rfl
theorem told_0 {C R : Mem} {s c p : Nat} {w3 w4 w5 : Int32} (hs : s < 4) (hc : c ≤ 40) (hp10 : p < 10) (e5 : C 5 s 2 = Int32.ofNat c) (e29 : R 29 0 s = Int32.ofNat c) (en : ∀ k, k < 40 → C 15 s k = R 30 0 (40 * s + k)) {C1 R1 : Mem} (hC : Fr TH C C1) (hR : ThR R R1) (h : RelD 1 C1 (R1 20 0)) (hp : p < nP (R1 20 0)) : ∃ r C' R', ((X7_isLikedAsTold_L24 400 s 1 (10 * 1 + p) 0 C1).bind fun q6 => match q6 with
  | .inl q6 => (some (1, q6))
  | .inr q6 => some q6) = some (r, C') ∧ X8_whose_L90 400 (Int32.ofNat s) (Int32.ofNat p) w3 w4 w5 1 0 R1 = some (r, R') ∧ Fr TH C C' ∧ ThR R R' := by
  show ∃ r C' R', ((X7_isLikedAsTold_L24 (399 + 1) s 1 (10 * 1 + p) 0 C1).bind _) = some (r, C') ∧ X8_whose_L90 (399 + 1) (Int32.ofNat s) (Int32.ofNat p) w3 w4 w5 1 0 R1 = some (r, R') ∧ Fr TH C C' ∧ ThR R R'
  by_cases hc0 : c = 0
  · subst hc0
    refine ⟨1, C1, R1, ?_, ?_, hC, hR⟩
    · rw [X7_isLikedAsTold_L24, hC 5 s 2 (nTHf (by omega)), e5, if_neg (by decide), bs]
    · rw [X8_whose_L90, if_pos (ib_of hs (by omega)), i_ofix (by omega), hR.1 29 0 s (by omega) (by omega) (by omega) (by omega), e29, if_neg (by decide)]
  · have lt : (0 : Int32) < Int32.ofNat c := by rw [show (0 : Int32) = Int32.ofNat 0 from rfl, i_ltn (by omega) (by omega)]; omega
    obtain ⟨C3, R3, m1, m2, m3, m4, m5, m6⟩ := thinkY (R := R) (N := 1) (by omega) hC hR h
    have hq1 := (RelD_n h).2.2.2 p hp
    have e4 : C1 3 (10 * 1 + p) 4 = R1 20 0 (16 + 8 * p + 4) := pot_rd h hq1 (by omega)
    have e15 : C1 15 s 0 = R1 30 0 (40 * s + 0) := by rw [hC 15 s 0 (nTHf (by omega)), hR.1 30 0 _ (by omega) (by omega) (by omega) (by omega)]; exact en 0 (by omega)
    have s7 : X7_isLikedAsTold_L24 (399 + 1) s 1 (10 * 1 + p) 0 C1 = if R1 20 0 (16 + 8 * p + 4) = R1 30 0 (40 * s + 0) then X7_isLikedAsTold_L24 399 s 1 (10 * 1 + p) (Int32.ofNat 1) C1 else some (.inr (0, C1)) := by
      rw [X7_isLikedAsTold_L24, hC 5 s 2 (nTHf (by omega)), e5, if_pos lt, if_neg (show ¬ (0 : Int32) < 0 by decide), if_pos (show ib 0 40 = true by decide), show (0 : Int32).toNatClampNeg = 0 from rfl, e4, e15]
      rfl
    have s8 : X8_whose_L90 (399 + 1) (Int32.ofNat s) (Int32.ofNat p) w3 w4 w5 1 0 R1 = if R1 30 0 (40 * s + 0) = R1 20 0 (16 + 8 * p + 4) then X8_whose_L90 399 (Int32.ofNat s) (Int32.ofNat p) w3 w4 w5 1 (Int32.ofNat 1) R3 else X8_whose_L90 399 (Int32.ofNat s) (Int32.ofNat p) w3 w4 w5 0 (Int32.ofNat 1) R3 := by
      rw [X8_whose_L90, if_pos (ib_of hs (by omega)), i_ofix (n := s) (by omega), hR.1 29 0 s (by omega) (by omega) (by omega) (by omega), e29, if_pos lt, if_neg (show ¬ (1 : Int32) = 0 by decide), show (40 * Int32.ofNat s + 0 : Int32) = Int32.ofNat (40 * s + 0) from sh_ix s 0, if_pos (ib_of (k := 40 * s + 0) (n := 160) (by omega) (by omega)), o8_4 hp10, bs, i_ofix (by omega), show X8_yearsGo 1 R1 = _ from m2, bs, bs]
      rfl
    rw [s7, s8]
    by_cases hb : R1 20 0 (16 + 8 * p + 4) = R1 30 0 (40 * s + 0)
    · rw [if_pos hb, if_pos hb.symm]
      exact told_L hs hc hp10 e5 e29 en (c - 1) 1 399 399 C1 R1 R3 (by omega) (by omega) (by omega) (by omega) hC hR m2 h hp
    · rw [if_neg hb, if_neg (fun e => hb e.symm)]
      refine ⟨0, C1, R3, by rw [bs], ?_, hC, m5⟩
      show X8_whose_L90 (398 + 1) _ _ _ _ _ _ _ _ = _
      rw [X8_whose_L90, if_pos (ib_of hs (by omega)), if_pos (show (0 : Int32) = 0 from rfl)]
      split <;> rfl
theorem whose_L {C R : Mem} (h : Rel C R) {s c p : Nat} {w : Int32} (hs : s < 4) (hc : c ≤ 40) (e5 : C 5 s 2 = Int32.ofNat c) (e29 : R 29 0 s = Int32.ofNat c) (en : ∀ k, k < 40 → C 15 s k = R 30 0 (40 * s + k)) (hp : p < nP (R 20 0)) : ∀ (m q fu fu' a : Nat) (C1 R1 : Mem), q + m = 5 → m < fu → m < fu' → a < 2 ^ q → Fr TH C C1 → ThB R R1 → ∃ a' C' R', X7_whose_L78 fu (Int32.ofNat s) (Int32.ofNat p) w (Int32.ofNat a) (Int32.ofNat q) C1 = some (Int32.ofNat a', C') ∧ X8_whose_L70 fu' (Int32.ofNat s) (Int32.ofNat p) w (Int32.ofNat a) (Int32.ofNat q) R1 = some (Int32.ofNat a', R') ∧ a' < 32 ∧ Fr TH C C' ∧ ThB R R' := by
  intro m
  induction m with
  | zero =>
    intro q fu fu' a C1 R1 hq hf hf' ha hC hR
    obtain ⟨fu, rfl⟩ : ∃ g, fu = g + 1 := ⟨fu - 1, by omega⟩
    obtain ⟨fu', rfl⟩ : ∃ g, fu' = g + 1 := ⟨fu' - 1, by omega⟩
    obtain rfl : q = 5 := by omega
    exact ⟨a, C1, R1, by rw [X7_whose_L78, if_neg (by decide)], by rw [X8_whose_L70, if_neg (by decide)], ha, hC, hR⟩
  | succ m ih =>
    intro q fu fu' a C1 R1 hq hf hf' ha hC hR
    obtain ⟨fu, rfl⟩ : ∃ g, fu = g + 1 := ⟨fu - 1, by omega⟩
    obtain ⟨fu', rfl⟩ : ∃ g, fu' = g + 1 := ⟨fu' - 1, by omega⟩
    have hp10 : p < 10 := by
      have := (RelD_n h.1).1
      omega
    have lt : Int32.ofNat q < 5 := by rw [show (5 : Int32) = Int32.ofNat 5 from rfl, i_ltn (by omega) (by omega)]; omega
    obtain ⟨C2, -, g1, g3, g4⟩ := think0 h hC hR
    have hq1 := (RelD_n g3).2.2.2 p (by rw [think_n hR]; exact hp)
    have s3 := RelD_pot (k := 2) (v := Int32.ofNat q) hq1 (by omega) (show rngP 2 _ from ⟨by rw [i_of (by omega)]; omega, by rw [i_of (by omega)]; omega⟩) g3
    rw [← up_row] at s3
    obtain ⟨r, C3, R3, t1, t2, t3, t4⟩ := told_0 (w3 := w) (w4 := Int32.ofNat a) (w5 := Int32.ofNat q) hs hc hp10 e5 e29 en (g4.tr (Fr.up (v := Int32.ofNat q) (k := 2) (show TH 3 (10 * 1 + p) by unfold TH; omega))) (ThR_up hR.1 (by omega)) s3 (by rw [nP_cg (D := R1 20 0) (up3_k (by omega)), think_n hR]; exact hp)
    obtain ⟨R4, b1, b2⟩ := back8 t4
    have ev : X7_isLikedAsTold s (Int32.ofNat p) (Int32.ofNat q) C1 = some (r, C3) := by
      unfold X7_isLikedAsTold
      refine bs2 g1 fun P P1 P2 => ?_
      rw [P1, P2, if_pos (show 1 < 3 by decide), if_pos (ib_of hp10 (by omega)), i_ofix (by omega)]
      exact t1
    have s7 : X7_whose_L78 (fu + 1) (Int32.ofNat s) (Int32.ofNat p) w (Int32.ofNat a) (Int32.ofNat q) C1 = if r = 0 then X7_whose_L78 fu (Int32.ofNat s) (Int32.ofNat p) w (Int32.ofNat a) (Int32.ofNat (q + 1)) C3 else X7_whose_L78 fu (Int32.ofNat s) (Int32.ofNat p) w (Int32.ofNat (a + 2 ^ q)) (Int32.ofNat (q + 1)) C3 := by
      rw [X7_whose_L78, if_pos lt, if_pos (ib_of hs (by omega)), i_ofix (by omega)]
      refine bs2 ev fun P P1 P2 => ?_
      rw [P1, P2, or_bit q (by omega) a ha, i_succ]
    have s8 : X8_whose_L70 (fu' + 1) (Int32.ofNat s) (Int32.ofNat p) w (Int32.ofNat a) (Int32.ofNat q) R1 = if r = 0 then X8_whose_L70 fu' (Int32.ofNat s) (Int32.ofNat p) w (Int32.ofNat a) (Int32.ofNat (q + 1)) R4 else X8_whose_L70 fu' (Int32.ofNat s) (Int32.ofNat p) w (Int32.ofNat (a + 2 ^ q)) (Int32.ofNat (q + 1)) R4 := by
      rw [X8_whose_L70, if_pos lt, s8_2 hp10, bs]
      refine bs2 t2 fun P P1 P2 => ?_
      rw [P1, P2, b1, bs, or_bit q (by omega) a ha, i_or0, i_succ]
    have ha2 : a + 2 ^ q < 2 ^ (q + 1) := by rw [Nat.pow_succ]; omega
    rw [s7, s8]
    by_cases hr : r = 0
    · rw [if_pos hr, if_pos hr]
      exact ih (q + 1) fu fu' a C3 R4 (by omega) (by omega) (by omega) (by omega) t3 b2
    · rw [if_neg hr, if_neg hr]
      exact ih (q + 1) fu fu' _ C3 R4 (by omega) (by omega) (by omega) ha2 t3 b2
theorem eq_whose (a1 a2 a3 : Int32) : EqP Rel (X7_whose a1 a2 a3) (X8_whose a1 a2 a3) := by
  intro C R h
  obtain ⟨n, n1, n2, n3, -⟩ := id h.1
  by_cases c1 : ¬ (0 ≤ a1.toInt ∧ a1.toInt ≤ 3)
  · refine bad 1 (by omega) (by omega) h ?_ ?_
    · unfold X7_whose
      rw [if_pos ((sheet7 _).mpr c1)]
      exact bind_some2
    · unfold X8_whose
      rw [if_pos ((sheet8 _).mpr c1)]
      exact bind_some2
  replace c1 := Decidable.not_not.mp c1
  by_cases c2 : ¬ (0 ≤ a2.toInt ∧ a2.toInt < n)
  · refine bad 1 (by omega) (by omega) h ?_ ?_
    · unfold X7_whose
      rw [if_neg (by rw [sheet7]; exact not_not_intro c1), if_pos ((has7 n1 n2 _).mpr c2)]
      exact bind_some2
    · unfold X8_whose
      rw [if_neg (by rw [sheet8]; exact not_not_intro c1), if_pos ((pot8 n1 n3 _).mpr c2)]
      exact bind_some2
  replace c2 := Decidable.not_not.mp c2
  by_cases c3 : ¬ (0 ≤ a3.toInt ∧ a3.toInt ≤ 1)
  · refine bad 1 (by omega) (by omega) h ?_ ?_
    · unfold X7_whose
      rw [if_neg (by rw [sheet7]; exact not_not_intro c1), if_neg (by rw [has7 n1 n2]; exact not_not_intro c2), if_pos ((is7_1 _).mpr c3)]
      exact bind_some2
    · unfold X8_whose
      rw [if_neg (by rw [sheet8]; exact not_not_intro c1), if_neg (by rw [pot8 n1 n3]; exact not_not_intro c2), if_pos ((in8_0_1 _).mpr c3)]
      exact bind_some2
  replace c3 := Decidable.not_not.mp c3
  have en : nP (R 20 0) = n := by
    unfold nP
    rw [n3, i_of (by omega)]
    rfl
  obtain ⟨s, hs, rfl⟩ := i_small (n := 4) c1.1 (by omega)
  obtain ⟨p, hp, rfl⟩ := i_small (n := n) c2.1 c2.2
  have hp10 : p < 10 := by omega
  have ix : (Int32.ofNat p).toNatClampNeg = p := i_ofix (by omega)
  have ibp : ib (Int32.ofNat p) 10 = true := ib_of (by omega) (by omega)
  have ixs : (Int32.ofNat s).toNatClampNeg = s := i_ofix (by omega)
  have ibs : ib (Int32.ofNat s) 4 = true := ib_of hs (by omega)
  have hq := (RelD_n h.1).2.2.2 p (by rw [en]; exact hp)
  have e2 : C 3 (10 * 0 + p) 2 = R 20 0 (16 + 8 * p + 2) := pot_rd h.1 hq (by omega)
  have hb := home_b h.1 (p := p) (by rw [en]; exact hp)
  obtain ⟨⟨d1, -⟩, ⟨c, hc, d2, d3⟩, d4⟩ := h.2.2.2.2.2 s hs
  by_cases hh : R 20 0 (16 + 8 * p + 2) < 0
  · refine bad 3 (by omega) (by omega) h ?_ ?_
    · unfold X7_whose; rw [if_neg (by rw [sheet7]; exact not_not_intro c1), if_neg (by rw [has7 n1 n2]; exact not_not_intro c2), if_neg (by rw [is7_1]; exact not_not_intro c3)]
      rw [if_pos ibp, ix, e2, if_pos (hb.mpr hh)]
      exact bind_some2
    · unfold X8_whose; rw [if_neg (by rw [sheet8]; exact not_not_intro c1), if_neg (by rw [pot8 n1 n3]; exact not_not_intro c2), if_neg (by rw [in8_0_1]; exact not_not_intro c3)]
      rw [broken8 hp10, bs, if_pos hh, if_neg (by decide)]
      exact bind_some2
  by_cases hm : R 28 0 s = 0
  · refine bad 2 (by omega) (by omega) h ?_ ?_
    · unfold X7_whose; rw [if_neg (by rw [sheet7]; exact not_not_intro c1), if_neg (by rw [has7 n1 n2]; exact not_not_intro c2), if_neg (by rw [is7_1]; exact not_not_intro c3)]
      rw [if_pos ibp, ix, e2, if_neg (fun e => hh (hb.mp e)), if_pos ibs, ixs]
      unfold X5_isMissing
      rw [d1, if_pos hm, if_neg (by decide)]
      exact bind_some2
    · unfold X8_whose; rw [if_neg (by rw [sheet8]; exact not_not_intro c1), if_neg (by rw [pot8 n1 n3]; exact not_not_intro c2), if_neg (by rw [in8_0_1]; exact not_not_intro c3)]
      rw [broken8 hp10, bs, if_neg hh, if_pos (by decide), if_pos ibs, ixs, if_pos hm]
      exact bind_some2
  obtain ⟨R1, k1, k2⟩ := keep8 R
  obtain ⟨a, C', R', r1, r2, ha, r3, r4⟩ := whose_L h (w := a3) hs hc d2 d3 d4 (by rw [en]; exact hp) 5 0 400 400 0 C R1 rfl (by omega) (by omega) (by decide) Fr.rf k2
  refine ⟨if a3 = 0 then Int32.ofNat a else J6_bitCount_0f7a4 (Int32.ofNat a), C', R', ?_, ?_, Rel_TH r3 (ThB_Fr r4) h⟩
  · unfold X7_whose; rw [if_neg (by rw [sheet7]; exact not_not_intro c1), if_neg (by rw [has7 n1 n2]; exact not_not_intro c2), if_neg (by rw [is7_1]; exact not_not_intro c3)]
    rw [if_pos ibp, ix, e2, if_neg (fun e => hh (hb.mp e)), if_pos ibs, ixs]
    unfold X5_isMissing
    rw [d1, if_neg hm, if_pos (by decide), show X7_whose_L78 400 (Int32.ofNat s) (Int32.ofNat p) a3 0 0 C = _ from r1, bs]
    split <;> rfl
  · unfold X8_whose; rw [if_neg (by rw [sheet8]; exact not_not_intro c1), if_neg (by rw [pot8 n1 n3]; exact not_not_intro c2), if_neg (by rw [in8_0_1]; exact not_not_intro c3)]
    rw [broken8 hp10, bs, if_neg hh, if_pos (by decide), if_pos ibs, ixs, if_neg hm, k1, bs, show X8_whose_L70 400 (Int32.ofNat s) (Int32.ofNat p) a3 0 0 R1 = _ from r2, bs]
    dsimp only
    rw [bits_ok a (by omega)]
    split <;> rfl
