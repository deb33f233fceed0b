theorem rng7 {α : Type} {v lo hi : Int32} {E X : α} : (if v < lo then E else if hi < v then E else X) = if lo.toInt ≤ v.toInt ∧ v.toInt ≤ hi.toInt then X else E := by
  by_cases h1 : v < lo
  · rw [if_pos h1, if_neg (by rw [i_lt] at h1; omega)]
  · rw [if_neg h1]
    by_cases h2 : hi < v
    · rw [if_pos h2, if_neg (by rw [i_lt] at h2; omega)]
    · rw [if_neg h2, if_pos (by rw [i_lt] at h1 h2; omega)]
theorem rng8 {α : Type} {v : Int32} {lo hi : Int64} {a b : Int} {E X : α} (ha : lo.toInt = a) (hb : hi.toInt = b) : (if X8_in (v.toInt64) lo hi = 0 then E else X) = if a ≤ v.toInt ∧ v.toInt ≤ b then X else E := by
  by_cases h : X8_in (v.toInt64) lo hi = 0
  · rw [if_pos h, if_neg ((in8i v ha hb).mp h)]
  · rw [if_neg h, if_pos (Decidable.not_not.mp (fun e => h ((in8i v ha hb).mpr e)))]
theorem year_eq {b : Nat} {C : Mem} {D : Nat → Int32} (h : RelD b C D) : C 1 b 6 = D 1 := by
  obtain ⟨n, -, -, -, -, n5, -⟩ := h
  exact n5
theorem eq_years (a1 : Int32) : EqP Rel (X7_years a1) (X8_years a1) := by
  intro C R h
  unfold X7_years X8_years
  rw [rng7, rng8 (a := 1) (b := 60) rfl rfl]
  by_cases c1 : 1 ≤ a1.toInt ∧ a1.toInt ≤ 60
  · rw [if_pos (show (1 : Int32).toInt ≤ a1.toInt ∧ a1.toInt ≤ (60 : Int32).toInt from c1), if_pos c1, year_eq h.1]
    by_cases c2 : 9999 < R 20 0 1 + a1
    · rw [if_pos c2, if_pos c2]
      exact bad2 3 (by omega) (by omega) h bind_some2 bind_some2
    · rw [if_neg c2, if_neg c2]
      obtain ⟨N, rfl, N1, N2⟩ := i_get c1 (by omega)
      obtain ⟨C', R', g1, g2, g3, g4, g5⟩ := years_eq (b := 0) (N := N) (by omega) (by omega) h.1
      refine ⟨smN (fun p => R' 20 0 (16 + 8 * p + 6)) (nP (R' 20 0)), C', R', ?_, ?_, Rel_Y g4 g5 g3 h⟩
      · rw [g1, bs, hands7 g3]
        rfl
      · rw [g2, bs, hands8 g3]
        rfl
  · rw [if_neg (show ¬ ((1 : Int32).toInt ≤ a1.toInt ∧ a1.toInt ≤ (60 : Int32).toInt) from c1), if_neg c1]
    exact bad2 1 (by omega) (by omega) h bind_some2 bind_some2
theorem ushr8 (z : Int32) : 0 ≤ (jushr z 8).toInt ∧ (jushr z 8).toInt < 16777216 := by
  have e : (jushr z 8).toInt = ((z.toUInt32 >>> 8).toNat : Int) := by
    unfold jushr
    have h : (z.toUInt32 >>> ((8 : Int32).toUInt32 &&& Int32.toUInt32 31)) = z.toUInt32 >>> 8 := rfl
    rw [h]
    have hb : (z.toUInt32 >>> 8).toNat < 16777216 := by
      rw [UInt32.toNat_shiftRight]
      have := z.toUInt32.toNat_lt
      show z.toUInt32.toNat >>> 8 < _
      rw [Nat.shiftRight_eq_div_pow]
      omega
    show (BitVec.toInt (z.toUInt32 >>> 8).toBitVec) = _
    rw [BitVec.toInt_eq_toNat_of_lt]
    · rfl
    · show 2 * (z.toUInt32 >>> 8).toNat < 2 ^ 32
      omega
  have hb : (z.toUInt32 >>> 8).toNat < 16777216 := by
    rw [UInt32.toNat_shiftRight]
    have := z.toUInt32.toNat_lt
    show z.toUInt32.toNat >>> 8 < _
    rw [Nat.shiftRight_eq_div_pow]
    omega
  rw [e]
  omega
/-- one YEAR by a draw, on both sides -/
theorem loose_step {C R : Mem} (h : Rel C R) : ∃ C' R', (X0_draw 0 C).bind (fun q2 => (if 0 < (q2.2 1 0 5) then (if (q2.2 1 0 5) = 0 then none else (if ib (jrem q2.1 (q2.2 1 0 5)) 10 = true then (X1_passYears 0 1 (up3 q2.2 3 (10 * 0 + (jrem q2.1 (q2.2 1 0 5)).toNatClampNeg) 3 (jrem (q2.1 / 8) 10))) else none)) else (X1_passYears 0 1 q2.2))) = some C' ∧ (X8_drawn R).bind (fun q1 => (if 0 < (q1.2 20 0 0) then (if (q1.2 20 0 0) = 0 then none else ((X8_sets (jrem q1.1 (q1.2 20 0 0)) 3 (jrem (q1.1 / 8) 10) q1.2).bind fun q4 => (X8_yearsGo 1 q4))) else (X8_yearsGo 1 q1.2))) = some R' ∧ Rel C' R' := by
  obtain ⟨n1, n2, n3, n4⟩ := RelD_n h.1
  have ez : C 0 0 4 = R 20 0 3 := h.2.1.1
  obtain ⟨z, hz⟩ : ∃ z, z = R 20 0 3 * 1103515245 + 12345 := ⟨_, rfl⟩
  obtain ⟨x, hx⟩ : ∃ x, x = jushr z 8 := ⟨_, rfl⟩
  have x1 : 0 ≤ x.toInt ∧ x.toInt < 16777216 := by rw [hx]; exact ushr8 z
  have hr : Rel (up3 C 0 0 4 z) (up3 R 20 0 3 z) := by
    refine Rel_dsk1 ⟨Or.inl rfl, rfl⟩ (by unfold supK; omega) ?_ h
    obtain ⟨k1, ⟨t, t1, t2, t3, t4⟩, w, w1, w2, w3, w4⟩ := h.2.1
    refine ⟨?_, ⟨t, t1, (up3_k (by decide)).trans t2, (upD_ne (by decide)).trans t3, fun k hk => ?_⟩, w, w1, (up3_k (by decide)).trans w2, (upD_ne (by decide)).trans w3, fun k hk => ?_⟩
    · rw [up3_eq, upD_eq]
    · rw [up3_f (by decide), upD_ne (by omega)]; exact t4 k hk
    · rw [up3_f (by decide), upD_ne (by omega)]; exact w4 k hk
  obtain ⟨C1, eC⟩ : ∃ C1, C1 = up3 C 0 0 4 z := ⟨_, rfl⟩
  obtain ⟨R1, eR⟩ : ∃ R1, R1 = up3 R 20 0 3 z := ⟨_, rfl⟩
  have d7 : X0_draw 0 C = some (x, C1) := by
    unfold X0_draw
    rw [ez, ← hz, ← hx, ← eC]
  have d8 : X8_drawn R = some (x, R1) := by
    unfold X8_drawn
    rw [← hz, ← hx, ← eR]
  rw [← eC, ← eR] at hr
  have m2 : C1 1 0 5 = Int32.ofNat (nP (R 20 0)) := by rw [eC, up3_f (by decide)]; exact n2
  have m3 : R1 20 0 0 = Int32.ofNat (nP (R 20 0)) := by rw [eR, up3_k (by decide)]; exact n3
  have mP : nP (R1 20 0) = nP (R 20 0) := nP_cg (by rw [eR, up3_k (by decide)])
  have ystep : ∀ {C2 R2 : Mem}, Rel C2 R2 → ∃ C' R', X1_passYears 0 1 C2 = some C' ∧ X8_yearsGo 1 R2 = some R' ∧ Rel C' R' := by
    intro C2 R2 h2
    obtain ⟨C', R', g1, g2, g3, g4, g5⟩ := years_eq (b := 0) (N := 1) (by omega) (by omega) h2.1
    exact ⟨C', R', g1, g2, Rel_Y g4 g5 g3 h2⟩
  by_cases hn : 0 < nP (R 20 0)
  · have c1 : (0 : Int32) < Int32.ofNat (nP (R 20 0)) := by rw [show (0 : Int32) = Int32.ofNat 0 from rfl, i_ltn (by omega) (by omega)]; exact hn
    have c2 : ¬ Int32.ofNat (nP (R 20 0)) = 0 := by rw [i_eq, i_of (by omega), i_z]; omega
    have er : (jrem x (Int32.ofNat (nP (R 20 0)))).toInt = x.toInt % (nP (R 20 0) : Int) := i_rem x1.1 hn (by omega)
    obtain ⟨p, hp, ep⟩ := i_small (n := nP (R 20 0)) (x := jrem x (Int32.ofNat (nP (R 20 0)))) (by rw [er]; exact Int.emod_nonneg _ (by omega)) (by rw [er]; exact Int.emod_lt_of_pos _ (by omega))
    have e8 : (x / 8).toInt = x.toInt / 8 := by
      have e := i_div (x := x) (m := 8) (by omega) (by omega)
      rw [Int.tdiv_eq_ediv_of_nonneg x1.1] at e
      exact e
    have ew : (jrem (x / 8) 10).toInt = (x / 8).toInt % 10 := i_rem (x := x / 8) (m := 10) (by rw [e8]; omega) (by omega) (by omega)
    have rg : rngP 3 (jrem (x / 8) 10) := ⟨by rw [ew]; omega, by rw [ew]; omega⟩
    have hp2 : (p : Int) < (C1 1 0 5).toInt := by rw [m2, i_of (by omega)]; omega
    obtain ⟨C', R', g1, g2, g3⟩ := ystep (Rel_pot (k := 3) hp2 (by omega) (by omega) rg hr)
    refine ⟨C', R', ?_, ?_, g3⟩
    · refine bs2 d7 fun P P1 P2 => ?_
      rw [P1, P2, m2, if_pos c1, if_neg c2, ep, if_pos (ib_of (by omega) (by omega)), i_ofix (by omega)]
      exact g1
    · refine bs2 d8 fun P P1 P2 => ?_
      rw [P1, P2, m3, if_pos c1, if_neg c2, ep, s8_3 (by omega), bs]
      exact g2
  · have c1 : ¬ (0 : Int32) < Int32.ofNat (nP (R 20 0)) := by rw [show (0 : Int32) = Int32.ofNat 0 from rfl, i_ltn (by omega) (by omega)]; exact hn
    obtain ⟨C', R', g1, g2, g3⟩ := ystep hr
    refine ⟨C', R', ?_, ?_, g3⟩
    · refine bs2 d7 fun P P1 P2 => ?_
      rw [P1, P2, m2, if_neg c1]
      exact g1
    · refine bs2 d8 fun P P1 P2 => ?_
      rw [P1, P2, m3, if_neg c1]
      exact g2
theorem loose_u7 (fu : Nat) (v1 v2 : Int32) (M : Mem) : X7_loose_L40 (fu + 1) v1 v2 M = if v2 < v1 then ((X0_draw 0 M).bind (fun q2 => (if 0 < (q2.2 1 0 5) then (if (q2.2 1 0 5) = 0 then none else (if ib (jrem q2.1 (q2.2 1 0 5)) 10 = true then (X1_passYears 0 1 (up3 q2.2 3 (10 * 0 + (jrem q2.1 (q2.2 1 0 5)).toNatClampNeg) 3 (jrem (q2.1 / 8) 10))) else none)) else (X1_passYears 0 1 q2.2)))).bind (fun q => X7_loose_L40 fu v1 (v2 + 1) q) else some M := by
  rw [X7_loose_L40]
  by_cases h : v2 < v1
  · rw [if_pos h, if_pos h]
    unfold X0_draw
    rw [bs, bs]
    split
    · split
      · rfl
      · split
        · rfl
        · rfl
    · rfl
  · rw [if_neg h, if_neg h]
theorem loose_u8 (fu : Nat) (v1 v2 : Int32) (M : Mem) : X8_loose_L40 (fu + 1) v1 v2 M = if v2 < v1 then ((X8_drawn M).bind (fun q1 => (if 0 < (q1.2 20 0 0) then (if (q1.2 20 0 0) = 0 then none else ((X8_sets (jrem q1.1 (q1.2 20 0 0)) 3 (jrem (q1.1 / 8) 10) q1.2).bind fun q4 => (X8_yearsGo 1 q4))) else (X8_yearsGo 1 q1.2)))).bind (fun q => X8_loose_L40 fu v1 (v2 + 1) q) else some M := by
  rw [X8_loose_L40]
  by_cases h : v2 < v1
  · rw [if_pos h, if_pos h]
    unfold X8_drawn
    rw [bs, bs]
    split
    · split
      · rfl
      · rw [Option.bind_assoc]
    · rfl
  · rw [if_neg h, if_neg h]
theorem loose_L {N : Nat} (hN : N < 100) : ∀ (m i fu fu' : Nat) (C R : Mem), i + m = N → m < fu → m < fu' → Rel C R → ∃ C' R', X7_loose_L40 fu (Int32.ofNat N) (Int32.ofNat i) C = some C' ∧ X8_loose_L40 fu' (Int32.ofNat N) (Int32.ofNat i) R = some R' ∧ Rel C' R' := by
  intro m
  induction m with
  | zero =>
    intro i fu fu' C R hi hf hf' h
    obtain ⟨fu, rfl⟩ : ∃ g, fu = g + 1 := ⟨fu - 1, by omega⟩
    obtain ⟨fu', rfl⟩ : ∃ g, fu' = g + 1 := ⟨fu' - 1, by omega⟩
    refine ⟨C, R, ?_, ?_, h⟩
    · rw [loose_u7, if_neg (by rw [i_ltn (by omega) (by omega)]; omega)]
    · rw [loose_u8, if_neg (by rw [i_ltn (by omega) (by omega)]; omega)]
  | succ m ih =>
    intro i fu fu' C R hi hf hf' h
    obtain ⟨fu, rfl⟩ : ∃ g, fu = g + 1 := ⟨fu - 1, by omega⟩
    obtain ⟨fu', rfl⟩ : ∃ g, fu' = g + 1 := ⟨fu' - 1, by omega⟩
    obtain ⟨C1, R1, g1, g2, g3⟩ := loose_step h
    obtain ⟨C2, R2, k1, k2, k3⟩ := ih (i + 1) fu fu' C1 R1 (by omega) (by omega) (by omega) g3
    refine ⟨C2, R2, ?_, ?_, k3⟩
    · rw [loose_u7, if_pos (by rw [i_ltn (by omega) (by omega)]; omega), g1, bs, i_succ]
      exact k1
    · rw [loose_u8, if_pos (by rw [i_ltn (by omega) (by omega)]; omega), g2, bs, i_succ]
      exact k2
theorem eq_loose (a1 : Int32) : EqP Rel (X7_loose a1) (X8_loose a1) := by
  intro C R h
  unfold X7_loose X8_loose
  rw [rng7, rng8 (a := 1) (b := 40) rfl rfl]
  by_cases c1 : 1 ≤ a1.toInt ∧ a1.toInt ≤ 40
  · rw [if_pos (show (1 : Int32).toInt ≤ a1.toInt ∧ a1.toInt ≤ (40 : Int32).toInt from c1), if_pos c1, year_eq h.1]
    by_cases c2 : 9999 < R 20 0 1 + a1
    · rw [if_pos c2, if_pos c2]
      exact bad2 3 (by omega) (by omega) h bind_some2 bind_some2
    · rw [if_neg c2, if_neg c2]
      obtain ⟨N, rfl, N1, N2⟩ := i_get c1 (by omega)
      obtain ⟨C', R', g1, g2, g3⟩ := loose_L (N := N) (by omega) N 0 400 400 C R (by omega) (by omega) (by omega) h
      refine ⟨smN (fun p => R' 20 0 (16 + 8 * p + 6)) (nP (R' 20 0)), C', R', ?_, ?_, g3⟩
      · rw [show X7_loose_L40 400 (Int32.ofNat N) 0 C = _ from g1, bs, hands7 g3.1]
        rfl
      · rw [show X8_loose_L40 400 (Int32.ofNat N) 0 R = _ from g2, bs, hands8 g3.1]
        rfl
  · rw [if_neg (show ¬ ((1 : Int32).toInt ≤ a1.toInt ∧ a1.toInt ≤ (40 : Int32).toInt) from c1), if_neg c1]
    exact bad2 1 (by omega) (by omega) h bind_some2 bind_some2
