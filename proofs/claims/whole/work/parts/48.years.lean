theorem bs2 {α β γ : Type} {x : Option (α × β)} {a : α} {b : β} {f : α × β → Option γ} {y : Option γ} (h : x = some (a, b)) (k : ∀ P : α × β, P.1 = a → P.2 = b → f P = y) : x.bind f = y := by
  rw [h]
  exact k (a, b) rfl rfl
theorem h_ix (q : Nat) : (6 + (2 * Int32.ofNat q) : Int32) = Int32.ofNat (6 + 2 * q) := by
  rw [show (6 : Int32) = Int32.ofNat 6 from rfl, show (2 : Int32) = Int32.ofNat 2 from rfl, i_ofmul, i_ofadd]
theorem house_rd {b q : Nat} {C : Mem} {D : Nat → Int32} (h : RelD b C D) (hq : q < 5) : C 10 b q = D (6 + 2 * q) ∧ C 11 b q = D (6 + 2 * q + 1) ∧ inR (D (6 + 2 * q)) 0 9 ∧ inR (D (6 + 2 * q + 1)) 0 9 := by
  obtain ⟨n, n1, n2, n3, n4, n5, n6, n7, n8, n9⟩ := h
  exact n8 q hq
theorem pot_ok {b p : Nat} {C : Mem} {D : Nat → Int32} (h : RelD b C D) (hp : p < nP D) : potOK (fun k => D (16 + 8 * p + k)) := fun k hk => pot_rg h ((RelD_n h).2.2.2 p hp) hk
theorem warms8 {b p : Nat} {C R : Mem} (hb : b < 3) (h : RelD b C (R 20 0)) (hp : p < nP (R 20 0)) {q : Nat} (hq : q < 5) (e2 : R 20 0 (16 + 8 * p + 2) = Int32.ofNat q) : ∃ (v : Int32) (C' R' : Mem), X1_given b 0 (C 3 (10 * b + p) 3) (C 11 b q) (C 10 b q) C = some (v, C') ∧ X8_warms (Int32.ofNat p) R = some (wrmD (R 20 0) p v, R') ∧ inR v 0 99 ∧ Fr (fun f _ => f = 14) C C' ∧ Fr (fun f _ => f = 24 ∨ f = 26) R R' := by
  obtain ⟨n1, n2, n3, n4⟩ := RelD_n h
  have hpp := n4 p hp
  have hp10 : p < 10 := by omega
  obtain ⟨v, C', R', g1, g2, g3, g4, g5⟩ := given_eq (u := 0) hb (by omega) h (C 3 (10 * b + p) 3) (C 11 b q) (C 10 b q)
  have row := row_sc g5
  obtain ⟨c1, c2, -, -⟩ := house_rd h hq
  refine ⟨v, C', R', g1, ?_, g3, g4, g5⟩
  have g2' : X8_textGives 0 (R 20 0 (16 + 8 * p + 3)) (R 20 0 (6 + 2 * q + 1)) (R 20 0 (6 + 2 * q)) R = some (v, R') := by
    rw [← c1, ← c2, ← pot_rd (k := 3) h hpp (by omega)]
    exact g2
  unfold X8_warms
  rw [o8_2 hp10, bs, o8_3 hp10, bs, e2, h_ix, i_succ, if_pos (ib_of (by omega) (by omega)), if_pos (ib_of (by omega) (by omega)), i_ofix (by omega), i_ofix (by omega), g2', bs]
  dsimp only
  rw [o8_0 hp10, bs, o8_1 hp10, o8_6 hp10, row]
  unfold wrmD
  by_cases h1 : R 20 0 (16 + 8 * p + 0) = 1
  · rw [if_pos h1, if_pos h1]; rfl
  rw [if_neg h1, if_neg h1]
  by_cases h2 : R 20 0 (16 + 8 * p + 0) = 2
  · rw [if_pos h2, if_pos h2]
  rw [if_neg h2, if_neg h2]
  by_cases h3 : R 20 0 (16 + 8 * p + 0) = 3
  · rw [if_pos h3, if_pos h3]
  rw [if_neg h3, if_neg h3]
  by_cases h4 : R 20 0 (16 + 8 * p + 0) = 4
  · rw [if_pos h4, if_pos h4, bs]
    by_cases h6 : 0 < R 20 0 (16 + 8 * p + 6)
    · rw [if_pos h6, if_pos h6]
    · rw [if_neg h6, if_neg h6]; rfl
  rw [if_neg h4, if_neg h4]
  by_cases h5 : R 20 0 (16 + 8 * p + 0) = 5
  · rw [if_pos h5, if_pos h5]; rfl
  rw [if_neg h5, if_neg h5]
  by_cases h6 : R 20 0 (16 + 8 * p + 0) = 6
  · rw [if_pos h6, if_pos h6]
  rw [if_neg h6, if_neg h6]
/-- what X8_potGoes does behind WARMS -/
def tail8 (v1 q1 q2 w : Int32) (M : Mem) : Option Mem := (X8_sets v1 4 (X8_held (q2 + w) 0 999) M).bind fun q4 => ((X8_of v1 5 q4).bind fun q5 => ((X8_sets v1 5 (X8_held (q5 + 1) 0 999) q4).bind fun q6 => ((X8_wants v1 q6).bind fun q7 => ((X8_of v1 5 q6).bind fun q8 => (if q8 < 11 then (X8_potGoes_J125 v1 q1 q6) else ((X8_of v1 4 q6).bind fun q14 => (if q14 < q7 then (X8_potGoes_J125 v1 q1 q6) else ((X8_of v1 6 q6).bind fun q15 => ((X8_bears v1 q6).bind fun q16 => (if q15 < q16 then ((X8_of v1 6 q6).bind fun q17 => ((X8_sets v1 6 (q17 + 1) q6).bind fun q18 => ((X8_of v1 4 q18).bind fun q19 => ((X8_sets v1 4 (q19 - q7) q18).bind fun q20 => (X8_potGoes_J125 v1 q1 q20))))) else (X8_potGoes_J125 v1 q1 q6)))))))))))
theorem goes_tail (v1 : Int32) (M : Mem) : X8_potGoes v1 M = (X8_of v1 2 M).bind fun q1 => ((X8_of v1 4 M).bind fun q2 => ((X8_warms v1 M).bind fun q3 => tail8 v1 q1 q2 q3.1 q3.2)) := rfl
theorem nP_cg {D D' : Nat → Int32} (h : D' 0 = D 0) : nP D' = nP D := by
  unfold nP
  rw [h]
theorem live_eq {b p : Nat} {C R : Mem} (h : RelD b C (R 20 0)) (hp : p < nP (R 20 0)) {v : Int32} (hv : inR v 0 99) (q1 : Int32) : ∃ (C' R' : Mem), X3_liveYear (10 * b + p) v C = some C' ∧ tail8 (Int32.ofNat p) q1 (R 20 0 (16 + 8 * p + 4)) (wrmD (R 20 0) p v) R = X8_potGoes_J125 (Int32.ofNat p) q1 R' ∧ RelD b C' (R' 20 0) ∧ Fr (fun f i => f = 3 ∧ i = 10 * b + p) C C' ∧ (∀ f i k, ¬ f = 20 → R' f i k = R f i k) ∧ ∀ k, k < 16 + 8 * p + 4 ∨ 24 + 8 * p ≤ k → R' 20 0 k = R 20 0 k := by
  obtain ⟨n1, n2, n3, n4⟩ := RelD_n h
  have hpp := n4 p hp
  have hp10 : p < 10 := by omega
  have r4 : inR (R 20 0 (16 + 8 * p + 4)) 0 999 := pot_rg (k := 4) h hpp (by omega)
  have r5 : inR (R 20 0 (16 + 8 * p + 5)) 0 999 := pot_rg (k := 5) h hpp (by omega)
  have r6 : inR (R 20 0 (16 + 8 * p + 6)) 0 3 := pot_rg (k := 6) h hpp (by omega)
  have rw0 := wrm_in (v := v) (pot_ok h hp) hv
  obtain ⟨w, ew⟩ : ∃ w, w = wrmD (R 20 0) p v := ⟨_, rfl⟩
  have w7 : X3_warmedBy (10 * b + p) v C = w := by rw [ew]; exact warmed7 h hp hv
  rw [← ew] at rw0 ⊢
  have a4 : (R 20 0 (16 + 8 * p + 4) + w).toInt = (R 20 0 (16 + 8 * p + 4)).toInt + w.toInt := by
    have := r4.1
    have := r4.2
    have := rw0.1
    have := rw0.2
    exact i_add (by omega) (by omega)
  have a5 : (R 20 0 (16 + 8 * p + 5) + 1).toInt = (R 20 0 (16 + 8 * p + 5)).toInt + 1 := by
    have := r5.1
    have := r5.2
    rw [i_add (by show _ ≤ _ + (1 : Int); omega) (by show _ + (1 : Int) < _; omega)]
    rfl
  obtain ⟨h4, l4⟩ := held999 (x := R 20 0 (16 + 8 * p + 4) + w) (by rw [a4]; have := r4.1; have := rw0.1; omega)
  obtain ⟨h5, l5⟩ := held999 (x := R 20 0 (16 + 8 * p + 5) + 1) (by rw [a5]; have := r5.1; omega)
  obtain ⟨L, eL⟩ : ∃ L, L = X8_held (R 20 0 (16 + 8 * p + 4) + w) 0 999 := ⟨_, rfl⟩
  obtain ⟨Y, eY⟩ : ∃ Y, Y = X8_held (R 20 0 (16 + 8 * p + 5) + 1) 0 999 := ⟨_, rfl⟩
  rw [← eL] at h4 l4
  rw [← eY] at h5 l5
  obtain ⟨R3, eR⟩ : ∃ R3, R3 = up3 (up3 R 20 0 (16 + 8 * p + 4) L) 20 0 (16 + 8 * p + 5) Y := ⟨_, rfl⟩
  obtain ⟨M2, eM⟩ : ∃ M2, M2 = up3 (up3 C 3 (10 * b + p) 4 L) 3 (10 * b + p) 5 Y := ⟨_, rfl⟩
  have s1 : RelD b (up3 C 3 (10 * b + p) 4 L) (upD (R 20 0) (16 + 8 * p + 4) L) := RelD_pot hpp (by omega) (show rngP 4 L from l4) h
  have s2 : RelD b M2 (R3 20 0) := by
    rw [eM, eR, up_row, up_row]
    exact RelD_pot (by rw [up_potb]; exact hpp) (by omega) (show rngP 5 Y from l5) s1
  have f4 : R3 20 0 (16 + 8 * p + 4) = L := by rw [eR, up3_k (by omega), up3_eq]
  have f5 : R3 20 0 (16 + 8 * p + 5) = Y := by rw [eR, up3_eq]
  have f6 : R3 20 0 (16 + 8 * p + 6) = R 20 0 (16 + 8 * p + 6) := by rw [eR, up3_k (by omega), up3_k (by omega)]
  have fo : ∀ f i k, ¬ f = 20 → R3 f i k = R f i k := fun f i k hf => by rw [eR, up3_f hf, up3_f hf]
  have fk : ∀ k, k < 16 + 8 * p + 4 ∨ 24 + 8 * p ≤ k → R3 20 0 k = R 20 0 k := fun k hk => by rw [eR, up3_k (by omega), up3_k (by omega)]
  have m6 : M2 3 (10 * b + p) 6 = R 20 0 (16 + 8 * p + 6) := by
    rw [eM, up3_k (by decide), up3_k (by decide)]
    exact pot_rd h hpp (by omega)
  have hn3 : nP (R3 20 0) = nP (R 20 0) := nP_cg (fk 0 (by omega))
  have fm : Fr (fun f i => f = 3 ∧ i = 10 * b + p) C M2 := by
    rw [eM]
    exact (Fr.up ⟨rfl, rfl⟩).tr (Fr.up ⟨rfl, rfl⟩)
  have e7 : X3_liveYear (10 * b + p) v C = if Y < 11 then some M2 else if L < wntD (R3 20 0) p then some M2 else if R 20 0 (16 + 8 * p + 6) < berD (R3 20 0) p then some (up3 (up3 M2 3 (10 * b + p) 6 (R 20 0 (16 + 8 * p + 6) + 1)) 3 (10 * b + p) 4 (L - wntD (R3 20 0) p)) else some M2 := by
    unfold X3_liveYear
    rw [w7, pot_rd (k := 4) h hpp (by omega), pot_rd (k := 5) h hpp (by omega), pot_rd (k := 6) h hpp (by omega), h4, h5, ← eM, wants7 s2 (by rw [hn3]; exact hp), bears7 s2 (by rw [hn3]; exact hp)]
  have e8 : tail8 (Int32.ofNat p) q1 (R 20 0 (16 + 8 * p + 4)) w R = if Y < 11 then X8_potGoes_J125 (Int32.ofNat p) q1 R3 else if L < wntD (R3 20 0) p then X8_potGoes_J125 (Int32.ofNat p) q1 R3 else if R 20 0 (16 + 8 * p + 6) < berD (R3 20 0) p then X8_potGoes_J125 (Int32.ofNat p) q1 (up3 (up3 R3 20 0 (16 + 8 * p + 6) (R 20 0 (16 + 8 * p + 6) + 1)) 20 0 (16 + 8 * p + 4) (L - wntD (R3 20 0) p)) else X8_potGoes_J125 (Int32.ofNat p) q1 R3 := by
    unfold tail8
    rw [s8_4 hp10, bs, o8_5 hp10, bs, up3_k (k := 16 + 8 * p + 4) (by omega), s8_5 hp10, bs, ← eL, ← eY, ← eR, wants8 hp10, bs, o8_5 hp10, bs, f5, o8_4 hp10, bs, f4, o8_6 hp10, bs, f6, bears8 hp10, bs, bs, s8_6 hp10, bs, o8_4 hp10, bs, up3_k (k := 16 + 8 * p + 6) (by omega), f4, s8_4 hp10, bs]
  rw [e7, e8]
  have none1 : ∃ (C' R' : Mem), some M2 = some C' ∧ X8_potGoes_J125 (Int32.ofNat p) q1 R3 = X8_potGoes_J125 (Int32.ofNat p) q1 R' ∧ RelD b C' (R' 20 0) ∧ Fr (fun f i => f = 3 ∧ i = 10 * b + p) C C' ∧ (∀ f i k, ¬ f = 20 → R' f i k = R f i k) ∧ ∀ k, k < 16 + 8 * p + 4 ∨ 24 + 8 * p ≤ k → R' 20 0 k = R 20 0 k := ⟨M2, R3, rfl, rfl, s2, fm, fo, fk⟩
  by_cases c1 : Y < 11
  · rw [if_pos c1, if_pos c1]; exact none1
  rw [if_neg c1, if_neg c1]
  by_cases c2 : L < wntD (R3 20 0) p
  · rw [if_pos c2, if_pos c2]; exact none1
  rw [if_neg c2, if_neg c2]
  by_cases c3 : R 20 0 (16 + 8 * p + 6) < berD (R3 20 0) p
  · rw [if_pos c3, if_pos c3]
    have hok : potOK (fun k => R3 20 0 (16 + 8 * p + k)) := pot_ok s2 (by rw [hn3]; exact hp)
    have wi := wnt_in hok
    have bi := ber_in (R3 20 0) p
    rw [i_lt] at c2 c3
    have k6 : inR (R 20 0 (16 + 8 * p + 6) + 1) 0 3 := by
      have e : (R 20 0 (16 + 8 * p + 6) + 1).toInt = (R 20 0 (16 + 8 * p + 6)).toInt + 1 := by
        have := r6.1
        have := r6.2
        rw [i_add (by show _ ≤ _ + (1 : Int); omega) (by show _ + (1 : Int) < _; omega)]
        rfl
      have := r6.1
      have := bi.2
      exact ⟨by rw [e]; omega, by rw [e]; omega⟩
    have k4 : inR (L - wntD (R3 20 0) p) 0 999 := by
      have := l4.1
      have := l4.2
      have := wi.1
      have := wi.2
      have e : (L - wntD (R3 20 0) p).toInt = L.toInt - (wntD (R3 20 0) p).toInt := i_sub (by omega) (by omega)
      exact ⟨by rw [e]; omega, by rw [e]; omega⟩
    have hq2 : (p : Int) < (M2 1 b 5).toInt := (RelD_n s2).2.2.2 p (by rw [hn3]; exact hp)
    have s3 := RelD_pot (k := 6) hq2 (by omega) (show rngP 6 _ from k6) s2
    have s4 := RelD_pot (k := 4) (by rw [up_potb]; exact hq2) (by omega) (show rngP 4 _ from k4) s3
    refine ⟨_, _, rfl, rfl, by rw [up_row, up_row]; exact s4, fm.tr ((Fr.up ⟨rfl, rfl⟩).tr (Fr.up ⟨rfl, rfl⟩)), fun f i k hf => by rw [up3_f hf, up3_f hf]; exact fo f i k hf, fun k hk => by rw [up3_k (by omega), up3_k (by omega)]; exact fk k hk⟩
  · rw [if_neg c3, if_neg c3]; exact none1
/-- what X1_passYearOf does behind liveYear -/
def tail7 (b i : Nat) (v2 : Int32) (q3 : Mem) : Option Mem := if (X2_stands (2 * b + 1) q3) = 0 then (some q3) else ((X1_potsIn b v2 q3).bind fun q4 => ((X1_given b 1 (q3 3 i 3) (jrem (q3 1 b 6) 13) (J6_bitCount_0f7a4 q4) q3).bind fun q5 => (if (q5.2 11 b v2.toNatClampNeg) < q5.1 then (some (up3 (up3 q5.2 3 i 2 (-1)) 1 b 7 (jmin 999 ((q5.2 1 b 7) + 1)))) else (some q5.2))))
theorem pass_tail (b i : Nat) (v2 : Int32) (M : Mem) : X1_passYearOf b i v2 M = if ib v2 5 = true then ((X1_given b 0 (M 3 i 3) (M 11 b v2.toNatClampNeg) (M 10 b v2.toNatClampNeg) M).bind fun q2 => ((X3_liveYear i q2.1 q2.2).bind fun q3 => tail7 b i v2 q3)) else none := rfl
theorem brk_eq {b p q : Nat} {C R : Mem} (hb : b < 3) (h : RelD b C (R 20 0)) (hp : p < nP (R 20 0)) (hq : q < 5) : ∃ (C' R' : Mem), tail7 b (10 * b + p) (Int32.ofNat q) C = some C' ∧ X8_potGoes_J125 (Int32.ofNat p) (Int32.ofNat q) R = some R' ∧ RelD b C' (R' 20 0) ∧ Fr (DST b) C C' ∧ FrY R R' := by
  obtain ⟨n1, n2, n3, n4⟩ := RelD_n h
  have hpp := n4 p hp
  have hp10 : p < 10 := by omega
  obtain ⟨v, C1, R1, g1, g2, g3, g4, g5⟩ := given_eq (u := 1) hb (by omega) h (C 3 (10 * b + p) 3) (jrem (C 1 b 6) 13) (Int32.ofNat (ctN (pin (R 20 0) (Int32.ofNat q)) (nP (R 20 0))))
  have row := row_sc g5
  have y6 : C 1 b 6 = R 20 0 1 := by
    obtain ⟨n, -, -, -, -, n5, -⟩ := id h
    exact n5
  have h1 : RelD b C1 (R1 20 0) := by rw [row]; exact RelD_14 g4 h
  obtain ⟨-, ce, -, cr⟩ := house_rd h hq
  have e8 : X8_potGoes_J125 (Int32.ofNat p) (Int32.ofNat q) R = if R 20 0 (6 + 2 * q + 1) < v then some (up3 (up3 R1 20 0 (16 + 8 * p + 2) (-1)) 20 0 2 (X8_held (R 20 0 2 + 1) 0 999)) else some R1 := by
    unfold X8_potGoes_J125
    rw [o8_3 hp10, bs, many8 _ h, bs, ← pot_rd (k := 3) h hpp (by omega), ← y6]
    refine bs2 g2 fun P P1 P2 => ?_
    rw [P1, P2, h_ix, i_succ, if_pos (ib_of (by omega) (by omega)), i_ofix (by omega), row, s8_2 hp10, bs, up3_k (k := 16 + 8 * p + 2) (by omega), row]
  rw [e8]
  have dst : Fr (DST b) C C1 := g4.mono (fun f i hh => Or.inr (Or.inr hh))
  by_cases hs : X2_stands (2 * b + 1) C = 0
  · have hg : X1_given b 1 (C 3 (10 * b + p) 3) (jrem (C 1 b 6) 13) (Int32.ofNat (ctN (pin (R 20 0) (Int32.ofNat q)) (nP (R 20 0)))) C = some (jmax 0 (jmin 99 0), C) := by
      unfold X1_given
      rw [show X1_lawOf b 1 C = 2 * b + 1 from rfl, if_pos (by omega), if_pos hs, if_neg (by decide)]
    have := hg.symm.trans g1
    injection this with this
    have ev : jmax 0 (jmin 99 0) = v := congrArg Prod.fst this
    have eC : C = C1 := congrArg Prod.snd this
    have v0 : v = 0 := by rw [← ev]; decide
    refine ⟨C, R1, ?_, ?_, by rw [row]; exact h, Fr.rf, FrY.sc g5⟩
    · unfold tail7
      rw [if_pos hs]
    · rw [if_neg]
      rw [v0, i_lt, i_z]
      have := cr.1
      omega
  · have e7 : tail7 b (10 * b + p) (Int32.ofNat q) C = if R 20 0 (6 + 2 * q + 1) < v then some (up3 (up3 C1 3 (10 * b + p) 2 (-1)) 1 b 7 (X8_held (R 20 0 2 + 1) 0 999)) else some C1 := by
      unfold tail7
      rw [if_neg hs, pots7 _ h, bs, bc_st _ _ n1]
      refine bs2 g1 fun P P1 P2 => ?_
      rw [P1, P2]
      have c7 : C1 1 b 7 = R 20 0 2 := by
        rw [g4 1 b 7 (by omega)]
        obtain ⟨n, -, -, -, -, -, n6, -⟩ := id h
        exact n6
      have k2 : 0 ≤ (R 20 0 2 + 1).toInt := by
        obtain ⟨n, -, -, -, -, -, -, n7, -⟩ := id h
        have := n7.1
        have := n7.2
        rw [i_add (by show _ ≤ _ + (1 : Int); omega) (by show _ + (1 : Int) < _; omega)]
        show 0 ≤ _ + (1 : Int)
        omega
      rw [i_ofix (by omega), g4 11 b q (by omega), ce, c7, (held999 k2).1]
    rw [e7]
    by_cases hv : R 20 0 (6 + 2 * q + 1) < v
    · rw [if_pos hv, if_pos hv]
      have k2 : 0 ≤ (R 20 0 2 + 1).toInt := by
        obtain ⟨n, -, -, -, -, -, -, n7, -⟩ := id h
        have := n7.1
        have := n7.2
        rw [i_add (by show _ ≤ _ + (1 : Int); omega) (by show _ + (1 : Int) < _; omega)]
        show 0 ≤ _ + (1 : Int)
        omega
      have hq2 : (p : Int) < (C1 1 b 5).toInt := (RelD_n h1).2.2.2 p (by rw [row]; exact hp)
      have s1 := RelD_pot (k := 2) (v := -1) hq2 (by omega) (show rngP 2 (-1) from ⟨by decide, by decide⟩) h1
      have s2 := RelD_one (k := 7) (v := X8_held (R 20 0 2 + 1) 0 999) (Or.inr ⟨rfl, (held999 k2).2⟩) s1
      refine ⟨_, _, rfl, rfl, by rw [up_row, up_row]; exact s2, dst.tr ((Fr.up (Or.inr (Or.inl ⟨rfl, by omega, by omega⟩))).tr (Fr.up (Or.inl ⟨rfl, rfl⟩))), (FrY.sc g5).tr ((FrY.up (by omega)).tr (FrY.up (by omega)))⟩
    · rw [if_neg hv, if_neg hv]
      exact ⟨C1, R1, rfl, rfl, h1, dst, FrY.sc g5⟩
theorem goes_eq {b p : Nat} {C R : Mem} (hb : b < 3) (h : RelD b C (R 20 0)) (hp : p < nP (R 20 0)) (hh : ¬ R 20 0 (16 + 8 * p + 2) < 0) : ∃ (C' R' : Mem), X1_passYearOf b (10 * b + p) (C 3 (10 * b + p) 2) C = some C' ∧ X8_potGoes (Int32.ofNat p) R = some R' ∧ RelD b C' (R' 20 0) ∧ Fr (DST b) C C' ∧ FrY R R' := by
  obtain ⟨n1, n2, n3, n4⟩ := RelD_n h
  have hpp := n4 p hp
  have hp10 : p < 10 := by omega
  have r2 : inR (R 20 0 (16 + 8 * p + 2)) (-1) 4 := pot_rg (k := 2) h hpp (by omega)
  rw [i_lt, i_z] at hh
  obtain ⟨q, hq, e2⟩ := i_small (n := 5) (x := R 20 0 (16 + 8 * p + 2)) (by omega) (by have := r2.2; omega)
  have c2 : C 3 (10 * b + p) 2 = Int32.ofNat q := by rw [pot_rd h hpp (by omega)]; exact e2
  obtain ⟨v, C1, R1, g1, g2, g3, g4, g5⟩ := warms8 hb h hp hq e2
  have row := row_sc g5
  have h1 : RelD b C1 (R1 20 0) := by rw [row]; exact RelD_14 g4 h
  obtain ⟨C2, R2, k1, k2, k3, k4, k5, k6⟩ := live_eq h1 (by rw [row]; exact hp) g3 (Int32.ofNat q)
  have hn2 : nP (R2 20 0) = nP (R 20 0) := by rw [nP_cg (k6 0 (by omega)), row]
  obtain ⟨C3, R3, m1, m2, m3, m4, m5⟩ := brk_eq hb k3 (by rw [hn2]; exact hp) hq
  refine ⟨C3, R3, ?_, ?_, m3, ?_, ?_⟩
  · rw [pass_tail, c2, if_pos (ib_of (by omega) (by omega)), i_ofix (by omega), g1, bs]
    dsimp only
    rw [k1, bs]
    exact m1
  · rw [goes_tail, o8_2 hp10, bs, o8_4 hp10, bs, e2, g2, bs]
    dsimp only
    rw [← m2, ← k2, row]
  · refine ((g4.mono (fun f i hh => Or.inr (Or.inr hh))).tr (k4.mono (fun f i hh => Or.inr (Or.inl ⟨hh.1, by omega, by omega⟩)))).tr m4
  · refine ((FrY.sc g5).tr ⟨fun f i k a _ _ => k5 f i k a, fun k hk => k6 k (by omega)⟩).tr m5
theorem pots_L {b : Nat} (hb : b < 3) {v1 v2 w1 w2 : Int32} : ∀ (m p fu fu' : Nat) (C R : Mem), p + m = nP (R 20 0) → m < fu → m < fu' → RelD b C (R 20 0) → ∃ (C' R' : Mem), X1_passYears_L9 fu b v1 v2 (Int32.ofNat p) C = some C' ∧ X8_yearsGo_L9 fu' w1 w2 (Int32.ofNat p) R = some R' ∧ RelD b C' (R' 20 0) ∧ Fr (DST b) C C' ∧ FrY R R' := by
  intro m
  induction m with
  | zero =>
    intro p fu fu' C R hp hf hf' h
    obtain ⟨fu, rfl⟩ : ∃ g, fu = g + 1 := ⟨fu - 1, by omega⟩
    obtain ⟨fu', rfl⟩ : ∃ g, fu' = g + 1 := ⟨fu' - 1, by omega⟩
    obtain ⟨n1, n2, n3, n4⟩ := RelD_n h
    refine ⟨C, R, ?_, ?_, h, Fr.rf, FrY.rf⟩
    · rw [X1_passYears_L9, n2, if_neg (by rw [i_ltn (by omega) (by omega)]; omega)]
    · rw [X8_yearsGo_L9, n3, if_neg (by rw [i_ltn (by omega) (by omega)]; omega)]
  | succ m ih =>
    intro p fu fu' C R hp hf hf' h
    obtain ⟨fu, rfl⟩ : ∃ g, fu = g + 1 := ⟨fu - 1, by omega⟩
    obtain ⟨fu', rfl⟩ : ∃ g, fu' = g + 1 := ⟨fu' - 1, by omega⟩
    obtain ⟨n1, n2, n3, n4⟩ := RelD_n h
    have hpn : p < nP (R 20 0) := by omega
    have hpp := n4 p hpn
    have e2 : C 3 (10 * b + p) 2 = R 20 0 (16 + 8 * p + 2) := pot_rd h hpp (by omega)
    have r2 : inR (R 20 0 (16 + 8 * p + 2)) (-1) 4 := pot_rg (k := 2) h hpp (by omega)
    have lt : Int32.ofNat p < Int32.ofNat (nP (R 20 0)) := by rw [i_ltn (by omega) (by omega)]; omega
    have s7 : X1_passYears_L9 (fu + 1) b v1 v2 (Int32.ofNat p) C = if X7_isHouse (C 3 (10 * b + p) 2) = 0 then X1_passYears_L9 fu b v1 v2 (Int32.ofNat (p + 1)) C else (X1_passYearOf b (10 * b + p) (C 3 (10 * b + p) 2) C).bind fun q2 => X1_passYears_L9 fu b v1 v2 (Int32.ofNat (p + 1)) q2 := by
      rw [X1_passYears_L9, n2, if_pos lt, if_pos (ib_of (by omega) (by omega)), i_ofix (by omega), i_succ]
    have s8 : X8_yearsGo_L9 (fu' + 1) w1 w2 (Int32.ofNat p) R = if R 20 0 (16 + 8 * p + 2) < 0 then X8_yearsGo_L9 fu' w1 w2 (Int32.ofNat (p + 1)) R else (X8_potGoes (Int32.ofNat p) R).bind fun q2 => X8_yearsGo_L9 fu' w1 w2 (Int32.ofNat (p + 1)) q2 := by
      rw [X8_yearsGo_L9, n3, if_pos lt, broken8 (by omega), bs, i_succ]
      by_cases hh : R 20 0 (16 + 8 * p + 2) < 0
      · rw [if_pos hh, if_pos hh, if_neg (by decide)]
      · rw [if_neg hh, if_neg hh, if_pos (by decide)]
    rw [s7, s8]
    by_cases hh : R 20 0 (16 + 8 * p + 2) < 0
    · rw [if_pos (show X7_isHouse (C 3 (10 * b + p) 2) = 0 by rw [isHouse7, e2]; rw [i_lt, i_z] at hh; omega), if_pos hh]
      exact ih (p + 1) fu fu' C R (by omega) (by omega) (by omega) h
    · obtain ⟨C1, R1, g1, g2, g3, g4, g5⟩ := goes_eq hb h hpn hh
      rw [if_neg (show ¬ X7_isHouse (C 3 (10 * b + p) 2) = 0 by rw [isHouse7, e2]; rw [i_lt, i_z] at hh; have := r2.2; omega), if_neg hh, g1, g2, bs, bs]
      obtain ⟨C2, R2, k1, k2, k3, k4, k5⟩ := ih (p + 1) fu fu' C1 R1 (by rw [nP_cg (g5.2 0 (by omega))]; omega) (by omega) (by omega) g3
      exact ⟨C2, R2, k1, k2, k3, g4.tr k4, g5.tr k5⟩
theorem years_L {b : Nat} (hb : b < 3) {N : Nat} (hN : N < 1000) : ∀ (m i fu fu' : Nat) (C R : Mem), i + m = N → m < fu → m < fu' → RelD b C (R 20 0) → ∃ (C' R' : Mem), X1_passYears_L2 fu b (Int32.ofNat N) (Int32.ofNat i) C = some C' ∧ X8_yearsGo_L2 fu' (Int32.ofNat N) (Int32.ofNat i) R = some R' ∧ RelD b C' (R' 20 0) ∧ Fr (DST b) C C' ∧ FrY R R' := by
  intro m
  induction m with
  | zero =>
    intro i fu fu' C R hi hf hf' h
    obtain ⟨fu, rfl⟩ : ∃ g, fu = g + 1 := ⟨fu - 1, by omega⟩
    obtain ⟨fu', rfl⟩ : ∃ g, fu' = g + 1 := ⟨fu' - 1, by omega⟩
    refine ⟨C, R, ?_, ?_, h, Fr.rf, FrY.rf⟩
    · rw [X1_passYears_L2, if_neg (by rw [i_ltn (by omega) (by omega)]; omega)]
    · rw [X8_yearsGo_L2, if_neg (by rw [i_ltn (by omega) (by omega)]; omega)]
  | succ m ih =>
    intro i fu fu' C R hi hf hf' h
    obtain ⟨fu, rfl⟩ : ∃ g, fu = g + 1 := ⟨fu - 1, by omega⟩
    obtain ⟨fu', rfl⟩ : ∃ g, fu' = g + 1 := ⟨fu' - 1, by omega⟩
    have n1 := (RelD_n h).1
    obtain ⟨C1, R1, g1, g2, g3, g4, g5⟩ := pots_L hb (v1 := Int32.ofNat N) (v2 := Int32.ofNat i) (w1 := Int32.ofNat N) (w2 := Int32.ofNat i) (nP (R 20 0)) 0 400 400 C R (by omega) (by omega) (by omega) h
    have y6 : C1 1 b 6 = R1 20 0 1 := by
      obtain ⟨n, -, -, -, -, n5, -⟩ := id g3
      exact n5
    have s1 := RelD_one (k := 6) (v := R1 20 0 1 + 1) (Or.inl rfl) g3
    rw [X1_passYears_L2, if_pos (by rw [i_ltn (by omega) (by omega)]; omega), show X1_passYears_L9 400 b _ _ 0 C = _ from g1, bs, i_succ, y6]
    rw [X8_yearsGo_L2, if_pos (by rw [i_ltn (by omega) (by omega)]; omega), show X8_yearsGo_L9 400 _ _ 0 R = _ from g2, bs, i_succ]
    obtain ⟨C2, R2, k1, k2, k3, k4, k5⟩ := ih (i + 1) fu fu' (up3 C1 1 b 6 (R1 20 0 1 + 1)) (up3 R1 20 0 1 (R1 20 0 1 + 1)) (by omega) (by omega) (by omega) (by rw [up_row]; exact s1)
    exact ⟨C2, R2, k1, k2, k3, (g4.tr (Fr.up (Or.inl ⟨rfl, rfl⟩))).tr k4, (g5.tr (FrY.up (by omega))).tr k5⟩
theorem years_eq {b N : Nat} {C R : Mem} (hb : b < 3) (hN : N < 400) (h : RelD b C (R 20 0)) : ∃ (C' R' : Mem), X1_passYears b (Int32.ofNat N) C = some C' ∧ X8_yearsGo (Int32.ofNat N) R = some R' ∧ RelD b C' (R' 20 0) ∧ Fr (DST b) C C' ∧ FrY R R' := by
  obtain ⟨C1, R1, g1, g2, g3, g4, g5⟩ := years_L hb (N := N) (by omega) N 0 400 400 C R (by omega) (by omega) (by omega) h
  refine ⟨C1, R1, ?_, ?_, g3, g4, g5⟩
  · unfold X1_passYears
    rw [show X1_passYears_L2 400 b (Int32.ofNat N) 0 C = _ from g1]
    rfl
  · unfold X8_yearsGo
    rw [show X8_yearsGo_L2 400 (Int32.ofNat N) 0 R = _ from g2]
    rfl
