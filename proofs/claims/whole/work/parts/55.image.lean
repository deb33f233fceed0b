theorem st_bit (P : Nat → Bool) : ∀ (n i : Nat), (stN P n).testBit i = (decide (i < n) && P i) := by
  intro n
  induction n with
  | zero =>
    intro i
    show Nat.testBit 0 i = _
    rw [Nat.zero_testBit, show decide (i < 0) = false from rfl]
    rfl
  | succ k ih =>
    intro i
    show (stN P k + (if P k = true then 2 ^ k else 0)).testBit i = _
    have hl := stN_lt P k
    by_cases hp : P k = true
    · rw [if_pos hp, Nat.add_comm]
      by_cases h1 : i < k
      · rw [Nat.testBit_two_pow_add_gt h1, ih i, decide_eq_true h1, decide_eq_true (show i < k + 1 by omega)]
      · by_cases h2 : i = k
        · subst h2
          rw [Nat.testBit_two_pow_add_eq, ih i, decide_eq_false h1, decide_eq_true (show i < i + 1 by omega), hp]
          rfl
        · rw [Nat.testBit_lt_two_pow (show 2 ^ k + stN P k < 2 ^ i from Nat.lt_of_lt_of_le (show 2 ^ k + stN P k < 2 ^ (k + 1) by rw [Nat.pow_succ]; omega) (Nat.pow_le_pow_right (by omega) (by omega))), decide_eq_false (show ¬ i < k + 1 by omega)]
          rfl
    · rw [if_neg hp, Nat.add_zero, ih i]
      by_cases h2 : i = k
      · subst h2
        rw [show P i = false by simpa using hp, Bool.and_false, Bool.and_false]
      · by_cases h1 : i < k
        · rw [decide_eq_true h1, decide_eq_true (show i < k + 1 by omega)]
        · rw [decide_eq_false h1, decide_eq_false (show ¬ i < k + 1 by omega)]
theorem st_and (P Q : Nat → Bool) (n : Nat) : stN P n &&& stN Q n = stN (fun p => P p && Q p) n := by
  refine Nat.eq_of_testBit_eq fun i => ?_
  rw [Nat.testBit_and, st_bit, st_bit, st_bit]
  cases decide (i < n) <;> cases P i <;> cases Q i <;> rfl
theorem i_land (a b : Nat) : Int32.ofNat a &&& Int32.ofNat b = Int32.ofNat (a &&& b) := by
  refine Int32.toBitVec_inj.mp ?_
  show BitVec.ofNat 32 a &&& BitVec.ofNat 32 b = BitVec.ofNat 32 (a &&& b)
  rw [BitVec.ofNat_and]
theorem ct_and (P Q : Nat → Bool) : ∀ n, ctN (fun p => P p && Q p) n ≤ ctN P n := by
  intro n
  induction n with
  | zero => exact Nat.le_refl _
  | succ k ih =>
    show ctN (fun p => P p && Q p) k + (if (P k && Q k) = true then 1 else 0) ≤ ctN P k + (if P k = true then 1 else 0)
    cases P k <;> cases Q k <;> simp <;> omega
theorem eq_carry (a1 : Int32) : EqP Rel (X7_carry a1) (X8_carry a1) := by
  intro C R h
  by_cases c1 : ¬ (0 ≤ a1.toInt ∧ a1.toInt ≤ 4)
  · refine bad 1 (by omega) (by omega) h ?_ ?_
    · unfold X7_carry
      rw [if_pos ((isHouse7 _).mpr c1)]
      exact bind_some2
    · unfold X8_carry
      rw [if_pos ((isHouse8 _).mpr c1)]
      exact bind_some2
  replace c1 := Decidable.not_not.mp c1
  obtain ⟨q, hq, rfl⟩ := i_small (n := 5) c1.1 (by omega)
  obtain ⟨d1, -, d3, -⟩ := house_rd h.1 hq
  have n10 := (RelD_n h.1).1
  obtain ⟨H, eH⟩ : ∃ H, H = R 20 0 (6 + 2 * q) := ⟨_, rfl⟩
  rw [← eH] at d1 d3
  obtain ⟨L, eL⟩ : ∃ L, L = ctN (pin (R 20 0) (Int32.ofNat q)) (nP (R 20 0)) := ⟨_, rfl⟩
  obtain ⟨W, eW⟩ : ∃ W, W = ctN (fun p => pin (R 20 0) (Int32.ofNat q) p && pwh (R 20 0) p) (nP (R 20 0)) := ⟨_, rfl⟩
  have WL : W ≤ L := by rw [eW, eL]; exact ct_and _ _ _
  have L10 : L ≤ 10 := by
    rw [eL]
    have := ctN_le (pin (R 20 0) (Int32.ofNat q)) (nP (R 20 0))
    omega
  have bL : J6_bitCount_0f7a4 (Int32.ofNat (stN (pin (R 20 0) (Int32.ofNat q)) (nP (R 20 0)))) = Int32.ofNat L := by rw [bc_st _ _ n10, eL]
  have bW : J6_bitCount_0f7a4 (Int32.ofNat (stN (fun p => pin (R 20 0) (Int32.ofNat q) p && pwh (R 20 0) p) (nP (R 20 0)))) = Int32.ofNat W := by rw [bc_st _ _ n10, eW]
  have e7 : X7_carry (Int32.ofNat q) C = some (jmin (Int32.ofNat W) H + jmin (Int32.ofNat L - Int32.ofNat W) ((H - jmin (Int32.ofNat W) H) / 2), C) := by
    unfold X7_carry; rw [if_neg (by rw [isHouse7]; exact not_not_intro c1)]
    rw [pots7 _ h.1, bs, with7 h.1, bs, if_pos (ib_of hq (by omega)), i_ofix (by omega), d1, i_land, st_and, bL, bW]
  have e8 : X8_carry (Int32.ofNat q) R = some (if Int32.ofNat W < H then (if (H - Int32.ofNat W) / 2 < Int32.ofNat L - Int32.ofNat W then Int32.ofNat W + (H - Int32.ofNat W) / 2 else Int32.ofNat W + (Int32.ofNat L - Int32.ofNat W)) else H, R) := by
    unfold X8_carry; rw [if_neg (by rw [isHouse8]; exact not_not_intro c1)]
    rw [h_ix, if_pos (ib_of (by omega) (by omega)), many8 _ h.1, bs, setH8 h.1 c1, bs, set7_8 h.1, bs, i_land, st_and, bits_ok _ (stN_10 _ n10), bs, bW, i_ofix (by omega), ← eH, ← eL]
    split
    · split <;> rfl
    · rfl
  refine ⟨_, C, R, e7, e8.trans (congrArg (fun v => some (v, R)) ?_), h⟩
  by_cases hw : Int32.ofNat W < H
  · have m1 : jmin (Int32.ofNat W) H = Int32.ofNat W := if_neg (by rw [i_lt] at hw ⊢; omega)
    rw [if_pos hw, m1]
    unfold jmin
    split <;> rfl
  · rw [if_neg hw]
    have m1 : jmin (Int32.ofNat W) H = H := by
      unfold jmin
      by_cases hh : H < Int32.ofNat W
      · rw [if_pos hh]
      · rw [if_neg hh]
        rw [i_lt] at hw hh
        rw [i_eq]
        omega
    have m2 : (Int32.ofNat L - Int32.ofNat W).toInt = (L : Int) - W := by
      rw [i_sub (by rw [i_of (by omega), i_of (by omega)]; omega) (by rw [i_of (by omega), i_of (by omega)]; omega), i_of (by omega), i_of (by omega)]
    have m3 : jmin (Int32.ofNat L - Int32.ofNat W) 0 = 0 := by
      unfold jmin
      by_cases hh : (0 : Int32) < Int32.ofNat L - Int32.ofNat W
      · rw [if_pos hh]
      · rw [if_neg hh]
        rw [i_lt, i_z, m2] at hh
        rw [i_eq, i_z, m2]
        omega
    rw [m1, Int32.sub_self, show (0 : Int32) / 2 = 0 from by decide, m3, i_add0]
theorem eq_ofHouse (a1 a2 : Int32) : EqP Rel (X7_ofHouse a1 a2) (X8_ofHouse a1 a2) := by
  intro C R h
  by_cases c1 : ¬ (0 ≤ a1.toInt ∧ a1.toInt ≤ 4)
  · refine bad 1 (by omega) (by omega) h ?_ ?_
    · unfold X7_ofHouse
      rw [if_pos ((isHouse7 _).mpr c1)]
      exact bind_some2
    · unfold X8_ofHouse
      rw [if_pos ((isHouse8 _).mpr c1)]
      exact bind_some2
  replace c1 := Decidable.not_not.mp c1
  by_cases c2 : ¬ (0 ≤ a2.toInt ∧ a2.toInt ≤ 2)
  · refine bad 1 (by omega) (by omega) h ?_ ?_
    · unfold X7_ofHouse
      rw [if_neg (by rw [isHouse7]; exact not_not_intro c1), if_pos ((is7_2 _).mpr c2)]
      exact bind_some2
    · unfold X8_ofHouse
      rw [if_neg (by rw [isHouse8]; exact not_not_intro c1), if_pos ((in8_0_2 _).mpr c2)]
      exact bind_some2
  replace c2 := Decidable.not_not.mp c2
  obtain ⟨q, hq, rfl⟩ := i_small (n := 5) c1.1 (by omega)
  obtain ⟨w, hw, rfl⟩ := i_small (n := 3) c2.1 (by omega)
  obtain ⟨d1, d2, -, -⟩ := house_rd h.1 hq
  rcases (show w = 0 ∨ w = 1 ∨ w = 2 by omega) with rfl | rfl | rfl
  · refine ⟨R 20 0 (6 + 2 * q + 0), C, R, ?_, ?_, h⟩
    · unfold X7_ofHouse; rw [if_neg (by rw [isHouse7]; exact not_not_intro c1), if_neg (by rw [is7_2]; exact not_not_intro c2)]
      rw [if_neg (show ¬ Int32.ofNat 0 = 2 by decide), if_pos (show Int32.ofNat 0 = 0 by decide), if_pos (ib_of hq (by omega)), i_ofix (by omega), d1]
      rfl
    · unfold X8_ofHouse; rw [if_neg (by rw [isHouse8]; exact not_not_intro c1), if_neg (by rw [in8_0_2]; exact not_not_intro c2)]
      rw [if_neg (show ¬ Int32.ofNat 0 = 2 by decide), h_ix, i_ofadd, if_pos (ib_of (by omega) (by omega)), i_ofix (by omega)]
  · refine ⟨R 20 0 (6 + 2 * q + 1), C, R, ?_, ?_, h⟩
    · unfold X7_ofHouse; rw [if_neg (by rw [isHouse7]; exact not_not_intro c1), if_neg (by rw [is7_2]; exact not_not_intro c2)]
      rw [if_neg (show ¬ Int32.ofNat 1 = 2 by decide), if_neg (show ¬ Int32.ofNat 1 = 0 by decide), if_pos (ib_of hq (by omega)), i_ofix (by omega), d2]
    · unfold X8_ofHouse; rw [if_neg (by rw [isHouse8]; exact not_not_intro c1), if_neg (by rw [in8_0_2]; exact not_not_intro c2)]
      rw [if_neg (show ¬ Int32.ofNat 1 = 2 by decide), h_ix, i_ofadd, if_pos (ib_of (by omega) (by omega)), i_ofix (by omega)]
  · refine ⟨Int32.ofNat (stN (pin (R 20 0) (Int32.ofNat q)) (nP (R 20 0))), C, R, ?_, ?_, h⟩
    · unfold X7_ofHouse; rw [if_neg (by rw [isHouse7]; exact not_not_intro c1), if_neg (by rw [is7_2]; exact not_not_intro c2)]
      rw [if_pos (show Int32.ofNat 2 = 2 by decide), pots7 _ h.1]
      rfl
    · unfold X8_ofHouse; rw [if_neg (by rw [isHouse8]; exact not_not_intro c1), if_neg (by rw [in8_0_2]; exact not_not_intro c2)]
      rw [if_pos (show Int32.ofNat 2 = 2 by decide), setH8 h.1 c1]
      rfl
theorem eq_ofPot (a1 a2 : Int32) : EqP Rel (X7_ofPot a1 a2) (X8_ofPot a1 a2) := by
  intro C R h
  obtain ⟨n, n1, n2, n3, -⟩ := id h.1
  by_cases c1 : ¬ (0 ≤ a1.toInt ∧ a1.toInt < n)
  · refine bad 1 (by omega) (by omega) h ?_ ?_
    · unfold X7_ofPot
      rw [if_pos ((has7 n1 n2 _).mpr c1)]
      exact bind_some2
    · unfold X8_ofPot
      rw [if_pos ((pot8 n1 n3 _).mpr c1)]
      exact bind_some2
  replace c1 := Decidable.not_not.mp c1
  have en : nP (R 20 0) = n := by
    unfold nP
    rw [n3, i_of (by omega)]
    rfl
  obtain ⟨p, hp, rfl⟩ := i_small (n := n) c1.1 c1.2
  have hp10 : p < 10 := by omega
  have ix : (Int32.ofNat p).toNatClampNeg = p := i_ofix (by omega)
  have ibp : ib (Int32.ofNat p) 10 = true := ib_of (by omega) (by omega)
  have hq := (RelD_n h.1).2.2.2 p (by rw [en]; exact hp)
  by_cases c2 : ¬ (0 ≤ a2.toInt ∧ a2.toInt ≤ 9)
  · have ne : ∀ k : Int32, 0 ≤ k.toInt ∧ k.toInt ≤ 9 → ¬ a2 = k := fun k hk e => c2 (by rw [e]; exact hk)
    refine bad 1 (by omega) (by omega) h ?_ ?_
    · unfold X7_ofPot; rw [if_neg (by rw [has7 n1 n2]; exact not_not_intro c1)]
      rw [if_pos ibp, if_neg (ne 0 ⟨by decide, by decide⟩), if_neg (ne 1 ⟨by decide, by decide⟩), if_neg (ne 2 ⟨by decide, by decide⟩), if_neg (ne 3 ⟨by decide, by decide⟩), if_neg (ne 4 ⟨by decide, by decide⟩), if_neg (ne 5 ⟨by decide, by decide⟩), if_neg (ne 6 ⟨by decide, by decide⟩), if_neg (ne 7 ⟨by decide, by decide⟩), if_neg (ne 8 ⟨by decide, by decide⟩), if_neg (ne 9 ⟨by decide, by decide⟩)] 
      exact bind_some2
    · unfold X8_ofPot; rw [if_neg (by rw [pot8 n1 n3]; exact not_not_intro c1)]
      rw [if_pos ((in8_0_9 _).mpr c2)]
      exact bind_some2
  replace c2 := Decidable.not_not.mp c2
  obtain ⟨w, hw, rfl⟩ := i_small (n := 10) c2.1 (by omega)
  rcases (show w = 0 ∨ w = 1 ∨ w = 2 ∨ w = 3 ∨ w = 4 ∨ w = 5 ∨ w = 6 ∨ w = 7 ∨ w = 8 ∨ w = 9 by omega) with rfl | rfl | rfl | rfl | rfl | rfl | rfl | rfl | rfl | rfl
  · refine ⟨R 20 0 (16 + 8 * p + 0), C, R, ?_, ?_, h⟩
    · unfold X7_ofPot; rw [if_neg (by rw [has7 n1 n2]; exact not_not_intro c1)]
      rw [if_pos ibp, ix, if_pos (show Int32.ofNat 0 = 0 by decide), pot_rd h.1 hq (by omega)]
    · unfold X8_ofPot; rw [if_neg (by rw [pot8 n1 n3]; exact not_not_intro c1)]
      rw [if_neg (by rw [in8_0_9]; exact not_not_intro c2), if_pos (show Int32.ofNat 0 < 8 by decide), of8 hp10 (by omega)]
      rfl
  · refine ⟨R 20 0 (16 + 8 * p + 1), C, R, ?_, ?_, h⟩
    · unfold X7_ofPot; rw [if_neg (by rw [has7 n1 n2]; exact not_not_intro c1)]
      rw [if_pos ibp, ix, if_neg (show ¬ Int32.ofNat 1 = 0 by decide), if_pos (show Int32.ofNat 1 = 1 by decide), pot_rd h.1 hq (by omega)]
    · unfold X8_ofPot; rw [if_neg (by rw [pot8 n1 n3]; exact not_not_intro c1)]
      rw [if_neg (by rw [in8_0_9]; exact not_not_intro c2), if_pos (show Int32.ofNat 1 < 8 by decide), of8 hp10 (by omega)]
      rfl
  · refine ⟨R 20 0 (16 + 8 * p + 2), C, R, ?_, ?_, h⟩
    · unfold X7_ofPot; rw [if_neg (by rw [has7 n1 n2]; exact not_not_intro c1)]
      rw [if_pos ibp, ix, if_neg (show ¬ Int32.ofNat 2 = 0 by decide), if_neg (show ¬ Int32.ofNat 2 = 1 by decide), if_pos (show Int32.ofNat 2 = 2 by decide), pot_rd h.1 hq (by omega)]
    · unfold X8_ofPot; rw [if_neg (by rw [pot8 n1 n3]; exact not_not_intro c1)]
      rw [if_neg (by rw [in8_0_9]; exact not_not_intro c2), if_pos (show Int32.ofNat 2 < 8 by decide), of8 hp10 (by omega)]
      rfl
  · refine ⟨R 20 0 (16 + 8 * p + 3), C, R, ?_, ?_, h⟩
    · unfold X7_ofPot; rw [if_neg (by rw [has7 n1 n2]; exact not_not_intro c1)]
      rw [if_pos ibp, ix, if_neg (show ¬ Int32.ofNat 3 = 0 by decide), if_neg (show ¬ Int32.ofNat 3 = 1 by decide), if_neg (show ¬ Int32.ofNat 3 = 2 by decide), if_pos (show Int32.ofNat 3 = 3 by decide), pot_rd h.1 hq (by omega)]
    · unfold X8_ofPot; rw [if_neg (by rw [pot8 n1 n3]; exact not_not_intro c1)]
      rw [if_neg (by rw [in8_0_9]; exact not_not_intro c2), if_pos (show Int32.ofNat 3 < 8 by decide), of8 hp10 (by omega)]
      rfl
  · refine ⟨R 20 0 (16 + 8 * p + 4), C, R, ?_, ?_, h⟩
    · unfold X7_ofPot; rw [if_neg (by rw [has7 n1 n2]; exact not_not_intro c1)]
      rw [if_pos ibp, ix, if_neg (show ¬ Int32.ofNat 4 = 0 by decide), if_neg (show ¬ Int32.ofNat 4 = 1 by decide), if_neg (show ¬ Int32.ofNat 4 = 2 by decide), if_neg (show ¬ Int32.ofNat 4 = 3 by decide), if_pos (show Int32.ofNat 4 = 4 by decide), pot_rd h.1 hq (by omega)]
    · unfold X8_ofPot; rw [if_neg (by rw [pot8 n1 n3]; exact not_not_intro c1)]
      rw [if_neg (by rw [in8_0_9]; exact not_not_intro c2), if_pos (show Int32.ofNat 4 < 8 by decide), of8 hp10 (by omega)]
      rfl
  · refine ⟨R 20 0 (16 + 8 * p + 5), C, R, ?_, ?_, h⟩
    · unfold X7_ofPot; rw [if_neg (by rw [has7 n1 n2]; exact not_not_intro c1)]
      rw [if_pos ibp, ix, if_neg (show ¬ Int32.ofNat 5 = 0 by decide), if_neg (show ¬ Int32.ofNat 5 = 1 by decide), if_neg (show ¬ Int32.ofNat 5 = 2 by decide), if_neg (show ¬ Int32.ofNat 5 = 3 by decide), if_neg (show ¬ Int32.ofNat 5 = 4 by decide), if_pos (show Int32.ofNat 5 = 5 by decide), pot_rd h.1 hq (by omega)]
    · unfold X8_ofPot; rw [if_neg (by rw [pot8 n1 n3]; exact not_not_intro c1)]
      rw [if_neg (by rw [in8_0_9]; exact not_not_intro c2), if_pos (show Int32.ofNat 5 < 8 by decide), of8 hp10 (by omega)]
      rfl
  · refine ⟨R 20 0 (16 + 8 * p + 6), C, R, ?_, ?_, h⟩
    · unfold X7_ofPot; rw [if_neg (by rw [has7 n1 n2]; exact not_not_intro c1)]
      rw [if_pos ibp, ix, if_neg (show ¬ Int32.ofNat 6 = 0 by decide), if_neg (show ¬ Int32.ofNat 6 = 1 by decide), if_neg (show ¬ Int32.ofNat 6 = 2 by decide), if_neg (show ¬ Int32.ofNat 6 = 3 by decide), if_neg (show ¬ Int32.ofNat 6 = 4 by decide), if_neg (show ¬ Int32.ofNat 6 = 5 by decide), if_pos (show Int32.ofNat 6 = 6 by decide), pot_rd h.1 hq (by omega)]
    · unfold X8_ofPot; rw [if_neg (by rw [pot8 n1 n3]; exact not_not_intro c1)]
      rw [if_neg (by rw [in8_0_9]; exact not_not_intro c2), if_pos (show Int32.ofNat 6 < 8 by decide), of8 hp10 (by omega)]
      rfl
  · refine ⟨R 20 0 (16 + 8 * p + 7), C, R, ?_, ?_, h⟩
    · unfold X7_ofPot; rw [if_neg (by rw [has7 n1 n2]; exact not_not_intro c1)]
      rw [if_pos ibp, ix, if_neg (show ¬ Int32.ofNat 7 = 0 by decide), if_neg (show ¬ Int32.ofNat 7 = 1 by decide), if_neg (show ¬ Int32.ofNat 7 = 2 by decide), if_neg (show ¬ Int32.ofNat 7 = 3 by decide), if_neg (show ¬ Int32.ofNat 7 = 4 by decide), if_neg (show ¬ Int32.ofNat 7 = 5 by decide), if_neg (show ¬ Int32.ofNat 7 = 6 by decide), if_pos (show Int32.ofNat 7 = 7 by decide), pot_rz h.1 hq]
      have r : inR (R 20 0 (16 + 8 * p + 7)) 0 1 := pot_rg (k := 7) h.1 hq (by omega)
      by_cases hz : R 20 0 (16 + 8 * p + 7) = 0
      · rw [if_pos hz, hz]
      · rw [if_neg hz]
        congr 2
        rw [i_eq, i_z] at hz
        rw [i_eq]
        have := r.1
        have := r.2
        show (1 : Int) = _
        omega
    · unfold X8_ofPot; rw [if_neg (by rw [pot8 n1 n3]; exact not_not_intro c1)]
      rw [if_neg (by rw [in8_0_9]; exact not_not_intro c2), if_pos (show Int32.ofNat 7 < 8 by decide), of8 hp10 (by omega)]
      rfl
  · refine ⟨wntD (R 20 0) p, C, R, ?_, ?_, h⟩
    · unfold X7_ofPot; rw [if_neg (by rw [has7 n1 n2]; exact not_not_intro c1)]
      rw [if_pos ibp, ix, if_neg (show ¬ Int32.ofNat 8 = 0 by decide), if_neg (show ¬ Int32.ofNat 8 = 1 by decide), if_neg (show ¬ Int32.ofNat 8 = 2 by decide), if_neg (show ¬ Int32.ofNat 8 = 3 by decide), if_neg (show ¬ Int32.ofNat 8 = 4 by decide), if_neg (show ¬ Int32.ofNat 8 = 5 by decide), if_neg (show ¬ Int32.ofNat 8 = 6 by decide), if_neg (show ¬ Int32.ofNat 8 = 7 by decide), if_pos (show Int32.ofNat 8 = 8 by decide), wants7 h.1 (by rw [en]; exact hp)]
    · unfold X8_ofPot; rw [if_neg (by rw [pot8 n1 n3]; exact not_not_intro c1)]
      rw [if_neg (by rw [in8_0_9]; exact not_not_intro c2), if_neg (show ¬ Int32.ofNat 8 < 8 by decide), if_pos (show Int32.ofNat 8 = 8 by decide), wants8 hp10]
      rfl
  · refine ⟨berD (R 20 0) p, C, R, ?_, ?_, h⟩
    · unfold X7_ofPot; rw [if_neg (by rw [has7 n1 n2]; exact not_not_intro c1)]
      rw [if_pos ibp, ix, if_neg (show ¬ Int32.ofNat 9 = 0 by decide), if_neg (show ¬ Int32.ofNat 9 = 1 by decide), if_neg (show ¬ Int32.ofNat 9 = 2 by decide), if_neg (show ¬ Int32.ofNat 9 = 3 by decide), if_neg (show ¬ Int32.ofNat 9 = 4 by decide), if_neg (show ¬ Int32.ofNat 9 = 5 by decide), if_neg (show ¬ Int32.ofNat 9 = 6 by decide), if_neg (show ¬ Int32.ofNat 9 = 7 by decide), if_neg (show ¬ Int32.ofNat 9 = 8 by decide), if_pos (show Int32.ofNat 9 = 9 by decide), bears7 h.1 (by rw [en]; exact hp)]
    · unfold X8_ofPot; rw [if_neg (by rw [pot8 n1 n3]; exact not_not_intro c1)]
      rw [if_neg (by rw [in8_0_9]; exact not_not_intro c2), if_neg (show ¬ Int32.ofNat 9 < 8 by decide), if_neg (show ¬ Int32.ofNat 9 = 8 by decide), bears8 hp10]
      rfl
theorem eq_count (a1 : Int32) : EqP Rel (X7_count a1) (X8_count a1) := by
  intro C R h
  have v0 : C 1 0 5 = R 20 0 0 := by
    obtain ⟨n, -, e1, e2, -⟩ := id h.1
    rw [e1, e2]
  have v1 : C 1 0 6 = R 20 0 1 := year_eq h.1
  have v2 : C 1 0 7 = R 20 0 2 := by
    obtain ⟨n, -, -, -, -, -, n6, -⟩ := id h.1
    exact n6
  obtain ⟨v9, ⟨t, -, t2, t3, -⟩, w, -, w2, w3, -⟩ := id h.2.1
  have v6 : C 0 0 2 = R 20 0 4 := by rw [t2, t3]
  have v7 : C 0 0 3 = R 20 0 5 := by rw [w2, w3]
  have v8 : C 6 0 1 = R 19 0 16 := by
    obtain ⟨x, -, e1, e2, -⟩ := id h.2.2.2.2.1
    rw [e1, e2]
  by_cases n0 : a1 = 0
  · refine ⟨R 20 0 0, C, R, ?_, ?_, h⟩
    · unfold X7_count
      rw [if_pos n0, v0]
    · unfold X8_count
      rw [if_pos n0, n0, if_pos (by decide)]
      rfl
  by_cases n1 : a1 = 1
  · refine ⟨R 20 0 1, C, R, ?_, ?_, h⟩
    · unfold X7_count
      rw [if_neg n0, if_pos n1, v1]
    · unfold X8_count
      rw [if_neg n0, if_pos n1, n1, if_pos (by decide)]
      rfl
  by_cases n2 : a1 = 2
  · refine ⟨R 20 0 2, C, R, ?_, ?_, h⟩
    · unfold X7_count
      rw [if_neg n0, if_neg n1, if_pos n2, v2]
    · unfold X8_count
      rw [if_neg n0, if_neg n1, if_pos n2, n2, if_pos (by decide)]
      rfl
  by_cases n3 : a1 = 3
  · refine ⟨smN (fun p => R 20 0 (16 + 8 * p + 6)) (nP (R 20 0)), C, R, ?_, ?_, h⟩
    · unfold X7_count
      rw [if_neg n0, if_neg n1, if_neg n2, if_pos n3, hands7 h.1]
      rfl
    · unfold X8_count
      rw [if_neg n0, if_neg n1, if_neg n2, if_pos n3, hands8 h.1]
      rfl
  by_cases n4 : a1 = 4
  · refine ⟨Int32.ofNat (stN (pfa (R 20 0)) (nP (R 20 0))), C, R, ?_, ?_, h⟩
    · unfold X7_count
      rw [if_neg n0, if_neg n1, if_neg n2, if_neg n3, if_pos n4, false7 h.1]
      rfl
    · unfold X8_count
      rw [if_neg n0, if_neg n1, if_neg n2, if_neg n3, if_pos n4, set5_8 h.1]
      rfl
  by_cases n5 : a1 = 5
  · refine ⟨Int32.ofNat (stN (pin (R 20 0) (-1)) (nP (R 20 0))), C, R, ?_, ?_, h⟩
    · unfold X7_count
      rw [if_neg n0, if_neg n1, if_neg n2, if_neg n3, if_neg n4, if_pos n5, pots7 _ h.1]
      rfl
    · unfold X8_count
      rw [if_neg n0, if_neg n1, if_neg n2, if_neg n3, if_neg n4, if_pos n5, set6_8 h.1]
      rfl
  by_cases n6 : a1 = 6
  · refine ⟨R 20 0 4, C, R, ?_, ?_, h⟩
    · unfold X7_count
      rw [if_neg n0, if_neg n1, if_neg n2, if_neg n3, if_neg n4, if_neg n5, if_pos n6, v6]
    · unfold X8_count
      rw [if_neg n0, if_neg n1, if_neg n2, if_neg n3, if_neg n4, if_neg n5, if_pos n6]
  by_cases n7 : a1 = 7
  · refine ⟨R 20 0 5, C, R, ?_, ?_, h⟩
    · unfold X7_count
      rw [if_neg n0, if_neg n1, if_neg n2, if_neg n3, if_neg n4, if_neg n5, if_neg n6, if_pos n7, v7]
    · unfold X8_count
      rw [if_neg n0, if_neg n1, if_neg n2, if_neg n3, if_neg n4, if_neg n5, if_neg n6, if_pos n7]
  by_cases n8 : a1 = 8
  · refine ⟨R 19 0 16, C, R, ?_, ?_, h⟩
    · unfold X7_count
      rw [if_neg n0, if_neg n1, if_neg n2, if_neg n3, if_neg n4, if_neg n5, if_neg n6, if_neg n7, if_pos n8, v8]
    · unfold X8_count
      rw [if_neg n0, if_neg n1, if_neg n2, if_neg n3, if_neg n4, if_neg n5, if_neg n6, if_neg n7, if_pos n8]
  by_cases n9 : a1 = 9
  · refine ⟨R 20 0 3, C, R, ?_, ?_, h⟩
    · unfold X7_count
      rw [if_neg n0, if_neg n1, if_neg n2, if_neg n3, if_neg n4, if_neg n5, if_neg n6, if_neg n7, if_neg n8, if_pos n9, v9]
    · unfold X8_count
      rw [if_neg n0, if_neg n1, if_neg n2, if_neg n3, if_neg n4, if_neg n5, if_neg n6, if_neg n7, if_neg n8, if_pos n9]
  refine bad 1 (by omega) (by omega) h ?_ ?_
  · unfold X7_count
    rw [if_neg n0, if_neg n1, if_neg n2, if_neg n3, if_neg n4, if_neg n5, if_neg n6, if_neg n7, if_neg n8, if_neg n9]
    exact bind_some2
  · unfold X8_count
    rw [if_neg n0, if_neg n1, if_neg n2, if_neg n3, if_neg n4, if_neg n5, if_neg n6, if_neg n7, if_neg n8, if_neg n9]
    exact bind_some2
theorem desk_copy {a b : Nat} {C : Mem} {D : Nat → Int32} (h : RelK b C D) : ∃ C', X0_copy a b C = some C' ∧ RelK a C' D ∧ Fr (fun f i => (f = 0 ∨ f = 8 ∨ f = 9) ∧ i = a) C C' := by
  obtain ⟨k1, ⟨t, t1, t2, t3, t4⟩, w, w1, w2, w3, w4⟩ := h
  obtain ⟨C1, e1⟩ : ∃ C1, C1 = cp3 (cp3 C 8 b 0 8 a 0 50) 9 b 0 9 a 0 20 := ⟨_, rfl⟩
  have f1 : ∀ i k, C1 0 i k = C 0 i k := fun i k => by rw [e1, cp3_f (by decide), cp3_f (by decide)]
  have f8 : ∀ k, k < 50 → C1 8 a k = C 8 b k := fun k hk => by rw [e1, cp3_f (by decide), cp3_in hk]
  have f9 : ∀ k, k < 20 → C1 9 a k = C 9 b k := fun k hk => by rw [e1, cp3_in hk, cp3_f (by decide)]
  have e7 : X0_copy a b C = some (up3 (up3 (up3 C1 0 a 2 (C 0 b 2)) 0 a 3 (C 0 b 3)) 0 a 4 (C 0 b 4)) := by
    unfold X0_copy
    rw [if_pos (by decide), if_pos (by decide), e1]
  refine ⟨_, e7, ⟨?_, ⟨t, t1, ?_, t3, fun k hk => ?_⟩, w, w1, ?_, w3, fun k hk => ?_⟩, ?_⟩
  · rw [up3_eq]; exact k1
  · rw [up3_k (by decide), up3_k (by decide), up3_eq]; exact t2
  · rw [up3_f (by decide), up3_f (by decide), up3_f (by decide), f8 k (by omega)]; exact t4 k hk
  · rw [up3_k (by decide), up3_eq]; exact w2
  · rw [up3_f (by decide), up3_f (by decide), up3_f (by decide), f9 k (by omega)]; exact w4 k hk
  · rw [e1]
    exact ((((Fr.cp ⟨Or.inr (Or.inl rfl), rfl⟩).tr (Fr.cp ⟨Or.inr (Or.inr rfl), rfl⟩)).tr (Fr.up ⟨Or.inl rfl, rfl⟩)).tr (Fr.up ⟨Or.inl rfl, rfl⟩)).tr (Fr.up ⟨Or.inl rfl, rfl⟩)
/-- two Districts and two Desks, one of each written -/
theorem Rel_img {C C' R R' : Mem} (hC : Fr (fun f i => DIST 0 f i ∨ DIST 2 f i ∨ (f = 0 ∨ f = 8 ∨ f = 9) ∨ f = 7) C C') (hR : ∀ f i k, ¬ (f = 20 ∨ f = 21 ∨ (f = 19 ∧ k = 3)) → R' f i k = R f i k) (hD : RelD 0 C' (R' 20 0)) (hK : RelK 0 C' (R' 20 0)) (hI : RelI C' R') (h : Rel C R) : Rel C' R' := by
  obtain ⟨-, -, -, hE, hV, hS⟩ := h
  refine ⟨hD, hK, hI, fun k h1 h2 => ?_, ?_, fun s hs => ?_⟩
  · rw [hC 18 0 k (by unfold DIST; omega), hR 23 0 k (by omega)]; exact hE k h1 h2
  · obtain ⟨t, t1, t2, t3, t4⟩ := hV
    refine ⟨t, t1, (hC 6 0 1 (by unfold DIST; omega)).trans t2, (hR 19 0 16 (by omega)).trans t3, fun k hk => ?_⟩
    rw [hC 16 0 k (by unfold DIST; omega), hR 27 0 k (by omega)]; exact t4 k hk
  · obtain ⟨⟨a, b⟩, ⟨n, c1, c2, c3⟩, d⟩ := hS s hs
    refine ⟨⟨?_, ?_⟩, ⟨n, c1, (hC 5 s 2 (by unfold DIST; omega)).trans c2, (hR 29 0 s (by omega)).trans c3⟩, fun k hk => ?_⟩
    · rw [hC 5 s 1 (by unfold DIST; omega), hR 28 0 s (by omega)]; exact a
    · rw [hC 5 s 1 (by unfold DIST; omega)]; exact b
    · rw [hC 15 s k (by unfold DIST; omega), hR 30 0 _ (by omega)]; exact d k hk
theorem supDK {k : Nat} (h : supD k ∨ supK k) : k < 268 := by unfold supD supK at h; omega
theorem RelD_fr {b : Nat} {S : Nat → Nat → Prop} {C C' : Mem} {D D' : Nat → Int32} (hC : Fr S C C') (hS : ∀ f i, (f = 1 ∧ i = b) ∨ (f = 3 ∧ 10 * b ≤ i ∧ i < 10 * b + 10) ∨ ((f = 10 ∨ f = 11) ∧ i = b) ∨ ((f = 2 ∨ f = 13) ∧ (i = 2 * b ∨ i = 2 * b + 1)) → ¬ S f i) (hD : ∀ k, supD k → D' k = D k) (h : RelD b C D) : RelD b C' D' :=
  RelD_cg (fun k _ _ => hC 1 b k (hS _ _ (by omega))) (fun p hp k => hC 3 _ k (hS _ _ (by omega))) (fun k _ => hC 10 b k (hS _ _ (by omega))) (fun k _ => hC 11 b k (hS _ _ (by omega))) (fun u hu => hC 2 _ _ (hS _ _ (by omega))) (fun u hu k _ => hC 13 _ _ (hS _ _ (by omega))) hD h
theorem RelK_fr {e : Nat} {S : Nat → Nat → Prop} {C C' : Mem} {D D' : Nat → Int32} (hC : Fr S C C') (hS : ∀ f i, (f = 0 ∨ f = 8 ∨ f = 9) ∧ i = e → ¬ S f i) (hD : ∀ k, supK k → D' k = D k) (h : RelK e C D) : RelK e C' D' :=
  RelK_cg (fun k _ _ => hC 0 e k (hS _ _ (by omega))) (fun k _ => hC 8 e k (hS _ _ (by omega))) (fun k _ => hC 9 e k (hS _ _ (by omega))) hD h
theorem eq_image : EqP Rel X7_image X8_image := by
  intro C R h
  obtain ⟨C1, g1, g2, g3⟩ := copy_eq (a := 2) (b := 0) (by omega) (by omega) (by omega) h.1
  have k0 : RelK 0 C1 (R 20 0) := RelK_fr g3 (fun f i hh => by unfold DIST; omega) (fun _ _ => rfl) h.2.1
  obtain ⟨C2, m1, m2, m3⟩ := desk_copy (a := 1) k0
  have e79 : C2 7 0 9 = R 19 0 3 := by
    rw [m3 7 0 9 (by omega), g3 7 0 9 (by unfold DIST; omega)]
    exact h.2.2.1.1
  obtain ⟨R1, eR⟩ : ∃ R1, R1 = cp3 R 20 0 0 21 0 0 268 := ⟨_, rfl⟩
  have r20 : R1 20 0 = R 20 0 := by
    funext k
    rw [eR, cp3_f (by decide)]
  have r19 : R1 19 0 3 = R 19 0 3 := by rw [eR, cp3_f (by decide)]
  have r21 : ∀ k, k < 268 → R1 21 0 k = R 20 0 k := fun k hk => by rw [eR, cp3_in hk]
  refine ⟨R 19 0 3 + 1, up3 C2 7 0 9 (R 19 0 3 + 1), up3 R1 19 0 3 (R 19 0 3 + 1), ?_, ?_, ?_⟩
  · unfold X7_image
    rw [g1, bs, m1, bs, e79]
  · unfold X8_image
    rw [show X8_image_L2 400 0 R = _ from image_L 268 0 rfl 400 R (by omega), bs, ← eR, r19]
  · have u20 : (up3 R1 19 0 3 (R 19 0 3 + 1)) 20 0 = R 20 0 := by
      rw [← r20]
      funext k
      exact up3_f (by decide)
    have fr : Fr (fun f i => DIST 2 f i ∨ ((f = 0 ∨ f = 8 ∨ f = 9) ∧ i = 1) ∨ f = 7) C (up3 C2 7 0 9 (R 19 0 3 + 1)) := ((g3.mono (fun f i hh => Or.inl hh)).tr (m3.mono (fun f i hh => Or.inr (Or.inl hh)))).tr (Fr.up (Or.inr (Or.inr rfl)))
    refine Rel_img (fr.mono (fun f i hh => by unfold DIST at hh ⊢; omega)) (fun f i k hf => ?_) ?_ ?_ ⟨?_, fun _ => ⟨?_, ?_⟩⟩ h
    · rw [show up3 R1 19 0 3 (R 19 0 3 + 1) f i k = R1 f i k from if_neg (by omega), eR, cp3_f (by omega)]
    · rw [u20]
      exact RelD_fr fr (fun f i hh => by unfold DIST; omega) (fun _ _ => rfl) h.1
    · rw [u20]
      exact RelK_fr fr (fun f i hh => by unfold DIST; omega) (fun _ _ => rfl) h.2.1
    · rw [up3_eq, up3_eq]
    · refine RelD_fr ((m3.mono (fun f i hh => Or.inl hh)).tr (Fr.up (S := fun f i => ((f = 0 ∨ f = 8 ∨ f = 9) ∧ i = 1) ∨ f = 7) (Or.inr rfl))) (fun f i hh => by omega) (fun k hk => ?_) g2
      rw [up3_f (by decide)]
      exact r21 k (supDK (Or.inl hk))
    · refine RelK_fr (Fr.up (S := fun f i => f = 7) rfl) (fun f i hh => by omega) (fun k hk => ?_) m2
      rw [up3_f (by decide)]
      exact r21 k (supDK (Or.inr hk))
theorem eq_restore : EqP Rel X7_restore X8_restore := by
  intro C R h
  obtain ⟨i1, i2⟩ := h.2.2.1
  by_cases hz : R 19 0 3 = 0
  · refine bad 2 (by omega) (by omega) h ?_ ?_
    · unfold X7_restore
      rw [i1, if_pos hz]
      exact bind_some2
    · unfold X8_restore
      rw [if_pos hz]
      exact bind_some2
  obtain ⟨hD, hK⟩ := i2 (by rw [i1]; exact hz)
  obtain ⟨C1, g1, g2, g3⟩ := copy_eq (a := 0) (b := 2) (by omega) (by omega) (by omega) hD
  have k0 : RelK 1 C1 (R 21 0) := RelK_fr g3 (fun f i hh => by unfold DIST; omega) (fun _ _ => rfl) hK
  obtain ⟨C2, m1, m2, m3⟩ := desk_copy (a := 0) k0
  obtain ⟨R1, eR⟩ : ∃ R1, R1 = cp3 R 21 0 0 20 0 0 268 := ⟨_, rfl⟩
  have r20 : ∀ k, k < 268 → R1 20 0 k = R 21 0 k := fun k hk => by rw [eR, cp3_in hk]
  have ro : ∀ f i k, ¬ f = 20 → R1 f i k = R f i k := fun f i k hf => by rw [eR, cp3_f hf]
  have fr : Fr (fun f i => DIST 0 f i ∨ ((f = 0 ∨ f = 8 ∨ f = 9) ∧ i = 0)) C C2 := (g3.mono (fun f i hh => Or.inl hh)).tr (m3.mono (fun f i hh => Or.inr hh))
  have hD0 : RelD 0 C2 (R1 20 0) := RelD_fr m3 (fun f i hh => by omega) (fun k hk => r20 k (supDK (Or.inl hk))) g2
  refine ⟨R1 20 0 1, C2, R1, ?_, ?_, ?_⟩
  · unfold X7_restore
    rw [i1, if_neg hz, g1, bs, m1, bs, year_eq hD0]
  · unfold X8_restore
    rw [if_neg hz, show X8_restore_L15 400 0 R = _ from rest_L 268 0 rfl 400 R (by omega), bs, ← eR]
  · have e79 : C2 7 0 9 = C 7 0 9 := fr 7 0 9 (by unfold DIST; omega)
    refine Rel_img (fr.mono (fun f i hh => by unfold DIST at hh ⊢; omega)) (fun f i k hf => ro f i k (by omega)) hD0 ?_ ⟨?_, fun _ => ⟨?_, ?_⟩⟩ h
    · exact RelK_cg (fun _ _ _ => rfl) (fun _ _ => rfl) (fun _ _ => rfl) (fun k hk => r20 k (supDK (Or.inr hk))) m2
    · rw [e79, ro 19 0 3 (by omega)]; exact i1
    · exact RelD_fr fr (fun f i hh => by unfold DIST; omega) (fun k _ => ro 21 0 k (by omega)) hD
    · exact RelK_fr fr (fun f i hh => by unfold DIST; omega) (fun k _ => ro 21 0 k (by omega)) hK
