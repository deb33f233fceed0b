theorem i_rem {x : Int32} {m : Nat} (h0 : 0 ≤ x.toInt) (hm : 0 < m) (hm2 : m < 2147483648) : (jrem x (Int32.ofNat m)).toInt = x.toInt % m := by
  unfold jrem
  have e1 : (x / Int32.ofNat m).toInt = x.toInt / m := by rw [i_div hm hm2, Int.tdiv_eq_ediv_of_nonneg h0]
  have b1 : 0 ≤ x.toInt / m * m := Int.mul_nonneg (Int.ediv_nonneg h0 (by omega)) (by omega)
  have b2 : x.toInt / m * m ≤ x.toInt := Int.ediv_mul_le _ (by omega)
  have b3 := i_hi x
  have e2 : (x / Int32.ofNat m * Int32.ofNat m).toInt = x.toInt / m * m := by
    rw [i_mul (by rw [e1, i_of hm2]; omega) (by rw [e1, i_of hm2]; omega), e1, i_of hm2]
  rw [i_sub (by rw [e2]; omega) (by rw [e2]; omega), e2]
  have := Int.emod_add_ediv_mul x.toInt m
  omega
theorem eq_become (a1 a2 : Int32) : EqP Rel (X7_become a1 a2) (X8_become a1 a2) := by
  intro C R h
  obtain ⟨n, n1, n2, n3, -⟩ := id h.1
  by_cases c1 : ¬ (0 ≤ a1.toInt ∧ a1.toInt < n)
  · refine bad 1 (by omega) (by omega) h ?_ ?_
    · unfold X7_become
      rw [if_pos ((has7 n1 n2 _).mpr c1)]
      exact bind_some2
    · unfold X8_become
      rw [if_pos ((pot8 n1 n3 _).mpr c1)]
      exact bind_some2
  replace c1 := Decidable.not_not.mp c1
  by_cases c2 : ¬ (0 ≤ a2.toInt ∧ a2.toInt ≤ 69)
  · refine bad 1 (by omega) (by omega) h ?_ ?_
    · unfold X7_become
      rw [if_neg (by rw [has7 n1 n2]; exact not_not_intro c1), if_pos ((kind7 _).mpr c2)]
      exact bind_some2
    · unfold X8_become
      rw [if_neg (by rw [pot8 n1 n3]; exact not_not_intro c1), if_pos ((in8_0_69 _).mpr c2)]
      exact bind_some2
  replace c2 := Decidable.not_not.mp c2
  obtain ⟨p, rfl, p1, p2⟩ := i_get (b := n - 1) ⟨c1.1, by omega⟩ (by omega)
  have hp : (p : Int) < (C 1 0 5).toInt := by rw [n2, i_of (by omega)]; omega
  have ix : (Int32.ofNat p).toNatClampNeg = p := i_ofix (by omega)
  have ibp : ib (Int32.ofNat p) 10 = true := ib_of (by omega) (by omega)
  have r0 : rngP 0 (a2 / 10) := by
    have e := i_div (x := a2) (m := 10) (by omega) (by omega)
    rw [Int.tdiv_eq_ediv_of_nonneg c2.1] at e
    exact ⟨by rw [show (10 : Int32) = Int32.ofNat 10 from rfl, e]; omega, by rw [show (10 : Int32) = Int32.ofNat 10 from rfl, e]; omega⟩
  have r1 : rngP 1 (jrem a2 10) := by
    have e := i_rem (x := a2) (m := 10) c2.1 (by omega) (by omega)
    exact ⟨by rw [show (10 : Int32) = Int32.ofNat 10 from rfl, e]; omega, by rw [show (10 : Int32) = Int32.ofNat 10 from rfl, e]; omega⟩
  have e7 : X7_become (Int32.ofNat p) a2 C = some (C 3 (10 * 0 + p) 0, up3 (up3 C 3 (10 * 0 + p) 0 (a2 / 10)) 3 (10 * 0 + p) 1 (jrem a2 10)) := by
    unfold X7_become; rw [if_neg (by rw [has7 n1 n2]; exact not_not_intro c1), if_neg (by rw [kind7]; exact not_not_intro c2)]
    rw [if_pos ibp, ix]
  have e8 : X8_become (Int32.ofNat p) a2 R = some (R 20 0 (16 + 8 * p + 0), up3 (up3 R 20 0 (16 + 8 * p + 0) (a2 / 10)) 20 0 (16 + 8 * p + 1) (jrem a2 10)) := by
    unfold X8_become; rw [if_neg (by rw [pot8 n1 n3]; exact not_not_intro c1), if_neg (by rw [in8_0_69]; exact not_not_intro c2)]
    rw [show (0 : Int32) = Int32.ofNat 0 from rfl, show (1 : Int32) = Int32.ofNat 1 from rfl, of8 (by omega) (by omega), sets8 (by omega) (by omega)]
    show (X8_sets _ _ _ _).bind _ = _
    rw [sets8 (by omega) (by omega)]
    rfl
  refine ⟨_, _, _, e7, by rw [pot_rd h.1 hp (by omega)]; exact e8, ?_⟩
  exact Rel_pot (by rw [up_pots]; exact hp) (by omega) (by omega) r1 (Rel_pot hp (by omega) (by omega) r0 h)
