theorem bs {α β : Type} {a : α} {f : α → Option β} : (some a).bind f = f a := rfl
theorem eq_stick (a1 : Int32) : EqP Rel (X7_stick a1) (X8_stick a1) := by
  intro C R h
  obtain ⟨n, n1, n2, n3, -⟩ := id h.1
  by_cases c1 : ¬ (0 ≤ a1.toInt ∧ a1.toInt < n)
  · refine bad 1 (by omega) (by omega) h ?_ ?_
    · unfold X7_stick
      rw [if_pos ((has7 n1 n2 _).mpr c1)]
      exact bind_some2
    · unfold X8_stick
      rw [if_pos ((pot8 n1 n3 _).mpr c1)]
      exact bind_some2
  replace c1 := Decidable.not_not.mp c1
  obtain ⟨p, rfl, p1, p2⟩ := i_get (b := n - 1) ⟨c1.1, by omega⟩ (by omega)
  have hp : (p : Int) < (C 1 0 5).toInt := by rw [n2, i_of (by omega)]; omega
  have ix : (Int32.ofNat p).toNatClampNeg = p := i_ofix (by omega)
  have ibp : ib (Int32.ofNat p) 10 = true := ib_of (by omega) (by omega)
  have ea : C 3 (10 * 0 + p) 2 = R 20 0 (16 + 8 * p + 2) := pot_rd h.1 hp (by omega)
  have eg : C 3 (10 * 0 + p) 6 = R 20 0 (16 + 8 * p + 6) := pot_rd h.1 hp (by omega)
  have ra : inR (R 20 0 (16 + 8 * p + 2)) (-1) 4 := pot_rg (k := 2) h.1 hp (by omega)
  have rg : inR (R 20 0 (16 + 8 * p + 6)) 0 3 := pot_rg (k := 6) h.1 hp (by omega)
  have hcan : X3_canTakeFalseHandle (10 * 0 + p) C = (if R 20 0 (16 + 8 * p + 2) = -1 then 0 else if R 20 0 (16 + 8 * p + 6) = 0 then 1 else 0) := by
    unfold X3_canTakeFalseHandle
    rw [ea, eg]
  by_cases hb : R 20 0 (16 + 8 * p + 2) = -1
  · refine bad 3 (by omega) (by omega) h ?_ ?_
    · unfold X7_stick; rw [if_neg (by rw [has7 n1 n2]; exact not_not_intro c1)]
      rw [if_pos ibp, ix, hcan, if_pos hb, if_pos (by decide)]
      exact bind_some2
    · unfold X8_stick; rw [if_neg (by rw [pot8 n1 n3]; exact not_not_intro c1)]
      rw [broken8 (by omega), if_pos (by rw [hb]; decide)]
      rw [bs, if_neg (by decide)]
      exact bind_some2
  · have nb : ¬ R 20 0 (16 + 8 * p + 2) < 0 := by
      rw [i_lt, i_z]
      intro hc
      apply hb
      rw [i_eq]
      show _ = (-1 : Int)
      have := ra.1
      omega
    by_cases hg : R 20 0 (16 + 8 * p + 6) = 0
    · have e7 : X7_stick (Int32.ofNat p) C = some (R 20 0 (16 + 8 * p + 4), up3 (up3 C 3 (10 * 0 + p) 6 1) 3 (10 * 0 + p) 7 1) := by
        unfold X7_stick; rw [if_neg (by rw [has7 n1 n2]; exact not_not_intro c1)]
        rw [if_pos ibp, ix, hcan, if_neg hb, if_pos hg, if_neg (by decide)]
        show some ((up3 (up3 C 3 (10 * 0 + p) 6 1) 3 (10 * 0 + p) 7 1) 3 (10 * 0 + p) 4, _) = _
        rw [up3_k (by decide), up3_k (by decide), pot_rd h.1 hp (by omega)]
      have e8 : X8_stick (Int32.ofNat p) R = some (R 20 0 (16 + 8 * p + 4), up3 (up3 R 20 0 (16 + 8 * p + 6) 1) 20 0 (16 + 8 * p + 7) 1) := by
        unfold X8_stick; rw [if_neg (by rw [pot8 n1 n3]; exact not_not_intro c1)]
        rw [broken8 (by omega), if_neg nb]
        rw [bs, if_pos (by decide), show (6 : Int32) = Int32.ofNat 6 from rfl, show (7 : Int32) = Int32.ofNat 7 from rfl, show (4 : Int32) = Int32.ofNat 4 from rfl, of8 (by omega) (by omega)]
        rw [bs, if_neg (by rw [hg]; decide), sets8 (by omega) (by omega)]
        rw [bs, sets8 (by omega) (by omega)]
        rw [bs, of8 (by omega) (by omega), up3_k (by omega), up3_k (by omega)]
        rfl
      refine ⟨_, _, _, e7, e8, ?_⟩
      exact Rel_pot (by rw [up_pots]; exact hp) (by omega) (by omega) (show rngP 7 1 from ⟨by decide, by decide⟩) (Rel_pot hp (by omega) (by omega) (show rngP 6 1 from ⟨by decide, by decide⟩) h)
    · refine bad 3 (by omega) (by omega) h ?_ ?_
      · unfold X7_stick; rw [if_neg (by rw [has7 n1 n2]; exact not_not_intro c1)]
        rw [if_pos ibp, ix, hcan, if_neg hb, if_neg hg, if_pos (by decide)]
        exact bind_some2
      · unfold X8_stick; rw [if_neg (by rw [pot8 n1 n3]; exact not_not_intro c1)]
        rw [broken8 (by omega), if_neg nb]
        rw [bs, if_pos (by decide), show (6 : Int32) = Int32.ofNat 6 from rfl, of8 (by omega) (by omega)]
        rw [bs, if_pos ?_]
        · exact bind_some2
        · rw [i_lt, i_z]
          have h1 := rg.1
          have h2 : (R 20 0 (16 + 8 * p + 6)).toInt ≠ 0 := fun e => hg (Int32.toInt_inj.mp e)
          omega
-- trace
theorem eq_trace (a1 : Int32) : EqP Rel (X7_trace a1) (X8_trace a1) := by
  intro C R h
  obtain ⟨t, t1, t2, t3, t4⟩ := h.2.2.2.2.1
  by_cases c1 : 0 ≤ a1.toInt ∧ a1.toInt < t
  · obtain ⟨p, rfl, p1, p2⟩ := i_get (b := t - 1) ⟨c1.1, by omega⟩ (by omega)
    have ix : (Int32.ofNat p).toNatClampNeg = p := i_ofix (by omega)
    have ibp : ib (Int32.ofNat p) 40 = true := ib_of (by omega) (by omega)
    refine ⟨C 16 0 p, C, R, ?_, ?_, h⟩
    · unfold X7_trace
      rw [if_neg (by rw [i_lt, i_z]; omega), t2, if_pos (by rw [i_lt, i_of (by omega), i_of (by omega)]; omega), if_pos ibp, ix]
    · unfold X8_trace
      rw [t3, if_neg (by rw [in8, to64, to64, i_pred (by omega), show (0 : Int64).toInt = 0 from rfl]; omega), if_pos ibp, ix, ← t4 p (by omega)]
  · refine bad 2 (by omega) (by omega) h ?_ ?_
    · unfold X7_trace
      by_cases hz : a1 < 0
      · rw [if_pos hz]; exact bind_some2
      · rw [if_neg hz, t2, if_neg ?_]
        · exact bind_some2
        · rw [i_lt, i_z] at hz
          rw [i_lt, i_of (by omega)]
          omega
    · unfold X8_trace
      rw [t3, if_pos (by rw [in8, to64, to64, i_pred (by omega), show (0 : Int64).toInt = 0 from rfl]; omega)]
      exact bind_some2
