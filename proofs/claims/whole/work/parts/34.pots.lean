/-- a number of a POT of now's, read on both sides -/
theorem pot_rd {C : Mem} {D : Nat → Int32} {b p k : Nat} (h : RelD b C D) (hp : (p : Int) < (C 1 b 5).toInt) (hk : k < 7) : C 3 (10 * b + p) k = D (16 + 8 * p + k) := by
  obtain ⟨n, n1, n2, n3, n4, -⟩ := h
  rw [n2, i_of (by omega)] at hp
  exact (n4 p (by omega)).2.1 k hk
theorem pot_rg {C : Mem} {D : Nat → Int32} {b p k : Nat} (h : RelD b C D) (hp : (p : Int) < (C 1 b 5).toInt) (hk : k < 8) : rngP k (D (16 + 8 * p + k)) := by
  obtain ⟨n, n1, n2, n3, n4, -⟩ := h
  rw [n2, i_of (by omega)] at hp
  exact (n4 p (by omega)).1 k hk
/-- one number of a POT is written on both sides -/
theorem Rel_pot {C R : Mem} {p k : Nat} {v : Int32} (hp : (p : Int) < (C 1 0 5).toInt) (hp2 : p < 10) (hk : k < 8) (hv : rngP k v) (h : Rel C R) : Rel (up3 C 3 (10 * 0 + p) k v) (up3 R 20 0 (16 + 8 * p + k) v) :=
  Rel_now1 (by unfold NOW; omega) (by unfold supD; omega) (RelD_pot hp hk hv h.1) h
theorem up_pots {C : Mem} {i k : Nat} {v : Int32} : (up3 C 3 i k v) 1 0 5 = C 1 0 5 := up3_f (by decide)
theorem eq_change (a1 a2 a3 : Int32) : EqP Rel (X7_change a1 a2 a3) (X8_change a1 a2 a3) := by
  intro C R h
  obtain ⟨n, n1, n2, n3, -⟩ := id h.1
  by_cases c1 : 0 ≤ a1.toInt ∧ a1.toInt < n
  · by_cases c2 : 0 ≤ a2.toInt ∧ a2.toInt ≤ 2
    · obtain ⟨p, rfl, p1, p2⟩ := i_get (b := n - 1) ⟨c1.1, by omega⟩ (by omega)
      obtain ⟨w, rfl, w1, w2⟩ := i_get c2 (by omega)
      have hp : (p : Int) < (C 1 0 5).toInt := by rw [n2, i_of (by omega)]; omega
      have ix : (Int32.ofNat p).toNatClampNeg = p := i_ofix (by omega)
      have ibp : ib (Int32.ofNat p) 10 = true := ib_of (by omega) (by omega)
      have fin : ∀ k : Nat, 3 ≤ k → k < 6 → rngP k a3 → X7_change (Int32.ofNat p) (Int32.ofNat w) a3 C = some (C 3 (10 * 0 + p) k, up3 C 3 (10 * 0 + p) k a3) → X8_change (Int32.ofNat p) (Int32.ofNat w) a3 R = some (R 20 0 (16 + 8 * p + k), up3 R 20 0 (16 + 8 * p + k) a3) → ∃ (res : Int32) (C' R' : Mem), X7_change (Int32.ofNat p) (Int32.ofNat w) a3 C = some (res, C') ∧ X8_change (Int32.ofNat p) (Int32.ofNat w) a3 R = some (res, R') ∧ Rel C' R' := by
        intro k k1 k2 hv e1 e2
        exact ⟨_, _, _, e1, by rw [pot_rd h.1 hp (by omega)]; exact e2, Rel_pot hp (by omega) (by omega) hv h⟩
      rcases (show w = 0 ∨ w = 1 ∨ w = 2 by omega) with rfl | rfl | rfl
      · by_cases c3 : 0 ≤ a3.toInt ∧ a3.toInt ≤ 9
        · refine fin 3 (by omega) (by omega) c3 ?_ ?_
          · unfold X7_change
            rw [if_neg (by rw [has7 n1 n2]; exact not_not_intro c1), if_neg (by decide), if_pos (by decide)]
            unfold X7_change_J32
            rw [if_neg (by rw [is7_9]; exact not_not_intro c3), if_pos ibp, if_pos (by decide), ix]
          · unfold X8_change
            rw [if_neg (by rw [pot8 n1 n3]; exact not_not_intro c1), if_neg (by decide), if_pos (by decide)]
            unfold X8_change_J36
            rw [if_neg (by rw [in8_0_9]; exact not_not_intro c3), show (3 + Int32.ofNat 0 : Int32) = Int32.ofNat 3 from rfl, of8 (by omega) (by omega), sets8 (by omega) (by omega)]
            rfl
        · refine bad 1 (by omega) (by omega) h ?_ ?_
          · unfold X7_change
            rw [if_neg (by rw [has7 n1 n2]; exact not_not_intro c1), if_neg (by decide), if_pos (by decide)]
            unfold X7_change_J32
            rw [if_pos ((is7_9 _).mpr c3)]
            exact bind_some2
          · unfold X8_change
            rw [if_neg (by rw [pot8 n1 n3]; exact not_not_intro c1), if_neg (by decide), if_pos (by decide)]
            unfold X8_change_J36
            rw [if_pos ((in8_0_9 _).mpr c3)]
            exact bind_some2
      · by_cases c3 : 0 ≤ a3.toInt ∧ a3.toInt ≤ 999
        · refine fin 4 (by omega) (by omega) c3 ?_ ?_
          · unfold X7_change
            rw [if_neg (by rw [has7 n1 n2]; exact not_not_intro c1), if_neg (by decide), if_neg (by decide)]
            unfold X7_change_J32
            rw [if_neg (by rw [is7_999]; exact not_not_intro c3), if_pos ibp, if_neg (by decide), if_pos (by decide), ix]
          · unfold X8_change
            rw [if_neg (by rw [pot8 n1 n3]; exact not_not_intro c1), if_neg (by decide), if_neg (by decide)]
            unfold X8_change_J36
            rw [if_neg (by rw [in8_0_999]; exact not_not_intro c3), show (3 + Int32.ofNat 1 : Int32) = Int32.ofNat 4 from rfl, of8 (by omega) (by omega), sets8 (by omega) (by omega)]
            rfl
        · refine bad 1 (by omega) (by omega) h ?_ ?_
          · unfold X7_change
            rw [if_neg (by rw [has7 n1 n2]; exact not_not_intro c1), if_neg (by decide), if_neg (by decide)]
            unfold X7_change_J32
            rw [if_pos ((is7_999 _).mpr c3)]
            exact bind_some2
          · unfold X8_change
            rw [if_neg (by rw [pot8 n1 n3]; exact not_not_intro c1), if_neg (by decide), if_neg (by decide)]
            unfold X8_change_J36
            rw [if_pos ((in8_0_999 _).mpr c3)]
            exact bind_some2
      · by_cases c3 : 0 ≤ a3.toInt ∧ a3.toInt ≤ 999
        · refine fin 5 (by omega) (by omega) c3 ?_ ?_
          · unfold X7_change
            rw [if_neg (by rw [has7 n1 n2]; exact not_not_intro c1), if_neg (by decide), if_neg (by decide)]
            unfold X7_change_J32
            rw [if_neg (by rw [is7_999]; exact not_not_intro c3), if_pos ibp, if_neg (by decide), if_neg (by decide), ix]
          · unfold X8_change
            rw [if_neg (by rw [pot8 n1 n3]; exact not_not_intro c1), if_neg (by decide), if_neg (by decide)]
            unfold X8_change_J36
            rw [if_neg (by rw [in8_0_999]; exact not_not_intro c3), show (3 + Int32.ofNat 2 : Int32) = Int32.ofNat 5 from rfl, of8 (by omega) (by omega), sets8 (by omega) (by omega)]
            rfl
        · refine bad 1 (by omega) (by omega) h ?_ ?_
          · unfold X7_change
            rw [if_neg (by rw [has7 n1 n2]; exact not_not_intro c1), if_neg (by decide), if_neg (by decide)]
            unfold X7_change_J32
            rw [if_pos ((is7_999 _).mpr c3)]
            exact bind_some2
          · unfold X8_change
            rw [if_neg (by rw [pot8 n1 n3]; exact not_not_intro c1), if_neg (by decide), if_neg (by decide)]
            unfold X8_change_J36
            rw [if_pos ((in8_0_999 _).mpr c3)]
            exact bind_some2
    · refine bad 1 (by omega) (by omega) h ?_ ?_
      · unfold X7_change
        rw [if_neg (by rw [has7 n1 n2]; exact not_not_intro c1), if_pos ((is7_2 _).mpr c2)]
        exact bind_some2
      · unfold X8_change
        rw [if_neg (by rw [pot8 n1 n3]; exact not_not_intro c1), if_pos ((in8_0_2 _).mpr c2)]
        exact bind_some2
  · refine bad 1 (by omega) (by omega) h ?_ ?_
    · unfold X7_change
      rw [if_pos ((has7 n1 n2 _).mpr c1)]
      exact bind_some2
    · unfold X8_change
      rw [if_pos ((pot8 n1 n3 _).mpr c1)]
      exact bind_some2
