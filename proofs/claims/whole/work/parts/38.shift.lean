/-- now's District and the row are written: the Desk's places stay -/
theorem Rel_nowD {C C' R R' : Mem} (hC : Fr NOW C C') (hR : ∀ f i k, ¬ f = 20 → R' f i k = R f i k) (hK : ∀ k, supK k → R' 20 0 k = R 20 0 k) (hD : RelD 0 C' (R' 20 0)) (h : Rel C R) : Rel C' R' :=
  Rel_rest (hC.mono (fun _ _ => Or.inl)) hR hD (RelK_cg (fun k _ _ => hC 0 0 k (by unfold NOW; omega)) (fun k _ => hC 8 0 k (by unfold NOW; omega)) (fun k _ => hC 9 0 k (by unfold NOW; omega)) hK h.2.1) h
theorem moveD_far {D : Nat → Int32} {p k : Nat} {v : Int32} (hk : k < 16 + 8 * p ∨ 24 + 8 * p ≤ k) : moveD D p v k = D k := by
  unfold moveD
  rw [upD_ne (by omega), upD_ne (by omega), upD_ne (by omega), upD_ne (by omega), upD_ne (by omega)]
theorem eq_shift (a1 a2 : Int32) : EqP Rel (X7_shift a1 a2) (X8_shift a1 a2) := by
  intro C R h
  obtain ⟨n, n1, n2, n3, -⟩ := id h.1
  by_cases c1 : ¬ (0 ≤ a1.toInt ∧ a1.toInt < n)
  · refine bad 1 (by omega) (by omega) h ?_ ?_
    · unfold X7_shift
      rw [if_pos ((has7 n1 n2 _).mpr c1)]
      exact bind_some2
    · unfold X8_shift
      rw [if_pos ((pot8 n1 n3 _).mpr c1)]
      exact bind_some2
  replace c1 := Decidable.not_not.mp c1
  by_cases c2 : ¬ (0 ≤ a2.toInt ∧ a2.toInt ≤ 4)
  · refine bad 1 (by omega) (by omega) h ?_ ?_
    · unfold X7_shift
      rw [if_neg (by rw [has7 n1 n2]; exact not_not_intro c1), if_pos ((isHouse7 _).mpr c2)]
      exact bind_some2
    · unfold X8_shift
      rw [if_neg (by rw [pot8 n1 n3]; exact not_not_intro c1), if_pos ((isHouse8 _).mpr c2)]
      exact bind_some2
  replace c2 := Decidable.not_not.mp c2
  obtain ⟨p, rfl, p1, p2⟩ := i_get (b := n - 1) ⟨c1.1, by omega⟩ (by omega)
  have hp : (p : Int) < (C 1 0 5).toInt := by rw [n2, i_of (by omega)]; omega
  have ix : (Int32.ofNat p).toNatClampNeg = p := i_ofix (by omega)
  have ibp : ib (Int32.ofNat p) 10 = true := ib_of (by omega) (by omega)
  have ea : C 3 (10 * 0 + p) 2 = R 20 0 (16 + 8 * p + 2) := pot_rd h.1 hp (by omega)
  have ra : inR (R 20 0 (16 + 8 * p + 2)) (-1) 4 := pot_rg (k := 2) h.1 hp (by omega)
  by_cases hb : R 20 0 (16 + 8 * p + 2) = -1
  · refine bad 3 (by omega) (by omega) h ?_ ?_
    · unfold X7_shift; rw [if_neg (by rw [has7 n1 n2]; exact not_not_intro c1), if_neg (by rw [isHouse7]; exact not_not_intro c2)]
      rw [if_pos ibp, ix, ea, if_pos hb]
      exact bind_some2
    · unfold X8_shift; rw [if_neg (by rw [pot8 n1 n3]; exact not_not_intro c1), if_neg (by rw [isHouse8]; exact not_not_intro c2)]
      rw [show (2 : Int32) = Int32.ofNat 2 from rfl, of8 (by omega) (by omega), bs, if_pos (by rw [hb]; decide)]
      exact bind_some2
  · have nb : ¬ R 20 0 (16 + 8 * p + 2) < 0 := by
      rw [i_lt, i_z]
      intro hc
      apply hb
      rw [i_eq]
      show _ = (-1 : Int)
      have := ra.1
      omega
    by_cases hs : R 20 0 (16 + 8 * p + 2) = a2
    · refine bad 3 (by omega) (by omega) h ?_ ?_
      · unfold X7_shift; rw [if_neg (by rw [has7 n1 n2]; exact not_not_intro c1), if_neg (by rw [isHouse7]; exact not_not_intro c2)]
        rw [if_pos ibp, ix, ea, if_neg hb, if_pos hs]
        exact bind_some2
      · unfold X8_shift; rw [if_neg (by rw [pot8 n1 n3]; exact not_not_intro c1), if_neg (by rw [isHouse8]; exact not_not_intro c2)]
        rw [show (2 : Int32) = Int32.ofNat 2 from rfl, of8 (by omega) (by omega), bs, if_neg nb, if_pos hs]
        exact bind_some2
    · obtain ⟨C', g1, g2, g3⟩ := goTo7 (v := a2) h.1 hp c2
      obtain ⟨R', r1, r2, r3⟩ := moves8 (R := R) (v := a2) (show p < 10 by omega)
      refine ⟨R 20 0 (16 + 8 * p + 2), C', R', ?_, ?_, ?_⟩
      · unfold X7_shift; rw [if_neg (by rw [has7 n1 n2]; exact not_not_intro c1), if_neg (by rw [isHouse7]; exact not_not_intro c2)]
        rw [if_pos ibp, ix, ea, if_neg hb, if_neg hs, g1]
        rfl
      · unfold X8_shift; rw [if_neg (by rw [pot8 n1 n3]; exact not_not_intro c1), if_neg (by rw [isHouse8]; exact not_not_intro c2)]
        rw [show (2 : Int32) = Int32.ofNat 2 from rfl, of8 (by omega) (by omega), bs, if_neg nb, if_neg hs, r1]
        rfl
      · refine Rel_nowD (g3.mono (fun f i hh => by unfold NOW; omega)) r3 (fun k hk => ?_) (by rw [r2]; exact g2) h
        rw [r2, moveD_far (by unfold supK at hk; omega)]
theorem i_small {x : Int32} {n : Nat} (h : 0 ≤ x.toInt) (h2 : x.toInt < n) : ∃ k : Nat, k < n ∧ x = Int32.ofNat k := ⟨x.toInt.toNat, by omega, i_nat h⟩
theorem under7 : ∀ a b : Nat, a < 7 → b < 7 → X7_isUnder (Int32.ofNat a) (Int32.ofNat b) = some (if b = 0 ∨ a = b ∨ X8_above (Int32.ofNat a) = Int32.ofNat b then 1 else 0) := by
  intro a b ha hb
  rcases (show a = 0 ∨ a = 1 ∨ a = 2 ∨ a = 3 ∨ a = 4 ∨ a = 5 ∨ a = 6 by omega) with rfl | rfl | rfl | rfl | rfl | rfl | rfl <;> rcases (show b = 0 ∨ b = 1 ∨ b = 2 ∨ b = 3 ∨ b = 4 ∨ b = 5 ∨ b = 6 by omega) with rfl | rfl | rfl | rfl | rfl | rfl | rfl <;> decide +kernel
theorem eq_as (a1 a2 : Int32) : EqP Rel (X7_as a1 a2) (X8_as a1 a2) := by
  intro C R h
  obtain ⟨n, n1, n2, n3, -⟩ := id h.1
  by_cases c1 : ¬ (0 ≤ a1.toInt ∧ a1.toInt < n)
  · refine bad 1 (by omega) (by omega) h ?_ ?_
    · unfold X7_as
      rw [if_pos ((has7 n1 n2 _).mpr c1)]
      exact bind_some2
    · unfold X8_as
      rw [if_pos ((pot8 n1 n3 _).mpr c1)]
      exact bind_some2
  replace c1 := Decidable.not_not.mp c1
  by_cases c2 : ¬ (0 ≤ a2.toInt ∧ a2.toInt ≤ 6)
  · refine bad 1 (by omega) (by omega) h ?_ ?_
    · unfold X7_as
      rw [if_neg (by rw [has7 n1 n2]; exact not_not_intro c1), if_pos ((is7_6 _).mpr c2)]
      exact bind_some2
    · unfold X8_as
      rw [if_neg (by rw [pot8 n1 n3]; exact not_not_intro c1), if_pos ((in8_0_6 _).mpr c2)]
      exact bind_some2
  replace c2 := Decidable.not_not.mp c2
  obtain ⟨p, rfl, p1, p2⟩ := i_get (b := n - 1) ⟨c1.1, by omega⟩ (by omega)
  have hp : (p : Int) < (C 1 0 5).toInt := by rw [n2, i_of (by omega)]; omega
  have ix : (Int32.ofNat p).toNatClampNeg = p := i_ofix (by omega)
  have ibp : ib (Int32.ofNat p) 10 = true := ib_of (by omega) (by omega)
  have ea : C 3 (10 * 0 + p) 0 = R 20 0 (16 + 8 * p + 0) := pot_rd h.1 hp (by omega)
  have em : C 3 (10 * 0 + p) 1 = R 20 0 (16 + 8 * p + 1) := pot_rd h.1 hp (by omega)
  have ra : inR (R 20 0 (16 + 8 * p + 0)) 0 6 := pot_rg (k := 0) h.1 hp (by omega)
  obtain ⟨x, hx, ex⟩ := i_small (n := 7) ra.1 (by have := ra.2; omega)
  obtain ⟨y, hy, rfl⟩ := i_small (n := 7) c2.1 (by omega)
  have hu := under7 x y hx hy
  by_cases hc : y = 0 ∨ x = y ∨ X8_above (Int32.ofNat x) = Int32.ofNat y
  · rw [if_pos hc] at hu
    refine ⟨R 20 0 (16 + 8 * p + 1), C, R, ?_, ?_, h⟩
    · unfold X7_as; rw [if_neg (by rw [has7 n1 n2]; exact not_not_intro c1), if_neg (by rw [is7_6]; exact not_not_intro c2)]
      rw [if_pos ibp, ix, ea, ex, hu, bs, if_neg (by decide), em]
    · unfold X8_as; rw [if_neg (by rw [pot8 n1 n3]; exact not_not_intro c1), if_neg (by rw [in8_0_6]; exact not_not_intro c2)]
      have ej : X8_as_J50 (Int32.ofNat p) R = some (R 20 0 (16 + 8 * p + 1), R) := by
        unfold X8_as_J50
        rw [show (1 : Int32) = Int32.ofNat 1 from rfl, of8 (by omega) (by omega)]
        rfl
      rw [ej, show X8_of (Int32.ofNat p) 0 R = some (R 20 0 (16 + 8 * p + 0)) from of8 (k := 0) (by omega) (by omega), bs, ex]
      by_cases y0 : Int32.ofNat y = 0
      · rw [if_pos y0]
      · rw [if_neg y0]
        by_cases xy : Int32.ofNat x = Int32.ofNat y
        · rw [if_pos xy]
        · rw [if_neg xy, if_pos ?_]
          rcases hc with hc | hc | hc
          · exact absurd (by rw [hc]; rfl) y0
          · exact absurd (by rw [hc]) xy
          · exact hc
  · rw [if_neg hc] at hu
    refine bad 5 (by omega) (by omega) h ?_ ?_
    · unfold X7_as; rw [if_neg (by rw [has7 n1 n2]; exact not_not_intro c1), if_neg (by rw [is7_6]; exact not_not_intro c2)]
      rw [if_pos ibp, ix, ea, ex, hu, bs, if_pos (by decide)]
      exact bind_some2
    · unfold X8_as; rw [if_neg (by rw [pot8 n1 n3]; exact not_not_intro c1), if_neg (by rw [in8_0_6]; exact not_not_intro c2)]
      have y0 : ¬ Int32.ofNat y = 0 := fun e => hc (Or.inl (by
        have := congrArg Int32.toInt e
        rw [i_of (by omega), i_z] at this
        omega))
      have xy : ¬ Int32.ofNat x = Int32.ofNat y := fun e => hc (Or.inr (Or.inl (by
        have := congrArg Int32.toInt e
        rw [i_of (by omega), i_of (by omega)] at this
        omega)))
      rw [show X8_of (Int32.ofNat p) 0 R = some (R 20 0 (16 + 8 * p + 0)) from of8 (k := 0) (by omega) (by omega), bs, ex, if_neg y0, if_neg xy, if_neg (fun e => hc (Or.inr (Or.inr e)))]
      exact bind_some2
