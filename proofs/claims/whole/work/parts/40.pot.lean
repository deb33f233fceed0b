/-- one more POT -/
theorem RelD_new {b n : Nat} {C C' : Mem} {D D' : Nat → Int32} {q : Nat → Int32} (hn : n < 10) (e0 : C 1 b 5 = Int32.ofNat n) (hq : potOK q) (hC : ∀ f i k, ¬ (f = 3 ∧ i = 10 * b + n) → ¬ (f = 1 ∧ i = b ∧ k = 5) → C' f i k = C f i k) (hp : ∀ k, k < 8 → C' 3 (10 * b + n) k = q k) (h5 : C' 1 b 5 = Int32.ofNat (n + 1)) (hD : ∀ j, ¬ j = 0 → (j < 16 + 8 * n ∨ 24 + 8 * n ≤ j) → D' j = D j) (hDp : ∀ k, k < 8 → D' (16 + 8 * n + k) = q k) (h0 : D' 0 = Int32.ofNat (n + 1)) (h : RelD b C D) : RelD b C' D' := by
  obtain ⟨m, m1, m2, m3, m4, m5, m6, m7, m8, m9⟩ := h
  have hm : m = n := by
    have := congrArg Int32.toInt (m2.symm.trans e0)
    rw [i_of (by omega), i_of (by omega)] at this
    omega
  subst hm
  refine ⟨m + 1, by omega, h5, h0, fun p hpm => ?_, ?_, ?_, ?_, fun h' hh' => ?_, fun u hu => ?_⟩
  · by_cases hpe : p = m
    · subst hpe
      refine ⟨fun k hk => ?_, fun k hk => ?_, ?_⟩
      · show rngP k (D' (16 + 8 * p + k))
        rw [hDp k hk]; exact hq k hk
      · rw [hp k (by omega), hDp k (by omega)]
      · rw [hp 7 (by omega), hDp 7 (by omega)]; exact nbZ_of (rngP7 (hq 7 (by omega)))
    · obtain ⟨q1, q2, q3⟩ := m4 p (by omega)
      have e : ∀ k, k < 8 → D' (16 + 8 * p + k) = D (16 + 8 * p + k) := fun k hk => hD _ (by omega) (by omega)
      refine ⟨fun k hk => ?_, fun k hk => ?_, ?_⟩
      · show rngP k (D' (16 + 8 * p + k))
        rw [e k hk]; exact q1 k hk
      · rw [hC _ _ _ (by omega) (by omega), e k (by omega)]; exact q2 k hk
      · rw [hC _ _ _ (by omega) (by omega), e 7 (by omega)]; exact q3
  · rw [hC _ _ _ (by omega) (by omega), hD 1 (by omega) (by omega)]; exact m5
  · rw [hC _ _ _ (by omega) (by omega), hD 2 (by omega) (by omega)]; exact m6
  · rw [hD 2 (by omega) (by omega)]; exact m7
  · rw [hC _ _ _ (by omega) (by omega), hC _ _ _ (by omega) (by omega), hD _ (by omega) (by omega), hD _ (by omega) (by omega)]; exact m8 h' hh'
  · obtain ⟨l, l1, l2, l3, l4, l5⟩ := m9 u hu
    refine ⟨l, l1, (hC _ _ _ (by omega) (by omega)).trans l2, (hD _ (by omega) (by omega)).trans l3, fun k hk => ?_, ?_⟩
    · rw [hD _ (by omega) (by omega), hC _ _ _ (by omega) (by omega)]; exact l4 k hk
    · rw [toks_cg (fun k _ => hC 13 (2 * b + u) k (by omega) (by omega))]; exact l5
theorem pot_tail8 {R : Mem} {n : Nat} (hn : n < 10) : X8_pot_L103 400 (Int32.ofNat n) 4 R = some (up3 (up3 (up3 (up3 R 20 0 (16 + 8 * n + 4) 0) 20 0 (16 + 8 * n + 5) 0) 20 0 (16 + 8 * n + 6) 0) 20 0 (16 + 8 * n + 7) 0) := by
  have st : ∀ (fu k : Nat) (M : Mem), k < 8 → X8_pot_L103 (fu + 1) (Int32.ofNat n) (Int32.ofNat k) M = X8_pot_L103 fu (Int32.ofNat n) (Int32.ofNat (k + 1)) (up3 M 20 0 (16 + 8 * n + k) 0) := by
    intro fu k M hk
    rw [X8_pot_L103, if_neg (by rw [i_lt, i_of (by omega), show (7 : Int32).toInt = 7 from rfl]; omega), sets8 hn hk, bs, i_succ]
  refine (st 399 4 R (by omega)).trans ?_
  refine (st 398 5 _ (by omega)).trans ?_
  refine (st 397 6 _ (by omega)).trans ?_
  refine (st 396 7 _ (by omega)).trans ?_
  show X8_pot_L103 (395 + 1) _ _ _ = _
  rw [X8_pot_L103, if_pos (by decide)]
theorem eq_pot (a1 a2 a3 : Int32) : EqP Rel (X7_pot a1 a2 a3) (X8_pot a1 a2 a3) := by
  intro C R h
  obtain ⟨n, n1, n2, n3, -⟩ := id h.1
  by_cases c1 : ¬ (0 ≤ a1.toInt ∧ a1.toInt ≤ 69)
  · refine bad 1 (by omega) (by omega) h ?_ ?_
    · unfold X7_pot
      rw [if_pos ((kind7 _).mpr c1)]
      exact bind_some2
    · unfold X8_pot
      rw [if_pos ((in8_0_69 _).mpr c1)]
      exact bind_some2
  replace c1 := Decidable.not_not.mp c1
  by_cases c2 : ¬ (0 ≤ a2.toInt ∧ a2.toInt ≤ 4)
  · refine bad 1 (by omega) (by omega) h ?_ ?_
    · unfold X7_pot
      rw [if_neg (by rw [kind7]; exact not_not_intro c1), if_pos ((isHouse7 _).mpr c2)]
      exact bind_some2
    · unfold X8_pot
      rw [if_neg (by rw [in8_0_69]; exact not_not_intro c1), if_pos ((isHouse8 _).mpr c2)]
      exact bind_some2
  replace c2 := Decidable.not_not.mp c2
  by_cases c3 : ¬ (0 ≤ a3.toInt ∧ a3.toInt ≤ 9)
  · refine bad 1 (by omega) (by omega) h ?_ ?_
    · unfold X7_pot
      rw [if_neg (by rw [kind7]; exact not_not_intro c1), if_neg (by rw [isHouse7]; exact not_not_intro c2), if_pos ((is7_9 _).mpr c3)]
      exact bind_some2
    · unfold X8_pot
      rw [if_neg (by rw [in8_0_69]; exact not_not_intro c1), if_neg (by rw [isHouse8]; exact not_not_intro c2), if_pos ((in8_0_9 _).mpr c3)]
      exact bind_some2
  replace c3 := Decidable.not_not.mp c3
  by_cases hn : n = 10
  · subst hn
    refine bad 4 (by omega) (by omega) h ?_ ?_
    · unfold X7_pot; rw [if_neg (by rw [kind7]; exact not_not_intro c1), if_neg (by rw [isHouse7]; exact not_not_intro c2), if_neg (by rw [is7_9]; exact not_not_intro c3)]
      rw [n2, if_neg (by decide)]
      exact bind_some2
    · unfold X8_pot; rw [if_neg (by rw [in8_0_69]; exact not_not_intro c1), if_neg (by rw [isHouse8]; exact not_not_intro c2), if_neg (by rw [in8_0_9]; exact not_not_intro c3)]
      rw [n3, if_pos (by decide)]
      exact bind_some2
  · have hn9 : n < 10 := by omega
    have lt10 : Int32.ofNat n < 10 := by rw [i_lt, i_of (by omega), show (10 : Int32).toInt = 10 from rfl]; omega
    have ne10 : ¬ Int32.ofNat n = 10 := by rw [i_eq, i_of (by omega), show (10 : Int32).toInt = 10 from rfl]; omega
    obtain ⟨q, hq⟩ : ∃ q : Nat → Int32, q = fun k => if k = 0 then a1 / 10 else if k = 1 then jrem a1 10 else if k = 2 then a2 else if k = 3 then a3 else 0 := ⟨_, rfl⟩
    have d1 : (a1 / 10).toInt = a1.toInt / 10 := by
      have e := i_div (x := a1) (m := 10) (by omega) (by omega)
      rw [Int.tdiv_eq_ediv_of_nonneg c1.1] at e
      exact e
    have d2 : (jrem a1 10).toInt = a1.toInt % 10 := i_rem (x := a1) (m := 10) c1.1 (by omega) (by omega)
    have hqo : potOK q := by
      intro k hk
      subst hq
      rcases (show k = 0 ∨ k = 1 ∨ k = 2 ∨ k = 3 ∨ k = 4 ∨ k = 5 ∨ k = 6 ∨ k = 7 by omega) with rfl | rfl | rfl | rfl | rfl | rfl | rfl | rfl
      · exact ⟨by show _ ≤ (a1 / 10).toInt; omega, by show (a1 / 10).toInt ≤ _; omega⟩
      · exact ⟨by show _ ≤ (jrem a1 10).toInt; omega, by show (jrem a1 10).toInt ≤ _; omega⟩
      · exact ⟨by show _ ≤ a2.toInt; omega, c2.2⟩
      · exact c3
      · exact (show inR 0 0 999 from ⟨by decide, by decide⟩)
      · exact (show inR 0 0 999 from ⟨by decide, by decide⟩)
      · exact (show inR 0 0 3 from ⟨by decide, by decide⟩)
      · exact (show inR 0 0 1 from ⟨by decide, by decide⟩)
    have e7 : ∃ C', X7_pot a1 a2 a3 C = some (Int32.ofNat n, C') ∧ (∀ f i k, ¬ (f = 3 ∧ i = 10 * 0 + n) → ¬ (f = 1 ∧ i = 0 ∧ k = 5) → C' f i k = C f i k) ∧ (∀ k, k < 8 → C' 3 (10 * 0 + n) k = q k) ∧ C' 1 0 5 = Int32.ofNat (n + 1) := by
      unfold X7_pot; rw [if_neg (by rw [kind7]; exact not_not_intro c1), if_neg (by rw [isHouse7]; exact not_not_intro c2), if_neg (by rw [is7_9]; exact not_not_intro c3)]
      rw [n2, if_pos lt10, if_pos (ib_of hn9 (by omega)), i_ofix (by omega)]
      unfold X3_begin
      rw [bs]
      have e5 : ∀ {M : Mem} {k : Nat} {w : Int32}, up3 M 3 (10 * 0 + n) k w 1 0 5 = M 1 0 5 := up3_f (by decide)
      simp only [e5, n2]
      rw [i_succ]
      refine ⟨_, congrArg some (Prod.ext ?_ rfl), fun f i k g1 g2 => ?_, fun k hk => ?_, up3_eq⟩
      · show Int32.ofNat (n + 1) - 1 = _
        rw [i_eq, i_pred (by omega), i_of (by omega)]
        omega
      · have s3 : ∀ {M : Mem} {j : Nat} {w : Int32}, up3 M 3 (10 * 0 + n) j w f i k = M f i k := if_neg (fun e => g1 ⟨e.1, e.2.2⟩)
        rw [show (up3 _ 1 0 5 _ f i k : Int32) = _ from if_neg (fun e => g2 ⟨e.1, e.2.2, e.2.1⟩)]
        simp only [s3]
      · rw [up3_f (by decide)]
        subst hq
        rcases (show k = 0 ∨ k = 1 ∨ k = 2 ∨ k = 3 ∨ k = 4 ∨ k = 5 ∨ k = 6 ∨ k = 7 by omega) with rfl | rfl | rfl | rfl | rfl | rfl | rfl | rfl <;> simp [up3]
    have e8 : ∃ R', X8_pot a1 a2 a3 R = some (Int32.ofNat n, R') ∧ (∀ f i k, ¬ f = 20 → R' f i k = R f i k) ∧ (∀ j, ¬ j = 0 → (j < 16 + 8 * n ∨ 24 + 8 * n ≤ j) → R' 20 0 j = R 20 0 j) ∧ (∀ k, k < 8 → R' 20 0 (16 + 8 * n + k) = q k) ∧ R' 20 0 0 = Int32.ofNat (n + 1) := by
      unfold X8_pot; rw [if_neg (by rw [in8_0_69]; exact not_not_intro c1), if_neg (by rw [isHouse8]; exact not_not_intro c2), if_neg (by rw [in8_0_9]; exact not_not_intro c3)]
      rw [n3, if_neg ne10, show X8_sets (Int32.ofNat n) 0 (a1 / 10) R = _ from sets8 (k := 0) hn9 (by omega), bs, show X8_sets (Int32.ofNat n) 1 (jrem a1 10) _ = _ from sets8 (k := 1) hn9 (by omega), bs, show X8_sets (Int32.ofNat n) 2 a2 _ = _ from sets8 (k := 2) hn9 (by omega), bs, show X8_sets (Int32.ofNat n) 3 a3 _ = _ from sets8 (k := 3) hn9 (by omega), bs, pot_tail8 hn9, bs]
      have z : ∀ {M : Mem} {k : Nat} {w : Int32}, up3 M 20 0 (16 + 8 * n + k) w 20 0 0 = M 20 0 0 := up3_k (by omega)
      simp only [z, n3]
      rw [i_succ]
      refine ⟨_, rfl, fun f i k hf => ?_, fun j j0 hj => ?_, fun k hk => ?_, up3_eq⟩
      · simp only [up3_f hf]
      · rw [up3_k j0]
        have s3 : ∀ {M : Mem} {k : Nat} {w : Int32}, k < 8 → up3 M 20 0 (16 + 8 * n + k) w 20 0 j = M 20 0 j := fun hk => up3_k (by omega)
        rw [s3 (by omega), s3 (by omega), s3 (by omega), s3 (by omega), s3 (by omega), s3 (by omega), s3 (by omega), s3 (by omega)]
      · rw [up3_k (by omega)]
        subst hq
        rcases (show k = 0 ∨ k = 1 ∨ k = 2 ∨ k = 3 ∨ k = 4 ∨ k = 5 ∨ k = 6 ∨ k = 7 by omega) with rfl | rfl | rfl | rfl | rfl | rfl | rfl | rfl <;> simp [up3]
    obtain ⟨C', g1, g2, g3, g4⟩ := e7
    obtain ⟨R', r1, r2, r3, r4, r5⟩ := e8
    refine ⟨_, _, _, g1, r1, ?_⟩
    refine Rel_nowD (fun f i k hh => g2 f i k (fun e => hh (by unfold NOW; omega)) (fun e => hh (by unfold NOW; omega))) r2 (fun k hk => r3 k (by unfold supK at hk; omega) (by unfold supK at hk; omega)) (RelD_new hn9 n2 hqo g2 g3 g4 r3 r4 r5 h.1) h
