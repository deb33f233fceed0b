theorem FrR_of {R R' : Mem} (h : Fr (fun f _ => f = 24 ∨ f = 26) R R') : FrR R R' :=
  ⟨fun k => h 20 0 k (by omega), fun k => h 21 0 k (by omega), fun f hf k => h f 0 k (by omega), h 19 0 3 (by omega), h 19 0 16 (by omega)⟩
theorem eq_law (a1 a2 a3 a4 : Int32) : EqP Rel (X7_law a1 a2 a3 a4) (X8_law a1 a2 a3 a4) := by
  intro C R h
  by_cases c1 : ¬ (0 ≤ a1.toInt ∧ a1.toInt ≤ 1)
  · refine bad 1 (by omega) (by omega) h ?_ ?_
    · unfold X7_law
      rw [if_pos ((is7_1 _).mpr c1)]
      exact bind_some2
    · unfold X8_law
      rw [if_pos ((in8_0_1 _).mpr c1)]
      exact bind_some2
  replace c1 := Decidable.not_not.mp c1
  obtain ⟨u, hu, rfl⟩ := i_small (n := 2) c1.1 (by omega)
  obtain ⟨v, C', R', g1, g2, g3, g4, g5⟩ := given_eq (b := 0) (by omega) hu h.1 a2 a3 a4
  refine ⟨v, C', R', ?_, ?_, Rel_TH (g4.mono (fun f i hh => by unfold TH; omega)) (FrR_of g5) h⟩
  · unfold X7_law; rw [if_neg (by rw [is7_1]; exact not_not_intro c1)]
    rw [g1]
    rfl
  · unfold X8_law; rw [if_neg (by rw [in8_0_1]; exact not_not_intro c1)]
    rw [g2]
    rfl
/-- what a YEAR may write -/
def DST (b f i : Nat) : Prop := (f = 1 ∧ i = b) ∨ (f = 3 ∧ 10 * b ≤ i ∧ i < 10 * b + 10) ∨ f = 14
def FrY (R R' : Mem) : Prop := (∀ f i k, ¬ f = 20 → ¬ f = 24 → ¬ f = 26 → R' f i k = R f i k) ∧ ∀ k, k = 0 ∨ (3 ≤ k ∧ k < 16) ∨ 96 ≤ k → R' 20 0 k = R 20 0 k
theorem FrY.rf {R : Mem} : FrY R R := ⟨fun _ _ _ _ _ _ => rfl, fun _ _ => rfl⟩
theorem FrY.tr {R R' R'' : Mem} (h : FrY R R') (h' : FrY R' R'') : FrY R R'' := ⟨fun f i k a b c => (h'.1 f i k a b c).trans (h.1 f i k a b c), fun k hk => (h'.2 k hk).trans (h.2 k hk)⟩
theorem FrY.up {R : Mem} {j : Nat} {v : Int32} (h : ¬ (j = 0 ∨ (3 ≤ j ∧ j < 16) ∨ 96 ≤ j)) : FrY R (up3 R 20 0 j v) := ⟨fun _ _ _ a _ _ => up3_f a, fun k hk => up3_k (fun e => h (e ▸ hk))⟩
theorem FrY.sc {R R' : Mem} (h : Fr (fun f _ => f = 24 ∨ f = 26) R R') : FrY R R' := ⟨fun f i k _ b c => h f i k (by omega), fun k _ => h 20 0 k (by omega)⟩
theorem row_sc {R R' : Mem} (h : Fr (fun f _ => f = 24 ∨ f = 26) R R') : R' 20 0 = R 20 0 := funext fun k => h 20 0 k (by omega)
theorem RelD_14 {b : Nat} {C C' : Mem} {D : Nat → Int32} (hC : Fr (fun f _ => f = 14) C C') (h : RelD b C D) : RelD b C' D :=
  RelD_cg (fun k _ _ => hC 1 _ k (by omega)) (fun p _ k => hC 3 _ k (by omega)) (fun k _ => hC 10 _ k (by omega)) (fun k _ => hC 11 _ k (by omega)) (fun u _ => hC 2 _ _ (by omega)) (fun u _ k _ => hC 13 _ _ (by omega)) (fun k _ => rfl) h
theorem RelD_one {b k : Nat} {C : Mem} {D : Nat → Int32} {v : Int32} (hk : k = 6 ∨ (k = 7 ∧ inR v 0 999)) (hr : RelD b C D) : RelD b (up3 C 1 b k v) (upD D (k - 5) v) := by
  obtain ⟨n, n1, n2, n3, n4, n5, n6, n7, n8, n9⟩ := hr
  have ef : ∀ f i j, ¬ f = 1 → (up3 C 1 b k v) f i j = C f i j := fun f i j h => up3_f h
  have eD : ∀ j, ¬ j = k - 5 → upD D (k - 5) v j = D j := fun j hj => upD_ne hj
  refine ⟨n, n1, (up3_k (by omega)).trans n2, (eD 0 (by omega)).trans n3, fun p' hp' => ?_, ?_, ?_, ?_, fun h' hh' => ?_, fun u hu => ?_⟩
  · obtain ⟨q1, q2, q3⟩ := n4 p' hp'
    have e : ∀ j, upD D (k - 5) v (16 + 8 * p' + j) = D (16 + 8 * p' + j) := fun j => eD _ (by omega)
    refine ⟨fun j hj => ?_, fun j hj => ?_, ?_⟩
    · show rngP j (upD D (k - 5) v (16 + 8 * p' + j))
      rw [e]; exact q1 j hj
    · rw [ef _ _ _ (by decide), e]; exact q2 j hj
    · rw [ef _ _ _ (by decide), e]; exact q3
  · rcases hk with rfl | ⟨rfl, hv⟩
    · rw [up3_eq]; exact upD_eq.symm
    · rw [up3_k (by decide), upD_ne (by decide)]; exact n5
  · rcases hk with rfl | ⟨rfl, hv⟩
    · rw [up3_k (by decide), upD_ne (by decide)]; exact n6
    · rw [up3_eq]; exact upD_eq.symm
  · rcases hk with rfl | ⟨rfl, hv⟩
    · rw [upD_ne (by decide)]; exact n7
    · rw [show upD D (7 - 5) v 2 = v from upD_eq]; exact hv
  · rw [ef _ _ _ (by decide), ef _ _ _ (by decide), eD _ (by omega), eD _ (by omega)]; exact n8 h' hh'
  · obtain ⟨l, l1, l2, l3, l4, l5⟩ := n9 u hu
    refine ⟨l, l1, (ef _ _ _ (by decide)).trans l2, (eD _ (by omega)).trans l3, fun j hj => ?_, ?_⟩
    · rw [eD _ (by omega), ef _ _ _ (by decide)]; exact l4 j hj
    · rw [toks_cg (fun j _ => ef 13 (2 * b + u) j (by decide))]; exact l5
theorem held999 {x : Int32} (h : 0 ≤ x.toInt) : jmin 999 x = X8_held x 0 999 ∧ inR (X8_held x 0 999) 0 999 := by
  have e99 : (999 : Int32).toInt = 999 := rfl
  unfold jmin X8_held inR
  rw [if_neg (show ¬ x < 0 by rw [i_lt, i_z]; omega)]
  by_cases h1 : x < 999
  · rw [if_pos h1]
    rw [i_lt, e99] at h1
    rw [if_neg (by rw [i_lt, e99]; omega)]
    exact ⟨rfl, by omega, by omega⟩
  · rw [if_neg h1]
    rw [i_lt, e99] at h1
    by_cases h2 : 999 < x
    · rw [if_pos h2]; exact ⟨rfl, by decide, by decide⟩
    · rw [if_neg h2]
      rw [i_lt, e99] at h2
      exact ⟨by rw [i_eq, e99]; omega, by omega, by omega⟩
theorem i_half {x : Int32} (h : 0 ≤ x.toInt) : (x / 2).toInt = x.toInt / 2 := by
  have e := i_div (x := x) (m := 2) (by omega) (by omega)
  rw [Int.tdiv_eq_ediv_of_nonneg h] at e
  exact e
theorem half1 {v : Int32} (h : inR v 0 99) : jmax 0 (v / 2 - 1) = X8_held (v / 2 - 1) 0 999 ∧ inR (X8_held (v / 2 - 1) 0 999) 0 1000 := by
  have h1 := h.1
  have h2 := h.2
  have e := i_half h1
  have e1 : (v / 2 - 1).toInt = v.toInt / 2 - 1 := by
    rw [i_sub (by rw [e]; show _ ≤ v.toInt / 2 - (1 : Int); omega) (by rw [e]; show v.toInt / 2 - (1 : Int) < _; omega), e]
    rfl
  have e99 : (999 : Int32).toInt = 999 := rfl
  unfold jmax X8_held inR
  by_cases h3 : v / 2 - 1 < 0
  · rw [if_pos h3, if_neg (by rw [i_lt, i_z] at h3 ⊢; omega)]
    exact ⟨rfl, by decide, by decide⟩
  · rw [if_neg h3]
    rw [i_lt, i_z] at h3
    rw [if_neg (show ¬ 999 < v / 2 - 1 by rw [i_lt, e99]; omega)]
    refine ⟨?_, by omega, by omega⟩
    by_cases h4 : 0 < v / 2 - 1
    · rw [if_pos h4]
    · rw [if_neg h4]
      rw [i_lt, i_z] at h4
      rw [i_eq, i_z]; omega
/-- WARMS, over the row -/
def wrmD (D : Nat → Int32) (p : Nat) (v : Int32) : Int32 := if D (16 + 8 * p + 0) = 1 then v + D (16 + 8 * p + 1) else if D (16 + 8 * p + 0) = 2 then 2 * v else if D (16 + 8 * p + 0) = 3 then v / 2 else if D (16 + 8 * p + 0) = 4 then (if 0 < D (16 + 8 * p + 6) then 0 else v + D (16 + 8 * p + 1)) else if D (16 + 8 * p + 0) = 5 then 2 * v + D (16 + 8 * p + 6) else if D (16 + 8 * p + 0) = 6 then X8_held (v / 2 - 1) 0 999 else v
def wntD (D : Nat → Int32) (p : Nat) : Int32 := if D (16 + 8 * p + 0) = 1 then 100 else if D (16 + 8 * p + 0) = 2 then 50 - D (16 + 8 * p + 1) else if D (16 + 8 * p + 0) = 3 then 20 else if D (16 + 8 * p + 0) = 4 then 100 else if D (16 + 8 * p + 0) = 5 then (if 0 < D (16 + 8 * p + 6) then 2 * (50 - D (16 + 8 * p + 1)) else 50 - D (16 + 8 * p + 1)) else if D (16 + 8 * p + 0) = 6 then 30 else 50
def berD (D : Nat → Int32) (p : Nat) : Int32 := if D (16 + 8 * p + 0) = 2 then 2 else if D (16 + 8 * p + 0) = 5 then 3 else 1
theorem wants7 {b p : Nat} {C : Mem} {D : Nat → Int32} (h : RelD b C D) (hp : p < nP D) : X3_wants (10 * b + p) C = wntD D p := by
  have q := (RelD_n h).2.2.2 p hp
  unfold X3_wants wntD
  rw [pot_rd (k := 0) h q (by omega), pot_rd (k := 1) h q (by omega), pot_rd (k := 6) h q (by omega)]
theorem bears7 {b p : Nat} {C : Mem} {D : Nat → Int32} (h : RelD b C D) (hp : p < nP D) : X3_bears (10 * b + p) C = berD D p := by
  have q := (RelD_n h).2.2.2 p hp
  unfold X3_bears berD
  rw [pot_rd (k := 0) h q (by omega)]
theorem warmed7 {b p : Nat} {C : Mem} {D : Nat → Int32} {v : Int32} (h : RelD b C D) (hp : p < nP D) (hv : inR v 0 99) : X3_warmedBy (10 * b + p) v C = wrmD D p v := by
  have q := (RelD_n h).2.2.2 p hp
  unfold X3_warmedBy wrmD
  rw [pot_rd (k := 0) h q (by omega), pot_rd (k := 1) h q (by omega), pot_rd (k := 6) h q (by omega), (half1 hv).1]
theorem wants8 {R : Mem} {p : Nat} (hp : p < 10) : X8_wants (Int32.ofNat p) R = some (wntD (R 20 0) p) := by
  unfold X8_wants wntD
  rw [o8_1 hp, bs, o8_0 hp, bs, o8_6 hp, bs]
  by_cases h1 : R 20 0 (16 + 8 * p + 0) = 1
  · rw [if_pos h1, if_pos h1]
  rw [if_neg h1, if_neg h1]
  by_cases h2 : R 20 0 (16 + 8 * p + 0) = 2
  · rw [if_pos h2, if_pos h2]
  rw [if_neg h2, if_neg h2]
  by_cases h3 : R 20 0 (16 + 8 * p + 0) = 3
  · rw [if_pos h3, if_pos h3]
  rw [if_neg h3, if_neg h3]
  by_cases h4 : R 20 0 (16 + 8 * p + 0) = 4
  · rw [if_pos h4, if_pos h4]
  rw [if_neg h4, if_neg h4]
  by_cases h5 : R 20 0 (16 + 8 * p + 0) = 5
  · rw [if_pos h5, if_pos h5]
    by_cases h6 : 0 < R 20 0 (16 + 8 * p + 6)
    · rw [if_pos h6, if_pos h6]
    · rw [if_neg h6, if_neg h6]
  rw [if_neg h5, if_neg h5]
  by_cases h6 : R 20 0 (16 + 8 * p + 0) = 6
  · rw [if_pos h6, if_pos h6]
  rw [if_neg h6, if_neg h6]
theorem bears8 {R : Mem} {p : Nat} (hp : p < 10) : X8_bears (Int32.ofNat p) R = some (berD (R 20 0) p) := by
  unfold X8_bears berD
  rw [o8_0 hp, bs]
  by_cases h1 : R 20 0 (16 + 8 * p + 0) = 2
  · rw [if_pos h1, if_pos h1]
  rw [if_neg h1, if_neg h1]
  by_cases h2 : R 20 0 (16 + 8 * p + 0) = 5
  · rw [if_pos h2, if_pos h2]
  rw [if_neg h2, if_neg h2]
theorem wnt_in {D : Nat → Int32} {p : Nat} (h : potOK (fun k => D (16 + 8 * p + k))) : inR (wntD D p) 0 100 := by
  have m1 : inR (D (16 + 8 * p + 1)) 0 9 := h 1 (by omega)
  have a := m1.1
  have c := m1.2
  have e : (50 - D (16 + 8 * p + 1)).toInt = 50 - (D (16 + 8 * p + 1)).toInt := by
    rw [i_sub (by show _ ≤ (50 : Int) - _; omega) (by show (50 : Int) - _ < _; omega)]
    rfl
  have e2 : (2 * (50 - D (16 + 8 * p + 1))).toInt = 2 * (50 - (D (16 + 8 * p + 1)).toInt) := by
    rw [i_mul (by rw [e]; show _ ≤ (2 : Int) * _; omega) (by rw [e]; show (2 : Int) * _ < _; omega), e]
    rfl
  have i1 : inR (50 - D (16 + 8 * p + 1)) 0 100 := ⟨by rw [e]; omega, by rw [e]; omega⟩
  have i2 : inR (2 * (50 - D (16 + 8 * p + 1))) 0 100 := ⟨by rw [e2]; omega, by rw [e2]; omega⟩
  have i3 : ∀ x : Int32, inR x 0 100 → inR x 0 100 := fun _ h => h
  unfold wntD
  split
  · exact ⟨by decide, by decide⟩
  · split
    · exact i1
    · split
      · exact ⟨by decide, by decide⟩
      · split
        · exact ⟨by decide, by decide⟩
        · split
          · split
            · exact i2
            · exact i1
          · split
            · exact ⟨by decide, by decide⟩
            · exact ⟨by decide, by decide⟩
theorem ber_in (D : Nat → Int32) (p : Nat) : inR (berD D p) 1 3 := by
  unfold berD
  split
  · exact ⟨by decide, by decide⟩
  · split
    · exact ⟨by decide, by decide⟩
    · exact ⟨by decide, by decide⟩
theorem wrm_in {D : Nat → Int32} {p : Nat} {v : Int32} (h : potOK (fun k => D (16 + 8 * p + k))) (hv : inR v 0 99) : inR (wrmD D p v) 0 1000 := by
  have m1 : inR (D (16 + 8 * p + 1)) 0 9 := h 1 (by omega)
  have m6 : inR (D (16 + 8 * p + 6)) 0 3 := h 6 (by omega)
  have a1 := m1.1
  have a2 := m1.2
  have a3 := m6.1
  have a4 := m6.2
  have a5 := hv.1
  have a6 := hv.2
  have e1 : (v + D (16 + 8 * p + 1)).toInt = v.toInt + (D (16 + 8 * p + 1)).toInt := i_add (by omega) (by omega)
  have e2 : (2 * v).toInt = 2 * v.toInt := by
    rw [i_mul (by show _ ≤ (2 : Int) * _; omega) (by show (2 : Int) * _ < _; omega)]
    rfl
  have e3 : (2 * v + D (16 + 8 * p + 6)).toInt = 2 * v.toInt + (D (16 + 8 * p + 6)).toInt := by
    rw [i_add (by rw [e2]; omega) (by rw [e2]; omega), e2]
  have i1 : inR (v + D (16 + 8 * p + 1)) 0 1000 := ⟨by rw [e1]; omega, by rw [e1]; omega⟩
  unfold wrmD
  split
  · exact i1
  · split
    · exact ⟨by rw [e2]; omega, by rw [e2]; omega⟩
    · split
      · exact ⟨by rw [i_half a5]; omega, by rw [i_half a5]; omega⟩
      · split
        · split
          · exact ⟨by decide, by decide⟩
          · exact i1
        · split
          · exact ⟨by rw [e3]; omega, by rw [e3]; omega⟩
          · split
            · exact (half1 hv).2
            · exact ⟨by omega, by omega⟩
