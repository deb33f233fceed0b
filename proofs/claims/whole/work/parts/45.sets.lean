-- the POTS of a row: how many
def nP (D : Nat → Int32) : Nat := (D 0).toInt.toNat
theorem RelD_n {b : Nat} {C : Mem} {D : Nat → Int32} (h : RelD b C D) : nP D ≤ 10 ∧ C 1 b 5 = Int32.ofNat (nP D) ∧ D 0 = Int32.ofNat (nP D) ∧ ∀ p, p < nP D → (p : Int) < (C 1 b 5).toInt := by
  obtain ⟨n, n1, n2, n3, -⟩ := h
  have e : nP D = n := by
    unfold nP
    rw [n3, i_of (by omega)]
    rfl
  rw [e]
  refine ⟨n1, n2, n3, fun p hp => ?_⟩
  rw [n2, i_of (by omega)]
  omega
def stN (P : Nat → Bool) : Nat → Nat
  | 0 => 0
  | k + 1 => stN P k + (if P k = true then 2 ^ k else 0)
def ctN (P : Nat → Bool) : Nat → Nat
  | 0 => 0
  | k + 1 => ctN P k + (if P k = true then 1 else 0)
def smN (f : Nat → Int32) : Nat → Int32
  | 0 => 0
  | k + 1 => smN f k + f k
theorem stN_lt (P : Nat → Bool) : ∀ n, stN P n < 2 ^ n := by
  intro n
  induction n with
  | zero => exact Nat.one_pos
  | succ k ih =>
    show stN P k + (if P k = true then 2 ^ k else 0) < 2 ^ (k + 1)
    rw [Nat.pow_succ]
    by_cases hp : P k = true
    · rw [if_pos hp]; omega
    · rw [if_neg hp]; omega
theorem stN_10 (P : Nat → Bool) {n : Nat} (h : n ≤ 10) : stN P n < 1024 := by
  have := stN_lt P n
  have h2 : 2 ^ n ≤ 2 ^ 10 := Nat.pow_le_pow_right (by omega) h
  omega
theorem stN_cg {P Q : Nat → Bool} : ∀ {n : Nat}, (∀ k, k < n → P k = Q k) → stN P n = stN Q n := by
  intro n
  induction n with
  | zero => intro _; rfl
  | succ k ih =>
    intro h
    show stN P k + (if P k = true then 2 ^ k else 0) = stN Q k + (if Q k = true then 2 ^ k else 0)
    rw [ih (fun j hj => h j (by omega)), h k (by omega)]
theorem ctN_cg {P Q : Nat → Bool} : ∀ {n : Nat}, (∀ k, k < n → P k = Q k) → ctN P n = ctN Q n := by
  intro n
  induction n with
  | zero => intro _; rfl
  | succ k ih =>
    intro h
    show ctN P k + (if P k = true then 1 else 0) = ctN Q k + (if Q k = true then 1 else 0)
    rw [ih (fun j hj => h j (by omega)), h k (by omega)]
theorem smN_cg {P Q : Nat → Int32} : ∀ {n : Nat}, (∀ k, k < n → P k = Q k) → smN P n = smN Q n := by
  intro n
  induction n with
  | zero => intro _; rfl
  | succ k ih =>
    intro h
    show smN P k + P k = smN Q k + Q k
    rw [ih (fun j hj => h j (by omega)), h k (by omega)]
theorem ctN_le (P : Nat → Bool) : ∀ n, ctN P n ≤ n := by
  intro n
  induction n with
  | zero => exact Nat.le_refl _
  | succ k ih =>
    show ctN P k + (if P k = true then 1 else 0) ≤ k + 1
    by_cases hp : P k = true
    · rw [if_pos hp]; omega
    · rw [if_neg hp]; omega
set_option maxRecDepth 100000 in
theorem or_bit : ∀ k, k < 10 → ∀ m, m < 2 ^ k → (Int32.ofNat m ||| ((1 : Int32) <<< (Int32.ofNat k &&& 31))) = Int32.ofNat (m + 2 ^ k) := by decide +kernel
set_option maxRecDepth 100000 in
theorem bc_bit : ∀ k, k < 10 → ∀ m, m < 2 ^ k → J6_bitCount_0f7a4 (Int32.ofNat (m + 2 ^ k)) = J6_bitCount_0f7a4 (Int32.ofNat m) + 1 := by decide +kernel
set_option maxRecDepth 100000 in
theorem bits_ok : ∀ m, m < 1024 → X8_bits (Int32.ofNat m) = some (J6_bitCount_0f7a4 (Int32.ofNat m)) := by decide +kernel
theorem i_or0 (x : Int32) : x ||| 0 = x := Int32.or_zero
theorem i_add0 (x : Int32) : x + 0 = x := Int32.add_zero x
theorem bc_st (P : Nat → Bool) : ∀ n, n ≤ 10 → J6_bitCount_0f7a4 (Int32.ofNat (stN P n)) = Int32.ofNat (ctN P n) := by
  intro n
  induction n with
  | zero => intro _; exact (by decide +kernel : J6_bitCount_0f7a4 (Int32.ofNat 0) = Int32.ofNat 0)
  | succ k ih =>
    intro h
    show J6_bitCount_0f7a4 (Int32.ofNat (stN P k + (if P k = true then 2 ^ k else 0))) = Int32.ofNat (ctN P k + (if P k = true then 1 else 0))
    by_cases hp : P k = true
    · rw [if_pos hp, if_pos hp, bc_bit k (by omega) _ (stN_lt P k), ih (by omega), i_succ]
    · rw [if_neg hp, if_neg hp, Nat.add_zero, Nat.add_zero]; exact ih (by omega)
theorem o8_0 {R : Mem} {p : Nat} (hp : p < 10) : X8_of (Int32.ofNat p) 0 R = some (R 20 0 (16 + 8 * p + 0)) := of8 (k := 0) hp (by omega)
theorem s8_0 {R : Mem} {p : Nat} {v : Int32} (hp : p < 10) : X8_sets (Int32.ofNat p) 0 v R = some (up3 R 20 0 (16 + 8 * p + 0) v) := sets8 (k := 0) hp (by omega)
theorem o8_1 {R : Mem} {p : Nat} (hp : p < 10) : X8_of (Int32.ofNat p) 1 R = some (R 20 0 (16 + 8 * p + 1)) := of8 (k := 1) hp (by omega)
theorem s8_1 {R : Mem} {p : Nat} {v : Int32} (hp : p < 10) : X8_sets (Int32.ofNat p) 1 v R = some (up3 R 20 0 (16 + 8 * p + 1) v) := sets8 (k := 1) hp (by omega)
theorem o8_2 {R : Mem} {p : Nat} (hp : p < 10) : X8_of (Int32.ofNat p) 2 R = some (R 20 0 (16 + 8 * p + 2)) := of8 (k := 2) hp (by omega)
theorem s8_2 {R : Mem} {p : Nat} {v : Int32} (hp : p < 10) : X8_sets (Int32.ofNat p) 2 v R = some (up3 R 20 0 (16 + 8 * p + 2) v) := sets8 (k := 2) hp (by omega)
theorem o8_3 {R : Mem} {p : Nat} (hp : p < 10) : X8_of (Int32.ofNat p) 3 R = some (R 20 0 (16 + 8 * p + 3)) := of8 (k := 3) hp (by omega)
theorem s8_3 {R : Mem} {p : Nat} {v : Int32} (hp : p < 10) : X8_sets (Int32.ofNat p) 3 v R = some (up3 R 20 0 (16 + 8 * p + 3) v) := sets8 (k := 3) hp (by omega)
theorem o8_4 {R : Mem} {p : Nat} (hp : p < 10) : X8_of (Int32.ofNat p) 4 R = some (R 20 0 (16 + 8 * p + 4)) := of8 (k := 4) hp (by omega)
theorem s8_4 {R : Mem} {p : Nat} {v : Int32} (hp : p < 10) : X8_sets (Int32.ofNat p) 4 v R = some (up3 R 20 0 (16 + 8 * p + 4) v) := sets8 (k := 4) hp (by omega)
theorem o8_5 {R : Mem} {p : Nat} (hp : p < 10) : X8_of (Int32.ofNat p) 5 R = some (R 20 0 (16 + 8 * p + 5)) := of8 (k := 5) hp (by omega)
theorem s8_5 {R : Mem} {p : Nat} {v : Int32} (hp : p < 10) : X8_sets (Int32.ofNat p) 5 v R = some (up3 R 20 0 (16 + 8 * p + 5) v) := sets8 (k := 5) hp (by omega)
theorem o8_6 {R : Mem} {p : Nat} (hp : p < 10) : X8_of (Int32.ofNat p) 6 R = some (R 20 0 (16 + 8 * p + 6)) := of8 (k := 6) hp (by omega)
theorem s8_6 {R : Mem} {p : Nat} {v : Int32} (hp : p < 10) : X8_sets (Int32.ofNat p) 6 v R = some (up3 R 20 0 (16 + 8 * p + 6) v) := sets8 (k := 6) hp (by omega)
theorem o8_7 {R : Mem} {p : Nat} (hp : p < 10) : X8_of (Int32.ofNat p) 7 R = some (R 20 0 (16 + 8 * p + 7)) := of8 (k := 7) hp (by omega)
theorem s8_7 {R : Mem} {p : Nat} {v : Int32} (hp : p < 10) : X8_sets (Int32.ofNat p) 7 v R = some (up3 R 20 0 (16 + 8 * p + 7) v) := sets8 (k := 7) hp (by omega)
theorem potsIn_L {b n : Nat} {C : Mem} {v : Int32} (hn : n ≤ 10) (e : C 1 b 5 = Int32.ofNat n) : ∀ (m p : Nat), p + m = n → ∀ (fu : Nat), m < fu → X1_potsIn_L4 fu b v (Int32.ofNat (stN (fun p => decide (C 3 (10 * b + p) 2 = v)) p)) (Int32.ofNat p) C = some (Int32.ofNat (stN (fun p => decide (C 3 (10 * b + p) 2 = v)) n)) := by
  intro m
  induction m with
  | zero =>
    intro p hp fu hf
    obtain ⟨fu, rfl⟩ : ∃ g, fu = g + 1 := ⟨fu - 1, by omega⟩
    obtain rfl : p = n := by omega
    rw [X1_potsIn_L4, e, if_neg (by rw [i_lt]; omega)]
  | succ m ih =>
    intro p hp fu hf
    obtain ⟨fu, rfl⟩ : ∃ g, fu = g + 1 := ⟨fu - 1, by omega⟩
    have nx := ih (p + 1) (by omega) fu (by omega)
    rw [X1_potsIn_L4, e, if_pos (by rw [i_lt, i_of (by omega), i_of (by omega)]; omega), if_pos (ib_of (by omega) (by omega)), i_ofix (by omega)]
    by_cases hv : C 3 (10 * b + p) 2 = v
    · have s1 : stN (fun p => decide (C 3 (10 * b + p) 2 = v)) (p + 1) = stN (fun p => decide (C 3 (10 * b + p) 2 = v)) p + 2 ^ p := by
        show stN (fun p => decide (C 3 (10 * b + p) 2 = v)) p + (if _ = true then 2 ^ p else 0) = _
        rw [if_pos (by exact decide_eq_true hv)]
      rw [if_pos hv, or_bit p (by omega) _ (stN_lt _ p), i_succ p, ← s1]
      exact nx
    · have s1 : stN (fun p => decide (C 3 (10 * b + p) 2 = v)) (p + 1) = stN (fun p => decide (C 3 (10 * b + p) 2 = v)) p := by
        show stN (fun p => decide (C 3 (10 * b + p) 2 = v)) p + (if _ = true then 2 ^ p else 0) = _
        rw [if_neg (by exact fun h => hv (of_decide_eq_true h))]
        exact Nat.add_zero _
      rw [if_neg hv, i_succ p, ← s1]
      exact nx
theorem potsIn_c {b n : Nat} {C : Mem} {v : Int32} (hn : n ≤ 10) (e : C 1 b 5 = Int32.ofNat n) : X1_potsIn b v C = some (Int32.ofNat (stN (fun p => decide (C 3 (10 * b + p) 2 = v)) n)) := by
  show (X1_potsIn_L4 400 b v 0 0 C).bind _ = _
  rw [show X1_potsIn_L4 400 b v 0 0 C = _ from potsIn_L hn e n 0 (by omega) 400 (by omega)]
  rfl
theorem withH_L {b n : Nat} {C : Mem} (hn : n ≤ 10) (e : C 1 b 5 = Int32.ofNat n) : ∀ (m p : Nat), p + m = n → ∀ (fu : Nat), m < fu → X1_potsWithHandle_L4 fu b (Int32.ofNat (stN (fun p => decide (0 < C 3 (10 * b + p) 6)) p)) (Int32.ofNat p) C = some (Int32.ofNat (stN (fun p => decide (0 < C 3 (10 * b + p) 6)) n)) := by
  intro m
  induction m with
  | zero =>
    intro p hp fu hf
    obtain ⟨fu, rfl⟩ : ∃ g, fu = g + 1 := ⟨fu - 1, by omega⟩
    obtain rfl : p = n := by omega
    rw [X1_potsWithHandle_L4, e, if_neg (by rw [i_lt]; omega)]
  | succ m ih =>
    intro p hp fu hf
    obtain ⟨fu, rfl⟩ : ∃ g, fu = g + 1 := ⟨fu - 1, by omega⟩
    have nx := ih (p + 1) (by omega) fu (by omega)
    rw [X1_potsWithHandle_L4, e, if_pos (by rw [i_lt, i_of (by omega), i_of (by omega)]; omega), if_pos (ib_of (by omega) (by omega)), i_ofix (by omega)]
    by_cases hv : 0 < C 3 (10 * b + p) 6
    · have s1 : stN (fun p => decide (0 < C 3 (10 * b + p) 6)) (p + 1) = stN (fun p => decide (0 < C 3 (10 * b + p) 6)) p + 2 ^ p := by
        show stN (fun p => decide (0 < C 3 (10 * b + p) 6)) p + (if _ = true then 2 ^ p else 0) = _
        rw [if_pos (by exact decide_eq_true hv)]
      rw [if_pos hv, or_bit p (by omega) _ (stN_lt _ p), i_succ p, ← s1]
      exact nx
    · have s1 : stN (fun p => decide (0 < C 3 (10 * b + p) 6)) (p + 1) = stN (fun p => decide (0 < C 3 (10 * b + p) 6)) p := by
        show stN (fun p => decide (0 < C 3 (10 * b + p) 6)) p + (if _ = true then 2 ^ p else 0) = _
        rw [if_neg (by exact fun h => hv (of_decide_eq_true h))]
        exact Nat.add_zero _
      rw [if_neg hv, i_succ p, ← s1]
      exact nx
theorem withH_c {b n : Nat} {C : Mem} (hn : n ≤ 10) (e : C 1 b 5 = Int32.ofNat n) : X1_potsWithHandle b C = some (Int32.ofNat (stN (fun p => decide (0 < C 3 (10 * b + p) 6)) n)) := by
  show (X1_potsWithHandle_L4 400 b 0 0 C).bind _ = _
  rw [show X1_potsWithHandle_L4 400 b 0 0 C = _ from withH_L hn e n 0 (by omega) 400 (by omega)]
  rfl
theorem falseP_L {b n : Nat} {C : Mem} (hn : n ≤ 10) (e : C 1 b 5 = Int32.ofNat n) : ∀ (m p : Nat), p + m = n → ∀ (fu : Nat), m < fu → X1_falsePots_L4 fu b (Int32.ofNat (stN (fun p => decide (¬ nbZ (C 3 (10 * b + p) 7) = 0)) p)) (Int32.ofNat p) C = some (Int32.ofNat (stN (fun p => decide (¬ nbZ (C 3 (10 * b + p) 7) = 0)) n)) := by
  intro m
  induction m with
  | zero =>
    intro p hp fu hf
    obtain ⟨fu, rfl⟩ : ∃ g, fu = g + 1 := ⟨fu - 1, by omega⟩
    obtain rfl : p = n := by omega
    rw [X1_falsePots_L4, e, if_neg (by rw [i_lt]; omega)]
  | succ m ih =>
    intro p hp fu hf
    obtain ⟨fu, rfl⟩ : ∃ g, fu = g + 1 := ⟨fu - 1, by omega⟩
    have nx := ih (p + 1) (by omega) fu (by omega)
    rw [X1_falsePots_L4, e, if_pos (by rw [i_lt, i_of (by omega), i_of (by omega)]; omega), if_pos (ib_of (by omega) (by omega)), i_ofix (by omega)]
    by_cases hv : ¬ nbZ (C 3 (10 * b + p) 7) = 0
    · have s1 : stN (fun p => decide (¬ nbZ (C 3 (10 * b + p) 7) = 0)) (p + 1) = stN (fun p => decide (¬ nbZ (C 3 (10 * b + p) 7) = 0)) p + 2 ^ p := by
        show stN (fun p => decide (¬ nbZ (C 3 (10 * b + p) 7) = 0)) p + (if _ = true then 2 ^ p else 0) = _
        rw [if_pos (by exact decide_eq_true hv)]
      rw [if_neg hv, or_bit p (by omega) _ (stN_lt _ p), i_succ p, ← s1]
      exact nx
    · have s1 : stN (fun p => decide (¬ nbZ (C 3 (10 * b + p) 7) = 0)) (p + 1) = stN (fun p => decide (¬ nbZ (C 3 (10 * b + p) 7) = 0)) p := by
        show stN (fun p => decide (¬ nbZ (C 3 (10 * b + p) 7) = 0)) p + (if _ = true then 2 ^ p else 0) = _
        rw [if_neg (by exact fun h => hv (of_decide_eq_true h))]
        exact Nat.add_zero _
      rw [if_pos (Decidable.not_not.mp hv), i_succ p, ← s1]
      exact nx
theorem falseP_c {b n : Nat} {C : Mem} (hn : n ≤ 10) (e : C 1 b 5 = Int32.ofNat n) : X1_falsePots b C = some (Int32.ofNat (stN (fun p => decide (¬ nbZ (C 3 (10 * b + p) 7) = 0)) n)) := by
  show (X1_falsePots_L4 400 b 0 0 C).bind _ = _
  rw [show X1_falsePots_L4 400 b 0 0 C = _ from falseP_L hn e n 0 (by omega) 400 (by omega)]
  rfl
theorem allH_L {b n : Nat} {C : Mem} (hn : n ≤ 10) (e : C 1 b 5 = Int32.ofNat n) : ∀ (m p : Nat), p + m = n → ∀ (fu : Nat), m < fu → X1_allHandles_L4 fu b (smN (fun p => C 3 (10 * b + p) 6) p) (Int32.ofNat p) C = some (smN (fun p => C 3 (10 * b + p) 6) n) := by
  intro m
  induction m with
  | zero =>
    intro p hp fu hf
    obtain ⟨fu, rfl⟩ : ∃ g, fu = g + 1 := ⟨fu - 1, by omega⟩
    obtain rfl : p = n := by omega
    rw [X1_allHandles_L4, e, if_neg (by rw [i_lt]; omega)]
  | succ m ih =>
    intro p hp fu hf
    obtain ⟨fu, rfl⟩ : ∃ g, fu = g + 1 := ⟨fu - 1, by omega⟩
    have nx := ih (p + 1) (by omega) fu (by omega)
    rw [X1_allHandles_L4, e, if_pos (by rw [i_lt, i_of (by omega), i_of (by omega)]; omega), if_pos (ib_of (by omega) (by omega)), i_ofix (by omega)]
    rw [show smN (fun p => C 3 (10 * b + p) 6) p + C 3 (10 * b + p) 6 = smN (fun p => C 3 (10 * b + p) 6) (p + 1) from rfl, i_succ]
    exact nx
theorem allH_c {b n : Nat} {C : Mem} (hn : n ≤ 10) (e : C 1 b 5 = Int32.ofNat n) : X1_allHandles b C = some (smN (fun p => C 3 (10 * b + p) 6) n) := by
  show (X1_allHandles_L4 400 b 0 0 C).bind _ = _
  rw [show X1_allHandles_L4 400 b 0 0 C = _ from allH_L hn e n 0 (by omega) 400 (by omega)]
  rfl
theorem setH_L {n : Nat} {R : Mem} {v : Int32} (hn : n ≤ 10) (v5 : ¬ v = 5) (v6 : ¬ v = 6) (v7 : ¬ v = 7) (e : R 20 0 0 = Int32.ofNat n) : ∀ (m p : Nat), p + m = n → ∀ (fu : Nat), m < fu → X8_setOf_L4 fu v (Int32.ofNat (stN (fun p => decide (R 20 0 (16 + 8 * p + 2) = v)) p)) (Int32.ofNat p) R = some (Int32.ofNat (stN (fun p => decide (R 20 0 (16 + 8 * p + 2) = v)) n)) := by
  intro m
  induction m with
  | zero =>
    intro p hp fu hf
    obtain ⟨fu, rfl⟩ : ∃ g, fu = g + 1 := ⟨fu - 1, by omega⟩
    obtain rfl : p = n := by omega
    rw [X8_setOf_L4, e, if_neg (by rw [i_lt]; omega)]
  | succ m ih =>
    intro p hp fu hf
    obtain ⟨fu, rfl⟩ : ∃ g, fu = g + 1 := ⟨fu - 1, by omega⟩
    have nx := ih (p + 1) (by omega) fu (by omega)
    rw [X8_setOf_L4, e, if_pos (by rw [i_lt, i_of (by omega), i_of (by omega)]; omega), if_neg v5, if_neg v6, if_neg v7, o8_2 (by omega), bs]
    by_cases hv : R 20 0 (16 + 8 * p + 2) = v
    · have s1 : stN (fun p => decide (R 20 0 (16 + 8 * p + 2) = v)) (p + 1) = stN (fun p => decide (R 20 0 (16 + 8 * p + 2) = v)) p + 2 ^ p := by
        show stN (fun p => decide (R 20 0 (16 + 8 * p + 2) = v)) p + (if _ = true then 2 ^ p else 0) = _
        rw [if_pos (by exact decide_eq_true hv)]
      rw [if_pos hv, or_bit p (by omega) _ (stN_lt _ p), i_succ p, ← s1]
      exact nx
    · have s1 : stN (fun p => decide (R 20 0 (16 + 8 * p + 2) = v)) (p + 1) = stN (fun p => decide (R 20 0 (16 + 8 * p + 2) = v)) p := by
        show stN (fun p => decide (R 20 0 (16 + 8 * p + 2) = v)) p + (if _ = true then 2 ^ p else 0) = _
        rw [if_neg (by exact fun h => hv (of_decide_eq_true h))]
        exact Nat.add_zero _
      rw [if_neg hv, i_or0, i_succ p, ← s1]
      exact nx
theorem setH_c {n : Nat} {R : Mem} {v : Int32} (hn : n ≤ 10) (v5 : ¬ v = 5) (v6 : ¬ v = 6) (v7 : ¬ v = 7) (e : R 20 0 0 = Int32.ofNat n) : X8_setOf v R = some (Int32.ofNat (stN (fun p => decide (R 20 0 (16 + 8 * p + 2) = v)) n)) := by
  show (X8_setOf_L4 400 v 0 0 R).bind _ = _
  rw [show X8_setOf_L4 400 v 0 0 R = _ from setH_L hn v5 v6 v7 e n 0 (by omega) 400 (by omega)]
  rfl
theorem set5_L {n : Nat} {R : Mem} (hn : n ≤ 10) (e : R 20 0 0 = Int32.ofNat n) : ∀ (m p : Nat), p + m = n → ∀ (fu : Nat), m < fu → X8_setOf_L4 fu 5 (Int32.ofNat (stN (fun p => decide (R 20 0 (16 + 8 * p + 7) = 1)) p)) (Int32.ofNat p) R = some (Int32.ofNat (stN (fun p => decide (R 20 0 (16 + 8 * p + 7) = 1)) n)) := by
  intro m
  induction m with
  | zero =>
    intro p hp fu hf
    obtain ⟨fu, rfl⟩ : ∃ g, fu = g + 1 := ⟨fu - 1, by omega⟩
    obtain rfl : p = n := by omega
    rw [X8_setOf_L4, e, if_neg (by rw [i_lt]; omega)]
  | succ m ih =>
    intro p hp fu hf
    obtain ⟨fu, rfl⟩ : ∃ g, fu = g + 1 := ⟨fu - 1, by omega⟩
    have nx := ih (p + 1) (by omega) fu (by omega)
    rw [X8_setOf_L4, e, if_pos (by rw [i_lt, i_of (by omega), i_of (by omega)]; omega), if_pos (by decide), o8_7 (by omega), bs]
    by_cases hv : R 20 0 (16 + 8 * p + 7) = 1
    · have s1 : stN (fun p => decide (R 20 0 (16 + 8 * p + 7) = 1)) (p + 1) = stN (fun p => decide (R 20 0 (16 + 8 * p + 7) = 1)) p + 2 ^ p := by
        show stN (fun p => decide (R 20 0 (16 + 8 * p + 7) = 1)) p + (if _ = true then 2 ^ p else 0) = _
        rw [if_pos (by exact decide_eq_true hv)]
      rw [if_pos hv, or_bit p (by omega) _ (stN_lt _ p), i_succ p, ← s1]
      exact nx
    · have s1 : stN (fun p => decide (R 20 0 (16 + 8 * p + 7) = 1)) (p + 1) = stN (fun p => decide (R 20 0 (16 + 8 * p + 7) = 1)) p := by
        show stN (fun p => decide (R 20 0 (16 + 8 * p + 7) = 1)) p + (if _ = true then 2 ^ p else 0) = _
        rw [if_neg (by exact fun h => hv (of_decide_eq_true h))]
        exact Nat.add_zero _
      rw [if_neg hv, i_or0, i_succ p, ← s1]
      exact nx
theorem set5_c {n : Nat} {R : Mem} (hn : n ≤ 10) (e : R 20 0 0 = Int32.ofNat n) : X8_setOf 5 R = some (Int32.ofNat (stN (fun p => decide (R 20 0 (16 + 8 * p + 7) = 1)) n)) := by
  show (X8_setOf_L4 400 5 0 0 R).bind _ = _
  rw [show X8_setOf_L4 400 5 0 0 R = _ from set5_L hn e n 0 (by omega) 400 (by omega)]
  rfl
theorem set6_L {n : Nat} {R : Mem} (hn : n ≤ 10) (e : R 20 0 0 = Int32.ofNat n) : ∀ (m p : Nat), p + m = n → ∀ (fu : Nat), m < fu → X8_setOf_L4 fu 6 (Int32.ofNat (stN (fun p => decide (R 20 0 (16 + 8 * p + 2) < 0)) p)) (Int32.ofNat p) R = some (Int32.ofNat (stN (fun p => decide (R 20 0 (16 + 8 * p + 2) < 0)) n)) := by
  intro m
  induction m with
  | zero =>
    intro p hp fu hf
    obtain ⟨fu, rfl⟩ : ∃ g, fu = g + 1 := ⟨fu - 1, by omega⟩
    obtain rfl : p = n := by omega
    rw [X8_setOf_L4, e, if_neg (by rw [i_lt]; omega)]
  | succ m ih =>
    intro p hp fu hf
    obtain ⟨fu, rfl⟩ : ∃ g, fu = g + 1 := ⟨fu - 1, by omega⟩
    have nx := ih (p + 1) (by omega) fu (by omega)
    rw [X8_setOf_L4, e, if_pos (by rw [i_lt, i_of (by omega), i_of (by omega)]; omega), if_neg (by decide), if_pos (by decide), broken8 (by omega), bs]
    by_cases hv : R 20 0 (16 + 8 * p + 2) < 0
    · have s1 : stN (fun p => decide (R 20 0 (16 + 8 * p + 2) < 0)) (p + 1) = stN (fun p => decide (R 20 0 (16 + 8 * p + 2) < 0)) p + 2 ^ p := by
        show stN (fun p => decide (R 20 0 (16 + 8 * p + 2) < 0)) p + (if _ = true then 2 ^ p else 0) = _
        rw [if_pos (by exact decide_eq_true hv)]
      rw [if_pos hv, if_neg (by decide), or_bit p (by omega) _ (stN_lt _ p), i_succ p, ← s1]
      exact nx
    · have s1 : stN (fun p => decide (R 20 0 (16 + 8 * p + 2) < 0)) (p + 1) = stN (fun p => decide (R 20 0 (16 + 8 * p + 2) < 0)) p := by
        show stN (fun p => decide (R 20 0 (16 + 8 * p + 2) < 0)) p + (if _ = true then 2 ^ p else 0) = _
        rw [if_neg (by exact fun h => hv (of_decide_eq_true h))]
        exact Nat.add_zero _
      rw [if_neg hv, if_pos (by decide), i_or0, i_succ p, ← s1]
      exact nx
theorem set6_c {n : Nat} {R : Mem} (hn : n ≤ 10) (e : R 20 0 0 = Int32.ofNat n) : X8_setOf 6 R = some (Int32.ofNat (stN (fun p => decide (R 20 0 (16 + 8 * p + 2) < 0)) n)) := by
  show (X8_setOf_L4 400 6 0 0 R).bind _ = _
  rw [show X8_setOf_L4 400 6 0 0 R = _ from set6_L hn e n 0 (by omega) 400 (by omega)]
  rfl
theorem set7_L {n : Nat} {R : Mem} (hn : n ≤ 10) (e : R 20 0 0 = Int32.ofNat n) : ∀ (m p : Nat), p + m = n → ∀ (fu : Nat), m < fu → X8_setOf_L4 fu 7 (Int32.ofNat (stN (fun p => decide (0 < R 20 0 (16 + 8 * p + 6))) p)) (Int32.ofNat p) R = some (Int32.ofNat (stN (fun p => decide (0 < R 20 0 (16 + 8 * p + 6))) n)) := by
  intro m
  induction m with
  | zero =>
    intro p hp fu hf
    obtain ⟨fu, rfl⟩ : ∃ g, fu = g + 1 := ⟨fu - 1, by omega⟩
    obtain rfl : p = n := by omega
    rw [X8_setOf_L4, e, if_neg (by rw [i_lt]; omega)]
  | succ m ih =>
    intro p hp fu hf
    obtain ⟨fu, rfl⟩ : ∃ g, fu = g + 1 := ⟨fu - 1, by omega⟩
    have nx := ih (p + 1) (by omega) fu (by omega)
    rw [X8_setOf_L4, e, if_pos (by rw [i_lt, i_of (by omega), i_of (by omega)]; omega), if_neg (by decide), if_neg (by decide), if_pos (by decide), o8_6 (by omega), bs]
    by_cases hv : 0 < R 20 0 (16 + 8 * p + 6)
    · have s1 : stN (fun p => decide (0 < R 20 0 (16 + 8 * p + 6))) (p + 1) = stN (fun p => decide (0 < R 20 0 (16 + 8 * p + 6))) p + 2 ^ p := by
        show stN (fun p => decide (0 < R 20 0 (16 + 8 * p + 6))) p + (if _ = true then 2 ^ p else 0) = _
        rw [if_pos (by exact decide_eq_true hv)]
      rw [if_pos hv, or_bit p (by omega) _ (stN_lt _ p), i_succ p, ← s1]
      exact nx
    · have s1 : stN (fun p => decide (0 < R 20 0 (16 + 8 * p + 6))) (p + 1) = stN (fun p => decide (0 < R 20 0 (16 + 8 * p + 6))) p := by
        show stN (fun p => decide (0 < R 20 0 (16 + 8 * p + 6))) p + (if _ = true then 2 ^ p else 0) = _
        rw [if_neg (by exact fun h => hv (of_decide_eq_true h))]
        exact Nat.add_zero _
      rw [if_neg hv, i_or0, i_succ p, ← s1]
      exact nx
theorem set7_c {n : Nat} {R : Mem} (hn : n ≤ 10) (e : R 20 0 0 = Int32.ofNat n) : X8_setOf 7 R = some (Int32.ofNat (stN (fun p => decide (0 < R 20 0 (16 + 8 * p + 6))) n)) := by
  show (X8_setOf_L4 400 7 0 0 R).bind _ = _
  rw [show X8_setOf_L4 400 7 0 0 R = _ from set7_L hn e n 0 (by omega) 400 (by omega)]
  rfl
theorem many_L {n : Nat} {R : Mem} {v : Int32} (hn : n ≤ 10) (e : R 20 0 0 = Int32.ofNat n) : ∀ (m p : Nat), p + m = n → ∀ (fu : Nat), m < fu → X8_manyIn_L4 fu v (Int32.ofNat (ctN (fun p => decide (R 20 0 (16 + 8 * p + 2) = v)) p)) (Int32.ofNat p) R = some (Int32.ofNat (ctN (fun p => decide (R 20 0 (16 + 8 * p + 2) = v)) n)) := by
  intro m
  induction m with
  | zero =>
    intro p hp fu hf
    obtain ⟨fu, rfl⟩ : ∃ g, fu = g + 1 := ⟨fu - 1, by omega⟩
    obtain rfl : p = n := by omega
    rw [X8_manyIn_L4, e, if_neg (by rw [i_lt]; omega)]
  | succ m ih =>
    intro p hp fu hf
    obtain ⟨fu, rfl⟩ : ∃ g, fu = g + 1 := ⟨fu - 1, by omega⟩
    have nx := ih (p + 1) (by omega) fu (by omega)
    rw [X8_manyIn_L4, e, if_pos (by rw [i_lt, i_of (by omega), i_of (by omega)]; omega), o8_2 (by omega), bs]
    by_cases hv : R 20 0 (16 + 8 * p + 2) = v
    · have s1 : ctN (fun p => decide (R 20 0 (16 + 8 * p + 2) = v)) (p + 1) = ctN (fun p => decide (R 20 0 (16 + 8 * p + 2) = v)) p + 1 := by
        show ctN (fun p => decide (R 20 0 (16 + 8 * p + 2) = v)) p + (if _ = true then 1 else 0) = _
        rw [if_pos (by exact decide_eq_true hv)]
      rw [if_pos hv, i_succ (ctN _ p), i_succ p, ← s1]
      exact nx
    · have s1 : ctN (fun p => decide (R 20 0 (16 + 8 * p + 2) = v)) (p + 1) = ctN (fun p => decide (R 20 0 (16 + 8 * p + 2) = v)) p := by
        show ctN (fun p => decide (R 20 0 (16 + 8 * p + 2) = v)) p + (if _ = true then 1 else 0) = _
        rw [if_neg (by exact fun h => hv (of_decide_eq_true h))]
        exact Nat.add_zero _
      rw [if_neg hv, i_add0, i_succ p, ← s1]
      exact nx
theorem many_c {n : Nat} {R : Mem} {v : Int32} (hn : n ≤ 10) (e : R 20 0 0 = Int32.ofNat n) : X8_manyIn v R = some (Int32.ofNat (ctN (fun p => decide (R 20 0 (16 + 8 * p + 2) = v)) n)) := by
  show (X8_manyIn_L4 400 v 0 0 R).bind _ = _
  rw [show X8_manyIn_L4 400 v 0 0 R = _ from many_L hn e n 0 (by omega) 400 (by omega)]
  rfl
theorem sumH_L {n : Nat} {R : Mem} (hn : n ≤ 10) (e : R 20 0 0 = Int32.ofNat n) : ∀ (m p : Nat), p + m = n → ∀ (fu : Nat), m < fu → X8_handles_L4 fu (smN (fun p => R 20 0 (16 + 8 * p + 6)) p) (Int32.ofNat p) R = some (smN (fun p => R 20 0 (16 + 8 * p + 6)) n) := by
  intro m
  induction m with
  | zero =>
    intro p hp fu hf
    obtain ⟨fu, rfl⟩ : ∃ g, fu = g + 1 := ⟨fu - 1, by omega⟩
    obtain rfl : p = n := by omega
    rw [X8_handles_L4, e, if_neg (by rw [i_lt]; omega)]
  | succ m ih =>
    intro p hp fu hf
    obtain ⟨fu, rfl⟩ : ∃ g, fu = g + 1 := ⟨fu - 1, by omega⟩
    have nx := ih (p + 1) (by omega) fu (by omega)
    rw [X8_handles_L4, e, if_pos (by rw [i_lt, i_of (by omega), i_of (by omega)]; omega), o8_6 (by omega), bs]
    rw [show smN (fun p => R 20 0 (16 + 8 * p + 6)) p + R 20 0 (16 + 8 * p + 6) = smN (fun p => R 20 0 (16 + 8 * p + 6)) (p + 1) from rfl, i_succ]
    exact nx
theorem sumH_c {n : Nat} {R : Mem} (hn : n ≤ 10) (e : R 20 0 0 = Int32.ofNat n) : X8_handles R = some (smN (fun p => R 20 0 (16 + 8 * p + 6)) n) := by
  show (X8_handles_L4 400 0 0 R).bind _ = _
  rw [show X8_handles_L4 400 0 0 R = _ from sumH_L hn e n 0 (by omega) 400 (by omega)]
  rfl
theorem hIn_L {b n : Nat} {C : Mem} {v : Int32} (hn : n ≤ 10) (e : C 1 b 5 = Int32.ofNat n) : ∀ (m p : Nat), p + m = n → ∀ (fu : Nat), m < fu → X1_handlesIn_L4 fu b v (smN (fun p => if C 3 (10 * b + p) 2 = v then C 3 (10 * b + p) 6 else 0) p) (Int32.ofNat p) C = some (smN (fun p => if C 3 (10 * b + p) 2 = v then C 3 (10 * b + p) 6 else 0) n) := by
  intro m
  induction m with
  | zero =>
    intro p hp fu hf
    obtain ⟨fu, rfl⟩ : ∃ g, fu = g + 1 := ⟨fu - 1, by omega⟩
    obtain rfl : p = n := by omega
    rw [X1_handlesIn_L4, e, if_neg (by rw [i_lt]; omega)]
  | succ m ih =>
    intro p hp fu hf
    obtain ⟨fu, rfl⟩ : ∃ g, fu = g + 1 := ⟨fu - 1, by omega⟩
    have nx := ih (p + 1) (by omega) fu (by omega)
    rw [X1_handlesIn_L4, e, if_pos (by rw [i_lt, i_of (by omega), i_of (by omega)]; omega), if_pos (ib_of (by omega) (by omega)), i_ofix (by omega)]
    have s1 : smN (fun p => if C 3 (10 * b + p) 2 = v then C 3 (10 * b + p) 6 else 0) (p + 1) = smN (fun p => if C 3 (10 * b + p) 2 = v then C 3 (10 * b + p) 6 else 0) p + (if C 3 (10 * b + p) 2 = v then C 3 (10 * b + p) 6 else 0) := rfl
    by_cases hv : C 3 (10 * b + p) 2 = v
    · rw [if_pos hv] at s1
      rw [if_pos hv, i_succ p, ← s1]
      exact nx
    · rw [if_neg hv, i_add0] at s1
      rw [if_neg hv, i_succ p, ← s1]
      exact nx
theorem hIn_c {b n : Nat} {C : Mem} {v : Int32} (hn : n ≤ 10) (e : C 1 b 5 = Int32.ofNat n) : X1_handlesIn b v C = some (smN (fun p => if C 3 (10 * b + p) 2 = v then C 3 (10 * b + p) 6 else 0) n) := by
  show (X1_handlesIn_L4 400 b v 0 0 C).bind _ = _
  rw [show X1_handlesIn_L4 400 b v 0 0 C = _ from hIn_L hn e n 0 (by omega) 400 (by omega)]
  rfl
theorem hIn8_L {n : Nat} {R : Mem} {v w2 w3 w4 : Int32} (hn : n ≤ 10) (e : R 20 0 0 = Int32.ofNat n) : ∀ (m p : Nat), p + m = n → ∀ (fu : Nat), m < fu → X8_richest_L57 fu w2 w3 w4 v (smN (fun p => if R 20 0 (16 + 8 * p + 2) = v then R 20 0 (16 + 8 * p + 6) else 0) p) (Int32.ofNat p) R = some (smN (fun p => if R 20 0 (16 + 8 * p + 2) = v then R 20 0 (16 + 8 * p + 6) else 0) n) := by
  intro m
  induction m with
  | zero =>
    intro p hp fu hf
    obtain ⟨fu, rfl⟩ : ∃ g, fu = g + 1 := ⟨fu - 1, by omega⟩
    obtain rfl : p = n := by omega
    rw [X8_richest_L57, e, if_neg (by rw [i_lt]; omega)]
  | succ m ih =>
    intro p hp fu hf
    obtain ⟨fu, rfl⟩ : ∃ g, fu = g + 1 := ⟨fu - 1, by omega⟩
    have nx := ih (p + 1) (by omega) fu (by omega)
    rw [X8_richest_L57, e, if_pos (by rw [i_lt, i_of (by omega), i_of (by omega)]; omega), o8_2 (by omega), bs]
    have s1 : smN (fun p => if R 20 0 (16 + 8 * p + 2) = v then R 20 0 (16 + 8 * p + 6) else 0) (p + 1) = smN (fun p => if R 20 0 (16 + 8 * p + 2) = v then R 20 0 (16 + 8 * p + 6) else 0) p + (if R 20 0 (16 + 8 * p + 2) = v then R 20 0 (16 + 8 * p + 6) else 0) := rfl
    by_cases hv : R 20 0 (16 + 8 * p + 2) = v
    · rw [if_pos hv] at s1
      rw [if_pos hv, o8_6 (by omega), bs, i_succ p, ← s1]
      exact nx
    · rw [if_neg hv, i_add0] at s1
      rw [if_neg hv, i_add0, i_succ p, ← s1]
      exact nx
theorem hIn8_c {n : Nat} {R : Mem} {v w2 w3 w4 : Int32} (hn : n ≤ 10) (e : R 20 0 0 = Int32.ofNat n) : X8_richest_L57 400 w2 w3 w4 v 0 0 R = some (smN (fun p => if R 20 0 (16 + 8 * p + 2) = v then R 20 0 (16 + 8 * p + 6) else 0) n) := hIn8_L hn e n 0 (by omega) 400 (by omega)
-- both sides over the row
def pin (D : Nat → Int32) (v : Int32) (p : Nat) : Bool := decide (D (16 + 8 * p + 2) = v)
def pwh (D : Nat → Int32) (p : Nat) : Bool := decide (0 < D (16 + 8 * p + 6))
def pfa (D : Nat → Int32) (p : Nat) : Bool := decide (D (16 + 8 * p + 7) = 1)
theorem pots7 {b : Nat} {C : Mem} {D : Nat → Int32} (v : Int32) (h : RelD b C D) : X1_potsIn b v C = some (Int32.ofNat (stN (pin D v) (nP D))) := by
  obtain ⟨n1, n2, n3, n4⟩ := RelD_n h
  rw [potsIn_c n1 n2]
  congr 2
  refine stN_cg fun k hk => ?_
  show decide (C 3 (10 * b + k) 2 = v) = decide (D (16 + 8 * k + 2) = v)
  rw [pot_rd h (n4 k hk) (by omega)]
theorem with7 {b : Nat} {C : Mem} {D : Nat → Int32} (h : RelD b C D) : X1_potsWithHandle b C = some (Int32.ofNat (stN (pwh D) (nP D))) := by
  obtain ⟨n1, n2, n3, n4⟩ := RelD_n h
  rw [withH_c n1 n2]
  congr 2
  refine stN_cg fun k hk => ?_
  show decide (0 < C 3 (10 * b + k) 6) = decide (0 < D (16 + 8 * k + 6))
  rw [pot_rd h (n4 k hk) (by omega)]
theorem false7 {b : Nat} {C : Mem} {D : Nat → Int32} (h : RelD b C D) : X1_falsePots b C = some (Int32.ofNat (stN (pfa D) (nP D))) := by
  obtain ⟨n1, n2, n3, n4⟩ := RelD_n h
  rw [falseP_c n1 n2]
  congr 2
  refine stN_cg fun k hk => ?_
  show decide (¬ nbZ (C 3 (10 * b + k) 7) = 0) = decide (D (16 + 8 * k + 7) = 1)
  rw [pot_rz h (n4 k hk)]
  have r : inR (D (16 + 8 * k + 7)) 0 1 := pot_rg (k := 7) h (n4 k hk) (by omega)
  refine decide_eq_decide.mpr ⟨fun hz => ?_, fun hz => by rw [hz]; decide⟩
  rw [i_eq, i_z] at hz
  rw [i_eq]
  have := r.1
  have := r.2
  show _ = (1 : Int)
  omega
theorem hands7 {b : Nat} {C : Mem} {D : Nat → Int32} (h : RelD b C D) : X1_allHandles b C = some (smN (fun p => D (16 + 8 * p + 6)) (nP D)) := by
  obtain ⟨n1, n2, n3, n4⟩ := RelD_n h
  rw [allH_c n1 n2]
  congr 1
  exact smN_cg fun k hk => pot_rd h (n4 k hk) (by omega)
theorem handsIn7 {b : Nat} {C : Mem} {D : Nat → Int32} (v : Int32) (h : RelD b C D) : X1_handlesIn b v C = some (smN (fun p => if D (16 + 8 * p + 2) = v then D (16 + 8 * p + 6) else 0) (nP D)) := by
  obtain ⟨n1, n2, n3, n4⟩ := RelD_n h
  rw [hIn_c n1 n2]
  congr 1
  refine smN_cg fun k hk => ?_
  show (if C 3 (10 * b + k) 2 = v then C 3 (10 * b + k) 6 else 0) = (if D (16 + 8 * k + 2) = v then D (16 + 8 * k + 6) else 0)
  rw [pot_rd h (n4 k hk) (by omega), pot_rd h (n4 k hk) (by omega)]
theorem setH8 {b : Nat} {C R : Mem} {v : Int32} (h : RelD b C (R 20 0)) (hv : inR v 0 4) : X8_setOf v R = some (Int32.ofNat (stN (pin (R 20 0) v) (nP (R 20 0)))) := by
  obtain ⟨n1, n2, n3, n4⟩ := RelD_n h
  have q1 := hv.1
  have q2 := hv.2
  have ne : ∀ k : Nat, 4 < k → k < 9 → ¬ v = Int32.ofNat k := fun k k1 k2 e => by
    rw [e, i_of (by omega)] at q2
    omega
  exact setH_c n1 (ne 5 (by omega) (by omega)) (ne 6 (by omega) (by omega)) (ne 7 (by omega) (by omega)) n3
theorem set5_8 {b : Nat} {C R : Mem} (h : RelD b C (R 20 0)) : X8_setOf 5 R = some (Int32.ofNat (stN (pfa (R 20 0)) (nP (R 20 0)))) := set5_c (RelD_n h).1 (RelD_n h).2.2.1
theorem set6_8 {b : Nat} {C R : Mem} (h : RelD b C (R 20 0)) : X8_setOf 6 R = some (Int32.ofNat (stN (pin (R 20 0) (-1)) (nP (R 20 0)))) := by
  obtain ⟨n1, n2, n3, n4⟩ := RelD_n h
  rw [set6_c n1 n3]
  congr 2
  refine stN_cg fun k hk => ?_
  show decide (R 20 0 (16 + 8 * k + 2) < 0) = decide (R 20 0 (16 + 8 * k + 2) = -1)
  have r : inR (R 20 0 (16 + 8 * k + 2)) (-1) 4 := pot_rg (k := 2) h (n4 k hk) (by omega)
  refine decide_eq_decide.mpr ⟨fun hz => ?_, fun hz => by rw [hz]; decide⟩
  rw [i_lt, i_z] at hz
  rw [i_eq]
  have := r.1
  show _ = (-1 : Int)
  omega
theorem set7_8 {b : Nat} {C R : Mem} (h : RelD b C (R 20 0)) : X8_setOf 7 R = some (Int32.ofNat (stN (pwh (R 20 0)) (nP (R 20 0)))) := set7_c (RelD_n h).1 (RelD_n h).2.2.1
theorem many8 {b : Nat} {C R : Mem} (v : Int32) (h : RelD b C (R 20 0)) : X8_manyIn v R = some (Int32.ofNat (ctN (pin (R 20 0) v) (nP (R 20 0)))) := many_c (RelD_n h).1 (RelD_n h).2.2.1
theorem hands8 {b : Nat} {C R : Mem} (h : RelD b C (R 20 0)) : X8_handles R = some (smN (fun p => R 20 0 (16 + 8 * p + 6)) (nP (R 20 0))) := sumH_c (RelD_n h).1 (RelD_n h).2.2.1
theorem handsIn8 {b : Nat} {C R : Mem} {w2 w3 w4 : Int32} (v : Int32) (h : RelD b C (R 20 0)) : X8_richest_L57 400 w2 w3 w4 v 0 0 R = some (smN (fun p => if R 20 0 (16 + 8 * p + 2) = v then R 20 0 (16 + 8 * p + 6) else 0) (nP (R 20 0))) := hIn8_c (RelD_n h).1 (RelD_n h).2.2.1
