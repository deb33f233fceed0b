/-! Int32 by its whole number -/
theorem i_of {n : Nat} (h : n < 2147483648) : (Int32.ofNat n).toInt = (n : Int) := Int32.toInt_ofNat_of_lt h
theorem i_bmod {z : Int} (h1 : -2147483648 ≤ z) (h2 : z < 2147483648) : z.bmod (2 ^ 32) = z := by
  have h3 := Int.bmod_def z (2 ^ 32)
  rw [h3]
  by_cases hz : 0 ≤ z
  · have : z % ((2 ^ 32 : Nat) : Int) = z := Int.emod_eq_of_lt hz (by omega)
    rw [this, if_pos (by omega)]
  · have : z % ((2 ^ 32 : Nat) : Int) = z + 4294967296 := by omega
    rw [this, if_neg (by omega)]
    omega
theorem i_add {x y : Int32} (h1 : -2147483648 ≤ x.toInt + y.toInt) (h2 : x.toInt + y.toInt < 2147483648) : (x + y).toInt = x.toInt + y.toInt := by
  rw [Int32.toInt_add]; exact i_bmod h1 h2
theorem i_sub {x y : Int32} (h1 : -2147483648 ≤ x.toInt - y.toInt) (h2 : x.toInt - y.toInt < 2147483648) : (x - y).toInt = x.toInt - y.toInt := by
  rw [Int32.toInt_sub]; exact i_bmod h1 h2
theorem i_mul {x y : Int32} (h1 : -2147483648 ≤ x.toInt * y.toInt) (h2 : x.toInt * y.toInt < 2147483648) : (x * y).toInt = x.toInt * y.toInt := by
  rw [Int32.toInt_mul]; exact i_bmod h1 h2
theorem i_lt {x y : Int32} : x < y ↔ x.toInt < y.toInt := Int32.lt_iff_toInt_lt
theorem i_le {x y : Int32} : x ≤ y ↔ x.toInt ≤ y.toInt := Int32.le_iff_toInt_le
theorem i_eq {x y : Int32} : x = y ↔ x.toInt = y.toInt := Int32.toInt_inj.symm
theorem i_ix (x : Int32) : x.toNatClampNeg = x.toInt.toNat := rfl
theorem i_ofix {n : Nat} (h : n < 2147483648) : (Int32.ofNat n).toNatClampNeg = n := by
  rw [i_ix, i_of h]; rfl
theorem i_lo (x : Int32) : -2147483648 ≤ x.toInt := Int32.le_toInt x
theorem i_hi (x : Int32) : x.toInt < 2147483648 := Int32.toInt_lt x
theorem i_ofadd (a b : Nat) : Int32.ofNat a + Int32.ofNat b = Int32.ofNat (a + b) := by
  rw [Int32.ofNat_add]
/-- a number that is none below 0 is one of Nat -/
theorem i_nat {x : Int32} (h : 0 ≤ x.toInt) : x = Int32.ofNat x.toInt.toNat := by
  rw [i_eq, i_of (by have := i_hi x; omega)]
  omega
theorem ib_of {k n : Nat} (h : k < n) (hn : n < 2147483648) : ib (Int32.ofNat k) n = true := by
  refine decide_eq_true ⟨?_, ?_⟩
  · rw [i_lt, i_of (by omega)]
    show ¬ (k : Int) < (0 : Int32).toInt
    rw [show (0 : Int32).toInt = 0 from rfl]
    omega
  · rw [i_ofix (by omega)]; exact h
theorem ib_iff {x : Int32} {n : Nat} : ib x n = true ↔ 0 ≤ x.toInt ∧ x.toInt < n := by
  unfold ib
  rw [decide_eq_true_eq, i_lt, i_ix, show (0 : Int32).toInt = 0 from rfl]
  omega
theorem i_z : (0 : Int32).toInt = 0 := rfl
