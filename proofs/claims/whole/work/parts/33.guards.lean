theorem in8_0_1 (v : Int32) : X8_in (v.toInt64) (0 : Int64) (1 : Int64) = 0 ↔ ¬ (0 ≤ v.toInt ∧ v.toInt ≤ 1) := in8i v rfl rfl
theorem in8_0_2 (v : Int32) : X8_in (v.toInt64) (0 : Int64) (2 : Int64) = 0 ↔ ¬ (0 ≤ v.toInt ∧ v.toInt ≤ 2) := in8i v rfl rfl
theorem in8_0_20 (v : Int32) : X8_in (v.toInt64) (0 : Int64) (20 : Int64) = 0 ↔ ¬ (0 ≤ v.toInt ∧ v.toInt ≤ 20) := in8i v rfl rfl
theorem in8_0_3 (v : Int32) : X8_in (v.toInt64) (0 : Int64) (3 : Int64) = 0 ↔ ¬ (0 ≤ v.toInt ∧ v.toInt ≤ 3) := in8i v rfl rfl
theorem in8_0_30 (v : Int32) : X8_in (v.toInt64) (0 : Int64) (30 : Int64) = 0 ↔ ¬ (0 ≤ v.toInt ∧ v.toInt ≤ 30) := in8i v rfl rfl
theorem in8_0_4 (v : Int32) : X8_in (v.toInt64) (0 : Int64) (4 : Int64) = 0 ↔ ¬ (0 ≤ v.toInt ∧ v.toInt ≤ 4) := in8i v rfl rfl
theorem in8_0_6 (v : Int32) : X8_in (v.toInt64) (0 : Int64) (6 : Int64) = 0 ↔ ¬ (0 ≤ v.toInt ∧ v.toInt ≤ 6) := in8i v rfl rfl
theorem in8_0_60 (v : Int32) : X8_in (v.toInt64) (0 : Int64) (60 : Int64) = 0 ↔ ¬ (0 ≤ v.toInt ∧ v.toInt ≤ 60) := in8i v rfl rfl
theorem in8_0_69 (v : Int32) : X8_in (v.toInt64) (0 : Int64) (69 : Int64) = 0 ↔ ¬ (0 ≤ v.toInt ∧ v.toInt ≤ 69) := in8i v rfl rfl
theorem in8_0_9 (v : Int32) : X8_in (v.toInt64) (0 : Int64) (9 : Int64) = 0 ↔ ¬ (0 ≤ v.toInt ∧ v.toInt ≤ 9) := in8i v rfl rfl
theorem in8_0_999 (v : Int32) : X8_in (v.toInt64) (0 : Int64) (999 : Int64) = 0 ↔ ¬ (0 ≤ v.toInt ∧ v.toInt ≤ 999) := in8i v rfl rfl
theorem in8_1_40 (v : Int32) : X8_in (v.toInt64) (1 : Int64) (40 : Int64) = 0 ↔ ¬ (1 ≤ v.toInt ∧ v.toInt ≤ 40) := in8i v rfl rfl
theorem in8_1_5 (v : Int32) : X8_in (v.toInt64) (1 : Int64) (5 : Int64) = 0 ↔ ¬ (1 ≤ v.toInt ∧ v.toInt ≤ 5) := in8i v rfl rfl
theorem in8_1_60 (v : Int32) : X8_in (v.toInt64) (1 : Int64) (60 : Int64) = 0 ↔ ¬ (1 ≤ v.toInt ∧ v.toInt ≤ 60) := in8i v rfl rfl
theorem in8_1_8 (v : Int32) : X8_in (v.toInt64) (1 : Int64) (8 : Int64) = 0 ↔ ¬ (1 ≤ v.toInt ∧ v.toInt ≤ 8) := in8i v rfl rfl
theorem in8_48_57 (v : Int32) : X8_in (v.toInt64) (48 : Int64) (57 : Int64) = 0 ↔ ¬ (48 ≤ v.toInt ∧ v.toInt ≤ 57) := in8i v rfl rfl
theorem is7_1 (v : Int32) : X7_isWithin v 1 = 0 ↔ ¬ (0 ≤ v.toInt ∧ v.toInt ≤ 1) := isWithin7 v 1
theorem is7_15 (v : Int32) : X7_isWithin v 15 = 0 ↔ ¬ (0 ≤ v.toInt ∧ v.toInt ≤ 15) := isWithin7 v 15
theorem is7_2 (v : Int32) : X7_isWithin v 2 = 0 ↔ ¬ (0 ≤ v.toInt ∧ v.toInt ≤ 2) := isWithin7 v 2
theorem is7_20 (v : Int32) : X7_isWithin v 20 = 0 ↔ ¬ (0 ≤ v.toInt ∧ v.toInt ≤ 20) := isWithin7 v 20
theorem is7_3 (v : Int32) : X7_isWithin v 3 = 0 ↔ ¬ (0 ≤ v.toInt ∧ v.toInt ≤ 3) := isWithin7 v 3
theorem is7_30 (v : Int32) : X7_isWithin v 30 = 0 ↔ ¬ (0 ≤ v.toInt ∧ v.toInt ≤ 30) := isWithin7 v 30
theorem is7_6 (v : Int32) : X7_isWithin v 6 = 0 ↔ ¬ (0 ≤ v.toInt ∧ v.toInt ≤ 6) := isWithin7 v 6
theorem is7_60 (v : Int32) : X7_isWithin v 60 = 0 ↔ ¬ (0 ≤ v.toInt ∧ v.toInt ≤ 60) := isWithin7 v 60
theorem is7_9 (v : Int32) : X7_isWithin v 9 = 0 ↔ ¬ (0 ≤ v.toInt ∧ v.toInt ≤ 9) := isWithin7 v 9
theorem is7_999 (v : Int32) : X7_isWithin v 999 = 0 ↔ ¬ (0 ≤ v.toInt ∧ v.toInt ≤ 999) := isWithin7 v 999
theorem sheet7 (v : Int32) : X7_isSheet v = 0 ↔ ¬ (0 ≤ v.toInt ∧ v.toInt ≤ 3) := by
  unfold X7_isSheet
  by_cases h1 : v < 0
  · rw [if_pos h1]; rw [i_lt, i_z] at h1; exact ⟨fun _ => by omega, fun _ => rfl⟩
  · rw [if_neg h1]; rw [i_lt, i_z] at h1
    by_cases h2 : v < 4
    · rw [if_pos h2]; rw [i_lt, show (4 : Int32).toInt = 4 from rfl] at h2; exact ⟨fun h => absurd h (by decide), fun h => absurd ⟨by omega, by omega⟩ h⟩
    · rw [if_neg h2]; rw [i_lt, show (4 : Int32).toInt = 4 from rfl] at h2; exact ⟨fun _ => by omega, fun _ => rfl⟩
theorem sheet8 (v : Int32) : X8_isSheet v = 0 ↔ ¬ (0 ≤ v.toInt ∧ v.toInt ≤ 3) := by
  unfold X8_isSheet
  exact in8_0_3 v
theorem i_div {x : Int32} {m : Nat} (hm : 0 < m) (hm2 : m < 2147483648) : (x / Int32.ofNat m).toInt = x.toInt.tdiv m := by
  rw [Int32.toInt_div_of_ne_right _ _ (by
    intro h
    have := congrArg Int32.toInt h
    rw [i_of hm2] at this
    have e : (-1 : Int32).toInt = -1 := rfl
    rw [e] at this
    omega), i_of hm2]
theorem kind7 (v : Int32) : X7_isKindWithNumber v = 0 ↔ ¬ (0 ≤ v.toInt ∧ v.toInt ≤ 69) := by
  unfold X7_isKindWithNumber
  by_cases h1 : v < 0
  · rw [if_pos h1]; rw [i_lt, i_z] at h1; exact ⟨fun _ => by omega, fun _ => rfl⟩
  · rw [if_neg h1]; rw [i_lt, i_z] at h1
    have e : (v / 10).toInt = v.toInt.tdiv 10 := i_div (m := 10) (by omega) (by omega)
    have e2 : v.toInt.tdiv 10 = v.toInt / 10 := Int.tdiv_eq_ediv_of_nonneg (by omega)
    by_cases h2 : 6 < v / 10
    · rw [if_pos h2]; rw [i_lt, e, e2, show (6 : Int32).toInt = 6 from rfl] at h2; exact ⟨fun _ => by omega, fun _ => rfl⟩
    · rw [if_neg h2]; rw [i_lt, e, e2, show (6 : Int32).toInt = 6 from rfl] at h2; exact ⟨fun h => absurd h (by decide), fun h => absurd ⟨by omega, by omega⟩ h⟩
/-- an act that answers the ERROR k on both sides -/
theorem bad {f g : Mem → Option (Int32 × Mem)} (k : Nat) (h1 : 1 ≤ k) (h5 : k ≤ 5) {C R : Mem} (h : Rel C R) (hf : f C = X7_fail (Int32.ofNat k) C) (hg : g R = X8_finds (Int32.ofNat k) R) : ∃ (res : Int32) (C' R' : Mem), f C = some (res, C') ∧ g R = some (res, R') ∧ Rel C' R' := by
  rw [hf, hg]
  exact err_eq h1 h5 C R h
/-- a number within a range of Nat -/
theorem i_get {x : Int32} {a b : Int} (h : a ≤ x.toInt ∧ x.toInt ≤ b) (ha : 0 ≤ a) : ∃ n : Nat, x = Int32.ofNat n ∧ a ≤ n ∧ (n : Int) ≤ b := by
  refine ⟨x.toInt.toNat, i_nat (by omega), by omega, by omega⟩
theorem i_ofmul (a b : Nat) : Int32.ofNat a * Int32.ofNat b = Int32.ofNat (a * b) := by
  rw [Int32.ofNat_mul]
theorem i_pred {n : Nat} (h : n < 2147483648) : (Int32.ofNat n - 1).toInt = (n : Int) - 1 := by
  rw [i_sub (by rw [i_of h]; show _ ≤ (n : Int) - 1; omega) (by rw [i_of h]; show (n : Int) - 1 < _; omega), i_of h]; rfl
/-- guards on POTS -/
theorem has7 {b : Nat} {C : Mem} {n : Nat} (hn : n ≤ 10) (e : C 1 b 5 = Int32.ofNat n) (v : Int32) : X1_has b v C = 0 ↔ ¬ (0 ≤ v.toInt ∧ v.toInt < n) := by
  unfold X1_has
  rw [e]
  by_cases h1 : v < 0
  · rw [if_pos h1]; rw [i_lt, i_z] at h1; exact ⟨fun _ => by omega, fun _ => rfl⟩
  · rw [if_neg h1]; rw [i_lt, i_z] at h1
    by_cases h2 : v < Int32.ofNat n
    · rw [if_pos h2]; rw [i_lt, i_of (by omega)] at h2; exact ⟨fun h => absurd h (by decide), fun h => absurd ⟨by omega, by omega⟩ h⟩
    · rw [if_neg h2]; rw [i_lt, i_of (by omega)] at h2; exact ⟨fun _ => by omega, fun _ => rfl⟩
theorem pot8 {R : Mem} {n : Nat} (hn : n ≤ 10) (e : R 20 0 0 = Int32.ofNat n) (v : Int32) : X8_isPot v R = 0 ↔ ¬ (0 ≤ v.toInt ∧ v.toInt < n) := by
  unfold X8_isPot
  rw [e, in8, to64, to64, i_pred (by omega), show (0 : Int64).toInt = 0 from rfl]
  omega
/-- the reference's row: where a number of a POT stands -/
theorem pot_ix (p k : Nat) : ((16 + (8 * Int32.ofNat p)) + Int32.ofNat k) = Int32.ofNat (16 + 8 * p + k) := by
  rw [show (16 : Int32) = Int32.ofNat 16 from rfl, show (8 : Int32) = Int32.ofNat 8 from rfl, i_ofmul, i_ofadd, i_ofadd]
theorem of8 {R : Mem} {p k : Nat} (hp : p < 10) (hk : k < 8) : X8_of (Int32.ofNat p) (Int32.ofNat k) R = some (R 20 0 (16 + 8 * p + k)) := by
  unfold X8_of
  rw [pot_ix, if_pos (ib_of (by omega) (by omega)), i_ofix (by omega)]
theorem sets8 {R : Mem} {p k : Nat} {v : Int32} (hp : p < 10) (hk : k < 8) : X8_sets (Int32.ofNat p) (Int32.ofNat k) v R = some (up3 R 20 0 (16 + 8 * p + k) v) := by
  unfold X8_sets
  rw [pot_ix, if_pos (ib_of (by omega) (by omega)), i_ofix (by omega)]
theorem broken8 {R : Mem} {p : Nat} (hp : p < 10) : X8_isBroken (Int32.ofNat p) R = some (if R 20 0 (16 + 8 * p + 2) < 0 then 1 else 0) := by
  unfold X8_isBroken
  rw [show (2 : Int32) = Int32.ofNat 2 from rfl, of8 hp (by omega)]
  show (if _ then _ else _) = _
  by_cases h : R 20 0 (16 + 8 * p + 2) < 0
  · rw [if_pos h, if_pos h]
  · rw [if_neg h, if_neg h]
