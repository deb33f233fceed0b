/-- a stretch of a row, all 0 -/
def zr (M : Mem) (f s a b : Nat) : Mem := fun f' i' j => if f' = f ∧ i' = s ∧ a ≤ j ∧ j < b then 0 else M f' i' j
theorem zr_end {M : Mem} {f s b : Nat} : zr M f s b b = M := by
  funext f' i' j
  unfold zr
  rw [if_neg (by omega)]
theorem zr_step {M : Mem} {f s a b : Nat} (h : a < b) : zr (up3 M f s a 0) f s (a + 1) b = zr M f s a b := by
  funext f' i' j
  unfold zr up3
  by_cases h1 : f' = f ∧ i' = s ∧ a + 1 ≤ j ∧ j < b
  · rw [if_pos h1, if_pos (by omega)]
  · rw [if_neg h1]
    by_cases h2 : f' = f ∧ j = a ∧ i' = s
    · rw [if_pos h2, if_pos (by omega)]
    · rw [if_neg h2, if_neg (by omega)]
theorem fill7 (s : Nat) : ∀ (m k : Nat), k + m = 40 → ∀ (fu : Nat) (M : Mem), m < fu → J7_fill_53178_L5 fu s 0 (Int32.ofNat k) 40 M = some (zr M 15 s k 40) := by
  intro m
  induction m with
  | zero =>
    intro k hk fu M hf
    obtain ⟨fu, rfl⟩ : ∃ g, fu = g + 1 := ⟨fu - 1, by omega⟩
    obtain rfl : k = 40 := by omega
    rw [J7_fill_53178_L5, if_neg (by decide), zr_end]
  | succ m ih =>
    intro k hk fu M hf
    obtain ⟨fu, rfl⟩ : ∃ g, fu = g + 1 := ⟨fu - 1, by omega⟩
    rw [J7_fill_53178_L5, if_pos (by rw [i_lt, i_of (by omega), show (40 : Int32).toInt = 40 from rfl]; omega), if_pos (ib_of (by omega) (by omega)), i_ofix (by omega), i_succ, ih (k + 1) (by omega) fu _ (by omega), zr_step (by omega)]
theorem zero8 {s : Nat} (hs : s < 4) : ∀ (m k : Nat), k + m = 40 → ∀ (fu : Nat) (M : Mem), m < fu → X8_sheet_L90 fu (Int32.ofNat s) (Int32.ofNat k) M = some (zr M 30 0 (40 * s + k) (40 * s + 40)) := by
  intro m
  induction m with
  | zero =>
    intro k hk fu M hf
    obtain ⟨fu, rfl⟩ : ∃ g, fu = g + 1 := ⟨fu - 1, by omega⟩
    obtain rfl : k = 40 := by omega
    rw [X8_sheet_L90, if_neg (by decide), zr_end]
  | succ m ih =>
    intro k hk fu M hf
    obtain ⟨fu, rfl⟩ : ∃ g, fu = g + 1 := ⟨fu - 1, by omega⟩
    rw [X8_sheet_L90, if_pos (by rw [i_lt, i_of (by omega), show (40 : Int32).toInt = 40 from rfl]; omega), sh_ix, if_pos (ib_of (by omega) (by omega)), i_ofix (by omega), i_succ, ih (k + 1) (by omega) fu _ (by omega), show 40 * s + (k + 1) = (40 * s + k) + 1 from by omega, zr_step (by omega)]
