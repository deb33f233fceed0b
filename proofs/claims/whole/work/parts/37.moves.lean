theorem upD_self {D : Nat → Int32} {j : Nat} {v : Int32} (h : D j = v) : upD D j v = D := by
  funext k
  unfold upD
  by_cases hk : k = j
  · rw [if_pos hk, hk, h]
  · rw [if_neg hk]
/-- a POT is MOVED, in a row -/
def moveD (D : Nat → Int32) (p : Nat) (v : Int32) : Nat → Int32 := upD (upD (upD (upD (upD D (16 + 8 * p + 2) v) (16 + 8 * p + 5) 0) (16 + 8 * p + 4) (D (16 + 8 * p + 4) / 2)) (16 + 8 * p + 6) (if D (16 + 8 * p + 7) = 1 then 0 else D (16 + 8 * p + 6))) (16 + 8 * p + 7) 0
theorem half_in {x : Int32} (h : inR x 0 999) : inR (x / 2) 0 999 := by
  have e : (x / 2).toInt = x.toInt / 2 := by
    rw [show (2 : Int32) = Int32.ofNat 2 from rfl, i_div (by omega) (by omega)]
    exact Int.tdiv_eq_ediv_of_nonneg h.1
  have h1 := h.1
  have h2 := h.2
  exact ⟨by rw [e]; omega, by rw [e]; omega⟩
theorem pot_rz {C : Mem} {D : Nat → Int32} {b p : Nat} (h : RelD b C D) (hp : (p : Int) < (C 1 b 5).toInt) : nbZ (C 3 (10 * b + p) 7) = D (16 + 8 * p + 7) := by
  obtain ⟨n, n1, n2, n3, n4, -⟩ := h
  rw [n2, i_of (by omega)] at hp
  exact (n4 p (by omega)).2.2
theorem up_potb {C : Mem} {b i k : Nat} {v : Int32} : (up3 C 3 i k v) 1 b 5 = C 1 b 5 := up3_f (by decide)
theorem goTo7 {b p : Nat} {C : Mem} {D : Nat → Int32} {v : Int32} (h : RelD b C D) (hp : (p : Int) < (C 1 b 5).toInt) (hv : inR v 0 4) : ∃ C', X3_goTo (10 * b + p) v C = some C' ∧ RelD b C' (moveD D p v) ∧ Fr (fun f i => f = 3 ∧ i = 10 * b + p) C C' := by
  have e4 : C 3 (10 * b + p) 4 = D (16 + 8 * p + 4) := pot_rd h hp (by omega)
  have e6 : C 3 (10 * b + p) 6 = D (16 + 8 * p + 6) := pot_rd h hp (by omega)
  have e7 := pot_rz h hp
  have r4 : inR (D (16 + 8 * p + 4)) 0 999 := pot_rg (k := 4) h hp (by omega)
  have r7 : inR (D (16 + 8 * p + 7)) 0 1 := pot_rg (k := 7) h hp (by omega)
  have s1 : RelD b (up3 C 3 (10 * b + p) 2 v) (upD D (16 + 8 * p + 2) v) := RelD_pot hp (by omega) (show rngP 2 v from ⟨by have := hv.1; omega, hv.2⟩) h
  have s2 := RelD_pot (k := 5) (v := 0) (by rw [up_potb]; exact hp) (by omega) (show rngP 5 0 from ⟨by decide, by decide⟩) s1
  have s3 := RelD_pot (k := 4) (v := C 3 (10 * b + p) 4 / 2) (by rw [up_potb, up_potb]; exact hp) (by omega) (show rngP 4 _ from by rw [e4]; exact half_in r4) s2
  have fr : ∀ {C1 : Mem} {k : Nat} {w : Int32}, Fr (fun f i => f = 3 ∧ i = 10 * b + p) C C1 → Fr (fun f i => f = 3 ∧ i = 10 * b + p) C (up3 C1 3 (10 * b + p) k w) := fun h => h.tr (Fr.up ⟨rfl, rfl⟩)
  unfold X3_goTo
  rw [e7]
  by_cases hz : D (16 + 8 * p + 7) = 0
  · rw [if_pos hz]
    refine ⟨_, rfl, ?_, fr (fr (fr Fr.rf))⟩
    have em : moveD D p v = upD (upD (upD D (16 + 8 * p + 2) v) (16 + 8 * p + 5) 0) (16 + 8 * p + 4) (C 3 (10 * b + p) 4 / 2) := by
      unfold moveD
      rw [hz, if_neg (by decide), e4, upD_self (j := 16 + 8 * p + 6), upD_self (j := 16 + 8 * p + 7)]
      · rw [upD_ne (by omega), upD_ne (by omega), upD_ne (by omega)]; exact hz
      · rw [upD_ne (by omega), upD_ne (by omega), upD_ne (by omega)]
    rw [em]
    exact s3
  · rw [if_neg hz]
    refine ⟨_, rfl, ?_, fr (fr (fr (fr (fr Fr.rf))))⟩
    have h1 : D (16 + 8 * p + 7) = 1 := by
      rw [i_eq]
      have a := r7.1
      have c := r7.2
      have d : (D (16 + 8 * p + 7)).toInt ≠ 0 := fun e => hz (Int32.toInt_inj.mp e)
      show _ = (1 : Int)
      omega
    have s4 := RelD_pot (k := 6) (v := 0) (by rw [up_potb, up_potb, up_potb]; exact hp) (by omega) (show rngP 6 0 from ⟨by decide, by decide⟩) s3
    have s5 := RelD_pot (k := 7) (v := 0) (by rw [up_potb, up_potb, up_potb, up_potb]; exact hp) (by omega) (show rngP 7 0 from ⟨by decide, by decide⟩) s4
    have em : moveD D p v = upD (upD (upD (upD (upD D (16 + 8 * p + 2) v) (16 + 8 * p + 5) 0) (16 + 8 * p + 4) (C 3 (10 * b + p) 4 / 2)) (16 + 8 * p + 6) 0) (16 + 8 * p + 7) 0 := by
      unfold moveD
      rw [h1, if_pos (by decide), e4]
    rw [em]
    exact s5
theorem up20 {R : Mem} {j k : Nat} {v : Int32} : (up3 R 20 0 j v) 20 0 k = upD (R 20 0) j v k := by rw [up_row]
theorem moves8 {R : Mem} {p : Nat} {v : Int32} (hp : p < 10) : ∃ R', X8_moves (Int32.ofNat p) v R = some R' ∧ R' 20 0 = moveD (R 20 0) p v ∧ ∀ f i k, ¬ f = 20 → R' f i k = R f i k := by
  unfold X8_moves
  rw [show (2 : Int32) = Int32.ofNat 2 from rfl, show (5 : Int32) = Int32.ofNat 5 from rfl, show (4 : Int32) = Int32.ofNat 4 from rfl, show (7 : Int32) = Int32.ofNat 7 from rfl, show (6 : Int32) = Int32.ofNat 6 from rfl, sets8 hp (by omega), bs, sets8 hp (by omega), bs, of8 hp (by omega), bs, sets8 hp (by omega), bs, of8 hp (by omega), bs, of8 hp (by omega), bs]
  rw [up3_k (k' := 16 + 8 * p + 4) (by omega), up3_k (k' := 16 + 8 * p + 4) (by omega)]
  rw [up3_k (k' := 16 + 8 * p + 7) (by omega), up3_k (k' := 16 + 8 * p + 7) (by omega), up3_k (k' := 16 + 8 * p + 7) (by omega)]
  rw [up3_k (k' := 16 + 8 * p + 6) (by omega), up3_k (k' := 16 + 8 * p + 6) (by omega), up3_k (k' := 16 + 8 * p + 6) (by omega)]
  have key : ∀ w : Int32, w = (if R 20 0 (16 + 8 * p + 7) = 1 then 0 else R 20 0 (16 + 8 * p + 6)) → ∃ R', X8_moves_J54 (Int32.ofNat p) w (Int32.ofNat 6) (Int32.ofNat p) (up3 (up3 (up3 R 20 0 (16 + 8 * p + 2) v) 20 0 (16 + 8 * p + 5) 0) 20 0 (16 + 8 * p + 4) (R 20 0 (16 + 8 * p + 4) / Int32.ofNat 2)) = some R' ∧ R' 20 0 = moveD (R 20 0) p v ∧ ∀ f i k, ¬ f = 20 → R' f i k = R f i k := by
    intro w hw
    unfold X8_moves_J54
    rw [show (7 : Int32) = Int32.ofNat 7 from rfl, sets8 hp (by omega), bs, sets8 hp (by omega), bs]
    refine ⟨_, rfl, ?_, fun f i k hf => ?_⟩
    · rw [up_row, up_row, up_row, up_row, up_row, hw]
      rfl
    · rw [up3_f hf, up3_f hf, up3_f hf, up3_f hf, up3_f hf]
  by_cases h1 : R 20 0 (16 + 8 * p + 7) = 1
  · rw [if_pos h1]
    exact key 0 (by rw [if_pos h1])
  · rw [if_neg h1]
    exact key _ (by rw [if_neg h1])
