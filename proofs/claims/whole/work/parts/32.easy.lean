def NOW (f i : Nat) : Prop := (f = 1 ∧ i = 0) ∨ (f = 3 ∧ i < 10) ∨ ((f = 10 ∨ f = 11) ∧ i = 0) ∨ ((f = 2 ∨ f = 13) ∧ i < 2)
def DSK (f i : Nat) : Prop := (f = 0 ∨ f = 8 ∨ f = 9) ∧ i = 0
/-- cells that are neither of now's District nor of the Desk's stay: what lies in the IMAGE and beside stays -/
theorem Rel_rest {C C' R R' : Mem} (hC : Fr (fun f i => NOW f i ∨ DSK f i) C C') (hR : ∀ f i k, ¬ f = 20 → R' f i k = R f i k) (hD : RelD 0 C' (R' 20 0)) (hK : RelK 0 C' (R' 20 0)) (h : Rel C R) : Rel C' R' := by
  obtain ⟨-, -, hI, hE, hV, hS⟩ := h
  have c : ∀ f i k, ¬ (NOW f i ∨ DSK f i) → C' f i k = C f i k := hC
  have e7 : C' 7 0 9 = C 7 0 9 := c 7 0 9 (by unfold NOW DSK; omega)
  refine ⟨hD, hK, ⟨by rw [e7, hR 19 0 3 (by decide)]; exact hI.1, fun hn => ?_⟩, fun k h1 h2 => ?_, ?_, fun s hs => ?_⟩
  · rw [e7] at hn
    obtain ⟨a, b⟩ := hI.2 hn
    refine ⟨RelD_cg (fun k _ _ => c 1 2 k (by unfold NOW DSK; omega)) (fun p hp k => c 3 _ k (by unfold NOW DSK; omega)) (fun k _ => c 10 2 k (by unfold NOW DSK; omega)) (fun k _ => c 11 2 k (by unfold NOW DSK; omega)) (fun u hu => c 2 _ _ (by unfold NOW DSK; omega)) (fun u hu k _ => c 13 _ _ (by unfold NOW DSK; omega)) (fun k _ => hR 21 0 k (by decide)) a, RelK_cg (fun k _ _ => c 0 1 k (by unfold NOW DSK; omega)) (fun k _ => c 8 1 k (by unfold NOW DSK; omega)) (fun k _ => c 9 1 k (by unfold NOW DSK; omega)) (fun k _ => hR 21 0 k (by decide)) b⟩
  · rw [c 18 0 k (by unfold NOW DSK; omega), hR 23 0 k (by decide)]; exact hE k h1 h2
  · obtain ⟨t, t1, t2, t3, t4⟩ := hV
    refine ⟨t, t1, (c 6 0 1 (by unfold NOW DSK; omega)).trans t2, (hR 19 0 16 (by decide)).trans t3, fun k hk => ?_⟩
    rw [c 16 0 k (by unfold NOW DSK; omega), hR 27 0 k (by decide)]; exact t4 k hk
  · obtain ⟨⟨a, b⟩, ⟨n, c1, c2, c3⟩, d⟩ := hS s hs
    refine ⟨⟨?_, ?_⟩, ⟨n, c1, (c 5 s 2 (by unfold NOW DSK; omega)).trans c2, (hR 29 0 s (by decide)).trans c3⟩, fun k hk => ?_⟩
    · rw [c 5 s 1 (by unfold NOW DSK; omega), hR 28 0 s (by decide)]; exact a
    · rw [c 5 s 1 (by unfold NOW DSK; omega)]; exact b
    · rw [c 15 s k (by unfold NOW DSK; omega), hR 30 0 _ (by decide)]; exact d k hk
/-- one number of now's District and one of the row are written -/
theorem Rel_now1 {C R : Mem} {f i k j : Nat} {v w : Int32} (hS : NOW f i) (hj : supD j) (hD : RelD 0 (up3 C f i k v) (upD (R 20 0) j w)) (h : Rel C R) : Rel (up3 C f i k v) (up3 R 20 0 j w) := by
  refine Rel_rest (Fr.up (Or.inl hS)) (fun f' i' k' hf => up3_f hf) (by rw [up_row]; exact hD) ?_ h
  rw [up_row]
  refine RelK_row (by unfold supD at hj; unfold supK; omega) (RelK_f ?_ h.2.1)
  unfold NOW at hS
  omega
theorem Rel_dsk1 {C R : Mem} {f i k j : Nat} {v w : Int32} (hS : DSK f i) (hj : supK j) (hK : RelK 0 (up3 C f i k v) (upD (R 20 0) j w)) (h : Rel C R) : Rel (up3 C f i k v) (up3 R 20 0 j w) := by
  refine Rel_rest (Fr.up (Or.inr hS)) (fun f' i' k' hf => up3_f hf) ?_ (by rw [up_row]; exact hK) h
  rw [up_row]
  refine RelD_row (by unfold supK at hj; unfold supD; omega) (RelD_f ?_ h.1)
  unfold DSK at hS
  omega
-- seed
theorem eq_seed (a1 : Int32) : EqP Rel (X7_seed a1) (X8_seed a1) := by
  intro C R h
  refine ⟨C 0 0 4, up3 C 0 0 4 a1, up3 R 20 0 3 a1, rfl, ?_, ?_⟩
  · show some (R 20 0 3, _) = _
    rw [← h.2.1.1]
  · refine Rel_dsk1 ⟨Or.inl rfl, rfl⟩ (by unfold supK; omega) ?_ h
    obtain ⟨-, -, k1, ⟨t, t1, t2, t3, t4⟩, w, w1, w2, w3, w4⟩ := (show Rel C R ∧ True ∧ RelK 0 C (R 20 0) from ⟨h, trivial, h.2.1⟩)
    refine ⟨?_, ⟨t, t1, (up3_k (by decide)).trans t2, (upD_ne (by decide)).trans t3, fun k hk => ?_⟩, w, w1, (up3_k (by decide)).trans w2, (upD_ne (by decide)).trans w3, fun k hk => ?_⟩
    · rw [up3_eq, upD_eq]
    · rw [up3_f (by decide), upD_ne (by omega)]; exact t4 k hk
    · rw [up3_f (by decide), upD_ne (by omega)]; exact w4 k hk
-- told
theorem eq_told (a1 : Int32) : EqP Rel (X7_told a1) (X8_told a1) := by
  intro C R h
  by_cases hc : 1 ≤ a1.toInt ∧ a1.toInt ≤ 5
  · obtain ⟨n, hn⟩ : ∃ n : Nat, a1.toInt = n := ⟨a1.toInt.toNat, by omega⟩
    obtain rfl := i_case hn
    rw [hn] at hc
    have hh : n = 1 ∨ n = 2 ∨ n = 3 ∨ n = 4 ∨ n = 5 := by omega
    refine ⟨C 18 0 n, C, R, ?_, ?_, h⟩
    · rcases hh with rfl | rfl | rfl | rfl | rfl <;> rfl
    · rw [h.2.2.2.1 n (by omega) (by omega)]
      rcases hh with rfl | rfl | rfl | rfl | rfl <;> rfl
  · refine EqP.of (err_eq (k := 1) (by omega) (by omega)) (fun C => ?_) (fun R => ?_) C R h
    · unfold X7_told
      by_cases h1 : a1 < 1
      · rw [if_pos h1]; exact bind_some2
      · rw [if_neg h1]
        by_cases h2 : 5 < a1
        · rw [if_pos h2]; exact bind_some2
        · rw [i_lt, show (1 : Int32).toInt = 1 from rfl] at h1
          rw [i_lt, show (5 : Int32).toInt = 5 from rfl] at h2
          exact absurd ⟨by omega, by omega⟩ hc
    · unfold X8_told
      rw [if_pos ((in8i (lo := 1) (hi := 5) a1 rfl rfl).mpr hc)]
      exact bind_some2
-- house
theorem eq_house (a1 a2 a3 : Int32) : EqP Rel (X7_house a1 a2 a3) (X8_house a1 a2 a3) := by
  intro C R h
  have hE := err_eq (k := 1) (by omega) (by omega)
  by_cases c1 : 0 ≤ a1.toInt ∧ a1.toInt ≤ 4
  · by_cases c2 : 0 ≤ a2.toInt ∧ a2.toInt ≤ 1
    · by_cases c3 : 0 ≤ a3.toInt ∧ a3.toInt ≤ 9
      · obtain ⟨x, hx⟩ : ∃ n : Nat, a1.toInt = n := ⟨a1.toInt.toNat, by omega⟩
        obtain ⟨y, hy⟩ : ∃ n : Nat, a2.toInt = n := ⟨a2.toInt.toNat, by omega⟩
        obtain rfl := i_case hx
        obtain rfl := i_case hy
        rw [hx] at c1
        rw [hy] at c2
        have e3 : ¬ X7_isWithin a3 9 = 0 := by rw [isWithin7]; exact not_not_intro c3
        have e3' : ¬ X8_in (a3.toInt64) (0 : Int64) (9 : Int64) = 0 := by rw [in8i a3 rfl rfl]; exact not_not_intro c3
        have fin : ∀ p q : Nat, p < 5 → q < 2 → X7_house (Int32.ofNat p) (Int32.ofNat q) a3 C = some (C (10 + q) 0 p, up3 C (10 + q) 0 p a3) → X8_house (Int32.ofNat p) (Int32.ofNat q) a3 R = some (R 20 0 (6 + 2 * p + q), up3 R 20 0 (6 + 2 * p + q) a3) → ∃ (res : Int32) (C' R' : Mem), X7_house (Int32.ofNat p) (Int32.ofNat q) a3 C = some (res, C') ∧ X8_house (Int32.ofNat p) (Int32.ofNat q) a3 R = some (res, R') ∧ Rel C' R' := by
          intro p q hp hq e1 e2
          have hv : C (10 + q) 0 p = R 20 0 (6 + 2 * p + q) := by
            obtain ⟨_, _, _, _, _, _, _, _, n8, _⟩ := h.1
            obtain ⟨q1, q2, -, -⟩ := n8 p hp
            rcases (show q = 0 ∨ q = 1 by omega) with rfl | rfl
            · exact q1
            · exact q2
          refine ⟨_, _, _, e1, by rw [hv]; exact e2, Rel_now1 ?_ (by unfold supD; omega) (RelD_house hp hq c3 h.1) h⟩
          unfold NOW; omega
        have hxy : x < 5 ∧ y < 2 := by omega
        refine fin x y hxy.1 hxy.2 ?_ ?_
        · rcases (show x = 0 ∨ x = 1 ∨ x = 2 ∨ x = 3 ∨ x = 4 by omega) with rfl | rfl | rfl | rfl | rfl <;> rcases (show y = 0 ∨ y = 1 by omega) with rfl | rfl <;> (unfold X7_house; rw [if_neg (by decide), if_neg (by decide), if_neg e3]; rfl)
        · rcases (show x = 0 ∨ x = 1 ∨ x = 2 ∨ x = 3 ∨ x = 4 by omega) with rfl | rfl | rfl | rfl | rfl <;> rcases (show y = 0 ∨ y = 1 by omega) with rfl | rfl <;> (unfold X8_house; rw [if_neg (by decide), if_neg (by decide), if_neg e3']; rfl)
      · refine EqP.of hE (fun C => ?_) (fun R => ?_) C R h
        · unfold X7_house
          rw [if_neg (by rw [isHouse7]; exact not_not_intro c1), if_neg (by rw [isWithin7]; exact not_not_intro c2), if_pos ((isWithin7 _ _).mpr c3)]
          exact bind_some2
        · unfold X8_house
          rw [if_neg (by rw [isHouse8]; exact not_not_intro c1), if_neg (by rw [in8i a2 rfl rfl]; exact not_not_intro c2), if_pos ((in8i (lo := 0) (hi := 9) a3 rfl rfl).mpr c3)]
          exact bind_some2
    · refine EqP.of hE (fun C => ?_) (fun R => ?_) C R h
      · unfold X7_house
        rw [if_neg (by rw [isHouse7]; exact not_not_intro c1), if_pos ((isWithin7 _ _).mpr c2)]
        exact bind_some2
      · unfold X8_house
        rw [if_neg (by rw [isHouse8]; exact not_not_intro c1), if_pos ((in8i (lo := 0) (hi := 1) a2 rfl rfl).mpr c2)]
        exact bind_some2
  · refine EqP.of hE (fun C => ?_) (fun R => ?_) C R h
    · unfold X7_house
      rw [if_pos ((isHouse7 _).mpr c1)]
      exact bind_some2
    · unfold X8_house
      rw [if_pos ((isHouse8 _).mpr c1)]
      exact bind_some2
