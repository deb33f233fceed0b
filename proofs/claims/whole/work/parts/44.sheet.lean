theorem lay7 {C : Mem} {s : Nat} {v c : Int32} : X5_lay s v c C = some (zr (up3 (up3 C 5 s 1 v) 5 s 2 c) 15 s 0 40) := by
  have e : J7_fill_53178_L5 400 s 0 0 40 (up3 (up3 C 5 s 1 v) 5 s 2 c) = _ := fill7 s 40 0 rfl 400 _ (by omega)
  unfold X5_lay J7_fill_53178
  rw [e]
  rfl
theorem lay8 {R : Mem} {s : Nat} {v c : Int32} (hs : s < 4) : X8_sheet_J86 (Int32.ofNat s) c (Int32.ofNat s) (up3 R 28 0 s v) = some (1, zr (up3 (up3 R 28 0 s v) 29 0 s c) 30 0 (40 * s + 0) (40 * s + 40)) := by
  have e : X8_sheet_L90 400 (Int32.ofNat s) 0 (up3 (up3 R 28 0 s v) 29 0 s c) = _ := zero8 hs 40 0 rfl 400 _ (by omega)
  unfold X8_sheet_J86
  rw [if_pos (ib_of hs (by omega)), i_ofix (by omega), e]
  rfl
theorem lay_fin {C R : Mem} {s c : Nat} {v : Int32} (hs : s < 4) (hc : c ≤ 40) (hv : v = 0 ∨ v = 8 ∨ v = 16 ∨ v = 32) (h : Rel C R) : Rel (zr (up3 (up3 C 5 s 1 v) 5 s 2 (Int32.ofNat c)) 15 s 0 40) (zr (up3 (up3 R 28 0 s v) 29 0 s (Int32.ofNat c)) 30 0 (40 * s + 0) (40 * s + 40)) := by
  have zf : ∀ {M : Mem} {f s a b f' i' j : Nat}, ¬ f' = f → zr M f s a b f' i' j = M f' i' j := fun hn => if_neg (fun e => hn e.1)
  refine Rel_she (fun f i k hf => ?_) (fun f i k hf => ?_) (RelS_lay hs hc hv h.2.2.2.2.2) h
  · rw [zf (by omega), up3_f (by omega), up3_f (by omega)]
  · rw [zf (by omega), up3_f (by omega), up3_f (by omega)]
theorem eq_sheet (a1 a2 a3 : Int32) : EqP Rel (X7_sheet a1 a2 a3) (X8_sheet a1 a2 a3) := by
  intro C R h
  by_cases c1 : ¬ (0 ≤ a1.toInt ∧ a1.toInt ≤ 3)
  · refine bad 1 (by omega) (by omega) h ?_ ?_
    · unfold X7_sheet
      rw [if_pos ((sheet7 _).mpr c1)]
      exact bind_some2
    · unfold X8_sheet
      rw [if_pos ((sheet8 _).mpr c1)]
      exact bind_some2
  replace c1 := Decidable.not_not.mp c1
  obtain ⟨s, hs, rfl⟩ := i_small (n := 4) c1.1 (by omega)
  have ix : (Int32.ofNat s).toNatClampNeg = s := i_ofix (by omega)
  have ibs : ib (Int32.ofNat s) 4 = true := ib_of hs (by omega)
  by_cases hb : ¬ (a2 = 0 ∨ a2 = 8 ∨ a2 = 16 ∨ a2 = 32)
  · refine bad 1 (by omega) (by omega) h ?_ ?_
    · unfold X7_sheet; rw [if_neg (by rw [sheet7]; exact not_not_intro c1)]
      rw [if_neg (fun e => hb (Or.inl e)), if_neg (fun e => hb (Or.inr (Or.inl e))), if_neg (fun e => hb (Or.inr (Or.inr (Or.inl e)))), if_neg (fun e => hb (Or.inr (Or.inr (Or.inr e))))]
      exact bind_some2
    · unfold X8_sheet; rw [if_neg (by rw [sheet8]; exact not_not_intro c1)]
      rw [if_neg (fun e => hb (Or.inl e)), if_neg (fun e => hb (Or.inr (Or.inl e))), if_neg (fun e => hb (Or.inr (Or.inr (Or.inl e)))), if_neg (fun e => hb (Or.inr (Or.inr (Or.inr e))))]
      exact bind_some2
  replace hb := Decidable.not_not.mp hb
  have j7 : X7_sheet (Int32.ofNat s) a2 a3 C = X7_sheet_J35 (Int32.ofNat s) a2 a3 C := by
    unfold X7_sheet; rw [if_neg (by rw [sheet7]; exact not_not_intro c1)]
    rcases hb with rfl | rfl | rfl | rfl <;> rfl
  have j8 : X8_sheet (Int32.ofNat s) a2 a3 R = X8_sheet_J35 (Int32.ofNat s) a2 a3 R := by
    unfold X8_sheet; rw [if_neg (by rw [sheet8]; exact not_not_intro c1)]
    rcases hb with rfl | rfl | rfl | rfl <;> rfl
  rw [j7, j8]
  unfold X7_sheet_J35 X8_sheet_J35
  by_cases hz : a2 = 0
  · rw [if_pos hz, if_pos hz, if_pos ibs, ix, lay7]
    refine ⟨1, _, _, rfl, ?_, lay_fin (c := 0) hs (by omega) (Or.inl rfl) h⟩
    unfold X8_sheet_J49 X8_sheet_J65
    rw [if_pos hz, if_pos ibs, if_pos hz, ix, hz]
    exact lay8 hs
  · rw [if_neg hz, if_neg hz]
    by_cases h3 : a3 < 0
    · rw [if_pos h3, if_pos h3]
      rw [bind_some2, bind_some2]
      exact err_eq (k := 3) (by omega) (by omega) C R h
    · rw [if_neg h3, if_neg h3]
      unfold X8_sheet_J49
      rw [if_neg hz]
      by_cases h4 : 40 < a3
      · rw [if_pos h4, if_pos h4, bind_some2, bind_some2]
        exact err_eq (k := 1) (by omega) (by omega) C R h
      · rw [if_neg h4, if_neg h4, if_pos ibs, ix, lay7]
        rw [i_lt, i_z] at h3
        rw [i_lt, show (40 : Int32).toInt = 40 from rfl] at h4
        obtain ⟨c, hc, rfl⟩ := i_small (x := a3) (n := 41) (by omega) (by omega)
        refine ⟨1, _, _, rfl, ?_, lay_fin hs (by omega) hb h⟩
        unfold X8_sheet_J65
        rw [if_pos ibs, if_neg hz, ix]
        exact lay8 hs
