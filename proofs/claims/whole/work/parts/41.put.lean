/-- SHEETS alone are written -/
theorem Rel_she {C C' R R' : Mem} (hC : Fr (fun f _ => f = 5 ∨ f = 15) C C') (hR : ∀ f i k, ¬ (f = 28 ∨ f = 29 ∨ f = 30) → R' f i k = R f i k) (hS : RelS C' R') (h : Rel C R) : Rel C' R' := by
  obtain ⟨hD, hK, hI, hE, hV, -⟩ := h
  have d : ∀ {b : Nat} {D D' : Nat → Int32}, (∀ k, D' k = D k) → RelD b C D → RelD b C' D' := fun e h => RelD_cg (fun k _ _ => hC 1 _ k (by omega)) (fun p _ k => hC 3 _ k (by omega)) (fun k _ => hC 10 _ k (by omega)) (fun k _ => hC 11 _ k (by omega)) (fun u _ => hC 2 _ _ (by omega)) (fun u _ k _ => hC 13 _ _ (by omega)) (fun k _ => e k) h
  have kk : ∀ {b : Nat} {D D' : Nat → Int32}, (∀ k, D' k = D k) → RelK b C D → RelK b C' D' := fun e h => RelK_cg (fun k _ _ => hC 0 _ k (by omega)) (fun k _ => hC 8 _ k (by omega)) (fun k _ => hC 9 _ k (by omega)) (fun k _ => e k) h
  have e7 : C' 7 0 9 = C 7 0 9 := hC 7 0 9 (by omega)
  refine ⟨d (fun k => hR 20 0 k (by omega)) hD, kk (fun k => hR 20 0 k (by omega)) hK, ⟨by rw [e7, hR 19 0 3 (by omega)]; exact hI.1, fun hn => ?_⟩, fun k h1 h2 => ?_, ?_, hS⟩
  · rw [e7] at hn
    obtain ⟨a, b⟩ := hI.2 hn
    exact ⟨d (fun k => hR 21 0 k (by omega)) a, kk (fun k => hR 21 0 k (by omega)) b⟩
  · rw [hC 18 0 k (by omega), hR 23 0 k (by omega)]; exact hE k h1 h2
  · obtain ⟨t, t1, t2, t3, t4⟩ := hV
    refine ⟨t, t1, (hC 6 0 1 (by omega)).trans t2, (hR 19 0 16 (by omega)).trans t3, fun k hk => ?_⟩
    rw [hC 16 0 k (by omega), hR 27 0 k (by omega)]; exact t4 k hk
theorem RelS_put {C R : Mem} {s j : Nat} {v : Int32} (hs : s < 4) (hj : j < 40) (h : RelS C R) : RelS (up3 C 15 s j v) (up3 R 30 0 (40 * s + j) v) := by
  intro s' hs'
  obtain ⟨⟨a, b⟩, ⟨c, c1, c2, c3⟩, d⟩ := h s' hs'
  refine ⟨⟨?_, ?_⟩, ⟨c, c1, ?_, ?_⟩, fun k hk => ?_⟩
  · rw [up3_f (by decide), up3_f (by decide)]; exact a
  · rw [up3_f (by decide)]; exact b
  · rw [up3_f (by decide)]; exact c2
  · rw [up3_f (by decide)]; exact c3
  · by_cases e : s' = s ∧ k = j
    · obtain ⟨rfl, rfl⟩ := e
      rw [up3_eq, up3_eq]
    · rw [show up3 C 15 s j v 15 s' k = C 15 s' k from if_neg (fun x => e ⟨x.2.2, x.2.1⟩), up3_k (by omega)]
      exact d k hk
theorem sh_ix (s j : Nat) : (40 * Int32.ofNat s) + Int32.ofNat j = Int32.ofNat (40 * s + j) := by
  rw [show (40 : Int32) = Int32.ofNat 40 from rfl, i_ofmul, i_ofadd]
theorem eq_put (a1 a2 a3 : Int32) : EqP Rel (X7_put a1 a2 a3) (X8_put a1 a2 a3) := by
  intro C R h
  by_cases c1 : ¬ (0 ≤ a1.toInt ∧ a1.toInt ≤ 3)
  · refine bad 1 (by omega) (by omega) h ?_ ?_
    · unfold X7_put
      rw [if_pos ((sheet7 _).mpr c1)]
      exact bind_some2
    · unfold X8_put
      rw [if_pos ((sheet8 _).mpr c1)]
      exact bind_some2
  replace c1 := Decidable.not_not.mp c1
  obtain ⟨s, hs, rfl⟩ := i_small (n := 4) c1.1 (by omega)
  have ix : (Int32.ofNat s).toNatClampNeg = s := i_ofix (by omega)
  have ibs : ib (Int32.ofNat s) 4 = true := ib_of hs (by omega)
  obtain ⟨⟨b1, b2⟩, ⟨c, k1, k2, k3⟩, d⟩ := h.2.2.2.2.2 s hs
  have hm : X5_isMissing s C = if R 28 0 s = 0 then 1 else 0 := by
    unfold X5_isMissing
    rw [b1]
  by_cases hz : R 28 0 s = 0
  · refine bad 2 (by omega) (by omega) h ?_ ?_
    · unfold X7_put; rw [if_neg (by rw [sheet7]; exact not_not_intro c1)]
      rw [if_pos ibs, ix, hm, if_pos hz, if_neg (by decide)]
      exact bind_some2
    · unfold X8_put; rw [if_neg (by rw [sheet8]; exact not_not_intro c1)]
      rw [if_pos ibs, ix, if_pos hz]
      exact bind_some2
  · by_cases c2 : ¬ (0 ≤ a2.toInt ∧ a2.toInt < c)
    · refine bad 1 (by omega) (by omega) h ?_ ?_
      · unfold X7_put; rw [if_neg (by rw [sheet7]; exact not_not_intro c1)]
        rw [if_pos ibs, ix, hm, if_neg hz, if_pos (by decide)]
        by_cases hn : a2 < 0
        · rw [if_pos hn]; exact bind_some2
        · rw [if_neg hn, k2, if_neg ?_]
          · exact bind_some2
          · rw [i_lt, i_z] at hn
            rw [i_lt, i_of (by omega)]
            omega
      · unfold X8_put; rw [if_neg (by rw [sheet8]; exact not_not_intro c1)]
        rw [if_pos ibs, ix, if_neg hz, k3, if_pos (by rw [in8, to64, to64, i_pred (by omega), show (0 : Int64).toInt = 0 from rfl]; omega)]
        exact bind_some2
    · replace c2 := Decidable.not_not.mp c2
      obtain ⟨j, hj, rfl⟩ := i_small (n := c) c2.1 (by omega)
      have jx : (Int32.ofNat j).toNatClampNeg = j := i_ofix (by omega)
      have e7 : X7_put (Int32.ofNat s) (Int32.ofNat j) a3 C = some (1, up3 C 15 s j (X5_lowestBits s a3 C)) := by
        unfold X7_put; rw [if_neg (by rw [sheet7]; exact not_not_intro c1)]
        rw [if_pos ibs, ix, hm, if_neg hz, if_pos (by decide), if_neg (by rw [i_lt, i_z]; omega), k2, if_pos (by rw [i_lt, i_of (by omega), i_of (by omega)]; omega), if_pos (ib_of (by omega) (by omega)), jx]
      have e8 : X8_put (Int32.ofNat s) (Int32.ofNat j) a3 R = some (1, up3 R 30 0 (40 * s + j) (X5_lowestBits s a3 C)) := by
        unfold X8_put; rw [if_neg (by rw [sheet8]; exact not_not_intro c1)]
        rw [if_pos ibs, ix, if_neg hz, k3, if_neg (by rw [in8, to64, to64, i_pred (by omega), show (0 : Int64).toInt = 0 from rfl]; omega), sh_ix, i_ofix (by omega)]
        have hib : ib (Int32.ofNat (40 * s + j)) 160 = true := ib_of (by omega) (by omega)
        unfold X5_lowestBits
        rw [b1]
        by_cases h8 : R 28 0 s = 8
        · rw [if_pos h8, if_pos h8, if_pos hib]
        · rw [if_neg h8, if_neg h8]
          by_cases h16 : R 28 0 s = 16
          · rw [if_pos h16, if_pos h16, if_pos hib]
          · rw [if_neg h16, if_neg h16, if_pos hib]
      exact ⟨_, _, _, e7, e8, Rel_she (Fr.up (Or.inr rfl)) (fun f i k hf => up3_f (by omega)) (RelS_put hs (by omega) h.2.2.2.2.2) h⟩
