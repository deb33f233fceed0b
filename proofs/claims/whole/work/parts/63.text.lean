theorem text_L {u l : Nat} (hu : u < 2) (hl : l ≤ 50) : ∀ (m k fu : Nat) (M : Mem), k + m = l → m < fu → M 19 0 13 = Int32.ofNat l → X8_text_L69 fu (Int32.ofNat u) (Int32.ofNat k) M = some (cp3 M 25 0 k 20 0 (118 + 50 * u + k) m) := by
  intro m
  induction m with
  | zero =>
    intro k fu M hk hf e
    obtain ⟨fu, rfl⟩ : ∃ g, fu = g + 1 := ⟨fu - 1, by omega⟩
    rw [X8_text_L69, e, if_neg (by rw [i_ltn (by omega) (by omega)]; omega), cp_none2]
  | succ m ih =>
    intro k fu M hk hf e
    obtain ⟨fu, rfl⟩ : ∃ g, fu = g + 1 := ⟨fu - 1, by omega⟩
    rw [X8_text_L69, e, if_pos (by rw [i_ltn (by omega) (by omega)]; omega), show (118 : Int32) = Int32.ofNat 118 from rfl, show (50 : Int32) = Int32.ofNat 50 from rfl, i_ofmul, i_ofadd, i_ofadd, if_pos (ib_of (k := k) (n := 60) (by omega) (by omega)), if_pos (ib_of (k := 118 + 50 * u + k) (n := 268) (by omega) (by omega)), i_ofix (n := k) (by omega), i_ofix (n := 118 + 50 * u + k) (by omega), i_succ, ih (k + 1) fu _ (by omega) (by omega) (by rw [up3_f (by decide)]; exact e), show 118 + 50 * u + (k + 1) = 118 + 50 * u + k + 1 by omega, cp_step2 (by decide)]
/-- what text() may write, of the class -/
def TX (f i : Nat) : Prop := f = 4 ∨ ((f = 2 ∨ f = 13) ∧ (i = 6 ∨ i < 2)) ∨ (f = 0 ∧ i = 0) ∨ (f = 8 ∧ i = 2)
/-- what is laid ahead of the reading -/
def BB (f i : Nat) : Prop := f = 4 ∨ (f = 8 ∧ i = 2)
theorem mny : ∀ n, n < 51 → jmax 0 (jmin (Int32.ofNat n) (jmin 50 50)) = Int32.ofNat n ∧ cpok (0 : Int32) (0 : Int32) (Int32.ofNat n) 50 50 = true := by decide +kernel
theorem Rel_text {C C' R R' : Mem} (hC : Fr TX C C') (hR : ∀ f i k, ¬ (f = 20 ∨ f = 25 ∨ (f = 19 ∧ 5 ≤ k ∧ k ≤ 13)) → R' f i k = R f i k) (hD : RelD 0 C' (R' 20 0)) (hK : RelK 0 C' (R' 20 0)) (h : Rel C R) : Rel C' R' := by
  obtain ⟨-, -, hI, hE, hV, hS⟩ := h
  have e7 : C' 7 0 9 = C 7 0 9 := hC 7 0 9 (by unfold TX; omega)
  refine ⟨hD, hK, ⟨by rw [e7, hR 19 0 3 (by omega)]; exact hI.1, fun hn => ?_⟩, fun k h1 h2 => ?_, ?_, fun s hs => ?_⟩
  · rw [e7] at hn
    obtain ⟨a, b⟩ := hI.2 hn
    exact ⟨RelD_fr hC (fun f i hh => by unfold TX; omega) (fun k _ => hR 21 0 k (by omega)) a, RelK_fr hC (fun f i hh => by unfold TX; omega) (fun k _ => hR 21 0 k (by omega)) b⟩
  · rw [hC 18 0 k (by unfold TX; omega), hR 23 0 k (by omega)]; exact hE k h1 h2
  · obtain ⟨t, t1, t2, t3, t4⟩ := hV
    refine ⟨t, t1, (hC 6 0 1 (by unfold TX; omega)).trans t2, (hR 19 0 16 (by omega)).trans t3, fun k hk => ?_⟩
    rw [hC 16 0 k (by unfold TX; omega), hR 27 0 k (by omega)]; exact t4 k hk
  · obtain ⟨⟨a, b⟩, ⟨n, c1, c2, c3⟩, d⟩ := hS s hs
    refine ⟨⟨?_, ?_⟩, ⟨n, c1, (hC 5 s 2 (by unfold TX; omega)).trans c2, (hR 29 0 s (by omega)).trans c3⟩, fun k hk => ?_⟩
    · rw [hC 5 s 1 (by unfold TX; omega), hR 28 0 s (by omega)]; exact a
    · rw [hC 5 s 1 (by unfold TX; omega)]; exact b
    · rw [hC 15 s k (by unfold TX; omega), hR 30 0 _ (by omega)]; exact d k hk
/-- THE TAPE is empty then -/
theorem RelK_empty {C C' : Mem} {D D' : Nat → Int32} (h0 : C' 0 0 2 = 0) (h3 : C' 0 0 3 = C 0 0 3) (h4 : C' 0 0 4 = C 0 0 4) (h9 : ∀ k, C' 9 0 k = C 9 0 k) (d4 : D' 4 = 0) (hd : ∀ k, ¬ k = 4 → k < 118 → ¬ (96 ≤ k ∧ k < 98) → D' k = D k) (h : RelK 0 C D) : RelK 0 C' D' := by
  obtain ⟨k1, ⟨t, t1, t2, t3, t4⟩, w, w1, w2, w3, w4⟩ := h
  refine ⟨?_, ⟨0, by omega, h0, d4, fun k hk => absurd hk (Nat.not_lt_zero k)⟩, w, w1, h3.trans w2, (hd 5 (by omega) (by omega) (by omega)).trans w3, fun k hk => ?_⟩
  · rw [h4, hd 3 (by omega) (by omega) (by omega)]; exact k1
  · rw [h9, hd (98 + k) (by omega) (by omega) (by omega)]; exact w4 k hk
theorem eq_text (a1 : Int32) : EqP Rel (X7_text a1) (X8_text a1) := by
  intro C R h
  by_cases c1 : ¬ (0 ≤ a1.toInt ∧ a1.toInt ≤ 1)
  · refine bad 1 (by omega) (by omega) h ?_ ?_
    · unfold X7_text
      rw [if_pos ((is7_1 _).mpr c1)]
      exact bind_some2
    · unfold X8_text
      rw [if_pos ((in8_0_1 _).mpr c1)]
      exact bind_some2
  replace c1 := Decidable.not_not.mp c1
  obtain ⟨u, hu, rfl⟩ := i_small (n := 2) c1.1 (by omega)
  obtain ⟨-, ⟨T, t1, t2, t3, t4⟩, -⟩ := id h.2.1
  obtain ⟨B, eB⟩ : ∃ B, B = cp3 (up3 C 4 0 2 (Int32.ofNat T)) 8 0 0 8 2 0 T := ⟨_, rfl⟩
  obtain ⟨C1, eC⟩ : ∃ C1, C1 = up3 (up3 (up3 B 4 0 3 (Int32.ofNat u)) 4 0 4 0) 2 6 2 0 := ⟨_, rfl⟩
  have hB : Fr BB C B := by
    rw [eB]
    exact (Fr.up (show BB 4 0 from Or.inl rfl)).tr (Fr.cp (show BB 8 2 from Or.inr ⟨rfl, rfl⟩))
  have B4 : B 4 0 2 = Int32.ofNat T := by rw [eB, cp3_f (by decide), up3_eq]
  have B8 : ∀ k, k < T → B 8 2 k = C 8 0 k := fun k hk => by
    rw [eB, show cp3 (up3 C 4 0 2 (Int32.ofNat T)) 8 0 0 8 2 0 T 8 2 k = up3 C 4 0 2 (Int32.ofNat T) 8 0 (0 + (k - 0)) from if_pos ⟨rfl, rfl, by omega, by omega⟩, up3_f (by decide), show 0 + (k - 0) = k by omega]
  obtain ⟨R0, eR0⟩ : ∃ R0, R0 = up3 R 20 0 4 0 := ⟨_, rfl⟩
  obtain ⟨R1, eR⟩ : ∃ R1, R1 = up3 (up3 (up3 (up3 (up3 (up3 (up3 R0 19 0 5 218) 19 0 6 0) 19 0 7 (Int32.ofNat T)) 19 0 8 (-1)) 19 0 9 0) 19 0 13 0) 19 0 10 (Int32.ofNat u) := ⟨_, rfl⟩
  have r0 : ∀ k, ¬ k = 4 → R0 20 0 k = R 20 0 k := fun k hk => by rw [eR0, up3_k hk]
  have ht : TP B R0 T := ⟨t1, B4, fun k hk => by rw [r0 _ (by omega), B8 k hk]; exact t4 k hk⟩
  have hz : nbZ (Int32.ofNat u) = Int32.ofNat u := nbZ_of ⟨by rw [i_of (by omega)]; omega, by rw [i_of (by omega)]; omega⟩
  have hp : PR B R0 T u 0 0 0 0 0 C1 R1 := by
    rw [eC, eR]
    refine ⟨by omega, by omega, ?_, ?_, ?_, ?_, ?_, fun k hk => absurd hk (Nat.not_lt_zero k), rfl, ?_, ?_, ?_, ?_, ?_, ?_, ?_⟩
    · rw [up3_f (by decide), up3_eq]
      rfl
    · rw [up3_k (by decide), up3_k (by decide), up3_k (by decide), up3_k (by decide), up3_k (by decide), up3_eq]
      rfl
    · rw [up3_k (by decide), up3_k (by decide), up3_k (by decide), up3_eq]
    · rw [up3_eq]
      rfl
    · rw [up3_k (by decide), up3_eq]
      rfl
    · rw [up3_k (by decide), up3_k (by decide), up3_eq]
      rfl
    · rw [up3_f (by decide), up3_k (by decide), up3_eq]
    · rw [up3_k (by decide), up3_k (by decide), up3_k (by decide), up3_k (by decide), up3_k (by decide), up3_k (by decide), up3_eq]
    · rw [up3_k (by decide), up3_k (by decide), up3_k (by decide), up3_k (by decide), up3_eq]
    · rw [up3_eq]; exact hz
    · exact ((FrC.up (by unfold RD; omega)).tr (FrC.up (by unfold RD; omega))).tr (FrC.up (by unfold RD; omega))
    · exact ((((((FrP.up (by omega)).tr (FrP.up (by omega))).tr (FrP.up (by omega))).tr (FrP.up (by omega))).tr (FrP.up (by omega))).tr (FrP.up (by omega))).tr (FrP.up (by omega))
  obtain ⟨r, C2, R2, g1, g2, g3⟩ := (levels ht hu 5 0 rfl).2 100 100 (by omega) (by omega) 0 0 0 0 C1 R1 hp
  have g1' : X4_readLevelC 0 0 C1 = some (r, C2) := g1
  have g2' : X8_eitherC R1 = some R2 := g2
  have s7 : X7_text (Int32.ofNat u) C = (if r = 0 then (some (0, C2)) else (if (C2 4 0 4) = (C2 4 0 2) then (some (1, C2)) else (some (0, C2)))).bind fun (q1 : Int32 × Mem) => (if q1.1 = 0 then (some (((-10) - (q1.2 4 0 4)), (up3 q1.2 0 0 2 0))) else (if (X1_lawOf 0 (Int32.ofNat u) (up3 q1.2 0 0 2 0)) < 7 then ((X2_copy (X1_lawOf 0 (Int32.ofNat u) (up3 q1.2 0 0 2 0)) 6 (up3 q1.2 0 0 2 0)).bind fun q3 => (some (1, q3))) else none)) := by
    unfold X7_text; rw [if_neg (by rw [is7_1]; exact not_not_intro c1)]
    unfold X4_readTape X2_clear
    rw [t2, (mny T (by omega)).1, if_pos (mny T (by omega)).2, i_ofix (by omega), ← eB, bs, ← eC, g1', bs]
  have s8 : X8_text (Int32.ofNat u) R = ((if (R2 19 0 8) < 0 then (if (R2 19 0 6) < (R2 19 0 7) then ((X8_wrong R2).bind fun q2 => (some q2)) else (some R2)) else (some R2))).bind fun (q1 : Mem) => (if (q1 19 0 8) < 0 then (if ib (96 + Int32.ofNat u) 268 = true then ((X8_text_L69 400 (Int32.ofNat u) 0 (up3 q1 20 0 ((96 + Int32.ofNat u).toNatClampNeg) (q1 19 0 13))).bind fun q5 => (some (1, q5))) else none) else (some (((-10) - (q1 19 0 8)), q1))) := by
    have er : X8_reads 218 (Int32.ofNat T) (Int32.ofNat u) R0 = ((X8_eitherC R1).bind fun q3 => (if (q3 19 0 8) < 0 then (if (q3 19 0 6) < (q3 19 0 7) then ((X8_wrong q3).bind fun q4 => (some q4)) else (some q3)) else (some q3))) := by
      rw [eR]
      rcases (show u = 0 ∨ u = 1 by omega) with rfl | rfl <;> rfl
    unfold X8_text; rw [if_neg (by rw [in8_0_1]; exact not_not_intro c1)]
    rw [t3, ← eR0, er, g2', bs]
  rw [s7, s8]
  -- a FAULT
  have fault : ∀ {R3 : Mem}, FL B R0 C2 R3 → ∃ (res : Int32) (C' R' : Mem), some (-10 - (C2 4 0 4), up3 C2 0 0 2 0) = some (res, C') ∧ some (-10 - (R3 19 0 8), R3) = some (res, R') ∧ Rel C' R' := by
    intro R3 hf
    obtain ⟨f, lf, f1, f2, f3, f4, f5, f6, f7⟩ := hf
    have x20 : ∀ k, R3 20 0 k = R0 20 0 k := fun k => f7 20 0 k (by omega)
    have d4 : R3 20 0 4 = 0 := by rw [x20, eR0, up3_eq]
    have dd : ∀ k, ¬ k = 4 → R3 20 0 k = R 20 0 k := fun k hk => (x20 k).trans (r0 k hk)
    have hq : Fr (fun f i => RD f i ∨ BB f i) C C2 := (hB.mono (fun f i hh => Or.inr hh)).tr (f6.fr (fun f i hh => Or.inl hh))
    have fr : Fr TX C (up3 C2 0 0 2 0) := (hq.mono (fun f i hh => by unfold RD BB at hh; unfold TX; omega)).tr (Fr.up (show TX 0 0 by unfold TX; omega))
    have frD : Fr (fun f i => (RD f i ∨ BB f i) ∨ f = 0) C (up3 C2 0 0 2 0) := (hq.mono (fun f i hh => Or.inl hh)).tr (Fr.up (Or.inr rfl))
    refine ⟨-10 - Int32.ofNat f, up3 C2 0 0 2 0, R3, by rw [f3], by rw [f5], Rel_text fr (fun f i k hn => ?_) ?_ ?_ h⟩
    · rw [f7 f i k (by omega), eR0, up3_f (by omega)]
    · exact RelD_fr frD (fun f i hh => by unfold RD BB; omega) (fun k hk => dd k (by unfold supD at hk; omega)) h.1
    · refine RelK_empty up3_eq ?_ ?_ (fun k => ?_) d4 (fun k a _ _ => dd k a) h.2.1
      · rw [up3_k (by decide)]; exact hq 0 0 3 (by unfold RD BB; omega)
      · rw [up3_k (by decide)]; exact hq 0 0 4 (by unfold RD BB; omega)
      · rw [up3_f (by decide)]; exact hq 9 0 k (by unfold RD BB; omega)
  rcases g3 with ⟨rfl, a, l, b1, b2⟩ | ⟨rfl, b2⟩
  · obtain ⟨h1, h2, h3, h4, h5, h6, h7, h8, h9, h10, h11, h12, h13, h14, h15, h16⟩ := id b2
    have e02 : C2 4 0 2 = Int32.ofNat T := by rw [h15 4 0 2 (by unfold RD; omega)]; exact B4
    have hq : Fr (fun f i => RD f i ∨ BB f i) C C2 := (hB.mono (fun f i hh => Or.inr hh)).tr (h15.fr (fun f i hh => Or.inl hh))
    rw [if_neg (show ¬ (1 : Int32) = 0 by decide), h3, e02, h5, if_pos (show (-1 : Int32) < 0 by decide), h4, h13]
    by_cases haT : a = T
    · -- a TEXT
      subst haT
      rw [if_pos rfl, if_neg (show ¬ Int32.ofNat a < Int32.ofNat a by rw [i_lt]; omega), bs, bs]
      dsimp only
      rw [if_neg (show ¬ (1 : Int32) = 0 by decide), h5, if_pos (show (-1 : Int32) < 0 by decide), show (96 : Int32) = Int32.ofNat 96 from rfl, i_ofadd, if_pos (ib_of (by omega) (by omega)), i_ofix (by omega), h7]
      have lw : ∀ M, X1_lawOf 0 (Int32.ofNat u) M = 2 * 0 + u := fun M => by
        rcases (show u = 0 ∨ u = 1 by omega) with rfl | rfl <;> rfl
      rw [lw, if_pos (by omega)]
      obtain ⟨R4, eR4⟩ : ∃ R4, R4 = cp3 (up3 R2 20 0 (96 + u) (Int32.ofNat l)) 25 0 0 20 0 (118 + 50 * u + 0) l := ⟨_, rfl⟩
      have tl : X8_text_L69 400 (Int32.ofNat u) 0 (up3 R2 20 0 (96 + u) (Int32.ofNat l)) = some R4 := by
        rw [eR4]
        exact text_L (l := l) hu (by omega) l 0 400 _ (by omega) (by omega) (by rw [up3_f (by decide)]; exact h7)
      have q96 : R4 20 0 (96 + u) = Int32.ofNat l := by
        rw [eR4, show cp3 (up3 R2 20 0 (96 + u) (Int32.ofNat l)) 25 0 0 20 0 (118 + 50 * u + 0) l 20 0 (96 + u) = up3 R2 20 0 (96 + u) (Int32.ofNat l) 20 0 (96 + u) from if_neg (by omega), up3_eq]
      have q118 : ∀ k, k < l → R4 20 0 (118 + 50 * u + k) = phi (C2 13 6 k) := fun k hk => by
        rw [eR4, show cp3 (up3 R2 20 0 (96 + u) (Int32.ofNat l)) 25 0 0 20 0 (118 + 50 * u + 0) l 20 0 (118 + 50 * u + k) = up3 R2 20 0 (96 + u) (Int32.ofNat l) 25 0 (0 + (118 + 50 * u + k - (118 + 50 * u + 0))) from if_pos ⟨rfl, rfl, by omega, by omega⟩, up3_f (by decide), show 0 + (118 + 50 * u + k - (118 + 50 * u + 0)) = k by omega]
        exact (h8 k hk).1
      have qo : ∀ k, ¬ k = 4 → ¬ k = 96 + u → (k < 118 + 50 * u ∨ 118 + 50 * u + l ≤ k) → R4 20 0 k = R 20 0 k := fun k k1 k2 k3 => by
        rw [eR4, show cp3 (up3 R2 20 0 (96 + u) (Int32.ofNat l)) 25 0 0 20 0 (118 + 50 * u + 0) l 20 0 k = up3 R2 20 0 (96 + u) (Int32.ofNat l) 20 0 k from if_neg (by omega), up3_k k2, h16 20 0 k (by omega), r0 k k1]
      have q4 : R4 20 0 4 = 0 := by
        rw [eR4, show cp3 (up3 R2 20 0 (96 + u) (Int32.ofNat l)) 25 0 0 20 0 (118 + 50 * u + 0) l 20 0 4 = up3 R2 20 0 (96 + u) (Int32.ofNat l) 20 0 4 from if_neg (by omega), up3_k (by omega), h16 20 0 4 (by omega), eR0, up3_eq]
      have c13 : (up3 C2 0 0 2 0) 13 6 = C2 13 6 := funext fun k => up3_f (by decide)
      have L6 : RelL (up3 C2 0 0 2 0) 6 (R4 20 0) u := by
        refine ⟨l, by omega, (up3_f (by decide)).trans h6, q96, fun k hk => ?_, Or.inr ⟨fun t hh => ?_, ?_⟩⟩
        · rw [c13]; exact q118 k hk
        · rw [c13] at hh
          obtain ⟨k, hk, rfl⟩ := List.mem_map.mp hh
          exact (h8 k (List.mem_range.mp hk)).2
        · rw [c13]; exact h9
      obtain ⟨C4, m1, m2, m3⟩ := law_copy (i := 2 * 0 + u) L6
      refine ⟨1, C4, R4, by rw [m1, bs], by rw [tl, bs], ?_⟩
      have fr : Fr TX C C4 := ((hq.mono (fun f i hh => by unfold RD BB at hh; unfold TX; omega)).tr (Fr.up (show TX 0 0 by unfold TX; omega))).tr (m3.mono (fun f i hh => by unfold TX; omega))
      have fr2 : Fr (fun f i => (RD f i ∨ BB f i) ∨ f = 0 ∨ ((f = 2 ∨ f = 13) ∧ i = 2 * 0 + u)) C C4 := ((hq.mono (fun f i hh => Or.inl hh)).tr (Fr.up (S := fun f i => (RD f i ∨ BB f i) ∨ f = 0 ∨ ((f = 2 ∨ f = 13) ∧ i = 2 * 0 + u)) (Or.inr (Or.inl rfl)))).tr (m3.mono (fun f i hh => Or.inr (Or.inr hh)))
      refine Rel_text fr (fun f i k hn => ?_) ?_ ?_ h
      · rw [eR4, cp3_f (by omega), up3_f (by omega), h16 f i k (by omega), eR0, up3_f (by omega)]
      · obtain ⟨n, n1, n2, n3, n4, n5, n6, n7, n8, n9⟩ := id h.1
        have dl : ∀ k, k < 96 → ¬ k = 4 → R4 20 0 k = R 20 0 k := fun k k1 k2 => qo k k2 (by omega) (by omega)
        refine ⟨n, n1, (fr2 1 0 5 (by unfold RD BB; omega)).trans n2, (dl 0 (by omega) (by omega)).trans n3, fun p hp => ?_, ?_, ?_, ?_, fun q hq => ?_, fun u' hu' => ?_⟩
        · obtain ⟨q1, q2, q3⟩ := n4 p hp
          have e : ∀ k, k < 8 → R4 20 0 (16 + 8 * p + k) = R 20 0 (16 + 8 * p + k) := fun k hk => dl _ (by omega) (by omega)
          refine ⟨fun k hk => ?_, fun k hk => ?_, ?_⟩
          · show rngP k (R4 20 0 (16 + 8 * p + k))
            rw [e k hk]; exact q1 k hk
          · rw [fr2 3 _ k (by unfold RD BB; omega), e k (by omega)]; exact q2 k hk
          · rw [fr2 3 _ 7 (by unfold RD BB; omega), e 7 (by omega)]; exact q3
        · rw [fr2 1 0 6 (by unfold RD BB; omega), dl 1 (by omega) (by omega)]; exact n5
        · rw [fr2 1 0 7 (by unfold RD BB; omega), dl 2 (by omega) (by omega)]; exact n6
        · rw [dl 2 (by omega) (by omega)]; exact n7
        · rw [fr2 10 0 q (by unfold RD BB; omega), fr2 11 0 q (by unfold RD BB; omega), dl _ (by omega) (by omega), dl _ (by omega) (by omega)]; exact n8 q hq
        · by_cases huu : u' = u
          · subst huu; exact m2
          · obtain ⟨l', z1, z2, z3, z4, z5⟩ := n9 u' hu'
            refine ⟨l', z1, (fr2 2 _ 2 (by unfold RD BB; omega)).trans z2, (qo _ (by omega) (by omega) (by omega)).trans z3, fun k hk => ?_, ?_⟩
            · rw [qo _ (by omega) (by omega) (by omega), fr2 13 _ k (by unfold RD BB; omega)]; exact z4 k hk
            · rw [toks_cg (fun k _ => fr2 13 (2 * 0 + u') k (by unfold RD BB; omega))]; exact z5
      · refine RelK_empty ?_ ?_ ?_ (fun k => ?_) q4 (fun k k1 k2 k3 => qo k k1 (by omega) (by omega)) h.2.1
        · rw [m3 0 0 2 (by omega), up3_eq]
        · rw [m3 0 0 3 (by omega), up3_k (by decide)]; exact hq 0 0 3 (by unfold RD BB; omega)
        · rw [m3 0 0 4 (by omega), up3_k (by decide)]; exact hq 0 0 4 (by unfold RD BB; omega)
        · rw [m3 9 0 k (by omega), up3_f (by decide)]; exact hq 9 0 k (by unfold RD BB; omega)
    · obtain ⟨R3, w1, w2⟩ := wrong_eq ht b2
      obtain ⟨f, lf, f1, f2, f3, f4, f5, f6, f7⟩ := id w2
      rw [if_neg (show ¬ Int32.ofNat a = Int32.ofNat T by rw [i_inj (by omega) (by omega)]; exact haT), if_pos (show Int32.ofNat a < Int32.ofNat T by rw [i_ltn (by omega) (by omega)]; omega), w1, bs, bs, bs]
      dsimp only
      rw [if_pos (show (0 : Int32) = 0 from rfl), if_neg (show ¬ R3 19 0 8 < 0 by rw [f5]; exact nn0 f1)]
      exact fault w2
  · obtain ⟨f, lf, f1, f2, f3, f4, f5, f6, f7⟩ := id b2
    have nf : ¬ R2 19 0 8 < 0 := by rw [f5]; exact nn0 f1
    rw [if_pos (show (0 : Int32) = 0 from rfl), if_neg nf, bs, bs]
    dsimp only
    rw [if_pos (show (0 : Int32) = 0 from rfl), if_neg nf]
    exact fault b2
