def OUT (C0 R0 : Mem) (T u s a d o : Nat) (x : Option (Int32 × Mem)) (y : Option Mem) : Prop := ∃ (r : Int32) (C' R' : Mem), x = some (r, C') ∧ y = some R' ∧ ((r = 1 ∧ ∃ a' l', a < a' ∧ PR C0 R0 T u s a' l' (d + 1) o C' R') ∨ (r = 0 ∧ FL C0 R0 C' R'))
def SP (C0 R0 : Mem) (T u L o N : Nat) : Prop := ∀ fu fu' : Nat, N ≤ fu → N ≤ fu' → ∀ (s a l d : Nat) (C R : Mem), PR C0 R0 T u s a l d o C R → OUT C0 R0 T u s a d o (X4_rec_readLevel fu 0 (Int32.ofNat L) (Int32.ofNat o) C) (X8_rec_either fu' L 0 R)
def opb (L : Nat) (c : Int32) : Bool := match L with
  | 0 => decide (c = 124)
  | 1 => decide (c = 38)
  | 2 => decide (c = 60) || decide (c = 61) || decide (c = 62)
  | 3 => decide (c = 43) || decide (c = 45)
  | _ => decide (c = 42) || decide (c = 47) || decide (c = 37)
theorem lev_i0 {x : Int32} (h : X4_levelOf x = Int32.ofNat 0) : x = 124 := by
  unfold X4_levelOf at h
  by_cases h37 : x = 37
  · rw [if_pos h37] at h; exact absurd h (by decide)
  rw [if_neg h37] at h
  by_cases h38 : x = 38
  · rw [if_pos h38] at h; exact absurd h (by decide)
  rw [if_neg h38] at h
  by_cases h42 : x = 42
  · rw [if_pos h42] at h; exact absurd h (by decide)
  rw [if_neg h42] at h
  by_cases h43 : x = 43
  · rw [if_pos h43] at h; exact absurd h (by decide)
  rw [if_neg h43] at h
  by_cases h45 : x = 45
  · rw [if_pos h45] at h; exact absurd h (by decide)
  rw [if_neg h45] at h
  by_cases h47 : x = 47
  · rw [if_pos h47] at h; exact absurd h (by decide)
  rw [if_neg h47] at h
  by_cases h60 : x = 60
  · rw [if_pos h60] at h; exact absurd h (by decide)
  rw [if_neg h60] at h
  by_cases h61 : x = 61
  · rw [if_pos h61] at h; exact absurd h (by decide)
  rw [if_neg h61] at h
  by_cases h62 : x = 62
  · rw [if_pos h62] at h; exact absurd h (by decide)
  rw [if_neg h62] at h
  by_cases h124 : x = 124
  · exact h124
  rw [if_neg h124] at h
  exact absurd h (by decide)
theorem lev_i1 {x : Int32} (h : X4_levelOf x = Int32.ofNat 1) : x = 38 := by
  unfold X4_levelOf at h
  by_cases h37 : x = 37
  · rw [if_pos h37] at h; exact absurd h (by decide)
  rw [if_neg h37] at h
  by_cases h38 : x = 38
  · exact h38
  rw [if_neg h38] at h
  by_cases h42 : x = 42
  · rw [if_pos h42] at h; exact absurd h (by decide)
  rw [if_neg h42] at h
  by_cases h43 : x = 43
  · rw [if_pos h43] at h; exact absurd h (by decide)
  rw [if_neg h43] at h
  by_cases h45 : x = 45
  · rw [if_pos h45] at h; exact absurd h (by decide)
  rw [if_neg h45] at h
  by_cases h47 : x = 47
  · rw [if_pos h47] at h; exact absurd h (by decide)
  rw [if_neg h47] at h
  by_cases h60 : x = 60
  · rw [if_pos h60] at h; exact absurd h (by decide)
  rw [if_neg h60] at h
  by_cases h61 : x = 61
  · rw [if_pos h61] at h; exact absurd h (by decide)
  rw [if_neg h61] at h
  by_cases h62 : x = 62
  · rw [if_pos h62] at h; exact absurd h (by decide)
  rw [if_neg h62] at h
  by_cases h124 : x = 124
  · rw [if_pos h124] at h; exact absurd h (by decide)
  rw [if_neg h124] at h
  exact absurd h (by decide)
theorem lev_i2 {x : Int32} (h : X4_levelOf x = Int32.ofNat 2) : x = 60 ∨ x = 61 ∨ x = 62 := by
  unfold X4_levelOf at h
  by_cases h37 : x = 37
  · rw [if_pos h37] at h; exact absurd h (by decide)
  rw [if_neg h37] at h
  by_cases h38 : x = 38
  · rw [if_pos h38] at h; exact absurd h (by decide)
  rw [if_neg h38] at h
  by_cases h42 : x = 42
  · rw [if_pos h42] at h; exact absurd h (by decide)
  rw [if_neg h42] at h
  by_cases h43 : x = 43
  · rw [if_pos h43] at h; exact absurd h (by decide)
  rw [if_neg h43] at h
  by_cases h45 : x = 45
  · rw [if_pos h45] at h; exact absurd h (by decide)
  rw [if_neg h45] at h
  by_cases h47 : x = 47
  · rw [if_pos h47] at h; exact absurd h (by decide)
  rw [if_neg h47] at h
  by_cases h60 : x = 60
  · exact Or.inl h60
  rw [if_neg h60] at h
  by_cases h61 : x = 61
  · exact Or.inr (Or.inl h61)
  rw [if_neg h61] at h
  by_cases h62 : x = 62
  · exact Or.inr (Or.inr (h62))
  rw [if_neg h62] at h
  by_cases h124 : x = 124
  · rw [if_pos h124] at h; exact absurd h (by decide)
  rw [if_neg h124] at h
  exact absurd h (by decide)
theorem lev_i3 {x : Int32} (h : X4_levelOf x = Int32.ofNat 3) : x = 43 ∨ x = 45 := by
  unfold X4_levelOf at h
  by_cases h37 : x = 37
  · rw [if_pos h37] at h; exact absurd h (by decide)
  rw [if_neg h37] at h
  by_cases h38 : x = 38
  · rw [if_pos h38] at h; exact absurd h (by decide)
  rw [if_neg h38] at h
  by_cases h42 : x = 42
  · rw [if_pos h42] at h; exact absurd h (by decide)
  rw [if_neg h42] at h
  by_cases h43 : x = 43
  · exact Or.inl h43
  rw [if_neg h43] at h
  by_cases h45 : x = 45
  · exact Or.inr (h45)
  rw [if_neg h45] at h
  by_cases h47 : x = 47
  · rw [if_pos h47] at h; exact absurd h (by decide)
  rw [if_neg h47] at h
  by_cases h60 : x = 60
  · rw [if_pos h60] at h; exact absurd h (by decide)
  rw [if_neg h60] at h
  by_cases h61 : x = 61
  · rw [if_pos h61] at h; exact absurd h (by decide)
  rw [if_neg h61] at h
  by_cases h62 : x = 62
  · rw [if_pos h62] at h; exact absurd h (by decide)
  rw [if_neg h62] at h
  by_cases h124 : x = 124
  · rw [if_pos h124] at h; exact absurd h (by decide)
  rw [if_neg h124] at h
  exact absurd h (by decide)
theorem lev_i4 {x : Int32} (h : X4_levelOf x = Int32.ofNat 4) : x = 37 ∨ x = 42 ∨ x = 47 := by
  unfold X4_levelOf at h
  by_cases h37 : x = 37
  · exact Or.inl h37
  rw [if_neg h37] at h
  by_cases h38 : x = 38
  · rw [if_pos h38] at h; exact absurd h (by decide)
  rw [if_neg h38] at h
  by_cases h42 : x = 42
  · exact Or.inr (Or.inl h42)
  rw [if_neg h42] at h
  by_cases h43 : x = 43
  · rw [if_pos h43] at h; exact absurd h (by decide)
  rw [if_neg h43] at h
  by_cases h45 : x = 45
  · rw [if_pos h45] at h; exact absurd h (by decide)
  rw [if_neg h45] at h
  by_cases h47 : x = 47
  · exact Or.inr (Or.inr (h47))
  rw [if_neg h47] at h
  by_cases h60 : x = 60
  · rw [if_pos h60] at h; exact absurd h (by decide)
  rw [if_neg h60] at h
  by_cases h61 : x = 61
  · rw [if_pos h61] at h; exact absurd h (by decide)
  rw [if_neg h61] at h
  by_cases h62 : x = 62
  · rw [if_pos h62] at h; exact absurd h (by decide)
  rw [if_neg h62] at h
  by_cases h124 : x = 124
  · rw [if_pos h124] at h; exact absurd h (by decide)
  rw [if_neg h124] at h
  exact absurd h (by decide)
theorem lev_op {x y : Int32} {L : Nat} (hL : L < 5) (hc : CH x y) : (opb L y = true ∧ x = y ∧ X4_levelOf x = Int32.ofNat L ∧ (∃ k : Nat, k < 2147483648 ∧ y = Int32.ofNat k) ∧ opOK (-y) ∧ ¬ -y = -33 ∧ phi (-y) = 20000 + y) ∨ (opb L y = false ∧ ¬ X4_levelOf x = Int32.ofNat L) := by
  have hit : ∀ k : Nat, 1 ≤ k → k ≤ 127 → y = Int32.ofNat k → opb L (Int32.ofNat k) = true → X4_levelOf (Int32.ofNat k) = Int32.ofNat L → opOK (-(Int32.ofNat k)) → ¬ -(Int32.ofNat k) = -33 → phi (-(Int32.ofNat k)) = 20000 + Int32.ofNat k → (opb L y = true ∧ x = y ∧ X4_levelOf x = Int32.ofNat L ∧ (∃ k : Nat, k < 2147483648 ∧ y = Int32.ofNat k) ∧ opOK (-y) ∧ ¬ -y = -33 ∧ phi (-y) = 20000 + y) := by
    intro k k1 k2 e a1 a2 a3 a4 a5
    have ex : x = Int32.ofNat k := (hc k k1 k2).mpr e
    rw [ex, e]
    exact ⟨a1, rfl, a2, ⟨k, by omega, rfl⟩, a3, a4, a5⟩
  have miss : ∀ k : Nat, 1 ≤ k → k ≤ 127 → ¬ y = Int32.ofNat k → ¬ x = Int32.ofNat k := fun k k1 k2 e ex => e ((hc k k1 k2).mp ex)
  rcases (show L = 0 ∨ L = 1 ∨ L = 2 ∨ L = 3 ∨ L = 4 by omega) with rfl | rfl | rfl | rfl | rfl
  · by_cases h124 : y = Int32.ofNat 124
    · exact Or.inl (hit 124 (by omega) (by omega) h124 (by decide) (by decide) (Or.inr (Or.inr (Or.inr (Or.inr (Or.inr (Or.inr (Or.inr (Or.inr (Or.inr (Or.inr (rfl))))))))))) (by decide) (by decide))
    refine Or.inr ⟨?_, fun h => ?_⟩
    · exact decide_eq_false h124
    · exact miss 124 (by omega) (by omega) h124 (lev_i0 h)
  · by_cases h38 : y = Int32.ofNat 38
    · exact Or.inl (hit 38 (by omega) (by omega) h38 (by decide) (by decide) (Or.inr (Or.inr (Or.inl rfl))) (by decide) (by decide))
    refine Or.inr ⟨?_, fun h => ?_⟩
    · exact decide_eq_false h38
    · exact miss 38 (by omega) (by omega) h38 (lev_i1 h)
  · by_cases h60 : y = Int32.ofNat 60
    · exact Or.inl (hit 60 (by omega) (by omega) h60 (by decide) (by decide) (Or.inr (Or.inr (Or.inr (Or.inr (Or.inr (Or.inr (Or.inr (Or.inl rfl)))))))) (by decide) (by decide))
    by_cases h61 : y = Int32.ofNat 61
    · exact Or.inl (hit 61 (by omega) (by omega) h61 (by decide) (by decide) (Or.inr (Or.inr (Or.inr (Or.inr (Or.inr (Or.inr (Or.inr (Or.inr (Or.inl rfl))))))))) (by decide) (by decide))
    by_cases h62 : y = Int32.ofNat 62
    · exact Or.inl (hit 62 (by omega) (by omega) h62 (by decide) (by decide) (Or.inr (Or.inr (Or.inr (Or.inr (Or.inr (Or.inr (Or.inr (Or.inr (Or.inr (Or.inl rfl)))))))))) (by decide) (by decide))
    refine Or.inr ⟨?_, fun h => ?_⟩
    · show (decide (y = 60) || decide (y = 61) || decide (y = 62)) = false
      rw [decide_eq_false (show ¬ y = 60 from h60), decide_eq_false (show ¬ y = 61 from h61), decide_eq_false (show ¬ y = 62 from h62)]
      rfl
    · rcases lev_i2 h with e | e | e
      · exact miss 60 (by omega) (by omega) h60 e
      · exact miss 61 (by omega) (by omega) h61 e
      · exact miss 62 (by omega) (by omega) h62 e
  · by_cases h43 : y = Int32.ofNat 43
    · exact Or.inl (hit 43 (by omega) (by omega) h43 (by decide) (by decide) (Or.inr (Or.inr (Or.inr (Or.inr (Or.inl rfl))))) (by decide) (by decide))
    by_cases h45 : y = Int32.ofNat 45
    · exact Or.inl (hit 45 (by omega) (by omega) h45 (by decide) (by decide) (Or.inr (Or.inr (Or.inr (Or.inr (Or.inr (Or.inl rfl)))))) (by decide) (by decide))
    refine Or.inr ⟨?_, fun h => ?_⟩
    · show (decide (y = 43) || decide (y = 45)) = false
      rw [decide_eq_false (show ¬ y = 43 from h43), decide_eq_false (show ¬ y = 45 from h45)]
      rfl
    · rcases lev_i3 h with e | e
      · exact miss 43 (by omega) (by omega) h43 e
      · exact miss 45 (by omega) (by omega) h45 e
  · by_cases h42 : y = Int32.ofNat 42
    · exact Or.inl (hit 42 (by omega) (by omega) h42 (by decide) (by decide) (Or.inr (Or.inr (Or.inr (Or.inl rfl)))) (by decide) (by decide))
    by_cases h47 : y = Int32.ofNat 47
    · exact Or.inl (hit 47 (by omega) (by omega) h47 (by decide) (by decide) (Or.inr (Or.inr (Or.inr (Or.inr (Or.inr (Or.inr (Or.inl rfl))))))) (by decide) (by decide))
    by_cases h37 : y = Int32.ofNat 37
    · exact Or.inl (hit 37 (by omega) (by omega) h37 (by decide) (by decide) (Or.inr (Or.inl rfl)) (by decide) (by decide))
    refine Or.inr ⟨?_, fun h => ?_⟩
    · show (decide (y = 42) || decide (y = 47) || decide (y = 37)) = false
      rw [decide_eq_false (show ¬ y = 42 from h42), decide_eq_false (show ¬ y = 47 from h47), decide_eq_false (show ¬ y = 37 from h37)]
      rfl
    · rcases lev_i4 h with e | e | e
      · exact miss 37 (by omega) (by omega) h37 e
      · exact miss 42 (by omega) (by omega) h42 e
      · exact miss 47 (by omega) (by omega) h47 e
theorem dep_op {t : Int32} {d : Nat} (h : opOK t) (h33 : ¬ t = -33) : dep [t] (d + 1 + 1) = some (d + 1) := by
  show (if t = -33 then _ else if t < -3 then (if 2 ≤ d + 1 + 1 then some (d + 1 + 1 - 1) else none) else _) = _
  rw [if_neg h33, if_pos (op_f h h33).1, if_pos (by omega)]
  rfl
section LEVEL
variable {C0 R0 : Mem} {T u : Nat}
theorem loop_eq (ht : TP C0 R0 T) {L o d : Nat} (hL : L = 0 ∨ L = 1 ∨ L = 3 ∨ L = 4) {rc7 : Nat → Int32 → Int32 → Mem → Option (Int32 × Mem)} {rc8 : Nat → Int32 → Mem → Option Mem} (sub : ∀ (s a l d : Nat) (C R : Mem), PR C0 R0 T u s a l d o C R → OUT C0 R0 T u s a d o (rc7 0 (Int32.ofNat (L + 1)) (Int32.ofNat o) C) (rc8 (L + 1) 0 R)) {lp : Nat → Mem → Option Mem} (hs : ∀ (fu : Nat) (R : Mem) (c : Int32), X8_here R = some c → lp (fu + 1) R = if opb L c = true then (rc8 (L + 1) 0 (up3 R 19 0 6 (R 19 0 6 + 1))).bind fun q => (X8_lay (20000 + c) q).bind fun q => lp fu q else some R) (hf : ∀ (fu f : Nat) (R : Mem), f ≤ 50 → R 19 0 8 = Int32.ofNat f → lp (fu + 1) R = some R) : ∀ (m i fu fu' s a l : Nat) (C R : Mem), i + m = 50 → m < fu → m < fu' → i ≤ a → PR C0 R0 T u s a l (d + 1) o C R → ∃ (r : Int32) (C' R' : Mem), ((X4_readLevel_L26 rc7 fu (Int32.ofNat L) (Int32.ofNat o) (Int32.ofNat i) C).bind fun q5 => match q5 with
  | .inl q5 => (some (1, q5))
  | .inr q5 => some q5) = some (r, C') ∧ lp fu' R = some R' ∧ ((r = 1 ∧ ∃ a' l', a ≤ a' ∧ PR C0 R0 T u s a' l' (d + 1) o C' R') ∨ (r = 0 ∧ FL C0 R0 C' R')) := by
  intro m
  induction m with
  | zero =>
    intro i fu fu' s a l C R hi hfu hfu' hia h
    obtain ⟨fu, rfl⟩ : ∃ g, fu = g + 1 := ⟨fu - 1, by omega⟩
    obtain ⟨fu', rfl⟩ : ∃ g, fu' = g + 1 := ⟨fu' - 1, by omega⟩
    obtain ⟨x, y, n1, n2, n3, n4⟩ := next_eq ht h
    have haT : ¬ a < T := by
      have := h.2.1
      have := ht.1
      omega
    refine ⟨1, C, R, ?_, ?_, Or.inl ⟨rfl, a, l, Nat.le_refl _, h⟩⟩
    · rw [X4_readLevel_L26, if_neg (by rw [show (50 : Int32) = Int32.ofNat 50 from rfl, i_ltn (by omega) (by omega)]; omega), bs]
    · rw [hs fu' R y n2]
      rcases lev_op (L := L) (by omega) n3 with ⟨-, -, -, q, -⟩ | ⟨q, -⟩
      · exact absurd (n4 q) haT
      · rw [q]
        rfl
  | succ m ih =>
    intro i fu fu' s a l C R hi hfu hfu' hia h
    obtain ⟨fu, rfl⟩ : ∃ g, fu = g + 1 := ⟨fu - 1, by omega⟩
    obtain ⟨fu', rfl⟩ : ∃ g, fu' = g + 1 := ⟨fu' - 1, by omega⟩
    obtain ⟨x, y, n1, n2, n3, n4⟩ := next_eq ht h
    have L2 : ¬ Int32.ofNat L = 2 := by
      rw [show (2 : Int32) = Int32.ofNat 2 from rfl, i_inj (by omega) (by omega)]
      omega
    have s7 : X4_readLevel_L26 rc7 (fu + 1) (Int32.ofNat L) (Int32.ofNat o) (Int32.ofNat i) C = if X4_levelOf x = Int32.ofNat L then (rc7 0 (Int32.ofNat (L + 1)) (Int32.ofNat o) (up3 C 4 0 4 (C 4 0 4 + 1))).bind fun q3 => (if q3.1 = 0 then (some (.inr (0, q3.2))) else ((X2_add 6 (-x) q3.2).bind fun q4 => X4_readLevel_L26 rc7 fu (Int32.ofNat L) (Int32.ofNat o) (Int32.ofNat (i + 1)) q4)) else some (.inr (1, C)) := by
      rw [X4_readLevel_L26, if_pos (by rw [show (50 : Int32) = Int32.ofNat 50 from rfl, i_ltn (by omega) (by omega)]; omega), n1, bs, i_succ, i_succ]
      by_cases hx : X4_levelOf x = Int32.ofNat L
      · rw [if_pos hx, if_pos hx]
        congr 1
        funext q3
        by_cases hq : q3.1 = 0
        · rw [if_pos hq, if_pos hq]
        · rw [if_neg hq, if_neg hq]
          congr 1
          funext q4
          rw [if_neg L2]
      · rw [if_neg hx, if_neg hx]
    rw [s7, hs fu' R y n2]
    rcases lev_op (L := L) (by omega) n3 with ⟨q1, q2, q3, q4, q5, q6, q7⟩ | ⟨q1, q2⟩
    · rw [if_pos q3, if_pos q1]
      obtain ⟨r, C1, R1, g1, g2, g3⟩ := sub _ _ _ _ _ _ (at_eq h (n4 q4))
      rcases g3 with ⟨rfl, a', l', b1, b2⟩ | ⟨rfl, b2⟩
      · obtain ⟨C2, R2, k1, k2, k3⟩ := lay_eq ht b2 (Or.inr q5) (dep_op q5 q6)
        obtain ⟨r, C3, R3, m1, m2, m3⟩ := ih (i + 1) fu fu' s a' (l' + 1) C2 R2 (by omega) (by omega) (by omega) (by omega) k3
        refine ⟨r, C3, R3, ?_, ?_, ?_⟩
        · rw [g1, bs]
          dsimp only
          rw [if_neg (by decide), q2, k1, bs]
          exact m1
        · rw [g2, bs, ← q7, k2, bs]
          exact m2
        · rcases m3 with ⟨e, a'', l'', z1, z2⟩ | e
          · exact Or.inl ⟨e, a'', l'', by omega, z2⟩
          · exact Or.inr e
      · obtain ⟨f, lf, f1, f2, f3, f4, f5, f6, f7⟩ := id b2
        obtain ⟨fu', rfl⟩ : ∃ g, fu' = g + 1 := ⟨fu' - 1, by omega⟩
        refine ⟨0, C1, R1, ?_, ?_, Or.inr ⟨rfl, b2⟩⟩
        · rw [g1, bs]
          dsimp only
          rw [if_pos (by decide), bs]
        · rw [g2, bs, lay_f f1 f5, bs]
          exact hf fu' f R1 f1 f5
    · rw [if_neg q2, q1]
      exact ⟨1, C, R, by rw [bs], rfl, Or.inl ⟨rfl, a, l, Nat.le_refl _, h⟩⟩
theorem level_eq (ht : TP C0 R0 T) {L o N : Nat} (hL : L = 0 ∨ L = 1 ∨ L = 3 ∨ L = 4) (sub : SP C0 R0 T u (L + 1) o N) {lp : (Nat → Int32 → Mem → Option Mem) → Nat → Mem → Option Mem} (hm : ∀ (fu : Nat) (R : Mem), X8_rec_either (fu + 1) L 0 R = (X8_rec_either fu (L + 1) 0 R).bind fun q1 => (lp (X8_rec_either fu) 400 q1).bind fun q => some q) (hs : ∀ (rc8 : Nat → Int32 → Mem → Option Mem) (fu : Nat) (R : Mem) (c : Int32), X8_here R = some c → lp rc8 (fu + 1) R = if opb L c = true then (rc8 (L + 1) 0 (up3 R 19 0 6 (R 19 0 6 + 1))).bind fun q => (X8_lay (20000 + c) q).bind fun q => lp rc8 fu q else some R) (hf : ∀ (rc8 : Nat → Int32 → Mem → Option Mem) (fu f : Nat) (R : Mem), f ≤ 50 → R 19 0 8 = Int32.ofNat f → lp rc8 (fu + 1) R = some R) : SP C0 R0 T u L o (N + 1) := by
  intro fu fu' h1 h2 s a l d C R h
  obtain ⟨fu, rfl⟩ : ∃ g, fu = g + 1 := ⟨fu - 1, by omega⟩
  obtain ⟨fu', rfl⟩ : ∃ g, fu' = g + 1 := ⟨fu' - 1, by omega⟩
  have s7 : X4_rec_readLevel (fu + 1) 0 (Int32.ofNat L) (Int32.ofNat o) C = (X4_rec_readLevel fu 0 (Int32.ofNat (L + 1)) (Int32.ofNat o) C).bind fun q1 => (if q1.1 = 0 then (some (0, q1.2)) else ((X4_readLevel_L26 (X4_rec_readLevel fu) 400 (Int32.ofNat L) (Int32.ofNat o) (Int32.ofNat 0) q1.2).bind fun q5 => match q5 with
    | .inl q5 => (some (1, q5))
    | .inr q5 => some q5)) := by
    show X4_readLevel (X4_rec_readLevel fu) (Int32.ofNat L) (Int32.ofNat o) C = _
    unfold X4_readLevel
    rw [if_pos (by rw [show (5 : Int32) = Int32.ofNat 5 from rfl, i_ltn (by omega) (by omega)]; omega), i_succ]
    rfl
  rw [s7, hm]
  obtain ⟨r, C1, R1, g1, g2, g3⟩ := sub fu fu' (by omega) (by omega) s a l d C R h
  rcases g3 with ⟨rfl, a', l', b1, b2⟩ | ⟨rfl, b2⟩
  · obtain ⟨r, C2, R2, m1, m2, m3⟩ := loop_eq ht hL (rc7 := X4_rec_readLevel fu) (rc8 := X8_rec_either fu') (fun s a l d C R h => sub fu fu' (by omega) (by omega) s a l d C R h) (lp := lp (X8_rec_either fu')) (hs _) (hf _) 50 0 400 400 s a' l' C1 R1 (by omega) (by omega) (by omega) (by omega) b2
    refine ⟨r, C2, R2, ?_, ?_, ?_⟩
    · rw [g1, bs]
      dsimp only
      rw [if_neg (by decide)]
      exact m1
    · rw [g2, bs, m2]
      rfl
    · rcases m3 with ⟨e, a'', l'', z1, z2⟩ | e
      · exact Or.inl ⟨e, a'', l'', by omega, z2⟩
      · exact Or.inr e
  · obtain ⟨f, lf, f1, f2, f3, f4, f5, f6, f7⟩ := id b2
    refine ⟨0, C1, R1, ?_, ?_, Or.inr ⟨rfl, b2⟩⟩
    · rw [g1, bs]
      dsimp only
      rw [if_pos (by decide)]
    · rw [g2, bs, show lp (X8_rec_either fu') 400 R1 = some R1 from hf _ 399 f R1 f1 f5]
      rfl
theorem takes_k {R : Mem} {c k : Int32} (h : X8_here R = some c) : X8_takes k R = if c = k then some (1, up3 R 19 0 6 (R 19 0 6 + 1)) else some (0, R) := by
  unfold X8_takes
  rw [h, bs]
theorem level0 (ht : TP C0 R0 T) {o N : Nat} (sub : SP C0 R0 T u 1 o N) : SP C0 R0 T u 0 o (N + 1) := by
  refine level_eq ht (Or.inl rfl) sub (lp := X8_either_L4) (fun fu R => rfl) (fun rc8 fu R c h => ?_) (fun rc8 fu f R h1 h2 => eithL_f h1 h2 fu)
  rw [X8_either_L4, takes_k h]
  by_cases hc : c = 124
  · rw [if_pos hc, bs]
    subst hc
    rfl
  · rw [if_neg hc, bs, show opb 0 c = false from decide_eq_false hc]
    rfl
theorem level1 (ht : TP C0 R0 T) {o N : Nat} (sub : SP C0 R0 T u 2 o N) : SP C0 R0 T u 1 o (N + 1) := by
  refine level_eq ht (Or.inr (Or.inl rfl)) sub (lp := X8_both_L4) (fun fu R => rfl) (fun rc8 fu R c h => ?_) (fun rc8 fu f R h1 h2 => bothL_f h1 h2 fu)
  rw [X8_both_L4, takes_k h]
  by_cases hc : c = 38
  · rw [if_pos hc, bs]
    subst hc
    rfl
  · rw [if_neg hc, bs, show opb 1 c = false from decide_eq_false hc]
    rfl
theorem level3 (ht : TP C0 R0 T) {o N : Nat} (sub : SP C0 R0 T u 4 o N) : SP C0 R0 T u 3 o (N + 1) := by
  refine level_eq ht (Or.inr (Or.inr (Or.inl rfl))) sub (lp := X8_sum_L4) (fun fu R => rfl) (fun rc8 fu R c h => ?_) (fun rc8 fu f R h1 h2 => sumL_f h1 h2 fu)
  rw [X8_sum_L4, h, bs]
  by_cases hc : c = 43
  · rw [if_pos hc, bs]
    subst hc
    rfl
  · rw [if_neg hc, bs]
    by_cases hd : c = 45
    · rw [if_pos hd, bs]
      subst hd
      rfl
    · rw [if_neg hd, show opb 3 c = false from by
        show (decide (c = 43) || decide (c = 45)) = false
        rw [decide_eq_false hc, decide_eq_false hd]
        rfl]
      rfl
theorem level4 (ht : TP C0 R0 T) {o N : Nat} (sub : SP C0 R0 T u 5 o N) : SP C0 R0 T u 4 o (N + 1) := by
  refine level_eq ht (Or.inr (Or.inr (Or.inr rfl))) sub (lp := X8_product_L4) (fun fu R => rfl) (fun rc8 fu R c h => ?_) (fun rc8 fu f R h1 h2 => prodL_f h1 h2 fu)
  rw [X8_product_L4, h, bs]
  by_cases hc : c = 42
  · rw [if_pos hc, bs]
    subst hc
    rfl
  · rw [if_neg hc, bs]
    by_cases hd : c = 47
    · rw [if_pos hd, bs]
      subst hd
      rfl
    · rw [if_neg hd, bs]
      by_cases he : c = 37
      · rw [if_pos he, bs]
        subst he
        rfl
      · rw [if_neg he, show opb 4 c = false from by
          show (decide (c = 42) || decide (c = 47) || decide (c = 37)) = false
          rw [decide_eq_false hc, decide_eq_false hd, decide_eq_false he]
          rfl]
        rfl
theorem level2 (ht : TP C0 R0 T) {o N : Nat} (sub : SP C0 R0 T u 3 o N) : SP C0 R0 T u 2 o (N + 1) := by
  intro fu fu' h1 h2 s a l d C R h
  obtain ⟨fu, rfl⟩ : ∃ g, fu = g + 1 := ⟨fu - 1, by omega⟩
  obtain ⟨fu', rfl⟩ : ∃ g, fu' = g + 1 := ⟨fu' - 1, by omega⟩
  have s7 : X4_rec_readLevel (fu + 1) 0 (Int32.ofNat 2) (Int32.ofNat o) C = (X4_rec_readLevel fu 0 (Int32.ofNat 3) (Int32.ofNat o) C).bind fun q1 => (if q1.1 = 0 then (some (0, q1.2)) else ((X4_readLevel_L26 (X4_rec_readLevel fu) (399 + 1) (Int32.ofNat 2) (Int32.ofNat o) (Int32.ofNat 0) q1.2).bind fun q5 => match q5 with
    | .inl q5 => (some (1, q5))
    | .inr q5 => some q5)) := rfl
  have s8 : ∀ R1 c, X8_here R1 = some c → ((X8_here R1).bind fun q2 => (if q2 = 60 then (X8_compared_J27 (X8_rec_either fu') q2 R1) else (if q2 = 61 then (X8_compared_J27 (X8_rec_either fu') q2 R1) else (if q2 = 62 then (X8_compared_J27 (X8_rec_either fu') q2 R1) else (some R1))))) = if opb 2 c = true then (X8_rec_either fu' 3 0 (up3 R1 19 0 6 (R1 19 0 6 + 1))).bind fun q => X8_lay (20000 + c) q else some R1 := by
    intro R1 c e
    have j : X8_compared_J27 (X8_rec_either fu') c R1 = (X8_rec_either fu' 3 0 (up3 R1 19 0 6 (R1 19 0 6 + 1))).bind fun q => X8_lay (20000 + c) q := by
      unfold X8_compared_J27
      congr 1
      funext q
      cases X8_lay (20000 + c) q <;> rfl
    rw [e, bs, j]
    by_cases h60 : c = 60
    · rw [if_pos h60, show opb 2 c = true from by rw [h60]; decide]
      rfl
    · rw [if_neg h60]
      by_cases h61 : c = 61
      · rw [if_pos h61, show opb 2 c = true from by rw [h61]; decide]
        rfl
      · rw [if_neg h61]
        by_cases h62 : c = 62
        · rw [if_pos h62, show opb 2 c = true from by rw [h62]; decide]
          rfl
        · rw [if_neg h62, show opb 2 c = false from by
            show (decide (c = 60) || decide (c = 61) || decide (c = 62)) = false
            rw [decide_eq_false h60, decide_eq_false h61, decide_eq_false h62]
            rfl]
          rfl
  have hm : X8_rec_either (fu' + 1) 2 0 R = (X8_rec_either fu' 3 0 R).bind fun q1 => ((X8_here q1).bind fun q2 => (if q2 = 60 then (X8_compared_J27 (X8_rec_either fu') q2 q1) else (if q2 = 61 then (X8_compared_J27 (X8_rec_either fu') q2 q1) else (if q2 = 62 then (X8_compared_J27 (X8_rec_either fu') q2 q1) else (some q1))))) := rfl
  rw [s7, hm]
  obtain ⟨r, C1, R1, g1, g2, g3⟩ := sub fu fu' (by omega) (by omega) s a l d C R h
  rcases g3 with ⟨rfl, a', l', b1, b2⟩ | ⟨rfl, b2⟩
  · obtain ⟨x, y, n1, n2, n3, n4⟩ := next_eq ht b2
    have t7 : X4_readLevel_L26 (X4_rec_readLevel fu) (399 + 1) (Int32.ofNat 2) (Int32.ofNat o) (Int32.ofNat 0) C1 = if X4_levelOf x = Int32.ofNat 2 then (X4_rec_readLevel fu 0 (Int32.ofNat 3) (Int32.ofNat o) (up3 C1 4 0 4 (C1 4 0 4 + 1))).bind fun q3 => (if q3.1 = 0 then (some (.inr (0, q3.2))) else ((X2_add 6 (-x) q3.2).bind fun q4 => some (.inr (1, q4)))) else some (.inr (1, C1)) := by
      rw [X4_readLevel_L26, if_pos (by decide), n1, bs]
      rfl
    rw [g1, g2, bs, bs, s8 R1 y n2]
    dsimp only
    rw [if_neg (show ¬ (1 : Int32) = 0 by decide), t7]
    rcases lev_op (L := 2) (by omega) n3 with ⟨q1, q2, q3, q4, q5, q6, q7⟩ | ⟨q1, q2⟩
    · rw [if_pos q3, if_pos q1]
      obtain ⟨r, C2, R2, k1, k2, k3⟩ := sub fu fu' (by omega) (by omega) _ _ _ _ _ _ (at_eq b2 (n4 q4))
      rcases k3 with ⟨rfl, a2, l2, c1, c2⟩ | ⟨rfl, c2⟩
      · obtain ⟨C3, R3, m1, m2, m3⟩ := lay_eq ht c2 (Or.inr q5) (dep_op q5 q6)
        refine ⟨1, C3, R3, ?_, ?_, Or.inl ⟨rfl, a2, l2 + 1, by omega, m3⟩⟩
        · rw [k1, bs]
          dsimp only
          rw [if_neg (by decide), q2, m1, bs, bs]
        · rw [k2, bs, ← q7, m2]
      · obtain ⟨f, lf, f1, f2, f3, f4, f5, f6, f7⟩ := id c2
        refine ⟨0, C2, R2, ?_, ?_, Or.inr ⟨rfl, c2⟩⟩
        · rw [k1, bs]
          dsimp only
          rw [if_pos (by decide), bs]
        · rw [k2, bs, lay_f f1 f5]
    · rw [if_neg q2, q1]
      exact ⟨1, C1, R1, by rw [bs], rfl, Or.inl ⟨rfl, a', l', b1, b2⟩⟩
  · obtain ⟨f, lf, f1, f2, f3, f4, f5, f6, f7⟩ := id b2
    refine ⟨0, C1, R1, ?_, ?_, Or.inr ⟨rfl, b2⟩⟩
    · rw [g1, bs]
      dsimp only
      rw [if_pos (by decide)]
    · rw [g2, bs, here_f f1 f5, bs, if_neg (by decide), if_neg (by decide), if_neg (by decide)]
end LEVEL
