def n7 (u c : Int32) : Int32 := if c = 99 then (if u = 0 then 2 else 0) else (if c = 104 then (if u = 0 then 3 else 0) else (if c = 110 then (if u = 1 then 3 else 0) else (if c = 117 then 1 else (if c = 121 then (if u = 1 then 2 else 0) else 0))))
theorem n7_eq {c : Int32} {C : Mem} : X4_nameOf c C = n7 (C 4 0 3) c := rfl
def n8 (z c : Int32) : Int32 := if c = 117 then 0 else (if z = 0 then (if c = 99 then 1 else (if c = 104 then 2 else -1)) else (if c = 121 then 1 else (if c = 110 then 2 else -1)))
theorem n8_eq {c : Int32} {R : Mem} : X8_nameOf c R = n8 (nbZ (R 19 0 10)) c := by
  unfold X8_nameOf X8_nameOf_J25 X8_nameOf_J47 n8
  by_cases h : nbZ (R 19 0 10) = 0
  · rw [if_pos h, if_pos h, if_pos h]
  · rw [if_neg h, if_neg h, if_neg h]
set_option maxRecDepth 100000 in
theorem nm_tab : ∀ u, u < 2 → ∀ k, k < 128 → (n7 (Int32.ofNat u) (Int32.ofNat k) = 0 ∧ n8 (Int32.ofNat u) (Int32.ofNat k) < 0) ∨ (¬ n7 (Int32.ofNat u) (Int32.ofNat k) = 0 ∧ ¬ n8 (Int32.ofNat u) (Int32.ofNat k) < 0 ∧ phi (-(n7 (Int32.ofNat u) (Int32.ofNat k))) = 10000 + n8 (Int32.ofNat u) (Int32.ofNat k) ∧ (-3 ≤ (-(n7 (Int32.ofNat u) (Int32.ofNat k))).toInt ∧ (-(n7 (Int32.ofNat u) (Int32.ofNat k))).toInt ≤ 9999) ∧ ¬ Int32.ofNat k = 33 ∧ ¬ Int32.ofNat k = 40 ∧ X4_isDigit (Int32.ofNat k) = 0) := by decide +kernel
theorem dig7 (c : Int32) : X4_isDigit c = 0 ↔ ¬ (48 ≤ c.toInt ∧ c.toInt ≤ 57) := by
  unfold X4_isDigit
  have e48 : (48 : Int32).toInt = 48 := rfl
  have e57 : (57 : Int32).toInt = 57 := rfl
  by_cases h1 : c < 48
  · rw [if_pos h1]; rw [i_lt, e48] at h1; exact ⟨fun _ => by omega, fun _ => rfl⟩
  · rw [if_neg h1]; rw [i_lt, e48] at h1
    by_cases h2 : 57 < c
    · rw [if_pos h2]; rw [i_lt, e57] at h2; exact ⟨fun _ => by omega, fun _ => rfl⟩
    · rw [if_neg h2]; rw [i_lt, e57] at h2; exact ⟨fun h => absurd h (by decide), fun h => absurd ⟨by omega, by omega⟩ h⟩
/-- a byte that no TEXT knows -/
def OT (c : Int32) : Prop := ∀ k : Nat, 1 ≤ k → k ≤ 127 → ¬ c = Int32.ofNat k
theorem ch_cases {x y : Int32} (h : CH x y) : (∃ k : Nat, 1 ≤ k ∧ k ≤ 127 ∧ x = Int32.ofNat k ∧ y = Int32.ofNat k) ∨ (OT x ∧ OT y) := by
  by_cases hk : ∃ k : Nat, 1 ≤ k ∧ k ≤ 127 ∧ x = Int32.ofNat k
  · obtain ⟨k, k1, k2, e⟩ := hk
    exact Or.inl ⟨k, k1, k2, e, (h k k1 k2).mp e⟩
  · exact Or.inr ⟨fun k k1 k2 e => hk ⟨k, k1, k2, e⟩, fun k k1 k2 e => hk ⟨k, k1, k2, (h k k1 k2).mpr e⟩⟩
theorem ot_dig {c : Int32} (h : OT c) : ¬ (48 ≤ c.toInt ∧ c.toInt ≤ 57) := by
  intro hc
  obtain ⟨k, hk, e⟩ := i_small (n := 58) (x := c) (by omega) (by omega)
  rw [e, i_of (by omega)] at hc
  exact h k (by omega) (by omega) e
theorem ot_n7 {c u : Int32} (h : OT c) : n7 u c = 0 := by
  unfold n7
  rw [if_neg (show ¬ c = 99 from h 99 (by omega) (by omega)), if_neg (show ¬ c = 104 from h 104 (by omega) (by omega)), if_neg (show ¬ c = 110 from h 110 (by omega) (by omega)), if_neg (show ¬ c = 117 from h 117 (by omega) (by omega)), if_neg (show ¬ c = 121 from h 121 (by omega) (by omega))]
theorem ot_n8 {c u : Int32} (h : OT c) : n8 u c < 0 := by
  unfold n8
  rw [if_neg (show ¬ c = 117 from h 117 (by omega) (by omega)), if_neg (show ¬ c = 99 from h 99 (by omega) (by omega)), if_neg (show ¬ c = 104 from h 104 (by omega) (by omega)), if_neg (show ¬ c = 121 from h 121 (by omega) (by omega)), if_neg (show ¬ c = 110 from h 110 (by omega) (by omega))]
  split <;> decide
theorem up3_comm {M : Mem} {f i k f' i' k' : Nat} {v w : Int32} (h : ¬ f = f') : up3 (up3 M f i k v) f' i' k' w = up3 (up3 M f' i' k' w) f i k v := by
  funext a b c
  unfold up3
  by_cases h1 : a = f' ∧ c = k' ∧ b = i'
  · rw [if_pos h1, if_neg (fun e => h (e.1.symm.trans h1.1)), if_pos h1]
  · rw [if_neg h1]
    by_cases h2 : a = f ∧ c = k ∧ b = i
    · rw [if_pos h2, if_pos h2]
    · rw [if_neg h2, if_neg h2, if_neg h1]
theorem i_subn {a b : Nat} (h : b ≤ a) (ha : a < 2147483648) : Int32.ofNat a - Int32.ofNat b = Int32.ofNat (a - b) := by
  rw [i_eq, i_sub (by rw [i_of ha, i_of (by omega)]; omega) (by rw [i_of ha, i_of (by omega)]; omega), i_of ha, i_of (by omega), i_of (by omega)]
  omega
section UNIT
variable {C0 R0 : Mem} {T u : Nat}
theorem FL_op {C R : Mem} {v : Int32} (h : FL C0 R0 C R) : FL C0 R0 C (up3 R 19 0 9 v) := by
  obtain ⟨f, l, f1, f2, f3, f4, f5, f6, f7⟩ := h
  exact ⟨f, l, f1, f2, f3, f4, by rw [up3_k (by decide)]; exact f5, f6, f7.tr (FrP.up (by omega))⟩
theorem FL_add {C R : Mem} {t : Int32} (h : FL C0 R0 C R) : ∃ C', X2_add 6 t C = some C' ∧ FL C0 R0 C' R := by
  obtain ⟨f, l, f1, f2, f3, f4, f5, f6, f7⟩ := h
  unfold X2_add
  rw [f4]
  by_cases hl : l < 50
  · rw [if_pos (by rw [show (50 : Int32) = Int32.ofNat 50 from rfl, i_ltn (by omega) (by omega)]; exact hl), if_pos (ib_of hl (by omega)), i_ofix (by omega), i_succ]
    exact ⟨_, rfl, f, l + 1, f1, by omega, by rw [up3_f (by decide), up3_f (by decide)]; exact f3, up3_eq, f5, (f6.tr (FrC.up (by unfold RD; omega))).tr (FrC.up (by unfold RD; omega)), f7⟩
  · rw [if_neg (by rw [show (50 : Int32) = Int32.ofNat 50 from rfl, i_ltn (by omega) (by omega)]; exact hl)]
    exact ⟨C, rfl, f, l, f1, f2, f3, f4, f5, f6, f7⟩
theorem digits (ht : TP C0 R0 T) {o l d : Nat} {rc : Nat → Int32 → Mem → Option Mem} : ∀ (m i fu fu' v s a : Nat) (C R : Mem), i + m = 4 → m < fu → m < fu' → v < 10 ^ i → PR C0 R0 T u s a l d o C R → ∃ (v' j : Nat) (C' R' : Mem), X4_readNumber_L4 fu (Int32.ofNat v) (Int32.ofNat i) C = some (Int32.ofNat v', C') ∧ X8_unit_L58 rc fu' (Int32.ofNat v) (Int32.ofNat i) R = some (Int32.ofNat v', Int32.ofNat j, R') ∧ v' < 10000 ∧ i ≤ j ∧ j ≤ 4 ∧ PR C0 R0 T u (s + (j - i)) (a + (j - i)) l d o C' R' := by
  intro m
  induction m with
  | zero =>
    intro i fu fu' v s a C R hi hf hf' hv h
    obtain ⟨fu, rfl⟩ : ∃ g, fu = g + 1 := ⟨fu - 1, by omega⟩
    obtain ⟨fu', rfl⟩ : ∃ g, fu' = g + 1 := ⟨fu' - 1, by omega⟩
    obtain rfl : i = 4 := by omega
    refine ⟨v, 4, C, R, ?_, ?_, hv, by omega, by omega, h⟩
    · rw [X4_readNumber_L4, if_neg (by decide)]
    · rw [X8_unit_L58, if_neg (by decide)]
  | succ m ih =>
    intro i fu fu' v s a C R hi hf hf' hv h
    obtain ⟨fu, rfl⟩ : ∃ g, fu = g + 1 := ⟨fu - 1, by omega⟩
    obtain ⟨fu', rfl⟩ : ∃ g, fu' = g + 1 := ⟨fu' - 1, by omega⟩
    obtain ⟨x, y, n1, n2, n3, n4⟩ := next_eq ht h
    have hp : 10 ^ i ≤ 10 ^ 3 := Nat.pow_le_pow_right (by omega) (by omega)
    have hp1 : 10 ^ (i + 1) = 10 ^ i * 10 := Nat.pow_succ 10 i
    have lt : Int32.ofNat i < 4 := by rw [show (4 : Int32) = Int32.ofNat 4 from rfl, i_ltn (by omega) (by omega)]; omega
    have s7 : X4_readNumber_L4 (fu + 1) (Int32.ofNat v) (Int32.ofNat i) C = if X4_isDigit x = 0 then some (Int32.ofNat v, C) else X4_readNumber_L4 fu (((Int32.ofNat v * 10) + x) - 48) (Int32.ofNat (i + 1)) (up3 C 4 0 4 (C 4 0 4 + 1)) := by
      rw [X4_readNumber_L4, if_pos lt, n1, bs, bs, i_succ]
    have s8 : X8_unit_L58 rc (fu' + 1) (Int32.ofNat v) (Int32.ofNat i) R = if X8_in (y.toInt64) (48 : Int64) (57 : Int64) = 0 then some (Int32.ofNat v, Int32.ofNat i, R) else X8_unit_L58 rc fu' (((10 * Int32.ofNat v) + y) - 48) (Int32.ofNat (i + 1)) (up3 R 19 0 6 (R 19 0 6 + 1)) := by
      rw [X8_unit_L58, if_pos lt, n2, bs, bs, i_succ]
    have stop : X4_isDigit x = 0 → X8_in (y.toInt64) (48 : Int64) (57 : Int64) = 0 → ∃ (v' j : Nat) (C' R' : Mem), X4_readNumber_L4 (fu + 1) (Int32.ofNat v) (Int32.ofNat i) C = some (Int32.ofNat v', C') ∧ X8_unit_L58 rc (fu' + 1) (Int32.ofNat v) (Int32.ofNat i) R = some (Int32.ofNat v', Int32.ofNat j, R') ∧ v' < 10000 ∧ i ≤ j ∧ j ≤ 4 ∧ PR C0 R0 T u (s + (j - i)) (a + (j - i)) l d o C' R' := by
      intro e1 e2
      refine ⟨v, i, C, R, by rw [s7, if_pos e1], by rw [s8, if_pos e2], by omega, by omega, by omega, ?_⟩
      rw [Nat.sub_self]
      exact h
    rcases ch_cases n3 with ⟨k, k1, k2, ex, ey⟩ | ⟨ox, oy⟩
    · by_cases hd : 48 ≤ k ∧ k ≤ 57
      · have e1 : ¬ X4_isDigit x = 0 := by rw [dig7, ex, i_of (by omega)]; omega
        have e2 : ¬ X8_in (y.toInt64) (48 : Int64) (57 : Int64) = 0 := by rw [in8_48_57, ey, i_of (by omega)]; omega
        have v1 : ((Int32.ofNat v * 10) + x) - 48 = Int32.ofNat (v * 10 + k - 48) := by
          rw [ex, show (10 : Int32) = Int32.ofNat 10 from rfl, show (48 : Int32) = Int32.ofNat 48 from rfl, i_ofmul, i_ofadd, i_subn (by omega) (by omega)]
        have v2 : ((10 * Int32.ofNat v) + y) - 48 = Int32.ofNat (v * 10 + k - 48) := by
          rw [ey, show (10 : Int32) = Int32.ofNat 10 from rfl, show (48 : Int32) = Int32.ofNat 48 from rfl, i_ofmul, i_ofadd, i_subn (by omega) (by omega), Nat.mul_comm]
        obtain ⟨v', j, C', R', g1, g2, g3, g4, g5, g6⟩ := ih (i + 1) fu fu' (v * 10 + k - 48) (s + 1) (a + 1) _ _ (by omega) (by omega) (by omega) (by omega) (at_eq h (n4 ⟨k, by omega, ey⟩))
        refine ⟨v', j, C', R', ?_, ?_, g3, by omega, g5, ?_⟩
        · rw [s7, if_neg e1, v1]; exact g1
        · rw [s8, if_neg e2, v2]; exact g2
        · rw [show s + (j - i) = s + 1 + (j - (i + 1)) by omega, show a + (j - i) = a + 1 + (j - (i + 1)) by omega]
          exact g6
      · exact stop (by rw [dig7, ex, i_of (by omega)]; omega) (by rw [in8_48_57, ey, i_of (by omega)]; omega)
    · exact stop (by rw [dig7]; exact ot_dig ox) (by rw [in8_48_57]; exact ot_dig oy)
theorem dep_num {t : Int32} {d : Nat} (h : inR t (-3) 9999) : dep [t] d = some (d + 1) := by
  obtain ⟨a1, a2, -⟩ := nm_f (x := 0) (y := 0) (z := 0) h
  show (if t = -33 then _ else if t < -3 then _ else some (d + 1)) = _
  rw [if_neg a1, if_neg a2]
theorem phi_n {v : Nat} (h : v < 10000) : phi (Int32.ofNat v) = Int32.ofNat v := by
  unfold phi
  rw [if_neg (by rw [i_lt, i_of (by omega)]; show ¬ (v : Int) < (-3 : Int); omega), if_neg (by rw [i_lt, i_of (by omega), i_z]; omega)]
/-- Q, on both sides -/
theorem last_eq (ht : TP C0 R0 T) (hu : u < 2) {o N : Nat} (ho : o ≤ 5) (sub5 : o < 5 → SP C0 R0 T u 5 (o + 1) N) (sub0 : o < 5 → SP C0 R0 T u 0 (o + 1) N) {fu fu' : Nat} (h1 : N ≤ fu) (h2 : N ≤ fu') {s a l d : Nat} {C R : Mem} (h : PR C0 R0 T u s a l d o C R) : OUT C0 R0 T u s a d o (X4_readLast (X4_rec_readLevel fu) (Int32.ofNat o) C) (X8_unit (X8_rec_either (fu' + 1)) R) := by
  obtain ⟨x, y, n1, n2, n3, n4⟩ := next_eq ht h
  have eu : C 4 0 3 = Int32.ofNat u := h.2.2.2.2.2.2.2.2.2.2.1
  have ez : nbZ (R 19 0 10) = Int32.ofNat u := h.2.2.2.2.2.2.2.2.2.2.2.2.2.1
  have e9 : R 19 0 9 = Int32.ofNat o := h.2.2.2.2.2.2.2.2.2.1
  have s7 : X4_readLast (X4_rec_readLevel fu) (Int32.ofNat o) C = (if (X4_isDigit x) = 0 then (if n7 (Int32.ofNat u) x = 0 then (if Int32.ofNat o < 5 then (if x = 33 then (X4_readLast_J68 (X4_rec_readLevel fu) (Int32.ofNat o) x C) else (if x = 40 then (X4_readLast_J68 (X4_rec_readLevel fu) (Int32.ofNat o) x C) else (some (0, C)))) else (some (0, C))) else ((X2_add 6 (-(n7 (Int32.ofNat u) x)) C).bind fun q6 => (some (1, (up3 q6 4 0 4 ((q6 4 0 4) + 1)))))) else ((X4_readNumber C).bind fun q7 => (some (1, q7)))) := by
    unfold X4_readLast
    rw [n1, bs, n7_eq, eu]
  have s8 : X8_unit (X8_rec_either (fu' + 1)) R = (if y = 33 then (X8_unit_J17 (X8_rec_either (fu' + 1)) y R) else (if y = 40 then (X8_unit_J17 (X8_rec_either (fu' + 1)) y R) else (if n8 (Int32.ofNat u) y < 0 then ((X8_unit_L58 (X8_rec_either (fu' + 1)) 400 0 0 R).bind fun q5 => (X8_unit_J110 (X8_rec_either (fu' + 1)) q5.1 q5.2.1 q5.2.2)) else ((X8_lay (10000 + n8 (Int32.ofNat u) y) (up3 R 19 0 6 ((R 19 0 6) + 1))).bind fun q8 => (some q8))))) := by
    unfold X8_unit
    rw [n2, bs, n8_eq, ez]
  -- no Q begins here
  have bad1 : ¬ (48 ≤ x.toInt ∧ x.toInt ≤ 57) → ¬ (48 ≤ y.toInt ∧ y.toInt ≤ 57) → n7 (Int32.ofNat u) x = 0 → n8 (Int32.ofNat u) y < 0 → ¬ x = 33 → ¬ x = 40 → ¬ y = 33 → ¬ y = 40 → OUT C0 R0 T u s a d o (X4_readLast (X4_rec_readLevel fu) (Int32.ofNat o) C) (X8_unit (X8_rec_either (fu' + 1)) R) := by
    intro b1 b2 b3 b4 b5 b6 b7 b8
    obtain ⟨R', w1, w2⟩ := wrong_eq ht h
    obtain ⟨f, lf, f1, f2, f3, f4, f5, f6, f7⟩ := id w2
    refine ⟨0, C, R', ?_, ?_, Or.inr ⟨rfl, w2⟩⟩
    · rw [s7, if_pos ((dig7 x).mpr b1), if_pos b3, if_neg b5, if_neg b6]
      split <;> rfl
    · rw [s8, if_neg b7, if_neg b8, if_pos b4]
      show (X8_unit_L58 (X8_rec_either (fu' + 1)) (399 + 1) 0 0 R).bind _ = _
      rw [X8_unit_L58, if_pos (by decide), n2, bs, if_pos ((in8_48_57 y).mpr b2), bs]
      show X8_unit_J110 (X8_rec_either (fu' + 1)) 0 0 R = some R'
      unfold X8_unit_J110 X8_unit_J119
      rw [if_pos rfl, w1, bs, lay_f f1 f5]
      rfl
  rcases ch_cases n3 with ⟨k, k1, k2, ex, ey⟩ | ⟨ox, oy⟩
  · have haT : a < T := n4 ⟨k, by omega, ey⟩
    by_cases hd : 48 ≤ k ∧ k ≤ 57
    · -- a NUMBER
      obtain ⟨v, j, C1, R1, g1, g2, g3, g4, g5, g6⟩ := digits ht (rc := X8_rec_either (fu' + 1)) 4 0 400 400 0 s a C R (by omega) (by omega) (by omega) (by decide) h
      have e1 : ¬ X4_isDigit x = 0 := by rw [dig7, ex, i_of (by omega)]; omega
      have e2 : ¬ X8_in (y.toInt64) (48 : Int64) (57 : Int64) = 0 := by rw [in8_48_57, ey, i_of (by omega)]; omega
      have j0 : ¬ j = 0 := by
        obtain ⟨v', j', C', R', q1, q2, q3, q4, q5, q6⟩ := digits ht (rc := X8_rec_either (fu' + 1)) 3 1 399 399 (k - 48) (s + 1) (a + 1) _ _ (by omega) (by omega) (by omega) (by omega) (at_eq h haT)
        have z : X8_unit_L58 (X8_rec_either (fu' + 1)) (399 + 1) (Int32.ofNat 0) (Int32.ofNat 0) R = some (Int32.ofNat v', Int32.ofNat j', R') := by
          rw [X8_unit_L58, if_pos (by decide), n2, bs, if_neg e2, bs]
          rw [show ((10 * Int32.ofNat 0) + y) - 48 = Int32.ofNat (k - 48) from by
            rw [ey, show (10 : Int32) = Int32.ofNat 10 from rfl, show (48 : Int32) = Int32.ofNat 48 from rfl, i_ofmul, i_ofadd, i_subn (by omega) (by omega)]
            congr 1
            omega]
          exact q2
        have z2 := z.symm.trans g2
        injection z2 with z2
        have z3 : Int32.ofNat j' = Int32.ofNat j := congrArg (fun q => q.2.1) z2
        rw [i_inj (by omega) (by omega)] at z3
        omega
      have in1 : inR (Int32.ofNat v) (-3) 9999 := ⟨by rw [i_of (by omega)]; omega, by rw [i_of (by omega)]; omega⟩
      obtain ⟨C2, R2, m1, m2, m3⟩ := lay_eq ht (g6.weak (s' := s + 1) (by omega)) (Or.inl in1) (dep_num in1)
      refine ⟨1, C2, R2, ?_, ?_, Or.inl ⟨rfl, a + (j - 0), l + 1, by omega, m3⟩⟩
      · rw [s7, if_neg e1]
        unfold X4_readNumber X4_readNumber_J48
        rw [show X4_readNumber_L4 400 0 0 C = _ from g1, bs]
        dsimp only
        rw [m1]
        rfl
      · have hx33 : ¬ y = 33 := by rw [ey, show (33 : Int32) = Int32.ofNat 33 from rfl, i_inj (by omega) (by omega)]; omega
        have hx40 : ¬ y = 40 := by rw [ey, show (40 : Int32) = Int32.ofNat 40 from rfl, i_inj (by omega) (by omega)]; omega
        have hn : n8 (Int32.ofNat u) y < 0 := by
          rw [ey]
          rcases nm_tab u hu k (by omega) with ⟨-, q⟩ | ⟨-, -, -, -, -, -, q⟩
          · exact q
          · rw [ex] at e1; exact absurd q e1
        rw [s8, if_neg hx33, if_neg hx40, if_pos hn, show X8_unit_L58 (X8_rec_either (fu' + 1)) 400 0 0 R = _ from g2, bs]
        show X8_unit_J110 (X8_rec_either (fu' + 1)) (Int32.ofNat v) (Int32.ofNat j) R1 = some R2
        unfold X8_unit_J110 X8_unit_J119
        rw [if_neg (show ¬ Int32.ofNat j = 0 by rw [show (0 : Int32) = Int32.ofNat 0 from rfl, i_inj (by omega) (by omega)]; exact j0)]
        rw [phi_n g3] at m2
        rw [m2]
        rfl
    rcases nm_tab u hu k (by omega) with ⟨q1, q2⟩ | ⟨q1, q2, q3, q4, q5, q6, q7⟩
    · by_cases hp : k = 33 ∨ k = 40
      · -- ! or (
        have dz : X4_isDigit x = 0 := by rw [dig7, ex, i_of (by omega)]; omega
        have r7 : X4_readLast (X4_rec_readLevel fu) (Int32.ofNat o) C = if Int32.ofNat o < 5 then X4_readLast_J68 (X4_rec_readLevel fu) (Int32.ofNat o) x C else some (0, C) := by
          rw [s7, if_pos dz, if_pos (by rw [ex]; exact q1)]
          rcases hp with rfl | rfl
          · rw [if_pos (show x = 33 from ex)]
          · rw [if_neg (show ¬ x = 33 by rw [ex]; decide), if_pos (show x = 40 from ex)]
        have r8 : X8_unit (X8_rec_either (fu' + 1)) R = X8_opens (X8_rec_either fu') y R := by
          rw [s8]
          have e : X8_unit_J17 (X8_rec_either (fu' + 1)) y R = X8_opens (X8_rec_either fu') y R := by
            show (X8_opens (X8_rec_either fu') y R).bind _ = _
            cases X8_opens (X8_rec_either fu') y R <;> rfl
          rcases hp with rfl | rfl
          · rw [if_pos (show y = 33 from ey), e]
          · rw [if_neg (show ¬ y = 33 by rw [ey]; decide), if_pos (show y = 40 from ey), e]
        rw [r7, r8]
        by_cases ho5 : o = 5
        · subst ho5
          obtain ⟨R', w1, w2⟩ := wrong_eq ht h
          refine ⟨0, C, R', by rw [if_neg (by decide)], ?_, Or.inr ⟨rfl, w2⟩⟩
          unfold X8_opens
          rw [if_pos (by rw [e9]; rfl), w1]
          rfl
        · have lt5 : Int32.ofNat o < 5 := by rw [show (5 : Int32) = Int32.ofNat 5 from rfl, i_ltn (by omega) (by omega)]; omega
          have n5 : ¬ R 19 0 9 = 5 := by rw [e9, show (5 : Int32) = Int32.ofNat 5 from rfl, i_inj (by omega) (by omega)]; exact ho5
          have st : PR C0 R0 T u (s + 1) (a + 1) l d (o + 1) (up3 C 4 0 4 (C 4 0 4 + 1)) (up3 (up3 R 19 0 9 (R 19 0 9 + 1)) 19 0 6 (R 19 0 6 + 1)) := by
            have w := at_eq (op_eq (o' := o + 1) h) haT
            rw [show (up3 R 19 0 9 (Int32.ofNat (o + 1))) 19 0 6 = R 19 0 6 from up3_k (by decide)] at w
            rw [e9, i_succ]
            exact w
          rw [if_pos lt5]
          unfold X4_readLast_J68 X8_opens
          rw [if_neg n5, i_succ]
          rcases hp with rfl | rfl
          · -- !
            rw [if_pos (show x = 33 from ex), if_pos (show y = 33 from ey)]
            obtain ⟨r, C1, R1, g1, g2, g3⟩ := sub5 (by omega) fu fu' h1 h2 _ _ _ _ _ _ st
            have g1' : X4_rec_readLevel fu 0 5 (Int32.ofNat (o + 1)) (up3 C 4 0 4 (C 4 0 4 + 1)) = some (r, C1) := g1
            rw [g1', g2, bs, bs]
            dsimp only
            rcases g3 with ⟨rfl, a', l', b1, b2⟩ | ⟨rfl, b2⟩
            · obtain ⟨C2, R2, m1, m2, m3⟩ := lay_eq (t := -33) (d' := d + 1) ht b2 (Or.inr (Or.inl rfl)) (by
                show (if (-33 : Int32) = -33 then (if 1 ≤ d + 1 then some (d + 1) else none) else _) = _
                rw [if_pos rfl, if_pos (by omega)])
              have o9 : R2 19 0 9 = Int32.ofNat (o + 1) := m3.2.2.2.2.2.2.2.2.2.1
              refine ⟨1, C2, up3 R2 19 0 9 (Int32.ofNat o), ?_, ?_, Or.inl ⟨rfl, a', l' + 1, by omega, op_eq m3⟩⟩
              · rw [m1, bs, if_neg (by decide), if_pos rfl]
              · rw [show (20033 : Int32) = phi (-33) by decide, m2, bs, o9, i_dn]
            · obtain ⟨f, lf, f1, f2, f3, f4, f5, f6, f7⟩ := id b2
              obtain ⟨C2, m1, m2⟩ := FL_add (t := -33) b2
              refine ⟨0, C2, up3 R1 19 0 9 (R1 19 0 9 - 1), ?_, ?_, Or.inr ⟨rfl, FL_op m2⟩⟩
              · rw [m1, bs, if_pos rfl]
              · rw [lay_f f1 f5, bs]
          · -- (
            rw [if_neg (show ¬ x = 33 by rw [ex]; decide), if_neg (show ¬ y = 33 by rw [ey]; decide)]
            obtain ⟨r, C1, R1, g1, g2, g3⟩ := sub0 (by omega) fu fu' h1 h2 _ _ _ _ _ _ st
            have g1' : X4_rec_readLevel fu 0 0 (Int32.ofNat (o + 1)) (up3 C 4 0 4 (C 4 0 4 + 1)) = some (r, C1) := g1
            rw [g1', g2, bs, bs]
            dsimp only
            rcases g3 with ⟨rfl, a', l', b1, b2⟩ | ⟨rfl, b2⟩
            · obtain ⟨x2, y2, p1, p2, p3, p4⟩ := next_eq ht b2
              have o9 : R1 19 0 9 = Int32.ofNat (o + 1) := b2.2.2.2.2.2.2.2.2.2.1
              rw [if_neg (show ¬ (1 : Int32) = 0 by decide), p1, bs, takes_k p2]
              by_cases h41 : y2 = 41
              · have x41 : x2 = 41 := (p3 41 (by omega) (by omega)).mpr h41
                have w := at_eq b2 (p4 ⟨41, by omega, h41⟩)
                refine ⟨1, _, up3 (up3 R1 19 0 6 (R1 19 0 6 + 1)) 19 0 9 (Int32.ofNat o), by rw [if_pos x41], ?_, Or.inl ⟨rfl, a' + 1, l', by omega, (op_eq w).weak (by omega)⟩⟩
                rw [if_pos h41, bs]
                dsimp only
                rw [if_neg (show ¬ (1 : Int32) = 0 by decide), show (up3 R1 19 0 6 (R1 19 0 6 + 1)) 19 0 9 = R1 19 0 9 from up3_k (by decide), o9, i_dn]
              · have x41 : ¬ x2 = 41 := fun e => h41 ((p3 41 (by omega) (by omega)).mp e)
                obtain ⟨R2, w1, w2⟩ := wrong_eq ht b2
                refine ⟨0, C1, up3 R2 19 0 9 (R2 19 0 9 - 1), by rw [if_neg x41], ?_, Or.inr ⟨rfl, FL_op w2⟩⟩
                rw [if_neg h41, bs, if_pos rfl]
                dsimp only
                rw [w1, bs]
            · obtain ⟨f, lf, f1, f2, f3, f4, f5, f6, f7⟩ := id b2
              refine ⟨0, C1, up3 R1 19 0 9 (R1 19 0 9 - 1), by rw [if_pos rfl], ?_, Or.inr ⟨rfl, FL_op b2⟩⟩
              rw [takes_f f1 f5 (by decide), bs, if_pos rfl]
              dsimp only
              rw [wrong_f f1 f5, bs]
      · have k33 : ¬ k = 33 := fun e => hp (Or.inl e)
        have k40 : ¬ k = 40 := fun e => hp (Or.inr e)
        have ne : ∀ {z : Int32} {j : Nat}, j < 128 → ¬ k = j → z = Int32.ofNat k → ¬ z = Int32.ofNat j := fun hj hk e => by
          rw [e, i_inj (by omega) (by omega)]
          exact hk
        exact bad1 (by rw [ex, i_of (by omega)]; omega) (by rw [ey, i_of (by omega)]; omega) (by rw [ex]; exact q1) (by rw [ey]; exact q2) (ne (z := x) (j := 33) (by omega) k33 ex) (ne (z := x) (j := 40) (by omega) k40 ex) (ne (z := y) (j := 33) (by omega) k33 ey) (ne (z := y) (j := 40) (by omega) k40 ey)
    · -- a NAME
      obtain ⟨t, et⟩ : ∃ t, t = -(n7 (Int32.ofNat u) (Int32.ofNat k)) := ⟨_, rfl⟩
      rw [← et] at q3 q4
      have in1 : inR t (-3) 9999 := q4
      obtain ⟨C2, R2, m1, m2, m3⟩ := lay_eq ht (at_eq h haT) (Or.inl in1) (dep_num in1)
      refine ⟨1, C2, R2, ?_, ?_, Or.inl ⟨rfl, a + 1, l + 1, by omega, m3⟩⟩
      · rw [s7, if_pos (by rw [ex]; exact q7), if_neg (by rw [ex]; exact q1), ex, ← et]
        have hl : C 2 6 2 = Int32.ofNat l := h.2.2.2.2.2.1
        have b1 := h.1
        have b2 := ht.1
        have lt50 : Int32.ofNat l < 50 := by rw [show (50 : Int32) = Int32.ofNat 50 from rfl, i_ltn (by omega) (by omega)]; omega
        have a1 : X2_add 6 t C = some (up3 (up3 C 13 6 l t) 2 6 2 (Int32.ofNat (l + 1))) := by
          unfold X2_add
          rw [hl, if_pos lt50, if_pos (ib_of (by omega) (by omega)), i_ofix (by omega), i_succ]
        have a2 : X2_add 6 t (up3 C 4 0 4 (C 4 0 4 + 1)) = some (up3 (up3 (up3 C 4 0 4 (C 4 0 4 + 1)) 13 6 l t) 2 6 2 (Int32.ofNat (l + 1))) := by
          unfold X2_add
          rw [show (up3 C 4 0 4 (C 4 0 4 + 1)) 2 6 2 = Int32.ofNat l from (up3_f (by decide)).trans hl, if_pos lt50, if_pos (ib_of (by omega) (by omega)), i_ofix (by omega), i_succ]
        have a3 := a2.symm.trans m1
        injection a3 with a3
        rw [a1, bs, ← a3, up3_f (f := 2) (by decide), up3_f (f := 13) (by decide), up3_comm (f := 2) (by decide), up3_comm (f := 13) (by decide)]
      · rw [s8, if_neg (by rw [ey]; exact q5), if_neg (by rw [ey]; exact q6), if_neg (by rw [ey]; exact q2), ey, ← q3, m2]
        rfl
  · have ne : ∀ {z : Int32}, OT z → ¬ z = 33 ∧ ¬ z = 40 := fun hz => ⟨hz 33 (by omega) (by omega), hz 40 (by omega) (by omega)⟩
    exact bad1 (ot_dig ox) (ot_dig oy) (ot_n7 ox) (ot_n8 oy) (ne ox).1 (ne ox).2 (ne oy).1 (ne oy).2
theorem unit_eq (ht : TP C0 R0 T) (hu : u < 2) {o N : Nat} (ho : o ≤ 5) (sub5 : o < 5 → SP C0 R0 T u 5 (o + 1) N) (sub0 : o < 5 → SP C0 R0 T u 0 (o + 1) N) : SP C0 R0 T u 5 o (N + 2) := by
  intro fu fu' h1 h2 s a l d C R h
  obtain ⟨fu, rfl⟩ : ∃ g, fu = g + 2 := ⟨fu - 2, by omega⟩
  obtain ⟨fu', rfl⟩ : ∃ g, fu' = g + 2 := ⟨fu' - 2, by omega⟩
  obtain ⟨r, C1, R1, g1, g2, g3⟩ := last_eq ht hu ho sub5 sub0 (fu := fu) (fu' := fu') (by omega) (by omega) h
  refine ⟨r, C1, R1, ?_, g2, g3⟩
  show X4_readLevel (X4_rec_readLevel (fu + 1)) (Int32.ofNat 5) (Int32.ofNat o) C = _
  unfold X4_readLevel
  rw [if_neg (by decide), show X4_rec_readLevel (fu + 1) 1 (Int32.ofNat o) 0 C = _ from g1, bs]
  dsimp only
  rcases g3 with ⟨rfl, -⟩ | ⟨rfl, -⟩
  · rw [if_neg (by decide), if_pos rfl]
  · rw [if_pos rfl]
theorem SP.mono {L o N N' : Nat} (h : SP C0 R0 T u L o N) (hn : N ≤ N') : SP C0 R0 T u L o N' := fun fu fu' h1 h2 => h fu fu' (by omega) (by omega)
theorem levels (ht : TP C0 R0 T) (hu : u < 2) : ∀ e o, o + e = 5 → SP C0 R0 T u 5 o (7 * e + 2) ∧ SP C0 R0 T u 0 o (7 * e + 7) := by
  have up : ∀ {o N : Nat}, SP C0 R0 T u 5 o N → SP C0 R0 T u 0 o (N + 5) := fun h => level0 ht (level1 ht (level2 ht (level3 ht (level4 ht h))))
  intro e
  induction e with
  | zero =>
    intro o ho
    have q : SP C0 R0 T u 5 o (0 + 2) := unit_eq ht hu (by omega) (fun h => by omega) (fun h => by omega)
    exact ⟨q, up q⟩
  | succ e ih =>
    intro o ho
    obtain ⟨i1, i2⟩ := ih (o + 1) (by omega)
    have q : SP C0 R0 T u 5 o (7 * e + 7 + 2) := unit_eq ht hu (by omega) (fun _ => i1.mono (by omega)) (fun _ => i2)
    exact ⟨q.mono (by omega), (up q).mono (by omega)⟩
end UNIT
