-- TEXTS worked out: both sides as one machine with a stack
theorem done_eq {s x y : Int32} (h : opOK s) (h33 : ¬ s = -33) : X2_joined (-s) x y = X8_done (phi s - 20000) x y := by
  rcases h with rfl | rfl | rfl | rfl | rfl | rfl | rfl | rfl | rfl | rfl | rfl
  · exact absurd rfl h33
  all_goals rfl
theorem op_f {s : Int32} (h : opOK s) (h33 : ¬ s = -33) : s < -3 ∧ ¬ phi s < 20000 ∧ ¬ phi s = 20033 := by
  rcases h with rfl | rfl | rfl | rfl | rfl | rfl | rfl | rfl | rfl | rfl | rfl
  · exact absurd rfl h33
  all_goals exact ⟨by decide, by decide, by decide⟩
theorem nm_f {s x y z : Int32} (h : inR s (-3) 9999) : ¬ s = -33 ∧ ¬ s < -3 ∧ phi s < 20000 ∧ ((phi s < 10000 ∧ X2_namedOrNumber s x y z = phi s) ∨ (¬ phi s < 10000 ∧ ∃ k, k < 3 ∧ ib (phi s - 10000) 3 = true ∧ (phi s - 10000).toNatClampNeg = k ∧ X2_namedOrNumber s x y z = if k = 0 then x else if k = 1 then y else z)) := by
  have h1 := h.1
  have h2 := h.2
  by_cases hs : 0 ≤ s.toInt
  · have a1 : ¬ s = -33 := fun e => by
      rw [e] at hs
      exact absurd hs (by decide)
    have a2 : ¬ s < -3 := by
      rw [i_lt]
      show ¬ s.toInt < (-3 : Int)
      omega
    have a3 : ¬ s < 0 := by rw [i_lt, i_z]; omega
    have e : phi s = s := by unfold phi; rw [if_neg a2, if_neg a3]
    rw [e]
    refine ⟨a1, a2, ?_, Or.inl ⟨?_, ?_⟩⟩
    · rw [i_lt]
      show s.toInt < (20000 : Int)
      omega
    · rw [i_lt]
      show s.toInt < (10000 : Int)
      omega
    · have n : ∀ k : Int32, k.toInt < 0 → ¬ s = k := fun k hk e => by rw [e] at hs; omega
      unfold X2_namedOrNumber
      rw [if_neg (n (-3) (by decide)), if_neg (n (-2) (by decide)), if_neg (n (-1) (by decide))]
  · have q : s = -1 ∨ s = -2 ∨ s = -3 := by
      rcases (show s.toInt = -1 ∨ s.toInt = -2 ∨ s.toInt = -3 by omega) with e | e | e
      · exact Or.inl (i_eq.mpr e)
      · exact Or.inr (Or.inl (i_eq.mpr e))
      · exact Or.inr (Or.inr (i_eq.mpr e))
    rcases q with rfl | rfl | rfl
    · exact ⟨by decide, by decide, by decide, Or.inr ⟨by decide, 0, by decide, by decide, by decide, rfl⟩⟩
    · exact ⟨by decide, by decide, by decide, Or.inr ⟨by decide, 1, by decide, by decide, by decide, rfl⟩⟩
    · exact ⟨by decide, by decide, by decide, Or.inr ⟨by decide, 2, by decide, by decide, by decide, rfl⟩⟩
theorem i_dn (e : Nat) : Int32.ofNat (e + 1) - 1 = Int32.ofNat e := by
  rw [← i_succ, Int32.add_sub_cancel]
theorem i_dm (e : Nat) : Int32.ofNat (e + 1) + (-1) = Int32.ofNat e := by
  rw [← Int32.sub_eq_add_neg, i_dn]
theorem i_ltn {a b : Nat} (ha : a < 2147483648) (hb : b < 2147483648) : Int32.ofNat a < Int32.ofNat b ↔ a < b := by
  rw [i_lt, i_of ha, i_of hb]
  omega
theorem work_L {j u l : Nat} (hu : u < 2) (hl : l ≤ 50) {x y z : Int32} {tk : Nat → Int32} (htk : ∀ k, k < l → tokOK (tk k)) : ∀ (m i d : Nat), i + m = l → d ≤ i → dep ((List.range' i m).map tk) d = some 1 → ∀ (fu fu' : Nat) (C R : Mem), m < fu → m < fu' → C 2 j 2 = Int32.ofNat l → (∀ k, k < l → C 13 j k = tk k) → (∀ k, k < l → R 20 0 (118 + 50 * u + k) = phi (tk k)) → R 24 0 0 = x → R 24 0 1 = y → R 24 0 2 = z → (∀ k, k < d → C 14 j k = R 26 0 k) → ∃ C' R', X2_workedOut_L6 fu j x y z (Int32.ofNat d) (Int32.ofNat i) C = some (1, C') ∧ X8_worked_L5 fu' (Int32.ofNat (118 + 50 * u)) (Int32.ofNat l) (Int32.ofNat d) (Int32.ofNat (118 + 50 * u + i)) R = some R' ∧ C' 14 j 0 = R' 26 0 0 ∧ Fr (fun f _ => f = 14) C C' ∧ Fr (fun f _ => f = 26) R R' := by
  intro m
  induction m with
  | zero =>
    intro i d hi hd hdp fu fu' C R hf hf' c1 c2 c3 n0 n1 n2 hst
    obtain ⟨fu, rfl⟩ : ∃ g, fu = g + 1 := ⟨fu - 1, by omega⟩
    obtain ⟨fu', rfl⟩ : ∃ g, fu' = g + 1 := ⟨fu' - 1, by omega⟩
    obtain rfl : i = l := by omega
    have hd1 : d = 1 := by
      have : some d = some 1 := hdp
      injection this
    subst hd1
    refine ⟨C, R, ?_, ?_, hst 0 (by omega), Fr.rf, Fr.rf⟩
    · rw [X2_workedOut_L6, c1, if_neg (by rw [i_ltn (by omega) (by omega)]; omega)]
      rfl
    · rw [X8_worked_L5, i_ofadd, if_neg (by rw [i_ltn (by omega) (by omega)]; omega)]
  | succ m ih =>
    intro i d hi hd hdp fu fu' C R hf hf' c1 c2 c3 n0 n1 n2 hst
    obtain ⟨fu, rfl⟩ : ∃ g, fu = g + 1 := ⟨fu - 1, by omega⟩
    obtain ⟨fu', rfl⟩ : ∃ g, fu' = g + 1 := ⟨fu' - 1, by omega⟩
    have ht := htk i (by omega)
    have e7 : Int32.ofNat i < C 2 j 2 := by rw [c1, i_ltn (by omega) (by omega)]; omega
    have e8 : Int32.ofNat (118 + 50 * u + i) < Int32.ofNat (118 + 50 * u) + Int32.ofNat l := by rw [i_ofadd, i_ltn (by omega) (by omega)]; omega
    have t7 := c2 i (by omega)
    have t8 := c3 i (by omega)
    have go : ∀ (d' k : Nat) (w : Int32), d' ≤ i + 1 → k < 50 → (∀ q, q < d' → q = k ∨ q < d) → dep ((List.range' (i + 1) m).map tk) d' = some 1 → ∃ C' R', X2_workedOut_L6 fu j x y z (Int32.ofNat d') (Int32.ofNat (i + 1)) (up3 C 14 j k w) = some (1, C') ∧ X8_worked_L5 fu' (Int32.ofNat (118 + 50 * u)) (Int32.ofNat l) (Int32.ofNat d') (Int32.ofNat (118 + 50 * u + (i + 1))) (up3 R 26 0 k w) = some R' ∧ C' 14 j 0 = R' 26 0 0 ∧ Fr (fun f _ => f = 14) C C' ∧ Fr (fun f _ => f = 26) R R' := by
      intro d' k w hd' hk hq hdp'
      obtain ⟨C', R', r1, r2, r3, r4, r5⟩ := ih (i + 1) d' (by omega) hd' hdp' fu fu' (up3 C 14 j k w) (up3 R 26 0 k w) (by omega) (by omega) (by rw [up3_f (by decide)]; exact c1) (fun q hq => by rw [up3_f (by decide)]; exact c2 q hq) (fun q hq => by rw [up3_f (by decide)]; exact c3 q hq) (by rw [up3_f (by decide)]; exact n0) (by rw [up3_f (by decide)]; exact n1) (by rw [up3_f (by decide)]; exact n2) (fun q hq' => by
        by_cases hqk : q = k
        · subst hqk; rw [up3_eq, up3_eq]
        · rw [up3_k hqk, up3_k hqk]
          rcases hq q hq' with e | e
          · exact absurd e hqk
          · exact hst q e)
      exact ⟨C', R', r1, r2, r3, (Fr.up (S := fun f _ => f = 14) rfl).tr r4, (Fr.up (S := fun f _ => f = 26) rfl).tr r5⟩
    have dp : (if tk i = -33 then (if 1 ≤ d then dep ((List.range' (i + 1) m).map tk) d else none) else if tk i < -3 then (if 2 ≤ d then dep ((List.range' (i + 1) m).map tk) (d - 1) else none) else dep ((List.range' (i + 1) m).map tk) (d + 1)) = some 1 := hdp
    have s8 : Int32.ofNat (118 + 50 * u + i) + 1 = Int32.ofNat (118 + 50 * u + (i + 1)) := i_succ _
    rw [X2_workedOut_L6, if_pos e7, if_pos (ib_of (k := i) (n := 50) (by omega) (by omega)), i_ofix (n := i) (by omega), t7, i_succ i]
    rw [X8_worked_L5, if_pos e8, if_pos (ib_of (k := 118 + 50 * u + i) (n := 268) (by omega) (by omega)), i_ofix (n := 118 + 50 * u + i) (by omega), t8, s8]
    by_cases h33 : tk i = -33
    · rw [if_pos h33] at dp
      by_cases hd1 : 1 ≤ d
      · rw [if_pos hd1] at dp
        obtain ⟨e, rfl⟩ : ∃ e, d = e + 1 := ⟨d - 1, by omega⟩
        rw [if_pos h33, if_neg (by rw [show (1 : Int32) = Int32.ofNat 1 from rfl, i_ltn (by omega) (by omega)]; omega), i_dn, if_pos (ib_of (k := e) (n := 50) (by omega) (by omega)), i_ofix (n := e) (by omega)]
        rw [h33, if_neg (show ¬ phi (-33) < 20000 by decide), if_pos (show phi (-33) = 20033 by decide), if_pos (ib_of (k := e) (n := 60) (by omega) (by omega))]
        rw [hst e (by omega)]
        by_cases hz : R 26 0 e = 0
        · rw [if_pos hz, if_pos hz]
          exact go (e + 1) e 1 (by omega) (by omega) (fun q hq => by omega) dp
        · rw [if_neg hz, if_neg hz]
          exact go (e + 1) e 0 (by omega) (by omega) (fun q hq => by omega) dp
      · rw [if_neg hd1] at dp
        cases dp
    · rw [if_neg h33] at dp
      rcases ht with ht | ht
      · obtain ⟨a1, a2, a3, a4⟩ := nm_f (x := x) (y := y) (z := z) ht
        rw [if_neg a2] at dp
        rw [if_neg a1, if_neg a2, if_pos (by rw [show (50 : Int32) = Int32.ofNat 50 from rfl, i_ltn (by omega) (by omega)]; omega), if_pos (ib_of (k := d) (n := 50) (by omega) (by omega)), i_ofix (n := d) (by omega), i_succ d]
        rw [if_pos a3]
        rcases a4 with ⟨b1, b2⟩ | ⟨b1, k, b2, b3, b4, b5⟩
        · rw [if_pos b1, if_pos (ib_of (k := d) (n := 60) (by omega) (by omega)), b2]
          exact go (d + 1) d _ (by omega) (by omega) (fun q hq => by omega) dp
        · rw [if_neg b1, if_pos b3, if_pos (ib_of (k := d) (n := 60) (by omega) (by omega)), b4, b5]
          have hk : R 24 0 k = (if k = 0 then x else if k = 1 then y else z) := by
            rcases (show k = 0 ∨ k = 1 ∨ k = 2 by omega) with rfl | rfl | rfl
            · exact n0
            · exact n1
            · exact n2
          rw [hk]
          exact go (d + 1) d _ (by omega) (by omega) (fun q hq => by omega) dp
      · obtain ⟨a1, a2, a3⟩ := op_f ht h33
        rw [if_pos a1] at dp
        by_cases hd2 : 2 ≤ d
        · rw [if_pos hd2] at dp
          obtain ⟨e, rfl⟩ : ∃ e, d = e + 2 := ⟨d - 2, by omega⟩
          have e1 : Int32.ofNat (e + 2) + (-1) = Int32.ofNat (e + 1) := i_dm (e + 1)
          rw [if_neg h33, if_pos a1, if_neg (by rw [show (2 : Int32) = Int32.ofNat 2 from rfl, i_ltn (by omega) (by omega)]; omega), e1, i_dn, if_pos (ib_of (k := e) (n := 50) (by omega) (by omega)), if_pos (ib_of (k := e + 1) (n := 50) (by omega) (by omega)), i_ofix (n := e) (by omega), i_ofix (n := e + 1) (by omega)]
          rw [if_neg a2, if_neg a3, if_pos (ib_of (k := e) (n := 60) (by omega) (by omega)), if_pos (ib_of (k := e + 1) (n := 60) (by omega) (by omega))]
          rw [hst e (by omega), hst (e + 1) (by omega), done_eq ht h33]
          exact go (e + 1) e _ (by omega) (by omega) (fun q hq => by omega) dp
        · rw [if_neg hd2] at dp
          cases dp
theorem held99 (v : Int32) : jmax 0 (jmin 99 v) = X8_held v 0 99 ∧ inR (X8_held v 0 99) 0 99 := by
  unfold jmax jmin X8_held inR
  have e99 : (99 : Int32).toInt = 99 := rfl
  by_cases h1 : v < 99
  · rw [if_pos h1]
    rw [i_lt, e99] at h1
    by_cases h2 : 0 < v
    · rw [if_pos h2]
      rw [i_lt, i_z] at h2
      rw [if_neg (by rw [i_lt, i_z]; omega), if_neg (by rw [i_lt, e99]; omega)]
      exact ⟨rfl, by omega, by omega⟩
    · rw [if_neg h2]
      rw [i_lt, i_z] at h2
      by_cases h3 : v < 0
      · rw [if_pos h3]; exact ⟨rfl, by decide, by decide⟩
      · rw [if_neg h3, if_neg (by rw [i_lt, e99]; omega)]
        rw [i_lt, i_z] at h3
        exact ⟨by rw [i_eq, i_z]; omega, by omega, by omega⟩
  · rw [if_neg h1, if_pos (by decide)]
    rw [i_lt, e99] at h1
    rw [if_neg (by rw [i_lt, i_z]; omega)]
    by_cases h2 : 99 < v
    · rw [if_pos h2]; exact ⟨rfl, by decide, by decide⟩
    · rw [if_neg h2]
      rw [i_lt, e99] at h2
      exact ⟨by rw [i_eq, e99]; omega, by omega, by omega⟩
theorem given_eq {b u : Nat} {C R : Mem} (hb : b < 3) (hu : u < 2) (h : RelD b C (R 20 0)) (x y z : Int32) : ∃ (v : Int32) (C' R' : Mem), X1_given b (Int32.ofNat u) x y z C = some (v, C') ∧ X8_textGives (Int32.ofNat u) x y z R = some (v, R') ∧ inR v 0 99 ∧ Fr (fun f _ => f = 14) C C' ∧ Fr (fun f _ => f = 24 ∨ f = 26) R R' := by
  obtain ⟨-, -, -, -, -, -, -, -, -, n9⟩ := id h
  obtain ⟨l, l1, l2, l3, l4, l5⟩ := n9 u hu
  have lw : X1_lawOf b (Int32.ofNat u) C = 2 * b + u := by
    rcases (show u = 0 ∨ u = 1 by omega) with rfl | rfl <;> rfl
  have ls : X2_stands (2 * b + u) C = if 0 < l then 1 else 0 := by
    unfold X2_stands
    rw [l2]
    by_cases hl : 0 < l
    · rw [if_pos hl, if_pos (by rw [show (0 : Int32) = Int32.ofNat 0 from rfl, i_ltn (by omega) (by omega)]; exact hl)]
    · rw [if_neg hl, if_neg (by rw [show (0 : Int32) = Int32.ofNat 0 from rfl, i_ltn (by omega) (by omega)]; exact hl)]
  have g8 : ∀ s0 : Int32, X8_textGives_J13 (Int32.ofNat u) x y z s0 R = if 0 < l then (X8_worked (Int32.ofNat (118 + 50 * u)) (Int32.ofNat l) (up3 (up3 (up3 R 24 0 0 x) 24 0 1 y) 24 0 2 z)).bind fun q2 => some (X8_held q2.1 0 99, q2.2) else some (X8_held s0 0 99, R) := by
    intro s0
    unfold X8_textGives_J13
    rw [show (96 : Int32) = Int32.ofNat 96 from rfl, i_ofadd, if_pos (ib_of (by omega) (by omega)), i_ofix (by omega), l3, show (118 : Int32) = Int32.ofNat 118 from rfl, show (50 : Int32) = Int32.ofNat 50 from rfl, i_ofmul, i_ofadd]
    by_cases hl : 0 < l
    · rw [if_pos hl, if_pos (by rw [show (0 : Int32) = Int32.ofNat 0 from rfl, i_ltn (by omega) (by omega)]; exact hl)]
    · rw [if_neg hl, if_neg (by rw [show (0 : Int32) = Int32.ofNat 0 from rfl, i_ltn (by omega) (by omega)]; exact hl)]
  by_cases hl : 0 < l
  · have hw : wfT (toks (C 13 (2 * b + u)) l) := by
      rcases l5 with e | e
      · omega
      · exact e
    have hdp : dep ((List.range' 0 l).map (C 13 (2 * b + u))) 0 = some 1 := by
      rw [← List.range_eq_range']
      exact hw.2
    obtain ⟨C', R', r1, r2, r3, r4, r5⟩ := work_L (j := 2 * b + u) (x := x) (y := y) (z := z) (tk := C 13 (2 * b + u)) hu l1 (fun k hk => hw.1 _ (List.mem_map.mpr ⟨k, List.mem_range.mpr hk, rfl⟩)) l 0 0 (by omega) (by omega) hdp 400 400 C (up3 (up3 (up3 R 24 0 0 x) 24 0 1 y) 24 0 2 z) (by omega) (by omega) l2 (fun k hk => rfl) (fun k hk => by rw [up3_f (by decide), up3_f (by decide), up3_f (by decide)]; exact l4 k hk) (by rw [up3_k (by decide), up3_k (by decide), up3_eq]) (by rw [up3_k (by decide), up3_eq]) up3_eq (fun k hk => absurd hk (Nat.not_lt_zero k))
    obtain ⟨q1, q2⟩ := held99 (C' 14 (2 * b + u) 0)
    refine ⟨X8_held (C' 14 (2 * b + u) 0) 0 99, C', R', ?_, ?_, q2, r4, ?_⟩
    · unfold X1_given
      rw [lw, if_pos (by omega), ls, if_pos hl, if_neg (by decide)]
      unfold X2_workedOut
      rw [show X2_workedOut_L6 400 (2 * b + u) x y z 0 0 C = _ from r1, ← q1, bs]
      dsimp only
      rw [if_pos (by decide), if_pos (by decide)]
      rfl
    · have e8 : X8_textGives (Int32.ofNat u) x y z R = X8_textGives_J13 (Int32.ofNat u) x y z (if u = 0 then x * y / 5 else 0) R := by
        rcases (show u = 0 ∨ u = 1 by omega) with rfl | rfl <;> rfl
      rw [e8, g8, if_pos hl]
      unfold X8_worked
      rw [show X8_worked_L5 400 (Int32.ofNat (118 + 50 * u)) (Int32.ofNat l) 0 (Int32.ofNat (118 + 50 * u)) _ = _ from r2, r3]
      rfl
    · have f24 : ∀ {M : Mem} {k : Nat} {w : Int32}, Fr (fun f _ => f = 24 ∨ f = 26) M (up3 M 24 0 k w) := Fr.up (Or.inl rfl)
      exact ((f24.tr f24).tr f24).tr (r5.mono (fun f i hh => Or.inr hh))
  · have z99 : inR (X8_held 0 0 99) 0 99 := ⟨by decide, by decide⟩
    rcases (show u = 0 ∨ u = 1 by omega) with rfl | rfl
    · obtain ⟨q1, q2⟩ := held99 (x * y / 5)
      refine ⟨X8_held (x * y / 5) 0 99, C, R, ?_, ?_, q2, Fr.rf, Fr.rf⟩
      · unfold X1_given
        rw [lw, if_pos (by omega), ls, if_neg hl, if_pos rfl, if_pos (by decide), q1]
      · show X8_textGives_J13 (Int32.ofNat 0) x y z (x * y / 5) R = _
        rw [g8, if_neg hl]
    · refine ⟨X8_held 0 0 99, C, R, ?_, ?_, z99, Fr.rf, Fr.rf⟩
      · unfold X1_given
        rw [lw, if_pos (by omega), ls, if_neg hl, if_pos rfl, if_neg (by decide), show jmax 0 (jmin 99 0) = X8_held 0 0 99 from by decide]
      · show X8_textGives_J13 (Int32.ofNat 1) x y z 0 R = _
        rw [g8, if_neg hl]
