theorem jmin_n {a b : Nat} (ha : a < 2147483648) (hb : b < 2147483648) : jmin (Int32.ofNat a) (Int32.ofNat b) = Int32.ofNat (min a b) := by
  unfold jmin
  by_cases h : Int32.ofNat b < Int32.ofNat a
  · rw [if_pos h]
    rw [i_ltn hb ha] at h
    rw [Nat.min_eq_right (by omega)]
  · rw [if_neg h]
    rw [i_ltn hb ha] at h
    rw [Nat.min_eq_left (by omega)]
theorem i_inj {a b : Nat} (ha : a < 2147483648) (hb : b < 2147483648) : Int32.ofNat a = Int32.ofNat b ↔ a = b := by
  rw [i_eq, i_of ha, i_of hb]
  omega
theorem she_rd {C R : Mem} {s : Nat} (h : Rel C R) (hs : s < 4) : R 28 0 s = C 5 s 1 ∧ R 29 0 s = C 5 s 2 ∧ ∀ k, k < 40 → R 30 0 (40 * s + k) = C 15 s k := by
  obtain ⟨⟨a, -⟩, ⟨c, -, c2, c3⟩, d⟩ := h.2.2.2.2.2 s hs
  exact ⟨a.symm, by rw [c2, c3], fun k hk => (d k hk).symm⟩
theorem nP_rd {C R : Mem} {n : Nat} (h : Rel C R) (e : C 1 0 5 = Int32.ofNat n) (hn : n ≤ 10) : nP (R 20 0) = n := by
  obtain ⟨n1, n2, -⟩ := RelD_n h.1
  rw [e, i_inj (by omega) (by omega)] at n2
  omega
theorem uses_L {s c n : Nat} (hs : s < 4) (hc : c ≤ 40) (hn : n ≤ 10) : ∀ (m i fu fu' : Nat) (C R : Mem), i + m = min c n → m < fu → m < fu' → Rel C R → C 5 s 2 = Int32.ofNat c → C 1 0 5 = Int32.ofNat n → ∃ r C' R', ((X7_uses_L51 fu s (Int32.ofNat (min c n)) (Int32.ofNat i) C).bind fun q4 => match q4 with
  | .inl q4 => (some (Int32.ofNat (min c n), q4))
  | .inr q4 => some q4) = some (r, C') ∧ X8_uses_L30 fu' (Int32.ofNat s) (Int32.ofNat i) R = some (r, R') ∧ Rel C' R' := by
  intro m
  induction m with
  | zero =>
    intro i fu fu' C R hi hf hf' h e5 en
    obtain ⟨fu, rfl⟩ : ∃ g, fu = g + 1 := ⟨fu - 1, by omega⟩
    obtain ⟨fu', rfl⟩ : ∃ g, fu' = g + 1 := ⟨fu' - 1, by omega⟩
    obtain ⟨q1, q2, q3⟩ := she_rd h hs
    have hP := nP_rd h en hn
    have n3 := (RelD_n h.1).2.2.1
    rw [hP] at n3
    have him : i = min c n := by omega
    refine ⟨Int32.ofNat i, C, R, ?_, ?_, h⟩
    · rw [X7_uses_L51, if_neg (by rw [i_ltn (by omega) (by omega)]; omega), bs, ← him]
    · rw [X8_uses_L30, if_pos (ib_of hs (by omega)), i_ofix (by omega), q2, e5]
      by_cases hic : i < c
      · rw [if_pos (by rw [i_ltn (by omega) (by omega)]; exact hic), n3, if_neg (by rw [i_ltn (by omega) (by omega)]; omega)]
      · rw [if_neg (by rw [i_ltn (by omega) (by omega)]; exact hic)]
  | succ m ih =>
    intro i fu fu' C R hi hf hf' h e5 en
    obtain ⟨fu, rfl⟩ : ∃ g, fu = g + 1 := ⟨fu - 1, by omega⟩
    obtain ⟨fu', rfl⟩ : ∃ g, fu' = g + 1 := ⟨fu' - 1, by omega⟩
    obtain ⟨q1, q2, q3⟩ := she_rd h hs
    have hP := nP_rd h en hn
    have n3 := (RelD_n h.1).2.2.1
    rw [hP] at n3
    have hic : i < c := by omega
    have hin : i < n := by omega
    obtain ⟨v, hv⟩ : ∃ v, v = C 15 s i := ⟨_, rfl⟩
    have hv8 : R 30 0 (40 * s + i) = v := by rw [hv]; exact q3 i (by omega)
    have s7 : X7_uses_L51 (fu + 1) s (Int32.ofNat (min c n)) (Int32.ofNat i) C = if X7_isWithin v 9 = 0 then some (.inr (Int32.ofNat i, C)) else X7_uses_L51 fu s (Int32.ofNat (min c n)) (Int32.ofNat (i + 1)) (up3 C 3 (10 * 0 + i) 3 v) := by
      rw [X7_uses_L51, if_pos (by rw [i_ltn (by omega) (by omega)]; omega), if_pos (ib_of (k := i) (n := 40) (by omega) (by omega)), i_ofix (by omega), ← hv, if_pos (ib_of (k := i) (n := 10) (by omega) (by omega)), i_succ]
    have s8 : X8_uses_L30 (fu' + 1) (Int32.ofNat s) (Int32.ofNat i) R = if X8_in (v.toInt64) (0 : Int64) (9 : Int64) = 0 then some (Int32.ofNat i, R) else X8_uses_L30 fu' (Int32.ofNat s) (Int32.ofNat (i + 1)) (up3 R 20 0 (16 + 8 * i + 3) v) := by
      rw [X8_uses_L30, if_pos (ib_of (k := s) (n := 4) hs (by omega)), i_ofix (n := s) (by omega), q2, e5, if_pos (show Int32.ofNat i < Int32.ofNat c by rw [i_ltn (by omega) (by omega)]; exact hic), n3, if_pos (show Int32.ofNat i < Int32.ofNat n by rw [i_ltn (by omega) (by omega)]; exact hin), sh_ix, if_pos (ib_of (by omega) (by omega)), i_ofix (by omega), hv8, s8_3 (by omega), bs, i_succ]
    rw [s7, s8]
    by_cases hz : 0 ≤ v.toInt ∧ v.toInt ≤ 9
    · rw [if_neg (show ¬ X7_isWithin v 9 = 0 by rw [is7_9]; exact not_not_intro hz), if_neg (show ¬ X8_in (v.toInt64) (0 : Int64) (9 : Int64) = 0 by rw [in8_0_9]; exact not_not_intro hz)]
      have hp : (i : Int) < (C 1 0 5).toInt := by rw [en, i_of (by omega)]; omega
      exact ih (i + 1) fu fu' _ _ (by omega) (by omega) (by omega) (Rel_pot (k := 3) hp (by omega) (by omega) hz h) (by rw [up3_f (by decide)]; exact e5) (by rw [up3_f (by decide)]; exact en)
    · rw [if_pos ((is7_9 v).mpr hz), if_pos ((in8_0_9 v).mpr hz)]
      exact ⟨Int32.ofNat i, C, R, by rw [bs], rfl, h⟩
theorem judge_L {s c n : Nat} (hs : s < 4) (hc : c ≤ 40) (hn : n ≤ 10) {C R : Mem} (h : Rel C R) (e5 : C 5 s 2 = Int32.ofNat c) (en : C 1 0 5 = Int32.ofNat n) : ∀ (m i fu fu' : Nat), i + m = min c n → m < fu → m < fu' → ∃ r, ((X7_judge_L51 fu s (Int32.ofNat (min c n)) (Int32.ofNat i) C).bind fun q4 => match q4 with
  | .inl q4 => (if Int32.ofNat c = Int32.ofNat n then (some ((-1), C)) else (some (Int32.ofNat (min c n), C)))
  | .inr q4 => some q4) = some (r, C) ∧ ((X8_judge_L30 fu' (Int32.ofNat s) (Int32.ofNat i) R).bind fun q5 => (X8_judge_J77 (Int32.ofNat s) q5 R)) = some (r, R) := by
  obtain ⟨q1, q2, q3⟩ := she_rd h hs
  have hP := nP_rd h en hn
  have n3 := (RelD_n h.1).2.2.1
  rw [hP] at n3
  have j77 : ∀ k, k < 2147483648 → X8_judge_J77 (Int32.ofNat s) (Int32.ofNat k) R = if k = c ∧ k = n then some (-1, R) else some (Int32.ofNat k, R) := by
    intro k hk
    unfold X8_judge_J77
    rw [if_pos (ib_of hs (by omega)), i_ofix (by omega), q2, e5, n3]
    by_cases h1 : k = c
    · rw [if_pos (by rw [h1])]
      by_cases h2 : k = n
      · rw [if_pos (by rw [h2]), if_pos ⟨h1, h2⟩]
      · rw [if_neg (by rw [i_inj hk (by omega)]; exact h2), if_neg (fun e => h2 e.2)]
    · rw [if_neg (by rw [i_inj hk (by omega)]; exact h1), if_neg (fun e => h1 e.1)]
  intro m
  induction m with
  | zero =>
    intro i fu fu' hi hf hf'
    obtain ⟨fu, rfl⟩ : ∃ g, fu = g + 1 := ⟨fu - 1, by omega⟩
    obtain ⟨fu', rfl⟩ : ∃ g, fu' = g + 1 := ⟨fu' - 1, by omega⟩
    have him : i = min c n := by omega
    have e8 : X8_judge_L30 (fu' + 1) (Int32.ofNat s) (Int32.ofNat i) R = some (Int32.ofNat i) := by
      rw [X8_judge_L30, if_pos (ib_of hs (by omega)), i_ofix (by omega), q2, e5]
      by_cases hic : i < c
      · rw [if_pos (by rw [i_ltn (by omega) (by omega)]; exact hic), n3, if_neg (by rw [i_ltn (by omega) (by omega)]; omega)]
      · rw [if_neg (by rw [i_ltn (by omega) (by omega)]; exact hic)]
    rw [X7_judge_L51, if_neg (show ¬ Int32.ofNat i < Int32.ofNat (min c n) by rw [i_ltn (by omega) (by omega)]; omega), bs, e8, bs, j77 i (by omega)]
    by_cases hcn : c = n
    · refine ⟨-1, ?_, ?_⟩
      · show (if _ then _ else _) = _
        rw [if_pos (by rw [hcn])]
      · rw [if_pos ⟨by omega, by omega⟩]
    · refine ⟨Int32.ofNat i, ?_, ?_⟩
      · show (if _ then _ else _) = _
        rw [if_neg (by rw [i_inj (by omega) (by omega)]; exact hcn), him]
      · rw [if_neg (by omega)]
  | succ m ih =>
    intro i fu fu' hi hf hf'
    obtain ⟨fu, rfl⟩ : ∃ g, fu = g + 1 := ⟨fu - 1, by omega⟩
    obtain ⟨fu', rfl⟩ : ∃ g, fu' = g + 1 := ⟨fu' - 1, by omega⟩
    have hic : i < c := by omega
    have hin : i < n := by omega
    have e6 : C 3 (10 * 0 + i) 6 = R 20 0 (16 + 8 * i + 6) := pot_rd h.1 (by rw [en, i_of (by omega)]; omega) (by omega)
    obtain ⟨v, hv⟩ : ∃ v, v = C 15 s i := ⟨_, rfl⟩
    have hv8 : R 30 0 (40 * s + i) = v := by rw [hv]; exact q3 i (by omega)
    have s7 : X7_judge_L51 (fu + 1) s (Int32.ofNat (min c n)) (Int32.ofNat i) C = if v = R 20 0 (16 + 8 * i + 6) then X7_judge_L51 fu s (Int32.ofNat (min c n)) (Int32.ofNat (i + 1)) C else some (.inr (Int32.ofNat i, C)) := by
      rw [X7_judge_L51, if_pos (by rw [i_ltn (by omega) (by omega)]; omega), if_pos (ib_of (k := i) (n := 40) (by omega) (by omega)), i_ofix (by omega), ← hv, if_pos (ib_of (k := i) (n := 10) (by omega) (by omega)), e6, i_succ]
    have s8 : X8_judge_L30 (fu' + 1) (Int32.ofNat s) (Int32.ofNat i) R = if v = R 20 0 (16 + 8 * i + 6) then X8_judge_L30 fu' (Int32.ofNat s) (Int32.ofNat (i + 1)) R else some (Int32.ofNat i) := by
      rw [X8_judge_L30, if_pos (ib_of (k := s) (n := 4) hs (by omega)), i_ofix (n := s) (by omega), q2, e5, if_pos (show Int32.ofNat i < Int32.ofNat c by rw [i_ltn (by omega) (by omega)]; exact hic), n3, if_pos (show Int32.ofNat i < Int32.ofNat n by rw [i_ltn (by omega) (by omega)]; exact hin), sh_ix, if_pos (ib_of (by omega) (by omega)), i_ofix (by omega), hv8, o8_6 (by omega), bs, i_succ]
    rw [s7, s8]
    by_cases hz : v = R 20 0 (16 + 8 * i + 6)
    · rw [if_pos hz, if_pos hz]
      exact ih (i + 1) fu fu' (by omega) (by omega) (by omega)
    · rw [if_neg hz, if_neg hz]
      refine ⟨Int32.ofNat i, by rw [bs], ?_⟩
      rw [bs, j77 i (by omega), if_neg (by omega)]
theorem cp_step2 {M : Mem} {f i g j a b m : Nat} (hn : ¬ f = g) : cp3 (up3 M g j b (M f i a)) f i (a + 1) g j (b + 1) m = cp3 M f i a g j b (m + 1) := by
  funext f' i' k'
  unfold cp3
  by_cases h : f' = g ∧ i' = j ∧ b + 1 ≤ k' ∧ k' < b + 1 + m
  · rw [if_pos h, if_pos (by omega), up3_f hn, show a + 1 + (k' - (b + 1)) = a + (k' - b) by omega]
  · rw [if_neg h]
    by_cases h2 : f' = g ∧ i' = j ∧ k' = b
    · obtain ⟨rfl, rfl, rfl⟩ := h2
      rw [if_pos (by omega), up3_eq, show a + (k' - k') = a by omega]
    · rw [if_neg (by omega)]
      exact if_neg (fun e => h2 ⟨e.1, e.2.2, e.2.1⟩)
theorem cp_none2 {M : Mem} {f i g j a b : Nat} : cp3 M f i a g j b 0 = M := by
  funext f' i' k'
  unfold cp3
  rw [if_neg (by omega)]
theorem move_L1 {s x n : Nat} {v3 v4 : Int32} (hx : 40 * s + x + n ≤ 160) (hn : n ≤ 40) : ∀ (m k fu : Nat) (M : Mem), k + m = n → m < fu → X8_move_L115 fu (Int32.ofNat s) (Int32.ofNat x) v3 v4 (Int32.ofNat n) (Int32.ofNat k) M = some (cp3 M 30 0 (40 * s + x + k) 31 0 k m) := by
  intro m
  induction m with
  | zero =>
    intro k fu M hk hf
    obtain ⟨fu, rfl⟩ : ∃ g, fu = g + 1 := ⟨fu - 1, by omega⟩
    rw [X8_move_L115, if_neg (by rw [i_ltn (by omega) (by omega)]; omega), cp_none2]
  | succ m ih =>
    intro k fu M hk hf
    obtain ⟨fu, rfl⟩ : ∃ g, fu = g + 1 := ⟨fu - 1, by omega⟩
    rw [X8_move_L115, if_pos (by rw [i_ltn (by omega) (by omega)]; omega), sh_ix, i_ofadd, if_pos (ib_of (k := 40 * s + x + k) (n := 160) (by omega) (by omega)), if_pos (ib_of (k := k) (n := 40) (by omega) (by omega)), i_ofix (n := 40 * s + x + k) (by omega), i_ofix (n := k) (by omega), i_succ, ih (k + 1) fu _ (by omega) (by omega), show 40 * s + x + (k + 1) = 40 * s + x + k + 1 by omega, cp_step2 (by decide)]
theorem move_L2 {o y n : Nat} (hx : 40 * o + y + n ≤ 160) (hn : n ≤ 40) : ∀ (m k fu : Nat) (M : Mem), k + m = n → m < fu → X8_move_L152 fu (Int32.ofNat o) (Int32.ofNat y) (Int32.ofNat n) (Int32.ofNat k) M = some (cp3 M 31 0 k 30 0 (40 * o + y + k) m) := by
  intro m
  induction m with
  | zero =>
    intro k fu M hk hf
    obtain ⟨fu, rfl⟩ : ∃ g, fu = g + 1 := ⟨fu - 1, by omega⟩
    rw [X8_move_L152, if_neg (by rw [i_ltn (by omega) (by omega)]; omega), cp_none2]
  | succ m ih =>
    intro k fu M hk hf
    obtain ⟨fu, rfl⟩ : ∃ g, fu = g + 1 := ⟨fu - 1, by omega⟩
    rw [X8_move_L152, if_pos (by rw [i_ltn (by omega) (by omega)]; omega), sh_ix, i_ofadd, if_pos (ib_of (k := k) (n := 40) (by omega) (by omega)), if_pos (ib_of (k := 40 * o + y + k) (n := 160) (by omega) (by omega)), i_ofix (n := 40 * o + y + k) (by omega), i_ofix (n := k) (by omega), i_succ, ih (k + 1) fu _ (by omega) (by omega), show 40 * o + y + (k + 1) = 40 * o + y + k + 1 by omega, cp_step2 (by decide)]
theorem holds7 {C : Mem} {s c : Nat} (hc : c ≤ 40) (e : C 5 s 2 = Int32.ofNat c) (x n : Int32) : X5_holds s x n C = 0 ↔ ¬ (0 ≤ n.toInt ∧ 0 ≤ x.toInt ∧ n.toInt + x.toInt ≤ c) := by
  unfold X5_holds
  rw [e]
  by_cases h1 : n < 0
  · rw [if_pos h1]; rw [i_lt, i_z] at h1; exact ⟨fun _ => by omega, fun _ => rfl⟩
  rw [if_neg h1]; rw [i_lt, i_z] at h1
  by_cases h2 : x < 0
  · rw [if_pos h2]; rw [i_lt, i_z] at h2; exact ⟨fun _ => by omega, fun _ => rfl⟩
  rw [if_neg h2]; rw [i_lt, i_z] at h2
  by_cases h3 : Int32.ofNat c < n
  · rw [if_pos h3]; rw [i_lt, i_of (by omega)] at h3; exact ⟨fun _ => by omega, fun _ => rfl⟩
  rw [if_neg h3]; rw [i_lt, i_of (by omega)] at h3
  have e1 : (Int32.ofNat c - n).toInt = c - n.toInt := by
    rw [i_sub (by rw [i_of (by omega)]; omega) (by rw [i_of (by omega)]; omega), i_of (by omega)]
  by_cases h4 : Int32.ofNat c - n < x
  · rw [if_pos h4]; rw [i_lt, e1] at h4; exact ⟨fun _ => by omega, fun _ => rfl⟩
  · rw [if_neg h4]; rw [i_lt, e1] at h4; exact ⟨fun h => absurd h (by decide), fun h => absurd ⟨by omega, by omega, by omega⟩ h⟩
theorem gap8 {c : Nat} (hc : c ≤ 40) {x n : Int32} (hx : 0 ≤ x.toInt) (hn : 0 ≤ n.toInt) : Int32.ofNat c - x < n ↔ ¬ (n.toInt + x.toInt ≤ c) := by
  have := i_hi x
  rw [i_lt, i_sub (by rw [i_of (by omega)]; omega) (by rw [i_of (by omega)]; omega), i_of (by omega)]
  omega
theorem eq_uses (a1 : Int32) : EqP Rel (X7_uses a1) (X8_uses a1) := by
  intro C R h
  obtain ⟨n, n1, n2, n3, -⟩ := id h.1
  by_cases c1 : ¬ (0 ≤ a1.toInt ∧ a1.toInt ≤ 3)
  · refine bad 1 (by omega) (by omega) h ?_ ?_
    · unfold X7_uses
      rw [if_pos ((sheet7 _).mpr c1)]
      exact bind_some2
    · unfold X8_uses
      rw [if_pos ((sheet8 _).mpr c1)]
      exact bind_some2
  replace c1 := Decidable.not_not.mp c1
  obtain ⟨s, hs, rfl⟩ := i_small (n := 4) c1.1 (by omega)
  have ixs : (Int32.ofNat s).toNatClampNeg = s := i_ofix (by omega)
  have ibs : ib (Int32.ofNat s) 4 = true := ib_of hs (by omega)
  obtain ⟨⟨d1, -⟩, ⟨c, hc, d2, d3⟩, d4⟩ := h.2.2.2.2.2 s hs
  by_cases hm : R 28 0 s = 0
  · refine bad 2 (by omega) (by omega) h ?_ ?_
    · unfold X7_uses; rw [if_neg (by rw [sheet7]; exact not_not_intro c1)]
      rw [if_pos ibs, ixs]
      unfold X5_isMissing
      rw [d1, if_pos hm, if_neg (by decide)]
      exact bind_some2
    · unfold X8_uses; rw [if_neg (by rw [sheet8]; exact not_not_intro c1)]
      rw [if_pos ibs, ixs, if_pos hm]
      exact bind_some2
  obtain ⟨r, C', R', g1, g2, g3⟩ := uses_L hs hc n1 (min c n) 0 400 400 C R (by omega) (by omega) (by omega) h d2 n2
  refine ⟨r, C', R', ?_, ?_, g3⟩
  · unfold X7_uses; rw [if_neg (by rw [sheet7]; exact not_not_intro c1)]
    rw [if_pos ibs, ixs]
    unfold X5_isMissing
    rw [d1, if_neg hm, if_pos (by decide), d2, n2, jmin_n (by omega) (by omega)]
    exact g1
  · unfold X8_uses; rw [if_neg (by rw [sheet8]; exact not_not_intro c1)]
    rw [if_pos ibs, ixs, if_neg hm, show X8_uses_L30 400 (Int32.ofNat s) 0 R = _ from g2]
    rfl
theorem eq_judge (a1 : Int32) : EqP Rel (X7_judge a1) (X8_judge a1) := by
  intro C R h
  obtain ⟨n, n1, n2, n3, -⟩ := id h.1
  by_cases c1 : ¬ (0 ≤ a1.toInt ∧ a1.toInt ≤ 3)
  · refine bad 1 (by omega) (by omega) h ?_ ?_
    · unfold X7_judge
      rw [if_pos ((sheet7 _).mpr c1)]
      exact bind_some2
    · unfold X8_judge
      rw [if_pos ((sheet8 _).mpr c1)]
      exact bind_some2
  replace c1 := Decidable.not_not.mp c1
  obtain ⟨s, hs, rfl⟩ := i_small (n := 4) c1.1 (by omega)
  have ixs : (Int32.ofNat s).toNatClampNeg = s := i_ofix (by omega)
  have ibs : ib (Int32.ofNat s) 4 = true := ib_of hs (by omega)
  obtain ⟨⟨d1, -⟩, ⟨c, hc, d2, d3⟩, d4⟩ := h.2.2.2.2.2 s hs
  by_cases hm : R 28 0 s = 0
  · refine bad 2 (by omega) (by omega) h ?_ ?_
    · unfold X7_judge; rw [if_neg (by rw [sheet7]; exact not_not_intro c1)]
      rw [if_pos ibs, ixs]
      unfold X5_isMissing
      rw [d1, if_pos hm, if_neg (by decide)]
      exact bind_some2
    · unfold X8_judge; rw [if_neg (by rw [sheet8]; exact not_not_intro c1)]
      rw [if_pos ibs, ixs, if_pos hm]
      exact bind_some2
  obtain ⟨r, g1, g2⟩ := judge_L hs hc n1 h d2 n2 (min c n) 0 400 400 (by omega) (by omega) (by omega)
  refine ⟨r, C, R, ?_, ?_, h⟩
  · unfold X7_judge; rw [if_neg (by rw [sheet7]; exact not_not_intro c1)]
    rw [if_pos ibs, ixs]
    unfold X5_isMissing
    rw [d1, if_neg hm, if_pos (by decide), d2, n2, jmin_n (by omega) (by omega)]
    exact g1
  · unfold X8_judge; rw [if_neg (by rw [sheet8]; exact not_not_intro c1)]
    rw [if_pos ibs, ixs, if_neg hm]
    exact g2
theorem eq_move (a1 a2 a3 a4 a5 : Int32) : EqP Rel (X7_move a1 a2 a3 a4 a5) (X8_move a1 a2 a3 a4 a5) := by
  intro C R h
  by_cases c1 : ¬ (0 ≤ a1.toInt ∧ a1.toInt ≤ 3)
  · refine bad 1 (by omega) (by omega) h ?_ ?_
    · unfold X7_move
      rw [if_pos ((sheet7 _).mpr c1)]
      exact bind_some2
    · unfold X8_move
      rw [if_pos ((sheet8 _).mpr c1)]
      exact bind_some2
  replace c1 := Decidable.not_not.mp c1
  by_cases c2 : ¬ (0 ≤ a3.toInt ∧ a3.toInt ≤ 3)
  · refine bad 1 (by omega) (by omega) h ?_ ?_
    · unfold X7_move
      rw [if_neg (by rw [sheet7]; exact not_not_intro c1), if_pos ((sheet7 _).mpr c2)]
      exact bind_some2
    · unfold X8_move
      rw [if_neg (by rw [sheet8]; exact not_not_intro c1), if_pos ((sheet8 _).mpr c2)]
      exact bind_some2
  replace c2 := Decidable.not_not.mp c2
  obtain ⟨s, hs, rfl⟩ := i_small (n := 4) c1.1 (by omega)
  obtain ⟨o, ho, rfl⟩ := i_small (n := 4) c2.1 (by omega)
  have ixs : (Int32.ofNat s).toNatClampNeg = s := i_ofix (by omega)
  have ibs : ib (Int32.ofNat s) 4 = true := ib_of hs (by omega)
  have ixo : (Int32.ofNat o).toNatClampNeg = o := i_ofix (by omega)
  have ibo : ib (Int32.ofNat o) 4 = true := ib_of ho (by omega)
  obtain ⟨⟨d1, -⟩, ⟨c, hc, d2, d3⟩, d4⟩ := h.2.2.2.2.2 s hs
  obtain ⟨⟨f1, -⟩, ⟨e, he, f2, f3⟩, f4⟩ := h.2.2.2.2.2 o ho
  have miss : ∀ v : Int32, (if v = 0 then (1 : Int32) else 0) = 0 ↔ ¬ v = 0 := by
    intro v
    by_cases hv : v = 0
    · rw [if_pos hv]; exact ⟨fun h => absurd h (by decide), fun h => absurd hv h⟩
    · rw [if_neg hv]; exact ⟨fun _ => hv, fun _ => rfl⟩
  by_cases hm : R 28 0 s = 0
  · refine bad 2 (by omega) (by omega) h ?_ ?_
    · unfold X7_move; rw [if_neg (by rw [sheet7]; exact not_not_intro c1), if_neg (by rw [sheet7]; exact not_not_intro c2)]
      rw [if_pos ibs, ixs, if_pos ibo, ixo]
      unfold X5_isMissing
      rw [d1, f1]
      rw [if_neg (fun e => (miss _).mp e hm)]
      exact bind_some2
    · unfold X8_move; rw [if_neg (by rw [sheet8]; exact not_not_intro c1), if_neg (by rw [sheet8]; exact not_not_intro c2)]
      rw [if_pos ibs, ixs, if_pos hm]
      exact bind_some2
  by_cases hm2 : R 28 0 o = 0
  · refine bad 2 (by omega) (by omega) h ?_ ?_
    · unfold X7_move; rw [if_neg (by rw [sheet7]; exact not_not_intro c1), if_neg (by rw [sheet7]; exact not_not_intro c2)]
      rw [if_pos ibs, ixs, if_pos ibo, ixo]
      unfold X5_isMissing
      rw [d1, f1]
      rw [if_pos ((miss _).mpr hm), if_neg (fun e => (miss _).mp e hm2)]
      exact bind_some2
    · unfold X8_move; rw [if_neg (by rw [sheet8]; exact not_not_intro c1), if_neg (by rw [sheet8]; exact not_not_intro c2)]
      rw [if_pos ibs, ixs, if_neg hm, if_pos ibo, ixo, if_pos hm2]
      exact bind_some2
  by_cases hk : ¬ R 28 0 s = R 28 0 o
  · refine bad 5 (by omega) (by omega) h ?_ ?_
    · unfold X7_move; rw [if_neg (by rw [sheet7]; exact not_not_intro c1), if_neg (by rw [sheet7]; exact not_not_intro c2)]
      rw [if_pos ibs, ixs, if_pos ibo, ixo]
      unfold X5_isMissing
      rw [d1, f1]
      rw [if_pos ((miss _).mpr hm), if_pos ((miss _).mpr hm2), if_neg hk]
      exact bind_some2
    · unfold X8_move; rw [if_neg (by rw [sheet8]; exact not_not_intro c1), if_neg (by rw [sheet8]; exact not_not_intro c2)]
      rw [if_pos ibs, ixs, if_neg hm, if_pos ibo, ixo, if_neg hm2, if_neg hk]
      exact bind_some2
  replace hk := Decidable.not_not.mp hk
  have t8 : ∀ X : Option (Int32 × Mem), (if a5 < 0 then ((X8_finds 1 R).bind fun q5 => (some (q5.1, q5.2))) else (if a2 < 0 then ((X8_finds 1 R).bind fun q6 => (some (q6.1, q6.2))) else (if a4 < 0 then ((X8_finds 1 R).bind fun q7 => (some (q7.1, q7.2))) else (if Int32.ofNat c - a2 < a5 then ((X8_finds 1 R).bind fun q8 => (some (q8.1, q8.2))) else (if Int32.ofNat e - a4 < a5 then ((X8_finds 1 R).bind fun q15 => (some (q15.1, q15.2))) else X))))) = if (0 ≤ a5.toInt ∧ 0 ≤ a2.toInt ∧ a5.toInt + a2.toInt ≤ c) ∧ (0 ≤ a5.toInt ∧ 0 ≤ a4.toInt ∧ a5.toInt + a4.toInt ≤ e) then X else X8_finds 1 R := by
    intro X
    by_cases h1 : a5 < 0
    · rw [if_pos h1, if_neg (by rw [i_lt, i_z] at h1; omega)]; exact bind_some2
    rw [if_neg h1]; rw [i_lt, i_z] at h1
    by_cases h2 : a2 < 0
    · rw [if_pos h2, if_neg (by rw [i_lt, i_z] at h2; omega)]; exact bind_some2
    rw [if_neg h2]; rw [i_lt, i_z] at h2
    by_cases h3 : a4 < 0
    · rw [if_pos h3, if_neg (by rw [i_lt, i_z] at h3; omega)]; exact bind_some2
    rw [if_neg h3]; rw [i_lt, i_z] at h3
    by_cases h4 : Int32.ofNat c - a2 < a5
    · rw [if_pos h4, if_neg (by rw [gap8 hc (by omega) (by omega)] at h4; omega)]; exact bind_some2
    rw [if_neg h4]; rw [gap8 hc (by omega) (by omega)] at h4
    by_cases h5 : Int32.ofNat e - a4 < a5
    · rw [if_pos h5, if_neg (by rw [gap8 he (by omega) (by omega)] at h5; omega)]; exact bind_some2
    rw [if_neg h5]; rw [gap8 he (by omega) (by omega)] at h5
    rw [if_pos (by omega)]
  have s8 : X8_move (Int32.ofNat s) a2 (Int32.ofNat o) a4 a5 R = if (0 ≤ a5.toInt ∧ 0 ≤ a2.toInt ∧ a5.toInt + a2.toInt ≤ c) ∧ (0 ≤ a5.toInt ∧ 0 ≤ a4.toInt ∧ a5.toInt + a4.toInt ≤ e) then ((X8_move_L115 400 (Int32.ofNat s) a2 (Int32.ofNat o) a4 a5 0 R).bind fun q11 => ((X8_move_L152 400 (Int32.ofNat o) a4 a5 0 q11).bind fun q14 => (some (a5, q14)))) else X8_finds 1 R := by
    unfold X8_move; rw [if_neg (by rw [sheet8]; exact not_not_intro c1), if_neg (by rw [sheet8]; exact not_not_intro c2)]
    rw [if_pos ibs, ixs, if_neg hm, if_pos ibo, ixo, if_neg hm2, if_pos hk, d3, f3]
    exact t8 _
  have s7 : X7_move (Int32.ofNat s) a2 (Int32.ofNat o) a4 a5 C = if (X5_holds s a2 a5 C) = 0 then X7_fail 1 C else (if (X5_holds o a4 a5 C) = 0 then X7_fail 1 C else (if cpok a2 a4 a5 40 40 = true then (some (a5, (cp3 C 15 s a2.toNatClampNeg 15 o a4.toNatClampNeg a5.toNatClampNeg))) else none)) := by
    unfold X7_move; rw [if_neg (by rw [sheet7]; exact not_not_intro c1), if_neg (by rw [sheet7]; exact not_not_intro c2)]
    rw [if_pos ibs, ixs, if_pos ibo, ixo]
    unfold X5_isMissing
    rw [d1, f1]
    rw [if_pos ((miss _).mpr hm), if_pos ((miss _).mpr hm2), if_pos hk, bind_some2]
  rw [s7, s8]
  by_cases g1 : 0 ≤ a5.toInt ∧ 0 ≤ a2.toInt ∧ a5.toInt + a2.toInt ≤ c
  · rw [if_neg (show ¬ X5_holds s a2 a5 C = 0 by rw [holds7 hc d2]; exact not_not_intro g1)]
    by_cases g2 : 0 ≤ a5.toInt ∧ 0 ≤ a4.toInt ∧ a5.toInt + a4.toInt ≤ e
    · rw [if_neg (show ¬ X5_holds o a4 a5 C = 0 by rw [holds7 he f2]; exact not_not_intro g2), if_pos (show _ ∧ _ from ⟨g1, g2⟩)]
      obtain ⟨n, hn, rfl⟩ := i_small (x := a5) (n := 41) (by omega) (by omega)
      obtain ⟨x, hx, rfl⟩ := i_small (x := a2) (n := 41) (by omega) (by omega)
      obtain ⟨y, hy, rfl⟩ := i_small (x := a4) (n := 41) (by omega) (by omega)
      rw [i_of (by omega), i_of (by omega)] at g1 g2
      have ok : cpok (Int32.ofNat x) (Int32.ofNat y) (Int32.ofNat n) 40 40 = true := by
        refine decide_eq_true ⟨?_, ?_, ?_, ?_, ?_⟩
        · rw [i_lt, i_of (by omega), i_z]; omega
        · rw [i_lt, i_of (by omega), i_z]; omega
        · rw [i_lt, i_of (by omega), i_z]; omega
        · rw [i_ofix (by omega), i_ofix (by omega)]; omega
        · rw [i_ofix (by omega), i_ofix (by omega)]; omega
      rw [if_pos ok, i_ofix (by omega), i_ofix (by omega), i_ofix (by omega)]
      rw [show X8_move_L115 400 (Int32.ofNat s) (Int32.ofNat x) (Int32.ofNat o) (Int32.ofNat y) (Int32.ofNat n) 0 R = _ from move_L1 (by omega) (by omega) n 0 400 R (by omega) (by omega), bs]
      obtain ⟨R1, eR⟩ : ∃ R1, R1 = cp3 R 30 0 (40 * s + x + 0) 31 0 0 n := ⟨_, rfl⟩
      rw [← eR, show X8_move_L152 400 (Int32.ofNat o) (Int32.ofNat y) (Int32.ofNat n) 0 R1 = _ from move_L2 (by omega) (by omega) n 0 400 R1 (by omega) (by omega), bs]
      have r1 : ∀ f i k, ¬ f = 31 → R1 f i k = R f i k := fun f i k hf => by rw [eR, cp3_f hf]
      have r31 : ∀ k, k < n → R1 31 0 k = R 30 0 (40 * s + x + k) := fun k hk => by
        rw [eR]
        unfold cp3
        rw [if_pos (by omega)]
        congr 1
      have h1 : Rel C R1 := Rel_TH Fr.rf ⟨fun k => r1 _ _ _ (by omega), fun k => r1 _ _ _ (by omega), fun f hf k => r1 _ _ _ (by omega), r1 _ _ _ (by omega), r1 _ _ _ (by omega)⟩ h
      refine ⟨_, _, _, rfl, rfl, Rel_she (Fr.cp (Or.inr rfl)) (fun f i k hf => cp3_f (by omega)) (fun s' hs' => ?_) h1⟩
      obtain ⟨⟨z1, z2⟩, ⟨c', w1, w2, w3⟩, z4⟩ := h1.2.2.2.2.2 s' hs'
      refine ⟨⟨?_, ?_⟩, ⟨c', w1, ?_, ?_⟩, fun k hk => ?_⟩
      · rw [cp3_f (by decide), cp3_f (by decide)]; exact z1
      · rw [cp3_f (by decide)]; exact z2
      · rw [cp3_f (by decide)]; exact w2
      · rw [cp3_f (by decide)]; exact w3
      · by_cases hh : s' = o ∧ y ≤ k ∧ k < y + n
        · obtain ⟨rfl, hh1, hh2⟩ := hh
          have a : cp3 C 15 s x 15 s' y n 15 s' k = C 15 s (x + (k - y)) := if_pos ⟨rfl, rfl, hh1, hh2⟩
          have b : cp3 R1 31 0 0 30 0 (40 * s' + y + 0) n 30 0 (40 * s' + k) = R1 31 0 (k - y) := by
            unfold cp3
            rw [if_pos (by omega)]
            congr 1
            omega
          rw [a, b, r31 _ (by omega), show 40 * s + x + (k - y) = 40 * s + (x + (k - y)) by omega]
          exact d4 _ (by omega)
        · have a : cp3 C 15 s x 15 o y n 15 s' k = C 15 s' k := if_neg (fun q => hh q.2)
          have b : cp3 R1 31 0 0 30 0 (40 * o + y + 0) n 30 0 (40 * s' + k) = R1 30 0 (40 * s' + k) := if_neg (fun q => hh (by omega))
          rw [a, b]
          exact z4 k hk
    · rw [if_pos ((holds7 he f2 a4 a5).mpr g2), if_neg (fun q => g2 q.2)]
      exact bad2 1 (by omega) (by omega) h rfl rfl
  · rw [if_pos ((holds7 hc d2 a2 a5).mpr g1), if_neg (fun q => g1 q.1)]
    exact bad2 1 (by omega) (by omega) h rfl rfl
