theorem cp_step {M : Mem} {f i g j a m : Nat} (hn : ¬ f = g) : cp3 (up3 M g j a (M f i a)) f i (a + 1) g j (a + 1) m = cp3 M f i a g j a (m + 1) := by
  funext f' i' k'
  unfold cp3
  by_cases h : f' = g ∧ i' = j ∧ a + 1 ≤ k' ∧ k' < a + 1 + m
  · rw [if_pos h, if_pos (by omega), up3_f hn, show a + 1 + (k' - (a + 1)) = a + (k' - a) by omega]
  · rw [if_neg h]
    by_cases h2 : f' = g ∧ i' = j ∧ k' = a
    · obtain ⟨rfl, rfl, rfl⟩ := h2
      rw [if_pos (by omega), up3_eq, show k' + (k' - k') = k' by omega]
    · rw [if_neg (by omega)]
      exact if_neg (fun e => h2 ⟨e.1, e.2.2, e.2.1⟩)
theorem cp_none {M : Mem} {f i g j a : Nat} : cp3 M f i a g j a 0 = M := by
  funext f' i' k'
  unfold cp3
  rw [if_neg (by omega)]
theorem keep_L : ∀ (m k : Nat), k + m = 96 → ∀ (fu : Nat) (M : Mem), m < fu → X8_keepAside_L2 fu (Int32.ofNat k) M = some (cp3 M 20 0 k 22 0 k m) := by
  intro m
  induction m with
  | zero =>
    intro k hk fu M hf
    obtain ⟨fu, rfl⟩ : ∃ g, fu = g + 1 := ⟨fu - 1, by omega⟩
    obtain rfl : k = 96 := by omega
    rw [X8_keepAside_L2, if_neg (by decide), cp_none]
  | succ m ih =>
    intro k hk fu M hf
    obtain ⟨fu, rfl⟩ : ∃ g, fu = g + 1 := ⟨fu - 1, by omega⟩
    rw [X8_keepAside_L2, if_pos (by rw [show (96 : Int32) = Int32.ofNat 96 from rfl, i_ltn (by omega) (by omega)]; omega), if_pos (ib_of (k := k) (n := 268) (by omega) (by omega)), if_pos (ib_of (k := k) (n := 96) (by omega) (by omega)), i_ofix (by omega), i_succ, ih (k + 1) (by omega) fu _ (by omega), cp_step (by decide)]
theorem back_L : ∀ (m k : Nat), k + m = 96 → ∀ (fu : Nat) (M : Mem), m < fu → X8_putBack_L2 fu (Int32.ofNat k) M = some (cp3 M 22 0 k 20 0 k m) := by
  intro m
  induction m with
  | zero =>
    intro k hk fu M hf
    obtain ⟨fu, rfl⟩ : ∃ g, fu = g + 1 := ⟨fu - 1, by omega⟩
    obtain rfl : k = 96 := by omega
    rw [X8_putBack_L2, if_neg (by decide), cp_none]
  | succ m ih =>
    intro k hk fu M hf
    obtain ⟨fu, rfl⟩ : ∃ g, fu = g + 1 := ⟨fu - 1, by omega⟩
    rw [X8_putBack_L2, if_pos (by rw [show (96 : Int32) = Int32.ofNat 96 from rfl, i_ltn (by omega) (by omega)]; omega), if_pos (ib_of (k := k) (n := 96) (by omega) (by omega)), if_pos (ib_of (k := k) (n := 268) (by omega) (by omega)), i_ofix (by omega), i_succ, ih (k + 1) (by omega) fu _ (by omega), cp_step (by decide)]
theorem image_L : ∀ (m k : Nat), k + m = 268 → ∀ (fu : Nat) (M : Mem), m < fu → X8_image_L2 fu (Int32.ofNat k) M = some (cp3 M 20 0 k 21 0 k m) := by
  intro m
  induction m with
  | zero =>
    intro k hk fu M hf
    obtain ⟨fu, rfl⟩ : ∃ g, fu = g + 1 := ⟨fu - 1, by omega⟩
    obtain rfl : k = 268 := by omega
    rw [X8_image_L2, if_neg (by decide), cp_none]
  | succ m ih =>
    intro k hk fu M hf
    obtain ⟨fu, rfl⟩ : ∃ g, fu = g + 1 := ⟨fu - 1, by omega⟩
    rw [X8_image_L2, if_pos (by rw [show (268 : Int32) = Int32.ofNat 268 from rfl, i_ltn (by omega) (by omega)]; omega), if_pos (ib_of (k := k) (n := 268) (by omega) (by omega)), i_ofix (by omega), i_succ, ih (k + 1) (by omega) fu _ (by omega), cp_step (by decide)]
theorem rest_L : ∀ (m k : Nat), k + m = 268 → ∀ (fu : Nat) (M : Mem), m < fu → X8_restore_L15 fu (Int32.ofNat k) M = some (cp3 M 21 0 k 20 0 k m) := by
  intro m
  induction m with
  | zero =>
    intro k hk fu M hf
    obtain ⟨fu, rfl⟩ : ∃ g, fu = g + 1 := ⟨fu - 1, by omega⟩
    obtain rfl : k = 268 := by omega
    rw [X8_restore_L15, if_neg (by decide), cp_none]
  | succ m ih =>
    intro k hk fu M hf
    obtain ⟨fu, rfl⟩ : ∃ g, fu = g + 1 := ⟨fu - 1, by omega⟩
    rw [X8_restore_L15, if_pos (by rw [show (268 : Int32) = Int32.ofNat 268 from rfl, i_ltn (by omega) (by omega)]; omega), if_pos (ib_of (k := k) (n := 268) (by omega) (by omega)), i_ofix (by omega), i_succ, ih (k + 1) (by omega) fu _ (by omega), cp_step (by decide)]
/-- the reference thinks: its row is kept aside -/
def ThR (R R1 : Mem) : Prop := (∀ f i k, ¬ f = 20 → ¬ f = 22 → ¬ f = 24 → ¬ f = 26 → R1 f i k = R f i k) ∧ (∀ k, 96 ≤ k → R1 20 0 k = R 20 0 k) ∧ ∀ k, k < 96 → R1 22 0 k = R 20 0 k
def ThB (R R1 : Mem) : Prop := ThR R R1 ∧ R1 20 0 = R 20 0
theorem cp3_in {M : Mem} {f i g j n k : Nat} (h : k < n) : cp3 M f i 0 g j 0 n g j k = M f i k := by
  unfold cp3
  rw [if_pos (by omega)]
  congr 1
  omega
theorem cp3_out {M : Mem} {f i g j n k : Nat} (h : n ≤ k) : cp3 M f i 0 g j 0 n g j k = M g j k := if_neg (by omega)
theorem keep8 (R : Mem) : ∃ R1, X8_keepAside R = some R1 ∧ ThB R R1 := by
  refine ⟨cp3 R 20 0 0 22 0 0 96, ?_, ⟨fun f i k a b _ _ => cp3_f b, fun k _ => cp3_f (by decide), fun k hk => cp3_in hk⟩, funext fun k => cp3_f (by decide)⟩
  unfold X8_keepAside
  rw [show X8_keepAside_L2 400 0 R = _ from keep_L 96 0 rfl 400 R (by omega)]
  rfl
theorem back8 {R R1 : Mem} (h : ThR R R1) : ∃ R2, X8_putBack R1 = some R2 ∧ ThB R R2 := by
  have e : (cp3 R1 22 0 0 20 0 0 96) 20 0 = R 20 0 := by
    funext k
    by_cases hk : k < 96
    · rw [cp3_in hk]; exact h.2.2 k hk
    · rw [cp3_out (by omega)]; exact h.2.1 k (by omega)
  refine ⟨cp3 R1 22 0 0 20 0 0 96, ?_, ⟨fun f i k a b c d => (cp3_f a).trans (h.1 f i k a b c d), fun k _ => by rw [e], fun k hk => (cp3_f (by decide)).trans (h.2.2 k hk)⟩, e⟩
  unfold X8_putBack
  rw [show X8_putBack_L2 400 0 R1 = _ from back_L 96 0 rfl 400 R1 (by omega)]
  rfl
theorem ThB_Fr {R R1 : Mem} (h : ThB R R1) : FrR R R1 :=
  ⟨fun k => by rw [h.2], fun k => h.1.1 21 0 k (by omega) (by omega) (by omega) (by omega), fun f hf k => h.1.1 f 0 k (by omega) (by omega) (by omega) (by omega), h.1.1 19 0 3 (by omega) (by omega) (by omega) (by omega), h.1.1 19 0 16 (by omega) (by omega) (by omega) (by omega)⟩
theorem ThR_Y {R R1 R2 : Mem} (h : ThR R R1) (h' : FrY R1 R2) : ThR R R2 :=
  ⟨fun f i k a b c d => (h'.1 f i k a c d).trans (h.1 f i k a b c d), fun k hk => (h'.2 k (by omega)).trans (h.2.1 k hk), fun k hk => (h'.1 22 0 k (by omega) (by omega) (by omega)).trans (h.2.2 k hk)⟩
theorem ThR_20 {R R1 R2 : Mem} (h : ThR R R1) (h' : ∀ f i k, ¬ f = 20 → R2 f i k = R1 f i k) (h2 : ∀ k, 96 ≤ k → R2 20 0 k = R1 20 0 k) : ThR R R2 :=
  ⟨fun f i k a b c d => (h' f i k a).trans (h.1 f i k a b c d), fun k hk => (h2 k hk).trans (h.2.1 k hk), fun k hk => (h' 22 0 k (by omega)).trans (h.2.2 k hk)⟩
theorem ThR_up {R R1 : Mem} {j : Nat} {v : Int32} (h : ThR R R1) (hj : j < 96) : ThR R (up3 R1 20 0 j v) :=
  ThR_20 h (fun f i k a => up3_f a) (fun k hk => up3_k (by omega))
/-- the cells of a District -/
def DIST (a f i : Nat) : Prop := (f = 1 ∧ i = a) ∨ (f = 3 ∧ 10 * a ≤ i ∧ i < 10 * a + 10) ∨ ((f = 10 ∨ f = 11) ∧ i = a) ∨ ((f = 2 ∨ f = 13) ∧ (i = 2 * a ∨ i = 2 * a + 1))
theorem nbZ_2 (x : Int32) : nbZ (nbZ x) = nbZ x := by
  unfold nbZ
  by_cases h : x = 0
  · rw [if_pos h, if_pos rfl]
  · rw [if_neg h, if_neg (by decide)]
theorem potcopy {i j : Nat} {M : Mem} : ∃ M', X3_copy i j M = some M' ∧ Fr (fun f x => f = 3 ∧ x = i) M M' ∧ (∀ k, k < 7 → M' 3 i k = M 3 j k) ∧ nbZ (M' 3 i 7) = nbZ (M 3 j 7) := by
  refine ⟨_, rfl, fun f x k hn => ?_, fun k hk => ?_, ?_⟩
  · have s : ∀ {Q : Mem} {y : Nat} {v : Int32}, up3 Q 3 i y v f x k = Q f x k := if_neg (fun e => hn ⟨e.1, e.2.2⟩)
    rw [s, s, s, s, s, s, s, s]
  · rcases (show k = 0 ∨ k = 1 ∨ k = 2 ∨ k = 3 ∨ k = 4 ∨ k = 5 ∨ k = 6 by omega) with rfl | rfl | rfl | rfl | rfl | rfl | rfl <;> simp [up3]
  · rw [up3_eq, nbZ_2]
theorem copy_L {a b n : Nat} (ha : a < 3) (hb : b < 3) (hab : ¬ a = b) (hn : n ≤ 10) : ∀ (m p fu : Nat) (C : Mem), p + m = n → m < fu → C 1 b 5 = Int32.ofNat n → ∃ C', X1_copy_L30 fu a b (Int32.ofNat p) C = some C' ∧ Fr (fun f i => f = 3 ∧ 10 * a + p ≤ i ∧ i < 10 * a + 10) C C' ∧ ∀ q, p ≤ q → q < n → (∀ k, k < 7 → C' 3 (10 * a + q) k = C 3 (10 * b + q) k) ∧ nbZ (C' 3 (10 * a + q) 7) = nbZ (C 3 (10 * b + q) 7) := by
  intro m
  induction m with
  | zero =>
    intro p fu C hp hf e
    obtain ⟨fu, rfl⟩ : ∃ g, fu = g + 1 := ⟨fu - 1, by omega⟩
    refine ⟨C, ?_, Fr.rf, fun q q1 q2 => by omega⟩
    rw [X1_copy_L30, e, if_neg (by rw [i_ltn (by omega) (by omega)]; omega)]
  | succ m ih =>
    intro p fu C hp hf e
    obtain ⟨fu, rfl⟩ : ∃ g, fu = g + 1 := ⟨fu - 1, by omega⟩
    obtain ⟨C1, g1, g2, g3, g4⟩ := potcopy (i := 10 * a + p) (j := 10 * b + p) (M := C)
    obtain ⟨C2, k1, k2, k3⟩ := ih (p + 1) fu C1 (by omega) (by omega) (by rw [g2 1 b 5 (by omega)]; exact e)
    refine ⟨C2, ?_, ?_, fun q q1 q2 => ?_⟩
    · rw [X1_copy_L30, e, if_pos (by rw [i_ltn (by omega) (by omega)]; omega), if_pos (ib_of (by omega) (by omega)), i_ofix (by omega), g1, bs, i_succ, k1]
    · exact (g2.mono (fun f i hh => by omega)).tr (k2.mono (fun f i hh => by omega))
    · by_cases hq : q = p
      · subst hq
        refine ⟨fun k hk => ?_, ?_⟩
        · rw [k2 3 (10 * a + q) k (by omega)]; exact g3 k hk
        · rw [k2 3 (10 * a + q) 7 (by omega)]; exact g4
      · obtain ⟨z1, z2⟩ := k3 q (by omega) q2
        refine ⟨fun k hk => ?_, ?_⟩
        · rw [z1 k hk]; exact g2 3 _ k (by omega)
        · rw [z2, g2 3 _ 7 (by omega)]
theorem law_copy {i j u : Nat} {C : Mem} {D : Nat → Int32} (h : RelL C j D u) : ∃ C', X2_copy i j C = some C' ∧ RelL C' i D u ∧ Fr (fun f x => (f = 2 ∨ f = 13) ∧ x = i) C C' := by
  obtain ⟨l, l1, l2, l3, l4, l5⟩ := h
  have ok : cpok (0 : Int32) (0 : Int32) (Int32.ofNat l) 50 50 = true := by
    refine decide_eq_true ⟨by decide, by decide, ?_, ?_, ?_⟩
    · rw [i_lt, i_of (by omega), i_z]; omega
    · rw [i_ofix (by omega)]; show 0 + l ≤ 50; omega
    · rw [i_ofix (by omega)]; show 0 + l ≤ 50; omega
  have e13 : ∀ k, k < l → (up3 (cp3 C 13 j 0 13 i 0 l) 2 i 2 (Int32.ofNat l)) 13 i k = C 13 j k := fun k hk => by rw [up3_f (by decide), cp3_in hk]
  refine ⟨up3 (cp3 C 13 j 0 13 i 0 l) 2 i 2 (Int32.ofNat l), ?_, ⟨l, l1, up3_eq, l3, fun k hk => ?_, ?_⟩, ?_⟩
  · unfold X2_copy
    rw [l2, if_pos ok, i_ofix (by omega)]
  · rw [e13 k hk]; exact l4 k hk
  · rw [toks_cg e13]; exact l5
  · exact (Fr.cp ⟨Or.inr rfl, rfl⟩).tr (Fr.up ⟨Or.inl rfl, rfl⟩)
theorem copy_eq {a b : Nat} {C : Mem} {D : Nat → Int32} (ha : a < 3) (hb : b < 3) (hab : ¬ a = b) (h : RelD b C D) : ∃ C', X1_copy a b C = some C' ∧ RelD a C' D ∧ Fr (DIST a) C C' := by
  obtain ⟨n, n1, n2, n3, n4, n5, n6, n7, n8, n9⟩ := id h
  obtain ⟨C1, eC1⟩ : ∃ C1, C1 = cp3 (cp3 C 10 b 0 10 a 0 5) 11 b 0 11 a 0 5 := ⟨_, rfl⟩
  have f1 : Fr (fun f i => (f = 10 ∨ f = 11) ∧ i = a) C C1 := by
    rw [eC1]
    exact (Fr.cp ⟨Or.inl rfl, rfl⟩).tr (Fr.cp ⟨Or.inr rfl, rfl⟩)
  have h10 : ∀ k, k < 5 → C1 10 a k = C 10 b k := fun k hk => by rw [eC1, cp3_f (by decide), cp3_in hk]
  have h11 : ∀ k, k < 5 → C1 11 a k = C 11 b k := fun k hk => by rw [eC1, cp3_in hk, cp3_f (by decide)]
  obtain ⟨C2, g1, g2, g3⟩ := copy_L ha hb hab n1 n 0 400 C1 (by omega) (by omega) (by rw [f1 1 b 5 (by omega)]; exact n2)
  have rl : ∀ {Q : Mem} {S : Nat → Nat → Prop} {u : Nat}, Fr S C Q → (∀ i f, (f = 2 ∨ f = 13) → i = 2 * b + u → ¬ S f i) → RelL C (2 * b + u) D u → u < 2 → RelL Q (2 * b + u) D u := fun hf hs hr hu => RelL_cg hu (hf 2 _ 2 (hs _ _ (Or.inl rfl) rfl)) (fun k _ => hf 13 _ k (hs _ _ (Or.inr rfl) rfl)) (fun _ _ => rfl) hr
  have f2 : Fr (fun f i => ((f = 10 ∨ f = 11) ∧ i = a) ∨ (f = 3 ∧ 10 * a ≤ i ∧ i < 10 * a + 10)) C C2 := (f1.mono (fun f i hh => Or.inl hh)).tr (g2.mono (fun f i hh => by omega))
  obtain ⟨C3, k1, k2, k3⟩ := law_copy (i := 2 * a + 0) (rl f2 (fun i f _ _ => by omega) (n9 0 (by omega)) (by omega))
  have f3 : Fr (fun f i => ((f = 10 ∨ f = 11) ∧ i = a) ∨ (f = 3 ∧ 10 * a ≤ i ∧ i < 10 * a + 10) ∨ ((f = 2 ∨ f = 13) ∧ i = 2 * a + 0)) C C3 := (f2.mono (fun f i hh => by omega)).tr (k3.mono (fun f i hh => by omega))
  obtain ⟨C4, m1, m2, m3⟩ := law_copy (i := 2 * a + 1) (rl f3 (fun i f _ _ => by omega) (n9 1 (by omega)) (by omega))
  have f4 : Fr (fun f i => ((f = 10 ∨ f = 11) ∧ i = a) ∨ (f = 3 ∧ 10 * a ≤ i ∧ i < 10 * a + 10) ∨ ((f = 2 ∨ f = 13) ∧ (i = 2 * a ∨ i = 2 * a + 1))) C C4 := (f3.mono (fun f i hh => by omega)).tr (m3.mono (fun f i hh => by omega))
  obtain ⟨C5, eC5⟩ : ∃ C5, C5 = up3 (up3 (up3 C4 1 a 5 (C4 1 b 5)) 1 a 6 (C4 1 b 6)) 1 a 7 (C4 1 b 7) := ⟨_, rfl⟩
  have f5 : Fr (fun f i => f = 1 ∧ i = a) C4 C5 := by
    rw [eC5]
    exact ((Fr.up ⟨rfl, rfl⟩).tr (Fr.up ⟨rfl, rfl⟩)).tr (Fr.up ⟨rfl, rfl⟩)
  have e1 : ∀ k, C4 1 b k = C 1 b k := fun k => f4 1 b k (by omega)
  refine ⟨C5, ?_, ?_, ?_⟩
  · unfold X1_copy
    rw [if_pos (by decide), if_pos (by decide), ← eC1, show X1_copy_L30 400 a b 0 C1 = _ from g1, bs, show X2_copy (2 * a) (2 * b) C2 = _ from k1, bs, m1, bs, eC5]
  · refine ⟨n, n1, ?_, n3, fun p hp => ?_, ?_, ?_, n7, fun q hq => ?_, fun u hu => ?_⟩
    · rw [eC5, up3_k (by decide), up3_k (by decide), up3_eq, e1]; exact n2
    · obtain ⟨q1, q2, q3⟩ := n4 p hp
      obtain ⟨z1, z2⟩ := g3 p (by omega) hp
      have e3 : ∀ k, C5 3 (10 * a + p) k = C2 3 (10 * a + p) k := fun k => by rw [f5 3 _ k (by omega), m3 3 _ k (by omega), k3 3 _ k (by omega)]
      refine ⟨q1, fun k hk => ?_, ?_⟩
      · rw [e3, z1 k hk, f1 3 _ k (by omega)]; exact q2 k hk
      · rw [e3, z2, f1 3 _ 7 (by omega)]; exact q3
    · rw [eC5, up3_k (by decide), up3_eq, e1]; exact n5
    · rw [eC5, up3_eq, e1]; exact n6
    · have e10 : C5 10 a q = C 10 b q := by rw [f5 10 _ q (by omega), m3 10 _ q (by omega), k3 10 _ q (by omega), g2 10 _ q (by omega), h10 q hq]
      have e11 : C5 11 a q = C 11 b q := by rw [f5 11 _ q (by omega), m3 11 _ q (by omega), k3 11 _ q (by omega), g2 11 _ q (by omega), h11 q hq]
      rw [e10, e11]; exact n8 q hq
    · rcases (show u = 0 ∨ u = 1 by omega) with rfl | rfl
      · exact RelL_cg hu (by rw [f5 2 _ 2 (by omega), m3 2 _ 2 (by omega)]) (fun k _ => by rw [f5 13 _ k (by omega), m3 13 _ k (by omega)]) (fun _ _ => rfl) k2
      · exact RelL_cg hu (f5 2 _ 2 (by omega)) (fun k _ => f5 13 _ k (by omega)) (fun _ _ => rfl) m2
  · exact (f4.mono (fun f i hh => by unfold DIST; omega)).tr (f5.mono (fun f i hh => by unfold DIST; omega))
theorem DST_TH {f i : Nat} (h : DST 1 f i) : TH f i := by unfold DST at h; unfold TH; omega
theorem pass0 {b : Nat} {C : Mem} : X1_passYears b 0 C = some C := by
  show (X1_passYears_L2 (399 + 1) b 0 0 C).bind _ = _
  rw [X1_passYears_L2, if_neg (by decide)]
  rfl
theorem think_n {R R1 : Mem} (hR : ThB R R1) : nP (R1 20 0) = nP (R 20 0) := by rw [hR.2]
theorem think0 {C R C1 R1 : Mem} (h : Rel C R) (hC : Fr TH C C1) (hR : ThB R R1) : ∃ C2, X1_copy 1 0 C1 = some C2 ∧ X7_asNow C1 = some (1, C2) ∧ RelD 1 C2 (R1 20 0) ∧ Fr TH C C2 := by
  have h1 : RelD 0 C1 (R 20 0) := RelD_TH (Or.inl rfl) hC (fun _ _ => rfl) h.1
  obtain ⟨C2, g1, g2, g3⟩ := copy_eq (a := 1) (b := 0) (by omega) (by omega) (by omega) h1
  refine ⟨C2, g1, ?_, by rw [hR.2]; exact g2, hC.tr (g3.mono (fun f i hh => by unfold DIST at hh; unfold TH; omega))⟩
  unfold X7_asNow
  rw [g1, bs]
theorem thinkY {C R C1 R1 : Mem} {N : Nat} (hN : N < 400) (hC : Fr TH C C1) (hR : ThR R R1) (h : RelD 1 C1 (R1 20 0)) : ∃ C2 R2, X1_passYears 1 (Int32.ofNat N) C1 = some C2 ∧ X8_yearsGo (Int32.ofNat N) R1 = some R2 ∧ RelD 1 C2 (R2 20 0) ∧ Fr TH C C2 ∧ ThR R R2 ∧ nP (R2 20 0) = nP (R1 20 0) := by
  obtain ⟨C2, R2, g1, g2, g3, g4, g5⟩ := years_eq (b := 1) (by omega) hN h
  exact ⟨C2, R2, g1, g2, g3, hC.tr (g4.mono (fun f i hh => DST_TH hh)), ThR_Y hR g5, nP_cg (g5.2 0 (by omega))⟩
theorem thinkN {C R C1 R1 : Mem} {N : Nat} (hN : N < 400) (h : Rel C R) (hC : Fr TH C C1) (hR : ThB R R1) : ∃ C2 R2, X7_behind (Int32.ofNat N) C1 = some (1, C2) ∧ X8_yearsGo (Int32.ofNat N) R1 = some R2 ∧ RelD 1 C2 (R2 20 0) ∧ Fr TH C C2 ∧ ThR R R2 ∧ nP (R2 20 0) = nP (R 20 0) := by
  obtain ⟨C2, -, g1, g3, g4⟩ := think0 h hC hR
  obtain ⟨C3, R3, k1, k2, k3, k4, k5, k6⟩ := thinkY hN g4 hR.1 g3
  refine ⟨C3, R3, ?_, k2, k3, k4, k5, by rw [k6, think_n hR]⟩
  unfold X7_behind
  rw [g1, bs, if_pos (show 1 < 3 from by decide), k1]
  rfl
/-- an act that answers the ERROR k behind a thought -/
theorem bad2 {x y : Option (Int32 × Mem)} (k : Nat) (h1 : 1 ≤ k) (h5 : k ≤ 5) {C R : Mem} (h : Rel C R) (hf : x = X7_fail (Int32.ofNat k) C) (hg : y = X8_finds (Int32.ofNat k) R) : ∃ (res : Int32) (C' R' : Mem), x = some (res, C') ∧ y = some (res, R') ∧ Rel C' R' := by
  rw [hf, hg]
  exact err_eq h1 h5 C R h
theorem Rel_Y {C C' R R' : Mem} (hC : Fr (DST 0) C C') (hR : FrY R R') (hD : RelD 0 C' (R' 20 0)) (h : Rel C R) : Rel C' R' := by
  obtain ⟨-, hK, hI, hE, hV, hS⟩ := h
  have c : ∀ f i k, ¬ DST 0 f i → C' f i k = C f i k := hC
  have r : ∀ f k, f = 21 ∨ f = 23 ∨ f = 19 ∨ f = 27 ∨ f = 28 ∨ f = 29 ∨ f = 30 → R' f 0 k = R f 0 k := fun f k hf => hR.1 f 0 k (by omega) (by omega) (by omega)
  have e7 : C' 7 0 9 = C 7 0 9 := c 7 0 9 (by unfold DST; omega)
  refine ⟨hD, RelK_cg (fun k _ _ => c 0 0 k (by unfold DST; omega)) (fun k _ => c 8 0 k (by unfold DST; omega)) (fun k _ => c 9 0 k (by unfold DST; omega)) (fun k hk => hR.2 k (by unfold supK at hk; omega)) hK, ⟨by rw [e7, r 19 3 (by omega)]; exact hI.1, fun hn => ?_⟩, fun k h1 h2 => ?_, ?_, fun s hs => ?_⟩
  · rw [e7] at hn
    obtain ⟨a, b⟩ := hI.2 hn
    refine ⟨RelD_cg (fun k _ _ => c 1 2 k (by unfold DST; omega)) (fun p hp k => c 3 _ k (by unfold DST; omega)) (fun k _ => c 10 2 k (by unfold DST; omega)) (fun k _ => c 11 2 k (by unfold DST; omega)) (fun u hu => c 2 _ _ (by unfold DST; omega)) (fun u hu k _ => c 13 _ _ (by unfold DST; omega)) (fun k _ => r 21 k (by omega)) a, RelK_cg (fun k _ _ => c 0 1 k (by unfold DST; omega)) (fun k _ => c 8 1 k (by unfold DST; omega)) (fun k _ => c 9 1 k (by unfold DST; omega)) (fun k _ => r 21 k (by omega)) b⟩
  · rw [c 18 0 k (by unfold DST; omega), r 23 k (by omega)]; exact hE k h1 h2
  · obtain ⟨t, t1, t2, t3, t4⟩ := hV
    refine ⟨t, t1, (c 6 0 1 (by unfold DST; omega)).trans t2, (r 19 16 (by omega)).trans t3, fun k hk => ?_⟩
    rw [c 16 0 k (by unfold DST; omega), r 27 k (by omega)]; exact t4 k hk
  · obtain ⟨⟨a, b⟩, ⟨n, c1, c2, c3⟩, d⟩ := hS s hs
    refine ⟨⟨?_, ?_⟩, ⟨n, c1, (c 5 s 2 (by unfold DST; omega)).trans c2, (r 29 s (by omega)).trans c3⟩, fun k hk => ?_⟩
    · rw [c 5 s 1 (by unfold DST; omega), r 28 s (by omega)]; exact a
    · rw [c 5 s 1 (by unfold DST; omega)]; exact b
    · rw [c 15 s k (by unfold DST; omega), r 30 _ (by omega)]; exact d k hk
