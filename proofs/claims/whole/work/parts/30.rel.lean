/-! WHAT THE TWO SYSTEMS HAVE IN COMMON -/
def inR (x : Int32) (lo hi : Int) : Prop := lo ≤ x.toInt ∧ x.toInt ≤ hi
/-- the numbers of a POT: KIND, m, HOUSE, USED, LIKED, YEARS, HANDLES, FALSE -/
def rngP (k : Nat) (v : Int32) : Prop := if k = 0 then inR v 0 6 else if k = 1 then inR v 0 9 else if k = 2 then inR v (-1) 4 else if k = 3 then inR v 0 9 else if k ≤ 5 then inR v 0 999 else if k = 6 then inR v 0 3 else inR v 0 1
def potOK (q : Nat → Int32) : Prop := ∀ k, k < 8 → rngP k (q k)
/-- a sign of a TEXT, as the reference has it -/
def phi (s : Int32) : Int32 := if s < -3 then 20000 - s else if s < 0 then 9999 - s else s
def opOK (s : Int32) : Prop := s = -33 ∨ s = -37 ∨ s = -38 ∨ s = -42 ∨ s = -43 ∨ s = -45 ∨ s = -47 ∨ s = -60 ∨ s = -61 ∨ s = -62 ∨ s = -124
def tokOK (s : Int32) : Prop := inR s (-3) 9999 ∨ opOK s
/-- how many values lie there behind the signs -/
def dep : List Int32 → Nat → Option Nat
  | [], d => some d
  | s :: ts, d => if s = -33 then (if 1 ≤ d then dep ts d else none) else if s < -3 then (if 2 ≤ d then dep ts (d - 1) else none) else dep ts (d + 1)
def toks (f : Nat → Int32) (n : Nat) : List Int32 := (List.range n).map f
def wfT (ts : List Int32) : Prop := (∀ t ∈ ts, tokOK t) ∧ dep ts 0 = some 1
/-- a TEXT: of the class (its Law j), of the reference (its USE u) -/
def RelL (C : Mem) (j : Nat) (D : Nat → Int32) (u : Nat) : Prop := ∃ l : Nat, l ≤ 50 ∧ C 2 j 2 = Int32.ofNat l ∧ D (96 + u) = Int32.ofNat l ∧ (∀ k, k < l → D (118 + 50 * u + k) = phi (C 13 j k)) ∧ (l = 0 ∨ wfT (toks (C 13 j) l))
/-- the HOUSES, POTS, YEARS, TEXTS of a District are those of the row D -/
def RelD (b : Nat) (C : Mem) (D : Nat → Int32) : Prop :=
  ∃ n : Nat, n ≤ 10 ∧ C 1 b 5 = Int32.ofNat n ∧ D 0 = Int32.ofNat n ∧
  (∀ p, p < n → potOK (fun k => D (16 + 8 * p + k)) ∧ (∀ k, k < 7 → C 3 (10 * b + p) k = D (16 + 8 * p + k)) ∧ nbZ (C 3 (10 * b + p) 7) = D (16 + 8 * p + 7)) ∧
  C 1 b 6 = D 1 ∧ C 1 b 7 = D 2 ∧ inR (D 2) 0 999 ∧
  (∀ h, h < 5 → C 10 b h = D (6 + 2 * h) ∧ C 11 b h = D (6 + 2 * h + 1) ∧ inR (D (6 + 2 * h)) 0 9 ∧ inR (D (6 + 2 * h + 1)) 0 9) ∧
  (∀ u, u < 2 → RelL C (2 * b + u) D u)
/-- THE TAPE, what waits, z -/
def RelK (e : Nat) (C : Mem) (D : Nat → Int32) : Prop :=
  C 0 e 4 = D 3 ∧ (∃ t : Nat, t ≤ 50 ∧ C 0 e 2 = Int32.ofNat t ∧ D 4 = Int32.ofNat t ∧ ∀ k, k < t → nbB (C 8 e k) = nbB (D (218 + k)) ∧ inR (D (218 + k)) 0 255) ∧
  (∃ w : Nat, w ≤ 20 ∧ C 0 e 3 = Int32.ofNat w ∧ D 5 = Int32.ofNat w ∧ ∀ k, k < w → C 9 e k = D (98 + k))
def RelI (C R : Mem) : Prop := C 7 0 9 = R 19 0 3 ∧ (C 7 0 9 ≠ 0 → RelD 2 C (R 21 0) ∧ RelK 1 C (R 21 0))
def RelE (C R : Mem) : Prop := ∀ k, 1 ≤ k → k ≤ 5 → C 18 0 k = R 23 0 k
def RelV (C R : Mem) : Prop := ∃ t : Nat, t ≤ 40 ∧ C 6 0 1 = Int32.ofNat t ∧ R 19 0 16 = Int32.ofNat t ∧ ∀ k, k < t → C 16 0 k = R 27 0 k
def RelS (C R : Mem) : Prop := ∀ s, s < 4 → (C 5 s 1 = R 28 0 s ∧ (C 5 s 1 = 0 ∨ C 5 s 1 = 8 ∨ C 5 s 1 = 16 ∨ C 5 s 1 = 32)) ∧ (∃ c : Nat, c ≤ 40 ∧ C 5 s 2 = Int32.ofNat c ∧ R 29 0 s = Int32.ofNat c) ∧ ∀ k, k < 40 → C 15 s k = R 30 0 (40 * s + k)
def Rel (C R : Mem) : Prop := RelD 0 C (R 20 0) ∧ RelK 0 C (R 20 0) ∧ RelI C R ∧ RelE C R ∧ RelV C R ∧ RelS C R
/-- which places of a row RelD speaks of, which RelK -/
def supD (k : Nat) : Prop := k < 3 ∨ (6 ≤ k ∧ k < 98) ∨ (118 ≤ k ∧ k < 218)
def supK (k : Nat) : Prop := (3 ≤ k ∧ k < 6) ∨ (98 ≤ k ∧ k < 118) ∨ (218 ≤ k ∧ k < 268)
theorem toks_cg {f g : Nat → Int32} {n : Nat} (h : ∀ k, k < n → f k = g k) : toks f n = toks g n := List.map_congr_left fun k hk => h k (List.mem_range.mp hk)
theorem RelL_cg {C C' : Mem} {j j' : Nat} {D D' : Nat → Int32} {u : Nat} (hu : u < 2) (h2 : C' 2 j' 2 = C 2 j 2) (h13 : ∀ k, k < 50 → C' 13 j' k = C 13 j k) (hD : ∀ k, supD k → D' k = D k) (h : RelL C j D u) : RelL C' j' D' u := by
  obtain ⟨l, l1, l2, l3, l4, l5⟩ := h
  refine ⟨l, l1, h2.trans l2, (hD _ ?_).trans l3, fun k hk => ?_, ?_⟩
  · unfold supD; omega
  · rw [hD _ (by unfold supD; omega), h13 k (by omega)]; exact l4 k hk
  · rw [toks_cg (fun k hk => h13 k (by omega))]; exact l5
theorem RelD_cg {b b' : Nat} {C C' : Mem} {D D' : Nat → Int32} (h1 : ∀ k, 5 ≤ k → k ≤ 7 → C' 1 b' k = C 1 b k) (h3 : ∀ p, p < 10 → ∀ k, C' 3 (10 * b' + p) k = C 3 (10 * b + p) k) (h10 : ∀ k, k < 5 → C' 10 b' k = C 10 b k) (h11 : ∀ k, k < 5 → C' 11 b' k = C 11 b k) (h2 : ∀ u, u < 2 → C' 2 (2 * b' + u) 2 = C 2 (2 * b + u) 2) (h13 : ∀ u, u < 2 → ∀ k, k < 50 → C' 13 (2 * b' + u) k = C 13 (2 * b + u) k) (hD : ∀ k, supD k → D' k = D k) (h : RelD b C D) : RelD b' C' D' := by
  obtain ⟨n, n1, n2, n3, n4, n5, n6, n7, n8, n9⟩ := h
  refine ⟨n, n1, (h1 5 (by omega) (by omega)).trans n2, (hD 0 (by unfold supD; omega)).trans n3, fun p hp => ?_, ?_, ?_, ?_, fun h hh => ?_, fun u hu => RelL_cg hu (h2 u hu) (h13 u hu) hD (n9 u hu)⟩
  · obtain ⟨q1, q2, q3⟩ := n4 p hp
    have e : ∀ k, k < 8 → D' (16 + 8 * p + k) = D (16 + 8 * p + k) := fun k hk => hD _ (by unfold supD; omega)
    refine ⟨?_, fun k hk => ?_, ?_⟩
    · intro k hk
      show rngP k (D' (16 + 8 * p + k))
      rw [e k hk]; exact q1 k hk
    · rw [h3 p (by omega) k, e k (by omega)]; exact q2 k hk
    · rw [h3 p (by omega) 7, e 7 (by omega)]; exact q3
  · rw [h1 6 (by omega) (by omega), hD 1 (by unfold supD; omega)]; exact n5
  · rw [h1 7 (by omega) (by omega), hD 2 (by unfold supD; omega)]; exact n6
  · rw [hD 2 (by unfold supD; omega)]; exact n7
  · rw [h10 h hh, h11 h hh, hD (6 + 2 * h) (by unfold supD; omega), hD (6 + 2 * h + 1) (by unfold supD; omega)]; exact n8 h hh
theorem RelK_cg {e e' : Nat} {C C' : Mem} {D D' : Nat → Int32} (h0 : ∀ k, 2 ≤ k → k ≤ 4 → C' 0 e' k = C 0 e k) (h8 : ∀ k, k < 50 → C' 8 e' k = C 8 e k) (h9 : ∀ k, k < 20 → C' 9 e' k = C 9 e k) (hD : ∀ k, supK k → D' k = D k) (h : RelK e C D) : RelK e' C' D' := by
  obtain ⟨k1, ⟨t, t1, t2, t3, t4⟩, w, w1, w2, w3, w4⟩ := h
  refine ⟨?_, ⟨t, t1, (h0 2 (by omega) (by omega)).trans t2, (hD 4 (by unfold supK; omega)).trans t3, fun k hk => ?_⟩, w, w1, (h0 3 (by omega) (by omega)).trans w2, (hD 5 (by unfold supK; omega)).trans w3, fun k hk => ?_⟩
  · rw [h0 4 (by omega) (by omega), hD 3 (by unfold supK; omega)]; exact k1
  · rw [h8 k (by omega), hD (218 + k) (by unfold supK; omega)]; exact t4 k hk
  · rw [h9 k (by omega), hD (98 + k) (by unfold supK; omega)]; exact w4 k hk
/-- tables that differ in nothing but what S says -/
def Fr (S : Nat → Nat → Prop) (C C' : Mem) : Prop := ∀ f i k, ¬ S f i → C' f i k = C f i k
theorem Fr.rf {S : Nat → Nat → Prop} {C : Mem} : Fr S C C := fun _ _ _ _ => rfl
theorem Fr.tr {S : Nat → Nat → Prop} {C C' C'' : Mem} (h : Fr S C C') (h' : Fr S C' C'') : Fr S C C'' := fun f i k hn => (h' f i k hn).trans (h f i k hn)
theorem Fr.mono {S S' : Nat → Nat → Prop} {C C' : Mem} (h : Fr S C C') (hs : ∀ f i, S f i → S' f i) : Fr S' C C' := fun f i k hn => h f i k (fun e => hn (hs f i e))
theorem Fr.up {S : Nat → Nat → Prop} {C : Mem} {f i k : Nat} {v : Int32} (h : S f i) : Fr S C (up3 C f i k v) := fun f' i' k' hn => if_neg (fun e => hn (by rw [e.1, e.2.2]; exact h))
theorem Fr.cp {S : Nat → Nat → Prop} {C : Mem} {f i sp g j dp n : Nat} (h : S g j) : Fr S C (cp3 C f i sp g j dp n) := fun f' i' k' hn => if_neg (fun e => hn (by rw [e.1, e.2.1]; exact h))
theorem up3_i {M : Mem} {f i k f' i' k' : Nat} {v : Int32} (h : ¬ i' = i) : up3 M f i k v f' i' k' = M f' i' k' := if_neg (fun e => h e.2.2)
theorem up3_row {M : Mem} {f i k k' : Nat} {v : Int32} : up3 M f i k v f i k' = if k' = k then v else M f i k' := by
  unfold up3
  by_cases h : k' = k <;> simp [h]
theorem Rel_start : Rel C0 R0 := by
  have e : ∀ k, R0 20 0 k = dInit k := fun k => rfl
  refine ⟨⟨0, by omega, rfl, rfl, fun p hp => absurd hp (Nat.not_lt_zero p), rfl, rfl, ⟨by decide, by decide⟩, fun h hh => ?_, fun u hu => ?_⟩, ⟨rfl, ⟨0, by omega, rfl, rfl, fun k hk => absurd hk (Nat.not_lt_zero k)⟩, 0, by omega, rfl, rfl, fun k hk => absurd hk (Nat.not_lt_zero k)⟩, ⟨rfl, fun h => absurd rfl h⟩, fun _ _ _ => rfl, ⟨0, by omega, rfl, rfl, fun k hk => absurd hk (Nat.not_lt_zero k)⟩, fun s hs => ⟨⟨rfl, Or.inl rfl⟩, ⟨0, by omega, rfl, rfl⟩, fun _ _ => rfl⟩⟩
  · rcases (show h = 0 ∨ h = 1 ∨ h = 2 ∨ h = 3 ∨ h = 4 by omega) with rfl | rfl | rfl | rfl | rfl <;> exact ⟨rfl, rfl, ⟨by decide, by decide⟩, by decide, by decide⟩
  · rcases (show u = 0 ∨ u = 1 by omega) with rfl | rfl <;> exact ⟨0, by omega, rfl, rfl, fun k hk => absurd hk (Nat.not_lt_zero k), Or.inl rfl⟩
