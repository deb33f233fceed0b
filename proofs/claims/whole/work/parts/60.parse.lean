-- THE READING OF A TEXT: state on both sides
def FrP (R R' : Mem) : Prop := ∀ f i k, ¬ (f = 25 ∨ (f = 19 ∧ 5 ≤ k ∧ k ≤ 13)) → R' f i k = R f i k
theorem FrP.tr {R R' R'' : Mem} (h : FrP R R') (h' : FrP R' R'') : FrP R R'' := fun f i k hn => (h' f i k hn).trans (h f i k hn)
theorem FrP.up {R : Mem} {k : Nat} {v : Int32} (h : 5 ≤ k ∧ k ≤ 13) : FrP R (up3 R 19 0 k v) := fun f i j hn => if_neg (fun e => hn (Or.inr ⟨e.1, by omega, by omega⟩))
theorem FrP.up25 {R : Mem} {k : Nat} {v : Int32} : FrP R (up3 R 25 0 k v) := fun f i j hn => if_neg (fun e => hn (Or.inl e.1))
def RD (f i : Nat) : Prop := f = 4 ∨ ((f = 2 ∨ f = 13) ∧ i = 6)
/-- what the reading writes of the class: not how many bytes it has -/
def FrC (C C' : Mem) : Prop := ∀ f i k, ¬ (RD f i ∧ ¬ (f = 4 ∧ k = 2)) → C' f i k = C f i k
theorem FrC.tr {C C' C'' : Mem} (h : FrC C C') (h' : FrC C' C'') : FrC C C'' := fun f i k hn => (h' f i k hn).trans (h f i k hn)
theorem FrC.up {C : Mem} {f i k : Nat} {v : Int32} (h : RD f i ∧ ¬ (f = 4 ∧ k = 2)) : FrC C (up3 C f i k v) := fun f' i' k' hn => if_neg (fun e => hn (by rw [e.1, e.2.1, e.2.2]; exact h))
theorem FrC.fr {S : Nat → Nat → Prop} {C C' : Mem} (h : FrC C C') (hs : ∀ f i, RD f i → S f i) : Fr S C C' := fun f i k hn => h f i k (fun e => hn (hs f i e.1))
def PR (C0 R0 : Mem) (T u s a l d o : Nat) (C R : Mem) : Prop :=
  l + s ≤ a ∧ a ≤ T ∧ C 4 0 4 = Int32.ofNat a ∧ R 19 0 6 = Int32.ofNat a ∧ R 19 0 8 = -1 ∧ C 2 6 2 = Int32.ofNat l ∧ R 19 0 13 = Int32.ofNat l ∧ (∀ k, k < l → R 25 0 k = phi (C 13 6 k) ∧ tokOK (C 13 6 k)) ∧ dep (toks (C 13 6) l) 0 = some d ∧ R 19 0 9 = Int32.ofNat o ∧ C 4 0 3 = Int32.ofNat u ∧ R 19 0 5 = 218 ∧ R 19 0 7 = Int32.ofNat T ∧ nbZ (R 19 0 10) = Int32.ofNat u ∧ FrC C0 C ∧ FrP R0 R
/-- a FAULT, on both sides -/
def FL (C0 R0 : Mem) (C R : Mem) : Prop := ∃ f l : Nat, f ≤ 50 ∧ l ≤ 50 ∧ C 4 0 4 = Int32.ofNat f ∧ C 2 6 2 = Int32.ofNat l ∧ R 19 0 8 = Int32.ofNat f ∧ FrC C0 C ∧ FrP R0 R
/-- what THE TAPE holds -/
def TP (C0 R0 : Mem) (T : Nat) : Prop := T ≤ 50 ∧ C0 4 0 2 = Int32.ofNat T ∧ ∀ k, k < T → nbB (C0 8 2 k) = nbB (R0 20 0 (218 + k)) ∧ inR (R0 20 0 (218 + k)) 0 255
def CH (x y : Int32) : Prop := ∀ k : Nat, 1 ≤ k → k ≤ 127 → (x = Int32.ofNat k ↔ y = Int32.ofNat k)
theorem nbB_k : ∀ k, k < 256 → ∀ j, j < 128 → 1 ≤ j → (nbB (Int32.ofNat k) = Int32.ofNat j ↔ k = j) := by decide +kernel
theorem ne_m1 {k : Nat} (hk : k < 2147483648) : ¬ (-1 : Int32) = Int32.ofNat k := by
  rw [i_eq, i_of hk]
  show ¬ (-1 : Int) = k
  omega
section PARSE
variable {C0 R0 : Mem} {T u : Nat}
theorem next_eq (ht : TP C0 R0 T) {s a l d o : Nat} {C R : Mem} (h : PR C0 R0 T u s a l d o C R) : ∃ x y, X4_next C = some x ∧ X8_here R = some y ∧ CH x y ∧ ((∃ k : Nat, k < 2147483648 ∧ y = Int32.ofNat k) → a < T) := by
  obtain ⟨h1, h2, h3, h4, h5, h6, h7, h8, h9, h10, h11, h12, h13, h14, h15, h16⟩ := h
  obtain ⟨t1, t2, t3⟩ := ht
  have e0 : C 4 0 2 = Int32.ofNat T := by rw [h15 4 0 2 (by unfold RD; omega)]; exact t2
  unfold X4_next X8_here
  rw [h3, h4, e0, h13, h5, h12]
  by_cases hlt : a < T
  · have lt : Int32.ofNat a < Int32.ofNat T := by rw [i_ltn (by omega) (by omega)]; exact hlt
    obtain ⟨b1, b2⟩ := t3 a hlt
    have e8 : C 8 2 a = C0 8 2 a := h15 8 2 a (by unfold RD; omega)
    have e20 : R 20 0 (218 + a) = R0 20 0 (218 + a) := h16 20 0 _ (by omega)
    refine ⟨nbB (C 8 2 a), R 20 0 (218 + a), ?_, ?_, ?_, fun _ => hlt⟩
    · rw [if_pos lt, if_pos (by rw [show (50 : Int32) = Int32.ofNat 50 from rfl, i_ltn (by omega) (by omega)]; omega), if_pos (ib_of (by omega) (by omega)), i_ofix (by omega)]
    · rw [if_pos lt, if_pos (by decide), show (218 : Int32) = Int32.ofNat 218 from rfl, i_ofadd, if_pos (ib_of (by omega) (by omega)), i_ofix (by omega)]
    · rw [e8, e20, b1]
      obtain ⟨k, hk, ek⟩ := i_small (n := 256) b2.1 (by have := b2.2; omega)
      rw [ek]
      intro j j1 j2
      rw [nbB_k k hk j (by omega) j1, i_inj (by omega) (by omega)]
  · have lt : ¬ Int32.ofNat a < Int32.ofNat T := by rw [i_ltn (by omega) (by omega)]; exact hlt
    refine ⟨0, -1, by rw [if_neg lt], by rw [if_neg lt], fun j j1 j2 => ⟨fun e => ?_, fun e => absurd e (ne_m1 (by omega))⟩, fun ⟨k, hk, e⟩ => absurd e (ne_m1 hk)⟩
    rw [i_eq, i_z, i_of (by omega)] at e
    omega
theorem dep_app : ∀ (xs : List Int32) (t : Int32) (e : Nat), dep (xs ++ [t]) e = (dep xs e).bind fun d => dep [t] d := by
  intro xs
  induction xs with
  | nil => intro t e; rfl
  | cons x xs ih =>
    intro t e
    show (if x = -33 then (if 1 ≤ e then dep (xs ++ [t]) e else none) else if x < -3 then (if 2 ≤ e then dep (xs ++ [t]) (e - 1) else none) else dep (xs ++ [t]) (e + 1)) = (if x = -33 then (if 1 ≤ e then dep xs e else none) else if x < -3 then (if 2 ≤ e then dep xs (e - 1) else none) else dep xs (e + 1)).bind _
    by_cases h1 : x = -33
    · rw [if_pos h1, if_pos h1]
      by_cases h2 : 1 ≤ e
      · rw [if_pos h2, if_pos h2]; exact ih t e
      · rw [if_neg h2, if_neg h2]; rfl
    · rw [if_neg h1, if_neg h1]
      by_cases h2 : x < -3
      · rw [if_pos h2, if_pos h2]
        by_cases h3 : 2 ≤ e
        · rw [if_pos h3, if_pos h3]; exact ih t (e - 1)
        · rw [if_neg h3, if_neg h3]; rfl
      · rw [if_neg h2, if_neg h2]; exact ih t (e + 1)
theorem toks_new {f : Nat → Int32} {l : Nat} {t : Int32} : toks (upD f l t) (l + 1) = toks f l ++ [t] := by
  unfold toks
  rw [List.range_succ, List.map_append]
  congr 1
  · refine List.map_congr_left fun k hk => ?_
    exact upD_ne (by have := List.mem_range.mp hk; omega)
  · show [upD f l t l] = [t]
    rw [upD_eq]
/-- a sign comes to the TEXT -/
theorem lay_eq (ht : TP C0 R0 T) {s a l d o d' : Nat} {C R : Mem} {t : Int32} (h : PR C0 R0 T u (s + 1) a l d o C R) (hk : tokOK t) (hd : dep [t] d = some d') : ∃ C' R', X2_add 6 t C = some C' ∧ X8_lay (phi t) R = some R' ∧ PR C0 R0 T u s a (l + 1) d' o C' R' := by
  obtain ⟨h1, h2, h3, h4, h5, h6, h7, h8, h9, h10, h11, h12, h13, h14, h15, h16⟩ := h
  obtain ⟨t1, -, -⟩ := ht
  refine ⟨up3 (up3 C 13 6 l t) 2 6 2 (Int32.ofNat (l + 1)), up3 (up3 R 25 0 l (phi t)) 19 0 13 (Int32.ofNat (l + 1)), ?_, ?_, by omega, h2, ?_, ?_, ?_, up3_eq, up3_eq, fun k hkl => ?_, ?_, ?_, ?_, ?_, ?_, ?_, ?_, ?_⟩
  · unfold X2_add
    rw [h6, if_pos (by rw [show (50 : Int32) = Int32.ofNat 50 from rfl, i_ltn (by omega) (by omega)]; omega), if_pos (ib_of (by omega) (by omega)), i_ofix (by omega), i_succ]
  · unfold X8_lay
    rw [h5, if_pos (by decide), h7, if_pos (ib_of (by omega) (by omega)), i_ofix (by omega), i_succ]
  · rw [up3_f (by decide), up3_f (by decide)]; exact h3
  · rw [up3_k (by decide), up3_f (by decide)]; exact h4
  · rw [up3_k (by decide), up3_f (by decide)]; exact h5
  · rw [show up3 (up3 C 13 6 l t) 2 6 2 (Int32.ofNat (l + 1)) 13 6 k = up3 C 13 6 l t 13 6 k from up3_f (by decide), show up3 (up3 R 25 0 l (phi t)) 19 0 13 (Int32.ofNat (l + 1)) 25 0 k = up3 R 25 0 l (phi t) 25 0 k from up3_f (by decide)]
    by_cases e : k = l
    · subst e
      rw [up3_eq, up3_eq]
      exact ⟨rfl, hk⟩
    · rw [up3_k e, up3_k e]
      exact h8 k (by omega)
  · rw [show (up3 (up3 C 13 6 l t) 2 6 2 (Int32.ofNat (l + 1))) 13 6 = upD (C 13 6) l t from by
      rw [← up_row]
      funext k
      exact up3_f (by decide), toks_new, dep_app, h9]
    exact hd
  · rw [up3_k (by decide), up3_f (by decide)]; exact h10
  · rw [up3_f (by decide), up3_f (by decide)]; exact h11
  · rw [up3_k (by decide), up3_f (by decide)]; exact h12
  · rw [up3_k (by decide), up3_f (by decide)]; exact h13
  · rw [up3_k (by decide), up3_f (by decide)]; exact h14
  · exact (h15.tr (FrC.up (by unfold RD; omega))).tr (FrC.up (by unfold RD; omega))
  · exact (h16.tr FrP.up25).tr (FrP.up (by omega))
/-- a byte is passed -/
theorem at_eq {s a l d o : Nat} {C R : Mem} (h : PR C0 R0 T u s a l d o C R) (ha : a < T) : PR C0 R0 T u (s + 1) (a + 1) l d o (up3 C 4 0 4 (C 4 0 4 + 1)) (up3 R 19 0 6 (R 19 0 6 + 1)) := by
  obtain ⟨h1, h2, h3, h4, h5, h6, h7, h8, h9, h10, h11, h12, h13, h14, h15, h16⟩ := h
  refine ⟨by omega, by omega, ?_, ?_, ?_, ?_, ?_, fun k hk => ?_, ?_, ?_, ?_, ?_, ?_, ?_, h15.tr (FrC.up (by unfold RD; omega)), h16.tr (FrP.up (by omega))⟩
  · rw [up3_eq, h3, i_succ]
  · rw [up3_eq, h4, i_succ]
  · rw [up3_k (by decide)]; exact h5
  · rw [up3_f (by decide)]; exact h6
  · rw [up3_k (by decide)]; exact h7
  · rw [up3_f (by decide), up3_f (by decide)]; exact h8 k hk
  · rw [show (up3 C 4 0 4 (C 4 0 4 + 1)) 13 6 = C 13 6 from funext fun k => up3_f (by decide)]; exact h9
  · rw [up3_k (by decide)]; exact h10
  · rw [up3_k (by decide)]; exact h11
  · rw [up3_k (by decide)]; exact h12
  · rw [up3_k (by decide)]; exact h13
  · rw [up3_k (by decide)]; exact h14
theorem PR.weak {s s' a l d o : Nat} {C R : Mem} (h : PR C0 R0 T u s a l d o C R) (hs : s' ≤ s) : PR C0 R0 T u s' a l d o C R := ⟨by have := h.1; omega, h.2⟩
/-- how many of ! and ( stand -/
theorem op_eq {s a l d o o' : Nat} {C R : Mem} (h : PR C0 R0 T u s a l d o C R) : PR C0 R0 T u s a l d o' C (up3 R 19 0 9 (Int32.ofNat o')) := by
  obtain ⟨h1, h2, h3, h4, h5, h6, h7, h8, h9, h10, h11, h12, h13, h14, h15, h16⟩ := h
  refine ⟨h1, h2, h3, ?_, ?_, h6, ?_, fun k hk => ?_, h9, up3_eq, h11, ?_, ?_, ?_, h15, h16.tr (FrP.up (by omega))⟩
  · rw [up3_k (by decide)]; exact h4
  · rw [up3_k (by decide)]; exact h5
  · rw [up3_k (by decide)]; exact h7
  · rw [up3_f (by decide)]; exact h8 k hk
  · rw [up3_k (by decide)]; exact h12
  · rw [up3_k (by decide)]; exact h13
  · rw [up3_k (by decide)]; exact h14
/-- the FAULT is told -/
theorem wrong_eq (ht : TP C0 R0 T) {s a l d o : Nat} {C R : Mem} (h : PR C0 R0 T u s a l d o C R) : ∃ R', X8_wrong R = some R' ∧ FL C0 R0 C R' := by
  obtain ⟨h1, h2, h3, h4, h5, h6, h7, h8, h9, h10, h11, h12, h13, h14, h15, h16⟩ := h
  obtain ⟨t1, -, -⟩ := ht
  refine ⟨up3 R 19 0 8 (R 19 0 6), ?_, a, l, by omega, by omega, h3, h6, by rw [up3_eq]; exact h4, h15, h16.tr (FrP.up (by omega))⟩
  unfold X8_wrong
  rw [h5, if_pos (by decide)]
-- behind a FAULT the reference goes out with nothing done
theorem nn0 {f : Nat} (hf : f ≤ 50) : ¬ Int32.ofNat f < 0 := by rw [i_lt, i_of (by omega), i_z]; omega
theorem here_f {f : Nat} {R : Mem} (hf : f ≤ 50) (h : R 19 0 8 = Int32.ofNat f) : X8_here R = some (-1) := by
  unfold X8_here
  rw [h, if_neg (nn0 hf)]
  split <;> rfl
theorem takes_f {f : Nat} {R : Mem} {c : Int32} (hf : f ≤ 50) (h : R 19 0 8 = Int32.ofNat f) (hc : ¬ (-1 : Int32) = c) : X8_takes c R = some (0, R) := by
  unfold X8_takes
  rw [here_f hf h, bs, if_neg hc]
theorem wrong_f {f : Nat} {R : Mem} (hf : f ≤ 50) (h : R 19 0 8 = Int32.ofNat f) : X8_wrong R = some R := by
  unfold X8_wrong
  rw [if_neg (by rw [h]; exact nn0 hf), up3_self]
theorem lay_f {f : Nat} {R : Mem} {v : Int32} (hf : f ≤ 50) (h : R 19 0 8 = Int32.ofNat f) : X8_lay v R = some R := by
  unfold X8_lay
  rw [if_neg (by rw [h]; exact nn0 hf)]
theorem unit_f {f fu : Nat} {R : Mem} (hf : f ≤ 50) (h : R 19 0 8 = Int32.ofNat f) : X8_rec_either (fu + 1) 5 0 R = some R := by
  show X8_unit (X8_rec_either fu) R = some R
  unfold X8_unit
  have hn : X8_nameOf (-1) R < 0 := by
    unfold X8_nameOf X8_nameOf_J25 X8_nameOf_J47
    split
    · exact absurd ‹_› (by decide)
    · split
      · decide
      · decide
  rw [here_f hf h, bs, if_neg (by decide), if_neg (by decide), if_pos hn]
  show (X8_unit_L58 (X8_rec_either fu) (399 + 1) 0 0 R).bind _ = _
  rw [X8_unit_L58, if_pos (by decide), here_f hf h, bs, if_pos (by decide), bs]
  show X8_unit_J110 (X8_rec_either fu) 0 0 R = some R
  unfold X8_unit_J110 X8_unit_J119
  rw [if_pos rfl, wrong_f hf h, bs, lay_f hf h]
  rfl
theorem prodL_f {f : Nat} {rc : Nat → Int32 → Mem → Option Mem} {R : Mem} (hf : f ≤ 50) (h : R 19 0 8 = Int32.ofNat f) (fu : Nat) : X8_product_L4 rc (fu + 1) R = some R := by
  rw [X8_product_L4, here_f hf h, bs, if_neg (by decide), bs, if_neg (by decide), bs, if_neg (by decide)]
theorem sumL_f {f : Nat} {rc : Nat → Int32 → Mem → Option Mem} {R : Mem} (hf : f ≤ 50) (h : R 19 0 8 = Int32.ofNat f) (fu : Nat) : X8_sum_L4 rc (fu + 1) R = some R := by
  rw [X8_sum_L4, here_f hf h, bs, if_neg (by decide), bs, if_neg (by decide)]
theorem bothL_f {f : Nat} {rc : Nat → Int32 → Mem → Option Mem} {R : Mem} (hf : f ≤ 50) (h : R 19 0 8 = Int32.ofNat f) (fu : Nat) : X8_both_L4 rc (fu + 1) R = some R := by
  rw [X8_both_L4, takes_f hf h (by decide), bs]
  exact if_pos rfl
theorem eithL_f {f : Nat} {rc : Nat → Int32 → Mem → Option Mem} {R : Mem} (hf : f ≤ 50) (h : R 19 0 8 = Int32.ofNat f) (fu : Nat) : X8_either_L4 rc (fu + 1) R = some R := by
  rw [X8_either_L4, takes_f hf h (by decide), bs]
  exact if_pos rfl
end PARSE
