/-- what holds while a VOICE is spoken -/
def VR (C0 R0 : Mem) (K n : Nat) (C R : Mem) : Prop := RelV C R ∧ C 6 0 2 = Int32.ofNat K ∧ C 6 0 3 = Int32.ofNat n ∧ C 6 0 4 = R 20 0 (16 + 8 * n + 1) ∧ R 19 0 17 = Int32.ofNat n ∧ R 20 0 (16 + 8 * n + 0) = Int32.ofNat K ∧ Fr (fun f _ => f = 6 ∨ f = 16) C0 C ∧ ∀ f i k, ¬ (f = 27 ∨ (f = 19 ∧ (k = 16 ∨ k = 17))) → R f i k = R0 f i k
def QV (C0 R0 : Mem) (K n : Nat) (f g : Mem → Option (Int32 × Mem)) : Prop := ∀ C R, VR C0 R0 K n C R → ∃ (v : Int32) (C' R' : Mem), f C = some (v, C') ∧ g R = some (v, R') ∧ VR C0 R0 K n C' R'
section VOI
variable {C0 R0 : Mem} {K n : Nat}
theorem QV.cg {f f' g g' : Mem → Option (Int32 × Mem)} (h : QV C0 R0 K n f' g') (hf : ∀ C R, VR C0 R0 K n C R → f C = f' C ∧ g R = g' R) : QV C0 R0 K n f g := by
  intro C R hv
  obtain ⟨e1, e2⟩ := hf C R hv
  rw [e1, e2]
  exact h C R hv
theorem QV.bd {f g : Mem → Option (Int32 × Mem)} {F G : Int32 → Mem → Option (Int32 × Mem)} (h1 : QV C0 R0 K n f g) (h2 : ∀ v, QV C0 R0 K n (F v) (G v)) : QV C0 R0 K n (fun M => (f M).bind fun q => F q.1 q.2) (fun M => (g M).bind fun q => G q.1 q.2) := by
  intro C R hv
  obtain ⟨v, C1, R1, e1, e2, e3⟩ := h1 C R hv
  show ∃ (v : Int32) (C' R' : Mem), (f C).bind _ = _ ∧ (g R).bind _ = _ ∧ _
  rw [e1, e2]
  exact h2 v C1 R1 e3
theorem QV.rt (v : Int32) : QV C0 R0 K n (fun M => some (v, M)) (fun M => some (v, M)) := fun C R hv => ⟨v, C, R, rfl, rfl, hv⟩
theorem VR_f {C R : Mem} {j k : Nat} {v w : Int32} (hv : VR C0 R0 K n C R) (hj : RelV (up3 (up3 C 16 0 j v) 6 0 1 w) (up3 (up3 R 27 0 k v) 19 0 16 w)) : VR C0 R0 K n (up3 (up3 C 16 0 j v) 6 0 1 w) (up3 (up3 R 27 0 k v) 19 0 16 w) := by
  obtain ⟨-, h2, h3, h4, h5, h6, h7, h8⟩ := hv
  refine ⟨hj, ?_, ?_, ?_, ?_, ?_, h7.tr ((Fr.up (Or.inr rfl)).tr (Fr.up (Or.inl rfl))), fun f i k' hf => ?_⟩
  · rw [up3_k (by decide), up3_f (by decide)]; exact h2
  · rw [up3_k (by decide), up3_f (by decide)]; exact h3
  · rw [up3_k (by decide), up3_f (by decide), up3_f (by decide), up3_f (by decide)]; exact h4
  · rw [up3_k (by decide), up3_f (by decide)]; exact h5
  · rw [up3_f (by decide), up3_f (by decide)]; exact h6
  · rw [show up3 (up3 R 27 0 k v) 19 0 16 w f i k' = up3 R 27 0 k v f i k' from if_neg (fun e => hf (Or.inr ⟨e.1, Or.inl e.2.1⟩)), up3_f (fun e => hf (Or.inl e))]
    exact h8 f i k' hf
theorem QV.beg {f g : Mem → Option (Int32 × Mem)} (b : Int32) (h : QV C0 R0 K n f g) : QV C0 R0 K n (fun M => (X6_begin b M).bind f) (fun M => (X8_ran b M).bind g) := by
  intro C R hv
  obtain ⟨t, t1, t2, t3, t4⟩ := id hv.1
  show ∃ (v : Int32) (C' R' : Mem), (X6_begin b C).bind _ = _ ∧ (X8_ran b R).bind _ = _ ∧ _
  unfold X6_begin X8_ran
  rw [t2, t3]
  by_cases ht : t < 40
  · have lt : Int32.ofNat t < 40 := by rw [show (40 : Int32) = Int32.ofNat 40 from rfl, i_ltn (by omega) (by omega)]; exact ht
    have ibt : ib (Int32.ofNat t) 40 = true := ib_of ht (by omega)
    rw [if_pos lt, if_pos lt, if_pos ibt, if_pos ibt, i_ofix (by omega), i_succ, bs, bs]
    refine h _ _ (VR_f hv ⟨t + 1, by omega, up3_eq, up3_eq, fun k hk => ?_⟩)
    rw [show up3 (up3 C 16 0 t b) 6 0 1 (Int32.ofNat (t + 1)) 16 0 k = up3 C 16 0 t b 16 0 k from up3_f (by decide), show up3 (up3 R 27 0 t b) 19 0 16 (Int32.ofNat (t + 1)) 27 0 k = up3 R 27 0 t b 27 0 k from up3_f (by decide)]
    by_cases hkt : k = t
    · subst hkt; rw [up3_eq, up3_eq]
    · rw [up3_k hkt, up3_k hkt]; exact t4 k (by omega)
  · have lt : ¬ Int32.ofNat t < 40 := by rw [show (40 : Int32) = Int32.ofNat 40 from rfl, i_ltn (by omega) (by omega)]; exact ht
    rw [if_neg lt, if_neg lt, bs, bs]
    exact h C R hv
theorem body_u {fu : Nat} {b x d y : Int32} {M : Mem} : X6_rec_say (fu + 1) 1 b x d y M = X6_sayBody (X6_rec_say fu) b x d M := rfl
theorem say_0_0 {fu d : Nat} (hd : d ≤ 40) (x : Int32) (M : Mem) : X6_rec_say (fu + 2) 0 (Int32.ofNat 0) (Int32.ofNat 0) x (Int32.ofNat d) M = (X6_begin 10 M).bind fun q => X6_sayBody (X6_rec_say fu) 10 x (Int32.ofNat (d + 1)) q := by
  show X6_say (X6_rec_say (fu + 1)) (Int32.ofNat 0) (Int32.ofNat 0) x (Int32.ofNat d) M = _
  unfold X6_say
  rw [if_neg (show ¬ (40 : Int32) < Int32.ofNat d by rw [show (40 : Int32) = Int32.ofNat 40 from rfl, i_ltn (by omega) (by omega)]; omega)]
  show (X6_say_L15 (X6_rec_say (fu + 1)) (397 + 1 + 1 + 1) _ _ _ _ 0 M).bind _ = _
  rw [X6_say_L15, if_pos (show (0 : Int32) < 7 by decide), if_neg (show ¬ Int32.ofNat 0 < 0 by decide), if_neg (show ¬ X6_bodyOf (Int32.ofNat 0) (Int32.ofNat 0) = 0 by decide), show X6_bodyOf (Int32.ofNat 0) (Int32.ofNat 0) = 10 by decide, i_succ]
  cases X6_begin 10 M with
  | none => rfl
  | some q =>
    rw [bs, bs, body_u]
    cases X6_sayBody (X6_rec_say fu) 10 x (Int32.ofNat (d + 1)) q <;> rfl
theorem say_0_1 {fu d : Nat} (hd : d ≤ 40) (x : Int32) (M : Mem) : X6_rec_say (fu + 2) 0 (Int32.ofNat 0) (Int32.ofNat 1) x (Int32.ofNat d) M = (X6_begin 11 M).bind fun q => X6_sayBody (X6_rec_say fu) 11 x (Int32.ofNat (d + 1)) q := by
  show X6_say (X6_rec_say (fu + 1)) (Int32.ofNat 0) (Int32.ofNat 1) x (Int32.ofNat d) M = _
  unfold X6_say
  rw [if_neg (show ¬ (40 : Int32) < Int32.ofNat d by rw [show (40 : Int32) = Int32.ofNat 40 from rfl, i_ltn (by omega) (by omega)]; omega)]
  show (X6_say_L15 (X6_rec_say (fu + 1)) (397 + 1 + 1 + 1) _ _ _ _ 0 M).bind _ = _
  rw [X6_say_L15, if_pos (show (0 : Int32) < 7 by decide), if_neg (show ¬ Int32.ofNat 0 < 0 by decide), if_neg (show ¬ X6_bodyOf (Int32.ofNat 0) (Int32.ofNat 1) = 0 by decide), show X6_bodyOf (Int32.ofNat 0) (Int32.ofNat 1) = 11 by decide, i_succ]
  cases X6_begin 11 M with
  | none => rfl
  | some q =>
    rw [bs, bs, body_u]
    cases X6_sayBody (X6_rec_say fu) 11 x (Int32.ofNat (d + 1)) q <;> rfl
theorem say_0_2 {fu d : Nat} (hd : d ≤ 40) (x : Int32) (M : Mem) : X6_rec_say (fu + 2) 0 (Int32.ofNat 0) (Int32.ofNat 2) x (Int32.ofNat d) M = (X6_begin 12 M).bind fun q => X6_sayBody (X6_rec_say fu) 12 x (Int32.ofNat (d + 1)) q := by
  show X6_say (X6_rec_say (fu + 1)) (Int32.ofNat 0) (Int32.ofNat 2) x (Int32.ofNat d) M = _
  unfold X6_say
  rw [if_neg (show ¬ (40 : Int32) < Int32.ofNat d by rw [show (40 : Int32) = Int32.ofNat 40 from rfl, i_ltn (by omega) (by omega)]; omega)]
  show (X6_say_L15 (X6_rec_say (fu + 1)) (397 + 1 + 1 + 1) _ _ _ _ 0 M).bind _ = _
  rw [X6_say_L15, if_pos (show (0 : Int32) < 7 by decide), if_neg (show ¬ Int32.ofNat 0 < 0 by decide), if_neg (show ¬ X6_bodyOf (Int32.ofNat 0) (Int32.ofNat 2) = 0 by decide), show X6_bodyOf (Int32.ofNat 0) (Int32.ofNat 2) = 12 by decide, i_succ]
  cases X6_begin 12 M with
  | none => rfl
  | some q =>
    rw [bs, bs, body_u]
    cases X6_sayBody (X6_rec_say fu) 12 x (Int32.ofNat (d + 1)) q <;> rfl
theorem say_0_3 {fu d : Nat} (hd : d ≤ 40) (x : Int32) (M : Mem) : X6_rec_say (fu + 2) 0 (Int32.ofNat 0) (Int32.ofNat 3) x (Int32.ofNat d) M = (X6_begin 13 M).bind fun q => X6_sayBody (X6_rec_say fu) 13 x (Int32.ofNat (d + 1)) q := by
  show X6_say (X6_rec_say (fu + 1)) (Int32.ofNat 0) (Int32.ofNat 3) x (Int32.ofNat d) M = _
  unfold X6_say
  rw [if_neg (show ¬ (40 : Int32) < Int32.ofNat d by rw [show (40 : Int32) = Int32.ofNat 40 from rfl, i_ltn (by omega) (by omega)]; omega)]
  show (X6_say_L15 (X6_rec_say (fu + 1)) (397 + 1 + 1 + 1) _ _ _ _ 0 M).bind _ = _
  rw [X6_say_L15, if_pos (show (0 : Int32) < 7 by decide), if_neg (show ¬ Int32.ofNat 0 < 0 by decide), if_neg (show ¬ X6_bodyOf (Int32.ofNat 0) (Int32.ofNat 3) = 0 by decide), show X6_bodyOf (Int32.ofNat 0) (Int32.ofNat 3) = 13 by decide, i_succ]
  cases X6_begin 13 M with
  | none => rfl
  | some q =>
    rw [bs, bs, body_u]
    cases X6_sayBody (X6_rec_say fu) 13 x (Int32.ofNat (d + 1)) q <;> rfl
theorem say_1_0 {fu d : Nat} (hd : d ≤ 40) (x : Int32) (M : Mem) : X6_rec_say (fu + 2) 0 (Int32.ofNat 1) (Int32.ofNat 0) x (Int32.ofNat d) M = (X6_begin 20 M).bind fun q => X6_sayBody (X6_rec_say fu) 20 x (Int32.ofNat (d + 1)) q := by
  show X6_say (X6_rec_say (fu + 1)) (Int32.ofNat 1) (Int32.ofNat 0) x (Int32.ofNat d) M = _
  unfold X6_say
  rw [if_neg (show ¬ (40 : Int32) < Int32.ofNat d by rw [show (40 : Int32) = Int32.ofNat 40 from rfl, i_ltn (by omega) (by omega)]; omega)]
  show (X6_say_L15 (X6_rec_say (fu + 1)) (397 + 1 + 1 + 1) _ _ _ _ 0 M).bind _ = _
  rw [X6_say_L15, if_pos (show (0 : Int32) < 7 by decide), if_neg (show ¬ Int32.ofNat 1 < 0 by decide), if_neg (show ¬ X6_bodyOf (Int32.ofNat 1) (Int32.ofNat 0) = 0 by decide), show X6_bodyOf (Int32.ofNat 1) (Int32.ofNat 0) = 20 by decide, i_succ]
  cases X6_begin 20 M with
  | none => rfl
  | some q =>
    rw [bs, bs, body_u]
    cases X6_sayBody (X6_rec_say fu) 20 x (Int32.ofNat (d + 1)) q <;> rfl
theorem say_1_1 {fu d : Nat} (hd : d ≤ 40) (x : Int32) (M : Mem) : X6_rec_say (fu + 2) 0 (Int32.ofNat 1) (Int32.ofNat 1) x (Int32.ofNat d) M = (X6_begin 11 M).bind fun q => X6_sayBody (X6_rec_say fu) 11 x (Int32.ofNat (d + 1)) q := by
  show X6_say (X6_rec_say (fu + 1)) (Int32.ofNat 1) (Int32.ofNat 1) x (Int32.ofNat d) M = _
  unfold X6_say
  rw [if_neg (show ¬ (40 : Int32) < Int32.ofNat d by rw [show (40 : Int32) = Int32.ofNat 40 from rfl, i_ltn (by omega) (by omega)]; omega)]
  show (X6_say_L15 (X6_rec_say (fu + 1)) (397 + 1 + 1 + 1) _ _ _ _ 0 M).bind _ = _
  rw [X6_say_L15, if_pos (show (0 : Int32) < 7 by decide), if_neg (show ¬ Int32.ofNat 1 < 0 by decide), if_pos (show X6_bodyOf (Int32.ofNat 1) (Int32.ofNat 1) = 0 by decide), show X7_kindAbove (Int32.ofNat 1) = Int32.ofNat 0 by decide, X6_say_L15, if_pos (show (0 + 1 : Int32) < 7 by decide), if_neg (show ¬ Int32.ofNat 0 < 0 by decide), if_neg (show ¬ X6_bodyOf (Int32.ofNat 0) (Int32.ofNat 1) = 0 by decide), show X6_bodyOf (Int32.ofNat 0) (Int32.ofNat 1) = 11 by decide, i_succ]
  cases X6_begin 11 M with
  | none => rfl
  | some q =>
    rw [bs, bs, body_u]
    cases X6_sayBody (X6_rec_say fu) 11 x (Int32.ofNat (d + 1)) q <;> rfl
theorem say_1_2 {fu d : Nat} (hd : d ≤ 40) (x : Int32) (M : Mem) : X6_rec_say (fu + 2) 0 (Int32.ofNat 1) (Int32.ofNat 2) x (Int32.ofNat d) M = (X6_begin 12 M).bind fun q => X6_sayBody (X6_rec_say fu) 12 x (Int32.ofNat (d + 1)) q := by
  show X6_say (X6_rec_say (fu + 1)) (Int32.ofNat 1) (Int32.ofNat 2) x (Int32.ofNat d) M = _
  unfold X6_say
  rw [if_neg (show ¬ (40 : Int32) < Int32.ofNat d by rw [show (40 : Int32) = Int32.ofNat 40 from rfl, i_ltn (by omega) (by omega)]; omega)]
  show (X6_say_L15 (X6_rec_say (fu + 1)) (397 + 1 + 1 + 1) _ _ _ _ 0 M).bind _ = _
  rw [X6_say_L15, if_pos (show (0 : Int32) < 7 by decide), if_neg (show ¬ Int32.ofNat 1 < 0 by decide), if_pos (show X6_bodyOf (Int32.ofNat 1) (Int32.ofNat 2) = 0 by decide), show X7_kindAbove (Int32.ofNat 1) = Int32.ofNat 0 by decide, X6_say_L15, if_pos (show (0 + 1 : Int32) < 7 by decide), if_neg (show ¬ Int32.ofNat 0 < 0 by decide), if_neg (show ¬ X6_bodyOf (Int32.ofNat 0) (Int32.ofNat 2) = 0 by decide), show X6_bodyOf (Int32.ofNat 0) (Int32.ofNat 2) = 12 by decide, i_succ]
  cases X6_begin 12 M with
  | none => rfl
  | some q =>
    rw [bs, bs, body_u]
    cases X6_sayBody (X6_rec_say fu) 12 x (Int32.ofNat (d + 1)) q <;> rfl
theorem say_1_3 {fu d : Nat} (hd : d ≤ 40) (x : Int32) (M : Mem) : X6_rec_say (fu + 2) 0 (Int32.ofNat 1) (Int32.ofNat 3) x (Int32.ofNat d) M = (X6_begin 13 M).bind fun q => X6_sayBody (X6_rec_say fu) 13 x (Int32.ofNat (d + 1)) q := by
  show X6_say (X6_rec_say (fu + 1)) (Int32.ofNat 1) (Int32.ofNat 3) x (Int32.ofNat d) M = _
  unfold X6_say
  rw [if_neg (show ¬ (40 : Int32) < Int32.ofNat d by rw [show (40 : Int32) = Int32.ofNat 40 from rfl, i_ltn (by omega) (by omega)]; omega)]
  show (X6_say_L15 (X6_rec_say (fu + 1)) (397 + 1 + 1 + 1) _ _ _ _ 0 M).bind _ = _
  rw [X6_say_L15, if_pos (show (0 : Int32) < 7 by decide), if_neg (show ¬ Int32.ofNat 1 < 0 by decide), if_pos (show X6_bodyOf (Int32.ofNat 1) (Int32.ofNat 3) = 0 by decide), show X7_kindAbove (Int32.ofNat 1) = Int32.ofNat 0 by decide, X6_say_L15, if_pos (show (0 + 1 : Int32) < 7 by decide), if_neg (show ¬ Int32.ofNat 0 < 0 by decide), if_neg (show ¬ X6_bodyOf (Int32.ofNat 0) (Int32.ofNat 3) = 0 by decide), show X6_bodyOf (Int32.ofNat 0) (Int32.ofNat 3) = 13 by decide, i_succ]
  cases X6_begin 13 M with
  | none => rfl
  | some q =>
    rw [bs, bs, body_u]
    cases X6_sayBody (X6_rec_say fu) 13 x (Int32.ofNat (d + 1)) q <;> rfl
theorem say_2_0 {fu d : Nat} (hd : d ≤ 40) (x : Int32) (M : Mem) : X6_rec_say (fu + 2) 0 (Int32.ofNat 2) (Int32.ofNat 0) x (Int32.ofNat d) M = (X6_begin 10 M).bind fun q => X6_sayBody (X6_rec_say fu) 10 x (Int32.ofNat (d + 1)) q := by
  show X6_say (X6_rec_say (fu + 1)) (Int32.ofNat 2) (Int32.ofNat 0) x (Int32.ofNat d) M = _
  unfold X6_say
  rw [if_neg (show ¬ (40 : Int32) < Int32.ofNat d by rw [show (40 : Int32) = Int32.ofNat 40 from rfl, i_ltn (by omega) (by omega)]; omega)]
  show (X6_say_L15 (X6_rec_say (fu + 1)) (397 + 1 + 1 + 1) _ _ _ _ 0 M).bind _ = _
  rw [X6_say_L15, if_pos (show (0 : Int32) < 7 by decide), if_neg (show ¬ Int32.ofNat 2 < 0 by decide), if_pos (show X6_bodyOf (Int32.ofNat 2) (Int32.ofNat 0) = 0 by decide), show X7_kindAbove (Int32.ofNat 2) = Int32.ofNat 0 by decide, X6_say_L15, if_pos (show (0 + 1 : Int32) < 7 by decide), if_neg (show ¬ Int32.ofNat 0 < 0 by decide), if_neg (show ¬ X6_bodyOf (Int32.ofNat 0) (Int32.ofNat 0) = 0 by decide), show X6_bodyOf (Int32.ofNat 0) (Int32.ofNat 0) = 10 by decide, i_succ]
  cases X6_begin 10 M with
  | none => rfl
  | some q =>
    rw [bs, bs, body_u]
    cases X6_sayBody (X6_rec_say fu) 10 x (Int32.ofNat (d + 1)) q <;> rfl
theorem say_2_1 {fu d : Nat} (hd : d ≤ 40) (x : Int32) (M : Mem) : X6_rec_say (fu + 2) 0 (Int32.ofNat 2) (Int32.ofNat 1) x (Int32.ofNat d) M = (X6_begin 30 M).bind fun q => X6_sayBody (X6_rec_say fu) 30 x (Int32.ofNat (d + 1)) q := by
  show X6_say (X6_rec_say (fu + 1)) (Int32.ofNat 2) (Int32.ofNat 1) x (Int32.ofNat d) M = _
  unfold X6_say
  rw [if_neg (show ¬ (40 : Int32) < Int32.ofNat d by rw [show (40 : Int32) = Int32.ofNat 40 from rfl, i_ltn (by omega) (by omega)]; omega)]
  show (X6_say_L15 (X6_rec_say (fu + 1)) (397 + 1 + 1 + 1) _ _ _ _ 0 M).bind _ = _
  rw [X6_say_L15, if_pos (show (0 : Int32) < 7 by decide), if_neg (show ¬ Int32.ofNat 2 < 0 by decide), if_neg (show ¬ X6_bodyOf (Int32.ofNat 2) (Int32.ofNat 1) = 0 by decide), show X6_bodyOf (Int32.ofNat 2) (Int32.ofNat 1) = 30 by decide, i_succ]
  cases X6_begin 30 M with
  | none => rfl
  | some q =>
    rw [bs, bs, body_u]
    cases X6_sayBody (X6_rec_say fu) 30 x (Int32.ofNat (d + 1)) q <;> rfl
theorem say_2_2 {fu d : Nat} (hd : d ≤ 40) (x : Int32) (M : Mem) : X6_rec_say (fu + 2) 0 (Int32.ofNat 2) (Int32.ofNat 2) x (Int32.ofNat d) M = (X6_begin 12 M).bind fun q => X6_sayBody (X6_rec_say fu) 12 x (Int32.ofNat (d + 1)) q := by
  show X6_say (X6_rec_say (fu + 1)) (Int32.ofNat 2) (Int32.ofNat 2) x (Int32.ofNat d) M = _
  unfold X6_say
  rw [if_neg (show ¬ (40 : Int32) < Int32.ofNat d by rw [show (40 : Int32) = Int32.ofNat 40 from rfl, i_ltn (by omega) (by omega)]; omega)]
  show (X6_say_L15 (X6_rec_say (fu + 1)) (397 + 1 + 1 + 1) _ _ _ _ 0 M).bind _ = _
  rw [X6_say_L15, if_pos (show (0 : Int32) < 7 by decide), if_neg (show ¬ Int32.ofNat 2 < 0 by decide), if_pos (show X6_bodyOf (Int32.ofNat 2) (Int32.ofNat 2) = 0 by decide), show X7_kindAbove (Int32.ofNat 2) = Int32.ofNat 0 by decide, X6_say_L15, if_pos (show (0 + 1 : Int32) < 7 by decide), if_neg (show ¬ Int32.ofNat 0 < 0 by decide), if_neg (show ¬ X6_bodyOf (Int32.ofNat 0) (Int32.ofNat 2) = 0 by decide), show X6_bodyOf (Int32.ofNat 0) (Int32.ofNat 2) = 12 by decide, i_succ]
  cases X6_begin 12 M with
  | none => rfl
  | some q =>
    rw [bs, bs, body_u]
    cases X6_sayBody (X6_rec_say fu) 12 x (Int32.ofNat (d + 1)) q <;> rfl
theorem say_2_3 {fu d : Nat} (hd : d ≤ 40) (x : Int32) (M : Mem) : X6_rec_say (fu + 2) 0 (Int32.ofNat 2) (Int32.ofNat 3) x (Int32.ofNat d) M = (X6_begin 13 M).bind fun q => X6_sayBody (X6_rec_say fu) 13 x (Int32.ofNat (d + 1)) q := by
  show X6_say (X6_rec_say (fu + 1)) (Int32.ofNat 2) (Int32.ofNat 3) x (Int32.ofNat d) M = _
  unfold X6_say
  rw [if_neg (show ¬ (40 : Int32) < Int32.ofNat d by rw [show (40 : Int32) = Int32.ofNat 40 from rfl, i_ltn (by omega) (by omega)]; omega)]
  show (X6_say_L15 (X6_rec_say (fu + 1)) (397 + 1 + 1 + 1) _ _ _ _ 0 M).bind _ = _
  rw [X6_say_L15, if_pos (show (0 : Int32) < 7 by decide), if_neg (show ¬ Int32.ofNat 2 < 0 by decide), if_pos (show X6_bodyOf (Int32.ofNat 2) (Int32.ofNat 3) = 0 by decide), show X7_kindAbove (Int32.ofNat 2) = Int32.ofNat 0 by decide, X6_say_L15, if_pos (show (0 + 1 : Int32) < 7 by decide), if_neg (show ¬ Int32.ofNat 0 < 0 by decide), if_neg (show ¬ X6_bodyOf (Int32.ofNat 0) (Int32.ofNat 3) = 0 by decide), show X6_bodyOf (Int32.ofNat 0) (Int32.ofNat 3) = 13 by decide, i_succ]
  cases X6_begin 13 M with
  | none => rfl
  | some q =>
    rw [bs, bs, body_u]
    cases X6_sayBody (X6_rec_say fu) 13 x (Int32.ofNat (d + 1)) q <;> rfl
theorem say_3_0 {fu d : Nat} (hd : d ≤ 40) (x : Int32) (M : Mem) : X6_rec_say (fu + 2) 0 (Int32.ofNat 3) (Int32.ofNat 0) x (Int32.ofNat d) M = (X6_begin 10 M).bind fun q => X6_sayBody (X6_rec_say fu) 10 x (Int32.ofNat (d + 1)) q := by
  show X6_say (X6_rec_say (fu + 1)) (Int32.ofNat 3) (Int32.ofNat 0) x (Int32.ofNat d) M = _
  unfold X6_say
  rw [if_neg (show ¬ (40 : Int32) < Int32.ofNat d by rw [show (40 : Int32) = Int32.ofNat 40 from rfl, i_ltn (by omega) (by omega)]; omega)]
  show (X6_say_L15 (X6_rec_say (fu + 1)) (397 + 1 + 1 + 1) _ _ _ _ 0 M).bind _ = _
  rw [X6_say_L15, if_pos (show (0 : Int32) < 7 by decide), if_neg (show ¬ Int32.ofNat 3 < 0 by decide), if_pos (show X6_bodyOf (Int32.ofNat 3) (Int32.ofNat 0) = 0 by decide), show X7_kindAbove (Int32.ofNat 3) = Int32.ofNat 0 by decide, X6_say_L15, if_pos (show (0 + 1 : Int32) < 7 by decide), if_neg (show ¬ Int32.ofNat 0 < 0 by decide), if_neg (show ¬ X6_bodyOf (Int32.ofNat 0) (Int32.ofNat 0) = 0 by decide), show X6_bodyOf (Int32.ofNat 0) (Int32.ofNat 0) = 10 by decide, i_succ]
  cases X6_begin 10 M with
  | none => rfl
  | some q =>
    rw [bs, bs, body_u]
    cases X6_sayBody (X6_rec_say fu) 10 x (Int32.ofNat (d + 1)) q <;> rfl
theorem say_3_1 {fu d : Nat} (hd : d ≤ 40) (x : Int32) (M : Mem) : X6_rec_say (fu + 2) 0 (Int32.ofNat 3) (Int32.ofNat 1) x (Int32.ofNat d) M = (X6_begin 11 M).bind fun q => X6_sayBody (X6_rec_say fu) 11 x (Int32.ofNat (d + 1)) q := by
  show X6_say (X6_rec_say (fu + 1)) (Int32.ofNat 3) (Int32.ofNat 1) x (Int32.ofNat d) M = _
  unfold X6_say
  rw [if_neg (show ¬ (40 : Int32) < Int32.ofNat d by rw [show (40 : Int32) = Int32.ofNat 40 from rfl, i_ltn (by omega) (by omega)]; omega)]
  show (X6_say_L15 (X6_rec_say (fu + 1)) (397 + 1 + 1 + 1) _ _ _ _ 0 M).bind _ = _
  rw [X6_say_L15, if_pos (show (0 : Int32) < 7 by decide), if_neg (show ¬ Int32.ofNat 3 < 0 by decide), if_pos (show X6_bodyOf (Int32.ofNat 3) (Int32.ofNat 1) = 0 by decide), show X7_kindAbove (Int32.ofNat 3) = Int32.ofNat 0 by decide, X6_say_L15, if_pos (show (0 + 1 : Int32) < 7 by decide), if_neg (show ¬ Int32.ofNat 0 < 0 by decide), if_neg (show ¬ X6_bodyOf (Int32.ofNat 0) (Int32.ofNat 1) = 0 by decide), show X6_bodyOf (Int32.ofNat 0) (Int32.ofNat 1) = 11 by decide, i_succ]
  cases X6_begin 11 M with
  | none => rfl
  | some q =>
    rw [bs, bs, body_u]
    cases X6_sayBody (X6_rec_say fu) 11 x (Int32.ofNat (d + 1)) q <;> rfl
theorem say_3_2 {fu d : Nat} (hd : d ≤ 40) (x : Int32) (M : Mem) : X6_rec_say (fu + 2) 0 (Int32.ofNat 3) (Int32.ofNat 2) x (Int32.ofNat d) M = (X6_begin 40 M).bind fun q => X6_sayBody (X6_rec_say fu) 40 x (Int32.ofNat (d + 1)) q := by
  show X6_say (X6_rec_say (fu + 1)) (Int32.ofNat 3) (Int32.ofNat 2) x (Int32.ofNat d) M = _
  unfold X6_say
  rw [if_neg (show ¬ (40 : Int32) < Int32.ofNat d by rw [show (40 : Int32) = Int32.ofNat 40 from rfl, i_ltn (by omega) (by omega)]; omega)]
  show (X6_say_L15 (X6_rec_say (fu + 1)) (397 + 1 + 1 + 1) _ _ _ _ 0 M).bind _ = _
  rw [X6_say_L15, if_pos (show (0 : Int32) < 7 by decide), if_neg (show ¬ Int32.ofNat 3 < 0 by decide), if_neg (show ¬ X6_bodyOf (Int32.ofNat 3) (Int32.ofNat 2) = 0 by decide), show X6_bodyOf (Int32.ofNat 3) (Int32.ofNat 2) = 40 by decide, i_succ]
  cases X6_begin 40 M with
  | none => rfl
  | some q =>
    rw [bs, bs, body_u]
    cases X6_sayBody (X6_rec_say fu) 40 x (Int32.ofNat (d + 1)) q <;> rfl
theorem say_3_3 {fu d : Nat} (hd : d ≤ 40) (x : Int32) (M : Mem) : X6_rec_say (fu + 2) 0 (Int32.ofNat 3) (Int32.ofNat 3) x (Int32.ofNat d) M = (X6_begin 13 M).bind fun q => X6_sayBody (X6_rec_say fu) 13 x (Int32.ofNat (d + 1)) q := by
  show X6_say (X6_rec_say (fu + 1)) (Int32.ofNat 3) (Int32.ofNat 3) x (Int32.ofNat d) M = _
  unfold X6_say
  rw [if_neg (show ¬ (40 : Int32) < Int32.ofNat d by rw [show (40 : Int32) = Int32.ofNat 40 from rfl, i_ltn (by omega) (by omega)]; omega)]
  show (X6_say_L15 (X6_rec_say (fu + 1)) (397 + 1 + 1 + 1) _ _ _ _ 0 M).bind _ = _
  rw [X6_say_L15, if_pos (show (0 : Int32) < 7 by decide), if_neg (show ¬ Int32.ofNat 3 < 0 by decide), if_pos (show X6_bodyOf (Int32.ofNat 3) (Int32.ofNat 3) = 0 by decide), show X7_kindAbove (Int32.ofNat 3) = Int32.ofNat 0 by decide, X6_say_L15, if_pos (show (0 + 1 : Int32) < 7 by decide), if_neg (show ¬ Int32.ofNat 0 < 0 by decide), if_neg (show ¬ X6_bodyOf (Int32.ofNat 0) (Int32.ofNat 3) = 0 by decide), show X6_bodyOf (Int32.ofNat 0) (Int32.ofNat 3) = 13 by decide, i_succ]
  cases X6_begin 13 M with
  | none => rfl
  | some q =>
    rw [bs, bs, body_u]
    cases X6_sayBody (X6_rec_say fu) 13 x (Int32.ofNat (d + 1)) q <;> rfl
theorem say_4_0 {fu d : Nat} (hd : d ≤ 40) (x : Int32) (M : Mem) : X6_rec_say (fu + 2) 0 (Int32.ofNat 4) (Int32.ofNat 0) x (Int32.ofNat d) M = (X6_begin 20 M).bind fun q => X6_sayBody (X6_rec_say fu) 20 x (Int32.ofNat (d + 1)) q := by
  show X6_say (X6_rec_say (fu + 1)) (Int32.ofNat 4) (Int32.ofNat 0) x (Int32.ofNat d) M = _
  unfold X6_say
  rw [if_neg (show ¬ (40 : Int32) < Int32.ofNat d by rw [show (40 : Int32) = Int32.ofNat 40 from rfl, i_ltn (by omega) (by omega)]; omega)]
  show (X6_say_L15 (X6_rec_say (fu + 1)) (397 + 1 + 1 + 1) _ _ _ _ 0 M).bind _ = _
  rw [X6_say_L15, if_pos (show (0 : Int32) < 7 by decide), if_neg (show ¬ Int32.ofNat 4 < 0 by decide), if_pos (show X6_bodyOf (Int32.ofNat 4) (Int32.ofNat 0) = 0 by decide), show X7_kindAbove (Int32.ofNat 4) = Int32.ofNat 1 by decide, X6_say_L15, if_pos (show (0 + 1 : Int32) < 7 by decide), if_neg (show ¬ Int32.ofNat 1 < 0 by decide), if_neg (show ¬ X6_bodyOf (Int32.ofNat 1) (Int32.ofNat 0) = 0 by decide), show X6_bodyOf (Int32.ofNat 1) (Int32.ofNat 0) = 20 by decide, i_succ]
  cases X6_begin 20 M with
  | none => rfl
  | some q =>
    rw [bs, bs, body_u]
    cases X6_sayBody (X6_rec_say fu) 20 x (Int32.ofNat (d + 1)) q <;> rfl
theorem say_4_1 {fu d : Nat} (hd : d ≤ 40) (x : Int32) (M : Mem) : X6_rec_say (fu + 2) 0 (Int32.ofNat 4) (Int32.ofNat 1) x (Int32.ofNat d) M = (X6_begin 11 M).bind fun q => X6_sayBody (X6_rec_say fu) 11 x (Int32.ofNat (d + 1)) q := by
  show X6_say (X6_rec_say (fu + 1)) (Int32.ofNat 4) (Int32.ofNat 1) x (Int32.ofNat d) M = _
  unfold X6_say
  rw [if_neg (show ¬ (40 : Int32) < Int32.ofNat d by rw [show (40 : Int32) = Int32.ofNat 40 from rfl, i_ltn (by omega) (by omega)]; omega)]
  show (X6_say_L15 (X6_rec_say (fu + 1)) (397 + 1 + 1 + 1) _ _ _ _ 0 M).bind _ = _
  rw [X6_say_L15, if_pos (show (0 : Int32) < 7 by decide), if_neg (show ¬ Int32.ofNat 4 < 0 by decide), if_pos (show X6_bodyOf (Int32.ofNat 4) (Int32.ofNat 1) = 0 by decide), show X7_kindAbove (Int32.ofNat 4) = Int32.ofNat 1 by decide, X6_say_L15, if_pos (show (0 + 1 : Int32) < 7 by decide), if_neg (show ¬ Int32.ofNat 1 < 0 by decide), if_pos (show X6_bodyOf (Int32.ofNat 1) (Int32.ofNat 1) = 0 by decide), show X7_kindAbove (Int32.ofNat 1) = Int32.ofNat 0 by decide, X6_say_L15, if_pos (show (0 + 1 + 1 : Int32) < 7 by decide), if_neg (show ¬ Int32.ofNat 0 < 0 by decide), if_neg (show ¬ X6_bodyOf (Int32.ofNat 0) (Int32.ofNat 1) = 0 by decide), show X6_bodyOf (Int32.ofNat 0) (Int32.ofNat 1) = 11 by decide, i_succ]
  cases X6_begin 11 M with
  | none => rfl
  | some q =>
    rw [bs, bs, body_u]
    cases X6_sayBody (X6_rec_say fu) 11 x (Int32.ofNat (d + 1)) q <;> rfl
theorem say_4_2 {fu d : Nat} (hd : d ≤ 40) (x : Int32) (M : Mem) : X6_rec_say (fu + 2) 0 (Int32.ofNat 4) (Int32.ofNat 2) x (Int32.ofNat d) M = (X6_begin 12 M).bind fun q => X6_sayBody (X6_rec_say fu) 12 x (Int32.ofNat (d + 1)) q := by
  show X6_say (X6_rec_say (fu + 1)) (Int32.ofNat 4) (Int32.ofNat 2) x (Int32.ofNat d) M = _
  unfold X6_say
  rw [if_neg (show ¬ (40 : Int32) < Int32.ofNat d by rw [show (40 : Int32) = Int32.ofNat 40 from rfl, i_ltn (by omega) (by omega)]; omega)]
  show (X6_say_L15 (X6_rec_say (fu + 1)) (397 + 1 + 1 + 1) _ _ _ _ 0 M).bind _ = _
  rw [X6_say_L15, if_pos (show (0 : Int32) < 7 by decide), if_neg (show ¬ Int32.ofNat 4 < 0 by decide), if_pos (show X6_bodyOf (Int32.ofNat 4) (Int32.ofNat 2) = 0 by decide), show X7_kindAbove (Int32.ofNat 4) = Int32.ofNat 1 by decide, X6_say_L15, if_pos (show (0 + 1 : Int32) < 7 by decide), if_neg (show ¬ Int32.ofNat 1 < 0 by decide), if_pos (show X6_bodyOf (Int32.ofNat 1) (Int32.ofNat 2) = 0 by decide), show X7_kindAbove (Int32.ofNat 1) = Int32.ofNat 0 by decide, X6_say_L15, if_pos (show (0 + 1 + 1 : Int32) < 7 by decide), if_neg (show ¬ Int32.ofNat 0 < 0 by decide), if_neg (show ¬ X6_bodyOf (Int32.ofNat 0) (Int32.ofNat 2) = 0 by decide), show X6_bodyOf (Int32.ofNat 0) (Int32.ofNat 2) = 12 by decide, i_succ]
  cases X6_begin 12 M with
  | none => rfl
  | some q =>
    rw [bs, bs, body_u]
    cases X6_sayBody (X6_rec_say fu) 12 x (Int32.ofNat (d + 1)) q <;> rfl
theorem say_4_3 {fu d : Nat} (hd : d ≤ 40) (x : Int32) (M : Mem) : X6_rec_say (fu + 2) 0 (Int32.ofNat 4) (Int32.ofNat 3) x (Int32.ofNat d) M = (X6_begin 50 M).bind fun q => X6_sayBody (X6_rec_say fu) 50 x (Int32.ofNat (d + 1)) q := by
  show X6_say (X6_rec_say (fu + 1)) (Int32.ofNat 4) (Int32.ofNat 3) x (Int32.ofNat d) M = _
  unfold X6_say
  rw [if_neg (show ¬ (40 : Int32) < Int32.ofNat d by rw [show (40 : Int32) = Int32.ofNat 40 from rfl, i_ltn (by omega) (by omega)]; omega)]
  show (X6_say_L15 (X6_rec_say (fu + 1)) (397 + 1 + 1 + 1) _ _ _ _ 0 M).bind _ = _
  rw [X6_say_L15, if_pos (show (0 : Int32) < 7 by decide), if_neg (show ¬ Int32.ofNat 4 < 0 by decide), if_neg (show ¬ X6_bodyOf (Int32.ofNat 4) (Int32.ofNat 3) = 0 by decide), show X6_bodyOf (Int32.ofNat 4) (Int32.ofNat 3) = 50 by decide, i_succ]
  cases X6_begin 50 M with
  | none => rfl
  | some q =>
    rw [bs, bs, body_u]
    cases X6_sayBody (X6_rec_say fu) 50 x (Int32.ofNat (d + 1)) q <;> rfl
theorem say_5_0 {fu d : Nat} (hd : d ≤ 40) (x : Int32) (M : Mem) : X6_rec_say (fu + 2) 0 (Int32.ofNat 5) (Int32.ofNat 0) x (Int32.ofNat d) M = (X6_begin 10 M).bind fun q => X6_sayBody (X6_rec_say fu) 10 x (Int32.ofNat (d + 1)) q := by
  show X6_say (X6_rec_say (fu + 1)) (Int32.ofNat 5) (Int32.ofNat 0) x (Int32.ofNat d) M = _
  unfold X6_say
  rw [if_neg (show ¬ (40 : Int32) < Int32.ofNat d by rw [show (40 : Int32) = Int32.ofNat 40 from rfl, i_ltn (by omega) (by omega)]; omega)]
  show (X6_say_L15 (X6_rec_say (fu + 1)) (397 + 1 + 1 + 1) _ _ _ _ 0 M).bind _ = _
  rw [X6_say_L15, if_pos (show (0 : Int32) < 7 by decide), if_neg (show ¬ Int32.ofNat 5 < 0 by decide), if_pos (show X6_bodyOf (Int32.ofNat 5) (Int32.ofNat 0) = 0 by decide), show X7_kindAbove (Int32.ofNat 5) = Int32.ofNat 2 by decide, X6_say_L15, if_pos (show (0 + 1 : Int32) < 7 by decide), if_neg (show ¬ Int32.ofNat 2 < 0 by decide), if_pos (show X6_bodyOf (Int32.ofNat 2) (Int32.ofNat 0) = 0 by decide), show X7_kindAbove (Int32.ofNat 2) = Int32.ofNat 0 by decide, X6_say_L15, if_pos (show (0 + 1 + 1 : Int32) < 7 by decide), if_neg (show ¬ Int32.ofNat 0 < 0 by decide), if_neg (show ¬ X6_bodyOf (Int32.ofNat 0) (Int32.ofNat 0) = 0 by decide), show X6_bodyOf (Int32.ofNat 0) (Int32.ofNat 0) = 10 by decide, i_succ]
  cases X6_begin 10 M with
  | none => rfl
  | some q =>
    rw [bs, bs, body_u]
    cases X6_sayBody (X6_rec_say fu) 10 x (Int32.ofNat (d + 1)) q <;> rfl
theorem say_5_1 {fu d : Nat} (hd : d ≤ 40) (x : Int32) (M : Mem) : X6_rec_say (fu + 2) 0 (Int32.ofNat 5) (Int32.ofNat 1) x (Int32.ofNat d) M = (X6_begin 60 M).bind fun q => X6_sayBody (X6_rec_say fu) 60 x (Int32.ofNat (d + 1)) q := by
  show X6_say (X6_rec_say (fu + 1)) (Int32.ofNat 5) (Int32.ofNat 1) x (Int32.ofNat d) M = _
  unfold X6_say
  rw [if_neg (show ¬ (40 : Int32) < Int32.ofNat d by rw [show (40 : Int32) = Int32.ofNat 40 from rfl, i_ltn (by omega) (by omega)]; omega)]
  show (X6_say_L15 (X6_rec_say (fu + 1)) (397 + 1 + 1 + 1) _ _ _ _ 0 M).bind _ = _
  rw [X6_say_L15, if_pos (show (0 : Int32) < 7 by decide), if_neg (show ¬ Int32.ofNat 5 < 0 by decide), if_neg (show ¬ X6_bodyOf (Int32.ofNat 5) (Int32.ofNat 1) = 0 by decide), show X6_bodyOf (Int32.ofNat 5) (Int32.ofNat 1) = 60 by decide, i_succ]
  cases X6_begin 60 M with
  | none => rfl
  | some q =>
    rw [bs, bs, body_u]
    cases X6_sayBody (X6_rec_say fu) 60 x (Int32.ofNat (d + 1)) q <;> rfl
theorem say_5_2 {fu d : Nat} (hd : d ≤ 40) (x : Int32) (M : Mem) : X6_rec_say (fu + 2) 0 (Int32.ofNat 5) (Int32.ofNat 2) x (Int32.ofNat d) M = (X6_begin 12 M).bind fun q => X6_sayBody (X6_rec_say fu) 12 x (Int32.ofNat (d + 1)) q := by
  show X6_say (X6_rec_say (fu + 1)) (Int32.ofNat 5) (Int32.ofNat 2) x (Int32.ofNat d) M = _
  unfold X6_say
  rw [if_neg (show ¬ (40 : Int32) < Int32.ofNat d by rw [show (40 : Int32) = Int32.ofNat 40 from rfl, i_ltn (by omega) (by omega)]; omega)]
  show (X6_say_L15 (X6_rec_say (fu + 1)) (397 + 1 + 1 + 1) _ _ _ _ 0 M).bind _ = _
  rw [X6_say_L15, if_pos (show (0 : Int32) < 7 by decide), if_neg (show ¬ Int32.ofNat 5 < 0 by decide), if_pos (show X6_bodyOf (Int32.ofNat 5) (Int32.ofNat 2) = 0 by decide), show X7_kindAbove (Int32.ofNat 5) = Int32.ofNat 2 by decide, X6_say_L15, if_pos (show (0 + 1 : Int32) < 7 by decide), if_neg (show ¬ Int32.ofNat 2 < 0 by decide), if_pos (show X6_bodyOf (Int32.ofNat 2) (Int32.ofNat 2) = 0 by decide), show X7_kindAbove (Int32.ofNat 2) = Int32.ofNat 0 by decide, X6_say_L15, if_pos (show (0 + 1 + 1 : Int32) < 7 by decide), if_neg (show ¬ Int32.ofNat 0 < 0 by decide), if_neg (show ¬ X6_bodyOf (Int32.ofNat 0) (Int32.ofNat 2) = 0 by decide), show X6_bodyOf (Int32.ofNat 0) (Int32.ofNat 2) = 12 by decide, i_succ]
  cases X6_begin 12 M with
  | none => rfl
  | some q =>
    rw [bs, bs, body_u]
    cases X6_sayBody (X6_rec_say fu) 12 x (Int32.ofNat (d + 1)) q <;> rfl
theorem say_5_3 {fu d : Nat} (hd : d ≤ 40) (x : Int32) (M : Mem) : X6_rec_say (fu + 2) 0 (Int32.ofNat 5) (Int32.ofNat 3) x (Int32.ofNat d) M = (X6_begin 13 M).bind fun q => X6_sayBody (X6_rec_say fu) 13 x (Int32.ofNat (d + 1)) q := by
  show X6_say (X6_rec_say (fu + 1)) (Int32.ofNat 5) (Int32.ofNat 3) x (Int32.ofNat d) M = _
  unfold X6_say
  rw [if_neg (show ¬ (40 : Int32) < Int32.ofNat d by rw [show (40 : Int32) = Int32.ofNat 40 from rfl, i_ltn (by omega) (by omega)]; omega)]
  show (X6_say_L15 (X6_rec_say (fu + 1)) (397 + 1 + 1 + 1) _ _ _ _ 0 M).bind _ = _
  rw [X6_say_L15, if_pos (show (0 : Int32) < 7 by decide), if_neg (show ¬ Int32.ofNat 5 < 0 by decide), if_pos (show X6_bodyOf (Int32.ofNat 5) (Int32.ofNat 3) = 0 by decide), show X7_kindAbove (Int32.ofNat 5) = Int32.ofNat 2 by decide, X6_say_L15, if_pos (show (0 + 1 : Int32) < 7 by decide), if_neg (show ¬ Int32.ofNat 2 < 0 by decide), if_pos (show X6_bodyOf (Int32.ofNat 2) (Int32.ofNat 3) = 0 by decide), show X7_kindAbove (Int32.ofNat 2) = Int32.ofNat 0 by decide, X6_say_L15, if_pos (show (0 + 1 + 1 : Int32) < 7 by decide), if_neg (show ¬ Int32.ofNat 0 < 0 by decide), if_neg (show ¬ X6_bodyOf (Int32.ofNat 0) (Int32.ofNat 3) = 0 by decide), show X6_bodyOf (Int32.ofNat 0) (Int32.ofNat 3) = 13 by decide, i_succ]
  cases X6_begin 13 M with
  | none => rfl
  | some q =>
    rw [bs, bs, body_u]
    cases X6_sayBody (X6_rec_say fu) 13 x (Int32.ofNat (d + 1)) q <;> rfl
theorem say_6_0 {fu d : Nat} (hd : d ≤ 40) (x : Int32) (M : Mem) : X6_rec_say (fu + 2) 0 (Int32.ofNat 6) (Int32.ofNat 0) x (Int32.ofNat d) M = (X6_begin 10 M).bind fun q => X6_sayBody (X6_rec_say fu) 10 x (Int32.ofNat (d + 1)) q := by
  show X6_say (X6_rec_say (fu + 1)) (Int32.ofNat 6) (Int32.ofNat 0) x (Int32.ofNat d) M = _
  unfold X6_say
  rw [if_neg (show ¬ (40 : Int32) < Int32.ofNat d by rw [show (40 : Int32) = Int32.ofNat 40 from rfl, i_ltn (by omega) (by omega)]; omega)]
  show (X6_say_L15 (X6_rec_say (fu + 1)) (397 + 1 + 1 + 1) _ _ _ _ 0 M).bind _ = _
  rw [X6_say_L15, if_pos (show (0 : Int32) < 7 by decide), if_neg (show ¬ Int32.ofNat 6 < 0 by decide), if_pos (show X6_bodyOf (Int32.ofNat 6) (Int32.ofNat 0) = 0 by decide), show X7_kindAbove (Int32.ofNat 6) = Int32.ofNat 3 by decide, X6_say_L15, if_pos (show (0 + 1 : Int32) < 7 by decide), if_neg (show ¬ Int32.ofNat 3 < 0 by decide), if_pos (show X6_bodyOf (Int32.ofNat 3) (Int32.ofNat 0) = 0 by decide), show X7_kindAbove (Int32.ofNat 3) = Int32.ofNat 0 by decide, X6_say_L15, if_pos (show (0 + 1 + 1 : Int32) < 7 by decide), if_neg (show ¬ Int32.ofNat 0 < 0 by decide), if_neg (show ¬ X6_bodyOf (Int32.ofNat 0) (Int32.ofNat 0) = 0 by decide), show X6_bodyOf (Int32.ofNat 0) (Int32.ofNat 0) = 10 by decide, i_succ]
  cases X6_begin 10 M with
  | none => rfl
  | some q =>
    rw [bs, bs, body_u]
    cases X6_sayBody (X6_rec_say fu) 10 x (Int32.ofNat (d + 1)) q <;> rfl
theorem say_6_1 {fu d : Nat} (hd : d ≤ 40) (x : Int32) (M : Mem) : X6_rec_say (fu + 2) 0 (Int32.ofNat 6) (Int32.ofNat 1) x (Int32.ofNat d) M = (X6_begin 11 M).bind fun q => X6_sayBody (X6_rec_say fu) 11 x (Int32.ofNat (d + 1)) q := by
  show X6_say (X6_rec_say (fu + 1)) (Int32.ofNat 6) (Int32.ofNat 1) x (Int32.ofNat d) M = _
  unfold X6_say
  rw [if_neg (show ¬ (40 : Int32) < Int32.ofNat d by rw [show (40 : Int32) = Int32.ofNat 40 from rfl, i_ltn (by omega) (by omega)]; omega)]
  show (X6_say_L15 (X6_rec_say (fu + 1)) (397 + 1 + 1 + 1) _ _ _ _ 0 M).bind _ = _
  rw [X6_say_L15, if_pos (show (0 : Int32) < 7 by decide), if_neg (show ¬ Int32.ofNat 6 < 0 by decide), if_pos (show X6_bodyOf (Int32.ofNat 6) (Int32.ofNat 1) = 0 by decide), show X7_kindAbove (Int32.ofNat 6) = Int32.ofNat 3 by decide, X6_say_L15, if_pos (show (0 + 1 : Int32) < 7 by decide), if_neg (show ¬ Int32.ofNat 3 < 0 by decide), if_pos (show X6_bodyOf (Int32.ofNat 3) (Int32.ofNat 1) = 0 by decide), show X7_kindAbove (Int32.ofNat 3) = Int32.ofNat 0 by decide, X6_say_L15, if_pos (show (0 + 1 + 1 : Int32) < 7 by decide), if_neg (show ¬ Int32.ofNat 0 < 0 by decide), if_neg (show ¬ X6_bodyOf (Int32.ofNat 0) (Int32.ofNat 1) = 0 by decide), show X6_bodyOf (Int32.ofNat 0) (Int32.ofNat 1) = 11 by decide, i_succ]
  cases X6_begin 11 M with
  | none => rfl
  | some q =>
    rw [bs, bs, body_u]
    cases X6_sayBody (X6_rec_say fu) 11 x (Int32.ofNat (d + 1)) q <;> rfl
theorem say_6_2 {fu d : Nat} (hd : d ≤ 40) (x : Int32) (M : Mem) : X6_rec_say (fu + 2) 0 (Int32.ofNat 6) (Int32.ofNat 2) x (Int32.ofNat d) M = (X6_begin 70 M).bind fun q => X6_sayBody (X6_rec_say fu) 70 x (Int32.ofNat (d + 1)) q := by
  show X6_say (X6_rec_say (fu + 1)) (Int32.ofNat 6) (Int32.ofNat 2) x (Int32.ofNat d) M = _
  unfold X6_say
  rw [if_neg (show ¬ (40 : Int32) < Int32.ofNat d by rw [show (40 : Int32) = Int32.ofNat 40 from rfl, i_ltn (by omega) (by omega)]; omega)]
  show (X6_say_L15 (X6_rec_say (fu + 1)) (397 + 1 + 1 + 1) _ _ _ _ 0 M).bind _ = _
  rw [X6_say_L15, if_pos (show (0 : Int32) < 7 by decide), if_neg (show ¬ Int32.ofNat 6 < 0 by decide), if_neg (show ¬ X6_bodyOf (Int32.ofNat 6) (Int32.ofNat 2) = 0 by decide), show X6_bodyOf (Int32.ofNat 6) (Int32.ofNat 2) = 70 by decide, i_succ]
  cases X6_begin 70 M with
  | none => rfl
  | some q =>
    rw [bs, bs, body_u]
    cases X6_sayBody (X6_rec_say fu) 70 x (Int32.ofNat (d + 1)) q <;> rfl
theorem say_6_3 {fu d : Nat} (hd : d ≤ 40) (x : Int32) (M : Mem) : X6_rec_say (fu + 2) 0 (Int32.ofNat 6) (Int32.ofNat 3) x (Int32.ofNat d) M = (X6_begin 71 M).bind fun q => X6_sayBody (X6_rec_say fu) 71 x (Int32.ofNat (d + 1)) q := by
  show X6_say (X6_rec_say (fu + 1)) (Int32.ofNat 6) (Int32.ofNat 3) x (Int32.ofNat d) M = _
  unfold X6_say
  rw [if_neg (show ¬ (40 : Int32) < Int32.ofNat d by rw [show (40 : Int32) = Int32.ofNat 40 from rfl, i_ltn (by omega) (by omega)]; omega)]
  show (X6_say_L15 (X6_rec_say (fu + 1)) (397 + 1 + 1 + 1) _ _ _ _ 0 M).bind _ = _
  rw [X6_say_L15, if_pos (show (0 : Int32) < 7 by decide), if_neg (show ¬ Int32.ofNat 6 < 0 by decide), if_neg (show ¬ X6_bodyOf (Int32.ofNat 6) (Int32.ofNat 3) = 0 by decide), show X6_bodyOf (Int32.ofNat 6) (Int32.ofNat 3) = 71 by decide, i_succ]
  cases X6_begin 71 M with
  | none => rfl
  | some q =>
    rw [bs, bs, body_u]
    cases X6_sayBody (X6_rec_say fu) 71 x (Int32.ofNat (d + 1)) q <;> rfl
theorem sup_u {fu : Nat} {o a x d : Int32} {M : Mem} : X6_rec_say (fu + 1) 2 o a x d M = X6_rec_say fu 0 (X7_kindAbove o) a x d M := by
  show (X6_rec_say fu 0 (X7_kindAbove o) a x d M).bind _ = _
  exact bind_some2
theorem up_2_0 {fu : Nat} (x : Int32) (M : Mem) : X8_rec_holdsBy (fu + 1) 0 (Int32.ofNat 2) x M = X8_rec_holdsBy fu 0 (Int32.ofNat 0) x M := by
  show (X8_rec_holdsBy fu 0 (X8_above (Int32.ofNat 2)) x M).bind _ = _
  rw [show X8_above (Int32.ofNat 2) = Int32.ofNat 0 by decide]
  exact bind_some2
theorem up_3_0 {fu : Nat} (x : Int32) (M : Mem) : X8_rec_holdsBy (fu + 1) 0 (Int32.ofNat 3) x M = X8_rec_holdsBy fu 0 (Int32.ofNat 0) x M := by
  show (X8_rec_holdsBy fu 0 (X8_above (Int32.ofNat 3)) x M).bind _ = _
  rw [show X8_above (Int32.ofNat 3) = Int32.ofNat 0 by decide]
  exact bind_some2
theorem up_4_0 {fu : Nat} (x : Int32) (M : Mem) : X8_rec_holdsBy (fu + 1) 0 (Int32.ofNat 4) x M = X8_rec_holdsBy fu 0 (Int32.ofNat 1) x M := by
  show (X8_rec_holdsBy fu 0 (X8_above (Int32.ofNat 4)) x M).bind _ = _
  rw [show X8_above (Int32.ofNat 4) = Int32.ofNat 1 by decide]
  exact bind_some2
theorem up_5_0 {fu : Nat} (x : Int32) (M : Mem) : X8_rec_holdsBy (fu + 1) 0 (Int32.ofNat 5) x M = X8_rec_holdsBy fu 0 (Int32.ofNat 2) x M := by
  show (X8_rec_holdsBy fu 0 (X8_above (Int32.ofNat 5)) x M).bind _ = _
  rw [show X8_above (Int32.ofNat 5) = Int32.ofNat 2 by decide]
  exact bind_some2
theorem up_6_0 {fu : Nat} (x : Int32) (M : Mem) : X8_rec_holdsBy (fu + 1) 0 (Int32.ofNat 6) x M = X8_rec_holdsBy fu 0 (Int32.ofNat 3) x M := by
  show (X8_rec_holdsBy fu 0 (X8_above (Int32.ofNat 6)) x M).bind _ = _
  rw [show X8_above (Int32.ofNat 6) = Int32.ofNat 3 by decide]
  exact bind_some2
theorem up_1_1 {fu : Nat} (x : Int32) (M : Mem) : X8_rec_warmsBy (fu + 1) 0 (Int32.ofNat 1) x M = X8_rec_warmsBy fu 0 (Int32.ofNat 0) x M := by
  show (X8_rec_warmsBy fu 0 (X8_above (Int32.ofNat 1)) x M).bind _ = _
  rw [show X8_above (Int32.ofNat 1) = Int32.ofNat 0 by decide]
  exact bind_some2
theorem up_3_1 {fu : Nat} (x : Int32) (M : Mem) : X8_rec_warmsBy (fu + 1) 0 (Int32.ofNat 3) x M = X8_rec_warmsBy fu 0 (Int32.ofNat 0) x M := by
  show (X8_rec_warmsBy fu 0 (X8_above (Int32.ofNat 3)) x M).bind _ = _
  rw [show X8_above (Int32.ofNat 3) = Int32.ofNat 0 by decide]
  exact bind_some2
theorem up_4_1 {fu : Nat} (x : Int32) (M : Mem) : X8_rec_warmsBy (fu + 1) 0 (Int32.ofNat 4) x M = X8_rec_warmsBy fu 0 (Int32.ofNat 1) x M := by
  show (X8_rec_warmsBy fu 0 (X8_above (Int32.ofNat 4)) x M).bind _ = _
  rw [show X8_above (Int32.ofNat 4) = Int32.ofNat 1 by decide]
  exact bind_some2
theorem up_6_1 {fu : Nat} (x : Int32) (M : Mem) : X8_rec_warmsBy (fu + 1) 0 (Int32.ofNat 6) x M = X8_rec_warmsBy fu 0 (Int32.ofNat 3) x M := by
  show (X8_rec_warmsBy fu 0 (X8_above (Int32.ofNat 6)) x M).bind _ = _
  rw [show X8_above (Int32.ofNat 6) = Int32.ofNat 3 by decide]
  exact bind_some2
theorem up_1_2 {fu : Nat} (x : Int32) (M : Mem) : X8_rec_growsBy (fu + 1) 0 (Int32.ofNat 1) x M = X8_rec_growsBy fu 0 (Int32.ofNat 0) x M := by
  show (X8_rec_growsBy fu 0 (X8_above (Int32.ofNat 1)) x M).bind _ = _
  rw [show X8_above (Int32.ofNat 1) = Int32.ofNat 0 by decide]
  exact bind_some2
theorem up_2_2 {fu : Nat} (x : Int32) (M : Mem) : X8_rec_growsBy (fu + 1) 0 (Int32.ofNat 2) x M = X8_rec_growsBy fu 0 (Int32.ofNat 0) x M := by
  show (X8_rec_growsBy fu 0 (X8_above (Int32.ofNat 2)) x M).bind _ = _
  rw [show X8_above (Int32.ofNat 2) = Int32.ofNat 0 by decide]
  exact bind_some2
theorem up_4_2 {fu : Nat} (x : Int32) (M : Mem) : X8_rec_growsBy (fu + 1) 0 (Int32.ofNat 4) x M = X8_rec_growsBy fu 0 (Int32.ofNat 1) x M := by
  show (X8_rec_growsBy fu 0 (X8_above (Int32.ofNat 4)) x M).bind _ = _
  rw [show X8_above (Int32.ofNat 4) = Int32.ofNat 1 by decide]
  exact bind_some2
theorem up_5_2 {fu : Nat} (x : Int32) (M : Mem) : X8_rec_growsBy (fu + 1) 0 (Int32.ofNat 5) x M = X8_rec_growsBy fu 0 (Int32.ofNat 2) x M := by
  show (X8_rec_growsBy fu 0 (X8_above (Int32.ofNat 5)) x M).bind _ = _
  rw [show X8_above (Int32.ofNat 5) = Int32.ofNat 2 by decide]
  exact bind_some2
theorem up_1_3 {fu : Nat} (x : Int32) (M : Mem) : X8_rec_tellsBy (fu + 1) 0 (Int32.ofNat 1) x M = X8_rec_tellsBy fu 0 (Int32.ofNat 0) x M := by
  show (X8_rec_tellsBy fu 0 (X8_above (Int32.ofNat 1)) x M).bind _ = _
  rw [show X8_above (Int32.ofNat 1) = Int32.ofNat 0 by decide]
  exact bind_some2
theorem up_2_3 {fu : Nat} (x : Int32) (M : Mem) : X8_rec_tellsBy (fu + 1) 0 (Int32.ofNat 2) x M = X8_rec_tellsBy fu 0 (Int32.ofNat 0) x M := by
  show (X8_rec_tellsBy fu 0 (X8_above (Int32.ofNat 2)) x M).bind _ = _
  rw [show X8_above (Int32.ofNat 2) = Int32.ofNat 0 by decide]
  exact bind_some2
theorem up_3_3 {fu : Nat} (x : Int32) (M : Mem) : X8_rec_tellsBy (fu + 1) 0 (Int32.ofNat 3) x M = X8_rec_tellsBy fu 0 (Int32.ofNat 0) x M := by
  show (X8_rec_tellsBy fu 0 (X8_above (Int32.ofNat 3)) x M).bind _ = _
  rw [show X8_above (Int32.ofNat 3) = Int32.ofNat 0 by decide]
  exact bind_some2
theorem up_5_3 {fu : Nat} (x : Int32) (M : Mem) : X8_rec_tellsBy (fu + 1) 0 (Int32.ofNat 5) x M = X8_rec_tellsBy fu 0 (Int32.ofNat 2) x M := by
  show (X8_rec_tellsBy fu 0 (X8_above (Int32.ofNat 5)) x M).bind _ = _
  rw [show X8_above (Int32.ofNat 5) = Int32.ofNat 2 by decide]
  exact bind_some2
theorem who_k {C R : Mem} (hn : n < 10) (hv : VR C0 R0 K n C R) : X8_of (R 19 0 17) 0 R = some (Int32.ofNat K) := by
  rw [hv.2.2.2.2.1, o8_0 hn, hv.2.2.2.2.2.1]
theorem who_m {C R : Mem} (hn : n < 10) (hv : VR C0 R0 K n C R) : X8_of (R 19 0 17) 1 R = some (C 6 0 4) := by
  rw [hv.2.2.2.2.1, o8_1 hn, hv.2.2.2.1]
-- HOLDS
theorem B10 {rc : Nat → Int32 → Int32 → Int32 → Int32 → Mem → Option (Int32 × Mem)} (x d : Int32) : QV C0 R0 K n (fun M => X6_sayBody rc 10 x d M) (fun q1 => some (x + (q1 19 0 17), q1)) := by
  intro C R hv
  refine ⟨x + Int32.ofNat n, C, R, ?_, ?_, hv⟩
  · show some (x + C 6 0 3, C) = _
    rw [hv.2.2.1]
  · show some (x + R 19 0 17, R) = _
    rw [hv.2.2.2.2.1]
theorem V_H0 {fu fu' d : Nat} (hd : d ≤ 40) (x : Int32) : QV C0 R0 K n (fun M => X6_rec_say (fu + 2) 0 (Int32.ofNat 0) (Int32.ofNat 0) x (Int32.ofNat d) M) (fun M => X8_rec_holdsBy (fu' + 1) 0 (Int32.ofNat 0) x M) :=
  (QV.beg 10 (B10 (rc := X6_rec_say fu) x (Int32.ofNat (d + 1)))).cg fun C R _ => ⟨say_0_0 hd x C, rfl⟩
theorem V_H1 {fu fu' d : Nat} (hd : d ≤ 39) (x : Int32) : QV C0 R0 K n (fun M => X6_rec_say (fu + 5) 0 (Int32.ofNat 1) (Int32.ofNat 0) x (Int32.ofNat d) M) (fun M => X8_rec_holdsBy (fu' + 2) 0 (Int32.ofNat 1) x M) :=
  (QV.beg 20 (QV.bd (V_H0 (fu := fu) (fu' := fu') (d := d + 1) (by omega) x) (fun v => QV.rt (v * 3)))).cg fun C R _ => ⟨(say_1_0 (fu := fu + 3) (by omega) x C).trans (congrArg (fun F => (X6_begin 20 C).bind F) (funext fun q => by
    show (X6_rec_say (fu + 3) 2 1 0 x (Int32.ofNat (d + 1)) q).bind _ = _
    rw [sup_u]
    rfl)), rfl⟩
theorem V_H {fu fu' d : Nat} {k : Nat} (hk : k < 7) (hd : d ≤ 39) (x : Int32) : QV C0 R0 K n (fun M => X6_rec_say (fu + 5) 0 (Int32.ofNat k) (Int32.ofNat 0) x (Int32.ofNat d) M) (fun M => X8_rec_holdsBy (fu' + 4) 0 (Int32.ofNat k) x M) := by
  rcases (show k = 0 ∨ k = 1 ∨ k = 2 ∨ k = 3 ∨ k = 4 ∨ k = 5 ∨ k = 6 by omega) with rfl | rfl | rfl | rfl | rfl | rfl | rfl
  · exact V_H0 (fu := fu + 3) (fu' := fu' + 3) (by omega) x
  · exact V_H1 (fu := fu) (fu' := fu' + 2) (by omega) x
  · exact (V_H0 (fu := fu + 3) (fu' := fu' + 2) (by omega) x).cg fun C R _ => ⟨(say_2_0 (by omega) x C).trans (say_0_0 (by omega) x C).symm, up_2_0 x R⟩
  · exact (V_H0 (fu := fu + 3) (fu' := fu' + 2) (by omega) x).cg fun C R _ => ⟨(say_3_0 (by omega) x C).trans (say_0_0 (by omega) x C).symm, up_3_0 x R⟩
  · exact (V_H1 (fu := fu) (fu' := fu' + 1) (by omega) x).cg fun C R _ => ⟨(say_4_0 (fu := fu + 3) (by omega) x C).trans (say_1_0 (fu := fu + 3) (by omega) x C).symm, up_4_0 x R⟩
  · exact (V_H0 (fu := fu + 3) (fu' := fu' + 1) (by omega) x).cg fun C R _ => ⟨(say_5_0 (by omega) x C).trans (say_0_0 (by omega) x C).symm, (up_5_0 x R).trans (up_2_0 x R)⟩
  · exact (V_H0 (fu := fu + 3) (fu' := fu' + 1) (by omega) x).cg fun C R _ => ⟨(say_6_0 (by omega) x C).trans (say_0_0 (by omega) x C).symm, (up_6_0 x R).trans (up_3_0 x R)⟩
-- GROWS
theorem B12 (hn : n < 10) {rc : Nat → Int32 → Int32 → Int32 → Int32 → Mem → Option (Int32 × Mem)} (x d : Int32) : QV C0 R0 K n (fun M => X6_sayBody rc 12 x d M) (fun q1 => (X8_of (q1 19 0 17) 1 q1).bind fun q2 => some (x - q2, q1)) := by
  intro C R hv
  refine ⟨x - C 6 0 4, C, R, rfl, ?_, hv⟩
  show (X8_of (R 19 0 17) 1 R).bind _ = _
  rw [who_m hn hv]
  rfl
theorem V_G0 (hn : n < 10) {fu fu' d : Nat} (hd : d ≤ 40) (x : Int32) : QV C0 R0 K n (fun M => X6_rec_say (fu + 2) 0 (Int32.ofNat 0) (Int32.ofNat 2) x (Int32.ofNat d) M) (fun M => X8_rec_growsBy (fu' + 1) 0 (Int32.ofNat 0) x M) :=
  (QV.beg 12 (B12 hn (rc := X6_rec_say fu) x (Int32.ofNat (d + 1)))).cg fun C R _ => ⟨say_0_2 hd x C, rfl⟩
theorem V_G3 (hn : n < 10) {fu fu' d : Nat} (hd : d ≤ 39) (x : Int32) : QV C0 R0 K n (fun M => X6_rec_say (fu + 5) 0 (Int32.ofNat 3) (Int32.ofNat 2) x (Int32.ofNat d) M) (fun M => X8_rec_growsBy (fu' + 2) 0 (Int32.ofNat 3) x M) :=
  (QV.beg 40 (QV.bd (V_G0 hn (fu := fu) (fu' := fu') (d := d + 1) (by omega) x) (fun v => QV.rt (-v)))).cg fun C R _ => ⟨(say_3_2 (fu := fu + 3) (by omega) x C).trans (congrArg (fun F => (X6_begin 40 C).bind F) (funext fun q => by
    show (X6_rec_say (fu + 3) 2 3 2 x (Int32.ofNat (d + 1)) q).bind _ = _
    rw [sup_u]
    rfl)), rfl⟩
theorem Qxor (v : Int32) : QV C0 R0 K n (fun M => some (v ^^^ (M 6 0 3), M)) (fun M => some (v ^^^ (M 19 0 17), M)) := by
  intro C R hv
  refine ⟨v ^^^ Int32.ofNat n, C, R, ?_, ?_, hv⟩
  · show some (v ^^^ C 6 0 3, C) = _
    rw [hv.2.2.1]
  · show some (v ^^^ R 19 0 17, R) = _
    rw [hv.2.2.2.2.1]
theorem V_G6 (hn : n < 10) {fu fu' d : Nat} (hd : d ≤ 38) (x : Int32) : QV C0 R0 K n (fun M => X6_rec_say (fu + 8) 0 (Int32.ofNat 6) (Int32.ofNat 2) x (Int32.ofNat d) M) (fun M => X8_rec_growsBy (fu' + 3) 0 (Int32.ofNat 6) x M) :=
  (QV.beg 70 (QV.bd (V_G3 hn (fu := fu) (fu' := fu') (d := d + 1) (by omega) x) (fun v => Qxor v))).cg fun C R _ => ⟨(say_6_2 (fu := fu + 6) (by omega) x C).trans (congrArg (fun F => (X6_begin 70 C).bind F) (funext fun q => by
    show (X6_rec_say (fu + 6) 2 6 2 x (Int32.ofNat (d + 1)) q).bind _ = _
    rw [sup_u]
    rfl)), rfl⟩
theorem V_G (hn : n < 10) {fu fu' d : Nat} {k : Nat} (hk : k < 7) (hd : d ≤ 38) (x : Int32) : QV C0 R0 K n (fun M => X6_rec_say (fu + 8) 0 (Int32.ofNat k) (Int32.ofNat 2) x (Int32.ofNat d) M) (fun M => X8_rec_growsBy (fu' + 4) 0 (Int32.ofNat k) x M) := by
  rcases (show k = 0 ∨ k = 1 ∨ k = 2 ∨ k = 3 ∨ k = 4 ∨ k = 5 ∨ k = 6 by omega) with rfl | rfl | rfl | rfl | rfl | rfl | rfl
  · exact V_G0 hn (fu := fu + 6) (fu' := fu' + 3) (by omega) x
  · exact (V_G0 hn (fu := fu + 6) (fu' := fu' + 2) (by omega) x).cg fun C R _ => ⟨(say_1_2 (by omega) x C).trans (say_0_2 (by omega) x C).symm, up_1_2 x R⟩
  · exact (V_G0 hn (fu := fu + 6) (fu' := fu' + 2) (by omega) x).cg fun C R _ => ⟨(say_2_2 (by omega) x C).trans (say_0_2 (by omega) x C).symm, up_2_2 x R⟩
  · exact V_G3 hn (fu := fu + 3) (fu' := fu' + 2) (by omega) x
  · exact (V_G0 hn (fu := fu + 6) (fu' := fu' + 1) (by omega) x).cg fun C R _ => ⟨(say_4_2 (by omega) x C).trans (say_0_2 (by omega) x C).symm, (up_4_2 x R).trans (up_1_2 x R)⟩
  · exact (V_G0 hn (fu := fu + 6) (fu' := fu' + 1) (by omega) x).cg fun C R _ => ⟨(say_5_2 (by omega) x C).trans (say_0_2 (by omega) x C).symm, (up_5_2 x R).trans (up_2_2 x R)⟩
  · exact V_G6 hn (fu := fu) (fu' := fu' + 1) (by omega) x
-- own VOICES, from a BODY
theorem O_H (hn : n < 10) (hK : K < 7) {fu d : Nat} (hd : d ≤ 39) (x : Int32) : QV C0 R0 K n (fun M => X6_rec_say (fu + 5) 0 (M 6 0 2) 0 x (Int32.ofNat d) M) (fun M => (X8_of (M 19 0 17) 0 M).bind fun q => X8_holdsByC q x M) :=
  (V_H (fu := fu) (fu' := 96) hK hd x).cg fun C R hv => ⟨by rw [hv.2.1]; rfl, by rw [who_k hn hv, bs]; rfl⟩
theorem O_G (hn : n < 10) (hK : K < 7) {fu d : Nat} (hd : d ≤ 38) (x : Int32) : QV C0 R0 K n (fun M => X6_rec_say (fu + 8) 0 (M 6 0 2) 2 x (Int32.ofNat d) M) (fun M => (X8_of (M 19 0 17) 0 M).bind fun q => X8_growsByC q x M) :=
  (V_G hn (fu := fu) (fu' := 96) hK hd x).cg fun C R hv => ⟨by rw [hv.2.1]; rfl, by rw [who_k hn hv, bs]; rfl⟩
theorem bd_of {R : Mem} {F : Int32 → Option (Int32 × Mem)} {G : Int32 × Mem → Option (Int32 × Mem)} {o : Option Int32} : (o.bind F).bind G = o.bind fun q => (F q).bind G := by
  cases o <;> rfl
-- WARMS
theorem V_W0 (hn : n < 10) (hK : K < 7) {fu fu' d : Nat} (hd : d ≤ 38) (x : Int32) : QV C0 R0 K n (fun M => X6_rec_say (fu + 7) 0 (Int32.ofNat 0) (Int32.ofNat 1) x (Int32.ofNat d) M) (fun M => X8_rec_warmsBy (fu' + 1) 0 (Int32.ofNat 0) x M) :=
  (QV.beg 11 (QV.bd (O_H hn hK (fu := fu) (d := d + 1) (by omega) x) (fun v => QV.rt (v * 2)))).cg fun C R _ => ⟨say_0_1 (fu := fu + 5) (by omega) x C, congrArg (fun F => (X8_ran 11 R).bind F) (funext fun q => (bd_of (R := R)).symm)⟩
theorem V_W2 (hn : n < 10) (hK : K < 7) {fu fu' d : Nat} (hd : d ≤ 37) (x : Int32) : QV C0 R0 K n (fun M => X6_rec_say (fu + 10) 0 (Int32.ofNat 2) (Int32.ofNat 1) x (Int32.ofNat d) M) (fun M => X8_rec_warmsBy (fu' + 2) 0 (Int32.ofNat 2) x M) :=
  (QV.beg 30 (QV.bd (V_W0 hn hK (fu := fu) (fu' := fu') (d := d + 1) (by omega) x) (fun v => QV.bd (O_G hn hK (fu := fu) (d := d + 1) (by omega) 1) (fun w => QV.rt (v - w))))).cg fun C R _ => ⟨(say_2_1 (fu := fu + 8) (by omega) x C).trans (congrArg (fun F => (X6_begin 30 C).bind F) (funext fun q => by
    show (X6_rec_say (fu + 8) 2 2 1 x (Int32.ofNat (d + 1)) q).bind _ = _
    rw [sup_u]
    rfl)), congrArg (fun F => (X8_ran 30 R).bind F) (funext fun q => congrArg (fun F => Option.bind (X8_rec_warmsBy (fu' + 1) 0 (X8_above 2) x q) F) (funext fun q2 => (bd_of (R := R)).symm))⟩
theorem V_W5 (hn : n < 10) (hK : K < 7) {fu fu' d : Nat} (hd : d ≤ 36) (x : Int32) : QV C0 R0 K n (fun M => X6_rec_say (fu + 13) 0 (Int32.ofNat 5) (Int32.ofNat 1) x (Int32.ofNat d) M) (fun M => X8_rec_warmsBy (fu' + 3) 0 (Int32.ofNat 5) x M) :=
  (QV.beg 60 (QV.bd (V_W2 hn hK (fu := fu) (fu' := fu') (d := d + 1) (by omega) (x + 1)) (fun v => QV.rt v))).cg fun C R _ => ⟨(say_5_1 (fu := fu + 11) (by omega) x C).trans (congrArg (fun F => (X6_begin 60 C).bind F) (funext fun q => by
    show (X6_rec_say (fu + 11) 2 5 1 (x + 1) (Int32.ofNat (d + 1)) q).bind _ = _
    rw [sup_u]
    rfl)), rfl⟩
theorem V_W (hn : n < 10) (hK : K < 7) {fu fu' d : Nat} {k : Nat} (hk : k < 7) (hd : d ≤ 36) (x : Int32) : QV C0 R0 K n (fun M => X6_rec_say (fu + 13) 0 (Int32.ofNat k) (Int32.ofNat 1) x (Int32.ofNat d) M) (fun M => X8_rec_warmsBy (fu' + 4) 0 (Int32.ofNat k) x M) := by
  rcases (show k = 0 ∨ k = 1 ∨ k = 2 ∨ k = 3 ∨ k = 4 ∨ k = 5 ∨ k = 6 by omega) with rfl | rfl | rfl | rfl | rfl | rfl | rfl
  · exact V_W0 hn hK (fu := fu + 6) (fu' := fu' + 3) (by omega) x
  · exact (V_W0 hn hK (fu := fu + 6) (fu' := fu' + 2) (by omega) x).cg fun C R _ => ⟨(say_1_1 (fu := fu + 11) (by omega) x C).trans (say_0_1 (fu := fu + 11) (by omega) x C).symm, up_1_1 x R⟩
  · exact V_W2 hn hK (fu := fu + 3) (fu' := fu' + 2) (by omega) x
  · exact (V_W0 hn hK (fu := fu + 6) (fu' := fu' + 2) (by omega) x).cg fun C R _ => ⟨(say_3_1 (fu := fu + 11) (by omega) x C).trans (say_0_1 (fu := fu + 11) (by omega) x C).symm, up_3_1 x R⟩
  · exact (V_W0 hn hK (fu := fu + 6) (fu' := fu' + 1) (by omega) x).cg fun C R _ => ⟨(say_4_1 (fu := fu + 11) (by omega) x C).trans (say_0_1 (fu := fu + 11) (by omega) x C).symm, (up_4_1 x R).trans (up_1_1 x R)⟩
  · exact V_W5 hn hK (fu := fu) (fu' := fu' + 1) (by omega) x
  · exact (V_W0 hn hK (fu := fu + 6) (fu' := fu' + 1) (by omega) x).cg fun C R _ => ⟨(say_6_1 (fu := fu + 11) (by omega) x C).trans (say_0_1 (fu := fu + 11) (by omega) x C).symm, (up_6_1 x R).trans (up_3_1 x R)⟩
theorem O_W (hn : n < 10) (hK : K < 7) {fu d : Nat} (hd : d ≤ 36) (x : Int32) : QV C0 R0 K n (fun M => X6_rec_say (fu + 13) 0 (M 6 0 2) 1 x (Int32.ofNat d) M) (fun M => (X8_of (M 19 0 17) 0 M).bind fun q => X8_warmsByC q x M) :=
  (V_W hn hK (fu := fu) (fu' := 96) hK hd x).cg fun C R hv => ⟨by rw [hv.2.1]; rfl, by rw [who_k hn hv, bs]; rfl⟩
-- TELLS
theorem V_T0 (hn : n < 10) (hK : K < 7) {fu fu' d : Nat} (hd : d ≤ 35) (x : Int32) : QV C0 R0 K n (fun M => X6_rec_say (fu + 15) 0 (Int32.ofNat 0) (Int32.ofNat 3) x (Int32.ofNat d) M) (fun M => X8_rec_tellsBy (fu' + 1) 0 (Int32.ofNat 0) x M) :=
  (QV.beg 13 (QV.bd (O_W hn hK (fu := fu) (d := d + 1) (by omega) x) (fun v => QV.bd (O_G hn hK (fu := fu + 5) (d := d + 1) (by omega) x) (fun w => QV.rt (v ^^^ w))))).cg fun C R _ => ⟨say_0_3 (fu := fu + 13) (by omega) x C, congrArg (fun F => (X8_ran 13 R).bind F) (funext fun q => ((bd_of (R := R)).trans (congrArg (fun F => Option.bind (X8_of (q 19 0 17) 0 q) F) (funext fun q1 => congrArg (fun F => Option.bind (X8_warmsByC q1 x q) F) (funext fun q2 => bd_of (R := R))))).symm)⟩
theorem V_T4 (hn : n < 10) (hK : K < 7) {fu fu' d : Nat} (hd : d ≤ 34) (x : Int32) : QV C0 R0 K n (fun M => X6_rec_say (fu + 18) 0 (Int32.ofNat 4) (Int32.ofNat 3) x (Int32.ofNat d) M) (fun M => X8_rec_tellsBy (fu' + 3) 0 (Int32.ofNat 4) x M) :=
  (QV.beg 50 (QV.bd ((V_T0 hn hK (fu := fu) (fu' := fu') (d := d + 1) (by omega) x).cg (f := fun M => X6_rec_say (fu + 15) 0 (X7_kindAbove 4) 3 x (Int32.ofNat (d + 1)) M) (g := fun M => X8_rec_tellsBy (fu' + 2) 0 (X8_above 4) x M) (fun C R _ => ⟨(say_1_3 (fu := fu + 13) (by omega) x C).trans (say_0_3 (fu := fu + 13) (by omega) x C).symm, up_1_3 x R⟩)) (fun v => QV.bd (O_H hn hK (fu := fu + 11) (d := d + 1) (by omega) 2) (fun w => QV.rt (v - w))))).cg fun C R _ => ⟨(say_4_3 (fu := fu + 16) (by omega) x C).trans (congrArg (fun F => (X6_begin 50 C).bind F) (funext fun q => by
    show (X6_rec_say (fu + 16) 2 4 3 x (Int32.ofNat (d + 1)) q).bind _ = _
    rw [sup_u]
    )), congrArg (fun F => (X8_ran 50 R).bind F) (funext fun q => congrArg (fun F => Option.bind (X8_rec_tellsBy (fu' + 2) 0 (X8_above 4) x q) F) (funext fun q2 => (bd_of (R := R)).symm))⟩
theorem V_T6 (hn : n < 10) (hK : K < 7) {fu fu' d : Nat} (hd : d ≤ 34) (x : Int32) : QV C0 R0 K n (fun M => X6_rec_say (fu + 18) 0 (Int32.ofNat 6) (Int32.ofNat 3) x (Int32.ofNat d) M) (fun M => X8_rec_tellsBy (fu' + 3) 0 (Int32.ofNat 6) x M) :=
  (QV.beg 71 (QV.bd (O_W hn hK (fu := fu + 3) (d := d + 1) (by omega) x) (fun v => QV.bd ((V_T0 hn hK (fu := fu) (fu' := fu') (d := d + 1) (by omega) x).cg (f := fun M => X6_rec_say (fu + 15) 0 (X7_kindAbove 6) 3 x (Int32.ofNat (d + 1)) M) (g := fun M => X8_rec_tellsBy (fu' + 2) 0 (X8_above 6) x M) (fun C R _ => ⟨(say_3_3 (fu := fu + 13) (by omega) x C).trans (say_0_3 (fu := fu + 13) (by omega) x C).symm, up_3_3 x R⟩)) (fun w => QV.rt (v - w))))).cg fun C R _ => ⟨(say_6_3 (fu := fu + 16) (by omega) x C).trans (congrArg (fun F => (X6_begin 71 C).bind F) (funext fun q => by
    show (X6_rec_say (fu + 16) 0 (q 6 0 2) 1 x (Int32.ofNat (d + 1)) q).bind _ = _
    refine congrArg (fun F => Option.bind (X6_rec_say (fu + 16) 0 (q 6 0 2) 1 x (Int32.ofNat (d + 1)) q) F) (funext fun q2 => ?_)
    rw [sup_u])), congrArg (fun F => (X8_ran 71 R).bind F) (funext fun q => (bd_of (R := R)).symm)⟩
theorem V_T (hn : n < 10) (hK : K < 7) {fu fu' d : Nat} {k : Nat} (hk : k < 7) (hd : d ≤ 34) (x : Int32) : QV C0 R0 K n (fun M => X6_rec_say (fu + 18) 0 (Int32.ofNat k) (Int32.ofNat 3) x (Int32.ofNat d) M) (fun M => X8_rec_tellsBy (fu' + 4) 0 (Int32.ofNat k) x M) := by
  rcases (show k = 0 ∨ k = 1 ∨ k = 2 ∨ k = 3 ∨ k = 4 ∨ k = 5 ∨ k = 6 by omega) with rfl | rfl | rfl | rfl | rfl | rfl | rfl
  · exact V_T0 hn hK (fu := fu + 3) (fu' := fu' + 3) (by omega) x
  · exact (V_T0 hn hK (fu := fu + 3) (fu' := fu' + 2) (by omega) x).cg fun C R _ => ⟨(say_1_3 (fu := fu + 16) (by omega) x C).trans (say_0_3 (fu := fu + 16) (by omega) x C).symm, up_1_3 x R⟩
  · exact (V_T0 hn hK (fu := fu + 3) (fu' := fu' + 2) (by omega) x).cg fun C R _ => ⟨(say_2_3 (fu := fu + 16) (by omega) x C).trans (say_0_3 (fu := fu + 16) (by omega) x C).symm, up_2_3 x R⟩
  · exact (V_T0 hn hK (fu := fu + 3) (fu' := fu' + 2) (by omega) x).cg fun C R _ => ⟨(say_3_3 (fu := fu + 16) (by omega) x C).trans (say_0_3 (fu := fu + 16) (by omega) x C).symm, up_3_3 x R⟩
  · exact V_T4 hn hK (fu := fu) (fu' := fu' + 1) (by omega) x
  · exact (V_T0 hn hK (fu := fu + 3) (fu' := fu' + 1) (by omega) x).cg fun C R _ => ⟨(say_5_3 (fu := fu + 16) (by omega) x C).trans (say_0_3 (fu := fu + 16) (by omega) x C).symm, (up_5_3 x R).trans (up_2_3 x R)⟩
  · exact V_T6 hn hK (fu := fu) (fu' := fu' + 1) (by omega) x
end VOI
theorem eq_voice (a1 a2 a3 : Int32) : EqP Rel (X7_voice a1 a2 a3) (X8_voice a1 a2 a3) := by
  intro C R h
  obtain ⟨n, n1, n2, n3, -⟩ := id h.1
  by_cases c1 : ¬ (0 ≤ a1.toInt ∧ a1.toInt < n)
  · refine bad 1 (by omega) (by omega) h ?_ ?_
    · unfold X7_voice
      rw [if_pos ((has7 n1 n2 _).mpr c1)]
      exact bind_some2
    · unfold X8_voice
      rw [if_pos ((pot8 n1 n3 _).mpr c1)]
      exact bind_some2
  replace c1 := Decidable.not_not.mp c1
  by_cases c2 : ¬ (0 ≤ a2.toInt ∧ a2.toInt ≤ 3)
  · refine bad 1 (by omega) (by omega) h ?_ ?_
    · unfold X7_voice
      rw [if_neg (by rw [has7 n1 n2]; exact not_not_intro c1), if_pos ((is7_3 _).mpr c2)]
      exact bind_some2
    · unfold X8_voice
      rw [if_neg (by rw [pot8 n1 n3]; exact not_not_intro c1), if_pos ((in8_0_3 _).mpr c2)]
      exact bind_some2
  replace c2 := Decidable.not_not.mp c2
  have en : nP (R 20 0) = n := by
    unfold nP
    rw [n3, i_of (by omega)]
    rfl
  obtain ⟨p, hp, rfl⟩ := i_small (n := n) c1.1 c1.2
  obtain ⟨w, hw, rfl⟩ := i_small (n := 4) c2.1 (by omega)
  have hp10 : p < 10 := by omega
  have ix : (Int32.ofNat p).toNatClampNeg = p := i_ofix (by omega)
  have ibp : ib (Int32.ofNat p) 10 = true := ib_of (by omega) (by omega)
  have hq := (RelD_n h.1).2.2.2 p (by rw [en]; exact hp)
  have e0 : C 3 (10 * 0 + p) 0 = R 20 0 (16 + 8 * p + 0) := pot_rd h.1 hq (by omega)
  have e1 : C 3 (10 * 0 + p) 1 = R 20 0 (16 + 8 * p + 1) := pot_rd h.1 hq (by omega)
  have ra : inR (R 20 0 (16 + 8 * p + 0)) 0 6 := pot_rg (k := 0) h.1 hq (by omega)
  obtain ⟨K, hK, eK⟩ := i_small (n := 7) ra.1 (by have := ra.2; omega)
  obtain ⟨C1, eC⟩ : ∃ C1, C1 = up3 (up3 (up3 (up3 C 6 0 1 0) 6 0 2 (Int32.ofNat K)) 6 0 3 (Int32.ofNat p)) 6 0 4 (R 20 0 (16 + 8 * p + 1)) := ⟨_, rfl⟩
  obtain ⟨R1, eR⟩ : ∃ R1, R1 = up3 (up3 R 19 0 17 (Int32.ofNat p)) 19 0 16 0 := ⟨_, rfl⟩
  have hv : VR C R K p C1 R1 := by
    rw [eC, eR]
    refine ⟨⟨0, by omega, ?_, up3_eq, fun k hk => absurd hk (Nat.not_lt_zero k)⟩, ?_, ?_, ?_, ?_, ?_, ?_, fun f i k hf => ?_⟩
    · rw [up3_k (by decide), up3_k (by decide), up3_k (by decide), up3_eq]
      rfl
    · rw [up3_k (by decide), up3_k (by decide), up3_eq]
    · rw [up3_k (by decide), up3_eq]
    · rw [up3_eq, up3_f (by decide), up3_f (by decide)]
    · rw [up3_k (by decide), up3_eq]
    · rw [up3_f (by decide), up3_f (by decide)]; exact eK
    · have u : ∀ {M : Mem} {k : Nat} {v : Int32}, Fr (fun f _ => f = 6 ∨ f = 16) M (up3 M 6 0 k v) := Fr.up (Or.inl rfl)
      exact ((u.tr u).tr u).tr u
    · rw [show up3 (up3 R 19 0 17 (Int32.ofNat p)) 19 0 16 0 f i k = up3 R 19 0 17 (Int32.ofNat p) f i k from if_neg (by omega)]
      exact if_neg (by omega)
  have s7 : X7_voice (Int32.ofNat p) (Int32.ofNat w) a3 C = (X6_rec_say 100 0 (Int32.ofNat K) (Int32.ofNat w) a3 (Int32.ofNat 0) C1).bind fun q => some (q.1, q.2) := by
    unfold X7_voice; rw [if_neg (by rw [has7 n1 n2]; exact not_not_intro c1), if_neg (by rw [is7_3]; exact not_not_intro c2)]
    rw [if_pos ibp, ix]
    unfold X6_speak
    rw [e0, e1, eK, ← eC, bind_some2, bind_some2, bind_some2]
    rfl
  have s8 : X8_voice (Int32.ofNat p) (Int32.ofNat w) a3 R = (if Int32.ofNat w = 0 then ((X8_holdsByC (Int32.ofNat K) a3 R1).bind fun q6 => (some (q6.1, q6.2))) else (if Int32.ofNat w = 1 then ((X8_warmsByC (Int32.ofNat K) a3 R1).bind fun q5 => (some (q5.1, q5.2))) else (if Int32.ofNat w = 2 then ((X8_growsByC (Int32.ofNat K) a3 R1).bind fun q4 => (some (q4.1, q4.2))) else ((X8_tellsByC (Int32.ofNat K) a3 R1).bind fun q3 => (some (q3.1, q3.2)))))) := by
    unfold X8_voice; rw [if_neg (by rw [pot8 n1 n3]; exact not_not_intro c1), if_neg (by rw [in8_0_3]; exact not_not_intro c2)]
    rw [← eR, o8_0 hp10, hv.2.2.2.2.2.1, bs]
  have fin : ∀ {C' R' : Mem}, VR C R K p C' R' → Rel C' R' := by
    intro C' R' q
    obtain ⟨q1, -, -, -, -, -, q7, q8⟩ := q
    have r : ∀ f k, ¬ f = 27 → ¬ f = 19 → R' f 0 k = R f 0 k := fun f k a b => q8 f 0 k (by omega)
    obtain ⟨hD, hK, hI, hE, hV, hS⟩ := h
    have e7 : C' 7 0 9 = C 7 0 9 := q7 7 0 9 (by omega)
    refine ⟨RelD_fr q7 (fun f i hh => by omega) (fun k _ => r 20 k (by omega) (by omega)) hD, RelK_fr q7 (fun f i hh => by omega) (fun k _ => r 20 k (by omega) (by omega)) hK, ⟨by rw [e7, q8 19 0 3 (by omega)]; exact hI.1, fun hn => ?_⟩, fun k h1 h2 => ?_, q1, fun s hs => ?_⟩
    · rw [e7] at hn
      obtain ⟨a, b⟩ := hI.2 hn
      exact ⟨RelD_fr q7 (fun f i hh => by omega) (fun k _ => r 21 k (by omega) (by omega)) a, RelK_fr q7 (fun f i hh => by omega) (fun k _ => r 21 k (by omega) (by omega)) b⟩
    · rw [q7 18 0 k (by omega), r 23 k (by omega) (by omega)]; exact hE k h1 h2
    · obtain ⟨⟨a, b⟩, ⟨n, d1, d2, d3⟩, d⟩ := hS s hs
      refine ⟨⟨?_, ?_⟩, ⟨n, d1, (q7 5 s 2 (by omega)).trans d2, (r 29 s (by omega) (by omega)).trans d3⟩, fun k hk => ?_⟩
      · rw [q7 5 s 1 (by omega), r 28 s (by omega) (by omega)]; exact a
      · rw [q7 5 s 1 (by omega)]; exact b
      · rw [q7 15 s k (by omega), r 30 _ (by omega) (by omega)]; exact d k hk
  rcases (show w = 0 ∨ w = 1 ∨ w = 2 ∨ w = 3 by omega) with rfl | rfl | rfl | rfl
  · obtain ⟨v, C', R', g1, g2, g3⟩ := V_H (fu := 95) (fu' := 96) (d := 0) hK (by omega) a3 C1 R1 hv
    refine ⟨v, C', R', ?_, ?_, fin g3⟩
    · rw [s7, show X6_rec_say 100 0 (Int32.ofNat K) (Int32.ofNat 0) a3 (Int32.ofNat 0) C1 = some (v, C') from g1]
      rfl
    · rw [s8, if_pos (show Int32.ofNat 0 = 0 by decide), show X8_holdsByC (Int32.ofNat K) a3 R1 = some (v, R') from g2]
      rfl
  · obtain ⟨v, C', R', g1, g2, g3⟩ := V_W hp10 hK (fu := 87) (fu' := 96) (d := 0) hK (by omega) a3 C1 R1 hv
    refine ⟨v, C', R', ?_, ?_, fin g3⟩
    · rw [s7, show X6_rec_say 100 0 (Int32.ofNat K) (Int32.ofNat 1) a3 (Int32.ofNat 0) C1 = some (v, C') from g1]
      rfl
    · rw [s8, if_neg (show ¬ Int32.ofNat 1 = 0 by decide), if_pos (show Int32.ofNat 1 = 1 by decide), show X8_warmsByC (Int32.ofNat K) a3 R1 = some (v, R') from g2]
      rfl
  · obtain ⟨v, C', R', g1, g2, g3⟩ := V_G hp10 (fu := 92) (fu' := 96) (d := 0) hK (by omega) a3 C1 R1 hv
    refine ⟨v, C', R', ?_, ?_, fin g3⟩
    · rw [s7, show X6_rec_say 100 0 (Int32.ofNat K) (Int32.ofNat 2) a3 (Int32.ofNat 0) C1 = some (v, C') from g1]
      rfl
    · rw [s8, if_neg (show ¬ Int32.ofNat 2 = 0 by decide), if_neg (show ¬ Int32.ofNat 2 = 1 by decide), if_pos (show Int32.ofNat 2 = 2 by decide), show X8_growsByC (Int32.ofNat K) a3 R1 = some (v, R') from g2]
      rfl
  · obtain ⟨v, C', R', g1, g2, g3⟩ := V_T hp10 hK (fu := 82) (fu' := 96) (d := 0) hK (by omega) a3 C1 R1 hv
    refine ⟨v, C', R', ?_, ?_, fin g3⟩
    · rw [s7, show X6_rec_say 100 0 (Int32.ofNat K) (Int32.ofNat 3) a3 (Int32.ofNat 0) C1 = some (v, C') from g1]
      rfl
    · rw [s8, if_neg (show ¬ Int32.ofNat 3 = 0 by decide), if_neg (show ¬ Int32.ofNat 3 = 1 by decide), if_neg (show ¬ Int32.ofNat 3 = 2 by decide), show X8_tellsByC (Int32.ofNat K) a3 R1 = some (v, R') from g2]
      rfl
