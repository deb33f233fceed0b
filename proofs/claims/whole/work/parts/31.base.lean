/-- what thoughts and the reading of a TEXT may write, of the class -/
def TH (f i : Nat) : Prop := (f = 1 ∧ i = 1) ∨ (f = 3 ∧ 10 ≤ i ∧ i < 20) ∨ ((f = 10 ∨ f = 11) ∧ i = 1) ∨ ((f = 2 ∨ f = 13) ∧ (i = 2 ∨ i = 3 ∨ i = 6)) ∨ f = 14 ∨ f = 4
/-- what of the reference stays: all but its scratch -/
def FrR (R R' : Mem) : Prop := (∀ k, R' 20 0 k = R 20 0 k) ∧ (∀ k, R' 21 0 k = R 21 0 k) ∧ (∀ f, (f = 23 ∨ f = 27 ∨ f = 28 ∨ f = 29 ∨ f = 30) → ∀ k, R' f 0 k = R f 0 k) ∧ R' 19 0 3 = R 19 0 3 ∧ R' 19 0 16 = R 19 0 16
theorem FrR.rf {R : Mem} : FrR R R := ⟨fun _ => rfl, fun _ => rfl, fun _ _ _ => rfl, rfl, rfl⟩
theorem FrR.tr {R R' R'' : Mem} (h : FrR R R') (h' : FrR R' R'') : FrR R R'' := ⟨fun k => (h'.1 k).trans (h.1 k), fun k => (h'.2.1 k).trans (h.2.1 k), fun f hf k => (h'.2.2.1 f hf k).trans (h.2.2.1 f hf k), h'.2.2.2.1.trans h.2.2.2.1, h'.2.2.2.2.trans h.2.2.2.2⟩
theorem nTH0 {i : Nat} : ¬ TH 0 i := by unfold TH; omega
theorem nTH1 {i : Nat} (h : i ≠ 1) : ¬ TH 1 i := by unfold TH; omega
theorem nTH3 {i : Nat} (h : i < 10 ∨ 20 ≤ i) : ¬ TH 3 i := by unfold TH; omega
theorem nTHf {f i : Nat} (h : f = 5 ∨ f = 6 ∨ f = 7 ∨ f = 8 ∨ f = 9 ∨ f = 15 ∨ f = 16 ∨ f = 18) : ¬ TH f i := by unfold TH; omega
theorem RelD_TH {b : Nat} (hb : b = 0 ∨ b = 2) {C C' : Mem} {D D' : Nat → Int32} (hC : Fr TH C C') (hD : ∀ k, supD k → D' k = D k) (h : RelD b C D) : RelD b C' D' := by
  refine RelD_cg (fun k _ _ => hC 1 b k (by unfold TH; omega)) (fun p hp k => hC 3 _ k (by unfold TH; omega)) (fun k _ => hC 10 b k (by unfold TH; omega)) (fun k _ => hC 11 b k (by unfold TH; omega)) (fun u hu => hC 2 _ _ (by unfold TH; omega)) (fun u hu k _ => hC 13 _ _ (by unfold TH; omega)) hD h
theorem RelK_TH {e : Nat} {C C' : Mem} {D D' : Nat → Int32} (hC : Fr TH C C') (hD : ∀ k, supK k → D' k = D k) (h : RelK e C D) : RelK e C' D' :=
  RelK_cg (fun k _ _ => hC 0 e k (by unfold TH; omega)) (fun k _ => hC 8 e k (by unfold TH; omega)) (fun k _ => hC 9 e k (by unfold TH; omega)) hD h
theorem RelI_TH {C C' R R' : Mem} (hC : Fr TH C C') (hR : FrR R R') (h : RelI C R) : RelI C' R' := by
  have e7 : C' 7 0 9 = C 7 0 9 := hC 7 0 9 (nTHf (by omega))
  refine ⟨by rw [e7, hR.2.2.2.1]; exact h.1, fun hn => ?_⟩
  rw [e7] at hn
  obtain ⟨a, b⟩ := h.2 hn
  exact ⟨RelD_TH (Or.inr rfl) hC (fun k _ => hR.2.1 k) a, RelK_TH hC (fun k _ => hR.2.1 k) b⟩
theorem RelE_TH {C C' R R' : Mem} (hC : Fr TH C C') (hR : FrR R R') (h : RelE C R) : RelE C' R' := fun k h1 h2 => by
  rw [hC 18 0 k (nTHf (by omega)), hR.2.2.1 23 (by omega) k]; exact h k h1 h2
theorem RelV_TH {C C' R R' : Mem} (hC : Fr TH C C') (hR : FrR R R') (h : RelV C R) : RelV C' R' := by
  obtain ⟨t, t1, t2, t3, t4⟩ := h
  refine ⟨t, t1, (hC 6 0 1 (nTHf (by omega))).trans t2, hR.2.2.2.2.trans t3, fun k hk => ?_⟩
  rw [hC 16 0 k (nTHf (by omega)), hR.2.2.1 27 (by omega) k]; exact t4 k hk
theorem RelS_TH {C C' R R' : Mem} (hC : Fr TH C C') (hR : FrR R R') (h : RelS C R) : RelS C' R' := fun s hs => by
  obtain ⟨⟨a, b⟩, ⟨c, c1, c2, c3⟩, d⟩ := h s hs
  refine ⟨⟨?_, ?_⟩, ⟨c, c1, (hC 5 s 2 (nTHf (by omega))).trans c2, (hR.2.2.1 29 (by omega) s).trans c3⟩, fun k hk => ?_⟩
  · rw [hC 5 s 1 (nTHf (by omega)), hR.2.2.1 28 (by omega) s]; exact a
  · rw [hC 5 s 1 (nTHf (by omega))]; exact b
  · rw [hC 15 s k (nTHf (by omega)), hR.2.2.1 30 (by omega) _]; exact d k hk
/-- scratch may be written -/
theorem Rel_TH {C C' R R' : Mem} (hC : Fr TH C C') (hR : FrR R R') (h : Rel C R) : Rel C' R' :=
  ⟨RelD_TH (Or.inl rfl) hC (fun k _ => hR.1 k) h.1, RelK_TH hC (fun k _ => hR.1 k) h.2.1, RelI_TH hC hR h.2.2.1, RelE_TH hC hR h.2.2.2.1, RelV_TH hC hR h.2.2.2.2.1, RelS_TH hC hR h.2.2.2.2.2⟩
/-- writes of one family each: which parts of Rel they leave -/
theorem RelD_f {b f i k : Nat} {v : Int32} {C : Mem} {D : Nat → Int32} (hf : f ≠ 1 ∧ f ≠ 3 ∧ f ≠ 10 ∧ f ≠ 11 ∧ f ≠ 2 ∧ f ≠ 13) (h : RelD b C D) : RelD b (up3 C f i k v) D :=
  RelD_cg (fun _ _ _ => up3_f (Ne.symm hf.1)) (fun _ _ _ => up3_f (Ne.symm hf.2.1)) (fun _ _ => up3_f (Ne.symm hf.2.2.1)) (fun _ _ => up3_f (Ne.symm hf.2.2.2.1)) (fun _ _ => up3_f (Ne.symm hf.2.2.2.2.1)) (fun _ _ _ _ => up3_f (Ne.symm hf.2.2.2.2.2)) (fun _ _ => rfl) h
theorem RelK_f {e f i k : Nat} {v : Int32} {C : Mem} {D : Nat → Int32} (hf : f ≠ 0 ∧ f ≠ 8 ∧ f ≠ 9) (h : RelK e C D) : RelK e (up3 C f i k v) D :=
  RelK_cg (fun _ _ _ => up3_f (Ne.symm hf.1)) (fun _ _ => up3_f (Ne.symm hf.2.1)) (fun _ _ => up3_f (Ne.symm hf.2.2)) (fun _ _ => rfl) h
/-- an act that answers an ERROR -/
theorem err_eq {k : Nat} (h1 : 1 ≤ k) (h5 : k ≤ 5) : EqP Rel (X7_fail (Int32.ofNat k)) (X8_finds (Int32.ofNat k)) := by
  intro C R h
  have e1 : X7_fail (Int32.ofNat k) C = some (-1000000000 - Int32.ofNat k, up3 C 18 0 k (C 18 0 k + 1)) := by
    rcases (show k = 1 ∨ k = 2 ∨ k = 3 ∨ k = 4 ∨ k = 5 by omega) with rfl | rfl | rfl | rfl | rfl <;> rfl
  have e2 : X8_finds (Int32.ofNat k) R = some (-1000000000 - Int32.ofNat k, up3 R 23 0 k (R 23 0 k + 1)) := by
    rcases (show k = 1 ∨ k = 2 ∨ k = 3 ∨ k = 4 ∨ k = 5 by omega) with rfl | rfl | rfl | rfl | rfl <;> rfl
  refine ⟨_, _, _, e1, e2, ?_⟩
  obtain ⟨hD, hK, hI, hE, hV, hS⟩ := h
  refine ⟨RelD_f (by decide) hD, RelK_f (by decide) hK, ⟨hI.1, fun hn => ⟨RelD_f (by decide) (hI.2 hn).1, RelK_f (by decide) (hI.2 hn).2⟩⟩, fun j j1 j5 => ?_, hV, hS⟩
  rw [up3_row, up3_row, hE k h1 h5]
  by_cases hj : j = k
  · rw [if_pos hj, if_pos hj]
  · rw [if_neg hj, if_neg hj]; exact hE j j1 j5
/-- the same of both, then the same of both -/
theorem EqP.of {Rel : Mem → Mem → Prop} {f f' g g' : Mem → Option (Int32 × Mem)} (h : EqP Rel f g) (hf : ∀ C, f' C = f C) (hg : ∀ R, g' R = g R) : EqP Rel f' g' := by
  intro C R hr
  rw [hf, hg]
  exact h C R hr
theorem bind_some2 {x : Option (Int32 × Mem)} : (x.bind fun q => some (q.1, q.2)) = x := by
  cases x <;> rfl
theorem lgc_lt (x y : Int64) : lg_cmp x y < 0 ↔ x.toInt < y.toInt := by
  unfold lg_cmp
  by_cases h1 : x > y
  · rw [if_pos h1]
    have := Int64.lt_iff_toInt_lt.mp h1
    exact ⟨fun h => absurd h (by decide), fun h => by omega⟩
  · rw [if_neg h1]
    by_cases h2 : x = y
    · rw [if_pos h2]
      subst h2
      exact ⟨fun h => absurd h (by decide), fun h => by omega⟩
    · rw [if_neg h2]
      have a : ¬ y.toInt < x.toInt := fun h => h1 (Int64.lt_iff_toInt_lt.mpr h)
      have b : x.toInt ≠ y.toInt := fun h => h2 (Int64.toInt_inj.mp h)
      exact ⟨fun _ => by omega, fun _ => by decide⟩
theorem lgc_gt (x y : Int64) : 0 < lg_cmp x y ↔ y.toInt < x.toInt := by
  unfold lg_cmp
  by_cases h1 : x > y
  · rw [if_pos h1]
    have := Int64.lt_iff_toInt_lt.mp h1
    exact ⟨fun h => this, fun h => by decide⟩
  · rw [if_neg h1]
    have a : ¬ y.toInt < x.toInt := fun h => h1 (Int64.lt_iff_toInt_lt.mpr h)
    by_cases h2 : x = y
    · rw [if_pos h2]
      exact ⟨fun h => absurd h (by decide), fun h => absurd h a⟩
    · rw [if_neg h2]
      exact ⟨fun h => absurd h (by decide), fun h => absurd h a⟩
/-- reads of whole numbers as the reference tests them -/
theorem in8 (x lo hi : Int64) : X8_in x lo hi = 0 ↔ ¬ (lo.toInt ≤ x.toInt ∧ x.toInt ≤ hi.toInt) := by
  unfold X8_in
  by_cases h1 : lg_cmp x lo < 0
  · rw [if_pos h1]
    rw [lgc_lt] at h1
    exact ⟨fun _ => by omega, fun _ => rfl⟩
  · rw [if_neg h1]
    rw [lgc_lt] at h1
    by_cases h2 : 0 < lg_cmp x hi
    · rw [if_pos h2]
      rw [lgc_gt] at h2
      exact ⟨fun _ => by omega, fun _ => rfl⟩
    · rw [if_neg h2]
      rw [lgc_gt] at h2
      exact ⟨fun h => absurd h (by decide), fun h => absurd ⟨by omega, by omega⟩ h⟩
theorem to64 (x : Int32) : (x.toInt64).toInt = x.toInt := Int32.toInt_toInt64 x
theorem isHouse7 (v : Int32) : X7_isHouse v = 0 ↔ ¬ (0 ≤ v.toInt ∧ v.toInt ≤ 4) := by
  unfold X7_isHouse
  by_cases h1 : v < 0
  · rw [if_pos h1]; rw [i_lt, i_z] at h1; exact ⟨fun _ => by omega, fun _ => rfl⟩
  · rw [if_neg h1]; rw [i_lt, i_z] at h1
    by_cases h2 : v < 5
    · rw [if_pos h2]; rw [i_lt, show (5 : Int32).toInt = 5 from rfl] at h2; exact ⟨fun h => absurd h (by decide), fun h => absurd ⟨by omega, by omega⟩ h⟩
    · rw [if_neg h2]; rw [i_lt, show (5 : Int32).toInt = 5 from rfl] at h2; exact ⟨fun _ => by omega, fun _ => rfl⟩
theorem isWithin7 (v m : Int32) : X7_isWithin v m = 0 ↔ ¬ (0 ≤ v.toInt ∧ v.toInt ≤ m.toInt) := by
  unfold X7_isWithin
  by_cases h1 : v < 0
  · rw [if_pos h1]; rw [i_lt, i_z] at h1; exact ⟨fun _ => by omega, fun _ => rfl⟩
  · rw [if_neg h1]; rw [i_lt, i_z] at h1
    by_cases h2 : m < v
    · rw [if_pos h2]; rw [i_lt] at h2; exact ⟨fun _ => by omega, fun _ => rfl⟩
    · rw [if_neg h2]; rw [i_lt] at h2; exact ⟨fun h => absurd h (by decide), fun h => absurd ⟨by omega, by omega⟩ h⟩
theorem isHouse8 (v : Int32) : X8_isHouse v = 0 ↔ ¬ (0 ≤ v.toInt ∧ v.toInt ≤ 4) := by
  unfold X8_isHouse
  rw [in8, to64]
  exact Iff.rfl
theorem in8i (v : Int32) {lo hi : Int64} {a b : Int} (ha : lo.toInt = a) (hb : hi.toInt = b) : X8_in (v.toInt64) lo hi = 0 ↔ ¬ (a ≤ v.toInt ∧ v.toInt ≤ b) := by
  rw [in8, to64, ha, hb]
/-- a row with one place written -/
def upD (D : Nat → Int32) (j : Nat) (v : Int32) : Nat → Int32 := fun k => if k = j then v else D k
theorem up_row {M : Mem} {f i j : Nat} {v : Int32} : (up3 M f i j v) f i = upD (M f i) j v := by
  funext k
  rw [up3_row]; rfl
theorem upD_eq {D : Nat → Int32} {j : Nat} {v : Int32} : upD D j v j = v := if_pos rfl
theorem upD_ne {D : Nat → Int32} {j k : Nat} {v : Int32} (h : ¬ k = j) : upD D j v k = D k := if_neg h
theorem i_case {x : Int32} {n : Nat} (h : x.toInt = n) : x = Int32.ofNat n := by
  rw [i_eq, i_of (by have := i_hi x; omega)]; exact h
/-- HANDS (w 0), CARE (w 1) of a HOUSE are written -/
theorem RelD_house {b h w : Nat} {C : Mem} {D : Nat → Int32} {v : Int32} (hh : h < 5) (hw : w < 2) (hv : inR v 0 9) (hr : RelD b C D) : RelD b (up3 C (10 + w) b h v) (upD D (6 + 2 * h + w) v) := by
  obtain ⟨n, n1, n2, n3, n4, n5, n6, n7, n8, n9⟩ := hr
  have e1 : ∀ i k, (up3 C (10 + w) b h v) 1 i k = C 1 i k := fun i k => up3_f (by omega)
  have e3 : ∀ i k, (up3 C (10 + w) b h v) 3 i k = C 3 i k := fun i k => up3_f (by omega)
  have e2 : ∀ i k, (up3 C (10 + w) b h v) 2 i k = C 2 i k := fun i k => up3_f (by omega)
  have e13 : ∀ i k, (up3 C (10 + w) b h v) 13 i k = C 13 i k := fun i k => up3_f (by omega)
  have eD : ∀ k, ¬ k = 6 + 2 * h + w → upD D (6 + 2 * h + w) v k = D k := fun k hk => upD_ne hk
  refine ⟨n, n1, (e1 _ _).trans n2, (eD 0 (by omega)).trans n3, fun p hp => ?_, ?_, ?_, ?_, fun h' hh' => ?_, fun u hu => ?_⟩
  · obtain ⟨q1, q2, q3⟩ := n4 p hp
    have e : ∀ k, upD D (6 + 2 * h + w) v (16 + 8 * p + k) = D (16 + 8 * p + k) := fun k => eD _ (by omega)
    refine ⟨?_, fun k hk => ?_, ?_⟩
    · intro k hk
      show rngP k (upD D (6 + 2 * h + w) v (16 + 8 * p + k))
      rw [e]; exact q1 k hk
    · rw [e3, e]; exact q2 k hk
    · rw [e3, e]; exact q3
  · rw [e1, eD 1 (by omega)]; exact n5
  · rw [e1, eD 2 (by omega)]; exact n6
  · rw [eD 2 (by omega)]; exact n7
  · obtain ⟨q1, q2, q3, q4⟩ := n8 h' hh'
    rcases (show w = 0 ∨ w = 1 by omega) with rfl | rfl
    · rw [up3_f (f' := 11) (by omega), eD (6 + 2 * h' + 1) (by omega)]
      by_cases hq : h' = h
      · subst hq
        rw [up3_eq, show upD D (6 + 2 * h' + 0) v (6 + 2 * h') = v from upD_eq]
        exact ⟨rfl, q2, hv, q4⟩
      · rw [up3_k hq, eD (6 + 2 * h') (by omega)]
        exact ⟨q1, q2, q3, q4⟩
    · rw [up3_f (f' := 10) (by omega), eD (6 + 2 * h') (by omega)]
      by_cases hq : h' = h
      · subst hq
        rw [up3_eq, upD_eq]
        exact ⟨q1, rfl, q3, hv⟩
      · rw [up3_k hq, eD (6 + 2 * h' + 1) (by omega)]
        exact ⟨q1, q2, q3, q4⟩
  · obtain ⟨l, l1, l2, l3, l4, l5⟩ := n9 u hu
    refine ⟨l, l1, (e2 _ _).trans l2, (eD _ (by omega)).trans l3, fun k hk => ?_, ?_⟩
    · rw [eD _ (by omega), e13]; exact l4 k hk
    · rw [toks_cg (fun k _ => e13 (2 * b + u) k)]; exact l5
theorem nbZ_of {v : Int32} (h : inR v 0 1) : nbZ v = v := by
  unfold nbZ
  by_cases h0 : v = 0
  · rw [if_pos h0, h0]
  · rw [if_neg h0]
    have h2 : v.toInt ≠ 0 := fun e => h0 (Int32.toInt_inj.mp e)
    rw [i_eq]
    have := h.1
    have := h.2
    show (1 : Int) = v.toInt
    omega
theorem rngP7 {v : Int32} (h : rngP 7 v) : inR v 0 1 := h
/-- one number of a POT is written -/
theorem RelD_pot {b p k : Nat} {C : Mem} {D : Nat → Int32} {v : Int32} (hp : (p : Int) < (C 1 b 5).toInt) (hk : k < 8) (hv : rngP k v) (hr : RelD b C D) : RelD b (up3 C 3 (10 * b + p) k v) (upD D (16 + 8 * p + k) v) := by
  obtain ⟨n, n1, n2, n3, n4, n5, n6, n7, n8, n9⟩ := hr
  have hpn : p < n := by
    rw [n2, i_of (by omega)] at hp
    omega
  have ef : ∀ f i j, ¬ f = 3 → (up3 C 3 (10 * b + p) k v) f i j = C f i j := fun f i j h => up3_f h
  have eD : ∀ j, ¬ j = 16 + 8 * p + k → upD D (16 + 8 * p + k) v j = D j := fun j hj => upD_ne hj
  refine ⟨n, n1, (ef _ _ _ (by decide)).trans n2, (eD 0 (by omega)).trans n3, fun p' hp' => ?_, ?_, ?_, ?_, fun h' hh' => ?_, fun u hu => ?_⟩
  · obtain ⟨q1, q2, q3⟩ := n4 p' hp'
    by_cases hpp : p' = p
    · subst hpp
      refine ⟨fun j hj => ?_, fun j hj => ?_, ?_⟩
      · show rngP j (upD D (16 + 8 * p' + k) v (16 + 8 * p' + j))
        by_cases hjk : j = k
        · subst hjk; rw [upD_eq]; exact hv
        · rw [eD _ (by omega)]; exact q1 j hj
      · by_cases hjk : j = k
        · subst hjk; rw [up3_eq, upD_eq]
        · rw [up3_k hjk, eD _ (by omega)]; exact q2 j hj
      · by_cases hjk : k = 7
        · subst hjk; rw [up3_eq, upD_eq]; exact nbZ_of (rngP7 hv)
        · rw [up3_k (fun e => hjk e.symm), eD _ (by omega)]; exact q3
    · have e : ∀ j, j < 8 → upD D (16 + 8 * p + k) v (16 + 8 * p' + j) = D (16 + 8 * p' + j) := fun j hj => eD _ (by omega)
      refine ⟨fun j hj => ?_, fun j hj => ?_, ?_⟩
      · show rngP j (upD D (16 + 8 * p + k) v (16 + 8 * p' + j))
        rw [e j hj]; exact q1 j hj
      · rw [up3_i (by omega), e j (by omega)]; exact q2 j hj
      · rw [up3_i (by omega), e 7 (by omega)]; exact q3
  · rw [ef _ _ _ (by decide), eD 1 (by omega)]; exact n5
  · rw [ef _ _ _ (by decide), eD 2 (by omega)]; exact n6
  · rw [eD 2 (by omega)]; exact n7
  · rw [ef _ _ _ (by decide), ef _ _ _ (by decide), eD _ (by omega), eD _ (by omega)]; exact n8 h' hh'
  · obtain ⟨l, l1, l2, l3, l4, l5⟩ := n9 u hu
    refine ⟨l, l1, (ef _ _ _ (by decide)).trans l2, (eD _ (by omega)).trans l3, fun j hj => ?_, ?_⟩
    · rw [eD _ (by omega), ef _ _ _ (by decide)]; exact l4 j hj
    · rw [toks_cg (fun j _ => ef 13 (2 * b + u) j (by decide))]; exact l5
/-- what RelD doesn't speak of may be written in the row -/
theorem RelD_row {b : Nat} {C : Mem} {D : Nat → Int32} {j : Nat} {v : Int32} (hj : ¬ supD j) (h : RelD b C D) : RelD b C (upD D j v) :=
  RelD_cg (fun _ _ _ => rfl) (fun _ _ _ => rfl) (fun _ _ => rfl) (fun _ _ => rfl) (fun _ _ => rfl) (fun _ _ _ _ => rfl) (fun k hk => upD_ne (fun e => hj (e ▸ hk))) h
theorem RelK_row {e : Nat} {C : Mem} {D : Nat → Int32} {j : Nat} {v : Int32} (hj : ¬ supK j) (h : RelK e C D) : RelK e C (upD D j v) :=
  RelK_cg (fun _ _ _ => rfl) (fun _ _ => rfl) (fun _ _ => rfl) (fun k hk => upD_ne (fun e => hj (e ▸ hk))) h
