/-! THE WORLD: the cells of both systems, by families; a memory is a pair of number tables (class, reference): family, member, slot.
Families 0 .. 7: objects of class number f of vwCl; 8 .. 18: arrays of the class's objects; 19: the reference's object; 20 .. 31: its arrays. -/
abbrev AV : Type := Int32 ⊕ (Int64 ⊕ (Nat × Nat))
abbrev Mem : Type := Nat → Nat → Nat → Int32
abbrev MM : Type := Mem × Mem
def up3 (M : Mem) (f i k : Nat) (v : Int32) : Mem := fun f' i' k' => if f' = f ∧ k' = k ∧ i' = i then v else M f' i' k'
def cp3 (M : Mem) (f i sp g j dp n : Nat) : Mem := fun f' i' k' => if f' = g ∧ i' = j ∧ dp ≤ k' ∧ k' < dp + n then M f i (sp + (k' - dp)) else M f' i' k'
def rdM (M : MM) (f i k : Nat) : Int32 := if f < 19 then M.1 f i k else M.2 f i k
def wrM (M : MM) (f i k : Nat) (v : Int32) : MM := if f < 19 then (up3 M.1 f i k v, M.2) else (M.1, up3 M.2 f i k v)
def nbB (x : Int32) : Int32 := x.toInt8.toInt32
def nbZ (x : Int32) : Int32 := if x = 0 then 0 else 1
/-- how many members a family has -/
def fCnt (f : Nat) : Nat := ([2, 3, 7, 30, 1, 4, 1, 1, 3, 2, 3, 3, 3, 7, 7, 4, 1, 1, 1, 1, 1, 1, 1, 1, 1, 1, 1, 1, 1, 1, 1, 1] : List Nat).getD f 0
def fOff (f : Nat) : Nat := ([0, 2, 5, 12, 42, 43, 47, 48, 49, 52, 54, 57, 60, 63, 70, 77, 81, 82, 83, 84, 85, 86, 87, 88, 89, 90, 91, 92, 93, 94, 95, 96] : List Nat).getD f 0
/-- its class number in vwCl (9: it is of arrays) -/
def fCls (f : Nat) : Nat := ([0, 1, 2, 3, 4, 5, 6, 7, 9, 9, 9, 9, 9, 9, 9, 9, 9, 9, 9, 8, 9, 9, 9, 9, 9, 9, 9, 9, 9, 9, 9, 9] : List Nat).getD f 9
/-- what its arrays hold: 0 ints, 1 bytes, 2 POTS, 3 SHEETS -/
def fElt (f : Nat) : Nat := ([0, 0, 0, 0, 0, 0, 0, 0, 1, 0, 0, 0, 2, 0, 0, 0, 0, 3, 0, 0, 0, 0, 0, 0, 0, 0, 0, 0, 0, 0, 0, 0] : List Nat).getD f 0
def fLen (f : Nat) : Nat := ([0, 0, 0, 0, 0, 0, 0, 0, 50, 20, 5, 5, 10, 50, 50, 40, 40, 4, 6, 0, 268, 268, 96, 6, 3, 60, 60, 40, 4, 4, 160, 40] : List Nat).getD f 0
/-- fields of a class -/
def fNum (c : Nat) : Nat := ([5, 8, 3, 8, 5, 3, 5, 10, 22] : List Nat).getD c 0
/-- fields that are references: where they lead -/
def fRef (f k : Nat) : Option (Nat → Nat × Nat) := (([
  [some fun i => (8, i), some fun i => (9, i)],
  [some fun i => (10, i), some fun i => (11, i), some fun i => (12, i), some fun i => (2, 2 * i), some fun i => (2, 2 * i + 1)],
  [some fun i => (13, i), some fun i => (14, i)],
  [],
  [some fun _ => (2, 6), some fun _ => (8, 2)],
  [some fun i => (15, i)],
  [some fun i => (16, i)],
  [some fun _ => (1, 0), some fun _ => (1, 1), some fun _ => (1, 2), some fun _ => (0, 0), some fun _ => (0, 1), some fun _ => (4, 0), some fun _ => (6, 0), some fun _ => (17, 0), some fun _ => (18, 0)],
  [], [], [], [], [], [], [], [], [], [], [],
  [some fun _ => (20, 0), some fun _ => (21, 0), some fun _ => (22, 0), none, some fun _ => (23, 0), none, none, none, none, none, none, some fun _ => (24, 0), some fun _ => (25, 0), none, some fun _ => (26, 0), some fun _ => (27, 0), none, none, some fun _ => (28, 0), some fun _ => (29, 0), some fun _ => (30, 0), some fun _ => (31, 0)]
  ] : List (List (Option (Nat → Nat × Nat)))).getD f []).getD k none
/-- is a field a truth value -/
def fZ (f k : Nat) : Bool := (f == 3 && k == 7) || (f == 19 && k == 10)
def cv (ad : Nat → Nat → Nat) (v : AV) : Value := match v with
  | .inl x => .int x
  | .inr (.inl y) => .long y
  | .inr (.inr q) => .ref (ad q.1 q.2)
/-- what a field holds -/
def fldV (f i k : Nat) (M : MM) : AV := match fRef f k with
  | some g => .inr (.inr (g i))
  | none => .inl (if fZ f k then nbZ (rdM M f i k) else rdM M f i k)
def arrF (ad : Nat → Nat → Nat) (M : MM) (f i : Nat) : (Nat → Int32) ⊕ (Nat → Int64) ⊕ (Nat → UInt32) ⊕ (Nat → UInt64) ⊕ (Nat → Option Nat) := match fElt f with
  | 0 => .inl (fun j => rdM M f i j)
  | 1 => .inl (fun j => nbB (rdM M f i j))
  | 2 => .inr (.inr (.inr (.inr (fun j => some (ad 3 (10 * i + j))))))
  | _ => .inr (.inr (.inr (.inr (fun j => some (ad 5 j)))))
def cellE (ad : Nat → Nat → Nat) (cA : Nat → ClassId) (M : MM) (f i : Nat) : va_E :=
  if fCls f < 9 then .inr (fCls f, (List.range (fNum (fCls f))).map (fun k => cv ad (fldV f i k M)))
  else .inl (cA (fElt f), fLen f, arrF ad M f i)
def allC : List (Nat × Nat) := (List.range 32).flatMap (fun f => (List.range (fCnt f)).map (fun i => (f, i)))
def world (ad : Nat → Nat → Nat) (cA : Nat → ClassId) (M : MM) : va_W := allC.map (fun q => (ad q.1 q.2, cellE ad cA M q.1 q.2))
def tysA (cA : Nat → ClassId) : List (ClassId × FieldType) := [(cA 0, .int), (cA 1, .byte), (cA 2, .object "PotHandles$Pot"), (cA 3, .object "PotHandles$Sheet")]
set_option maxRecDepth 100000 in
theorem allC_at : ∀ f, f < 32 → ∀ i, i < fCnt f → allC[fOff f + i]? = some (f, i) := by decide +kernel
set_option maxRecDepth 100000 in
theorem allC_in : ∀ k, k < 97 → (allC[k]?).all (fun q => decide (q.1 < 32) && decide (q.2 < fCnt q.1) && decide (fOff q.1 + q.2 = k)) = true := by decide +kernel
set_option maxRecDepth 100000 in
theorem allC_len : allC.length = 97 := by decide +kernel
theorem world_at {ad : Nat → Nat → Nat} {cA : Nat → ClassId} {M : MM} {f i : Nat} (hf : f < 32) (hi : i < fCnt f) : (world ad cA M)[fOff f + i]? = some (ad f i, cellE ad cA M f i) := by
  unfold world
  rw [List.getElem?_map, allC_at f hf i hi]
  rfl
theorem allC_inv {k f i : Nat} (h : allC[k]? = some (f, i)) : f < 32 ∧ i < fCnt f ∧ fOff f + i = k := by
  have hk : k < 97 := by
    rw [← allC_len]
    exact (List.getElem?_eq_some_iff.mp h).1
  have h1 := allC_in k hk
  rw [h] at h1
  simp only [Option.all_some, Bool.and_eq_true, decide_eq_true_eq] at h1
  exact ⟨h1.1.1, h1.1.2, h1.2⟩
theorem rd_wr_ne {M : MM} {f i k f' i' j : Nat} {v : Int32} (h : ¬ (f' = f ∧ i' = i)) : rdM (wrM M f i k v) f' i' j = rdM M f' i' j := by
  have h2 : ¬ (f' = f ∧ j = k ∧ i' = i) := fun e => h ⟨e.1, e.2.2⟩
  unfold rdM wrM
  by_cases h1 : f < 19 <;> by_cases h3 : f' < 19 <;> simp [h1, h3, up3, h2]
theorem rd_wr_eq {M : MM} {f i k j : Nat} {v : Int32} : rdM (wrM M f i k v) f i j = if j = k then v else rdM M f i j := by
  unfold rdM wrM
  by_cases h1 : f < 19 <;> by_cases h3 : j = k <;> simp [h1, h3, up3]
theorem cellE_congr {ad : Nat → Nat → Nat} {cA : Nat → ClassId} {M M' : MM} {f i : Nat} (h : ∀ j, rdM M' f i j = rdM M f i j) : cellE ad cA M' f i = cellE ad cA M f i := by
  have h1 : ∀ k, fldV f i k M' = fldV f i k M := fun k => by unfold fldV; rw [h]
  have h2 : arrF ad M' f i = arrF ad M f i := by unfold arrF; simp only [h]
  unfold cellE
  simp only [h1, h2]
theorem list_set_map {C : List (Nat × Nat)} {E E' : Nat × Nat → Nat × va_E} {n0 : Nat} {q0 : Nat × Nat} (h0 : C[n0]? = some q0) (hu : ∀ k, C[k]? = some q0 → n0 = k) (h : ∀ q, q ≠ q0 → E' q = E q) : (C.map E).set n0 (E' q0) = C.map E' := by
  apply List.ext_getElem?
  intro n
  rw [List.getElem?_set, List.getElem?_map, List.getElem?_map, List.length_map]
  have hlt : n0 < C.length := (List.getElem?_eq_some_iff.mp h0).1
  by_cases hn : n0 = n
  · subst hn
    rw [if_pos rfl, if_pos hlt, h0]
    rfl
  · rw [if_neg hn]
    cases hq : C[n]? with
    | none => rfl
    | some q =>
      have hne : q ≠ q0 := by
        intro e
        rw [e] at hq
        exact hn (hu n hq)
      show some (E q) = some (E' q)
      rw [h q hne]
theorem world_set {ad : Nat → Nat → Nat} {cA : Nat → ClassId} {M M' : MM} {f i : Nat} (hf : f < 32) (hi : i < fCnt f) (h : ∀ f' i', ¬ (f' = f ∧ i' = i) → ∀ j, rdM M' f' i' j = rdM M f' i' j) : (world ad cA M).set (fOff f + i) (ad f i, cellE ad cA M' f i) = world ad cA M' := by
  refine list_set_map (C := allC) (E := fun q => (ad q.1 q.2, cellE ad cA M q.1 q.2)) (E' := fun q => (ad q.1 q.2, cellE ad cA M' q.1 q.2)) (n0 := fOff f + i) (q0 := (f, i)) (allC_at f hf i hi) (fun k hk => (allC_inv hk).2.2) (fun q hq => ?_)
  obtain ⟨f', i'⟩ := q
  have hne : ¬ (f' = f ∧ i' = i) := by
    rintro ⟨rfl, rfl⟩
    exact hq rfl
  show (ad f' i', cellE ad cA M' f' i') = (ad f' i', cellE ad cA M f' i')
  rw [cellE_congr (h f' i' hne)]
theorem map_keys {C : List (Nat × Nat)} {E E' : Nat × Nat → Nat × va_E} (h : ∀ q, (E' q).1 = (E q).1) {k : Nat} {q : Nat × va_E} (hq : (C.map E')[k]? = some q) : ∃ q2 : Nat × va_E, (C.map E)[k]? = some q2 ∧ q2.1 = q.1 := by
  rw [List.getElem?_map] at hq ⊢
  cases h1 : C[k]? with
  | none => rw [h1] at hq; cases hq
  | some z =>
    rw [h1] at hq
    cases hq
    exact ⟨_, rfl, (h z).symm⟩
theorem va_D_world {ad : Nat → Nat → Nat} {cA : Nat → ClassId} {A : Nat → Prop} {M M' : MM} (h : va_D A (world ad cA M)) : va_D A (world ad cA M') := by
  have e : ∀ (k : Nat) (q : Nat × va_E), (world ad cA M' : List (Nat × va_E))[k]? = some q → ∃ q2 : Nat × va_E, (world ad cA M : List (Nat × va_E))[k]? = some q2 ∧ q2.1 = q.1 :=
    fun k q hq => map_keys (C := allC) (E := fun q => (ad q.1 q.2, cellE ad cA M q.1 q.2)) (E' := fun q => (ad q.1 q.2, cellE ad cA M' q.1 q.2)) (fun _ => rfl) hq
  refine ⟨fun i j p q hp hq hpq => ?_, fun k q hq => ?_⟩
  · obtain ⟨p2, g1, g2⟩ := e i p hp
    obtain ⟨q2, g3, g4⟩ := e j q hq
    exact h.1 i j p2 q2 g1 g3 (by rw [g2, g4, hpq])
  · obtain ⟨q2, g3, g4⟩ := e k q hq
    rw [← g4]
    exact h.2 k q2 g3
