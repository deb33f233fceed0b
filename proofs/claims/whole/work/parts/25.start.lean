/-- the start: all as at first -/
def C0 : Mem := fun f _ k => if f = 10 then 2 else if f = 11 then 5 else if f = 0 ∧ k = 4 then 1 else 0
def R0 : Mem := fun f _ k => if f = 20 then dInit k else 0
/-- two cells that hold the same -/
def eqE (e e' : va_E) : Prop := e = e' ∨ (∃ (c : ClassId) (n : Nat) (f g : Nat → Int32), e = .inl (c, n, .inl f) ∧ e' = .inl (c, n, .inl g) ∧ ∀ j, j < n → f j = g j) ∨ (∃ (c : ClassId) (n : Nat) (f g : Nat → Option Nat), e = .inl (c, n, .inr (.inr (.inr (.inr f)))) ∧ e' = .inl (c, n, .inr (.inr (.inr (.inr g)))) ∧ ∀ j, j < n → f j = g j)
theorem arrV_cg {c : ClassId} {n : Nat} {f g : Nat → Value} (h : ∀ j, j < n → f j = g j) : arrV c n f = arrV c n g := by
  unfold arrV
  congr 2
  funext j
  exact h j.1 j.2
theorem eqE_at {D : va_G} {cl : List vw_C} {a : Nat} {e e' : va_E} {H : Heap} (he : eqE e e') (h : va_at D cl (a, e) H) : va_at D cl (a, e') H := by
  rcases he with rfl | ⟨c, n, f, g, rfl, rfl, hj⟩ | ⟨c, n, f, g, rfl, rfl, hj⟩
  · exact h
  · show H[a]? = some (vp_cell c (n, .inl g))
    rw [vp_cell_i, ← arrV_cg (fun j hj2 => congrArg Value.int (hj j hj2))]
    exact h
  · show H[a]? = some (vp_cell c (n, .inr (.inr (.inr (.inr g)))))
    rw [vp_cell_q, ← arrV_cg (fun j hj2 => congrArg va_rf (hj j hj2))]
    exact h
def relW : List (Nat × va_E) → List (Nat × va_E) → Prop
  | [], [] => True
  | x :: xs, y :: ys => (x.1 = y.1 ∧ eqE x.2 y.2) ∧ relW xs ys
  | _, _ => False
theorem relW_get : ∀ (ws ws' : List (Nat × va_E)), relW ws ws' → ∀ (k : Nat) (q : Nat × va_E), ws'[k]? = some q → ∃ q2 : Nat × va_E, ws[k]? = some q2 ∧ q2.1 = q.1 ∧ eqE q2.2 q.2
  | [], [], _, k, q, h => by simp at h
  | [], _ :: _, hr, _, _, _ => hr.elim
  | _ :: _, [], hr, _, _, _ => hr.elim
  | x :: xs, y :: ys, hr, k, q, h => by
    cases k with
    | zero =>
      rw [List.getElem?_cons_zero] at h
      cases h
      exact ⟨x, rfl, hr.1.1, hr.1.2⟩
    | succ k =>
      rw [List.getElem?_cons_succ] at h
      obtain ⟨q2, g1, g2, g3⟩ := relW_get xs ys hr.2 k q h
      exact ⟨q2, by rw [List.getElem?_cons_succ]; exact g1, g2, g3⟩
theorem relW_P {D : va_G} {cl : List vw_C} {ws ws' : va_W} {H : Heap} (h : relW ws ws') (hP : va_P D cl ws H) : va_P D cl ws' H := by
  intro k q hq
  obtain ⟨q2, g1, g2, g3⟩ := relW_get ws ws' h k q hq
  obtain ⟨a, e⟩ := q
  obtain ⟨a2, e2⟩ := q2
  have := hP k _ g1
  cases g2
  exact eqE_at g3 this
theorem relW_D {A : Nat → Prop} {ws ws' : va_W} (h : relW ws ws') (hD : va_D A ws) : va_D A ws' := by
  refine ⟨fun i j p q hp hq hpq => ?_, fun k q hq => ?_⟩
  · obtain ⟨p2, g1, g2, -⟩ := relW_get ws ws' h i p hp
    obtain ⟨q2, g3, g4, -⟩ := relW_get ws ws' h j q hq
    exact hD.1 i j p2 q2 g1 g3 (by rw [g2, g4, hpq])
  · obtain ⟨q2, g3, g4, -⟩ := relW_get ws ws' h k q hq
    rw [← g4]
    exact hD.2 k q2 g3
/-- where each cell of the world lies -/
def adL (b : Nat) (as : List Nat) : Nat → Nat → Nat := fun f i => if f = 99 then b else as.getD (fOff f + i) 0
set_option maxRecDepth 100000 in
set_option maxHeartbeats 16000000 in
theorem start_rel (b : Nat) (cA : Nat → ClassId) {q0 x1 x2 x3 x4 x5 x6 x7 x8 x9 x10 x11 x12 x13 x14 x15 x16 x17 x18 x19 x20 x21 x22 x23 x24 x25 x26 x27 x28 x29 x30 x31 x32 x33 x34 x35 x36 x37 x38 x39 x40 x41 x42 x43 x44 x45 x46 x47 x48 x49 x50 x51 x52 x53 x54 x55 x56 x57 x58 x59 x60 x61 x62 x63 x64 x65 x66 x67 x68 x69 x70 x71 x72 x73 x74 x75 x76 x77 x78 x79 x80 x81 x82 x83 q1 y1 y2 y3 y4 y5 y6 y7 y8 y9 y10 y11 y12 : Nat} {f1 : Nat → Option Nat} {f2 : Nat → Int32} {f3 : Nat → Int32} {f4 : Nat → Option Nat} {f5 : Nat → Int32} {f6 : Nat → Int32} {f7 : Nat → Option Nat} {f8 : Nat → Int32} {f9 : Nat → Int32} {f10 : Nat → Option Nat} {g1 : Nat → Int32} (hf0 : (f1 0 = some x11 ∧ f1 1 = some x12 ∧ f1 2 = some x13 ∧ f1 3 = some x14 ∧ f1 4 = some x15 ∧ f1 5 = some x16 ∧ f1 6 = some x17 ∧ f1 7 = some x18 ∧ f1 8 = some x19 ∧ f1 9 = some x20)) (hf1 : (∀ j, j < 5 → f2 j = 2)) (hf2 : (∀ j, j < 5 → f3 j = 5)) (hf3 : (f4 0 = some x31 ∧ f4 1 = some x32 ∧ f4 2 = some x33 ∧ f4 3 = some x34 ∧ f4 4 = some x35 ∧ f4 5 = some x36 ∧ f4 6 = some x37 ∧ f4 7 = some x38 ∧ f4 8 = some x39 ∧ f4 9 = some x40)) (hf4 : (∀ j, j < 5 → f5 j = 2)) (hf5 : (∀ j, j < 5 → f6 j = 5)) (hf6 : (f7 0 = some x51 ∧ f7 1 = some x52 ∧ f7 2 = some x53 ∧ f7 3 = some x54 ∧ f7 4 = some x55 ∧ f7 5 = some x56 ∧ f7 6 = some x57 ∧ f7 7 = some x58 ∧ f7 8 = some x59 ∧ f7 9 = some x60)) (hf7 : (∀ j, j < 5 → f8 j = 2)) (hf8 : (∀ j, j < 5 → f9 j = 5)) (hf9 : (f10 0 = some x76 ∧ f10 1 = some x78 ∧ f10 2 = some x80 ∧ f10 3 = some x82)) (hg : ∀ j, g1 j = dInit j) : relW [(x61, .inr (0, [.ref x62, .ref x63, .int 0, .int 0, .int 1])), (x64, .inr (0, [.ref x65, .ref x66, .int 0, .int 0, .int 1])), (x1, .inr (1, [.ref x9, .ref x10, .ref x2, .ref x3, .ref x6, .int 0, .int 0, .int 0])), (x21, .inr (1, [.ref x29, .ref x30, .ref x22, .ref x23, .ref x26, .int 0, .int 0, .int 0])), (x41, .inr (1, [.ref x49, .ref x50, .ref x42, .ref x43, .ref x46, .int 0, .int 0, .int 0])), (x3, .inr (2, [.ref x4, .ref x5, .int 0])), (x6, .inr (2, [.ref x7, .ref x8, .int 0])), (x23, .inr (2, [.ref x24, .ref x25, .int 0])), (x26, .inr (2, [.ref x27, .ref x28, .int 0])), (x43, .inr (2, [.ref x44, .ref x45, .int 0])), (x46, .inr (2, [.ref x47, .ref x48, .int 0])), (x68, .inr (2, [.ref x69, .ref x70, .int 0])), (x11, .inr (3, [.int 0, .int 0, .int 0, .int 0, .int 0, .int 0, .int 0, .int 0])), (x12, .inr (3, [.int 0, .int 0, .int 0, .int 0, .int 0, .int 0, .int 0, .int 0])), (x13, .inr (3, [.int 0, .int 0, .int 0, .int 0, .int 0, .int 0, .int 0, .int 0])), (x14, .inr (3, [.int 0, .int 0, .int 0, .int 0, .int 0, .int 0, .int 0, .int 0])), (x15, .inr (3, [.int 0, .int 0, .int 0, .int 0, .int 0, .int 0, .int 0, .int 0])), (x16, .inr (3, [.int 0, .int 0, .int 0, .int 0, .int 0, .int 0, .int 0, .int 0])), (x17, .inr (3, [.int 0, .int 0, .int 0, .int 0, .int 0, .int 0, .int 0, .int 0])), (x18, .inr (3, [.int 0, .int 0, .int 0, .int 0, .int 0, .int 0, .int 0, .int 0])), (x19, .inr (3, [.int 0, .int 0, .int 0, .int 0, .int 0, .int 0, .int 0, .int 0])), (x20, .inr (3, [.int 0, .int 0, .int 0, .int 0, .int 0, .int 0, .int 0, .int 0])), (x31, .inr (3, [.int 0, .int 0, .int 0, .int 0, .int 0, .int 0, .int 0, .int 0])), (x32, .inr (3, [.int 0, .int 0, .int 0, .int 0, .int 0, .int 0, .int 0, .int 0])), (x33, .inr (3, [.int 0, .int 0, .int 0, .int 0, .int 0, .int 0, .int 0, .int 0])), (x34, .inr (3, [.int 0, .int 0, .int 0, .int 0, .int 0, .int 0, .int 0, .int 0])), (x35, .inr (3, [.int 0, .int 0, .int 0, .int 0, .int 0, .int 0, .int 0, .int 0])), (x36, .inr (3, [.int 0, .int 0, .int 0, .int 0, .int 0, .int 0, .int 0, .int 0])), (x37, .inr (3, [.int 0, .int 0, .int 0, .int 0, .int 0, .int 0, .int 0, .int 0])), (x38, .inr (3, [.int 0, .int 0, .int 0, .int 0, .int 0, .int 0, .int 0, .int 0])), (x39, .inr (3, [.int 0, .int 0, .int 0, .int 0, .int 0, .int 0, .int 0, .int 0])), (x40, .inr (3, [.int 0, .int 0, .int 0, .int 0, .int 0, .int 0, .int 0, .int 0])), (x51, .inr (3, [.int 0, .int 0, .int 0, .int 0, .int 0, .int 0, .int 0, .int 0])), (x52, .inr (3, [.int 0, .int 0, .int 0, .int 0, .int 0, .int 0, .int 0, .int 0])), (x53, .inr (3, [.int 0, .int 0, .int 0, .int 0, .int 0, .int 0, .int 0, .int 0])), (x54, .inr (3, [.int 0, .int 0, .int 0, .int 0, .int 0, .int 0, .int 0, .int 0])), (x55, .inr (3, [.int 0, .int 0, .int 0, .int 0, .int 0, .int 0, .int 0, .int 0])), (x56, .inr (3, [.int 0, .int 0, .int 0, .int 0, .int 0, .int 0, .int 0, .int 0])), (x57, .inr (3, [.int 0, .int 0, .int 0, .int 0, .int 0, .int 0, .int 0, .int 0])), (x58, .inr (3, [.int 0, .int 0, .int 0, .int 0, .int 0, .int 0, .int 0, .int 0])), (x59, .inr (3, [.int 0, .int 0, .int 0, .int 0, .int 0, .int 0, .int 0, .int 0])), (x60, .inr (3, [.int 0, .int 0, .int 0, .int 0, .int 0, .int 0, .int 0, .int 0])), (x67, .inr (4, [.ref x68, .ref x71, .int 0, .int 0, .int 0])), (x76, .inr (5, [.ref x77, .int 0, .int 0])), (x78, .inr (5, [.ref x79, .int 0, .int 0])), (x80, .inr (5, [.ref x81, .int 0, .int 0])), (x82, .inr (5, [.ref x83, .int 0, .int 0])), (x72, .inr (6, [.ref x73, .int 0, .int 0, .int 0, .int 0])), (q0, .inr (7, [.ref x1, .ref x21, .ref x41, .ref x61, .ref x64, .ref x67, .ref x72, .ref x74, .ref x75, .int 0])), (x62, .inl (cA 1, 50, .inl (fun _ => 0))), (x65, .inl (cA 1, 50, .inl (fun _ => 0))), (x71, .inl (cA 1, 50, .inl (fun _ => 0))), (x63, .inl (cA 0, 20, .inl (fun _ => 0))), (x66, .inl (cA 0, 20, .inl (fun _ => 0))), (x9, .inl (cA 0, 5, .inl f2)), (x29, .inl (cA 0, 5, .inl f5)), (x49, .inl (cA 0, 5, .inl f8)), (x10, .inl (cA 0, 5, .inl f3)), (x30, .inl (cA 0, 5, .inl f6)), (x50, .inl (cA 0, 5, .inl f9)), (x2, .inl (cA 2, 10, .inr (.inr (.inr (.inr f1))))), (x22, .inl (cA 2, 10, .inr (.inr (.inr (.inr f4))))), (x42, .inl (cA 2, 10, .inr (.inr (.inr (.inr f7))))), (x4, .inl (cA 0, 50, .inl (fun _ => 0))), (x7, .inl (cA 0, 50, .inl (fun _ => 0))), (x24, .inl (cA 0, 50, .inl (fun _ => 0))), (x27, .inl (cA 0, 50, .inl (fun _ => 0))), (x44, .inl (cA 0, 50, .inl (fun _ => 0))), (x47, .inl (cA 0, 50, .inl (fun _ => 0))), (x69, .inl (cA 0, 50, .inl (fun _ => 0))), (x5, .inl (cA 0, 50, .inl (fun _ => 0))), (x8, .inl (cA 0, 50, .inl (fun _ => 0))), (x25, .inl (cA 0, 50, .inl (fun _ => 0))), (x28, .inl (cA 0, 50, .inl (fun _ => 0))), (x45, .inl (cA 0, 50, .inl (fun _ => 0))), (x48, .inl (cA 0, 50, .inl (fun _ => 0))), (x70, .inl (cA 0, 50, .inl (fun _ => 0))), (x77, .inl (cA 0, 40, .inl (fun _ => 0))), (x79, .inl (cA 0, 40, .inl (fun _ => 0))), (x81, .inl (cA 0, 40, .inl (fun _ => 0))), (x83, .inl (cA 0, 40, .inl (fun _ => 0))), (x73, .inl (cA 0, 40, .inl (fun _ => 0))), (x74, .inl (cA 3, 4, .inr (.inr (.inr (.inr f10))))), (x75, .inl (cA 0, 6, .inl (fun _ => 0))), (q1, .inr (8, [.ref y1, .ref y2, .ref y3, .int 0, .ref y4, .int 0, .int 0, .int 0, .int 0, .int 0, .int 0, .ref y5, .ref y6, .int 0, .ref y7, .ref y8, .int 0, .int 0, .ref y9, .ref y10, .ref y11, .ref y12])), (y1, .inl (cA 0, 268, .inl g1)), (y2, .inl (cA 0, 268, .inl (fun _ => 0))), (y3, .inl (cA 0, 96, .inl (fun _ => 0))), (y4, .inl (cA 0, 6, .inl (fun _ => 0))), (y5, .inl (cA 0, 3, .inl (fun _ => 0))), (y6, .inl (cA 0, 60, .inl (fun _ => 0))), (y7, .inl (cA 0, 60, .inl (fun _ => 0))), (y8, .inl (cA 0, 40, .inl (fun _ => 0))), (y9, .inl (cA 0, 4, .inl (fun _ => 0))), (y10, .inl (cA 0, 4, .inl (fun _ => 0))), (y11, .inl (cA 0, 160, .inl (fun _ => 0))), (y12, .inl (cA 0, 40, .inl (fun _ => 0)))] (world (adL b [x61, x64, x1, x21, x41, x3, x6, x23, x26, x43, x46, x68, x11, x12, x13, x14, x15, x16, x17, x18, x19, x20, x31, x32, x33, x34, x35, x36, x37, x38, x39, x40, x51, x52, x53, x54, x55, x56, x57, x58, x59, x60, x67, x76, x78, x80, x82, x72, q0, x62, x65, x71, x63, x66, x9, x29, x49, x10, x30, x50, x2, x22, x42, x4, x7, x24, x27, x44, x47, x69, x5, x8, x25, x28, x45, x48, x70, x77, x79, x81, x83, x73, x74, x75, q1, y1, y2, y3, y4, y5, y6, y7, y8, y9, y10, y11, y12]) cA (C0, R0)) := by
  show relW _ (allC.map _)
  rw [show allC = [(0, 0), (0, 1), (1, 0), (1, 1), (1, 2), (2, 0), (2, 1), (2, 2), (2, 3), (2, 4), (2, 5), (2, 6), (3, 0), (3, 1), (3, 2), (3, 3), (3, 4), (3, 5), (3, 6), (3, 7), (3, 8), (3, 9), (3, 10), (3, 11), (3, 12), (3, 13), (3, 14), (3, 15), (3, 16), (3, 17), (3, 18), (3, 19), (3, 20), (3, 21), (3, 22), (3, 23), (3, 24), (3, 25), (3, 26), (3, 27), (3, 28), (3, 29), (4, 0), (5, 0), (5, 1), (5, 2), (5, 3), (6, 0), (7, 0), (8, 0), (8, 1), (8, 2), (9, 0), (9, 1), (10, 0), (10, 1), (10, 2), (11, 0), (11, 1), (11, 2), (12, 0), (12, 1), (12, 2), (13, 0), (13, 1), (13, 2), (13, 3), (13, 4), (13, 5), (13, 6), (14, 0), (14, 1), (14, 2), (14, 3), (14, 4), (14, 5), (14, 6), (15, 0), (15, 1), (15, 2), (15, 3), (16, 0), (17, 0), (18, 0), (19, 0), (20, 0), (21, 0), (22, 0), (23, 0), (24, 0), (25, 0), (26, 0), (27, 0), (28, 0), (29, 0), (30, 0), (31, 0)] from by decide +kernel]
  refine ⟨⟨rfl, Or.inl rfl⟩, ?_⟩
  refine ⟨⟨rfl, Or.inl rfl⟩, ?_⟩
  refine ⟨⟨rfl, Or.inl rfl⟩, ?_⟩
  refine ⟨⟨rfl, Or.inl rfl⟩, ?_⟩
  refine ⟨⟨rfl, Or.inl rfl⟩, ?_⟩
  refine ⟨⟨rfl, Or.inl rfl⟩, ?_⟩
  refine ⟨⟨rfl, Or.inl rfl⟩, ?_⟩
  refine ⟨⟨rfl, Or.inl rfl⟩, ?_⟩
  refine ⟨⟨rfl, Or.inl rfl⟩, ?_⟩
  refine ⟨⟨rfl, Or.inl rfl⟩, ?_⟩
  refine ⟨⟨rfl, Or.inl rfl⟩, ?_⟩
  refine ⟨⟨rfl, Or.inl rfl⟩, ?_⟩
  refine ⟨⟨rfl, Or.inl rfl⟩, ?_⟩
  refine ⟨⟨rfl, Or.inl rfl⟩, ?_⟩
  refine ⟨⟨rfl, Or.inl rfl⟩, ?_⟩
  refine ⟨⟨rfl, Or.inl rfl⟩, ?_⟩
  refine ⟨⟨rfl, Or.inl rfl⟩, ?_⟩
  refine ⟨⟨rfl, Or.inl rfl⟩, ?_⟩
  refine ⟨⟨rfl, Or.inl rfl⟩, ?_⟩
  refine ⟨⟨rfl, Or.inl rfl⟩, ?_⟩
  refine ⟨⟨rfl, Or.inl rfl⟩, ?_⟩
  refine ⟨⟨rfl, Or.inl rfl⟩, ?_⟩
  refine ⟨⟨rfl, Or.inl rfl⟩, ?_⟩
  refine ⟨⟨rfl, Or.inl rfl⟩, ?_⟩
  refine ⟨⟨rfl, Or.inl rfl⟩, ?_⟩
  refine ⟨⟨rfl, Or.inl rfl⟩, ?_⟩
  refine ⟨⟨rfl, Or.inl rfl⟩, ?_⟩
  refine ⟨⟨rfl, Or.inl rfl⟩, ?_⟩
  refine ⟨⟨rfl, Or.inl rfl⟩, ?_⟩
  refine ⟨⟨rfl, Or.inl rfl⟩, ?_⟩
  refine ⟨⟨rfl, Or.inl rfl⟩, ?_⟩
  refine ⟨⟨rfl, Or.inl rfl⟩, ?_⟩
  refine ⟨⟨rfl, Or.inl rfl⟩, ?_⟩
  refine ⟨⟨rfl, Or.inl rfl⟩, ?_⟩
  refine ⟨⟨rfl, Or.inl rfl⟩, ?_⟩
  refine ⟨⟨rfl, Or.inl rfl⟩, ?_⟩
  refine ⟨⟨rfl, Or.inl rfl⟩, ?_⟩
  refine ⟨⟨rfl, Or.inl rfl⟩, ?_⟩
  refine ⟨⟨rfl, Or.inl rfl⟩, ?_⟩
  refine ⟨⟨rfl, Or.inl rfl⟩, ?_⟩
  refine ⟨⟨rfl, Or.inl rfl⟩, ?_⟩
  refine ⟨⟨rfl, Or.inl rfl⟩, ?_⟩
  refine ⟨⟨rfl, Or.inl rfl⟩, ?_⟩
  refine ⟨⟨rfl, Or.inl rfl⟩, ?_⟩
  refine ⟨⟨rfl, Or.inl rfl⟩, ?_⟩
  refine ⟨⟨rfl, Or.inl rfl⟩, ?_⟩
  refine ⟨⟨rfl, Or.inl rfl⟩, ?_⟩
  refine ⟨⟨rfl, Or.inl rfl⟩, ?_⟩
  refine ⟨⟨rfl, Or.inl rfl⟩, ?_⟩
  refine ⟨⟨rfl, Or.inr (Or.inl ⟨_, _, _, _, rfl, rfl, fun j _ => rfl⟩)⟩, ?_⟩
  refine ⟨⟨rfl, Or.inr (Or.inl ⟨_, _, _, _, rfl, rfl, fun j _ => rfl⟩)⟩, ?_⟩
  refine ⟨⟨rfl, Or.inr (Or.inl ⟨_, _, _, _, rfl, rfl, fun j _ => rfl⟩)⟩, ?_⟩
  refine ⟨⟨rfl, Or.inr (Or.inl ⟨_, _, _, _, rfl, rfl, fun j _ => rfl⟩)⟩, ?_⟩
  refine ⟨⟨rfl, Or.inr (Or.inl ⟨_, _, _, _, rfl, rfl, fun j _ => rfl⟩)⟩, ?_⟩
  refine ⟨⟨rfl, Or.inr (Or.inl ⟨_, _, _, _, rfl, rfl, fun j hj => hf1 j hj⟩)⟩, ?_⟩
  refine ⟨⟨rfl, Or.inr (Or.inl ⟨_, _, _, _, rfl, rfl, fun j hj => hf4 j hj⟩)⟩, ?_⟩
  refine ⟨⟨rfl, Or.inr (Or.inl ⟨_, _, _, _, rfl, rfl, fun j hj => hf7 j hj⟩)⟩, ?_⟩
  refine ⟨⟨rfl, Or.inr (Or.inl ⟨_, _, _, _, rfl, rfl, fun j hj => hf2 j hj⟩)⟩, ?_⟩
  refine ⟨⟨rfl, Or.inr (Or.inl ⟨_, _, _, _, rfl, rfl, fun j hj => hf5 j hj⟩)⟩, ?_⟩
  refine ⟨⟨rfl, Or.inr (Or.inl ⟨_, _, _, _, rfl, rfl, fun j hj => hf8 j hj⟩)⟩, ?_⟩
  refine ⟨⟨rfl, Or.inr (Or.inr ⟨_, _, _, _, rfl, rfl, fun j hj => (by rcases (show j = 0 ∨ j = 1 ∨ j = 2 ∨ j = 3 ∨ j = 4 ∨ j = 5 ∨ j = 6 ∨ j = 7 ∨ j = 8 ∨ j = 9 by omega) with rfl | rfl | rfl | rfl | rfl | rfl | rfl | rfl | rfl | rfl <;> first | exact hf0.1 | exact hf0.2.1 | exact hf0.2.2.1 | exact hf0.2.2.2.1 | exact hf0.2.2.2.2.1 | exact hf0.2.2.2.2.2.1 | exact hf0.2.2.2.2.2.2.1 | exact hf0.2.2.2.2.2.2.2.1 | exact hf0.2.2.2.2.2.2.2.2.1 | exact hf0.2.2.2.2.2.2.2.2.2 )⟩)⟩, ?_⟩
  refine ⟨⟨rfl, Or.inr (Or.inr ⟨_, _, _, _, rfl, rfl, fun j hj => (by rcases (show j = 0 ∨ j = 1 ∨ j = 2 ∨ j = 3 ∨ j = 4 ∨ j = 5 ∨ j = 6 ∨ j = 7 ∨ j = 8 ∨ j = 9 by omega) with rfl | rfl | rfl | rfl | rfl | rfl | rfl | rfl | rfl | rfl <;> first | exact hf3.1 | exact hf3.2.1 | exact hf3.2.2.1 | exact hf3.2.2.2.1 | exact hf3.2.2.2.2.1 | exact hf3.2.2.2.2.2.1 | exact hf3.2.2.2.2.2.2.1 | exact hf3.2.2.2.2.2.2.2.1 | exact hf3.2.2.2.2.2.2.2.2.1 | exact hf3.2.2.2.2.2.2.2.2.2 )⟩)⟩, ?_⟩
  refine ⟨⟨rfl, Or.inr (Or.inr ⟨_, _, _, _, rfl, rfl, fun j hj => (by rcases (show j = 0 ∨ j = 1 ∨ j = 2 ∨ j = 3 ∨ j = 4 ∨ j = 5 ∨ j = 6 ∨ j = 7 ∨ j = 8 ∨ j = 9 by omega) with rfl | rfl | rfl | rfl | rfl | rfl | rfl | rfl | rfl | rfl <;> first | exact hf6.1 | exact hf6.2.1 | exact hf6.2.2.1 | exact hf6.2.2.2.1 | exact hf6.2.2.2.2.1 | exact hf6.2.2.2.2.2.1 | exact hf6.2.2.2.2.2.2.1 | exact hf6.2.2.2.2.2.2.2.1 | exact hf6.2.2.2.2.2.2.2.2.1 | exact hf6.2.2.2.2.2.2.2.2.2 )⟩)⟩, ?_⟩
  refine ⟨⟨rfl, Or.inr (Or.inl ⟨_, _, _, _, rfl, rfl, fun j _ => rfl⟩)⟩, ?_⟩
  refine ⟨⟨rfl, Or.inr (Or.inl ⟨_, _, _, _, rfl, rfl, fun j _ => rfl⟩)⟩, ?_⟩
  refine ⟨⟨rfl, Or.inr (Or.inl ⟨_, _, _, _, rfl, rfl, fun j _ => rfl⟩)⟩, ?_⟩
  refine ⟨⟨rfl, Or.inr (Or.inl ⟨_, _, _, _, rfl, rfl, fun j _ => rfl⟩)⟩, ?_⟩
  refine ⟨⟨rfl, Or.inr (Or.inl ⟨_, _, _, _, rfl, rfl, fun j _ => rfl⟩)⟩, ?_⟩
  refine ⟨⟨rfl, Or.inr (Or.inl ⟨_, _, _, _, rfl, rfl, fun j _ => rfl⟩)⟩, ?_⟩
  refine ⟨⟨rfl, Or.inr (Or.inl ⟨_, _, _, _, rfl, rfl, fun j _ => rfl⟩)⟩, ?_⟩
  refine ⟨⟨rfl, Or.inr (Or.inl ⟨_, _, _, _, rfl, rfl, fun j _ => rfl⟩)⟩, ?_⟩
  refine ⟨⟨rfl, Or.inr (Or.inl ⟨_, _, _, _, rfl, rfl, fun j _ => rfl⟩)⟩, ?_⟩
  refine ⟨⟨rfl, Or.inr (Or.inl ⟨_, _, _, _, rfl, rfl, fun j _ => rfl⟩)⟩, ?_⟩
  refine ⟨⟨rfl, Or.inr (Or.inl ⟨_, _, _, _, rfl, rfl, fun j _ => rfl⟩)⟩, ?_⟩
  refine ⟨⟨rfl, Or.inr (Or.inl ⟨_, _, _, _, rfl, rfl, fun j _ => rfl⟩)⟩, ?_⟩
  refine ⟨⟨rfl, Or.inr (Or.inl ⟨_, _, _, _, rfl, rfl, fun j _ => rfl⟩)⟩, ?_⟩
  refine ⟨⟨rfl, Or.inr (Or.inl ⟨_, _, _, _, rfl, rfl, fun j _ => rfl⟩)⟩, ?_⟩
  refine ⟨⟨rfl, Or.inr (Or.inl ⟨_, _, _, _, rfl, rfl, fun j _ => rfl⟩)⟩, ?_⟩
  refine ⟨⟨rfl, Or.inr (Or.inl ⟨_, _, _, _, rfl, rfl, fun j _ => rfl⟩)⟩, ?_⟩
  refine ⟨⟨rfl, Or.inr (Or.inl ⟨_, _, _, _, rfl, rfl, fun j _ => rfl⟩)⟩, ?_⟩
  refine ⟨⟨rfl, Or.inr (Or.inl ⟨_, _, _, _, rfl, rfl, fun j _ => rfl⟩)⟩, ?_⟩
  refine ⟨⟨rfl, Or.inr (Or.inl ⟨_, _, _, _, rfl, rfl, fun j _ => rfl⟩)⟩, ?_⟩
  refine ⟨⟨rfl, Or.inr (Or.inr ⟨_, _, _, _, rfl, rfl, fun j hj => (by rcases (show j = 0 ∨ j = 1 ∨ j = 2 ∨ j = 3 by omega) with rfl | rfl | rfl | rfl <;> first | exact hf9.1 | exact hf9.2.1 | exact hf9.2.2.1 | exact hf9.2.2.2 )⟩)⟩, ?_⟩
  refine ⟨⟨rfl, Or.inr (Or.inl ⟨_, _, _, _, rfl, rfl, fun j _ => rfl⟩)⟩, ?_⟩
  refine ⟨⟨rfl, Or.inl rfl⟩, ?_⟩
  refine ⟨⟨rfl, Or.inr (Or.inl ⟨_, _, _, _, rfl, rfl, fun j _ => hg j⟩)⟩, ?_⟩
  refine ⟨⟨rfl, Or.inr (Or.inl ⟨_, _, _, _, rfl, rfl, fun j _ => rfl⟩)⟩, ?_⟩
  refine ⟨⟨rfl, Or.inr (Or.inl ⟨_, _, _, _, rfl, rfl, fun j _ => rfl⟩)⟩, ?_⟩
  refine ⟨⟨rfl, Or.inr (Or.inl ⟨_, _, _, _, rfl, rfl, fun j _ => rfl⟩)⟩, ?_⟩
  refine ⟨⟨rfl, Or.inr (Or.inl ⟨_, _, _, _, rfl, rfl, fun j _ => rfl⟩)⟩, ?_⟩
  refine ⟨⟨rfl, Or.inr (Or.inl ⟨_, _, _, _, rfl, rfl, fun j _ => rfl⟩)⟩, ?_⟩
  refine ⟨⟨rfl, Or.inr (Or.inl ⟨_, _, _, _, rfl, rfl, fun j _ => rfl⟩)⟩, ?_⟩
  refine ⟨⟨rfl, Or.inr (Or.inl ⟨_, _, _, _, rfl, rfl, fun j _ => rfl⟩)⟩, ?_⟩
  refine ⟨⟨rfl, Or.inr (Or.inl ⟨_, _, _, _, rfl, rfl, fun j _ => rfl⟩)⟩, ?_⟩
  refine ⟨⟨rfl, Or.inr (Or.inl ⟨_, _, _, _, rfl, rfl, fun j _ => rfl⟩)⟩, ?_⟩
  refine ⟨⟨rfl, Or.inr (Or.inl ⟨_, _, _, _, rfl, rfl, fun j _ => rfl⟩)⟩, ?_⟩
  refine ⟨⟨rfl, Or.inr (Or.inl ⟨_, _, _, _, rfl, rfl, fun j _ => rfl⟩)⟩, trivial⟩
