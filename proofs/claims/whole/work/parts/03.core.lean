def nestL : List Cond := [.methodLinkNest RX1 88 ⟨"PotHandles", "isHouse", "(I)Z"⟩ "PotHandles", .methodLinkNest RX6 48 ⟨"PotHandles", "kindAbove", "(I)I"⟩ "PotHandles"]
def TB : List Cond := lw_tbl.filter goodWord
/-- a method: its class, its name, its bytes, its locals, what it returns -/
abbrev MT : Type := String × MethodName × ByteArray × Nat × Option FieldType
def wsM (t : MT) : List Cond := Cond.code t.2.1 t.2.2.1 t.2.2.2.1 t.2.2.2.2 :: TB
def roomD (d : Nat) : Room := { frames := d, cells := 0, slots := 0, locals := 64 * d }
def CtxG (t : MT) (d : Nat) (p : Program) (R : Room) (s : State) (m : MethodId) (args : Array Value) (c : Code) (cells slots : Nat) (A : Nat → Prop) (H0 : Heap) (ad : Nat → Nat → Nat) (cA : Nat → ClassId) (D : va_G) : Prop :=
  p.tables.exec = Jvm.exec ∧ c.code = t.2.2.1 ∧ c.maxLocals = t.2.2.2.1 ∧ s.vm.findClass t.1 = some m.cls ∧ (∀ w ∈ TB, w.before args s = true) ∧ (∀ w ∈ nestL, va_Nw w s) ∧ va_K D vwCl (tysA cA) s ∧ d ≤ R.frames ∧ 64 * d ≤ R.locals ∧ cells ≤ R.cells ∧ slots ≤ R.slots ∧ (∀ q : Nat, H0.size ≤ q → A q) ∧ (∀ M, va_D A (world ad cA M))
def retI (r : Option AV) : Instr := match r with
  | none => .return_
  | some (.inl _) => .ireturn
  | some (.inr (.inl _)) => .lreturn
  | some (.inr (.inr _)) => .areturn
def retOK (ret : Option FieldType) (r : Option AV) : Prop := match ret, r with
  | none, none => True
  | some .int, some (.inl _) => True
  | some .boolean, some (.inl v) => v = 0 ∨ v = 1
  | some (.object _), some (.inr (.inr _)) => True
  | _, _ => False
def FinG (t : MT) (p : Program) (l : Launch) (e : Env) (R : Room) (s : State) (m : MethodId) (args : Array Value) (below : List Frame) (meth : Method) (c : Code) (cells slots : Nat) (A : Nat → Prop) (H0 : Heap) (ad : Nat → Nat → Nat) (cA : Nat → ClassId) (D : va_G) (Q : State → Prop) (r : Option AV) (M' : MM) : Prop :=
  ∀ (H : Heap) (locs : List Loc) (ls : Array Slot) (pc : Nat), va_P D vwCl (world ad cA M') H → va_S A H0 H locs → decode t.2.2.1 pc = .ok (retI r, 1) → retOK t.2.2.2.2 r →
    W p l e R s m args below meth c H locs cells slots Q (F0 m pc ls (r.toList.map (cv ad)))
abbrev CtxX : Type := State → (Nat → Prop) → Heap → (Nat → Nat → Nat) → Prop
/-- at a place of a method, with these locals, this stack, this memory: it comes to its end, with this answer and this memory -/
def GX (X : CtxX) (t : MT) (d : Nat) (r : Option AV) (M' : MM) (pc : Nat) (L : List (Nat × AV)) (st : List AV) (M : MM) : Prop :=
  ∀ (p : Program) (l : Launch) (e : Env) (R : Room) (s : State) (m : MethodId) (args : Array Value) (below : List Frame) (meth : Method) (c : Code) (cells slots : Nat) (A : Nat → Prop) (H0 : Heap) (ad : Nat → Nat → Nat) (cA : Nat → ClassId) (D : va_G) (Q : State → Prop),
    CtxG t d p R s m args c cells slots A H0 ad cA D → X s A H0 ad → FinG t p l e R s m args below meth c cells slots A H0 ad cA D Q r M' →
    ∀ (H : Heap) (locs : List Loc) (ls : Array Slot), lv_has ls t.2.2.2.1 (L.map fun q => (q.1, cv ad q.2)) → va_P D vwCl (world ad cA M) H → va_S A H0 H locs →
      W p l e R s m args below meth c H locs cells slots Q (F0 m pc ls (st.map (cv ad)))
abbrev G (t : MT) (d : Nat) (r : Option AV) (M' : MM) (pc : Nat) (L : List (Nat × AV)) (st : List AV) (M : MM) : Prop := GX (fun _ _ _ _ => True) t d r M' pc L st M
def av2 (v : AV) : Bool := match v with
  | .inr (.inl _) => true
  | _ => false
def lset (i : Nat) (v : AV) (L : List (Nat × AV)) : List (Nat × AV) := (i, v) :: L.filter (fun q => !(q.1 == i) && !(q.1 + 1 == i && av2 q.2))
theorem lget {ad : Nat → Nat → Nat} {ls : Array Slot} {n : Nat} {L : List (Nat × AV)} (h : lv_has ls n (L.map fun q => (q.1, cv ad q.2))) {i : Nat} {v : AV} (hv : L.lookup i = some v) : ls[i]? = some (.val (cv ad v)) := by
  have hm : (i, v) ∈ L := by
    induction L with
    | nil => simp at hv
    | cons a L ih =>
      obtain ⟨j, w⟩ := a
      rw [List.lookup_cons] at hv
      by_cases hij : (i == j) = true
      · rw [hij] at hv
        simp only [Option.some.injEq] at hv
        have := eq_of_beq hij
        subst this; subst hv
        exact List.mem_cons_self
      · rw [Bool.not_eq_true] at hij
        rw [hij] at hv
        refine List.mem_cons_of_mem _ (ih ⟨h.1, h.2.1, fun q hq => h.2.2 q ?_⟩ hv)
        exact List.mem_cons_of_mem _ hq
  exact h.2.2 (i, cv ad v) (List.mem_map.mpr ⟨(i, v), hm, rfl⟩)
theorem av2_cat {ad : Nat → Nat → Nat} (v : AV) : ((cv ad v).category == 2) = av2 v := by
  rcases v with x | y | q <;> rfl
theorem lset_map {ad : Nat → Nat → Nat} (i : Nat) (v : AV) (L : List (Nat × AV)) : (i, cv ad v) :: (L.map fun q => (q.1, cv ad q.2)).filter (fun q => !(q.1 == i) && !(q.1 + 1 == i && q.2.category == 2)) = (lset i v L).map (fun q => (q.1, cv ad q.2)) := by
  unfold lset
  rw [List.map_cons, List.filter_map]
  congr 2
  apply List.filter_congr
  intro q _
  show (!(q.1 == i) && !(q.1 + 1 == i && ((cv ad q.2).category == 2))) = _
  rw [av2_cat]
/-- fewer locals, or in another order -/
theorem G_sub {X : CtxX} {t : MT} {d : Nat} {r : Option AV} {M' : MM} {pc : Nat} {L : List (Nat × AV)} {st : List AV} {M : MM} (L2 : List (Nat × AV)) (ks : List Nat) (h : ks.filterMap (fun k => L[k]?) = L2) (k : GX X t d r M' pc L2 st M) : GX X t d r M' pc L st M := by
  intro p l e R s m args below meth c cells slots A H0 ad cA D Q C Xh F H locs ls hl hP hS
  refine k p l e R s m args below meth c cells slots A H0 ad cA D Q C Xh F H locs ls (lv_sub hl ks ?_) hP hS
  subst h
  unfold lv_pick
  rw [List.map_filterMap]
  congr 1
  funext j
  rw [List.getElem?_map]
section ONE
variable {X : CtxX} {t : MT} {d : Nat} {r : Option AV} {M' : MM} {pc : Nat} {L L2 : List (Nat × AV)} {st : List AV} {M : MM}
theorem G_iconst {n : Int} {v : Int32} (hdg : decode t.2.2.1 pc = .ok (.iconst n, 1)) (hv : Int32.ofInt n = v) (k : GX X t d r M' (pc + 1) L (.inl v :: st) M) : GX X t d r M' pc L st M := by
  intro p l e R s m args below meth c cells slots A H0 ad cA D Q C Xh F H locs ls hl hP hS
  exact lv_iconst C.1 C.2.1 hdg hv (k p l e R s m args below meth c cells slots A H0 ad cA D Q C Xh F H locs ls hl hP hS)
theorem G_bipush {n : Int} {v : Int32} (hdg : decode t.2.2.1 pc = .ok (.bipush n, 2)) (hv : (Int8.ofInt n).toInt32 = v) (k : GX X t d r M' (pc + 2) L (.inl v :: st) M) : GX X t d r M' pc L st M := by
  intro p l e R s m args below meth c cells slots A H0 ad cA D Q C Xh F H locs ls hl hP hS
  exact lv_bipush C.1 C.2.1 hdg hv (k p l e R s m args below meth c cells slots A H0 ad cA D Q C Xh F H locs ls hl hP hS)
theorem G_sipush {n : Int} {v : Int32} (hdg : decode t.2.2.1 pc = .ok (.sipush n, 3)) (hv : (Int16.ofInt n).toInt32 = v) (k : GX X t d r M' (pc + 3) L (.inl v :: st) M) : GX X t d r M' pc L st M := by
  intro p l e R s m args below meth c cells slots A H0 ad cA D Q C Xh F H locs ls hl hP hS
  exact lv_sipush C.1 C.2.1 hdg hv (k p l e R s m args below meth c cells slots A H0 ad cA D Q C Xh F H locs ls hl hP hS)
theorem G_lconst {n : Fin 2} {v : Int64} (hdg : decode t.2.2.1 pc = .ok (.lconst n, 1)) (hv : Int64.ofNat (n : Nat) = v) (k : GX X t d r M' (pc + 1) L (.inr (.inl v) :: st) M) : GX X t d r M' pc L st M := by
  intro p l e R s m args below meth c cells slots A H0 ad cA D Q C Xh F H locs ls hl hP hS
  exact lv_lconst C.1 C.2.1 hdg hv (k p l e R s m args below meth c cells slots A H0 ad cA D Q C Xh F H locs ls hl hP hS)
theorem G_ldc {i : Nat} {v : Int32} (hw : Cond.constant t.1 i v ∈ TB) (hdg : decode t.2.2.1 pc = .ok (.ldc i, 2)) (k : GX X t d r M' (pc + 2) L (.inl v :: st) M) : GX X t d r M' pc L st M := by
  intro p l e R s m args below meth c cells slots A H0 ad cA D Q C Xh F H locs ls hl hP hS
  exact lv_ldc C.1 C.2.1 C.2.2.2.1 (C.2.2.2.2.1 _ hw) hdg (k p l e R s m args below meth c cells slots A H0 ad cA D Q C Xh F H locs ls hl hP hS)
theorem G_ldcw {i : Nat} {v : Int32} (hw : Cond.constant t.1 i v ∈ TB) (hdg : decode t.2.2.1 pc = .ok (.ldc_w i, 3)) (k : GX X t d r M' (pc + 3) L (.inl v :: st) M) : GX X t d r M' pc L st M := by
  intro p l e R s m args below meth c cells slots A H0 ad cA D Q C Xh F H locs ls hl hP hS
  exact lv_ldcw C.1 C.2.1 C.2.2.2.1 (C.2.2.2.2.1 _ hw) hdg (k p l e R s m args below meth c cells slots A H0 ad cA D Q C Xh F H locs ls hl hP hS)
theorem G_ldc2 {i : Nat} {v : Int64} (hw : Cond.constantLong t.1 i v ∈ TB) (hdg : decode t.2.2.1 pc = .ok (.ldc2_w i, 3)) (k : GX X t d r M' (pc + 3) L (.inr (.inl v) :: st) M) : GX X t d r M' pc L st M := by
  intro p l e R s m args below meth c cells slots A H0 ad cA D Q C Xh F H locs ls hl hP hS
  exact lv_ldc2 C.1 C.2.1 C.2.2.2.1 (C.2.2.2.2.1 _ hw) hdg (k p l e R s m args below meth c cells slots A H0 ad cA D Q C Xh F H locs ls hl hP hS)
theorem G_iload_n {k0 : Fin 4} {x : Int32} (hdg : decode t.2.2.1 pc = .ok (.iload_n k0, 1)) (hx : L.lookup (k0 : Nat) = some (.inl x)) (k : GX X t d r M' (pc + 1) L (.inl x :: st) M) : GX X t d r M' pc L st M := by
  intro p l e R s m args below meth c cells slots A H0 ad cA D Q C Xh F H locs ls hl hP hS
  exact lv_iload_n C.1 C.2.1 hdg rfl (lget hl hx) (k p l e R s m args below meth c cells slots A H0 ad cA D Q C Xh F H locs ls hl hP hS)
theorem G_iload {i : Nat} {x : Int32} (hdg : decode t.2.2.1 pc = .ok (.iload i, 2)) (hx : L.lookup i = some (.inl x)) (k : GX X t d r M' (pc + 2) L (.inl x :: st) M) : GX X t d r M' pc L st M := by
  intro p l e R s m args below meth c cells slots A H0 ad cA D Q C Xh F H locs ls hl hP hS
  exact lv_iload C.1 C.2.1 hdg (lget hl hx) (k p l e R s m args below meth c cells slots A H0 ad cA D Q C Xh F H locs ls hl hP hS)
theorem G_lload_n {k0 : Fin 4} {x : Int64} (hdg : decode t.2.2.1 pc = .ok (.lload_n k0, 1)) (hx : L.lookup (k0 : Nat) = some (.inr (.inl x))) (k : GX X t d r M' (pc + 1) L (.inr (.inl x) :: st) M) : GX X t d r M' pc L st M := by
  intro p l e R s m args below meth c cells slots A H0 ad cA D Q C Xh F H locs ls hl hP hS
  exact lv_lload_n C.1 C.2.1 hdg rfl (lget hl hx) (k p l e R s m args below meth c cells slots A H0 ad cA D Q C Xh F H locs ls hl hP hS)
theorem G_lload {i : Nat} {x : Int64} (hdg : decode t.2.2.1 pc = .ok (.lload i, 2)) (hx : L.lookup i = some (.inr (.inl x))) (k : GX X t d r M' (pc + 2) L (.inr (.inl x) :: st) M) : GX X t d r M' pc L st M := by
  intro p l e R s m args below meth c cells slots A H0 ad cA D Q C Xh F H locs ls hl hP hS
  exact lv_lload C.1 C.2.1 hdg (lget hl hx) (k p l e R s m args below meth c cells slots A H0 ad cA D Q C Xh F H locs ls hl hP hS)
theorem G_aload_n {k0 : Fin 4} {q : Nat × Nat} (hdg : decode t.2.2.1 pc = .ok (.aload_n k0, 1)) (hx : L.lookup (k0 : Nat) = some (.inr (.inr q))) (k : GX X t d r M' (pc + 1) L (.inr (.inr q) :: st) M) : GX X t d r M' pc L st M := by
  intro p l e R s m args below meth c cells slots A H0 ad cA D Q C Xh F H locs ls hl hP hS
  exact lv_aload_n C.1 C.2.1 hdg rfl (lget hl hx) (k p l e R s m args below meth c cells slots A H0 ad cA D Q C Xh F H locs ls hl hP hS)
theorem G_aload {i : Nat} {q : Nat × Nat} (hdg : decode t.2.2.1 pc = .ok (.aload i, 2)) (hx : L.lookup i = some (.inr (.inr q))) (k : GX X t d r M' (pc + 2) L (.inr (.inr q) :: st) M) : GX X t d r M' pc L st M := by
  intro p l e R s m args below meth c cells slots A H0 ad cA D Q C Xh F H locs ls hl hP hS
  exact lv_aload C.1 C.2.1 hdg (lget hl hx) (k p l e R s m args below meth c cells slots A H0 ad cA D Q C Xh F H locs ls hl hP hS)
theorem G_istore_n {k0 : Fin 4} {x : Int32} (hdg : decode t.2.2.1 pc = .ok (.istore_n k0, 1)) (hn : (k0 : Nat) < t.2.2.2.1) (hL : lset (k0 : Nat) (.inl x) L = L2) (k : GX X t d r M' (pc + 1) L2 st M) : GX X t d r M' pc L (.inl x :: st) M := by
  intro p l e R s m args below meth c cells slots A H0 ad cA D Q C Xh F H locs ls hl hP hS
  subst hL
  exact lv_istore_n C.1 C.2.1 hdg rfl hl hn (lset_map (ad := ad) _ (.inl x) L) (fun ls hl => k p l e R s m args below meth c cells slots A H0 ad cA D Q C Xh F H locs ls hl hP hS)
theorem G_istore {i : Nat} {x : Int32} (hdg : decode t.2.2.1 pc = .ok (.istore i, 2)) (hn : i < t.2.2.2.1) (hL : lset i (.inl x) L = L2) (k : GX X t d r M' (pc + 2) L2 st M) : GX X t d r M' pc L (.inl x :: st) M := by
  intro p l e R s m args below meth c cells slots A H0 ad cA D Q C Xh F H locs ls hl hP hS
  subst hL
  exact lv_istore C.1 C.2.1 hdg hl hn (lset_map (ad := ad) _ (.inl x) L) (fun ls hl => k p l e R s m args below meth c cells slots A H0 ad cA D Q C Xh F H locs ls hl hP hS)
theorem G_astore_n {k0 : Fin 4} {q : Nat × Nat} (hdg : decode t.2.2.1 pc = .ok (.astore_n k0, 1)) (hn : (k0 : Nat) < t.2.2.2.1) (hL : lset (k0 : Nat) (.inr (.inr q)) L = L2) (k : GX X t d r M' (pc + 1) L2 st M) : GX X t d r M' pc L (.inr (.inr q) :: st) M := by
  intro p l e R s m args below meth c cells slots A H0 ad cA D Q C Xh F H locs ls hl hP hS
  subst hL
  exact lv_astore_n C.1 C.2.1 hdg rfl hl hn (lset_map (ad := ad) _ (.inr (.inr q)) L) (fun ls hl => k p l e R s m args below meth c cells slots A H0 ad cA D Q C Xh F H locs ls hl hP hS)
theorem G_astore {i : Nat} {q : Nat × Nat} (hdg : decode t.2.2.1 pc = .ok (.astore i, 2)) (hn : i < t.2.2.2.1) (hL : lset i (.inr (.inr q)) L = L2) (k : GX X t d r M' (pc + 2) L2 st M) : GX X t d r M' pc L (.inr (.inr q) :: st) M := by
  intro p l e R s m args below meth c cells slots A H0 ad cA D Q C Xh F H locs ls hl hP hS
  subst hL
  exact lv_astore C.1 C.2.1 hdg hl hn (lset_map (ad := ad) _ (.inr (.inr q)) L) (fun ls hl => k p l e R s m args below meth c cells slots A H0 ad cA D Q C Xh F H locs ls hl hP hS)
theorem G_iinc {i : Nat} {n : Int} {x v : Int32} (hdg : decode t.2.2.1 pc = .ok (.iinc i n, 3)) (hx : L.lookup i = some (.inl x)) (hv : x + Int32.ofInt n = v) (hn : i < t.2.2.2.1) (hL : lset i (.inl v) L = L2) (k : GX X t d r M' (pc + 3) L2 st M) : GX X t d r M' pc L st M := by
  intro p l e R s m args below meth c cells slots A H0 ad cA D Q C Xh F H locs ls hl hP hS
  subst hL
  have hm : ∃ j : Nat, L[j]? = some (i, (Sum.inl x : AV)) := by
    have h1 := hx
    clear k hl
    induction L with
    | nil => simp at h1
    | cons a L ih =>
      obtain ⟨j, w⟩ := a
      rw [List.lookup_cons] at h1
      by_cases hij : (i == j) = true
      · rw [hij] at h1
        simp only [Option.some.injEq] at h1
        have := eq_of_beq hij
        subst this; subst h1
        exact ⟨0, rfl⟩
      · rw [Bool.not_eq_true] at hij
        rw [hij] at h1
        obtain ⟨j2, h2⟩ := ih h1 h1
        exact ⟨j2 + 1, h2⟩
  obtain ⟨j, hj⟩ := hm
  exact lv_iinc C.1 C.2.1 hdg hl (k := j) (by rw [List.getElem?_map, hj]; rfl) hv hn (lset_map (ad := ad) _ (.inl v) L) (fun ls hl => k p l e R s m args below meth c cells slots A H0 ad cA D Q C Xh F H locs ls hl hP hS)
theorem av1_cat {ad : Nat → Nat → Nat} {v : AV} (h : av2 v = false) : (cv ad v).category = 1 := by
  rcases v with x | y | q
  · rfl
  · cases h
  · rfl
def jrem (x y : Int32) : Int32 := x - x / y * y
theorem G_iadd {x y : Int32} (hdg : decode t.2.2.1 pc = .ok (.iadd, 1)) (k : GX X t d r M' (pc + 1) L (.inl (x + y) :: st) M) : GX X t d r M' pc L (.inl y :: .inl x :: st) M := by
  intro p l e R s m args below meth c cells slots A H0 ad cA D Q C Xh F H locs ls hl hP hS
  exact lv_iadd C.1 C.2.1 hdg (k p l e R s m args below meth c cells slots A H0 ad cA D Q C Xh F H locs ls hl hP hS)
theorem G_isub {x y : Int32} (hdg : decode t.2.2.1 pc = .ok (.isub, 1)) (k : GX X t d r M' (pc + 1) L (.inl (x - y) :: st) M) : GX X t d r M' pc L (.inl y :: .inl x :: st) M := by
  intro p l e R s m args below meth c cells slots A H0 ad cA D Q C Xh F H locs ls hl hP hS
  exact lv_isub C.1 C.2.1 hdg (k p l e R s m args below meth c cells slots A H0 ad cA D Q C Xh F H locs ls hl hP hS)
theorem G_imul {x y : Int32} (hdg : decode t.2.2.1 pc = .ok (.imul, 1)) (k : GX X t d r M' (pc + 1) L (.inl (x * y) :: st) M) : GX X t d r M' pc L (.inl y :: .inl x :: st) M := by
  intro p l e R s m args below meth c cells slots A H0 ad cA D Q C Xh F H locs ls hl hP hS
  exact lv_imul C.1 C.2.1 hdg (k p l e R s m args below meth c cells slots A H0 ad cA D Q C Xh F H locs ls hl hP hS)
theorem G_iand {x y : Int32} (hdg : decode t.2.2.1 pc = .ok (.iand, 1)) (k : GX X t d r M' (pc + 1) L (.inl (x &&& y) :: st) M) : GX X t d r M' pc L (.inl y :: .inl x :: st) M := by
  intro p l e R s m args below meth c cells slots A H0 ad cA D Q C Xh F H locs ls hl hP hS
  exact lv_iand C.1 C.2.1 hdg (k p l e R s m args below meth c cells slots A H0 ad cA D Q C Xh F H locs ls hl hP hS)
theorem G_ior {x y : Int32} (hdg : decode t.2.2.1 pc = .ok (.ior, 1)) (k : GX X t d r M' (pc + 1) L (.inl (x ||| y) :: st) M) : GX X t d r M' pc L (.inl y :: .inl x :: st) M := by
  intro p l e R s m args below meth c cells slots A H0 ad cA D Q C Xh F H locs ls hl hP hS
  exact lv_ior C.1 C.2.1 hdg (k p l e R s m args below meth c cells slots A H0 ad cA D Q C Xh F H locs ls hl hP hS)
theorem G_ixor {x y : Int32} (hdg : decode t.2.2.1 pc = .ok (.ixor, 1)) (k : GX X t d r M' (pc + 1) L (.inl (x ^^^ y) :: st) M) : GX X t d r M' pc L (.inl y :: .inl x :: st) M := by
  intro p l e R s m args below meth c cells slots A H0 ad cA D Q C Xh F H locs ls hl hP hS
  exact lv_ixor C.1 C.2.1 hdg (k p l e R s m args below meth c cells slots A H0 ad cA D Q C Xh F H locs ls hl hP hS)
theorem G_ishl {x y : Int32} (hdg : decode t.2.2.1 pc = .ok (.ishl, 1)) (k : GX X t d r M' (pc + 1) L (.inl (x <<< (y &&& 31)) :: st) M) : GX X t d r M' pc L (.inl y :: .inl x :: st) M := by
  intro p l e R s m args below meth c cells slots A H0 ad cA D Q C Xh F H locs ls hl hP hS
  exact lv_ishl C.1 C.2.1 hdg (k p l e R s m args below meth c cells slots A H0 ad cA D Q C Xh F H locs ls hl hP hS)
theorem G_ishr {x y : Int32} (hdg : decode t.2.2.1 pc = .ok (.ishr, 1)) (k : GX X t d r M' (pc + 1) L (.inl (x >>> (y &&& 31)) :: st) M) : GX X t d r M' pc L (.inl y :: .inl x :: st) M := by
  intro p l e R s m args below meth c cells slots A H0 ad cA D Q C Xh F H locs ls hl hP hS
  exact lv_ishr C.1 C.2.1 hdg (k p l e R s m args below meth c cells slots A H0 ad cA D Q C Xh F H locs ls hl hP hS)
theorem G_idiv {x y : Int32} (hne : ¬ y = 0) (hdg : decode t.2.2.1 pc = .ok (.idiv, 1)) (k : GX X t d r M' (pc + 1) L (.inl (x / y) :: st) M) : GX X t d r M' pc L (.inl y :: .inl x :: st) M := by
  intro p l e R s m args below meth c cells slots A H0 ad cA D Q C Xh F H locs ls hl hP hS
  exact lv_idiv C.1 C.2.1 hdg hne (k p l e R s m args below meth c cells slots A H0 ad cA D Q C Xh F H locs ls hl hP hS)
theorem G_irem {x y : Int32} (hne : ¬ y = 0) (hdg : decode t.2.2.1 pc = .ok (.irem, 1)) (k : GX X t d r M' (pc + 1) L (.inl (jrem x y) :: st) M) : GX X t d r M' pc L (.inl y :: .inl x :: st) M := by
  intro p l e R s m args below meth c cells slots A H0 ad cA D Q C Xh F H locs ls hl hP hS
  exact lv_irem C.1 C.2.1 hdg hne (k p l e R s m args below meth c cells slots A H0 ad cA D Q C Xh F H locs ls hl hP hS)
def jushr (x y : Int32) : Int32 := (x.toUInt32 >>> (y.toUInt32 &&& Int32.toUInt32 31)).toInt32
def jlushr (x : Int64) (y : Int32) : Int64 := (x.toUInt64 >>> (y.toInt64.toUInt64 &&& Int64.toUInt64 63)).toInt64
theorem G_iushr {x y : Int32} (hdg : decode t.2.2.1 pc = .ok (.iushr, 1)) (k : GX X t d r M' (pc + 1) L (.inl (jushr x y) :: st) M) : GX X t d r M' pc L (.inl y :: .inl x :: st) M := by
  intro p l e R s m args below meth c cells slots A H0 ad cA D Q C Xh F H locs ls hl hP hS
  exact lv_iushr C.1 C.2.1 hdg rfl (k p l e R s m args below meth c cells slots A H0 ad cA D Q C Xh F H locs ls hl hP hS)
theorem G_ineg {x : Int32} (hdg : decode t.2.2.1 pc = .ok (.ineg, 1)) (k : GX X t d r M' (pc + 1) L (.inl (-x) :: st) M) : GX X t d r M' pc L (.inl x :: st) M := by
  intro p l e R s m args below meth c cells slots A H0 ad cA D Q C Xh F H locs ls hl hP hS
  exact lv_ineg C.1 C.2.1 hdg (k p l e R s m args below meth c cells slots A H0 ad cA D Q C Xh F H locs ls hl hP hS)
theorem G_i2b {x : Int32} (hdg : decode t.2.2.1 pc = .ok (.i2b, 1)) (k : GX X t d r M' (pc + 1) L (.inl (nbB x) :: st) M) : GX X t d r M' pc L (.inl x :: st) M := by
  intro p l e R s m args below meth c cells slots A H0 ad cA D Q C Xh F H locs ls hl hP hS
  exact lv_i2b C.1 C.2.1 hdg rfl (k p l e R s m args below meth c cells slots A H0 ad cA D Q C Xh F H locs ls hl hP hS)
theorem G_i2s {x : Int32} (hdg : decode t.2.2.1 pc = .ok (.i2s, 1)) (k : GX X t d r M' (pc + 1) L (.inl (x.toInt16.toInt32) :: st) M) : GX X t d r M' pc L (.inl x :: st) M := by
  intro p l e R s m args below meth c cells slots A H0 ad cA D Q C Xh F H locs ls hl hP hS
  exact lv_i2s C.1 C.2.1 hdg rfl (k p l e R s m args below meth c cells slots A H0 ad cA D Q C Xh F H locs ls hl hP hS)
theorem G_i2l {x : Int32} (hdg : decode t.2.2.1 pc = .ok (.i2l, 1)) (k : GX X t d r M' (pc + 1) L (.inr (.inl (x.toInt64)) :: st) M) : GX X t d r M' pc L (.inl x :: st) M := by
  intro p l e R s m args below meth c cells slots A H0 ad cA D Q C Xh F H locs ls hl hP hS
  exact lv_i2l C.1 C.2.1 hdg rfl (k p l e R s m args below meth c cells slots A H0 ad cA D Q C Xh F H locs ls hl hP hS)
theorem G_l2i {x : Int64} (hdg : decode t.2.2.1 pc = .ok (.l2i, 1)) (k : GX X t d r M' (pc + 1) L (.inl (x.toInt32) :: st) M) : GX X t d r M' pc L (.inr (.inl x) :: st) M := by
  intro p l e R s m args below meth c cells slots A H0 ad cA D Q C Xh F H locs ls hl hP hS
  exact lv_l2i C.1 C.2.1 hdg rfl (k p l e R s m args below meth c cells slots A H0 ad cA D Q C Xh F H locs ls hl hP hS)
theorem G_land {x y : Int64} (hdg : decode t.2.2.1 pc = .ok (.land, 1)) (k : GX X t d r M' (pc + 1) L (.inr (.inl (x &&& y)) :: st) M) : GX X t d r M' pc L (.inr (.inl y) :: .inr (.inl x) :: st) M := by
  intro p l e R s m args below meth c cells slots A H0 ad cA D Q C Xh F H locs ls hl hP hS
  exact lv_land C.1 C.2.1 hdg (k p l e R s m args below meth c cells slots A H0 ad cA D Q C Xh F H locs ls hl hP hS)
theorem G_lor {x y : Int64} (hdg : decode t.2.2.1 pc = .ok (.lor, 1)) (k : GX X t d r M' (pc + 1) L (.inr (.inl (x ||| y)) :: st) M) : GX X t d r M' pc L (.inr (.inl y) :: .inr (.inl x) :: st) M := by
  intro p l e R s m args below meth c cells slots A H0 ad cA D Q C Xh F H locs ls hl hP hS
  exact lv_lor C.1 C.2.1 hdg (k p l e R s m args below meth c cells slots A H0 ad cA D Q C Xh F H locs ls hl hP hS)
theorem G_lshl {x : Int64} {y : Int32} (hdg : decode t.2.2.1 pc = .ok (.lshl, 1)) (k : GX X t d r M' (pc + 1) L (.inr (.inl (x <<< (y.toInt64 &&& 63))) :: st) M) : GX X t d r M' pc L (.inl y :: .inr (.inl x) :: st) M := by
  intro p l e R s m args below meth c cells slots A H0 ad cA D Q C Xh F H locs ls hl hP hS
  exact lv_lshl C.1 C.2.1 hdg rfl (k p l e R s m args below meth c cells slots A H0 ad cA D Q C Xh F H locs ls hl hP hS)
theorem G_lshr {x : Int64} {y : Int32} (hdg : decode t.2.2.1 pc = .ok (.lshr, 1)) (k : GX X t d r M' (pc + 1) L (.inr (.inl (x >>> (y.toInt64 &&& 63))) :: st) M) : GX X t d r M' pc L (.inl y :: .inr (.inl x) :: st) M := by
  intro p l e R s m args below meth c cells slots A H0 ad cA D Q C Xh F H locs ls hl hP hS
  exact lv_lshr C.1 C.2.1 hdg rfl (k p l e R s m args below meth c cells slots A H0 ad cA D Q C Xh F H locs ls hl hP hS)
theorem G_lushr {x : Int64} {y : Int32} (hdg : decode t.2.2.1 pc = .ok (.lushr, 1)) (k : GX X t d r M' (pc + 1) L (.inr (.inl (jlushr x y)) :: st) M) : GX X t d r M' pc L (.inl y :: .inr (.inl x) :: st) M := by
  intro p l e R s m args below meth c cells slots A H0 ad cA D Q C Xh F H locs ls hl hP hS
  exact lv_lushr C.1 C.2.1 hdg rfl (k p l e R s m args below meth c cells slots A H0 ad cA D Q C Xh F H locs ls hl hP hS)
theorem G_lcmp {x y : Int64} (hdg : decode t.2.2.1 pc = .ok (.lcmp, 1)) (k : GX X t d r M' (pc + 1) L (.inl (lg_cmp x y) :: st) M) : GX X t d r M' pc L (.inr (.inl y) :: .inr (.inl x) :: st) M := by
  intro p l e R s m args below meth c cells slots A H0 ad cA D Q C Xh F H locs ls hl hP hS
  exact W.lcmp C.1 C.2.1 hdg (k p l e R s m args below meth c cells slots A H0 ad cA D Q C Xh F H locs ls hl hP hS)
theorem G_dup {v : AV} (h2 : av2 v = false) (hdg : decode t.2.2.1 pc = .ok (.dup, 1)) (k : GX X t d r M' (pc + 1) L (v :: v :: st) M) : GX X t d r M' pc L (v :: st) M := by
  intro p l e R s m args below meth c cells slots A H0 ad cA D Q C Xh F H locs ls hl hP hS
  exact lv_dup C.1 C.2.1 hdg (av1_cat h2) (k p l e R s m args below meth c cells slots A H0 ad cA D Q C Xh F H locs ls hl hP hS)
theorem G_dup2 {v w : AV} (h2 : av2 v = false) (h3 : av2 w = false) (hdg : decode t.2.2.1 pc = .ok (.dup2, 1)) (k : GX X t d r M' (pc + 1) L (v :: w :: v :: w :: st) M) : GX X t d r M' pc L (v :: w :: st) M := by
  intro p l e R s m args below meth c cells slots A H0 ad cA D Q C Xh F H locs ls hl hP hS
  exact lv_dup2_11 C.1 C.2.1 hdg (av1_cat h2) (av1_cat h3) (k p l e R s m args below meth c cells slots A H0 ad cA D Q C Xh F H locs ls hl hP hS)
theorem G_goto {off : Int} {tgt : Nat} (hdg : decode t.2.2.1 pc = .ok (.goto off, 3)) (ht : (pc : Int) + off = (tgt : Int)) (k : GX X t d r M' tgt L st M) : GX X t d r M' pc L st M := by
  intro p l e R s m args below meth c cells slots A H0 ad cA D Q C Xh F H locs ls hl hP hS
  exact lv_goto C.1 C.2.1 hdg ht (k p l e R s m args below meth c cells slots A H0 ad cA D Q C Xh F H locs ls hl hP hS)
theorem G_icmp_eq {x y : Int32} {off : Int} {tgt : Nat} (hdg : decode t.2.2.1 pc = .ok (.if_icmp .eq off, 3)) (ht : (pc : Int) + off = (tgt : Int)) (kt : x = y → GX X t d r M' tgt L st M) (kf : ¬ x = y → GX X t d r M' (pc + 3) L st M) : GX X t d r M' pc L (.inl y :: .inl x :: st) M := by
  intro p l e R s m args below meth c cells slots A H0 ad cA D Q C Xh F H locs ls hl hP hS
  exact lv_icmp_eq C.1 C.2.1 hdg ht (fun h => kt (h) p l e R s m args below meth c cells slots A H0 ad cA D Q C Xh F H locs ls hl hP hS) (fun h => kf (h) p l e R s m args below meth c cells slots A H0 ad cA D Q C Xh F H locs ls hl hP hS)
theorem G_if_eq {x : Int32} {off : Int} {tgt : Nat} (hdg : decode t.2.2.1 pc = .ok (.ifCond .eq off, 3)) (ht : (pc : Int) + off = (tgt : Int)) (kt : x = 0 → GX X t d r M' tgt L st M) (kf : ¬ x = 0 → GX X t d r M' (pc + 3) L st M) : GX X t d r M' pc L (.inl x :: st) M := by
  intro p l e R s m args below meth c cells slots A H0 ad cA D Q C Xh F H locs ls hl hP hS
  exact lv_if_eq C.1 C.2.1 hdg ht (fun h => kt (h) p l e R s m args below meth c cells slots A H0 ad cA D Q C Xh F H locs ls hl hP hS) (fun h => kf (h) p l e R s m args below meth c cells slots A H0 ad cA D Q C Xh F H locs ls hl hP hS)
theorem G_icmp_ne {x y : Int32} {off : Int} {tgt : Nat} (hdg : decode t.2.2.1 pc = .ok (.if_icmp .ne off, 3)) (ht : (pc : Int) + off = (tgt : Int)) (kt : ¬ x = y → GX X t d r M' tgt L st M) (kf : x = y → GX X t d r M' (pc + 3) L st M) : GX X t d r M' pc L (.inl y :: .inl x :: st) M := by
  intro p l e R s m args below meth c cells slots A H0 ad cA D Q C Xh F H locs ls hl hP hS
  exact lv_icmp_ne C.1 C.2.1 hdg ht (fun h => kt (h) p l e R s m args below meth c cells slots A H0 ad cA D Q C Xh F H locs ls hl hP hS) (fun h => kf (h) p l e R s m args below meth c cells slots A H0 ad cA D Q C Xh F H locs ls hl hP hS)
theorem G_if_ne {x : Int32} {off : Int} {tgt : Nat} (hdg : decode t.2.2.1 pc = .ok (.ifCond .ne off, 3)) (ht : (pc : Int) + off = (tgt : Int)) (kt : ¬ x = 0 → GX X t d r M' tgt L st M) (kf : x = 0 → GX X t d r M' (pc + 3) L st M) : GX X t d r M' pc L (.inl x :: st) M := by
  intro p l e R s m args below meth c cells slots A H0 ad cA D Q C Xh F H locs ls hl hP hS
  exact lv_if_ne C.1 C.2.1 hdg ht (fun h => kt (h) p l e R s m args below meth c cells slots A H0 ad cA D Q C Xh F H locs ls hl hP hS) (fun h => kf (h) p l e R s m args below meth c cells slots A H0 ad cA D Q C Xh F H locs ls hl hP hS)
theorem G_icmp_lt {x y : Int32} {off : Int} {tgt : Nat} (hdg : decode t.2.2.1 pc = .ok (.if_icmp .lt off, 3)) (ht : (pc : Int) + off = (tgt : Int)) (kt : x < y → GX X t d r M' tgt L st M) (kf : ¬ x < y → GX X t d r M' (pc + 3) L st M) : GX X t d r M' pc L (.inl y :: .inl x :: st) M := by
  intro p l e R s m args below meth c cells slots A H0 ad cA D Q C Xh F H locs ls hl hP hS
  exact lv_icmp_lt C.1 C.2.1 hdg ht (fun h => kt (h) p l e R s m args below meth c cells slots A H0 ad cA D Q C Xh F H locs ls hl hP hS) (fun h => kf (h) p l e R s m args below meth c cells slots A H0 ad cA D Q C Xh F H locs ls hl hP hS)
theorem G_if_lt {x : Int32} {off : Int} {tgt : Nat} (hdg : decode t.2.2.1 pc = .ok (.ifCond .lt off, 3)) (ht : (pc : Int) + off = (tgt : Int)) (kt : x < 0 → GX X t d r M' tgt L st M) (kf : ¬ x < 0 → GX X t d r M' (pc + 3) L st M) : GX X t d r M' pc L (.inl x :: st) M := by
  intro p l e R s m args below meth c cells slots A H0 ad cA D Q C Xh F H locs ls hl hP hS
  exact lv_if_lt C.1 C.2.1 hdg ht (fun h => kt (h) p l e R s m args below meth c cells slots A H0 ad cA D Q C Xh F H locs ls hl hP hS) (fun h => kf (h) p l e R s m args below meth c cells slots A H0 ad cA D Q C Xh F H locs ls hl hP hS)
theorem G_icmp_ge {x y : Int32} {off : Int} {tgt : Nat} (hdg : decode t.2.2.1 pc = .ok (.if_icmp .ge off, 3)) (ht : (pc : Int) + off = (tgt : Int)) (kt : ¬ x < y → GX X t d r M' tgt L st M) (kf : x < y → GX X t d r M' (pc + 3) L st M) : GX X t d r M' pc L (.inl y :: .inl x :: st) M := by
  intro p l e R s m args below meth c cells slots A H0 ad cA D Q C Xh F H locs ls hl hP hS
  exact lv_icmp_ge C.1 C.2.1 hdg ht (fun h => kt (Int32.not_lt.mpr h) p l e R s m args below meth c cells slots A H0 ad cA D Q C Xh F H locs ls hl hP hS) (fun h => kf (Int32.not_le.mp h) p l e R s m args below meth c cells slots A H0 ad cA D Q C Xh F H locs ls hl hP hS)
theorem G_if_ge {x : Int32} {off : Int} {tgt : Nat} (hdg : decode t.2.2.1 pc = .ok (.ifCond .ge off, 3)) (ht : (pc : Int) + off = (tgt : Int)) (kt : ¬ x < 0 → GX X t d r M' tgt L st M) (kf : x < 0 → GX X t d r M' (pc + 3) L st M) : GX X t d r M' pc L (.inl x :: st) M := by
  intro p l e R s m args below meth c cells slots A H0 ad cA D Q C Xh F H locs ls hl hP hS
  exact lv_if_ge C.1 C.2.1 hdg ht (fun h => kt (Int32.not_lt.mpr h) p l e R s m args below meth c cells slots A H0 ad cA D Q C Xh F H locs ls hl hP hS) (fun h => kf (Int32.not_le.mp h) p l e R s m args below meth c cells slots A H0 ad cA D Q C Xh F H locs ls hl hP hS)
theorem G_icmp_gt {x y : Int32} {off : Int} {tgt : Nat} (hdg : decode t.2.2.1 pc = .ok (.if_icmp .gt off, 3)) (ht : (pc : Int) + off = (tgt : Int)) (kt : y < x → GX X t d r M' tgt L st M) (kf : ¬ y < x → GX X t d r M' (pc + 3) L st M) : GX X t d r M' pc L (.inl y :: .inl x :: st) M := by
  intro p l e R s m args below meth c cells slots A H0 ad cA D Q C Xh F H locs ls hl hP hS
  exact lv_icmp_gt C.1 C.2.1 hdg ht (fun h => kt (h) p l e R s m args below meth c cells slots A H0 ad cA D Q C Xh F H locs ls hl hP hS) (fun h => kf (h) p l e R s m args below meth c cells slots A H0 ad cA D Q C Xh F H locs ls hl hP hS)
theorem G_if_gt {x : Int32} {off : Int} {tgt : Nat} (hdg : decode t.2.2.1 pc = .ok (.ifCond .gt off, 3)) (ht : (pc : Int) + off = (tgt : Int)) (kt : 0 < x → GX X t d r M' tgt L st M) (kf : ¬ 0 < x → GX X t d r M' (pc + 3) L st M) : GX X t d r M' pc L (.inl x :: st) M := by
  intro p l e R s m args below meth c cells slots A H0 ad cA D Q C Xh F H locs ls hl hP hS
  exact lv_if_gt C.1 C.2.1 hdg ht (fun h => kt (h) p l e R s m args below meth c cells slots A H0 ad cA D Q C Xh F H locs ls hl hP hS) (fun h => kf (h) p l e R s m args below meth c cells slots A H0 ad cA D Q C Xh F H locs ls hl hP hS)
theorem G_icmp_le {x y : Int32} {off : Int} {tgt : Nat} (hdg : decode t.2.2.1 pc = .ok (.if_icmp .le off, 3)) (ht : (pc : Int) + off = (tgt : Int)) (kt : ¬ y < x → GX X t d r M' tgt L st M) (kf : y < x → GX X t d r M' (pc + 3) L st M) : GX X t d r M' pc L (.inl y :: .inl x :: st) M := by
  intro p l e R s m args below meth c cells slots A H0 ad cA D Q C Xh F H locs ls hl hP hS
  exact lv_icmp_le C.1 C.2.1 hdg ht (fun h => kt (Int32.not_lt.mpr h) p l e R s m args below meth c cells slots A H0 ad cA D Q C Xh F H locs ls hl hP hS) (fun h => kf (Int32.not_le.mp h) p l e R s m args below meth c cells slots A H0 ad cA D Q C Xh F H locs ls hl hP hS)
theorem G_if_le {x : Int32} {off : Int} {tgt : Nat} (hdg : decode t.2.2.1 pc = .ok (.ifCond .le off, 3)) (ht : (pc : Int) + off = (tgt : Int)) (kt : ¬ 0 < x → GX X t d r M' tgt L st M) (kf : 0 < x → GX X t d r M' (pc + 3) L st M) : GX X t d r M' pc L (.inl x :: st) M := by
  intro p l e R s m args below meth c cells slots A H0 ad cA D Q C Xh F H locs ls hl hP hS
  exact lv_if_le C.1 C.2.1 hdg ht (fun h => kt (Int32.not_lt.mpr h) p l e R s m args below meth c cells slots A H0 ad cA D Q C Xh F H locs ls hl hP hS) (fun h => kf (Int32.not_le.mp h) p l e R s m args below meth c cells slots A H0 ad cA D Q C Xh F H locs ls hl hP hS)
theorem G_tableIn {dflt lo hi : Int} {offs : Array Int} {len : Nat} {x : Int32} {off : Int} {tgt : Nat} (hdg : decode t.2.2.1 pc = .ok (.tableswitch dflt lo hi offs, len)) (h1 : ¬ x.toInt < lo) (h2 : ¬ hi < x.toInt) (ho : offs[(x.toInt - lo).toNat]? = some off) (ht : (pc : Int) + off = (tgt : Int)) (k : GX X t d r M' tgt L st M) : GX X t d r M' pc L (.inl x :: st) M := by
  intro p l e R s m args below meth c cells slots A H0 ad cA D Q C Xh F H locs ls hl hP hS
  exact lv_tableIn C.1 C.2.1 hdg h1 h2 ho ht (k p l e R s m args below meth c cells slots A H0 ad cA D Q C Xh F H locs ls hl hP hS)
theorem G_tableOut {dflt lo hi : Int} {offs : Array Int} {len : Nat} {x : Int32} {tgt : Nat} (hdg : decode t.2.2.1 pc = .ok (.tableswitch dflt lo hi offs, len)) (h : x.toInt < lo ∨ hi < x.toInt) (ht : (pc : Int) + dflt = (tgt : Int)) (k : GX X t d r M' tgt L st M) : GX X t d r M' pc L (.inl x :: st) M := by
  intro p l e R s m args below meth c cells slots A H0 ad cA D Q C Xh F H locs ls hl hP hS
  exact lv_tableOut C.1 C.2.1 hdg h ht (k p l e R s m args below meth c cells slots A H0 ad cA D Q C Xh F H locs ls hl hP hS)
theorem G_lookup {dflt : Int} {ps : Array (Int × Int)} {len : Nat} {x : Int32} {off : Int} {tgt : Nat} (hdg : decode t.2.2.1 pc = .ok (.lookupswitch dflt ps, len)) (hp : (ps.toList.zip (ps.toList.drop 1)).all (fun (a, next) => a.1 < next.1) = true) (ho : Op.lookupswitch.offset ps.toList dflt x.toInt = off) (ht : (pc : Int) + off = (tgt : Int)) (k : GX X t d r M' tgt L st M) : GX X t d r M' pc L (.inl x :: st) M := by
  intro p l e R s m args below meth c cells slots A H0 ad cA D Q C Xh F H locs ls hl hP hS
  exact lv_lookup C.1 C.2.1 hdg hp ho ht (k p l e R s m args below meth c cells slots A H0 ad cA D Q C Xh F H locs ls hl hP hS)
/-- the end of a method -/
theorem G_ret (hdg : decode t.2.2.1 pc = .ok (retI r, 1)) (ho : retOK t.2.2.2.2 r) (hst : st = r.toList) (hM : M = M') : GX X t d r M' pc L st M := by
  intro p l e R s m args below meth c cells slots A H0 ad cA D Q C Xh F H locs ls hl hP hS
  subst hst; subst hM
  exact F H locs ls pc hP hS hdg ho
theorem cellE_obj {ad : Nat → Nat → Nat} {cA : Nat → ClassId} {M : MM} {f i : Nat} (h : fCls f < 9) : cellE ad cA M f i = .inr (fCls f, (List.range (fNum (fCls f))).map (fun k => cv ad (fldV f i k M))) := by
  unfold cellE
  rw [if_pos h]
theorem cellE_arr {ad : Nat → Nat → Nat} {cA : Nat → ClassId} {M : MM} {f i : Nat} (h : ¬ fCls f < 9) : cellE ad cA M f i = .inl (cA (fElt f), fLen f, arrF ad M f i) := by
  unfold cellE
  rw [if_neg h]
theorem TB_tbl {w : Cond} (h : w ∈ TB) : w ∈ lw_tbl := (List.mem_filter.mp h).1
/-- a field of an object is read -/
theorem G_get {ci idx : Nat} {C : String} {T : u_T} {N : Nat} {f i k0 : Nat} {v : AV} (hws : ∀ w ∈ u_ws C T N, w ∈ TB) (hc : vwCl[ci]? = some (C, T, N)) (hw : Cond.fieldLink t.1 idx (T k0).1 (T k0).2.1 (T k0).2.2.1 ∈ TB) (hf : f < 32) (hi : i < fCnt f) (hcl : fCls f = ci) (hci : ci < 9) (hN : fNum ci = N) (hk : k0 < N) (hv : fldV f i k0 M = v) (hdg : decode t.2.2.1 pc = .ok (.getfield idx, 3)) (k : GX X t d r M' (pc + 3) L (v :: st) M) : GX X t d r M' pc L (.inr (.inr (f, i)) :: st) M := by
  intro p l e R s m args below meth c cells slots A H0 ad cA D Q Cx Xh F H locs ls hl hP hS
  subst hcl
  have he : (world ad cA M)[fOff f + i]? = some (ad f i, .inr (fCls f, (List.range (fNum (fCls f))).map (fun k => cv ad (fldV f i k M)))) := by rw [world_at hf hi, cellE_obj hci]
  exact va_get Cx.1 Cx.2.1 Cx.2.2.2.2.1 hws Cx.2.2.2.1 Cx.2.2.2.2.2.2.1 hP (fOff f + i) he hc k0 hk (Cx.2.2.2.2.1 _ hw) (fun _ h => h) (v := cv ad v) (by rw [List.getElem?_map, hN, List.getElem?_range hk, ← hv]; rfl) hdg (k p l e R s m args below meth c cells slots A H0 ad cA D Q Cx Xh F H locs ls hl hP hS)
theorem rd_wr_other {M : MM} {f i k0 : Nat} {v : Int32} : ∀ f' i', ¬ (f' = f ∧ i' = i) → ∀ j, rdM (wrM M f i k0 v) f' i' j = rdM M f' i' j := fun _ _ h _ => rd_wr_ne h
theorem fld_wr {M : MM} {f i k0 j : Nat} {v : Int32} (hr0 : fRef f k0 = none) (hZ : fZ f k0 = true → nbZ v = v) : fldV f i j (wrM M f i k0 v) = if j = k0 then .inl v else fldV f i j M := by
  unfold fldV
  rw [rd_wr_eq]
  by_cases hj : j = k0
  · subst hj
    rw [hr0]
    by_cases hz : fZ f j = true
    · simp [hz, hZ hz]
    · simp [hz]
  · simp [hj]
theorem fields_wr {ad : Nat → Nat → Nat} {M : MM} {f i k0 N : Nat} {v : Int32} (hk : k0 < N) (hr0 : fRef f k0 = none) (hZ : fZ f k0 = true → nbZ v = v) : ((List.range N).map (fun k => cv ad (fldV f i k M))).set k0 (.int v) = (List.range N).map (fun k => cv ad (fldV f i k (wrM M f i k0 v))) := by
  apply List.ext_getElem?
  intro n
  rw [List.getElem?_set, List.getElem?_map, List.getElem?_map, List.length_map, List.length_range]
  by_cases hn : k0 = n
  · subst hn
    rw [if_pos rfl, if_pos hk, List.getElem?_range hk]
    show _ = some (cv ad (fldV f i k0 (wrM M f i k0 v)))
    rw [fld_wr hr0 hZ, if_pos rfl]
    rfl
  · rw [if_neg hn]
    by_cases h2 : n < N
    · rw [List.getElem?_range h2]
      show some (cv ad (fldV f i n M)) = some (cv ad (fldV f i n (wrM M f i k0 v)))
      rw [fld_wr hr0 hZ, if_neg (fun e => hn e.symm)]
    · rw [List.getElem?_eq_none (by rw [List.length_range]; omega)]
      rfl
theorem narrow_nbZ {v : Int32} (h : nbZ v = v) : narrow .boolean (.int v) = .int v ∧ fits .boolean (.int v) = true := by
  unfold nbZ at h
  by_cases h0 : v = 0
  · subst h0; exact ⟨rfl, rfl⟩
  · rw [if_neg h0] at h
    subst h; exact ⟨rfl, rfl⟩
/-- a number field of an object is written -/
theorem G_put {ci idx : Nat} {C : String} {T : u_T} {N : Nat} {ty0 : Nat → FieldType} {f i k0 : Nat} {v : Int32} {M2 : MM} (hws : ∀ w ∈ u_ws C T N, w ∈ TB) (hty : ∀ k, k < N → parseFieldDescriptor (T k).2.2.1 = some (ty0 k)) (hnm : ∀ a, a < N → ∀ b, b < N → a ≠ b → (T a).2.1 ≠ (T b).2.1) (hc : vwCl[ci]? = some (C, T, N)) (hw : Cond.fieldLink t.1 idx (T k0).1 (T k0).2.1 (T k0).2.2.1 ∈ TB) (hf : f < 32) (hi : i < fCnt f) (hcl : fCls f = ci) (hci : ci < 9) (hN : fNum ci = N) (hk : k0 < N) (hfin : (T k0).2.2.2 = false) (htz : (fZ f k0 = false ∧ ty0 k0 = .int) ∨ (nbZ v = v ∧ ty0 k0 = .boolean)) (hr0 : fRef f k0 = none) (hM2 : wrM M f i k0 v = M2) (hdg : decode t.2.2.1 pc = .ok (.putfield idx, 3)) (k : GX X t d r M' (pc + 3) L st M2) : GX X t d r M' pc L (.inl v :: .inr (.inr (f, i)) :: st) M := by
  intro p l e R s m args below meth c cells slots A H0 ad cA D Q Cx Xh F H locs ls hl hP hS
  subst hcl; subst hM2
  have he : (world ad cA M)[fOff f + i]? = some (ad f i, .inr (fCls f, (List.range (fNum (fCls f))).map (fun k => cv ad (fldV f i k M)))) := by rw [world_at hf hi, cellE_obj hci]
  have hZ : fZ f k0 = true → nbZ v = v := by
    intro h
    rcases htz with ⟨h1, -⟩ | ⟨h1, -⟩
    · rw [h1] at h; cases h
    · exact h1
  have hn : narrow (ty0 k0) (.int v) = .int v ∧ fits (ty0 k0) (.int v) = true := by
    rcases htz with ⟨-, h2⟩ | ⟨h1, h2⟩
    · rw [h2]; exact ⟨rfl, rfl⟩
    · rw [h2]; exact narrow_nbZ h1
  have e1 : (world ad cA M).set (fOff f + i) (ad f i, .inr (fCls f, ((List.range (fNum (fCls f))).map (fun k => cv ad (fldV f i k M))).set k0 (.int v))) = world ad cA (wrM M f i k0 v) := by
    rw [fields_wr (by rw [hN]; exact hk) hr0 hZ, ← world_set (M := M) hf hi rd_wr_other, cellE_obj hci]
  refine va_put (v := .int v) Cx.1 Cx.2.1 Cx.2.2.2.2.1 hws ty0 hty hnm Cx.2.2.2.1 Cx.2.2.2.2.2.2.1 hP (Cx.2.2.2.2.2.2.2.2.2.2.2.2 M) hS (fOff f + i) he hc k0 hk (Cx.2.2.2.2.1 _ hw) (fun _ h => h) hfin (hty k0 hk) hn.1 hn.2 (by rw [List.length_map, List.length_range, hN]; exact hk) hdg (fun H1 locs1 hP1 hD1 hS1 => ?_)
  rw [e1] at hP1
  exact k p l e R s m args below meth c cells slots A H0 ad cA D Q Cx Xh F H1 locs1 ls hl hP1 hS1
/-- is an index within an array -/
def ib (x : Int32) (n : Nat) : Bool := decide (¬ x < 0 ∧ x.toNatClampNeg < n)
theorem ib_in {x : Int32} {n : Nat} (h : ib x n = true) : vp_in x n := by
  have h1 := of_decide_eq_true h
  rintro (h2 | h2)
  · exact h1.1 h2
  · exact absurd h1.2 (Nat.not_lt.mpr h2)
theorem ib_lt {x : Int32} {n : Nat} (h : ib x n = true) : x.toNatClampNeg < n := (of_decide_eq_true h).2
theorem G_iald {f i : Nat} {x : Int32} (hf : f < 32) (hi : i < fCnt f) (hcl : ¬ fCls f < 9) (he0 : fElt f = 0) (hin : ib x (fLen f) = true) {v : Int32} (hv : rdM M f i x.toNatClampNeg = v) (hdg : decode t.2.2.1 pc = .ok (.iaload, 1)) (k : GX X t d r M' (pc + 1) L (.inl v :: st) M) : GX X t d r M' pc L (.inl x :: .inr (.inr (f, i)) :: st) M := by
  intro p l e R s m args below meth c cells slots A H0 ad cA D Q Cx Xh F H locs ls hl hP hS
  subst hv
  have he : (world ad cA M)[fOff f + i]? = some (ad f i, .inl (cA 0, fLen f, .inl (fun j => rdM M f i j))) := by
    rw [world_at hf hi, cellE_arr hcl]
    unfold arrF
    rw [he0]
    rfl
  exact va_iald Cx.1 Cx.2.1 Cx.2.2.2.2.2.2.1 hP (fOff f + i) 0 he rfl (ib_in hin) hdg (k p l e R s m args below meth c cells slots A H0 ad cA D Q Cx Xh F H locs ls hl hP hS)
theorem G_bald {f i : Nat} {x : Int32} (hf : f < 32) (hi : i < fCnt f) (hcl : ¬ fCls f < 9) (he0 : fElt f = 1) (hin : ib x (fLen f) = true) {v : Int32} (hv : nbB (rdM M f i x.toNatClampNeg) = v) (hdg : decode t.2.2.1 pc = .ok (.baload, 1)) (k : GX X t d r M' (pc + 1) L (.inl v :: st) M) : GX X t d r M' pc L (.inl x :: .inr (.inr (f, i)) :: st) M := by
  intro p l e R s m args below meth c cells slots A H0 ad cA D Q Cx Xh F H locs ls hl hP hS
  subst hv
  have he : (world ad cA M)[fOff f + i]? = some (ad f i, .inl (cA 1, fLen f, .inl (fun j => nbB (rdM M f i j)))) := by
    rw [world_at hf hi, cellE_arr hcl]
    unfold arrF
    rw [he0]
    rfl
  exact va_bald Cx.1 Cx.2.1 Cx.2.2.2.2.2.2.1 hP (fOff f + i) 1 he rfl (ib_in hin) hdg (k p l e R s m args below meth c cells slots A H0 ad cA D Q Cx Xh F H locs ls hl hP hS)
theorem G_aald3 {f i : Nat} {x : Int32} (hf : f < 32) (hi : i < fCnt f) (hcl : ¬ fCls f < 9) (he0 : fElt f = 2) (hin : ib x (fLen f) = true) (hdg : decode t.2.2.1 pc = .ok (.aaload, 1)) (k : GX X t d r M' (pc + 1) L (.inr (.inr (3, 10 * i + x.toNatClampNeg)) :: st) M) : GX X t d r M' pc L (.inl x :: .inr (.inr (f, i)) :: st) M := by
  intro p l e R s m args below meth c cells slots A H0 ad cA D Q Cx Xh F H locs ls hl hP hS
  have he : (world ad cA M)[fOff f + i]? = some (ad f i, .inl (cA 2, fLen f, .inr (.inr (.inr (.inr (fun j => some (ad 3 (10 * i + j)))))))) := by
    rw [world_at hf hi, cellE_arr hcl]
    unfold arrF
    rw [he0]
    rfl
  exact va_aldq Cx.1 Cx.2.1 Cx.2.2.2.2.2.2.1 hP (fOff f + i) 2 he rfl (ib_in hin) hdg (k p l e R s m args below meth c cells slots A H0 ad cA D Q Cx Xh F H locs ls hl hP hS)
theorem G_aald5 {f i : Nat} {x : Int32} (hf : f < 32) (hi : i < fCnt f) (hcl : ¬ fCls f < 9) (he0 : fElt f = 3) (hin : ib x (fLen f) = true) (hdg : decode t.2.2.1 pc = .ok (.aaload, 1)) (k : GX X t d r M' (pc + 1) L (.inr (.inr (5, x.toNatClampNeg)) :: st) M) : GX X t d r M' pc L (.inl x :: .inr (.inr (f, i)) :: st) M := by
  intro p l e R s m args below meth c cells slots A H0 ad cA D Q Cx Xh F H locs ls hl hP hS
  have he : (world ad cA M)[fOff f + i]? = some (ad f i, .inl (cA 3, fLen f, .inr (.inr (.inr (.inr (fun j => some (ad 5 j))))))) := by
    rw [world_at hf hi, cellE_arr hcl]
    unfold arrF
    rw [he0]
    rfl
  exact va_aldq Cx.1 Cx.2.1 Cx.2.2.2.2.2.2.1 hP (fOff f + i) 3 he rfl (ib_in hin) hdg (k p l e R s m args below meth c cells slots A H0 ad cA D Q Cx Xh F H locs ls hl hP hS)
theorem arr_wr {M : MM} {f i k0 : Nat} {v : Int32} : upd (fun j => rdM M f i j) k0 v = (fun j => rdM (wrM M f i k0 v) f i j) := by
  funext j
  rw [rd_wr_eq]
  by_cases h : j = k0
  · subst h; simp [upd]
  · simp [upd, h]
theorem G_iast {f i : Nat} {x v : Int32} {M2 : MM} (hf : f < 32) (hi : i < fCnt f) (hcl : ¬ fCls f < 9) (he0 : fElt f = 0) (hin : ib x (fLen f) = true) (hM2 : wrM M f i x.toNatClampNeg v = M2) (hdg : decode t.2.2.1 pc = .ok (.iastore, 1)) (k : GX X t d r M' (pc + 1) L st M2) : GX X t d r M' pc L (.inl v :: .inl x :: .inr (.inr (f, i)) :: st) M := by
  intro p l e R s m args below meth c cells slots A H0 ad cA D Q Cx Xh F H locs ls hl hP hS
  subst hM2
  have he : ∀ M : MM, (world ad cA M)[fOff f + i]? = some (ad f i, .inl (cA 0, fLen f, .inl (fun j => rdM M f i j))) := by
    intro M
    rw [world_at hf hi, cellE_arr hcl]
    unfold arrF
    rw [he0]
    rfl
  have e1 : (world ad cA M).set (fOff f + i) (ad f i, .inl (cA 0, fLen f, .inl (upd (fun j => rdM M f i j) x.toNatClampNeg v))) = world ad cA (wrM M f i x.toNatClampNeg v) := by
    rw [arr_wr, ← world_set (M := M) hf hi rd_wr_other, cellE_arr hcl]
    unfold arrF
    rw [he0]
    rfl
  refine va_iast Cx.1 Cx.2.1 Cx.2.2.2.2.2.2.1 hP (Cx.2.2.2.2.2.2.2.2.2.2.2.2 M) hS (fOff f + i) 0 (he M) rfl (ib_in hin) hdg (fun H1 locs1 hP1 hD1 hS1 => ?_)
  rw [e1] at hP1
  exact k p l e R s m args below meth c cells slots A H0 ad cA D Q Cx Xh F H1 locs1 ls hl hP1 hS1
end ONE
