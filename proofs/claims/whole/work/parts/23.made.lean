/-! WHAT IS MADE: constructors, over worlds of cells as lists -/
def nestA : List Cond := [.methodLinkNest RX1 26 yX2_init "PotHandles", .methodLinkNest RX1 40 yX3_init "PotHandles", .methodLinkNest RX7 24 yX0_init "PotHandles", .methodLinkNest RX7 34 yX4_init "PotHandles", .methodLinkNest RX4 11 yX2_init "PotHandles", .methodLinkNest RX7 41 yX6_init "PotHandles", .methodLinkNest RX7 56 yX5_init "PotHandles"]
theorem nestA_on : ∀ w ∈ nestA, w.onTables = true := by
  intro w hw
  simp only [nestA, List.mem_cons, List.not_mem_nil, or_false] at hw
  rcases hw with rfl | rfl | rfl | rfl | rfl | rfl | rfl <;> rfl
theorem nestA_warm {s U : State} (hW : s.WarmedH U.vm) (h : ∀ w ∈ nestA, va_Nw w s) : ∀ w ∈ nestA, va_Nw w U := by
  intro w hw
  have h1 := h w hw
  simp only [nestA, List.mem_cons, List.not_mem_nil, or_false] at hw
  rcases hw with rfl | rfl | rfl | rfl | rfl | rfl | rfl <;> exact va_Nw.warmM hW h1
def AOs (s : State) : Prop := va_AO "PotHandles$Pot" s ∧ va_AO "PotHandles$Sheet" s
def CtxA (t : MT) (d mc ms : Nat) (p : Program) (R : Room) (s : State) (m : MethodId) (args : Array Value) (meth : Method) (c : Code) (A : Nat → Prop) (H0 : Heap) (cA : Nat → ClassId) (D : va_G) : Prop :=
  p.tables.exec = Jvm.exec ∧ c.code = t.2.2.1 ∧ c.maxLocals = t.2.2.2.1 ∧ s.vm.findClass t.1 = some m.cls ∧ (∀ w ∈ TB, w.before args s = true) ∧ (∀ w ∈ nestA, va_Nw w s) ∧ AOs s ∧ va_K D vwCl (tysA cA) s ∧ d ≤ R.frames ∧ 64 * d ≤ R.locals ∧ mc ≤ R.cells ∧ ms ≤ R.slots ∧ (∀ q : Nat, H0.size ≤ q → A q) ∧ (t.2.1.name = "<init>" → meth.name = "<init>")
def FinA (t : MT) (mc ms : Nat) (F : va_W → Prop) (p : Program) (l : Launch) (e : Env) (R : Room) (s : State) (m : MethodId) (args : Array Value) (below : List Frame) (meth : Method) (c : Code) (A : Nat → Prop) (H0 : Heap) (D : va_G) (Q : State → Prop) : Prop :=
  ∀ (H : Heap) (locs : List Loc) (ls : Array Slot) (pc : Nat) (ws : va_W), F ws → va_P D vwCl ws H → va_D A ws → va_S A H0 H locs → decode t.2.2.1 pc = .ok (.return_, 1) → W p l e R s m args below meth c H locs mc ms Q (F0 m pc ls [])
abbrev CtxP : Type := Program → Launch → Env → Room → State → MethodId → Array Value → List Frame → Method → Code → (Nat → Prop) → Heap → va_G → (State → Prop) → Prop
/-- at a place of a method that makes cells: with these locals, this stack, these cells, so many made: it comes to its end (X: what is known of the end) -/
def GAX (t : MT) (d mc ms : Nat) (cA : Nat → ClassId) (X : CtxP) (pc : Nat) (L : List (Nat × Value)) (st : List Value) (ws : va_W) (nc ns : Nat) : Prop :=
  ∀ (p : Program) (l : Launch) (e : Env) (R : Room) (s : State) (m : MethodId) (args : Array Value) (below : List Frame) (meth : Method) (c : Code) (A : Nat → Prop) (H0 : Heap) (D : va_G) (Q : State → Prop),
    CtxA t d mc ms p R s m args meth c A H0 cA D → X p l e R s m args below meth c A H0 D Q →
    ∀ (H : Heap) (locs : List Loc) (ls : Array Slot), lv_has ls t.2.2.2.1 L → va_P D vwCl ws H → va_D A ws → va_S A H0 H locs → W p l e R s m args below meth c H locs nc ns Q (F0 m pc ls st)
abbrev GA (t : MT) (d mc ms : Nat) (cA : Nat → ClassId) (F : va_W → Prop) (pc : Nat) (L : List (Nat × Value)) (st : List Value) (ws : va_W) (nc ns : Nat) : Prop := GAX t d mc ms cA (FinA t mc ms F) pc L st ws nc ns
section A1
variable {t : MT} {d mc ms : Nat} {cA : Nat → ClassId} {F : va_W → Prop} {X : CtxP} {pc nc ns : Nat} {L L2 : List (Nat × Value)} {st : List Value} {ws ws2 : va_W}
theorem A_iconst {n : Int} {v : Int32} (hdg : decode t.2.2.1 pc = .ok (.iconst n, 1)) (hv : Int32.ofInt n = v) (k : GAX t d mc ms cA X (pc + 1) L (.int v :: st) ws nc ns) : GAX t d mc ms cA X pc L st ws nc ns := by
  intro p l e R s m args below meth c A H0 D Q C E H locs ls hl hP hD hS
  exact lv_iconst C.1 C.2.1 hdg hv (k p l e R s m args below meth c A H0 D Q C E H locs ls hl hP hD hS)
theorem A_bipush {n : Int} {v : Int32} (hdg : decode t.2.2.1 pc = .ok (.bipush n, 2)) (hv : (Int8.ofInt n).toInt32 = v) (k : GAX t d mc ms cA X (pc + 2) L (.int v :: st) ws nc ns) : GAX t d mc ms cA X pc L st ws nc ns := by
  intro p l e R s m args below meth c A H0 D Q C E H locs ls hl hP hD hS
  exact lv_bipush C.1 C.2.1 hdg hv (k p l e R s m args below meth c A H0 D Q C E H locs ls hl hP hD hS)
theorem A_sipush {n : Int} {v : Int32} (hdg : decode t.2.2.1 pc = .ok (.sipush n, 3)) (hv : (Int16.ofInt n).toInt32 = v) (k : GAX t d mc ms cA X (pc + 3) L (.int v :: st) ws nc ns) : GAX t d mc ms cA X pc L st ws nc ns := by
  intro p l e R s m args below meth c A H0 D Q C E H locs ls hl hP hD hS
  exact lv_sipush C.1 C.2.1 hdg hv (k p l e R s m args below meth c A H0 D Q C E H locs ls hl hP hD hS)
theorem A_iload_n {k0 : Fin 4} {x : Int32} (hdg : decode t.2.2.1 pc = .ok (.iload_n k0, 1)) (j : Nat) (hx : L[j]? = some ((k0 : Nat), .int x)) (k : GAX t d mc ms cA X (pc + 1) L (.int x :: st) ws nc ns) : GAX t d mc ms cA X pc L st ws nc ns := by
  intro p l e R s m args below meth c A H0 D Q C E H locs ls hl hP hD hS
  exact lv_iload_n C.1 C.2.1 hdg rfl (lv_at hl j hx) (k p l e R s m args below meth c A H0 D Q C E H locs ls hl hP hD hS)
theorem A_aload_n {k0 : Fin 4} {x : Nat} (hdg : decode t.2.2.1 pc = .ok (.aload_n k0, 1)) (j : Nat) (hx : L[j]? = some ((k0 : Nat), .ref x)) (k : GAX t d mc ms cA X (pc + 1) L (.ref x :: st) ws nc ns) : GAX t d mc ms cA X pc L st ws nc ns := by
  intro p l e R s m args below meth c A H0 D Q C E H locs ls hl hP hD hS
  exact lv_aload_n C.1 C.2.1 hdg rfl (lv_at hl j hx) (k p l e R s m args below meth c A H0 D Q C E H locs ls hl hP hD hS)
theorem A_istore_n {k0 : Fin 4} {x : Int32} (hdg : decode t.2.2.1 pc = .ok (.istore_n k0, 1)) (hn : (k0 : Nat) < t.2.2.2.1) (hL : ((k0 : Nat), Value.int x) :: L.filter (fun q => !(q.1 == (k0 : Nat)) && !(q.1 + 1 == (k0 : Nat) && q.2.category == 2)) = L2) (k : GAX t d mc ms cA X (pc + 1) L2 st ws nc ns) : GAX t d mc ms cA X pc L (.int x :: st) ws nc ns := by
  intro p l e R s m args below meth c A H0 D Q C E H locs ls hl hP hD hS
  exact lv_istore_n C.1 C.2.1 hdg rfl hl hn hL (fun ls hl => k p l e R s m args below meth c A H0 D Q C E H locs ls hl hP hD hS)
theorem A_iinc {i : Nat} {n : Int} {x v : Int32} (hdg : decode t.2.2.1 pc = .ok (.iinc i n, 3)) (j : Nat) (hx : L[j]? = some (i, .int x)) (hv : x + Int32.ofInt n = v) (hn : i < t.2.2.2.1) (hL : (i, Value.int v) :: L.filter (fun q => !(q.1 == i) && !(q.1 + 1 == i && q.2.category == 2)) = L2) (k : GAX t d mc ms cA X (pc + 3) L2 st ws nc ns) : GAX t d mc ms cA X pc L st ws nc ns := by
  intro p l e R s m args below meth c A H0 D Q C E H locs ls hl hP hD hS
  exact lv_iinc C.1 C.2.1 hdg hl (k := j) hx hv hn hL (fun ls hl => k p l e R s m args below meth c A H0 D Q C E H locs ls hl hP hD hS)
theorem A_imul {x y v : Int32} (hv : x * y = v) (hdg : decode t.2.2.1 pc = .ok (.imul, 1)) (k : GAX t d mc ms cA X (pc + 1) L (.int v :: st) ws nc ns) : GAX t d mc ms cA X pc L (.int y :: .int x :: st) ws nc ns := by
  intro p l e R s m args below meth c A H0 D Q C E H locs ls hl hP hD hS
  subst hv
  exact lv_imul C.1 C.2.1 hdg (k p l e R s m args below meth c A H0 D Q C E H locs ls hl hP hD hS)
theorem A_iadd {x y v : Int32} (hv : x + y = v) (hdg : decode t.2.2.1 pc = .ok (.iadd, 1)) (k : GAX t d mc ms cA X (pc + 1) L (.int v :: st) ws nc ns) : GAX t d mc ms cA X pc L (.int y :: .int x :: st) ws nc ns := by
  intro p l e R s m args below meth c A H0 D Q C E H locs ls hl hP hD hS
  subst hv
  exact lv_iadd C.1 C.2.1 hdg (k p l e R s m args below meth c A H0 D Q C E H locs ls hl hP hD hS)
theorem A_dup {v : Value} (hv : v.category = 1) (hdg : decode t.2.2.1 pc = .ok (.dup, 1)) (k : GAX t d mc ms cA X (pc + 1) L (v :: v :: st) ws nc ns) : GAX t d mc ms cA X pc L (v :: st) ws nc ns := by
  intro p l e R s m args below meth c A H0 D Q C E H locs ls hl hP hD hS
  exact lv_dup C.1 C.2.1 hdg hv (k p l e R s m args below meth c A H0 D Q C E H locs ls hl hP hD hS)
theorem A_goto {off : Int} {tgt : Nat} (hdg : decode t.2.2.1 pc = .ok (.goto off, 3)) (ht : (pc : Int) + off = (tgt : Int)) (k : GAX t d mc ms cA X tgt L st ws nc ns) : GAX t d mc ms cA X pc L st ws nc ns := by
  intro p l e R s m args below meth c A H0 D Q C E H locs ls hl hP hD hS
  exact lv_goto C.1 C.2.1 hdg ht (k p l e R s m args below meth c A H0 D Q C E H locs ls hl hP hD hS)
theorem A_ge_t {x y : Int32} {off : Int} {tgt : Nat} (hc : y ≤ x) (hdg : decode t.2.2.1 pc = .ok (.if_icmp .ge off, 3)) (ht : (pc : Int) + off = (tgt : Int)) (k : GAX t d mc ms cA X tgt L st ws nc ns) : GAX t d mc ms cA X pc L (.int y :: .int x :: st) ws nc ns := by
  intro p l e R s m args below meth c A H0 D Q C E H locs ls hl hP hD hS
  exact lv_icmp_ge C.1 C.2.1 hdg ht (fun _ => k p l e R s m args below meth c A H0 D Q C E H locs ls hl hP hD hS) (fun h => absurd hc h)
theorem A_ge_f {x y : Int32} {off : Int} {tgt : Nat} (hc : ¬ y ≤ x) (hdg : decode t.2.2.1 pc = .ok (.if_icmp .ge off, 3)) (ht : (pc : Int) + off = (tgt : Int)) (k : GAX t d mc ms cA X (pc + 3) L st ws nc ns) : GAX t d mc ms cA X pc L (.int y :: .int x :: st) ws nc ns := by
  intro p l e R s m args below meth c A H0 D Q C E H locs ls hl hP hD hS
  exact lv_icmp_ge C.1 C.2.1 hdg ht (fun h => absurd h hc) (fun _ => k p l e R s m args below meth c A H0 D Q C E H locs ls hl hP hD hS)
theorem A_alen {a : Nat} {n : Nat} {f : Nat → Int32} {v : Int32} (q0 : Nat) (he : ws[q0]? = some (a, .inl (cA 0, n, .inl f))) (hv : Int32.ofNat n = v) (hdg : decode t.2.2.1 pc = .ok (.arraylength, 1)) (k : GAX t d mc ms cA X (pc + 1) L (.int v :: st) ws nc ns) : GAX t d mc ms cA X pc L (.ref a :: st) ws nc ns := by
  intro p l e R s m args below meth c A H0 D Q C E H locs ls hl hP hD hS
  exact va_alen C.1 C.2.1 C.2.2.2.2.2.2.2.1 hP q0 0 he rfl hv hdg (k p l e R s m args below meth c A H0 D Q C E H locs ls hl hP hD hS)
theorem A_ret (hdg : decode t.2.2.1 pc = .ok (.return_, 1)) (hF : F ws) (hc : nc = mc) (hs : ns = ms) : GA t d mc ms cA F pc L [] ws nc ns := by
  intro p l e R s m args below meth c A H0 D Q C E H locs ls hl hP hD hS
  subst hc; subst hs
  exact E H locs ls pc ws hF hP hD hS hdg
theorem A_ws (h : ws = ws2) (k : GAX t d mc ms cA X pc L st ws2 nc ns) : GAX t d mc ms cA X pc L st ws nc ns := h ▸ k
/-- Object() -/
theorem A_obj {a idx : Nat} (hlk : Cond.methodLink t.1 idx Lib.objectInit ∈ TB) (hin : Cond.instanceMethod Lib.objectInit ∈ TB) (hcd : Cond.code Lib.objectInit ⟨#[0xb1]⟩ 1 none ∈ TB) (hd : 1 ≤ d) (hst : ((st.map fun v => v.category).sum) ≤ 8) (hdg : decode t.2.2.1 pc = .ok (.invokespecial idx, 3)) (k : GAX t d mc ms cA X (pc + 3) L st ws nc ns) : GAX t d mc ms cA X pc L (.ref a :: st) ws nc ns := by
  intro p l e R s m args below meth c A H0 D Q C E H locs ls hl hP hD hS
  obtain ⟨hx, hb, hml, hown, hts, hN, hAO, hK, hdf, hdl, hc, hs, hA, hn⟩ := id C
  refine W.objInit (g := F0 m pc ls (.ref a :: st)) (rest := st) hx hb hown (hts _ hlk) (hts _ hin) (hts _ hcd) rfl (by rw [hml]; exact hl.1) rfl hdg (by omega) (by show 2 * 0 + _ + 12 ≤ _; omega) ?_
  exact k p l e R s m args below meth c A H0 D Q C E H locs ls hl hP hD hS
theorem A_new {own C0 : String} {T : u_T} {N ci idx : Nat} {fs : List Value} {ty : Nat → FieldType} (hown0 : t.1 = own) (hws : ∀ w ∈ u_ws C0 T N, w ∈ TB) (hty : ∀ k, k < N → parseFieldDescriptor (T k).2.2.1 = some (ty k)) (hcl : Cond.classLink own idx C0 ∈ TB) (hins : Cond.instantiable C0 N ∈ TB) (hini : Cond.initialized C0 ∈ TB) (hc : vwCl[ci]? = some (C0, T, N)) (hfs : ∀ j, j < N → defaultValue (ty j) = vp_V fs j) (hn1 : nc + 1 ≤ mc) (hn2 : ns + N ≤ ms) (hdg : decode t.2.2.1 pc = .ok (.new idx, 3)) (k : ∀ q : Nat, GAX t d mc ms cA X (pc + 3) L (.ref q :: st) (ws ++ [(q, .inr (ci, fs))]) (nc + 1) (ns + N)) : GAX t d mc ms cA X pc L st ws nc ns := by
  intro p l e R s m args below meth c A H0 D Q C E H locs ls hl hP hD hS
  obtain ⟨hx, hb, hml, hown, hts, hN, hAO, hK, hdf, hdl, hcr, hsr, hA, hnn⟩ := id C
  subst hown0
  exact va_new hx hb hts hws ty hty hown (hts _ hcl) (hts _ hins) (hts _ hini) hK hP hD hS hA hc hfs (by omega) (by omega) hdg (fun q H1 hP1 hD1 hS1 => k q p l e R s m args below meth c A H0 D Q C E H1 locs ls hl hP1 hD1 hS1)
theorem cls_uniq {s : State} {D : va_G} {cA : Nat → ClassId} {c2 : ClassId} {ty : FieldType} (j : Nat) (hK : va_K D vwCl (tysA cA) s) (h : (tysA cA)[j]? = some (cA j, ty)) (hK2 : va_K D vwCl (tysA cA ++ [(c2, ty)]) s) (hu : ∀ a b : ClassId, va_RA s a ty → va_RA s b ty → a = b) : c2 = cA j :=
  hu _ _ (hK2.2 4 (c2, ty) rfl).2 (hK.2 j _ h).2
theorem A_newi {n : Int32} {N' : Nat} (harr : Cond.arrayClass .int ∈ TB) (hn : ¬ n < 0) (hN : n.toNatClampNeg = N') (hby : N' * 4 ≤ 536870912) (hn1 : nc + 1 ≤ mc) (hn2 : ns + N' ≤ ms) (hdg : decode t.2.2.1 pc = .ok (.newarray .int, 2)) (k : ∀ q : Nat, GAX t d mc ms cA X (pc + 2) L (.ref q :: st) (ws ++ [(q, .inl (cA 0, N', .inl (fun _ => 0)))]) (nc + 1) (ns + N')) : GAX t d mc ms cA X pc L (.int n :: st) ws nc ns := by
  intro p l e R s m args below meth c A H0 D Q C E H locs ls hl hP hD hS
  obtain ⟨hx, hb, hml, hown, hts, hN0, hAO, hK, hdf, hdl, hcr, hsr, hA, hnn⟩ := id C
  refine va_newa (atype := .int) (a0 := (N', .inl (fun _ => 0))) (ty := .int) hx hb (hts _ harr) rfl hK hP hD hS hA (fun _ => rfl) hn hN hby (by omega) (by omega) hdg (fun q c2 H1 hK1 hP1 hD1 hS1 => ?_)
  have e1 : c2 = cA 0 := cls_uniq 0 hK rfl hK1 (fun a b h1 h2 => Option.some.inj (Eq.trans (Eq.symm (show s.vm.findClass _ = some a from h1)) h2))
  subst e1
  exact k q p l e R s m args below meth c A H0 D Q C E H1 locs ls hl hP1 hD1 hS1
theorem A_newb {n : Int32} {N' : Nat} (harr : Cond.arrayClass .byte ∈ TB) (hn : ¬ n < 0) (hN : n.toNatClampNeg = N') (hby : N' * 1 ≤ 536870912) (hn1 : nc + 1 ≤ mc) (hn2 : ns + N' ≤ ms) (hdg : decode t.2.2.1 pc = .ok (.newarray .byte, 2)) (k : ∀ q : Nat, GAX t d mc ms cA X (pc + 2) L (.ref q :: st) (ws ++ [(q, .inl (cA 1, N', .inl (fun _ => 0)))]) (nc + 1) (ns + N')) : GAX t d mc ms cA X pc L (.int n :: st) ws nc ns := by
  intro p l e R s m args below meth c A H0 D Q C E H locs ls hl hP hD hS
  obtain ⟨hx, hb, hml, hown, hts, hN0, hAO, hK, hdf, hdl, hcr, hsr, hA, hnn⟩ := id C
  refine va_newa (atype := .byte) (a0 := (N', .inl (fun _ => 0))) (ty := .byte) hx hb (hts _ harr) rfl hK hP hD hS hA (fun _ => rfl) hn hN hby (by omega) (by omega) hdg (fun q c2 H1 hK1 hP1 hD1 hS1 => ?_)
  have e1 : c2 = cA 1 := cls_uniq 1 hK rfl hK1 (fun a b h1 h2 => Option.some.inj (Eq.trans (Eq.symm (show s.vm.findClass _ = some a from h1)) h2))
  subst e1
  exact k q p l e R s m args below meth c A H0 D Q C E H1 locs ls hl hP1 hD1 hS1
theorem A_newq {own C0 : String} {n : Int32} {N' idx j : Nat} (hown0 : t.1 = own) (hj : (j = 2 ∧ C0 = "PotHandles$Pot") ∨ (j = 3 ∧ C0 = "PotHandles$Sheet")) (hcl : Cond.classLink own idx C0 ∈ TB) (hn : ¬ n < 0) (hN : n.toNatClampNeg = N') (hby : N' * 4 ≤ 536870912) (hn1 : nc + 1 ≤ mc) (hn2 : ns + N' ≤ ms) (hdg : decode t.2.2.1 pc = .ok (.anewarray idx, 3)) (k : ∀ q : Nat, GAX t d mc ms cA X (pc + 3) L (.ref q :: st) (ws ++ [(q, .inl (cA j, N', .inr (.inr (.inr (.inr (fun _ => none))))))]) (nc + 1) (ns + N')) : GAX t d mc ms cA X pc L (.int n :: st) ws nc ns := by
  intro p l e R s m args below meth c A H0 D Q C E H locs ls hl hP hD hS
  obtain ⟨hx, hb, hml, hown, hts, hN0, hAO, hK, hdf, hdl, hcr, hsr, hA, hnn⟩ := id C
  subst hown0
  have hao : va_AO C0 s := by
    rcases hj with ⟨-, rfl⟩ | ⟨-, rfl⟩
    · exact hAO.1
    · exact hAO.2
  refine va_newq hx hb hown (hts _ hcl) hao hK hP hD hS hA hn hN hby (by omega) (by omega) hdg (fun q c2 H1 hK1 hP1 hD1 hS1 => ?_)
  have e1 : c2 = cA j := by
    refine cls_uniq (ty := .object C0) j hK ?_ hK1 (fun a b h1 h2 => ?_)
    · rcases hj with ⟨rfl, rfl⟩ | ⟨rfl, rfl⟩ <;> rfl
    · obtain ⟨_, _, _, _, _, g1⟩ := h1
      obtain ⟨_, _, _, _, _, g2⟩ := h2
      exact Option.some.inj (g1.symm.trans g2)
  subst e1
  exact k q p l e R s m args below meth c A H0 D Q C E H1 locs ls hl hP1 hD1 hS1
theorem A_get {own C0 : String} {T : u_T} {N ci idx k0 a : Nat} {fs : List Value} {v : Value} (hown0 : t.1 = own) (hws : ∀ w ∈ u_ws C0 T N, w ∈ TB) (hc : vwCl[ci]? = some (C0, T, N)) (hlk : Cond.fieldLink own idx (T k0).1 (T k0).2.1 (T k0).2.2.1 ∈ TB) (q0 : Nat) (he : ws[q0]? = some (a, .inr (ci, fs))) (hk : k0 < N) (hv : fs[k0]? = some v) (hdg : decode t.2.2.1 pc = .ok (.getfield idx, 3)) (k : GAX t d mc ms cA X (pc + 3) L (v :: st) ws nc ns) : GAX t d mc ms cA X pc L (.ref a :: st) ws nc ns := by
  intro p l e R s m args below meth c A H0 D Q C E H locs ls hl hP hD hS
  obtain ⟨hx, hb, hml, hown, hts, hN0, hAO, hK, hdf, hdl, hcr, hsr, hA, hnn⟩ := id C
  subst hown0
  exact va_get hx hb hts hws hown hK hP q0 he hc k0 hk (hts _ hlk) (fun _ h => h) hv hdg (k p l e R s m args below meth c A H0 D Q C E H locs ls hl hP hD hS)
theorem A_putF {own C0 : String} {T : u_T} {N ci idx k0 a : Nat} {fs : List Value} {v : Value} {ty : Nat → FieldType} (hini : t.2.1.name = "<init>") (hown0 : t.1 = own) (hws : ∀ w ∈ u_ws C0 T N, w ∈ TB) (hty : ∀ k, k < N → parseFieldDescriptor (T k).2.2.1 = some (ty k)) (hnm : ∀ a, a < N → ∀ b, b < N → a ≠ b → (T a).2.1 ≠ (T b).2.1) (hc : vwCl[ci]? = some (C0, T, N)) (hlk : Cond.fieldLink own idx (T k0).1 (T k0).2.1 (T k0).2.2.1 ∈ TB) (q0 : Nat) (he : ws[q0]? = some (a, .inr (ci, fs))) (hk : k0 < N) (hfin : (T k0).2.2.2 = true) (hdecl : (T k0).1 = own) (hn : narrow (ty k0) v = v) (hfit : fits (ty k0) v = true) (hl : k0 < fs.length) (hw2 : ws.set q0 (a, .inr (ci, fs.set k0 v)) = ws2) (hdg : decode t.2.2.1 pc = .ok (.putfield idx, 3)) (k : GAX t d mc ms cA X (pc + 3) L st ws2 nc ns) : GAX t d mc ms cA X pc L (v :: .ref a :: st) ws nc ns := by
  intro p l e R s m args below meth c A H0 D Q C E H locs ls hlv hP hD hS
  obtain ⟨hx, hb, hml, hown, hts, hN0, hAO, hK, hdf, hdl, hcr, hsr, hA, hnn⟩ := id C
  subst hown0; subst hw2
  exact va_putF hx hb hts hws ty hty hnm hown hK hP hD hS q0 he hc k0 hk (hts _ hlk) (fun _ h => h) hfin (hnn hini) hdecl (hty k0 hk) hn hfit hl hdg (fun H1 locs1 hP1 hD1 hS1 => k p l e R s m args below meth c A H0 D Q C E H1 locs1 ls hlv hP1 hD1 hS1)
theorem A_put {own C0 : String} {T : u_T} {N ci idx k0 a : Nat} {fs : List Value} {v : Value} {ty : Nat → FieldType} (hown0 : t.1 = own) (hws : ∀ w ∈ u_ws C0 T N, w ∈ TB) (hty : ∀ k, k < N → parseFieldDescriptor (T k).2.2.1 = some (ty k)) (hnm : ∀ a, a < N → ∀ b, b < N → a ≠ b → (T a).2.1 ≠ (T b).2.1) (hc : vwCl[ci]? = some (C0, T, N)) (hlk : Cond.fieldLink own idx (T k0).1 (T k0).2.1 (T k0).2.2.1 ∈ TB) (q0 : Nat) (he : ws[q0]? = some (a, .inr (ci, fs))) (hk : k0 < N) (hfin : (T k0).2.2.2 = false) (hn : narrow (ty k0) v = v) (hfit : fits (ty k0) v = true) (hl : k0 < fs.length) (hw2 : ws.set q0 (a, .inr (ci, fs.set k0 v)) = ws2) (hdg : decode t.2.2.1 pc = .ok (.putfield idx, 3)) (k : GAX t d mc ms cA X (pc + 3) L st ws2 nc ns) : GAX t d mc ms cA X pc L (v :: .ref a :: st) ws nc ns := by
  intro p l e R s m args below meth c A H0 D Q C E H locs ls hlv hP hD hS
  obtain ⟨hx, hb, hml, hown, hts, hN0, hAO, hK, hdf, hdl, hcr, hsr, hA, hnn⟩ := id C
  subst hown0; subst hw2
  exact va_put hx hb hts hws ty hty hnm hown hK hP hD hS q0 he hc k0 hk (hts _ hlk) (fun _ h => h) hfin (hty k0 hk) hn hfit hl hdg (fun H1 locs1 hP1 hD1 hS1 => k p l e R s m args below meth c A H0 D Q C E H1 locs1 ls hlv hP1 hD1 hS1)
theorem A_iast {a n : Nat} {f f2 : Nat → Int32} {i x : Int32} (q0 : Nat) (he : ws[q0]? = some (a, .inl (cA 0, n, .inl f))) (hin : vp_in i n) (hf : upd f i.toNatClampNeg x = f2) (hw2 : ws.set q0 (a, .inl (cA 0, n, .inl f2)) = ws2) (hdg : decode t.2.2.1 pc = .ok (.iastore, 1)) (k : GAX t d mc ms cA X (pc + 1) L st ws2 nc ns) : GAX t d mc ms cA X pc L (.int x :: .int i :: .ref a :: st) ws nc ns := by
  intro p l e R s m args below meth c A H0 D Q C E H locs ls hlv hP hD hS
  subst hf; subst hw2
  exact va_iast C.1 C.2.1 C.2.2.2.2.2.2.2.1 hP hD hS q0 0 he rfl hin hdg (fun H1 locs1 hP1 hD1 hS1 => k p l e R s m args below meth c A H0 D Q C E H1 locs1 ls hlv hP1 hD1 hS1)
theorem A_astq {a n v j ci : Nat} {C0 : String} {T : u_T} {N : Nat} {vs : List Value} {f f2 : Nat → Option Nat} {i : Int32} (q0 qk : Nat) (he : ws[q0]? = some (a, .inl (cA j, n, .inr (.inr (.inr (.inr f)))))) (hty : (tysA cA)[j]? = some (cA j, .object C0)) (hv : ws[qk]? = some (v, .inr (ci, vs))) (hc : vwCl[ci]? = some (C0, T, N)) (hin : vp_in i n) (hf : va_up f i.toNatClampNeg (some v) = f2) (hw2 : ws.set q0 (a, .inl (cA j, n, .inr (.inr (.inr (.inr f2))))) = ws2) (hdg : decode t.2.2.1 pc = .ok (.aastore, 1)) (k : GAX t d mc ms cA X (pc + 1) L st ws2 nc ns) : GAX t d mc ms cA X pc L (.ref v :: .int i :: .ref a :: st) ws nc ns := by
  intro p l e R s m args below meth c A H0 D Q C E H locs ls hlv hP hD hS
  subst hf; subst hw2
  exact va_astq C.1 C.2.1 C.2.2.2.2.2.2.2.1 hP hD hS q0 j qk ci (r := (C0, T, N)) he hty hv hc hin hdg (fun H1 locs1 hP1 hD1 hS1 => k p l e R s m args below meth c A H0 D Q C E H1 locs1 ls hlv hP1 hD1 hS1)
end A1
def PreA (cA : Nat → ClassId) (D : va_G) (sz : Nat) (ws : va_W) : State → Prop := fun U => U.heap.size = sz ∧ va_P D vwCl ws U.heap ∧ va_K D vwCl (tysA cA) U ∧ va_D (fun _ => True) ws ∧ (∀ w ∈ nestA, va_Nw w U) ∧ AOs U
def PostA (cA : Nat → ClassId) (D : va_G) (A : Nat → Prop) (F : va_W → Prop) : Array Value → State → Outcome → State → Prop := fun _ st oc t => (oc = .returned none ∧ (∃ ws : va_W, F ws ∧ va_P D vwCl ws t.heap ∧ va_D A ws) ∧ va_K D vwCl (tysA cA) t) ∧ va_F A st t
/-- what a constructor does: from these cells to cells as F says; so many cells and slots are made -/
def SpecA (t : MT) (d mc ms : Nat) (as : List Value) (ws : (Nat → ClassId) → va_W) (F : (Nat → ClassId) → va_W → Prop) : Prop :=
  ∀ (l : Launch) (cA : Nat → ClassId) (D : va_G) (sz : Nat), Met l t.2.1 (wsM t) ({ frames := d, cells := mc, slots := ms, locals := 64 * d } : Room) (va_Pc as (PreA cA D sz (ws cA))) (PostA cA D (va_A (ws cA) sz) (F cA)) mc ms (va_A (ws cA) sz)
theorem preA_blind {cA : Nat → ClassId} {D : va_G} {sz : Nat} {ws : va_W} {av : List Value} : FrameBlind (va_Pc av (PreA cA D sz ws)) := by
  intro a U g mk q
  obtain ⟨q0, q1, qP, qK, qD, qN, qO⟩ := q
  exact ⟨q0, q1, qP, va_K.moved (u := U) (U := U.calling g mk a) (Vm.Alike.refl U.vm) qK, qD, fun w hw => va_Nw.same (nestA_on w hw) (u := U) (U := U.calling g mk a) rfl (qN w hw), va_AO.moved (u := U) (U := U.calling g mk a) (Vm.Alike.refl U.vm) qO.1, va_AO.moved (u := U) (U := U.calling g mk a) (Vm.Alike.refl U.vm) qO.2⟩
theorem SpecA_of {t : MT} {d mc ms : Nat} {as : List Value} {ws : (Nat → ClassId) → va_W} {F : (Nat → ClassId) → va_W → Prop} {L : List (Nat × Value)} (hy : plainName t.2.1.cls = true) (hown : t.2.1.cls = t.1) (hret : t.2.2.2.2 = none) (hn : (lg_sl as).length ≤ t.2.2.2.1) (hL : lv_args 0 as = L) (k : ∀ cA, GA t d mc ms cA (F cA) 0 L [] (ws cA) 0 0) : SpecA t d mc ms as ws F := by
  intro l cA D sz
  refine Met.ofW (cc := t.2.2.1) (maxL := t.2.2.2.1) (ret := t.2.2.2.2) hy rfl ?_
  intro p e s m args below meth c s₁ B hml hv
  obtain ⟨rfl, hsz, hP, hK, hD0, hN, hO⟩ := hv
  have hx := B.exec
  have hb := B.bytes
  have hr := B.returns
  have hts := atoms_spec (ws := wsM t) B.pre
  have hownc : s.vm.findClass t.1 = some m.cls := by rw [← hown]; exact findClass_of_methodNamed B.named
  have hlocks := B.notSynchronized
  subst hsz
  have hDA : va_D (va_A (ws cA) s.heap.size) (ws cA) := hD0.self (sz := s.heap.size)
  have hC : CtxA t d mc ms p (headSpec (wsM t) ({ frames := d, cells := mc, slots := ms, locals := 64 * d } : Room)).room s m as.toArray meth c (va_A (ws cA) s.heap.size) s.heap cA D :=
    ⟨hx, hb, hml, hownc, fun w hw => hts w (List.mem_cons_of_mem _ hw), hN, hO, hK, Nat.le_refl _, Nat.le_refl _, Nat.le_refl _, Nat.le_refl _, fun q h => Or.inr h, fun h => by rw [← h]; exact (name_of_methodNamed B.named B.method).1⟩
  have hl := lv_entry as (n := t.2.2.2.1) hn
  rw [hL] at hl
  rw [lg_entry_eq]
  refine k cA p l e _ s m _ below meth c _ s.heap D _ hC ?_ s.heap [] _ hl hP hDA va_S.rf
  intro H locs ls pc w2 hF hP' hD' hS hdg
  exact W.vret hx hb (hr.trans hret) (fun tt ht hW => ⟨⟨rfl, ⟨w2, hF, by rw [ht]; exact hP', hD'⟩, va_K.moved hW.alike hK⟩, hS.F ht⟩) hS.2.2 hdg
section A2
variable {t t2 : MT} {d d2 mc ms mc2 ms2 idx n : Nat} {cA : Nat → ClassId} {F : va_W → Prop} {X : CtxP} {F2 : (Nat → ClassId) → va_W → Prop} {pc nc ns : Nat} {L : List (Nat × Value)} {st st0 as : List Value} {ws wr : va_W} {wc : (Nat → ClassId) → va_W}
theorem W_made {p : Program} {l : Launch} {e : Env} {R : Room} {s : State} {m : MethodId} {args : Array Value} {below : List Frame} {meth : Method} {c : Code} {H : Heap} {locs : List Loc} {cells slots : Nat} {Q : State → Prop} {ls : Array Slot} {rest st1 : List Value} {a : Array Value} {A0 A1 : Nat → Prop} {H0 : Heap} {D : va_G} {G2 : va_W → Prop}
    (hr : va_Run p l e R s m args below meth c H locs cells slots mc2 ms2 (F0 m pc ls st1) rest (PostA cA D A1 G2 a) A1) (hS : va_S A0 H0 H locs) (hA : ∀ q, A1 q → A0 q)
    (kk : ∀ (w : va_W) (H1 : Heap) (locs1 : List Loc), G2 w → va_P D vwCl w H1 → va_D A1 w → (∀ q : Nat, q < H.size → ¬ A1 q → H1[q]? = H[q]?) → va_S A0 H0 H1 locs1 → W p l e R s m args below meth c H1 locs1 (cells + mc2) (slots + ms2) Q (F0 m (pc + 3) ls rest)) : W p l e R s m args below meth c H locs cells slots Q (F0 m pc ls st1) := by
  intro T hT X
  obtain ⟨v, st₀, t, T', L, h0, X', hL, e1, e2, ⟨⟨hv, ⟨w, hw, hP1, hD1⟩, -⟩, hz, hk⟩, st⟩ := hr T hT X
  cases hv
  rw [h0] at hz hk
  obtain ⟨t2, a1, b1⟩ := kk w T'.heap (locs ++ L) hw (by rw [e1]; exact hP1) hD1 (fun q h1 h2 => by rw [e1]; exact hk q h1 h2)
    ⟨Nat.le_trans hS.1 (by rw [e1]; exact hz), fun q h1 h2 => by rw [e1, hk q (Nat.lt_of_lt_of_le h1 hS.1) (fun z => h2 (hA q z))]; exact hS.2.1 q h1 h2, fun q hq => by
      rcases List.mem_append.mp hq with h | h
      · exact hS.2.2 q h
      · exact hA _ (hL q h)⟩ T' rfl X'
  exact ⟨t2, st t2 a1, b1⟩
def okI (t2 : MT) (n : Nat) : Prop := okM t2 n ∧ Cond.instanceMethod t2.2.1 ∈ TB ∧ t2.2.1.name = "<init>" ∧ t2.2.2.2.2 = none
theorem A_callI {b : Nat} (hs : SpecA t2 d2 mc2 ms2 (.ref b :: as) wc F2) (ho : okI t2 n) (hlk : Cond.methodLink t.1 idx t2.2.1 ∈ TB ∨ Cond.methodLinkNest t.1 idx t2.2.1 "PotHandles" ∈ nestA) (hd : d2 + 1 ≤ d) (hn : as.length = n) (hst : st0 = as.reverse ++ .ref b :: st) (hcat : (st.map fun v => v.category).sum ≤ 8) (isC isR : List Nat) (hC : isC.map (fun i => ws[i]?) = (wc cA).map some) (hR : isR.map (fun i => ws[i]?) = wr.map some) (hnd : va_nd isR = true) (hndC : va_nd isC = true) (hdis : ∀ i ∈ isR, i ∉ isC) (hn1 : nc + mc2 ≤ mc) (hn2 : ns + ms2 ≤ ms) (hdg : decode t.2.2.1 pc = .ok (.invokespecial idx, 3)) (k : ∀ w, F2 cA w → GAX t d mc ms cA X (pc + 3) L st (wr ++ w) (nc + mc2) (ns + ms2)) : GAX t d mc ms cA X pc L st0 ws nc ns := by
  intro p l e R s m args below meth c A H0 D Q C E H locs ls hl hP hD hS
  obtain ⟨⟨⟨h1, h2, h3⟩, h4, h5, h6⟩, h7, h8, h9⟩ := ho
  obtain ⟨hx, hb, hml, hown, hts, hN0, hAO, hK, hdf, hdl, hcr, hsr, hA, hnn⟩ := id C
  have hF := va_free hD hS hA isC hC
  have hPc : va_P D vwCl (wc cA) H := by
    intro k q hq
    have g1 : (isC.map (fun i => ws[i]?))[k]? = some (some q) := by rw [hC, List.getElem?_map, hq]; rfl
    rw [List.getElem?_map] at g1
    cases hi : isC[k]? with
    | none => rw [hi] at g1; cases g1
    | some i => rw [hi] at g1; exact hP i q (Option.some.inj g1)
  have hDc : va_D (fun _ => True) (wc cA) := (hD.sub isC hndC hC).weaken (fun _ _ _ _ => trivial)
  have hT : GoodIn TB (wsM t2) := goodTB fun w hw => by
    rcases List.mem_cons.mp hw with rfl | hw
    · exact h6
    · exact hw
  have hyb : t2.2.1 = t2.2.1 := rfl
  have pre : PreS s H (va_Pc (.ref b :: as) (PreA cA D H.size (wc cA))) (.ref b :: as) := ⟨preA_blind, fun U hU hW => ⟨rfl, by rw [hU], by rw [hU]; exact hPc, va_K.moved hW.alike hK, hDc, nestA_warm hW hN0, va_AO.moved hW.alike hAO.1, va_AO.moved hW.alike hAO.2⟩⟩
  have run : va_Run p l e R s m args below meth c H locs nc ns mc2 ms2 (F0 m pc ls st0) st (PostA cA D (va_A (wc cA) H.size) (F2 cA) (Value.ref b :: as).toArray) (va_A (wc cA) H.size) := by
    have hwc : wsM t2 = Cond.code t2.2.1 t2.2.2.1 t2.2.2.2.1 none :: TB := by unfold wsM; rw [h9]
    rcases hlk with hlk | hlk
    · exact va_runI (As := as) (rest := st) (n := n) ⟨hx, hb, hml, hown, hts⟩ (hs l cA D H.size) (cwI n hts hT hwc rfl rfl (hts _ h5) (hts _ hlk) (hts _ h7) h8 h4 ⟨by show d2 + 1 ≤ _; omega, by show 8 + (t2.2.2.2.1 + 11) + 64 * d2 ≤ _; omega⟩) pre rfl hn hl.1 hst (lv_room hcat) hdg ⟨by omega, by omega⟩
    · exact va_runIN (As := as) (rest := st) (n := n) ⟨hx, hb, hml, hown, hts⟩ (hs l cA D H.size) ⟨va_cnB n hts hT hwc rfl rfl (hN0 _ hlk) (hts _ h5) h4 ⟨by show d2 + 1 ≤ _; omega, by show 8 + (t2.2.2.2.1 + 11) + 64 * d2 ≤ _; omega⟩, h8, hts _ h7⟩ pre rfl hn hl.1 hst (lv_room hcat) hdg ⟨by omega, by omega⟩
  refine W_made run hS hF (fun w H1 locs1 hw hP1 hD1 hk1 hS1 => ?_)
  obtain ⟨hP2, hD2⟩ := va_join hP hD isC isR hC hR hnd hdis hk1 hF hP1 hD1
  exact k w hw p l e R s m args below meth c A H0 D Q C E H1 locs1 ls hl hP2 hD2 hS1
theorem A_callS (hs : SpecA t2 d2 mc2 ms2 as wc F2) (ho : okS t2 n) (hret : t2.2.2.2.2 = none) (hlk : Cond.methodLink t.1 idx t2.2.1 ∈ TB) (hd : d2 + 1 ≤ d) (hn : as.length = n) (hst : st0 = as.reverse ++ st) (hcat : (st.map fun v => v.category).sum ≤ 8) (isC isR : List Nat) (hC : isC.map (fun i => ws[i]?) = (wc cA).map some) (hR : isR.map (fun i => ws[i]?) = wr.map some) (hnd : va_nd isR = true) (hndC : va_nd isC = true) (hdis : ∀ i ∈ isR, i ∉ isC) (hn1 : nc + mc2 ≤ mc) (hn2 : ns + ms2 ≤ ms) (hdg : decode t.2.2.1 pc = .ok (.invokestatic idx, 3)) (k : ∀ w, F2 cA w → GAX t d mc ms cA X (pc + 3) L st (wr ++ w) (nc + mc2) (ns + ms2)) : GAX t d mc ms cA X pc L st0 ws nc ns := by
  intro p l e R s m args below meth c A H0 D Q C E H locs ls hl hP hD hS
  obtain ⟨⟨⟨h1, h2, h3⟩, h4, h5, h6⟩, h7⟩ := ho
  obtain ⟨hx, hb, hml, hown, hts, hN0, hAO, hK, hdf, hdl, hcr, hsr, hA, hnn⟩ := id C
  have hF := va_free hD hS hA isC hC
  have hPc : va_P D vwCl (wc cA) H := by
    intro k q hq
    have g1 : (isC.map (fun i => ws[i]?))[k]? = some (some q) := by rw [hC, List.getElem?_map, hq]; rfl
    rw [List.getElem?_map] at g1
    cases hi : isC[k]? with
    | none => rw [hi] at g1; cases g1
    | some i => rw [hi] at g1; exact hP i q (Option.some.inj g1)
  have hDc : va_D (fun _ => True) (wc cA) := (hD.sub isC hndC hC).weaken (fun _ _ _ _ => trivial)
  have hT : GoodIn TB (va_wsS t.1 idx t2.2.1 (wsM t2)) := goodTB fun w hw => by
    rcases List.mem_append.mp hw with hw | hw
    · rcases List.mem_cons.mp hw with rfl | hw
      · exact hlk
      rcases List.mem_cons.mp hw with rfl | hw
      · exact h7
      rcases List.mem_cons.mp hw with rfl | hw
      · exact h5
      cases hw
    · rcases List.mem_cons.mp hw with rfl | hw
      · exact h6
      · exact hw
  have run := va_runS (p := p) (l := l) (e := e) (R := R) (below := below) (meth := meth) (H := H) (locs := locs) (cells := nc) (slots := ns) (g := F0 m pc ls st0) (As := as) (rest := st) (n := n) ⟨hx, hb, hml, hown, hts⟩ (hs l cA D H.size) (va_cwS n hts hT rfl rfl rfl h4 ⟨by show d2 + 1 ≤ _; omega, by show 8 + (t2.2.2.2.1 + 11) + 64 * d2 ≤ _; omega⟩) ⟨preA_blind, fun U hU hW => ⟨rfl, by rw [hU], by rw [hU]; exact hPc, va_K.moved hW.alike hK, hDc, nestA_warm hW hN0, va_AO.moved hW.alike hAO.1, va_AO.moved hW.alike hAO.2⟩⟩ rfl hn hl.1 hst (lv_room hcat) hdg ⟨by omega, by omega⟩
  refine W_made run hS hF (fun w H1 locs1 hw hP1 hD1 hk1 hS1 => ?_)
  obtain ⟨hP2, hD2⟩ := va_join hP hD isC isR hC hR hnd hdis hk1 hF hP1 hD1
  exact k w hw p l e R s m args below meth c A H0 D Q C E H1 locs1 ls hl hP2 hD2 hS1
end A2
