def argL : Nat → List AV → List (Nat × AV)
  | _, [] => []
  | i, v :: vs => (i, v) :: argL (if av2 v = true then i + 2 else i + 1) vs
def argW (as : List AV) : Nat := (as.map fun v => if av2 v = true then 2 else 1).sum
theorem cat_av2 {ad : Nat → Nat → Nat} (v : AV) : (cv ad v).category = 2 ↔ av2 v = true := by
  rcases v with x | y | q
  · exact ⟨fun h => (by cases h), fun h => (by cases h)⟩
  · exact ⟨fun _ => rfl, fun _ => rfl⟩
  · exact ⟨fun h => (by cases h), fun h => (by cases h)⟩
theorem argL_map {ad : Nat → Nat → Nat} (vs : List AV) : ∀ i, lv_args i (vs.map (cv ad)) = (argL i vs).map (fun q => (q.1, cv ad q.2)) := by
  induction vs with
  | nil => intro i; rfl
  | cons v vs ih =>
    intro i
    show (i, cv ad v) :: lv_args _ (vs.map (cv ad)) = (i, cv ad v) :: (argL _ vs).map _
    rw [ih]
    by_cases h : av2 v = true
    · rw [if_pos h, if_pos ((cat_av2 v).mpr h)]
    · rw [if_neg h, if_neg (fun e => h ((cat_av2 v).mp e))]
theorem argW_len {ad : Nat → Nat → Nat} (vs : List AV) : (lg_sl (vs.map (cv ad))).length = argW vs := by
  induction vs with
  | nil => rfl
  | cons v vs ih =>
    have e : lg_sl ((v :: vs).map (cv ad)) = (if (cv ad v).category = 2 then [.val (cv ad v), .second] else [.val (cv ad v)]) ++ lg_sl (vs.map (cv ad)) := rfl
    have e2 : argW (v :: vs) = (if av2 v = true then 2 else 1) + argW vs := rfl
    rw [e, e2, List.length_append, ih]
    by_cases h : av2 v = true
    · rw [if_pos h, if_pos ((cat_av2 v).mpr h)]; rfl
    · rw [if_neg h, if_neg (fun e => h ((cat_av2 v).mp e))]; rfl
def PreG (ad : Nat → Nat → Nat) (cA : Nat → ClassId) (D : va_G) (sz : Nat) (M : MM) : State → Prop := fun U => U.heap.size = sz ∧ va_P D vwCl (world ad cA M) U.heap ∧ va_K D vwCl (tysA cA) U ∧ va_D (fun _ => True) (world ad cA M) ∧ ∀ w ∈ nestL, va_Nw w U
def PostG (ad : Nat → Nat → Nat) (cA : Nat → ClassId) (D : va_G) (A : Nat → Prop) (r : Option AV) (M' : MM) : Array Value → State → Outcome → State → Prop := fun _ st oc t => (oc = .returned (r.map (cv ad)) ∧ va_P D vwCl (world ad cA M') t.heap ∧ va_K D vwCl (tysA cA) t) ∧ va_F A st t
/-- A METHOD'S CONTRACT: called with these values in this memory it returns, with this answer and this memory; d: how deep its calls may go -/
def Spec (t : MT) (d : Nat) (as : List AV) (M : MM) (r : Option AV) (M' : MM) : Prop :=
  ∀ (l : Launch) (ad : Nat → Nat → Nat) (cA : Nat → ClassId) (D : va_G) (sz : Nat), Met l t.2.1 (wsM t) (roomD d) (va_Pc (as.map (cv ad)) (PreG ad cA D sz M)) (PostG ad cA D (va_A (world ad cA M) sz) r M') 0 0 (va_A (world ad cA M) sz)
theorem nest_on : ∀ w ∈ nestL, w.onTables = true := by
  intro w hw
  rcases List.mem_cons.mp hw with rfl | hw
  · rfl
  rcases List.mem_cons.mp hw with rfl | hw
  · rfl
  cases hw
theorem nest_warm {s U : State} (hW : s.WarmedH U.vm) (h : ∀ w ∈ nestL, va_Nw w s) : ∀ w ∈ nestL, va_Nw w U := by
  intro w hw
  have h1 := h w hw
  rcases List.mem_cons.mp hw with rfl | hw
  · exact va_Nw.warmM hW h1
  rcases List.mem_cons.mp hw with rfl | hw
  · exact va_Nw.warmM hW h1
  cases hw
theorem pre_blind {ad : Nat → Nat → Nat} {cA : Nat → ClassId} {D : va_G} {sz : Nat} {M : MM} {av : List Value} : FrameBlind (va_Pc av (PreG ad cA D sz M)) := by
  intro a U g mk q
  obtain ⟨q0, q1, qP, qK, qD, qN⟩ := q
  exact ⟨q0, q1, qP, va_K.moved (u := U) (U := U.calling g mk a) (Vm.Alike.refl U.vm) qK, qD, fun w hw => va_Nw.same (nest_on w hw) (u := U) (U := U.calling g mk a) rfl (qN w hw)⟩
theorem Spec_of_G {t : MT} {d : Nat} {as : List AV} {M M' : MM} {r : Option AV} (hy : plainName t.2.1.cls = true) (hown : t.2.1.cls = t.1) (hn : argW as ≤ t.2.2.2.1) (k : G t d r M' 0 (argL 0 as) [] M) : Spec t d as M r M' := by
  intro l ad cA D sz
  refine Met.ofW (cc := t.2.2.1) (maxL := t.2.2.2.1) (ret := t.2.2.2.2) hy rfl ?_
  intro p e s m args below meth c s₁ B hml hv
  obtain ⟨rfl, hsz, hP, hK, hD0, hN⟩ := hv
  have hx := B.exec
  have hb := B.bytes
  have hr := B.returns
  have hts := atoms_spec (ws := wsM t) B.pre
  have hownc : s.vm.findClass t.1 = some m.cls := by rw [← hown]; exact findClass_of_methodNamed B.named
  have hlocks := B.notSynchronized
  subst hsz
  have hDA : va_D (va_A (world ad cA M) s.heap.size) (world ad cA M) := hD0.self (sz := s.heap.size)
  have hC : CtxG t d p (headSpec (wsM t) (roomD d)).room s m (as.map (cv ad)).toArray c 0 0 (va_A (world ad cA M) s.heap.size) s.heap ad cA D :=
    ⟨hx, hb, hml, hownc, fun w hw => hts w (List.mem_cons_of_mem _ hw), hN, hK, Nat.le_refl _, Nat.le_refl _, Nat.zero_le _, Nat.zero_le _, fun q h => Or.inr h, fun M2 => va_D_world hDA⟩
  have hl := lv_entry (as.map (cv ad)) (n := t.2.2.2.1) (by rw [argW_len]; exact hn)
  rw [argL_map] at hl
  rw [lg_entry_eq]
  refine k p l e _ s m _ below meth c 0 0 _ s.heap ad cA D _ hC trivial ?_ s.heap [] _ hl hP va_S.rf
  intro H locs ls pc hP' hS hdg hro
  have hq : ∀ tt : State, tt.heap = H → s.WarmedH tt.vm → PostG ad cA D (va_A (world ad cA M) s.heap.size) r M' (as.map (cv ad)).toArray s (.returned (r.map (cv ad))) tt :=
    fun tt ht hW => ⟨⟨rfl, by rw [ht]; exact hP', va_K.moved hW.alike hK⟩, hS.F ht⟩
  rcases r with _ | x | y | q
  · cases hret : t.2.2.2.2 with
    | none => exact W.vret hx hb (hr.trans hret) hq hS.2.2 hdg
    | some ty => rw [hret] at hro; cases ty <;> exact hro.elim
  · cases hret : t.2.2.2.2 with
    | none => rw [hret] at hro; exact hro.elim
    | some ty =>
      rw [hret] at hro
      cases ty <;> first
        | exact False.elim hro
        | exact W.iret hx hb (hr.trans hret) hq hS.2.2 hdg
        | (refine W.zret hx hb (hr.trans hret) ?_ hq hS.2.2 hdg
           rcases (show x = 0 ∨ x = 1 from hro) with rfl | rfl <;> rfl)
  · cases hret : t.2.2.2.2 with
    | none => rw [hret] at hro; exact hro.elim
    | some ty => rw [hret] at hro; cases ty <;> exact hro.elim
  · cases hret : t.2.2.2.2 with
    | none => rw [hret] at hro; exact hro.elim
    | some ty =>
      rw [hret] at hro
      cases ty <;> first
        | exact W.aret hx hb (hr.trans hret) (Or.inl ⟨_, rfl⟩) (Or.inr ⟨_, rfl⟩) hq hS.2.2 hdg
        | exact hro.elim
theorem goodTB {ws : List Cond} (h : ∀ w ∈ ws, w ∈ TB) : GoodIn TB ws := fun w hw => ⟨h w hw, good_of_word (List.mem_filter.mp (h w hw)).2⟩
/-- a callee's words: its code, that it stands ready -/
def okM (t2 : MT) (n : Nat) : Prop := (t2.2.1.cls = t2.1 ∧ t2.2.2.2.1 ≤ 45 ∧ plainName t2.2.1.cls = true) ∧ (t2.2.1.cls ≠ "java/lang/invoke/MethodHandle" ∧ t2.2.1.cls ≠ "java/lang/invoke/VarHandle" ∧ (parseMethodDescriptor t2.2.1.desc).map (fun d => d.parameters.length) = some n) ∧ Cond.initialized t2.2.1.cls ∈ TB ∧ Cond.code t2.2.1 t2.2.2.1 t2.2.2.2.1 t2.2.2.2.2 ∈ TB
def okV (t2 : MT) (n : Nat) : Prop := okM t2 n ∧ Cond.instanceMethod t2.2.1 ∈ TB ∧ Cond.selects t2.2.1.cls t2.2.1 t2.2.1 ∈ TB
def okS (t2 : MT) (n : Nat) : Prop := okM t2 n ∧ Cond.static t2.2.1 ∈ TB
section CALL
variable {X : CtxX} {t t2 : MT} {d d2 idx n : Nat} {r r1 : Option AV} {M' M1 : MM} {pc : Nat} {L : List (Nat × AV)} {st st0 as : List AV} {M : MM}
theorem W_called {p : Program} {l : Launch} {e : Env} {R : Room} {s : State} {m : MethodId} {args : Array Value} {below : List Frame} {meth : Method} {c : Code} {H : Heap} {locs : List Loc} {cells slots : Nat} {Q : State → Prop} {ls : Array Slot} {rest st1 : List Value} {a : Array Value} {A0 A1 : Nat → Prop} {H0 : Heap} {ad : Nat → Nat → Nat} {cA : Nat → ClassId} {D : va_G}
    (hr : va_Run p l e R s m args below meth c H locs cells slots 0 0 (F0 m pc ls st1) rest (PostG ad cA D A1 r1 M1 a) A1) (hS : va_S A0 H0 H locs) (hA : ∀ q, A1 q → A0 q)
    (kk : ∀ (H1 : Heap) (locs1 : List Loc), va_P D vwCl (world ad cA M1) H1 → va_S A0 H0 H1 locs1 → W p l e R s m args below meth c H1 locs1 cells slots Q (F0 m (pc + 3) ls ((r1.map (cv ad)).toList ++ rest))) : W p l e R s m args below meth c H locs cells slots Q (F0 m pc ls st1) := by
  intro T hT X
  obtain ⟨v, st₀, t, T', L, h0, X', hL, e1, e2, ⟨⟨hv, hP1, -⟩, hz, hk⟩, st⟩ := hr T hT X
  cases hv
  rw [h0] at hz hk
  obtain ⟨t2, a1, b1⟩ := kk T'.heap (locs ++ L) (by rw [e1]; exact hP1)
    ⟨Nat.le_trans hS.1 (by rw [e1]; exact hz), fun q h1 h2 => by rw [e1, hk q (Nat.lt_of_lt_of_le h1 hS.1) (fun z => h2 (hA q z))]; exact hS.2.1 q h1 h2, fun q hq => by
      rcases List.mem_append.mp hq with h | h
      · exact hS.2.2 q h
      · exact hA _ (hL q h)⟩ T' rfl X'
  exact ⟨t2, st t2 a1, b1⟩
theorem map_opt {ad : Nat → Nat → Nat} : (r1.map (cv ad)).toList ++ st.map (cv ad) = (r1.toList ++ st).map (cv ad) := by
  cases r1 <;> rfl
theorem cat_sum {ad : Nat → Nat → Nat} (st : List AV) : ((st.map (cv ad)).map fun v => v.category).sum = argW st := by
  induction st with
  | nil => rfl
  | cons v st ih =>
    rw [List.map_cons, List.map_cons, List.sum_cons, ih]
    show (cv ad v).category + _ = (if av2 v = true then 2 else 1) + argW st
    congr 1
    rcases v with x | y | q <;> rfl
theorem free_in {A : Nat → Prop} {H0 H : Heap} {locs : List Loc} {ad : Nat → Nat → Nat} {cA : Nat → ClassId} (hD : va_D A (world ad cA M)) (hS : va_S A H0 H locs) (hA : ∀ q : Nat, H0.size ≤ q → A q) : ∀ q, va_A (world ad cA M) H.size q → A q := by
  intro q h
  rcases h with ⟨k, e, h⟩ | h
  · exact hD.2 k (q, e) h
  · exact hA q (Nat.le_trans hS.1 h)
theorem G_callS (hs : Spec t2 d2 as M r1 M1) (ho : okS t2 n) (hlk : Cond.methodLink t.1 idx t2.2.1 ∈ TB) (hd : d2 + 1 ≤ d) (hn : as.length = n) (hst : st0 = as.reverse ++ st) (hcat : argW st ≤ 8) (hdg : decode t.2.2.1 pc = .ok (.invokestatic idx, 3)) (k : GX X t d r M' (pc + 3) L (r1.toList ++ st) M1) : GX X t d r M' pc L st0 M := by
  intro p l e R s m args below meth c cells slots A H0 ad cA D Q Cx Xh F H locs ls hl hP hS
  obtain ⟨⟨⟨h1, h2, h3⟩, h4, h5, h6⟩, h7⟩ := ho
  obtain ⟨hx, hb, hml, hown, hts, hN, hK, hdf, hdl, hc, hsl, hA, hD⟩ := id Cx
  have hF := free_in (hD M) hS hA
  have hT : GoodIn TB (va_wsS t.1 idx t2.2.1 (wsM t2)) := goodTB fun w hw => by
    rcases List.mem_append.mp hw with hw | hw
    · rcases List.mem_cons.mp hw with rfl | hw
      · exact hlk
      rcases List.mem_cons.mp hw with rfl | hw
      · exact h7
      rcases List.mem_cons.mp hw with rfl | hw
      · exact h5
      cases hw
    · rcases List.mem_cons.mp hw with rfl | hw
      · exact h6
      · exact hw
  refine W_called (va_runS (As := as.map (cv ad)) (rest := st.map (cv ad)) (n := n) ⟨hx, hb, hml, hown, hts⟩ (hs l ad cA D H.size) (va_cwS n hts hT rfl rfl rfl h4 ⟨by show d2 + 1 ≤ _; omega, by show 8 + (t2.2.2.2.1 + 11) + 64 * d2 ≤ _; omega⟩) ⟨pre_blind, fun U hU hW => ⟨rfl, by rw [hU], by rw [hU]; exact hP, va_K.moved hW.alike hK, (hD M).weaken (fun _ _ _ _ => trivial), nest_warm hW hN⟩⟩ rfl (by rw [List.length_map, hn]) hl.1 (by rw [hst, List.map_append, List.map_reverse]) (lv_room (by rw [cat_sum]; exact hcat)) hdg ⟨hc, hsl⟩) hS hF (fun H1 locs1 hP1 hS1 => ?_)
  rw [map_opt]
  exact k p l e R s m args below meth c cells slots A H0 ad cA D Q Cx Xh F H1 locs1 ls hl hP1 hS1
theorem G_callSN (hs : Spec t2 d2 as M r1 M1) (ho : okS t2 n) (hlk : Cond.methodLinkNest t.1 idx t2.2.1 "PotHandles" ∈ nestL) (hd : d2 + 1 ≤ d) (hn : as.length = n) (hst : st0 = as.reverse ++ st) (hcat : argW st ≤ 8) (hdg : decode t.2.2.1 pc = .ok (.invokestatic idx, 3)) (k : GX X t d r M' (pc + 3) L (r1.toList ++ st) M1) : GX X t d r M' pc L st0 M := by
  intro p l e R s m args below meth c cells slots A H0 ad cA D Q Cx Xh F H locs ls hl hP hS
  obtain ⟨⟨⟨h1, h2, h3⟩, h4, h5, h6⟩, h7⟩ := ho
  obtain ⟨hx, hb, hml, hown, hts, hN, hK, hdf, hdl, hc, hsl, hA, hD⟩ := id Cx
  have hF := free_in (hD M) hS hA
  have hT : GoodIn TB (wsM t2) := goodTB fun w hw => by
    rcases List.mem_cons.mp hw with rfl | hw
    · exact h6
    · exact hw
  refine W_called (va_runSN (As := as.map (cv ad)) (rest := st.map (cv ad)) (n := n) ⟨hx, hb, hml, hown, hts⟩ (hs l ad cA D H.size) ⟨va_cnB n hts hT rfl rfl rfl (hN _ hlk) (hts _ h5) h4 ⟨by show d2 + 1 ≤ _; omega, by show 8 + (t2.2.2.2.1 + 11) + 64 * d2 ≤ _; omega⟩, hts _ h7, trivial⟩ ⟨pre_blind, fun U hU hW => ⟨rfl, by rw [hU], by rw [hU]; exact hP, va_K.moved hW.alike hK, (hD M).weaken (fun _ _ _ _ => trivial), nest_warm hW hN⟩⟩ rfl (by rw [List.length_map, hn]) hl.1 (by rw [hst, List.map_append, List.map_reverse]) (lv_room (by rw [cat_sum]; exact hcat)) hdg ⟨hc, hsl⟩) hS hF (fun H1 locs1 hP1 hS1 => ?_)
  rw [map_opt]
  exact k p l e R s m args below meth c cells slots A H0 ad cA D Q Cx Xh F H1 locs1 ls hl hP1 hS1
theorem G_callV {f i : Nat} {T : u_T} {N : Nat} (hs : Spec t2 d2 (.inr (.inr (f, i)) :: as) M r1 M1) (ho : okV t2 n) (hlk : Cond.methodLink t.1 idx t2.2.1 ∈ TB) (hd : d2 + 1 ≤ d) (hn : as.length = n) (hf : f < 32) (hi : i < fCnt f) (hcl : fCls f < 9) (hvw : vwCl[fCls f]? = some (t2.1, T, N)) (hst : st0 = as.reverse ++ .inr (.inr (f, i)) :: st) (hcat : argW st ≤ 8) (hdg : decode t.2.2.1 pc = .ok (.invokevirtual idx, 3)) (k : GX X t d r M' (pc + 3) L (r1.toList ++ st) M1) : GX X t d r M' pc L st0 M := by
  intro p l e R s m args below meth c cells slots A H0 ad cA D Q Cx Xh F H locs ls hl hP hS
  obtain ⟨⟨⟨h1, h2, h3⟩, h4, h5, h6⟩, h7, h8⟩ := ho
  obtain ⟨hx, hb, hml, hown, hts, hN, hK, hdf, hdl, hc, hsl, hA, hD⟩ := id Cx
  have hF := free_in (hD M) hS hA
  have he : (world ad cA M)[fOff f + i]? = some (ad f i, .inr (fCls f, (List.range (fNum (fCls f))).map (fun k => cv ad (fldV f i k M)))) := by rw [world_at hf hi, cellE_obj hcl]
  have hT : GoodIn TB (wsV t.1 idx t2.1 t2.2.1 (wsM t2)) := goodTB fun w hw => by
    rcases List.mem_append.mp hw with hw | hw
    · rcases List.mem_cons.mp hw with rfl | hw
      · exact hlk
      rcases List.mem_cons.mp hw with rfl | hw
      · exact h7
      rcases List.mem_cons.mp hw with rfl | hw
      · rw [← h1]; exact h8
      rcases List.mem_cons.mp hw with rfl | hw
      · rw [← h1]; exact h5
      cases hw
    · rcases List.mem_cons.mp hw with rfl | hw
      · exact h6
      · exact hw
  refine W_called (va_runV (C := t2.1) (b := ad f i) (As := as.map (cv ad)) (rest := st.map (cv ad)) (n := n) ⟨hx, hb, hml, hown, hts⟩ (hs l ad cA D H.size) (cwV n hts hT rfl rfl rfl ⟨h1, h4⟩ ⟨by show d2 + 1 ≤ _; omega, by show 8 + (t2.2.2.2.1 + 11) + 64 * d2 ≤ _; omega⟩) ⟨pre_blind, va_recv (q := (t2.1, T, N)) hK hP hvw he, fun U hU hW => ⟨rfl, by rw [hU], by rw [hU]; exact hP, va_K.moved hW.alike hK, (hD M).weaken (fun _ _ _ _ => trivial), nest_warm hW hN⟩⟩ rfl (by rw [List.length_map, hn]) hl.1 (by rw [hst, List.map_append, List.map_reverse]; rfl) (lv_room (by rw [cat_sum]; exact hcat)) hdg ⟨hc, hsl⟩) hS hF (fun H1 locs1 hP1 hS1 => ?_)
  rw [map_opt]
  exact k p l e R s m args below meth c cells slots A H0 ad cA D Q Cx Xh F H1 locs1 ls hl hP1 hS1
def jmax (x y : Int32) : Int32 := if x < y then y else x
def jmin (x y : Int32) : Int32 := if y < x then y else x
theorem G_max {x y : Int32} (hlk : Cond.methodLink t.1 idx Lib.Math.max.name ∈ TB) (hst : Cond.static Lib.Math.max.name ∈ TB) (hin : Cond.initialized "java/lang/Math" ∈ TB) (hcd : Cond.code Lib.Math.max.name Lib.Math.max.code 2 (some .int) ∈ TB) (hd : 1 ≤ d) (hcat : argW st ≤ 8) (hdg : decode t.2.2.1 pc = .ok (.invokestatic idx, 3)) (k : GX X t d r M' (pc + 3) L (.inl (jmax x y) :: st) M) : GX X t d r M' pc L (.inl y :: .inl x :: st) M := by
  intro p l e R s m args below meth c cells slots A H0 ad cA D Q Cx Xh F H locs ls hl hP hS
  obtain ⟨hx, hb, hml, hown, hts, hN, hK, hdf, hdl, hc, hsl, hA, hD⟩ := id Cx
  exact va_mmax hx hb (hml.trans hl.1.symm) hown (hts _ hlk) (hts _ hst) (hts _ hin) (hts _ hcd) (by omega) (by rw [cat_sum]; omega) hc hsl hdg (k p l e R s m args below meth c cells slots A H0 ad cA D Q Cx Xh F H locs ls hl hP hS)
theorem G_min {x y : Int32} (hlk : Cond.methodLink t.1 idx Lib.Math.min.name ∈ TB) (hst : Cond.static Lib.Math.min.name ∈ TB) (hin : Cond.initialized "java/lang/Math" ∈ TB) (hcd : Cond.code Lib.Math.min.name Lib.Math.min.code 2 (some .int) ∈ TB) (hd : 1 ≤ d) (hcat : argW st ≤ 8) (hdg : decode t.2.2.1 pc = .ok (.invokestatic idx, 3)) (k : GX X t d r M' (pc + 3) L (.inl (jmin x y) :: st) M) : GX X t d r M' pc L (.inl y :: .inl x :: st) M := by
  intro p l e R s m args below meth c cells slots A H0 ad cA D Q Cx Xh F H locs ls hl hP hS
  obtain ⟨hx, hb, hml, hown, hts, hN, hK, hdf, hdl, hc, hsl, hA, hD⟩ := id Cx
  exact va_mmin hx hb (hml.trans hl.1.symm) hown (hts _ hlk) (hts _ hst) (hts _ hin) (hts _ hcd) (by omega) (by rw [cat_sum]; omega) hc hsl hdg (k p l e R s m args below meth c cells slots A H0 ad cA D Q Cx Xh F H locs ls hl hP hS)
theorem G_bast {f i : Nat} {x v : Int32} {M2 : MM} (hf : f < 32) (hi : i < fCnt f) (hcl : ¬ fCls f < 9) (he0 : fElt f = 1) (hin : ib x (fLen f) = true) (hM2 : wrM M f i x.toNatClampNeg v = M2) (hdg : decode t.2.2.1 pc = .ok (.bastore, 1)) (k : GX X t d r M' (pc + 1) L st M2) : GX X t d r M' pc L (.inl v :: .inl x :: .inr (.inr (f, i)) :: st) M := by
  intro p l e R s m args below meth c cells slots A H0 ad cA D Q Cx Xh F H locs ls hl hP hS
  subst hM2
  have he : ∀ M : MM, (world ad cA M)[fOff f + i]? = some (ad f i, .inl (cA 1, fLen f, .inl (fun j => nbB (rdM M f i j)))) := by
    intro M
    rw [world_at hf hi, cellE_arr hcl]
    unfold arrF
    rw [he0]
    rfl
  have e0 : upd (fun j => nbB (rdM M f i j)) x.toNatClampNeg (vp_nar .byte v) = (fun j => nbB (rdM (wrM M f i x.toNatClampNeg v) f i j)) := by
    funext j
    rw [rd_wr_eq]
    by_cases h : j = x.toNatClampNeg
    · subst h; simp [upd]; rfl
    · simp [upd, h]
  have e1 : (world ad cA M).set (fOff f + i) (ad f i, .inl (cA 1, fLen f, .inl (upd (fun j => nbB (rdM M f i j)) x.toNatClampNeg (vp_nar .byte v)))) = world ad cA (wrM M f i x.toNatClampNeg v) := by
    rw [e0, ← world_set (M := M) hf hi rd_wr_other, cellE_arr hcl]
    unfold arrF
    rw [he0]
    rfl
  refine va_bast Cx.1 Cx.2.1 Cx.2.2.2.2.2.2.1 hP (Cx.2.2.2.2.2.2.2.2.2.2.2.2 M) hS (fOff f + i) 1 (he M) rfl (ib_in hin) hdg (fun H1 locs1 hP1 hD1 hS1 => ?_)
  rw [e1] at hP1
  exact k p l e R s m args below meth c cells slots A H0 ad cA D Q Cx Xh F H1 locs1 ls hl hP1 hS1
end CALL
/-- numbers are copied between two rows of the class's -/
def cpM (M : MM) (f i sp g j dp n : Nat) : MM := (cp3 M.1 f i sp g j dp n, M.2)
theorem rd_cp {M : MM} {f i sp g j dp n f' i' k' : Nat} (hf : f < 19) (hg : g < 19) : rdM (cpM M f i sp g j dp n) f' i' k' = if f' = g ∧ i' = j ∧ dp ≤ k' ∧ k' < dp + n then rdM M f i (sp + (k' - dp)) else rdM M f' i' k' := by
  unfold rdM cpM cp3
  by_cases h : f' < 19
  · simp [h, hf]
  · have : ¬ f' = g := by omega
    simp [h, this]
theorem fits_nbB (x : Int32) : fits .byte (.int (nbB x)) = true := by
  have e : (nbB x).toInt = x.toInt8.toInt := Int8.toInt_toInt32 _
  have h1 := Int8.le_toInt x.toInt8
  have h2 := Int8.toInt_lt x.toInt8
  show (decide (-128 ≤ nbB x) && decide (nbB x ≤ 127)) = true
  rw [Bool.and_eq_true, decide_eq_true_eq, decide_eq_true_eq, Int32.le_iff_toInt_le, Int32.le_iff_toInt_le, e]
  exact ⟨h1, by have : (127 : Int32).toInt = 127 := rfl
                omega⟩
section CPY
variable {X : CtxX} {t : MT} {d idx : Nat} {r : Option AV} {M' : MM} {pc : Nat} {L : List (Nat × AV)} {st : List AV} {M : MM}
/-- what may be copied: both places within -/
def cpok (sp dp n : Int32) (n0 n1 : Nat) : Bool := decide (¬ sp < 0 ∧ ¬ dp < 0 ∧ ¬ n < 0 ∧ sp.toNatClampNeg + n.toNatClampNeg ≤ n0 ∧ dp.toNatClampNeg + n.toNatClampNeg ≤ n1)
theorem G_copy {f i g j : Nat} {sp dp n : Int32} {M2 : MM} (hlk : Cond.methodLink t.1 idx arraycopyName ∈ TB) (hnat : Cond.native arraycopyName ∈ TB) (hsta : Cond.static arraycopyName ∈ TB) (hini : Cond.initialized "java/lang/System" ∈ TB) (hf : f < 19) (hi : i < fCnt f) (hg : g < 19) (hj : j < fCnt g) (hcl : ¬ fCls f < 9) (hclg : ¬ fCls g < 9) (he0 : (fElt f = 0 ∧ fElt g = 0) ∨ (fElt f = 1 ∧ fElt g = 1)) (hin : cpok sp dp n (fLen f) (fLen g) = true) (hd : 1 ≤ d) (hst : st = []) (hM2 : cpM M f i sp.toNatClampNeg g j dp.toNatClampNeg n.toNatClampNeg = M2) (hdg : decode t.2.2.1 pc = .ok (.invokestatic idx, 3)) (k : GX X t d r M' (pc + 3) L st M2) : GX X t d r M' pc L (.inl n :: .inl dp :: .inr (.inr (g, j)) :: .inl sp :: .inr (.inr (f, i)) :: st) M := by
  intro p l e R s m args below meth c cells slots A H0 ad cA D Q Cx Xh F H locs ls hl hP hS
  subst hM2; subst hst
  obtain ⟨hx, hb, hml, hown, hts, hN, hK, hdf, hdl, hc, hsl, hA, hD⟩ := id Cx
  obtain ⟨b1, b2, b3, b4, b5⟩ := of_decide_eq_true hin
  have hnf : nativeFrameWords "java/lang/System" "arraycopy" 5 + 11 ≤ 64 := by decide +kernel
  have hw0 : ∀ f' i', ¬ (f' = g ∧ i' = j) → ∀ k', rdM (cpM M f i sp.toNatClampNeg g j dp.toNatClampNeg n.toNatClampNeg) f' i' k' = rdM M f' i' k' := fun f' i' h k' => by
    rw [rd_cp hf hg, if_neg (fun e => h ⟨e.1, e.2.1⟩)]
  rcases he0 with ⟨z1, z2⟩ | ⟨z1, z2⟩
  · have he : ∀ (M : MM) (f i : Nat), f < 19 → i < fCnt f → ¬ fCls f < 9 → fElt f = 0 → (world ad cA M)[fOff f + i]? = some (ad f i, .inl (cA 0, fLen f, .inl (fun j => rdM M f i j))) := by
      intro M f i hf hi hcl he0
      rw [world_at (by omega) hi, cellE_arr hcl]
      unfold arrF
      rw [he0]
      rfl
    have e0 : va_cpy (fun j => rdM M f i j) (fun k => rdM M g j k) sp.toNatClampNeg dp.toNatClampNeg n.toNatClampNeg = (fun k => rdM (cpM M f i sp.toNatClampNeg g j dp.toNatClampNeg n.toNatClampNeg) g j k) := by
      funext k'
      rw [rd_cp hf hg]
      simp [va_cpy]
    have e1 : (world ad cA M).set (fOff g + j) (ad g j, .inl (cA 0, fLen g, .inl (va_cpy (fun j => rdM M f i j) (fun k => rdM M g j k) sp.toNatClampNeg dp.toNatClampNeg n.toNatClampNeg))) = world ad cA (cpM M f i sp.toNatClampNeg g j dp.toNatClampNeg n.toNatClampNeg) := by
      rw [e0, ← world_set (M := M) (by omega) hj hw0, cellE_arr hclg]
      unfold arrF
      rw [z2]
      rfl
    refine va_copyi hx hb (hml.trans hl.1.symm) hown (hts _ hlk) (hts _ hnat) (hts _ hsta) (hts _ hini) hK hP (hD M) hS (fOff f + i) (fOff g + j) 0 0 (he M f i hf hi hcl z1) (he M g j hg hj hclg z2) rfl rfl rfl b1 b2 b3 b4 b5 (fun _ _ => rfl) (by omega) (by show 0 + _ ≤ _; omega) hdg (fun H1 locs1 hP1 hD1 hS1 => ?_)
    rw [e1] at hP1
    exact k p l e R s m args below meth c cells slots A H0 ad cA D Q Cx Xh F H1 locs1 ls hl hP1 hS1
  · have he : ∀ (M : MM) (f i : Nat), f < 19 → i < fCnt f → ¬ fCls f < 9 → fElt f = 1 → (world ad cA M)[fOff f + i]? = some (ad f i, .inl (cA 1, fLen f, .inl (fun j => nbB (rdM M f i j)))) := by
      intro M f i hf hi hcl he0
      rw [world_at (by omega) hi, cellE_arr hcl]
      unfold arrF
      rw [he0]
      rfl
    have e0 : va_cpy (fun j => nbB (rdM M f i j)) (fun k => nbB (rdM M g j k)) sp.toNatClampNeg dp.toNatClampNeg n.toNatClampNeg = (fun k => nbB (rdM (cpM M f i sp.toNatClampNeg g j dp.toNatClampNeg n.toNatClampNeg) g j k)) := by
      funext k'
      rw [rd_cp hf hg]
      by_cases h : dp.toNatClampNeg ≤ k' ∧ k' < dp.toNatClampNeg + n.toNatClampNeg <;> simp [va_cpy, h]
    have e1 : (world ad cA M).set (fOff g + j) (ad g j, .inl (cA 1, fLen g, .inl (va_cpy (fun j => nbB (rdM M f i j)) (fun k => nbB (rdM M g j k)) sp.toNatClampNeg dp.toNatClampNeg n.toNatClampNeg))) = world ad cA (cpM M f i sp.toNatClampNeg g j dp.toNatClampNeg n.toNatClampNeg) := by
      rw [e0, ← world_set (M := M) (by omega) hj hw0, cellE_arr hclg]
      unfold arrF
      rw [z2]
      rfl
    refine va_copyi hx hb (hml.trans hl.1.symm) hown (hts _ hlk) (hts _ hnat) (hts _ hsta) (hts _ hini) hK hP (hD M) hS (fOff f + i) (fOff g + j) 1 1 (he M f i hf hi hcl z1) (he M g j hg hj hclg z2) rfl rfl rfl b1 b2 b3 b4 b5 (fun k _ => ?_) (by omega) (by show 0 + _ ≤ _; omega) hdg (fun H1 locs1 hP1 hD1 hS1 => ?_)
    · exact fits_nbB _
    rw [e1] at hP1
    exact k p l e R s m args below meth c cells slots A H0 ad cA D Q Cx Xh F H1 locs1 ls hl hP1 hS1
end CPY
