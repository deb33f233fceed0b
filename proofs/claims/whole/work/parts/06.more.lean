section MORE
variable {X : CtxX} {t : MT} {d : Nat} {r : Option AV} {M' : MM} {pc : Nat} {L : List (Nat × AV)} {st : List AV} {M : MM}
theorem G_alen {f i : Nat} {v : Int32} (hf : f < 32) (hi : i < fCnt f) (hcl : ¬ fCls f < 9) (he0 : fElt f = 0) (hv : Int32.ofNat (fLen f) = v) (hdg : decode t.2.2.1 pc = .ok (.arraylength, 1)) (k : GX X t d r M' (pc + 1) L (.inl v :: st) M) : GX X t d r M' pc L (.inr (.inr (f, i)) :: st) M := by
  intro p l e R s m args below meth c cells slots A H0 ad cA D Q Cx Xh F H locs ls hl hP hS
  have he : (world ad cA M)[fOff f + i]? = some (ad f i, .inl (cA 0, fLen f, .inl (fun j => rdM M f i j))) := by
    rw [world_at hf hi, cellE_arr hcl]
    unfold arrF
    rw [he0]
    rfl
  exact va_alen Cx.1 Cx.2.1 Cx.2.2.2.2.2.2.1 hP (fOff f + i) 0 he rfl hv hdg (k p l e R s m args below meth c cells slots A H0 ad cA D Q Cx Xh F H locs ls hl hP hS)
theorem G_alenb {f i : Nat} {v : Int32} (hf : f < 32) (hi : i < fCnt f) (hcl : ¬ fCls f < 9) (he0 : fElt f = 1) (hv : Int32.ofNat (fLen f) = v) (hdg : decode t.2.2.1 pc = .ok (.arraylength, 1)) (k : GX X t d r M' (pc + 1) L (.inl v :: st) M) : GX X t d r M' pc L (.inr (.inr (f, i)) :: st) M := by
  intro p l e R s m args below meth c cells slots A H0 ad cA D Q Cx Xh F H locs ls hl hP hS
  have he : (world ad cA M)[fOff f + i]? = some (ad f i, .inl (cA 1, fLen f, .inl (fun j => nbB (rdM M f i j)))) := by
    rw [world_at hf hi, cellE_arr hcl]
    unfold arrF
    rw [he0]
    rfl
  exact va_alen Cx.1 Cx.2.1 Cx.2.2.2.2.2.2.1 hP (fOff f + i) 1 he rfl hv hdg (k p l e R s m args below meth c cells slots A H0 ad cA D Q Cx Xh F H locs ls hl hP hS)
theorem G_eq {x y : Int32} (e : y = x) (k : GX X t d r M' pc L (.inl y :: st) M) : GX X t d r M' pc L (.inl x :: st) M := e ▸ k
theorem let_eq {α : Type} {x y : Int32} {f : Int32 → α} {z : α} (e : y = x) (h : (let v : Int32 := x; f v) = z) : f y = z := by
  subst e
  exact h
end MORE
