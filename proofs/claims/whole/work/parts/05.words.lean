theorem tbm {w : Cond} (i : Nat) (h : tables_1[i]? = some w) (g : goodWord w = true) : w ∈ TB := List.mem_filter.mpr ⟨List.mem_append_right _ (List.mem_of_getElem? h), g⟩
theorem tbs (q : MethodName × Nat) (i : Nat) (h : lw_privs[i]? = some q) : Cond.selects q.1.cls q.1 q.1 ∈ TB := List.mem_filter.mpr ⟨List.mem_append_left _ (List.mem_map.mpr ⟨q, List.mem_of_getElem? h, rfl⟩), rfl⟩
theorem up3_eq {M : Mem} {f i k : Nat} {v : Int32} : up3 M f i k v f i k = v := if_pos ⟨rfl, rfl, rfl⟩
theorem up3_f {M : Mem} {f i k f' i' k' : Nat} {v : Int32} (h : ¬ f' = f) : up3 M f i k v f' i' k' = M f' i' k' := if_neg (fun e => h e.1)
theorem up3_k {M : Mem} {f i k f' i' k' : Nat} {v : Int32} (h : ¬ k' = k) : up3 M f i k v f' i' k' = M f' i' k' := if_neg (fun e => h e.2.1)
theorem cp3_f {M : Mem} {f i sp g j dp n f' i' k' : Nat} (h : ¬ f' = g) : cp3 M f i sp g j dp n f' i' k' = M f' i' k' := if_neg (fun e => h e.1)
theorem nbZ_nbZ (x : Int32) : nbZ (nbZ x) = nbZ x := by
  unfold nbZ
  by_cases h : x = 0 <;> simp [h]
theorem chk {p : Prop} [Decidable p] {α : Type} {A : Option α} {res : α} (h : (if p then A else none) = some res) : p ∧ A = some res := by
  by_cases hp : p
  · exact ⟨hp, (if_pos hp).symm.trans h⟩
  · cases (if_neg hp).symm.trans h
theorem chkn {p : Prop} [Decidable p] {α : Type} {A : Option α} {res : α} (h : (if p then none else A) = some res) : ¬ p ∧ A = some res := by
  by_cases hp : p
  · cases (if_pos hp).symm.trans h
  · exact ⟨hp, (if_neg hp).symm.trans h⟩
theorem bnd {α β : Type} {a : Option α} {f : α → Option β} {res : β} (h : a.bind f = some res) : ∃ q, a = some q ∧ f q = some res := Option.bind_eq_some_iff.mp h
theorem ne_lit {x v : Int32} {n : Int} (hn : v.toInt = n) (h : ¬ x = v) : x.toInt ≠ n := fun e => h (Int32.toInt_inj.mp (e.trans hn.symm))
section SW
variable {X : CtxX} {t : MT} {d : Nat} {r : Option AV} {M' : MM} {pc : Nat} {L : List (Nat × AV)} {st : List AV} {M : MM}
theorem G_tableEq {dflt lo hi : Int} {offs : Array Int} {len : Nat} {x v : Int32} {off : Int} {tgt : Nat} (hx : x = v) (hdg : decode t.2.2.1 pc = .ok (.tableswitch dflt lo hi offs, len)) (h1 : ¬ v.toInt < lo) (h2 : ¬ hi < v.toInt) (ho : offs[(v.toInt - lo).toNat]? = some off) (ht : (pc : Int) + off = (tgt : Int)) (k : GX X t d r M' tgt L st M) : GX X t d r M' pc L (.inl x :: st) M := by
  subst hx
  exact G_tableIn hdg h1 h2 ho ht k
theorem G_lookEq {dflt : Int} {ps : Array (Int × Int)} {len : Nat} {x v : Int32} {off : Int} {tgt : Nat} (hx : x = v) (hdg : decode t.2.2.1 pc = .ok (.lookupswitch dflt ps, len)) (hp : (ps.toList.zip (ps.toList.drop 1)).all (fun (a, next) => a.1 < next.1) = true) (ho : Op.lookupswitch.offset ps.toList dflt v.toInt = off) (ht : (pc : Int) + off = (tgt : Int)) (k : GX X t d r M' tgt L st M) : GX X t d r M' pc L (.inl x :: st) M := by
  subst hx
  exact G_lookup hdg hp ho ht k
theorem G_callSv {t2 : MT} {d2 idx n : Nat} {st0 as : List AV} {v : AV} {M1 : MM} (hs : Spec t2 d2 as M (some v) M1) (ho : okS t2 n) (hlk : Cond.methodLink t.1 idx t2.2.1 ∈ TB) (hd : d2 + 1 ≤ d) (hn : as.length = n) (hst : st0 = as.reverse ++ st) (hcat : argW st ≤ 8) (hdg : decode t.2.2.1 pc = .ok (.invokestatic idx, 3)) (k : GX X t d r M' (pc + 3) L (v :: st) M1) : GX X t d r M' pc L st0 M := G_callS hs ho hlk hd hn hst hcat hdg k
theorem G_callSn {t2 : MT} {d2 idx n : Nat} {st0 as : List AV} {M1 : MM} (hs : Spec t2 d2 as M none M1) (ho : okS t2 n) (hlk : Cond.methodLink t.1 idx t2.2.1 ∈ TB) (hd : d2 + 1 ≤ d) (hn : as.length = n) (hst : st0 = as.reverse ++ st) (hcat : argW st ≤ 8) (hdg : decode t.2.2.1 pc = .ok (.invokestatic idx, 3)) (k : GX X t d r M' (pc + 3) L st M1) : GX X t d r M' pc L st0 M := G_callS hs ho hlk hd hn hst hcat hdg k
theorem G_callSNv {t2 : MT} {d2 idx n : Nat} {st0 as : List AV} {v : AV} {M1 : MM} (hs : Spec t2 d2 as M (some v) M1) (ho : okS t2 n) (hlk : Cond.methodLinkNest t.1 idx t2.2.1 "PotHandles" ∈ nestL) (hd : d2 + 1 ≤ d) (hn : as.length = n) (hst : st0 = as.reverse ++ st) (hcat : argW st ≤ 8) (hdg : decode t.2.2.1 pc = .ok (.invokestatic idx, 3)) (k : GX X t d r M' (pc + 3) L (v :: st) M1) : GX X t d r M' pc L st0 M := G_callSN hs ho hlk hd hn hst hcat hdg k
theorem G_callVv {t2 : MT} {d2 idx n f i : Nat} {st0 as : List AV} {v : AV} {M1 : MM} {T : u_T} {N : Nat} (hs : Spec t2 d2 (.inr (.inr (f, i)) :: as) M (some v) M1) (ho : okV t2 n) (hlk : Cond.methodLink t.1 idx t2.2.1 ∈ TB) (hd : d2 + 1 ≤ d) (hn : as.length = n) (hf : f < 32) (hi : i < fCnt f) (hcl : fCls f < 9) (hvw : vwCl[fCls f]? = some (t2.1, T, N)) (hst : st0 = as.reverse ++ .inr (.inr (f, i)) :: st) (hcat : argW st ≤ 8) (hdg : decode t.2.2.1 pc = .ok (.invokevirtual idx, 3)) (k : GX X t d r M' (pc + 3) L (v :: st) M1) : GX X t d r M' pc L st0 M := G_callV hs ho hlk hd hn hf hi hcl hvw hst hcat hdg k
theorem G_callVn {t2 : MT} {d2 idx n f i : Nat} {st0 as : List AV} {M1 : MM} {T : u_T} {N : Nat} (hs : Spec t2 d2 (.inr (.inr (f, i)) :: as) M none M1) (ho : okV t2 n) (hlk : Cond.methodLink t.1 idx t2.2.1 ∈ TB) (hd : d2 + 1 ≤ d) (hn : as.length = n) (hf : f < 32) (hi : i < fCnt f) (hcl : fCls f < 9) (hvw : vwCl[fCls f]? = some (t2.1, T, N)) (hst : st0 = as.reverse ++ .inr (.inr (f, i)) :: st) (hcat : argW st ≤ 8) (hdg : decode t.2.2.1 pc = .ok (.invokevirtual idx, 3)) (k : GX X t d r M' (pc + 3) L st M1) : GX X t d r M' pc L st0 M := G_callV hs ho hlk hd hn hf hi hcl hvw hst hcat hdg k
end SW
abbrev mt_J7_fill_53178 : MT := (RJ7, yJ7_fill_53178, cJ7_fill_53178, 4, none)
set_option maxRecDepth 100000 in
theorem ok_J7_fill_53178 : okS mt_J7_fill_53178 2 := ⟨⟨⟨rfl, by decide, by decide⟩, ⟨by decide, by decide, by decide +kernel⟩, tbm 4 (by decide +kernel) rfl, tbm 49 (by decide +kernel) rfl⟩, tbm 48 (by decide +kernel) rfl⟩
abbrev mt_X7_house : MT := (RX7, yX7_house, cX7_house, 6, (some .int))
set_option maxRecDepth 100000 in
theorem ok_X7_house : okV mt_X7_house 3 := ⟨⟨⟨rfl, by decide, by decide⟩, ⟨by decide, by decide, by decide +kernel⟩, tbm 1 (by decide +kernel) rfl, tbm 257 (by decide +kernel) rfl⟩, tbm 255 (by decide +kernel) rfl, tbm 256 (by decide +kernel) rfl⟩
abbrev mt_X7_isHouse : MT := (RX7, yX7_isHouse, cX7_isHouse, 1, (some .boolean))
set_option maxRecDepth 100000 in
theorem ok_X7_isHouse : okS mt_X7_isHouse 1 := ⟨⟨⟨rfl, by decide, by decide⟩, ⟨by decide, by decide, by decide +kernel⟩, tbm 1 (by decide +kernel) rfl, tbm 260 (by decide +kernel) rfl⟩, tbm 259 (by decide +kernel) rfl⟩
abbrev mt_X7_isWithin : MT := (RX7, yX7_isWithin, cX7_isWithin, 2, (some .boolean))
set_option maxRecDepth 100000 in
theorem ok_X7_isWithin : okS mt_X7_isWithin 2 := ⟨⟨⟨rfl, by decide, by decide⟩, ⟨by decide, by decide, by decide +kernel⟩, tbm 1 (by decide +kernel) rfl, tbm 263 (by decide +kernel) rfl⟩, tbm 262 (by decide +kernel) rfl⟩
abbrev mt_X7_fail : MT := (RX7, yX7_fail, cX7_fail, 2, (some .int))
set_option maxRecDepth 100000 in
theorem ok_X7_fail : okV mt_X7_fail 1 := ⟨⟨⟨rfl, by decide, by decide⟩, ⟨by decide, by decide, by decide +kernel⟩, tbm 1 (by decide +kernel) rfl, tbm 267 (by decide +kernel) rfl⟩, tbm 266 (by decide +kernel) rfl, tbs (yX7_fail, 10) 0 (by decide +kernel)⟩
abbrev mt_X7_ofHouse : MT := (RX7, yX7_ofHouse, cX7_ofHouse, 3, (some .int))
set_option maxRecDepth 100000 in
theorem ok_X7_ofHouse : okV mt_X7_ofHouse 2 := ⟨⟨⟨rfl, by decide, by decide⟩, ⟨by decide, by decide, by decide +kernel⟩, tbm 1 (by decide +kernel) rfl, tbm 272 (by decide +kernel) rfl⟩, tbm 270 (by decide +kernel) rfl, tbm 271 (by decide +kernel) rfl⟩
abbrev mt_X1_potsIn : MT := (RX1, yX1_potsIn, cX1_potsIn, 4, (some .int))
set_option maxRecDepth 100000 in
theorem ok_X1_potsIn : okV mt_X1_potsIn 1 := ⟨⟨⟨rfl, by decide, by decide⟩, ⟨by decide, by decide, by decide +kernel⟩, tbm 2 (by decide +kernel) rfl, tbm 276 (by decide +kernel) rfl⟩, tbm 274 (by decide +kernel) rfl, tbm 275 (by decide +kernel) rfl⟩
abbrev mt_X7_pot : MT := (RX7, yX7_pot, cX7_pot, 4, (some .int))
set_option maxRecDepth 100000 in
theorem ok_X7_pot : okV mt_X7_pot 3 := ⟨⟨⟨rfl, by decide, by decide⟩, ⟨by decide, by decide, by decide +kernel⟩, tbm 1 (by decide +kernel) rfl, tbm 280 (by decide +kernel) rfl⟩, tbm 278 (by decide +kernel) rfl, tbm 279 (by decide +kernel) rfl⟩
abbrev mt_X7_isKindWithNumber : MT := (RX7, yX7_isKindWithNumber, cX7_isKindWithNumber, 1, (some .boolean))
set_option maxRecDepth 100000 in
theorem ok_X7_isKindWithNumber : okS mt_X7_isKindWithNumber 1 := ⟨⟨⟨rfl, by decide, by decide⟩, ⟨by decide, by decide, by decide +kernel⟩, tbm 1 (by decide +kernel) rfl, tbm 283 (by decide +kernel) rfl⟩, tbm 282 (by decide +kernel) rfl⟩
abbrev mt_X3_begin : MT := (RX3, yX3_begin, cX3_begin, 4, none)
set_option maxRecDepth 100000 in
theorem ok_X3_begin : okV mt_X3_begin 3 := ⟨⟨⟨rfl, by decide, by decide⟩, ⟨by decide, by decide, by decide +kernel⟩, tbm 5 (by decide +kernel) rfl, tbm 287 (by decide +kernel) rfl⟩, tbm 285 (by decide +kernel) rfl, tbm 286 (by decide +kernel) rfl⟩
abbrev mt_X7_ofPot : MT := (RX7, yX7_ofPot, cX7_ofPot, 4, (some .int))
set_option maxRecDepth 100000 in
theorem ok_X7_ofPot : okV mt_X7_ofPot 2 := ⟨⟨⟨rfl, by decide, by decide⟩, ⟨by decide, by decide, by decide +kernel⟩, tbm 1 (by decide +kernel) rfl, tbm 291 (by decide +kernel) rfl⟩, tbm 289 (by decide +kernel) rfl, tbm 290 (by decide +kernel) rfl⟩
abbrev mt_X1_has : MT := (RX1, yX1_has, cX1_has, 2, (some .boolean))
set_option maxRecDepth 100000 in
theorem ok_X1_has : okV mt_X1_has 1 := ⟨⟨⟨rfl, by decide, by decide⟩, ⟨by decide, by decide, by decide +kernel⟩, tbm 2 (by decide +kernel) rfl, tbm 295 (by decide +kernel) rfl⟩, tbm 293 (by decide +kernel) rfl, tbm 294 (by decide +kernel) rfl⟩
abbrev mt_X3_wants : MT := (RX3, yX3_wants, cX3_wants, 1, (some .int))
set_option maxRecDepth 100000 in
theorem ok_X3_wants : okV mt_X3_wants 0 := ⟨⟨⟨rfl, by decide, by decide⟩, ⟨by decide, by decide, by decide +kernel⟩, tbm 5 (by decide +kernel) rfl, tbm 299 (by decide +kernel) rfl⟩, tbm 297 (by decide +kernel) rfl, tbm 298 (by decide +kernel) rfl⟩
abbrev mt_X3_bears : MT := (RX3, yX3_bears, cX3_bears, 1, (some .int))
set_option maxRecDepth 100000 in
theorem ok_X3_bears : okV mt_X3_bears 0 := ⟨⟨⟨rfl, by decide, by decide⟩, ⟨by decide, by decide, by decide +kernel⟩, tbm 5 (by decide +kernel) rfl, tbm 303 (by decide +kernel) rfl⟩, tbm 301 (by decide +kernel) rfl, tbm 302 (by decide +kernel) rfl⟩
abbrev mt_X7_change : MT := (RX7, yX7_change, cX7_change, 6, (some .int))
set_option maxRecDepth 100000 in
theorem ok_X7_change : okV mt_X7_change 3 := ⟨⟨⟨rfl, by decide, by decide⟩, ⟨by decide, by decide, by decide +kernel⟩, tbm 1 (by decide +kernel) rfl, tbm 307 (by decide +kernel) rfl⟩, tbm 305 (by decide +kernel) rfl, tbm 306 (by decide +kernel) rfl⟩
abbrev mt_X7_shift : MT := (RX7, yX7_shift, cX7_shift, 5, (some .int))
set_option maxRecDepth 100000 in
theorem ok_X7_shift : okV mt_X7_shift 2 := ⟨⟨⟨rfl, by decide, by decide⟩, ⟨by decide, by decide, by decide +kernel⟩, tbm 1 (by decide +kernel) rfl, tbm 311 (by decide +kernel) rfl⟩, tbm 309 (by decide +kernel) rfl, tbm 310 (by decide +kernel) rfl⟩
abbrev mt_X3_goTo : MT := (RX3, yX3_goTo, cX3_goTo, 2, none)
set_option maxRecDepth 100000 in
theorem ok_X3_goTo : okV mt_X3_goTo 1 := ⟨⟨⟨rfl, by decide, by decide⟩, ⟨by decide, by decide, by decide +kernel⟩, tbm 5 (by decide +kernel) rfl, tbm 315 (by decide +kernel) rfl⟩, tbm 313 (by decide +kernel) rfl, tbm 314 (by decide +kernel) rfl⟩
abbrev mt_X7_stick : MT := (RX7, yX7_stick, cX7_stick, 3, (some .int))
set_option maxRecDepth 100000 in
theorem ok_X7_stick : okV mt_X7_stick 1 := ⟨⟨⟨rfl, by decide, by decide⟩, ⟨by decide, by decide, by decide +kernel⟩, tbm 1 (by decide +kernel) rfl, tbm 319 (by decide +kernel) rfl⟩, tbm 317 (by decide +kernel) rfl, tbm 318 (by decide +kernel) rfl⟩
abbrev mt_X3_canTakeFalseHandle : MT := (RX3, yX3_canTakeFalseHandle, cX3_canTakeFalseHandle, 1, (some .boolean))
set_option maxRecDepth 100000 in
theorem ok_X3_canTakeFalseHandle : okV mt_X3_canTakeFalseHandle 0 := ⟨⟨⟨rfl, by decide, by decide⟩, ⟨by decide, by decide, by decide +kernel⟩, tbm 5 (by decide +kernel) rfl, tbm 323 (by decide +kernel) rfl⟩, tbm 321 (by decide +kernel) rfl, tbm 322 (by decide +kernel) rfl⟩
abbrev mt_X3_takeFalseHandle : MT := (RX3, yX3_takeFalseHandle, cX3_takeFalseHandle, 1, none)
set_option maxRecDepth 100000 in
theorem ok_X3_takeFalseHandle : okV mt_X3_takeFalseHandle 0 := ⟨⟨⟨rfl, by decide, by decide⟩, ⟨by decide, by decide, by decide +kernel⟩, tbm 5 (by decide +kernel) rfl, tbm 327 (by decide +kernel) rfl⟩, tbm 325 (by decide +kernel) rfl, tbm 326 (by decide +kernel) rfl⟩
abbrev mt_X7_become : MT := (RX7, yX7_become, cX7_become, 5, (some .int))
set_option maxRecDepth 100000 in
theorem ok_X7_become : okV mt_X7_become 2 := ⟨⟨⟨rfl, by decide, by decide⟩, ⟨by decide, by decide, by decide +kernel⟩, tbm 1 (by decide +kernel) rfl, tbm 331 (by decide +kernel) rfl⟩, tbm 329 (by decide +kernel) rfl, tbm 330 (by decide +kernel) rfl⟩
abbrev mt_X7_as : MT := (RX7, yX7_as, cX7_as, 4, (some .int))
set_option maxRecDepth 100000 in
theorem ok_X7_as : okV mt_X7_as 2 := ⟨⟨⟨rfl, by decide, by decide⟩, ⟨by decide, by decide, by decide +kernel⟩, tbm 1 (by decide +kernel) rfl, tbm 335 (by decide +kernel) rfl⟩, tbm 333 (by decide +kernel) rfl, tbm 334 (by decide +kernel) rfl⟩
abbrev mt_X7_isUnder : MT := (RX7, yX7_isUnder, cX7_isUnder, 4, (some .boolean))
set_option maxRecDepth 100000 in
theorem ok_X7_isUnder : okS mt_X7_isUnder 2 := ⟨⟨⟨rfl, by decide, by decide⟩, ⟨by decide, by decide, by decide +kernel⟩, tbm 1 (by decide +kernel) rfl, tbm 338 (by decide +kernel) rfl⟩, tbm 337 (by decide +kernel) rfl⟩
abbrev mt_X7_kindAbove : MT := (RX7, yX7_kindAbove, cX7_kindAbove, 1, (some .int))
set_option maxRecDepth 100000 in
theorem ok_X7_kindAbove : okS mt_X7_kindAbove 1 := ⟨⟨⟨rfl, by decide, by decide⟩, ⟨by decide, by decide, by decide +kernel⟩, tbm 1 (by decide +kernel) rfl, tbm 341 (by decide +kernel) rfl⟩, tbm 340 (by decide +kernel) rfl⟩
abbrev mt_X7_feed : MT := (RX7, yX7_feed, cX7_feed, 5, (some .int))
set_option maxRecDepth 100000 in
theorem ok_X7_feed : okV mt_X7_feed 2 := ⟨⟨⟨rfl, by decide, by decide⟩, ⟨by decide, by decide, by decide +kernel⟩, tbm 1 (by decide +kernel) rfl, tbm 345 (by decide +kernel) rfl⟩, tbm 343 (by decide +kernel) rfl, tbm 344 (by decide +kernel) rfl⟩
abbrev mt_X7_text : MT := (RX7, yX7_text, cX7_text, 3, (some .int))
set_option maxRecDepth 100000 in
theorem ok_X7_text : okV mt_X7_text 1 := ⟨⟨⟨rfl, by decide, by decide⟩, ⟨by decide, by decide, by decide +kernel⟩, tbm 1 (by decide +kernel) rfl, tbm 349 (by decide +kernel) rfl⟩, tbm 347 (by decide +kernel) rfl, tbm 348 (by decide +kernel) rfl⟩
abbrev mt_X4_readTape : MT := (RX4, yX4_readTape, cX4_readTape, 4, (some .boolean))
set_option maxRecDepth 100000 in
theorem ok_X4_readTape : okV mt_X4_readTape 3 := ⟨⟨⟨rfl, by decide, by decide⟩, ⟨by decide, by decide, by decide +kernel⟩, tbm 7 (by decide +kernel) rfl, tbm 353 (by decide +kernel) rfl⟩, tbm 351 (by decide +kernel) rfl, tbm 352 (by decide +kernel) rfl⟩
abbrev mt_X2_clear : MT := (RX2, yX2_clear, cX2_clear, 1, none)
set_option maxRecDepth 100000 in
theorem ok_X2_clear : okV mt_X2_clear 0 := ⟨⟨⟨rfl, by decide, by decide⟩, ⟨by decide, by decide, by decide +kernel⟩, tbm 3 (by decide +kernel) rfl, tbm 366 (by decide +kernel) rfl⟩, tbm 364 (by decide +kernel) rfl, tbm 365 (by decide +kernel) rfl⟩
abbrev mt_X4_readLevel : MT := (RX4, yX4_readLevel, cX4_readLevel, 5, (some .boolean))
set_option maxRecDepth 100000 in
theorem ok_X4_readLevel : okV mt_X4_readLevel 2 := ⟨⟨⟨rfl, by decide, by decide⟩, ⟨by decide, by decide, by decide +kernel⟩, tbm 7 (by decide +kernel) rfl, tbm 370 (by decide +kernel) rfl⟩, tbm 369 (by decide +kernel) rfl, tbs (yX4_readLevel, 5) 1 (by decide +kernel)⟩
abbrev mt_X4_readLast : MT := (RX4, yX4_readLast, cX4_readLast, 5, (some .boolean))
set_option maxRecDepth 100000 in
theorem ok_X4_readLast : okV mt_X4_readLast 1 := ⟨⟨⟨rfl, by decide, by decide⟩, ⟨by decide, by decide, by decide +kernel⟩, tbm 7 (by decide +kernel) rfl, tbm 374 (by decide +kernel) rfl⟩, tbm 373 (by decide +kernel) rfl, tbs (yX4_readLast, 5) 2 (by decide +kernel)⟩
abbrev mt_X4_next : MT := (RX4, yX4_next, cX4_next, 1, (some .int))
set_option maxRecDepth 100000 in
theorem ok_X4_next : okV mt_X4_next 0 := ⟨⟨⟨rfl, by decide, by decide⟩, ⟨by decide, by decide, by decide +kernel⟩, tbm 7 (by decide +kernel) rfl, tbm 378 (by decide +kernel) rfl⟩, tbm 377 (by decide +kernel) rfl, tbs (yX4_next, 5) 3 (by decide +kernel)⟩
abbrev mt_X4_isDigit : MT := (RX4, yX4_isDigit, cX4_isDigit, 1, (some .boolean))
set_option maxRecDepth 100000 in
theorem ok_X4_isDigit : okS mt_X4_isDigit 1 := ⟨⟨⟨rfl, by decide, by decide⟩, ⟨by decide, by decide, by decide +kernel⟩, tbm 7 (by decide +kernel) rfl, tbm 381 (by decide +kernel) rfl⟩, tbm 380 (by decide +kernel) rfl⟩
abbrev mt_X4_readNumber : MT := (RX4, yX4_readNumber, cX4_readNumber, 3, none)
set_option maxRecDepth 100000 in
theorem ok_X4_readNumber : okV mt_X4_readNumber 0 := ⟨⟨⟨rfl, by decide, by decide⟩, ⟨by decide, by decide, by decide +kernel⟩, tbm 7 (by decide +kernel) rfl, tbm 385 (by decide +kernel) rfl⟩, tbm 384 (by decide +kernel) rfl, tbs (yX4_readNumber, 5) 4 (by decide +kernel)⟩
abbrev mt_X2_add : MT := (RX2, yX2_add, cX2_add, 2, none)
set_option maxRecDepth 100000 in
theorem ok_X2_add : okV mt_X2_add 1 := ⟨⟨⟨rfl, by decide, by decide⟩, ⟨by decide, by decide, by decide +kernel⟩, tbm 3 (by decide +kernel) rfl, tbm 389 (by decide +kernel) rfl⟩, tbm 387 (by decide +kernel) rfl, tbm 388 (by decide +kernel) rfl⟩
abbrev mt_X4_nameOf : MT := (RX4, yX4_nameOf, cX4_nameOf, 2, (some .int))
set_option maxRecDepth 100000 in
theorem ok_X4_nameOf : okV mt_X4_nameOf 1 := ⟨⟨⟨rfl, by decide, by decide⟩, ⟨by decide, by decide, by decide +kernel⟩, tbm 7 (by decide +kernel) rfl, tbm 393 (by decide +kernel) rfl⟩, tbm 392 (by decide +kernel) rfl, tbs (yX4_nameOf, 5) 5 (by decide +kernel)⟩
abbrev mt_X4_levelOf : MT := (RX4, yX4_levelOf, cX4_levelOf, 1, (some .int))
set_option maxRecDepth 100000 in
theorem ok_X4_levelOf : okS mt_X4_levelOf 1 := ⟨⟨⟨rfl, by decide, by decide⟩, ⟨by decide, by decide, by decide +kernel⟩, tbm 7 (by decide +kernel) rfl, tbm 396 (by decide +kernel) rfl⟩, tbm 395 (by decide +kernel) rfl⟩
abbrev mt_X1_lawOf : MT := (RX1, yX1_lawOf, cX1_lawOf, 2, (some (.object "PotHandles$Law")))
set_option maxRecDepth 100000 in
theorem ok_X1_lawOf : okV mt_X1_lawOf 1 := ⟨⟨⟨rfl, by decide, by decide⟩, ⟨by decide, by decide, by decide +kernel⟩, tbm 2 (by decide +kernel) rfl, tbm 400 (by decide +kernel) rfl⟩, tbm 398 (by decide +kernel) rfl, tbm 399 (by decide +kernel) rfl⟩
abbrev mt_X2_copy : MT := (RX2, yX2_copy, cX2_copy, 2, none)
set_option maxRecDepth 100000 in
theorem ok_X2_copy : okV mt_X2_copy 1 := ⟨⟨⟨rfl, by decide, by decide⟩, ⟨by decide, by decide, by decide +kernel⟩, tbm 3 (by decide +kernel) rfl, tbm 404 (by decide +kernel) rfl⟩, tbm 402 (by decide +kernel) rfl, tbm 403 (by decide +kernel) rfl⟩
abbrev mt_X7_law : MT := (RX7, yX7_law, cX7_law, 5, (some .int))
set_option maxRecDepth 100000 in
theorem ok_X7_law : okV mt_X7_law 4 := ⟨⟨⟨rfl, by decide, by decide⟩, ⟨by decide, by decide, by decide +kernel⟩, tbm 1 (by decide +kernel) rfl, tbm 409 (by decide +kernel) rfl⟩, tbm 407 (by decide +kernel) rfl, tbm 408 (by decide +kernel) rfl⟩
abbrev mt_X1_given : MT := (RX1, yX1_given, cX1_given, 7, (some .int))
set_option maxRecDepth 100000 in
theorem ok_X1_given : okV mt_X1_given 4 := ⟨⟨⟨rfl, by decide, by decide⟩, ⟨by decide, by decide, by decide +kernel⟩, tbm 2 (by decide +kernel) rfl, tbm 413 (by decide +kernel) rfl⟩, tbm 411 (by decide +kernel) rfl, tbm 412 (by decide +kernel) rfl⟩
abbrev mt_X2_stands : MT := (RX2, yX2_stands, cX2_stands, 1, (some .boolean))
set_option maxRecDepth 100000 in
theorem ok_X2_stands : okV mt_X2_stands 0 := ⟨⟨⟨rfl, by decide, by decide⟩, ⟨by decide, by decide, by decide +kernel⟩, tbm 3 (by decide +kernel) rfl, tbm 418 (by decide +kernel) rfl⟩, tbm 416 (by decide +kernel) rfl, tbm 417 (by decide +kernel) rfl⟩
abbrev mt_X2_workedOut : MT := (RX2, yX2_workedOut, cX2_workedOut, 7, (some .int))
set_option maxRecDepth 100000 in
theorem ok_X2_workedOut : okV mt_X2_workedOut 3 := ⟨⟨⟨rfl, by decide, by decide⟩, ⟨by decide, by decide, by decide +kernel⟩, tbm 3 (by decide +kernel) rfl, tbm 422 (by decide +kernel) rfl⟩, tbm 420 (by decide +kernel) rfl, tbm 421 (by decide +kernel) rfl⟩
abbrev mt_X2_joined : MT := (RX2, yX2_joined, cX2_joined, 3, (some .int))
set_option maxRecDepth 100000 in
theorem ok_X2_joined : okS mt_X2_joined 3 := ⟨⟨⟨rfl, by decide, by decide⟩, ⟨by decide, by decide, by decide +kernel⟩, tbm 3 (by decide +kernel) rfl, tbm 425 (by decide +kernel) rfl⟩, tbm 424 (by decide +kernel) rfl⟩
abbrev mt_X2_namedOrNumber : MT := (RX2, yX2_namedOrNumber, cX2_namedOrNumber, 4, (some .int))
set_option maxRecDepth 100000 in
theorem ok_X2_namedOrNumber : okS mt_X2_namedOrNumber 4 := ⟨⟨⟨rfl, by decide, by decide⟩, ⟨by decide, by decide, by decide +kernel⟩, tbm 3 (by decide +kernel) rfl, tbm 428 (by decide +kernel) rfl⟩, tbm 427 (by decide +kernel) rfl⟩
abbrev mt_X7_years : MT := (RX7, yX7_years, cX7_years, 2, (some .int))
set_option maxRecDepth 100000 in
theorem ok_X7_years : okV mt_X7_years 1 := ⟨⟨⟨rfl, by decide, by decide⟩, ⟨by decide, by decide, by decide +kernel⟩, tbm 1 (by decide +kernel) rfl, tbm 434 (by decide +kernel) rfl⟩, tbm 432 (by decide +kernel) rfl, tbm 433 (by decide +kernel) rfl⟩
abbrev mt_X1_passYears : MT := (RX1, yX1_passYears, cX1_passYears, 4, none)
set_option maxRecDepth 100000 in
theorem ok_X1_passYears : okV mt_X1_passYears 1 := ⟨⟨⟨rfl, by decide, by decide⟩, ⟨by decide, by decide, by decide +kernel⟩, tbm 2 (by decide +kernel) rfl, tbm 438 (by decide +kernel) rfl⟩, tbm 436 (by decide +kernel) rfl, tbm 437 (by decide +kernel) rfl⟩
abbrev mt_X1_passYearOf : MT := (RX1, yX1_passYearOf, cX1_passYearOf, 4, none)
set_option maxRecDepth 100000 in
theorem ok_X1_passYearOf : okV mt_X1_passYearOf 2 := ⟨⟨⟨rfl, by decide, by decide⟩, ⟨by decide, by decide, by decide +kernel⟩, tbm 2 (by decide +kernel) rfl, tbm 443 (by decide +kernel) rfl⟩, tbm 442 (by decide +kernel) rfl, tbs (yX1_passYearOf, 8) 6 (by decide +kernel)⟩
abbrev mt_X3_liveYear : MT := (RX3, yX3_liveYear, cX3_liveYear, 3, none)
set_option maxRecDepth 100000 in
theorem ok_X3_liveYear : okV mt_X3_liveYear 1 := ⟨⟨⟨rfl, by decide, by decide⟩, ⟨by decide, by decide, by decide +kernel⟩, tbm 5 (by decide +kernel) rfl, tbm 448 (by decide +kernel) rfl⟩, tbm 446 (by decide +kernel) rfl, tbm 447 (by decide +kernel) rfl⟩
abbrev mt_X3_warmedBy : MT := (RX3, yX3_warmedBy, cX3_warmedBy, 2, (some .int))
set_option maxRecDepth 100000 in
theorem ok_X3_warmedBy : okV mt_X3_warmedBy 1 := ⟨⟨⟨rfl, by decide, by decide⟩, ⟨by decide, by decide, by decide +kernel⟩, tbm 5 (by decide +kernel) rfl, tbm 452 (by decide +kernel) rfl⟩, tbm 450 (by decide +kernel) rfl, tbm 451 (by decide +kernel) rfl⟩
abbrev mt_J6_bitCount_0f7a4 : MT := (RJ6, yJ6_bitCount_0f7a4, cJ6_bitCount_0f7a4, 1, (some .int))
set_option maxRecDepth 100000 in
theorem ok_J6_bitCount_0f7a4 : okS mt_J6_bitCount_0f7a4 1 := ⟨⟨⟨rfl, by decide, by decide⟩, ⟨by decide, by decide, by decide +kernel⟩, tbm 13 (by decide +kernel) rfl, tbm 460 (by decide +kernel) rfl⟩, tbm 459 (by decide +kernel) rfl⟩
abbrev mt_X1_allHandles : MT := (RX1, yX1_allHandles, cX1_allHandles, 3, (some .int))
set_option maxRecDepth 100000 in
theorem ok_X1_allHandles : okV mt_X1_allHandles 0 := ⟨⟨⟨rfl, by decide, by decide⟩, ⟨by decide, by decide, by decide +kernel⟩, tbm 2 (by decide +kernel) rfl, tbm 467 (by decide +kernel) rfl⟩, tbm 465 (by decide +kernel) rfl, tbm 466 (by decide +kernel) rfl⟩
abbrev mt_X7_loose : MT := (RX7, yX7_loose, cX7_loose, 4, (some .int))
set_option maxRecDepth 100000 in
theorem ok_X7_loose : okV mt_X7_loose 1 := ⟨⟨⟨rfl, by decide, by decide⟩, ⟨by decide, by decide, by decide +kernel⟩, tbm 1 (by decide +kernel) rfl, tbm 471 (by decide +kernel) rfl⟩, tbm 469 (by decide +kernel) rfl, tbm 470 (by decide +kernel) rfl⟩
abbrev mt_X0_draw : MT := (RX0, yX0_draw, cX0_draw, 1, (some .int))
set_option maxRecDepth 100000 in
theorem ok_X0_draw : okV mt_X0_draw 0 := ⟨⟨⟨rfl, by decide, by decide⟩, ⟨by decide, by decide, by decide +kernel⟩, tbm 6 (by decide +kernel) rfl, tbm 475 (by decide +kernel) rfl⟩, tbm 473 (by decide +kernel) rfl, tbm 474 (by decide +kernel) rfl⟩
abbrev mt_X7_then : MT := (RX7, yX7_then, cX7_then, 5, (some .int))
set_option maxRecDepth 100000 in
theorem ok_X7_then : okV mt_X7_then 3 := ⟨⟨⟨rfl, by decide, by decide⟩, ⟨by decide, by decide, by decide +kernel⟩, tbm 1 (by decide +kernel) rfl, tbm 480 (by decide +kernel) rfl⟩, tbm 478 (by decide +kernel) rfl, tbm 479 (by decide +kernel) rfl⟩
abbrev mt_X7_behind : MT := (RX7, yX7_behind, cX7_behind, 3, (some (.object "PotHandles$District")))
set_option maxRecDepth 100000 in
theorem ok_X7_behind : okV mt_X7_behind 1 := ⟨⟨⟨rfl, by decide, by decide⟩, ⟨by decide, by decide, by decide +kernel⟩, tbm 1 (by decide +kernel) rfl, tbm 484 (by decide +kernel) rfl⟩, tbm 483 (by decide +kernel) rfl, tbs (yX7_behind, 10) 7 (by decide +kernel)⟩
abbrev mt_X7_asNow : MT := (RX7, yX7_asNow, cX7_asNow, 1, (some (.object "PotHandles$District")))
set_option maxRecDepth 100000 in
theorem ok_X7_asNow : okV mt_X7_asNow 0 := ⟨⟨⟨rfl, by decide, by decide⟩, ⟨by decide, by decide, by decide +kernel⟩, tbm 1 (by decide +kernel) rfl, tbm 488 (by decide +kernel) rfl⟩, tbm 487 (by decide +kernel) rfl, tbs (yX7_asNow, 10) 8 (by decide +kernel)⟩
abbrev mt_X1_copy : MT := (RX1, yX1_copy, cX1_copy, 3, none)
set_option maxRecDepth 100000 in
theorem ok_X1_copy : okV mt_X1_copy 1 := ⟨⟨⟨rfl, by decide, by decide⟩, ⟨by decide, by decide, by decide +kernel⟩, tbm 2 (by decide +kernel) rfl, tbm 492 (by decide +kernel) rfl⟩, tbm 490 (by decide +kernel) rfl, tbm 491 (by decide +kernel) rfl⟩
abbrev mt_X3_copy : MT := (RX3, yX3_copy, cX3_copy, 2, none)
set_option maxRecDepth 100000 in
theorem ok_X3_copy : okV mt_X3_copy 1 := ⟨⟨⟨rfl, by decide, by decide⟩, ⟨by decide, by decide, by decide +kernel⟩, tbm 5 (by decide +kernel) rfl, tbm 497 (by decide +kernel) rfl⟩, tbm 495 (by decide +kernel) rfl, tbm 496 (by decide +kernel) rfl⟩
abbrev mt_X7_when : MT := (RX7, yX7_when, cX7_when, 5, (some .int))
set_option maxRecDepth 100000 in
theorem ok_X7_when : okV mt_X7_when 1 := ⟨⟨⟨rfl, by decide, by decide⟩, ⟨by decide, by decide, by decide +kernel⟩, tbm 1 (by decide +kernel) rfl, tbm 502 (by decide +kernel) rfl⟩, tbm 500 (by decide +kernel) rfl, tbm 501 (by decide +kernel) rfl⟩
abbrev mt_X7_shelf : MT := (RX7, yX7_shelf, cX7_shelf, 4, (some .int))
set_option maxRecDepth 100000 in
theorem ok_X7_shelf : okV mt_X7_shelf 2 := ⟨⟨⟨rfl, by decide, by decide⟩, ⟨by decide, by decide, by decide +kernel⟩, tbm 1 (by decide +kernel) rfl, tbm 506 (by decide +kernel) rfl⟩, tbm 504 (by decide +kernel) rfl, tbm 505 (by decide +kernel) rfl⟩
abbrev mt_X1_potsWithHandle : MT := (RX1, yX1_potsWithHandle, cX1_potsWithHandle, 3, (some .int))
set_option maxRecDepth 100000 in
theorem ok_X1_potsWithHandle : okV mt_X1_potsWithHandle 0 := ⟨⟨⟨rfl, by decide, by decide⟩, ⟨by decide, by decide, by decide +kernel⟩, tbm 2 (by decide +kernel) rfl, tbm 510 (by decide +kernel) rfl⟩, tbm 508 (by decide +kernel) rfl, tbm 509 (by decide +kernel) rfl⟩
abbrev mt_X7_place : MT := (RX7, yX7_place, cX7_place, 9, (some .int))
set_option maxRecDepth 100000 in
theorem ok_X7_place : okV mt_X7_place 3 := ⟨⟨⟨rfl, by decide, by decide⟩, ⟨by decide, by decide, by decide +kernel⟩, tbm 1 (by decide +kernel) rfl, tbm 514 (by decide +kernel) rfl⟩, tbm 512 (by decide +kernel) rfl, tbm 513 (by decide +kernel) rfl⟩
abbrev mt_X7_whenMoved : MT := (RX7, yX7_whenMoved, cX7_whenMoved, 6, (some (.object "PotHandles$Pot")))
set_option maxRecDepth 100000 in
theorem ok_X7_whenMoved : okV mt_X7_whenMoved 3 := ⟨⟨⟨rfl, by decide, by decide⟩, ⟨by decide, by decide, by decide +kernel⟩, tbm 1 (by decide +kernel) rfl, tbm 518 (by decide +kernel) rfl⟩, tbm 517 (by decide +kernel) rfl, tbs (yX7_whenMoved, 10) 9 (by decide +kernel)⟩
abbrev mt_X7_use : MT := (RX7, yX7_use, cX7_use, 6, (some .int))
set_option maxRecDepth 100000 in
theorem ok_X7_use : okV mt_X7_use 2 := ⟨⟨⟨rfl, by decide, by decide⟩, ⟨by decide, by decide, by decide +kernel⟩, tbm 1 (by decide +kernel) rfl, tbm 522 (by decide +kernel) rfl⟩, tbm 520 (by decide +kernel) rfl, tbm 521 (by decide +kernel) rfl⟩
abbrev mt_X7_needed : MT := (RX7, yX7_needed, cX7_needed, 7, (some .int))
set_option maxRecDepth 100000 in
theorem ok_X7_needed : okV mt_X7_needed 2 := ⟨⟨⟨rfl, by decide, by decide⟩, ⟨by decide, by decide, by decide +kernel⟩, tbm 1 (by decide +kernel) rfl, tbm 526 (by decide +kernel) rfl⟩, tbm 524 (by decide +kernel) rfl, tbm 525 (by decide +kernel) rfl⟩
abbrev mt_X1_allPots : MT := (RX1, yX1_allPots, cX1_allPots, 1, (some .int))
set_option maxRecDepth 100000 in
theorem ok_X1_allPots : okV mt_X1_allPots 0 := ⟨⟨⟨rfl, by decide, by decide⟩, ⟨by decide, by decide, by decide +kernel⟩, tbm 2 (by decide +kernel) rfl, tbm 530 (by decide +kernel) rfl⟩, tbm 528 (by decide +kernel) rfl, tbm 529 (by decide +kernel) rfl⟩
abbrev mt_X7_haveHandlesIfCaredFor : MT := (RX7, yX7_haveHandlesIfCaredFor, cX7_haveHandlesIfCaredFor, 6, (some .boolean))
set_option maxRecDepth 100000 in
theorem ok_X7_haveHandlesIfCaredFor : okV mt_X7_haveHandlesIfCaredFor 3 := ⟨⟨⟨rfl, by decide, by decide⟩, ⟨by decide, by decide, by decide +kernel⟩, tbm 1 (by decide +kernel) rfl, tbm 535 (by decide +kernel) rfl⟩, tbm 534 (by decide +kernel) rfl, tbs (yX7_haveHandlesIfCaredFor, 10) 10 (by decide +kernel)⟩
abbrev mt_X7_whose : MT := (RX7, yX7_whose, cX7_whose, 6, (some .int))
set_option maxRecDepth 100000 in
theorem ok_X7_whose : okV mt_X7_whose 3 := ⟨⟨⟨rfl, by decide, by decide⟩, ⟨by decide, by decide, by decide +kernel⟩, tbm 1 (by decide +kernel) rfl, tbm 539 (by decide +kernel) rfl⟩, tbm 537 (by decide +kernel) rfl, tbm 538 (by decide +kernel) rfl⟩
abbrev mt_X7_isSheet : MT := (RX7, yX7_isSheet, cX7_isSheet, 1, (some .boolean))
set_option maxRecDepth 100000 in
theorem ok_X7_isSheet : okS mt_X7_isSheet 1 := ⟨⟨⟨rfl, by decide, by decide⟩, ⟨by decide, by decide, by decide +kernel⟩, tbm 1 (by decide +kernel) rfl, tbm 542 (by decide +kernel) rfl⟩, tbm 541 (by decide +kernel) rfl⟩
abbrev mt_X5_isMissing : MT := (RX5, yX5_isMissing, cX5_isMissing, 1, (some .boolean))
set_option maxRecDepth 100000 in
theorem ok_X5_isMissing : okV mt_X5_isMissing 0 := ⟨⟨⟨rfl, by decide, by decide⟩, ⟨by decide, by decide, by decide +kernel⟩, tbm 9 (by decide +kernel) rfl, tbm 546 (by decide +kernel) rfl⟩, tbm 544 (by decide +kernel) rfl, tbm 545 (by decide +kernel) rfl⟩
abbrev mt_X7_isLikedAsTold : MT := (RX7, yX7_isLikedAsTold, cX7_isLikedAsTold, 7, (some .boolean))
set_option maxRecDepth 100000 in
theorem ok_X7_isLikedAsTold : okV mt_X7_isLikedAsTold 3 := ⟨⟨⟨rfl, by decide, by decide⟩, ⟨by decide, by decide, by decide +kernel⟩, tbm 1 (by decide +kernel) rfl, tbm 550 (by decide +kernel) rfl⟩, tbm 549 (by decide +kernel) rfl, tbs (yX7_isLikedAsTold, 10) 11 (by decide +kernel)⟩
abbrev mt_X7_carry : MT := (RX7, yX7_carry, cX7_carry, 6, (some .int))
set_option maxRecDepth 100000 in
theorem ok_X7_carry : okV mt_X7_carry 1 := ⟨⟨⟨rfl, by decide, by decide⟩, ⟨by decide, by decide, by decide +kernel⟩, tbm 1 (by decide +kernel) rfl, tbm 554 (by decide +kernel) rfl⟩, tbm 552 (by decide +kernel) rfl, tbm 553 (by decide +kernel) rfl⟩
abbrev mt_X7_richest : MT := (RX7, yX7_richest, cX7_richest, 8, (some .int))
set_option maxRecDepth 100000 in
theorem ok_X7_richest : okV mt_X7_richest 2 := ⟨⟨⟨rfl, by decide, by decide⟩, ⟨by decide, by decide, by decide +kernel⟩, tbm 1 (by decide +kernel) rfl, tbm 559 (by decide +kernel) rfl⟩, tbm 557 (by decide +kernel) rfl, tbm 558 (by decide +kernel) rfl⟩
abbrev mt_X1_handlesIn : MT := (RX1, yX1_handlesIn, cX1_handlesIn, 4, (some .int))
set_option maxRecDepth 100000 in
theorem ok_X1_handlesIn : okV mt_X1_handlesIn 1 := ⟨⟨⟨rfl, by decide, by decide⟩, ⟨by decide, by decide, by decide +kernel⟩, tbm 2 (by decide +kernel) rfl, tbm 563 (by decide +kernel) rfl⟩, tbm 561 (by decide +kernel) rfl, tbm 562 (by decide +kernel) rfl⟩
abbrev mt_X7_breaks : MT := (RX7, yX7_breaks, cX7_breaks, 3, (some .int))
set_option maxRecDepth 100000 in
theorem ok_X7_breaks : okV mt_X7_breaks 1 := ⟨⟨⟨rfl, by decide, by decide⟩, ⟨by decide, by decide, by decide +kernel⟩, tbm 1 (by decide +kernel) rfl, tbm 567 (by decide +kernel) rfl⟩, tbm 565 (by decide +kernel) rfl, tbm 566 (by decide +kernel) rfl⟩
abbrev mt_X7_dealer : MT := (RX7, yX7_dealer, cX7_dealer, 6, (some .int))
set_option maxRecDepth 100000 in
theorem ok_X7_dealer : okV mt_X7_dealer 1 := ⟨⟨⟨rfl, by decide, by decide⟩, ⟨by decide, by decide, by decide +kernel⟩, tbm 1 (by decide +kernel) rfl, tbm 571 (by decide +kernel) rfl⟩, tbm 569 (by decide +kernel) rfl, tbm 570 (by decide +kernel) rfl⟩
abbrev mt_X7_handlesIfStuck : MT := (RX7, yX7_handlesIfStuck, cX7_handlesIfStuck, 4, (some .int))
set_option maxRecDepth 100000 in
theorem ok_X7_handlesIfStuck : okV mt_X7_handlesIfStuck 2 := ⟨⟨⟨rfl, by decide, by decide⟩, ⟨by decide, by decide, by decide +kernel⟩, tbm 1 (by decide +kernel) rfl, tbm 575 (by decide +kernel) rfl⟩, tbm 574 (by decide +kernel) rfl, tbs (yX7_handlesIfStuck, 10) 12 (by decide +kernel)⟩
abbrev mt_X7_odds : MT := (RX7, yX7_odds, cX7_odds, 7, (some .int))
set_option maxRecDepth 100000 in
theorem ok_X7_odds : okV mt_X7_odds 3 := ⟨⟨⟨rfl, by decide, by decide⟩, ⟨by decide, by decide, by decide +kernel⟩, tbm 1 (by decide +kernel) rfl, tbm 579 (by decide +kernel) rfl⟩, tbm 577 (by decide +kernel) rfl, tbm 578 (by decide +kernel) rfl⟩
abbrev mt_X7_whenBeing : MT := (RX7, yX7_whenBeing, cX7_whenBeing, 5, (some (.object "PotHandles$Pot")))
set_option maxRecDepth 100000 in
theorem ok_X7_whenBeing : okV mt_X7_whenBeing 3 := ⟨⟨⟨rfl, by decide, by decide⟩, ⟨by decide, by decide, by decide +kernel⟩, tbm 1 (by decide +kernel) rfl, tbm 583 (by decide +kernel) rfl⟩, tbm 582 (by decide +kernel) rfl, tbs (yX7_whenBeing, 10) 13 (by decide +kernel)⟩
abbrev mt_X7_seed : MT := (RX7, yX7_seed, cX7_seed, 3, (some .int))
set_option maxRecDepth 100000 in
theorem ok_X7_seed : okV mt_X7_seed 1 := ⟨⟨⟨rfl, by decide, by decide⟩, ⟨by decide, by decide, by decide +kernel⟩, tbm 1 (by decide +kernel) rfl, tbm 587 (by decide +kernel) rfl⟩, tbm 585 (by decide +kernel) rfl, tbm 586 (by decide +kernel) rfl⟩
abbrev mt_X7_voice : MT := (RX7, yX7_voice, cX7_voice, 4, (some .int))
set_option maxRecDepth 100000 in
theorem ok_X7_voice : okV mt_X7_voice 3 := ⟨⟨⟨rfl, by decide, by decide⟩, ⟨by decide, by decide, by decide +kernel⟩, tbm 1 (by decide +kernel) rfl, tbm 591 (by decide +kernel) rfl⟩, tbm 589 (by decide +kernel) rfl, tbm 590 (by decide +kernel) rfl⟩
abbrev mt_X6_speak : MT := (RX6, yX6_speak, cX6_speak, 5, (some .int))
set_option maxRecDepth 100000 in
theorem ok_X6_speak : okV mt_X6_speak 4 := ⟨⟨⟨rfl, by decide, by decide⟩, ⟨by decide, by decide, by decide +kernel⟩, tbm 8 (by decide +kernel) rfl, tbm 595 (by decide +kernel) rfl⟩, tbm 593 (by decide +kernel) rfl, tbm 594 (by decide +kernel) rfl⟩
abbrev mt_X6_say : MT := (RX6, yX6_say, cX6_say, 8, (some .int))
set_option maxRecDepth 100000 in
theorem ok_X6_say : okV mt_X6_say 4 := ⟨⟨⟨rfl, by decide, by decide⟩, ⟨by decide, by decide, by decide +kernel⟩, tbm 8 (by decide +kernel) rfl, tbm 599 (by decide +kernel) rfl⟩, tbm 598 (by decide +kernel) rfl, tbs (yX6_say, 5) 14 (by decide +kernel)⟩
abbrev mt_X6_bodyOf : MT := (RX6, yX6_bodyOf, cX6_bodyOf, 2, (some .int))
set_option maxRecDepth 100000 in
theorem ok_X6_bodyOf : okS mt_X6_bodyOf 2 := ⟨⟨⟨rfl, by decide, by decide⟩, ⟨by decide, by decide, by decide +kernel⟩, tbm 8 (by decide +kernel) rfl, tbm 602 (by decide +kernel) rfl⟩, tbm 601 (by decide +kernel) rfl⟩
abbrev mt_X6_begin : MT := (RX6, yX6_begin, cX6_begin, 2, none)
set_option maxRecDepth 100000 in
theorem ok_X6_begin : okV mt_X6_begin 1 := ⟨⟨⟨rfl, by decide, by decide⟩, ⟨by decide, by decide, by decide +kernel⟩, tbm 8 (by decide +kernel) rfl, tbm 606 (by decide +kernel) rfl⟩, tbm 605 (by decide +kernel) rfl, tbs (yX6_begin, 5) 15 (by decide +kernel)⟩
abbrev mt_X6_sayBody : MT := (RX6, yX6_sayBody, cX6_sayBody, 4, (some .int))
set_option maxRecDepth 100000 in
theorem ok_X6_sayBody : okV mt_X6_sayBody 3 := ⟨⟨⟨rfl, by decide, by decide⟩, ⟨by decide, by decide, by decide +kernel⟩, tbm 8 (by decide +kernel) rfl, tbm 610 (by decide +kernel) rfl⟩, tbm 609 (by decide +kernel) rfl, tbs (yX6_sayBody, 5) 16 (by decide +kernel)⟩
abbrev mt_X6_sayAbove : MT := (RX6, yX6_sayAbove, cX6_sayAbove, 5, (some .int))
set_option maxRecDepth 100000 in
theorem ok_X6_sayAbove : okV mt_X6_sayAbove 4 := ⟨⟨⟨rfl, by decide, by decide⟩, ⟨by decide, by decide, by decide +kernel⟩, tbm 8 (by decide +kernel) rfl, tbm 614 (by decide +kernel) rfl⟩, tbm 613 (by decide +kernel) rfl, tbs (yX6_sayAbove, 5) 17 (by decide +kernel)⟩
abbrev mt_X7_trace : MT := (RX7, yX7_trace, cX7_trace, 2, (some .int))
set_option maxRecDepth 100000 in
theorem ok_X7_trace : okV mt_X7_trace 1 := ⟨⟨⟨rfl, by decide, by decide⟩, ⟨by decide, by decide, by decide +kernel⟩, tbm 1 (by decide +kernel) rfl, tbm 619 (by decide +kernel) rfl⟩, tbm 617 (by decide +kernel) rfl, tbm 618 (by decide +kernel) rfl⟩
abbrev mt_X7_sheet : MT := (RX7, yX7_sheet, cX7_sheet, 4, (some .int))
set_option maxRecDepth 100000 in
theorem ok_X7_sheet : okV mt_X7_sheet 3 := ⟨⟨⟨rfl, by decide, by decide⟩, ⟨by decide, by decide, by decide +kernel⟩, tbm 1 (by decide +kernel) rfl, tbm 623 (by decide +kernel) rfl⟩, tbm 621 (by decide +kernel) rfl, tbm 622 (by decide +kernel) rfl⟩
abbrev mt_X5_lay : MT := (RX5, yX5_lay, cX5_lay, 3, none)
set_option maxRecDepth 100000 in
theorem ok_X5_lay : okV mt_X5_lay 2 := ⟨⟨⟨rfl, by decide, by decide⟩, ⟨by decide, by decide, by decide +kernel⟩, tbm 9 (by decide +kernel) rfl, tbm 627 (by decide +kernel) rfl⟩, tbm 625 (by decide +kernel) rfl, tbm 626 (by decide +kernel) rfl⟩
abbrev mt_X7_put : MT := (RX7, yX7_put, cX7_put, 5, (some .int))
set_option maxRecDepth 100000 in
theorem ok_X7_put : okV mt_X7_put 3 := ⟨⟨⟨rfl, by decide, by decide⟩, ⟨by decide, by decide, by decide +kernel⟩, tbm 1 (by decide +kernel) rfl, tbm 632 (by decide +kernel) rfl⟩, tbm 630 (by decide +kernel) rfl, tbm 631 (by decide +kernel) rfl⟩
abbrev mt_X5_lowestBits : MT := (RX5, yX5_lowestBits, cX5_lowestBits, 2, (some .int))
set_option maxRecDepth 100000 in
theorem ok_X5_lowestBits : okV mt_X5_lowestBits 1 := ⟨⟨⟨rfl, by decide, by decide⟩, ⟨by decide, by decide, by decide +kernel⟩, tbm 9 (by decide +kernel) rfl, tbm 636 (by decide +kernel) rfl⟩, tbm 634 (by decide +kernel) rfl, tbm 635 (by decide +kernel) rfl⟩
abbrev mt_X7_move : MT := (RX7, yX7_move, cX7_move, 8, (some .int))
set_option maxRecDepth 100000 in
theorem ok_X7_move : okV mt_X7_move 5 := ⟨⟨⟨rfl, by decide, by decide⟩, ⟨by decide, by decide, by decide +kernel⟩, tbm 1 (by decide +kernel) rfl, tbm 640 (by decide +kernel) rfl⟩, tbm 638 (by decide +kernel) rfl, tbm 639 (by decide +kernel) rfl⟩
abbrev mt_X5_holds : MT := (RX5, yX5_holds, cX5_holds, 3, (some .boolean))
set_option maxRecDepth 100000 in
theorem ok_X5_holds : okV mt_X5_holds 2 := ⟨⟨⟨rfl, by decide, by decide⟩, ⟨by decide, by decide, by decide +kernel⟩, tbm 9 (by decide +kernel) rfl, tbm 644 (by decide +kernel) rfl⟩, tbm 642 (by decide +kernel) rfl, tbm 643 (by decide +kernel) rfl⟩
abbrev mt_X7_uses : MT := (RX7, yX7_uses, cX7_uses, 5, (some .int))
set_option maxRecDepth 100000 in
theorem ok_X7_uses : okV mt_X7_uses 1 := ⟨⟨⟨rfl, by decide, by decide⟩, ⟨by decide, by decide, by decide +kernel⟩, tbm 1 (by decide +kernel) rfl, tbm 649 (by decide +kernel) rfl⟩, tbm 647 (by decide +kernel) rfl, tbm 648 (by decide +kernel) rfl⟩
abbrev mt_X7_judge : MT := (RX7, yX7_judge, cX7_judge, 5, (some .int))
set_option maxRecDepth 100000 in
theorem ok_X7_judge : okV mt_X7_judge 1 := ⟨⟨⟨rfl, by decide, by decide⟩, ⟨by decide, by decide, by decide +kernel⟩, tbm 1 (by decide +kernel) rfl, tbm 653 (by decide +kernel) rfl⟩, tbm 651 (by decide +kernel) rfl, tbm 652 (by decide +kernel) rfl⟩
abbrev mt_X7_image : MT := (RX7, yX7_image, cX7_image, 1, (some .int))
set_option maxRecDepth 100000 in
theorem ok_X7_image : okV mt_X7_image 0 := ⟨⟨⟨rfl, by decide, by decide⟩, ⟨by decide, by decide, by decide +kernel⟩, tbm 1 (by decide +kernel) rfl, tbm 657 (by decide +kernel) rfl⟩, tbm 655 (by decide +kernel) rfl, tbm 656 (by decide +kernel) rfl⟩
abbrev mt_X0_copy : MT := (RX0, yX0_copy, cX0_copy, 2, none)
set_option maxRecDepth 100000 in
theorem ok_X0_copy : okV mt_X0_copy 1 := ⟨⟨⟨rfl, by decide, by decide⟩, ⟨by decide, by decide, by decide +kernel⟩, tbm 6 (by decide +kernel) rfl, tbm 661 (by decide +kernel) rfl⟩, tbm 659 (by decide +kernel) rfl, tbm 660 (by decide +kernel) rfl⟩
abbrev mt_X7_restore : MT := (RX7, yX7_restore, cX7_restore, 1, (some .int))
set_option maxRecDepth 100000 in
theorem ok_X7_restore : okV mt_X7_restore 0 := ⟨⟨⟨rfl, by decide, by decide⟩, ⟨by decide, by decide, by decide +kernel⟩, tbm 1 (by decide +kernel) rfl, tbm 666 (by decide +kernel) rfl⟩, tbm 664 (by decide +kernel) rfl, tbm 665 (by decide +kernel) rfl⟩
abbrev mt_X7_tell : MT := (RX7, yX7_tell, cX7_tell, 2, (some .int))
set_option maxRecDepth 100000 in
theorem ok_X7_tell : okV mt_X7_tell 1 := ⟨⟨⟨rfl, by decide, by decide⟩, ⟨by decide, by decide, by decide +kernel⟩, tbm 1 (by decide +kernel) rfl, tbm 670 (by decide +kernel) rfl⟩, tbm 668 (by decide +kernel) rfl, tbm 669 (by decide +kernel) rfl⟩
abbrev mt_X7_check : MT := (RX7, yX7_check, cX7_check, 4, (some .int))
set_option maxRecDepth 100000 in
theorem ok_X7_check : okV mt_X7_check 0 := ⟨⟨⟨rfl, by decide, by decide⟩, ⟨by decide, by decide, by decide +kernel⟩, tbm 1 (by decide +kernel) rfl, tbm 674 (by decide +kernel) rfl⟩, tbm 672 (by decide +kernel) rfl, tbm 673 (by decide +kernel) rfl⟩
abbrev mt_X7_count : MT := (RX7, yX7_count, cX7_count, 2, (some .int))
set_option maxRecDepth 100000 in
theorem ok_X7_count : okV mt_X7_count 1 := ⟨⟨⟨rfl, by decide, by decide⟩, ⟨by decide, by decide, by decide +kernel⟩, tbm 1 (by decide +kernel) rfl, tbm 678 (by decide +kernel) rfl⟩, tbm 676 (by decide +kernel) rfl, tbm 677 (by decide +kernel) rfl⟩
abbrev mt_X1_falsePots : MT := (RX1, yX1_falsePots, cX1_falsePots, 3, (some .int))
set_option maxRecDepth 100000 in
theorem ok_X1_falsePots : okV mt_X1_falsePots 0 := ⟨⟨⟨rfl, by decide, by decide⟩, ⟨by decide, by decide, by decide +kernel⟩, tbm 2 (by decide +kernel) rfl, tbm 682 (by decide +kernel) rfl⟩, tbm 680 (by decide +kernel) rfl, tbm 681 (by decide +kernel) rfl⟩
abbrev mt_X7_told : MT := (RX7, yX7_told, cX7_told, 2, (some .int))
set_option maxRecDepth 100000 in
theorem ok_X7_told : okV mt_X7_told 1 := ⟨⟨⟨rfl, by decide, by decide⟩, ⟨by decide, by decide, by decide +kernel⟩, tbm 1 (by decide +kernel) rfl, tbm 686 (by decide +kernel) rfl⟩, tbm 684 (by decide +kernel) rfl, tbm 685 (by decide +kernel) rfl⟩
abbrev mt_X8_feed : MT := (RX8, yX8_feed, cX8_feed, 5, (some .int))
set_option maxRecDepth 100000 in
theorem ok_X8_feed : okV mt_X8_feed 2 := ⟨⟨⟨rfl, by decide, by decide⟩, ⟨by decide, by decide, by decide +kernel⟩, tbm 10 (by decide +kernel) rfl, tbm 763 (by decide +kernel) rfl⟩, tbm 761 (by decide +kernel) rfl, tbm 762 (by decide +kernel) rfl⟩
abbrev mt_X8_in : MT := (RX8, yX8_in, cX8_in, 6, (some .boolean))
set_option maxRecDepth 100000 in
theorem ok_X8_in : okS mt_X8_in 3 := ⟨⟨⟨rfl, by decide, by decide⟩, ⟨by decide, by decide, by decide +kernel⟩, tbm 10 (by decide +kernel) rfl, tbm 767 (by decide +kernel) rfl⟩, tbm 766 (by decide +kernel) rfl⟩
abbrev mt_X8_finds : MT := (RX8, yX8_finds, cX8_finds, 2, (some .int))
set_option maxRecDepth 100000 in
theorem ok_X8_finds : okV mt_X8_finds 1 := ⟨⟨⟨rfl, by decide, by decide⟩, ⟨by decide, by decide, by decide +kernel⟩, tbm 10 (by decide +kernel) rfl, tbm 771 (by decide +kernel) rfl⟩, tbm 770 (by decide +kernel) rfl, tbs (yX8_finds, 22) 18 (by decide +kernel)⟩
abbrev mt_X8_text : MT := (RX8, yX8_text, cX8_text, 4, (some .int))
set_option maxRecDepth 100000 in
theorem ok_X8_text : okV mt_X8_text 1 := ⟨⟨⟨rfl, by decide, by decide⟩, ⟨by decide, by decide, by decide +kernel⟩, tbm 10 (by decide +kernel) rfl, tbm 777 (by decide +kernel) rfl⟩, tbm 775 (by decide +kernel) rfl, tbm 776 (by decide +kernel) rfl⟩
abbrev mt_X8_reads : MT := (RX8, yX8_reads, cX8_reads, 4, none)
set_option maxRecDepth 100000 in
theorem ok_X8_reads : okV mt_X8_reads 3 := ⟨⟨⟨rfl, by decide, by decide⟩, ⟨by decide, by decide, by decide +kernel⟩, tbm 10 (by decide +kernel) rfl, tbm 781 (by decide +kernel) rfl⟩, tbm 780 (by decide +kernel) rfl, tbs (yX8_reads, 22) 19 (by decide +kernel)⟩
abbrev mt_X8_either : MT := (RX8, yX8_either, cX8_either, 1, none)
set_option maxRecDepth 100000 in
theorem ok_X8_either : okV mt_X8_either 0 := ⟨⟨⟨rfl, by decide, by decide⟩, ⟨by decide, by decide, by decide +kernel⟩, tbm 10 (by decide +kernel) rfl, tbm 785 (by decide +kernel) rfl⟩, tbm 784 (by decide +kernel) rfl, tbs (yX8_either, 22) 20 (by decide +kernel)⟩
abbrev mt_X8_both : MT := (RX8, yX8_both, cX8_both, 1, none)
set_option maxRecDepth 100000 in
theorem ok_X8_both : okV mt_X8_both 0 := ⟨⟨⟨rfl, by decide, by decide⟩, ⟨by decide, by decide, by decide +kernel⟩, tbm 10 (by decide +kernel) rfl, tbm 789 (by decide +kernel) rfl⟩, tbm 788 (by decide +kernel) rfl, tbs (yX8_both, 22) 21 (by decide +kernel)⟩
abbrev mt_X8_compared : MT := (RX8, yX8_compared, cX8_compared, 2, none)
set_option maxRecDepth 100000 in
theorem ok_X8_compared : okV mt_X8_compared 0 := ⟨⟨⟨rfl, by decide, by decide⟩, ⟨by decide, by decide, by decide +kernel⟩, tbm 10 (by decide +kernel) rfl, tbm 793 (by decide +kernel) rfl⟩, tbm 792 (by decide +kernel) rfl, tbs (yX8_compared, 22) 22 (by decide +kernel)⟩
abbrev mt_X8_sum : MT := (RX8, yX8_sum, cX8_sum, 2, none)
set_option maxRecDepth 100000 in
theorem ok_X8_sum : okV mt_X8_sum 0 := ⟨⟨⟨rfl, by decide, by decide⟩, ⟨by decide, by decide, by decide +kernel⟩, tbm 10 (by decide +kernel) rfl, tbm 797 (by decide +kernel) rfl⟩, tbm 796 (by decide +kernel) rfl, tbs (yX8_sum, 22) 23 (by decide +kernel)⟩
abbrev mt_X8_product : MT := (RX8, yX8_product, cX8_product, 2, none)
set_option maxRecDepth 100000 in
theorem ok_X8_product : okV mt_X8_product 0 := ⟨⟨⟨rfl, by decide, by decide⟩, ⟨by decide, by decide, by decide +kernel⟩, tbm 10 (by decide +kernel) rfl, tbm 801 (by decide +kernel) rfl⟩, tbm 800 (by decide +kernel) rfl, tbs (yX8_product, 22) 24 (by decide +kernel)⟩
abbrev mt_X8_unit : MT := (RX8, yX8_unit, cX8_unit, 5, none)
set_option maxRecDepth 100000 in
theorem ok_X8_unit : okV mt_X8_unit 0 := ⟨⟨⟨rfl, by decide, by decide⟩, ⟨by decide, by decide, by decide +kernel⟩, tbm 10 (by decide +kernel) rfl, tbm 805 (by decide +kernel) rfl⟩, tbm 804 (by decide +kernel) rfl, tbs (yX8_unit, 22) 25 (by decide +kernel)⟩
abbrev mt_X8_here : MT := (RX8, yX8_here, cX8_here, 1, (some .int))
set_option maxRecDepth 100000 in
theorem ok_X8_here : okV mt_X8_here 0 := ⟨⟨⟨rfl, by decide, by decide⟩, ⟨by decide, by decide, by decide +kernel⟩, tbm 10 (by decide +kernel) rfl, tbm 809 (by decide +kernel) rfl⟩, tbm 808 (by decide +kernel) rfl, tbs (yX8_here, 22) 26 (by decide +kernel)⟩
abbrev mt_X8_opens : MT := (RX8, yX8_opens, cX8_opens, 2, none)
set_option maxRecDepth 100000 in
theorem ok_X8_opens : okV mt_X8_opens 1 := ⟨⟨⟨rfl, by decide, by decide⟩, ⟨by decide, by decide, by decide +kernel⟩, tbm 10 (by decide +kernel) rfl, tbm 813 (by decide +kernel) rfl⟩, tbm 812 (by decide +kernel) rfl, tbs (yX8_opens, 22) 27 (by decide +kernel)⟩
abbrev mt_X8_wrong : MT := (RX8, yX8_wrong, cX8_wrong, 1, none)
set_option maxRecDepth 100000 in
theorem ok_X8_wrong : okV mt_X8_wrong 0 := ⟨⟨⟨rfl, by decide, by decide⟩, ⟨by decide, by decide, by decide +kernel⟩, tbm 10 (by decide +kernel) rfl, tbm 817 (by decide +kernel) rfl⟩, tbm 816 (by decide +kernel) rfl, tbs (yX8_wrong, 22) 28 (by decide +kernel)⟩
abbrev mt_X8_lay : MT := (RX8, yX8_lay, cX8_lay, 2, none)
set_option maxRecDepth 100000 in
theorem ok_X8_lay : okV mt_X8_lay 1 := ⟨⟨⟨rfl, by decide, by decide⟩, ⟨by decide, by decide, by decide +kernel⟩, tbm 10 (by decide +kernel) rfl, tbm 821 (by decide +kernel) rfl⟩, tbm 820 (by decide +kernel) rfl, tbs (yX8_lay, 22) 29 (by decide +kernel)⟩
abbrev mt_X8_takes : MT := (RX8, yX8_takes, cX8_takes, 2, (some .boolean))
set_option maxRecDepth 100000 in
theorem ok_X8_takes : okV mt_X8_takes 1 := ⟨⟨⟨rfl, by decide, by decide⟩, ⟨by decide, by decide, by decide +kernel⟩, tbm 10 (by decide +kernel) rfl, tbm 825 (by decide +kernel) rfl⟩, tbm 824 (by decide +kernel) rfl, tbs (yX8_takes, 22) 30 (by decide +kernel)⟩
abbrev mt_X8_nameOf : MT := (RX8, yX8_nameOf, cX8_nameOf, 2, (some .int))
set_option maxRecDepth 100000 in
theorem ok_X8_nameOf : okV mt_X8_nameOf 1 := ⟨⟨⟨rfl, by decide, by decide⟩, ⟨by decide, by decide, by decide +kernel⟩, tbm 10 (by decide +kernel) rfl, tbm 829 (by decide +kernel) rfl⟩, tbm 828 (by decide +kernel) rfl, tbs (yX8_nameOf, 22) 31 (by decide +kernel)⟩
abbrev mt_X8_law : MT := (RX8, yX8_law, cX8_law, 5, (some .int))
set_option maxRecDepth 100000 in
theorem ok_X8_law : okV mt_X8_law 4 := ⟨⟨⟨rfl, by decide, by decide⟩, ⟨by decide, by decide, by decide +kernel⟩, tbm 10 (by decide +kernel) rfl, tbm 835 (by decide +kernel) rfl⟩, tbm 833 (by decide +kernel) rfl, tbm 834 (by decide +kernel) rfl⟩
abbrev mt_X8_textGives : MT := (RX8, yX8_textGives, cX8_textGives, 6, (some .int))
set_option maxRecDepth 100000 in
theorem ok_X8_textGives : okV mt_X8_textGives 4 := ⟨⟨⟨rfl, by decide, by decide⟩, ⟨by decide, by decide, by decide +kernel⟩, tbm 10 (by decide +kernel) rfl, tbm 839 (by decide +kernel) rfl⟩, tbm 838 (by decide +kernel) rfl, tbs (yX8_textGives, 22) 32 (by decide +kernel)⟩
abbrev mt_X8_worked : MT := (RX8, yX8_worked, cX8_worked, 6, (some .int))
set_option maxRecDepth 100000 in
theorem ok_X8_worked : okV mt_X8_worked 2 := ⟨⟨⟨rfl, by decide, by decide⟩, ⟨by decide, by decide, by decide +kernel⟩, tbm 10 (by decide +kernel) rfl, tbm 843 (by decide +kernel) rfl⟩, tbm 842 (by decide +kernel) rfl, tbs (yX8_worked, 22) 33 (by decide +kernel)⟩
abbrev mt_X8_done : MT := (RX8, yX8_done, cX8_done, 3, (some .int))
set_option maxRecDepth 100000 in
theorem ok_X8_done : okS mt_X8_done 3 := ⟨⟨⟨rfl, by decide, by decide⟩, ⟨by decide, by decide, by decide +kernel⟩, tbm 10 (by decide +kernel) rfl, tbm 846 (by decide +kernel) rfl⟩, tbm 845 (by decide +kernel) rfl⟩
abbrev mt_X8_held : MT := (RX8, yX8_held, cX8_held, 3, (some .int))
set_option maxRecDepth 100000 in
theorem ok_X8_held : okS mt_X8_held 3 := ⟨⟨⟨rfl, by decide, by decide⟩, ⟨by decide, by decide, by decide +kernel⟩, tbm 10 (by decide +kernel) rfl, tbm 849 (by decide +kernel) rfl⟩, tbm 848 (by decide +kernel) rfl⟩
abbrev mt_X8_house : MT := (RX8, yX8_house, cX8_house, 5, (some .int))
set_option maxRecDepth 100000 in
theorem ok_X8_house : okV mt_X8_house 3 := ⟨⟨⟨rfl, by decide, by decide⟩, ⟨by decide, by decide, by decide +kernel⟩, tbm 10 (by decide +kernel) rfl, tbm 853 (by decide +kernel) rfl⟩, tbm 851 (by decide +kernel) rfl, tbm 852 (by decide +kernel) rfl⟩
abbrev mt_X8_isHouse : MT := (RX8, yX8_isHouse, cX8_isHouse, 1, (some .boolean))
set_option maxRecDepth 100000 in
theorem ok_X8_isHouse : okS mt_X8_isHouse 1 := ⟨⟨⟨rfl, by decide, by decide⟩, ⟨by decide, by decide, by decide +kernel⟩, tbm 10 (by decide +kernel) rfl, tbm 856 (by decide +kernel) rfl⟩, tbm 855 (by decide +kernel) rfl⟩
abbrev mt_X8_ofHouse : MT := (RX8, yX8_ofHouse, cX8_ofHouse, 3, (some .int))
set_option maxRecDepth 100000 in
theorem ok_X8_ofHouse : okV mt_X8_ofHouse 2 := ⟨⟨⟨rfl, by decide, by decide⟩, ⟨by decide, by decide, by decide +kernel⟩, tbm 10 (by decide +kernel) rfl, tbm 862 (by decide +kernel) rfl⟩, tbm 860 (by decide +kernel) rfl, tbm 861 (by decide +kernel) rfl⟩
abbrev mt_X8_setOf : MT := (RX8, yX8_setOf, cX8_setOf, 5, (some .int))
set_option maxRecDepth 100000 in
theorem ok_X8_setOf : okV mt_X8_setOf 1 := ⟨⟨⟨rfl, by decide, by decide⟩, ⟨by decide, by decide, by decide +kernel⟩, tbm 10 (by decide +kernel) rfl, tbm 867 (by decide +kernel) rfl⟩, tbm 866 (by decide +kernel) rfl, tbs (yX8_setOf, 22) 34 (by decide +kernel)⟩
abbrev mt_X8_of : MT := (RX8, yX8_of, cX8_of, 3, (some .int))
set_option maxRecDepth 100000 in
theorem ok_X8_of : okV mt_X8_of 2 := ⟨⟨⟨rfl, by decide, by decide⟩, ⟨by decide, by decide, by decide +kernel⟩, tbm 10 (by decide +kernel) rfl, tbm 871 (by decide +kernel) rfl⟩, tbm 870 (by decide +kernel) rfl, tbs (yX8_of, 22) 35 (by decide +kernel)⟩
abbrev mt_X8_isBroken : MT := (RX8, yX8_isBroken, cX8_isBroken, 2, (some .boolean))
set_option maxRecDepth 100000 in
theorem ok_X8_isBroken : okV mt_X8_isBroken 1 := ⟨⟨⟨rfl, by decide, by decide⟩, ⟨by decide, by decide, by decide +kernel⟩, tbm 10 (by decide +kernel) rfl, tbm 875 (by decide +kernel) rfl⟩, tbm 874 (by decide +kernel) rfl, tbs (yX8_isBroken, 22) 36 (by decide +kernel)⟩
abbrev mt_X8_pot : MT := (RX8, yX8_pot, cX8_pot, 6, (some .int))
set_option maxRecDepth 100000 in
theorem ok_X8_pot : okV mt_X8_pot 3 := ⟨⟨⟨rfl, by decide, by decide⟩, ⟨by decide, by decide, by decide +kernel⟩, tbm 10 (by decide +kernel) rfl, tbm 879 (by decide +kernel) rfl⟩, tbm 877 (by decide +kernel) rfl, tbm 878 (by decide +kernel) rfl⟩
abbrev mt_X8_sets : MT := (RX8, yX8_sets, cX8_sets, 4, none)
set_option maxRecDepth 100000 in
theorem ok_X8_sets : okV mt_X8_sets 3 := ⟨⟨⟨rfl, by decide, by decide⟩, ⟨by decide, by decide, by decide +kernel⟩, tbm 10 (by decide +kernel) rfl, tbm 884 (by decide +kernel) rfl⟩, tbm 883 (by decide +kernel) rfl, tbs (yX8_sets, 22) 37 (by decide +kernel)⟩
abbrev mt_X8_ofPot : MT := (RX8, yX8_ofPot, cX8_ofPot, 3, (some .int))
set_option maxRecDepth 100000 in
theorem ok_X8_ofPot : okV mt_X8_ofPot 2 := ⟨⟨⟨rfl, by decide, by decide⟩, ⟨by decide, by decide, by decide +kernel⟩, tbm 10 (by decide +kernel) rfl, tbm 888 (by decide +kernel) rfl⟩, tbm 886 (by decide +kernel) rfl, tbm 887 (by decide +kernel) rfl⟩
abbrev mt_X8_isPot : MT := (RX8, yX8_isPot, cX8_isPot, 2, (some .boolean))
set_option maxRecDepth 100000 in
theorem ok_X8_isPot : okV mt_X8_isPot 1 := ⟨⟨⟨rfl, by decide, by decide⟩, ⟨by decide, by decide, by decide +kernel⟩, tbm 10 (by decide +kernel) rfl, tbm 892 (by decide +kernel) rfl⟩, tbm 891 (by decide +kernel) rfl, tbs (yX8_isPot, 22) 38 (by decide +kernel)⟩
abbrev mt_X8_wants : MT := (RX8, yX8_wants, cX8_wants, 3, (some .int))
set_option maxRecDepth 100000 in
theorem ok_X8_wants : okV mt_X8_wants 1 := ⟨⟨⟨rfl, by decide, by decide⟩, ⟨by decide, by decide, by decide +kernel⟩, tbm 10 (by decide +kernel) rfl, tbm 896 (by decide +kernel) rfl⟩, tbm 895 (by decide +kernel) rfl, tbs (yX8_wants, 22) 39 (by decide +kernel)⟩
abbrev mt_X8_bears : MT := (RX8, yX8_bears, cX8_bears, 3, (some .int))
set_option maxRecDepth 100000 in
theorem ok_X8_bears : okV mt_X8_bears 1 := ⟨⟨⟨rfl, by decide, by decide⟩, ⟨by decide, by decide, by decide +kernel⟩, tbm 10 (by decide +kernel) rfl, tbm 900 (by decide +kernel) rfl⟩, tbm 899 (by decide +kernel) rfl, tbs (yX8_bears, 22) 40 (by decide +kernel)⟩
abbrev mt_X8_change : MT := (RX8, yX8_change, cX8_change, 5, (some .int))
set_option maxRecDepth 100000 in
theorem ok_X8_change : okV mt_X8_change 3 := ⟨⟨⟨rfl, by decide, by decide⟩, ⟨by decide, by decide, by decide +kernel⟩, tbm 10 (by decide +kernel) rfl, tbm 904 (by decide +kernel) rfl⟩, tbm 902 (by decide +kernel) rfl, tbm 903 (by decide +kernel) rfl⟩
abbrev mt_X8_shift : MT := (RX8, yX8_shift, cX8_shift, 4, (some .int))
set_option maxRecDepth 100000 in
theorem ok_X8_shift : okV mt_X8_shift 2 := ⟨⟨⟨rfl, by decide, by decide⟩, ⟨by decide, by decide, by decide +kernel⟩, tbm 10 (by decide +kernel) rfl, tbm 909 (by decide +kernel) rfl⟩, tbm 907 (by decide +kernel) rfl, tbm 908 (by decide +kernel) rfl⟩
abbrev mt_X8_moves : MT := (RX8, yX8_moves, cX8_moves, 3, none)
set_option maxRecDepth 100000 in
theorem ok_X8_moves : okV mt_X8_moves 2 := ⟨⟨⟨rfl, by decide, by decide⟩, ⟨by decide, by decide, by decide +kernel⟩, tbm 10 (by decide +kernel) rfl, tbm 913 (by decide +kernel) rfl⟩, tbm 912 (by decide +kernel) rfl, tbs (yX8_moves, 22) 41 (by decide +kernel)⟩
abbrev mt_X8_stick : MT := (RX8, yX8_stick, cX8_stick, 2, (some .int))
set_option maxRecDepth 100000 in
theorem ok_X8_stick : okV mt_X8_stick 1 := ⟨⟨⟨rfl, by decide, by decide⟩, ⟨by decide, by decide, by decide +kernel⟩, tbm 10 (by decide +kernel) rfl, tbm 917 (by decide +kernel) rfl⟩, tbm 915 (by decide +kernel) rfl, tbm 916 (by decide +kernel) rfl⟩
abbrev mt_X8_become : MT := (RX8, yX8_become, cX8_become, 4, (some .int))
set_option maxRecDepth 100000 in
theorem ok_X8_become : okV mt_X8_become 2 := ⟨⟨⟨rfl, by decide, by decide⟩, ⟨by decide, by decide, by decide +kernel⟩, tbm 10 (by decide +kernel) rfl, tbm 921 (by decide +kernel) rfl⟩, tbm 919 (by decide +kernel) rfl, tbm 920 (by decide +kernel) rfl⟩
abbrev mt_X8_as : MT := (RX8, yX8_as, cX8_as, 4, (some .int))
set_option maxRecDepth 100000 in
theorem ok_X8_as : okV mt_X8_as 2 := ⟨⟨⟨rfl, by decide, by decide⟩, ⟨by decide, by decide, by decide +kernel⟩, tbm 10 (by decide +kernel) rfl, tbm 925 (by decide +kernel) rfl⟩, tbm 923 (by decide +kernel) rfl, tbm 924 (by decide +kernel) rfl⟩
abbrev mt_X8_above : MT := (RX8, yX8_above, cX8_above, 1, (some .int))
set_option maxRecDepth 100000 in
theorem ok_X8_above : okS mt_X8_above 1 := ⟨⟨⟨rfl, by decide, by decide⟩, ⟨by decide, by decide, by decide +kernel⟩, tbm 10 (by decide +kernel) rfl, tbm 929 (by decide +kernel) rfl⟩, tbm 928 (by decide +kernel) rfl⟩
abbrev mt_X8_years : MT := (RX8, yX8_years, cX8_years, 2, (some .int))
set_option maxRecDepth 100000 in
theorem ok_X8_years : okV mt_X8_years 1 := ⟨⟨⟨rfl, by decide, by decide⟩, ⟨by decide, by decide, by decide +kernel⟩, tbm 10 (by decide +kernel) rfl, tbm 933 (by decide +kernel) rfl⟩, tbm 931 (by decide +kernel) rfl, tbm 932 (by decide +kernel) rfl⟩
abbrev mt_X8_yearsGo : MT := (RX8, yX8_yearsGo, cX8_yearsGo, 4, none)
set_option maxRecDepth 100000 in
theorem ok_X8_yearsGo : okV mt_X8_yearsGo 1 := ⟨⟨⟨rfl, by decide, by decide⟩, ⟨by decide, by decide, by decide +kernel⟩, tbm 10 (by decide +kernel) rfl, tbm 938 (by decide +kernel) rfl⟩, tbm 937 (by decide +kernel) rfl, tbs (yX8_yearsGo, 22) 42 (by decide +kernel)⟩
abbrev mt_X8_potGoes : MT := (RX8, yX8_potGoes, cX8_potGoes, 4, none)
set_option maxRecDepth 100000 in
theorem ok_X8_potGoes : okV mt_X8_potGoes 1 := ⟨⟨⟨rfl, by decide, by decide⟩, ⟨by decide, by decide, by decide +kernel⟩, tbm 10 (by decide +kernel) rfl, tbm 942 (by decide +kernel) rfl⟩, tbm 941 (by decide +kernel) rfl, tbs (yX8_potGoes, 22) 43 (by decide +kernel)⟩
abbrev mt_X8_warms : MT := (RX8, yX8_warms, cX8_warms, 4, (some .int))
set_option maxRecDepth 100000 in
theorem ok_X8_warms : okV mt_X8_warms 1 := ⟨⟨⟨rfl, by decide, by decide⟩, ⟨by decide, by decide, by decide +kernel⟩, tbm 10 (by decide +kernel) rfl, tbm 946 (by decide +kernel) rfl⟩, tbm 945 (by decide +kernel) rfl, tbs (yX8_warms, 22) 44 (by decide +kernel)⟩
abbrev mt_X8_manyIn : MT := (RX8, yX8_manyIn, cX8_manyIn, 4, (some .int))
set_option maxRecDepth 100000 in
theorem ok_X8_manyIn : okV mt_X8_manyIn 1 := ⟨⟨⟨rfl, by decide, by decide⟩, ⟨by decide, by decide, by decide +kernel⟩, tbm 10 (by decide +kernel) rfl, tbm 950 (by decide +kernel) rfl⟩, tbm 949 (by decide +kernel) rfl, tbs (yX8_manyIn, 22) 45 (by decide +kernel)⟩
abbrev mt_X8_handles : MT := (RX8, yX8_handles, cX8_handles, 3, (some .int))
set_option maxRecDepth 100000 in
theorem ok_X8_handles : okV mt_X8_handles 0 := ⟨⟨⟨rfl, by decide, by decide⟩, ⟨by decide, by decide, by decide +kernel⟩, tbm 10 (by decide +kernel) rfl, tbm 954 (by decide +kernel) rfl⟩, tbm 953 (by decide +kernel) rfl, tbs (yX8_handles, 22) 46 (by decide +kernel)⟩
abbrev mt_X8_loose : MT := (RX8, yX8_loose, cX8_loose, 4, (some .int))
set_option maxRecDepth 100000 in
theorem ok_X8_loose : okV mt_X8_loose 1 := ⟨⟨⟨rfl, by decide, by decide⟩, ⟨by decide, by decide, by decide +kernel⟩, tbm 10 (by decide +kernel) rfl, tbm 958 (by decide +kernel) rfl⟩, tbm 956 (by decide +kernel) rfl, tbm 957 (by decide +kernel) rfl⟩
abbrev mt_X8_drawn : MT := (RX8, yX8_drawn, cX8_drawn, 1, (some .int))
set_option maxRecDepth 100000 in
theorem ok_X8_drawn : okV mt_X8_drawn 0 := ⟨⟨⟨rfl, by decide, by decide⟩, ⟨by decide, by decide, by decide +kernel⟩, tbm 10 (by decide +kernel) rfl, tbm 963 (by decide +kernel) rfl⟩, tbm 962 (by decide +kernel) rfl, tbs (yX8_drawn, 22) 47 (by decide +kernel)⟩
abbrev mt_X8_then : MT := (RX8, yX8_then, cX8_then, 5, (some .int))
set_option maxRecDepth 100000 in
theorem ok_X8_then : okV mt_X8_then 3 := ⟨⟨⟨rfl, by decide, by decide⟩, ⟨by decide, by decide, by decide +kernel⟩, tbm 10 (by decide +kernel) rfl, tbm 968 (by decide +kernel) rfl⟩, tbm 966 (by decide +kernel) rfl, tbm 967 (by decide +kernel) rfl⟩
abbrev mt_X8_keepAside : MT := (RX8, yX8_keepAside, cX8_keepAside, 2, none)
set_option maxRecDepth 100000 in
theorem ok_X8_keepAside : okV mt_X8_keepAside 0 := ⟨⟨⟨rfl, by decide, by decide⟩, ⟨by decide, by decide, by decide +kernel⟩, tbm 10 (by decide +kernel) rfl, tbm 972 (by decide +kernel) rfl⟩, tbm 971 (by decide +kernel) rfl, tbs (yX8_keepAside, 22) 48 (by decide +kernel)⟩
abbrev mt_X8_putBack : MT := (RX8, yX8_putBack, cX8_putBack, 2, none)
set_option maxRecDepth 100000 in
theorem ok_X8_putBack : okV mt_X8_putBack 0 := ⟨⟨⟨rfl, by decide, by decide⟩, ⟨by decide, by decide, by decide +kernel⟩, tbm 10 (by decide +kernel) rfl, tbm 976 (by decide +kernel) rfl⟩, tbm 975 (by decide +kernel) rfl, tbs (yX8_putBack, 22) 49 (by decide +kernel)⟩
abbrev mt_X8_when : MT := (RX8, yX8_when, cX8_when, 5, (some .int))
set_option maxRecDepth 100000 in
theorem ok_X8_when : okV mt_X8_when 1 := ⟨⟨⟨rfl, by decide, by decide⟩, ⟨by decide, by decide, by decide +kernel⟩, tbm 10 (by decide +kernel) rfl, tbm 980 (by decide +kernel) rfl⟩, tbm 978 (by decide +kernel) rfl, tbm 979 (by decide +kernel) rfl⟩
abbrev mt_X8_shelf : MT := (RX8, yX8_shelf, cX8_shelf, 4, (some .int))
set_option maxRecDepth 100000 in
theorem ok_X8_shelf : okV mt_X8_shelf 2 := ⟨⟨⟨rfl, by decide, by decide⟩, ⟨by decide, by decide, by decide +kernel⟩, tbm 10 (by decide +kernel) rfl, tbm 984 (by decide +kernel) rfl⟩, tbm 982 (by decide +kernel) rfl, tbm 983 (by decide +kernel) rfl⟩
abbrev mt_X8_place : MT := (RX8, yX8_place, cX8_place, 10, (some .int))
set_option maxRecDepth 100000 in
theorem ok_X8_place : okV mt_X8_place 3 := ⟨⟨⟨rfl, by decide, by decide⟩, ⟨by decide, by decide, by decide +kernel⟩, tbm 10 (by decide +kernel) rfl, tbm 988 (by decide +kernel) rfl⟩, tbm 986 (by decide +kernel) rfl, tbm 987 (by decide +kernel) rfl⟩
abbrev mt_X8_use : MT := (RX8, yX8_use, cX8_use, 5, (some .int))
set_option maxRecDepth 100000 in
theorem ok_X8_use : okV mt_X8_use 2 := ⟨⟨⟨rfl, by decide, by decide⟩, ⟨by decide, by decide, by decide +kernel⟩, tbm 10 (by decide +kernel) rfl, tbm 992 (by decide +kernel) rfl⟩, tbm 990 (by decide +kernel) rfl, tbm 991 (by decide +kernel) rfl⟩
abbrev mt_X8_needed : MT := (RX8, yX8_needed, cX8_needed, 6, (some .int))
set_option maxRecDepth 100000 in
theorem ok_X8_needed : okV mt_X8_needed 2 := ⟨⟨⟨rfl, by decide, by decide⟩, ⟨by decide, by decide, by decide +kernel⟩, tbm 10 (by decide +kernel) rfl, tbm 996 (by decide +kernel) rfl⟩, tbm 994 (by decide +kernel) rfl, tbm 995 (by decide +kernel) rfl⟩
abbrev mt_X8_bits : MT := (RX8, yX8_bits, cX8_bits, 3, (some .int))
set_option maxRecDepth 100000 in
theorem ok_X8_bits : okS mt_X8_bits 1 := ⟨⟨⟨rfl, by decide, by decide⟩, ⟨by decide, by decide, by decide +kernel⟩, tbm 10 (by decide +kernel) rfl, tbm 1000 (by decide +kernel) rfl⟩, tbm 999 (by decide +kernel) rfl⟩
abbrev mt_X8_whose : MT := (RX8, yX8_whose, cX8_whose, 8, (some .int))
set_option maxRecDepth 100000 in
theorem ok_X8_whose : okV mt_X8_whose 3 := ⟨⟨⟨rfl, by decide, by decide⟩, ⟨by decide, by decide, by decide +kernel⟩, tbm 10 (by decide +kernel) rfl, tbm 1004 (by decide +kernel) rfl⟩, tbm 1002 (by decide +kernel) rfl, tbm 1003 (by decide +kernel) rfl⟩
abbrev mt_X8_isSheet : MT := (RX8, yX8_isSheet, cX8_isSheet, 1, (some .boolean))
set_option maxRecDepth 100000 in
theorem ok_X8_isSheet : okS mt_X8_isSheet 1 := ⟨⟨⟨rfl, by decide, by decide⟩, ⟨by decide, by decide, by decide +kernel⟩, tbm 10 (by decide +kernel) rfl, tbm 1007 (by decide +kernel) rfl⟩, tbm 1006 (by decide +kernel) rfl⟩
abbrev mt_X8_carry : MT := (RX8, yX8_carry, cX8_carry, 6, (some .int))
set_option maxRecDepth 100000 in
theorem ok_X8_carry : okV mt_X8_carry 1 := ⟨⟨⟨rfl, by decide, by decide⟩, ⟨by decide, by decide, by decide +kernel⟩, tbm 10 (by decide +kernel) rfl, tbm 1012 (by decide +kernel) rfl⟩, tbm 1010 (by decide +kernel) rfl, tbm 1011 (by decide +kernel) rfl⟩
abbrev mt_X8_richest : MT := (RX8, yX8_richest, cX8_richest, 8, (some .int))
set_option maxRecDepth 100000 in
theorem ok_X8_richest : okV mt_X8_richest 2 := ⟨⟨⟨rfl, by decide, by decide⟩, ⟨by decide, by decide, by decide +kernel⟩, tbm 10 (by decide +kernel) rfl, tbm 1016 (by decide +kernel) rfl⟩, tbm 1014 (by decide +kernel) rfl, tbm 1015 (by decide +kernel) rfl⟩
abbrev mt_X8_breaks : MT := (RX8, yX8_breaks, cX8_breaks, 4, (some .int))
set_option maxRecDepth 100000 in
theorem ok_X8_breaks : okV mt_X8_breaks 1 := ⟨⟨⟨rfl, by decide, by decide⟩, ⟨by decide, by decide, by decide +kernel⟩, tbm 10 (by decide +kernel) rfl, tbm 1020 (by decide +kernel) rfl⟩, tbm 1018 (by decide +kernel) rfl, tbm 1019 (by decide +kernel) rfl⟩
abbrev mt_X8_dealer : MT := (RX8, yX8_dealer, cX8_dealer, 6, (some .int))
set_option maxRecDepth 100000 in
theorem ok_X8_dealer : okV mt_X8_dealer 1 := ⟨⟨⟨rfl, by decide, by decide⟩, ⟨by decide, by decide, by decide +kernel⟩, tbm 10 (by decide +kernel) rfl, tbm 1024 (by decide +kernel) rfl⟩, tbm 1022 (by decide +kernel) rfl, tbm 1023 (by decide +kernel) rfl⟩
abbrev mt_X8_odds : MT := (RX8, yX8_odds, cX8_odds, 6, (some .int))
set_option maxRecDepth 100000 in
theorem ok_X8_odds : okV mt_X8_odds 3 := ⟨⟨⟨rfl, by decide, by decide⟩, ⟨by decide, by decide, by decide +kernel⟩, tbm 10 (by decide +kernel) rfl, tbm 1029 (by decide +kernel) rfl⟩, tbm 1027 (by decide +kernel) rfl, tbm 1028 (by decide +kernel) rfl⟩
abbrev mt_X8_common : MT := (RX8, yX8_common, cX8_common, 5, (some .int))
set_option maxRecDepth 100000 in
theorem ok_X8_common : okS mt_X8_common 2 := ⟨⟨⟨rfl, by decide, by decide⟩, ⟨by decide, by decide, by decide +kernel⟩, tbm 10 (by decide +kernel) rfl, tbm 1032 (by decide +kernel) rfl⟩, tbm 1031 (by decide +kernel) rfl⟩
abbrev mt_X8_seed : MT := (RX8, yX8_seed, cX8_seed, 3, (some .int))
set_option maxRecDepth 100000 in
theorem ok_X8_seed : okV mt_X8_seed 1 := ⟨⟨⟨rfl, by decide, by decide⟩, ⟨by decide, by decide, by decide +kernel⟩, tbm 10 (by decide +kernel) rfl, tbm 1036 (by decide +kernel) rfl⟩, tbm 1034 (by decide +kernel) rfl, tbm 1035 (by decide +kernel) rfl⟩
abbrev mt_X8_voice : MT := (RX8, yX8_voice, cX8_voice, 5, (some .int))
set_option maxRecDepth 100000 in
theorem ok_X8_voice : okV mt_X8_voice 3 := ⟨⟨⟨rfl, by decide, by decide⟩, ⟨by decide, by decide, by decide +kernel⟩, tbm 10 (by decide +kernel) rfl, tbm 1040 (by decide +kernel) rfl⟩, tbm 1038 (by decide +kernel) rfl, tbm 1039 (by decide +kernel) rfl⟩
abbrev mt_X8_holdsBy : MT := (RX8, yX8_holdsBy, cX8_holdsBy, 3, (some .int))
set_option maxRecDepth 100000 in
theorem ok_X8_holdsBy : okV mt_X8_holdsBy 2 := ⟨⟨⟨rfl, by decide, by decide⟩, ⟨by decide, by decide, by decide +kernel⟩, tbm 10 (by decide +kernel) rfl, tbm 1044 (by decide +kernel) rfl⟩, tbm 1043 (by decide +kernel) rfl, tbs (yX8_holdsBy, 22) 50 (by decide +kernel)⟩
abbrev mt_X8_ran : MT := (RX8, yX8_ran, cX8_ran, 2, none)
set_option maxRecDepth 100000 in
theorem ok_X8_ran : okV mt_X8_ran 1 := ⟨⟨⟨rfl, by decide, by decide⟩, ⟨by decide, by decide, by decide +kernel⟩, tbm 10 (by decide +kernel) rfl, tbm 1048 (by decide +kernel) rfl⟩, tbm 1047 (by decide +kernel) rfl, tbs (yX8_ran, 22) 51 (by decide +kernel)⟩
abbrev mt_X8_warmsBy : MT := (RX8, yX8_warmsBy, cX8_warmsBy, 4, (some .int))
set_option maxRecDepth 100000 in
theorem ok_X8_warmsBy : okV mt_X8_warmsBy 2 := ⟨⟨⟨rfl, by decide, by decide⟩, ⟨by decide, by decide, by decide +kernel⟩, tbm 10 (by decide +kernel) rfl, tbm 1052 (by decide +kernel) rfl⟩, tbm 1051 (by decide +kernel) rfl, tbs (yX8_warmsBy, 22) 52 (by decide +kernel)⟩
abbrev mt_X8_growsBy : MT := (RX8, yX8_growsBy, cX8_growsBy, 3, (some .int))
set_option maxRecDepth 100000 in
theorem ok_X8_growsBy : okV mt_X8_growsBy 2 := ⟨⟨⟨rfl, by decide, by decide⟩, ⟨by decide, by decide, by decide +kernel⟩, tbm 10 (by decide +kernel) rfl, tbm 1056 (by decide +kernel) rfl⟩, tbm 1055 (by decide +kernel) rfl, tbs (yX8_growsBy, 22) 53 (by decide +kernel)⟩
abbrev mt_X8_tellsBy : MT := (RX8, yX8_tellsBy, cX8_tellsBy, 4, (some .int))
set_option maxRecDepth 100000 in
theorem ok_X8_tellsBy : okV mt_X8_tellsBy 2 := ⟨⟨⟨rfl, by decide, by decide⟩, ⟨by decide, by decide, by decide +kernel⟩, tbm 10 (by decide +kernel) rfl, tbm 1060 (by decide +kernel) rfl⟩, tbm 1059 (by decide +kernel) rfl, tbs (yX8_tellsBy, 22) 54 (by decide +kernel)⟩
abbrev mt_X8_trace : MT := (RX8, yX8_trace, cX8_trace, 2, (some .int))
set_option maxRecDepth 100000 in
theorem ok_X8_trace : okV mt_X8_trace 1 := ⟨⟨⟨rfl, by decide, by decide⟩, ⟨by decide, by decide, by decide +kernel⟩, tbm 10 (by decide +kernel) rfl, tbm 1064 (by decide +kernel) rfl⟩, tbm 1062 (by decide +kernel) rfl, tbm 1063 (by decide +kernel) rfl⟩
abbrev mt_X8_sheet : MT := (RX8, yX8_sheet, cX8_sheet, 5, (some .int))
set_option maxRecDepth 100000 in
theorem ok_X8_sheet : okV mt_X8_sheet 3 := ⟨⟨⟨rfl, by decide, by decide⟩, ⟨by decide, by decide, by decide +kernel⟩, tbm 10 (by decide +kernel) rfl, tbm 1068 (by decide +kernel) rfl⟩, tbm 1066 (by decide +kernel) rfl, tbm 1067 (by decide +kernel) rfl⟩
abbrev mt_X8_put : MT := (RX8, yX8_put, cX8_put, 4, (some .int))
set_option maxRecDepth 100000 in
theorem ok_X8_put : okV mt_X8_put 3 := ⟨⟨⟨rfl, by decide, by decide⟩, ⟨by decide, by decide, by decide +kernel⟩, tbm 10 (by decide +kernel) rfl, tbm 1072 (by decide +kernel) rfl⟩, tbm 1070 (by decide +kernel) rfl, tbm 1071 (by decide +kernel) rfl⟩
abbrev mt_X8_move : MT := (RX8, yX8_move, cX8_move, 7, (some .int))
set_option maxRecDepth 100000 in
theorem ok_X8_move : okV mt_X8_move 5 := ⟨⟨⟨rfl, by decide, by decide⟩, ⟨by decide, by decide, by decide +kernel⟩, tbm 10 (by decide +kernel) rfl, tbm 1076 (by decide +kernel) rfl⟩, tbm 1074 (by decide +kernel) rfl, tbm 1075 (by decide +kernel) rfl⟩
abbrev mt_X8_uses : MT := (RX8, yX8_uses, cX8_uses, 3, (some .int))
set_option maxRecDepth 100000 in
theorem ok_X8_uses : okV mt_X8_uses 1 := ⟨⟨⟨rfl, by decide, by decide⟩, ⟨by decide, by decide, by decide +kernel⟩, tbm 10 (by decide +kernel) rfl, tbm 1080 (by decide +kernel) rfl⟩, tbm 1078 (by decide +kernel) rfl, tbm 1079 (by decide +kernel) rfl⟩
abbrev mt_X8_judge : MT := (RX8, yX8_judge, cX8_judge, 3, (some .int))
set_option maxRecDepth 100000 in
theorem ok_X8_judge : okV mt_X8_judge 1 := ⟨⟨⟨rfl, by decide, by decide⟩, ⟨by decide, by decide, by decide +kernel⟩, tbm 10 (by decide +kernel) rfl, tbm 1084 (by decide +kernel) rfl⟩, tbm 1082 (by decide +kernel) rfl, tbm 1083 (by decide +kernel) rfl⟩
abbrev mt_X8_image : MT := (RX8, yX8_image, cX8_image, 2, (some .int))
set_option maxRecDepth 100000 in
theorem ok_X8_image : okV mt_X8_image 0 := ⟨⟨⟨rfl, by decide, by decide⟩, ⟨by decide, by decide, by decide +kernel⟩, tbm 10 (by decide +kernel) rfl, tbm 1088 (by decide +kernel) rfl⟩, tbm 1086 (by decide +kernel) rfl, tbm 1087 (by decide +kernel) rfl⟩
abbrev mt_X8_restore : MT := (RX8, yX8_restore, cX8_restore, 2, (some .int))
set_option maxRecDepth 100000 in
theorem ok_X8_restore : okV mt_X8_restore 0 := ⟨⟨⟨rfl, by decide, by decide⟩, ⟨by decide, by decide, by decide +kernel⟩, tbm 10 (by decide +kernel) rfl, tbm 1092 (by decide +kernel) rfl⟩, tbm 1090 (by decide +kernel) rfl, tbm 1091 (by decide +kernel) rfl⟩
abbrev mt_X8_tell : MT := (RX8, yX8_tell, cX8_tell, 2, (some .int))
set_option maxRecDepth 100000 in
theorem ok_X8_tell : okV mt_X8_tell 1 := ⟨⟨⟨rfl, by decide, by decide⟩, ⟨by decide, by decide, by decide +kernel⟩, tbm 10 (by decide +kernel) rfl, tbm 1096 (by decide +kernel) rfl⟩, tbm 1094 (by decide +kernel) rfl, tbm 1095 (by decide +kernel) rfl⟩
abbrev mt_X8_check : MT := (RX8, yX8_check, cX8_check, 4, (some .int))
set_option maxRecDepth 100000 in
theorem ok_X8_check : okV mt_X8_check 0 := ⟨⟨⟨rfl, by decide, by decide⟩, ⟨by decide, by decide, by decide +kernel⟩, tbm 10 (by decide +kernel) rfl, tbm 1100 (by decide +kernel) rfl⟩, tbm 1098 (by decide +kernel) rfl, tbm 1099 (by decide +kernel) rfl⟩
abbrev mt_X8_count : MT := (RX8, yX8_count, cX8_count, 2, (some .int))
set_option maxRecDepth 100000 in
theorem ok_X8_count : okV mt_X8_count 1 := ⟨⟨⟨rfl, by decide, by decide⟩, ⟨by decide, by decide, by decide +kernel⟩, tbm 10 (by decide +kernel) rfl, tbm 1104 (by decide +kernel) rfl⟩, tbm 1102 (by decide +kernel) rfl, tbm 1103 (by decide +kernel) rfl⟩
abbrev mt_X8_told : MT := (RX8, yX8_told, cX8_told, 2, (some .int))
set_option maxRecDepth 100000 in
theorem ok_X8_told : okV mt_X8_told 1 := ⟨⟨⟨rfl, by decide, by decide⟩, ⟨by decide, by decide, by decide +kernel⟩, tbm 10 (by decide +kernel) rfl, tbm 1108 (by decide +kernel) rfl⟩, tbm 1106 (by decide +kernel) rfl, tbm 1107 (by decide +kernel) rfl⟩
set_option maxRecDepth 100000 in
theorem ml_X7_57 : Cond.methodLink RX7 57 yX7_isHouse ∈ TB := tbm 258 (by decide +kernel) rfl
set_option maxRecDepth 100000 in
theorem ml_X7_61 : Cond.methodLink RX7 61 yX7_isWithin ∈ TB := tbm 261 (by decide +kernel) rfl
set_option maxRecDepth 100000 in
theorem ml_X7_65 : Cond.methodLink RX7 65 yX7_fail ∈ TB := tbm 264 (by decide +kernel) rfl
set_option maxRecDepth 100000 in
theorem ml_X7_75 : Cond.methodLink RX7 75 yX1_potsIn ∈ TB := tbm 273 (by decide +kernel) rfl
set_option maxRecDepth 100000 in
theorem ml_X7_78 : Cond.methodLink RX7 78 yX7_isKindWithNumber ∈ TB := tbm 281 (by decide +kernel) rfl
set_option maxRecDepth 100000 in
theorem ml_X7_89 : Cond.methodLink RX7 89 yX3_begin ∈ TB := tbm 284 (by decide +kernel) rfl
set_option maxRecDepth 100000 in
theorem ml_X7_95 : Cond.methodLink RX7 95 yX1_has ∈ TB := tbm 292 (by decide +kernel) rfl
set_option maxRecDepth 100000 in
theorem ml_X7_123 : Cond.methodLink RX7 123 yX3_wants ∈ TB := tbm 296 (by decide +kernel) rfl
set_option maxRecDepth 100000 in
theorem ml_X7_127 : Cond.methodLink RX7 127 yX3_bears ∈ TB := tbm 300 (by decide +kernel) rfl
set_option maxRecDepth 100000 in
theorem ml_X7_130 : Cond.methodLink RX7 130 yX3_goTo ∈ TB := tbm 312 (by decide +kernel) rfl
set_option maxRecDepth 100000 in
theorem ml_X7_134 : Cond.methodLink RX7 134 yX3_canTakeFalseHandle ∈ TB := tbm 320 (by decide +kernel) rfl
set_option maxRecDepth 100000 in
theorem ml_X7_138 : Cond.methodLink RX7 138 yX3_takeFalseHandle ∈ TB := tbm 324 (by decide +kernel) rfl
set_option maxRecDepth 100000 in
theorem ml_X7_141 : Cond.methodLink RX7 141 yX7_isUnder ∈ TB := tbm 336 (by decide +kernel) rfl
set_option maxRecDepth 100000 in
theorem ml_X7_151 : Cond.methodLink RX7 151 yX4_readTape ∈ TB := tbm 350 (by decide +kernel) rfl
set_option maxRecDepth 100000 in
theorem ml_X7_158 : Cond.methodLink RX7 158 yX1_lawOf ∈ TB := tbm 397 (by decide +kernel) rfl
set_option maxRecDepth 100000 in
theorem ml_X7_166 : Cond.methodLink RX7 166 yX2_copy ∈ TB := tbm 401 (by decide +kernel) rfl
set_option maxRecDepth 100000 in
theorem ml_X7_172 : Cond.methodLink RX7 172 yX1_given ∈ TB := tbm 410 (by decide +kernel) rfl
set_option maxRecDepth 100000 in
theorem ml_X7_179 : Cond.methodLink RX7 179 yX1_passYears ∈ TB := tbm 435 (by decide +kernel) rfl
set_option maxRecDepth 100000 in
theorem ml_X7_182 : Cond.methodLink RX7 182 yX1_allHandles ∈ TB := tbm 464 (by decide +kernel) rfl
set_option maxRecDepth 100000 in
theorem ml_X7_185 : Cond.methodLink RX7 185 yX0_draw ∈ TB := tbm 472 (by decide +kernel) rfl
set_option maxRecDepth 100000 in
theorem ml_X7_188 : Cond.methodLink RX7 188 yX7_behind ∈ TB := tbm 481 (by decide +kernel) rfl
set_option maxRecDepth 100000 in
theorem ml_X7_192 : Cond.methodLink RX7 192 yX7_asNow ∈ TB := tbm 485 (by decide +kernel) rfl
set_option maxRecDepth 100000 in
theorem ml_X7_196 : Cond.methodLink RX7 196 yX1_potsWithHandle ∈ TB := tbm 507 (by decide +kernel) rfl
set_option maxRecDepth 100000 in
theorem ml_X7_199 : Cond.methodLink RX7 199 yX7_whenMoved ∈ TB := tbm 515 (by decide +kernel) rfl
set_option maxRecDepth 100000 in
theorem ml_X7_203 : Cond.methodLink RX7 203 yX1_allPots ∈ TB := tbm 527 (by decide +kernel) rfl
set_option maxRecDepth 100000 in
theorem ml_X7_206 : Cond.methodLink RX7 206 yJ6_bitCount_0f7a4 ∈ TB := tbm 531 (by decide +kernel) rfl
set_option maxRecDepth 100000 in
theorem ml_X7_211 : Cond.methodLink RX7 211 yX7_haveHandlesIfCaredFor ∈ TB := tbm 532 (by decide +kernel) rfl
set_option maxRecDepth 100000 in
theorem ml_X7_215 : Cond.methodLink RX7 215 yX7_isSheet ∈ TB := tbm 540 (by decide +kernel) rfl
set_option maxRecDepth 100000 in
theorem ml_X7_218 : Cond.methodLink RX7 218 yX5_isMissing ∈ TB := tbm 543 (by decide +kernel) rfl
set_option maxRecDepth 100000 in
theorem ml_X7_221 : Cond.methodLink RX7 221 yX7_isLikedAsTold ∈ TB := tbm 547 (by decide +kernel) rfl
set_option maxRecDepth 100000 in
theorem ml_X7_225 : Cond.methodLink RX7 225 Lib.Math.min.name ∈ TB := tbm 555 (by decide +kernel) rfl
set_option maxRecDepth 100000 in
theorem ml_X7_231 : Cond.methodLink RX7 231 yX1_handlesIn ∈ TB := tbm 560 (by decide +kernel) rfl
set_option maxRecDepth 100000 in
theorem ml_X7_234 : Cond.methodLink RX7 234 yX7_handlesIfStuck ∈ TB := tbm 572 (by decide +kernel) rfl
set_option maxRecDepth 100000 in
theorem ml_X7_237 : Cond.methodLink RX7 237 yX7_whenBeing ∈ TB := tbm 580 (by decide +kernel) rfl
set_option maxRecDepth 100000 in
theorem ml_X7_243 : Cond.methodLink RX7 243 yX6_speak ∈ TB := tbm 592 (by decide +kernel) rfl
set_option maxRecDepth 100000 in
theorem ml_X7_253 : Cond.methodLink RX7 253 yX5_lay ∈ TB := tbm 624 (by decide +kernel) rfl
set_option maxRecDepth 100000 in
theorem ml_X7_262 : Cond.methodLink RX7 262 yX5_lowestBits ∈ TB := tbm 633 (by decide +kernel) rfl
set_option maxRecDepth 100000 in
theorem ml_X7_268 : Cond.methodLink RX7 268 yX5_holds ∈ TB := tbm 641 (by decide +kernel) rfl
set_option maxRecDepth 100000 in
theorem ml_X7_271 : Cond.methodLink RX7 271 arraycopyName ∈ TB := tbm 645 (by decide +kernel) rfl
set_option maxRecDepth 100000 in
theorem ml_X7_277 : Cond.methodLink RX7 277 yX1_copy ∈ TB := tbm 489 (by decide +kernel) rfl
set_option maxRecDepth 100000 in
theorem ml_X7_280 : Cond.methodLink RX7 280 yX0_copy ∈ TB := tbm 658 (by decide +kernel) rfl
set_option maxRecDepth 100000 in
theorem ml_X7_295 : Cond.methodLink RX7 295 yX1_falsePots ∈ TB := tbm 679 (by decide +kernel) rfl
set_option maxRecDepth 100000 in
theorem ml_X7_299 : Cond.methodLink RX7 299 yX7_kindAbove ∈ TB := tbm 339 (by decide +kernel) rfl
set_option maxRecDepth 100000 in
theorem ml_X0_23 : Cond.methodLink RX0 23 arraycopyName ∈ TB := tbm 662 (by decide +kernel) rfl
set_option maxRecDepth 100000 in
theorem ml_X1_41 : Cond.methodLink RX1 41 arraycopyName ∈ TB := tbm 493 (by decide +kernel) rfl
set_option maxRecDepth 100000 in
theorem ml_X1_51 : Cond.methodLink RX1 51 yX3_copy ∈ TB := tbm 494 (by decide +kernel) rfl
set_option maxRecDepth 100000 in
theorem ml_X1_55 : Cond.methodLink RX1 55 yX2_copy ∈ TB := tbm 498 (by decide +kernel) rfl
set_option maxRecDepth 100000 in
theorem ml_X1_64 : Cond.methodLink RX1 64 yX1_lawOf ∈ TB := tbm 414 (by decide +kernel) rfl
set_option maxRecDepth 100000 in
theorem ml_X1_68 : Cond.methodLink RX1 68 yX2_stands ∈ TB := tbm 415 (by decide +kernel) rfl
set_option maxRecDepth 100000 in
theorem ml_X1_72 : Cond.methodLink RX1 72 yX2_workedOut ∈ TB := tbm 419 (by decide +kernel) rfl
set_option maxRecDepth 100000 in
theorem ml_X1_76 : Cond.methodLink RX1 76 Lib.Math.min.name ∈ TB := tbm 429 (by decide +kernel) rfl
set_option maxRecDepth 100000 in
theorem ml_X1_82 : Cond.methodLink RX1 82 Lib.Math.max.name ∈ TB := tbm 430 (by decide +kernel) rfl
set_option maxRecDepth 100000 in
theorem ml_X1_92 : Cond.methodLink RX1 92 yX1_passYearOf ∈ TB := tbm 440 (by decide +kernel) rfl
set_option maxRecDepth 100000 in
theorem ml_X1_99 : Cond.methodLink RX1 99 yX1_given ∈ TB := tbm 444 (by decide +kernel) rfl
set_option maxRecDepth 100000 in
theorem ml_X1_103 : Cond.methodLink RX1 103 yX3_liveYear ∈ TB := tbm 445 (by decide +kernel) rfl
set_option maxRecDepth 100000 in
theorem ml_X1_107 : Cond.methodLink RX1 107 yX1_potsIn ∈ TB := tbm 457 (by decide +kernel) rfl
set_option maxRecDepth 100000 in
theorem ml_X1_111 : Cond.methodLink RX1 111 yJ6_bitCount_0f7a4 ∈ TB := tbm 458 (by decide +kernel) rfl
set_option maxRecDepth 100000 in
theorem ml_X2_22 : Cond.methodLink RX2 22 arraycopyName ∈ TB := tbm 405 (by decide +kernel) rfl
set_option maxRecDepth 100000 in
theorem ml_X2_28 : Cond.methodLink RX2 28 yX2_joined ∈ TB := tbm 423 (by decide +kernel) rfl
set_option maxRecDepth 100000 in
theorem ml_X2_32 : Cond.methodLink RX2 32 yX2_namedOrNumber ∈ TB := tbm 426 (by decide +kernel) rfl
set_option maxRecDepth 100000 in
theorem ml_X3_37 : Cond.methodLink RX3 37 Lib.Math.max.name ∈ TB := tbm 453 (by decide +kernel) rfl
set_option maxRecDepth 100000 in
theorem ml_X3_43 : Cond.methodLink RX3 43 yX3_warmedBy ∈ TB := tbm 449 (by decide +kernel) rfl
set_option maxRecDepth 100000 in
theorem ml_X3_47 : Cond.methodLink RX3 47 Lib.Math.min.name ∈ TB := tbm 454 (by decide +kernel) rfl
set_option maxRecDepth 100000 in
theorem ml_X3_50 : Cond.methodLink RX3 50 yX3_wants ∈ TB := tbm 455 (by decide +kernel) rfl
set_option maxRecDepth 100000 in
theorem ml_X3_54 : Cond.methodLink RX3 54 yX3_bears ∈ TB := tbm 456 (by decide +kernel) rfl
set_option maxRecDepth 100000 in
theorem ml_X4_22 : Cond.methodLink RX4 22 Lib.Math.min.name ∈ TB := tbm 354 (by decide +kernel) rfl
set_option maxRecDepth 100000 in
theorem ml_X4_28 : Cond.methodLink RX4 28 Lib.Math.max.name ∈ TB := tbm 357 (by decide +kernel) rfl
set_option maxRecDepth 100000 in
theorem ml_X4_35 : Cond.methodLink RX4 35 arraycopyName ∈ TB := tbm 360 (by decide +kernel) rfl
set_option maxRecDepth 100000 in
theorem ml_X4_47 : Cond.methodLink RX4 47 yX2_clear ∈ TB := tbm 363 (by decide +kernel) rfl
set_option maxRecDepth 100000 in
theorem ml_X4_50 : Cond.methodLink RX4 50 yX4_readLevel ∈ TB := tbm 367 (by decide +kernel) rfl
set_option maxRecDepth 100000 in
theorem ml_X4_54 : Cond.methodLink RX4 54 yX4_readLast ∈ TB := tbm 371 (by decide +kernel) rfl
set_option maxRecDepth 100000 in
theorem ml_X4_58 : Cond.methodLink RX4 58 yX4_next ∈ TB := tbm 375 (by decide +kernel) rfl
set_option maxRecDepth 100000 in
theorem ml_X4_62 : Cond.methodLink RX4 62 yX4_levelOf ∈ TB := tbm 394 (by decide +kernel) rfl
set_option maxRecDepth 100000 in
theorem ml_X4_66 : Cond.methodLink RX4 66 yX2_add ∈ TB := tbm 386 (by decide +kernel) rfl
set_option maxRecDepth 100000 in
theorem ml_X4_70 : Cond.methodLink RX4 70 yX4_isDigit ∈ TB := tbm 379 (by decide +kernel) rfl
set_option maxRecDepth 100000 in
theorem ml_X4_73 : Cond.methodLink RX4 73 yX4_readNumber ∈ TB := tbm 382 (by decide +kernel) rfl
set_option maxRecDepth 100000 in
theorem ml_X4_76 : Cond.methodLink RX4 76 yX4_nameOf ∈ TB := tbm 390 (by decide +kernel) rfl
set_option maxRecDepth 100000 in
theorem ml_X5_22 : Cond.methodLink RX5 22 yJ7_fill_53178 ∈ TB := tbm 628 (by decide +kernel) rfl
set_option maxRecDepth 100000 in
theorem ml_X6_32 : Cond.methodLink RX6 32 yX6_say ∈ TB := tbm 596 (by decide +kernel) rfl
set_option maxRecDepth 100000 in
theorem ml_X6_36 : Cond.methodLink RX6 36 yX6_bodyOf ∈ TB := tbm 600 (by decide +kernel) rfl
set_option maxRecDepth 100000 in
theorem ml_X6_40 : Cond.methodLink RX6 40 yX6_begin ∈ TB := tbm 603 (by decide +kernel) rfl
set_option maxRecDepth 100000 in
theorem ml_X6_44 : Cond.methodLink RX6 44 yX6_sayBody ∈ TB := tbm 607 (by decide +kernel) rfl
set_option maxRecDepth 100000 in
theorem ml_X6_52 : Cond.methodLink RX6 52 yX6_sayAbove ∈ TB := tbm 611 (by decide +kernel) rfl
set_option maxRecDepth 100000 in
theorem ml_X8_47 : Cond.methodLink RX8 47 yX8_in ∈ TB := tbm 765 (by decide +kernel) rfl
set_option maxRecDepth 100000 in
theorem ml_X8_53 : Cond.methodLink RX8 53 yX8_of ∈ TB := tbm 868 (by decide +kernel) rfl
set_option maxRecDepth 100000 in
theorem ml_X8_70 : Cond.methodLink RX8 70 yX8_here ∈ TB := tbm 806 (by decide +kernel) rfl
set_option maxRecDepth 100000 in
theorem ml_X8_81 : Cond.methodLink RX8 81 yX8_both ∈ TB := tbm 786 (by decide +kernel) rfl
set_option maxRecDepth 100000 in
theorem ml_X8_84 : Cond.methodLink RX8 84 yX8_takes ∈ TB := tbm 822 (by decide +kernel) rfl
set_option maxRecDepth 100000 in
theorem ml_X8_88 : Cond.methodLink RX8 88 yX8_lay ∈ TB := tbm 818 (by decide +kernel) rfl
set_option maxRecDepth 100000 in
theorem ml_X8_92 : Cond.methodLink RX8 92 yX8_compared ∈ TB := tbm 790 (by decide +kernel) rfl
set_option maxRecDepth 100000 in
theorem ml_X8_95 : Cond.methodLink RX8 95 yX8_sum ∈ TB := tbm 794 (by decide +kernel) rfl
set_option maxRecDepth 100000 in
theorem ml_X8_98 : Cond.methodLink RX8 98 yX8_product ∈ TB := tbm 798 (by decide +kernel) rfl
set_option maxRecDepth 100000 in
theorem ml_X8_101 : Cond.methodLink RX8 101 yX8_unit ∈ TB := tbm 802 (by decide +kernel) rfl
set_option maxRecDepth 100000 in
theorem ml_X8_107 : Cond.methodLink RX8 107 yX8_wrong ∈ TB := tbm 814 (by decide +kernel) rfl
set_option maxRecDepth 100000 in
theorem ml_X8_110 : Cond.methodLink RX8 110 yX8_either ∈ TB := tbm 782 (by decide +kernel) rfl
set_option maxRecDepth 100000 in
theorem ml_X8_113 : Cond.methodLink RX8 113 yX8_opens ∈ TB := tbm 810 (by decide +kernel) rfl
set_option maxRecDepth 100000 in
theorem ml_X8_116 : Cond.methodLink RX8 116 yX8_nameOf ∈ TB := tbm 826 (by decide +kernel) rfl
set_option maxRecDepth 100000 in
theorem ml_X8_124 : Cond.methodLink RX8 124 yX8_done ∈ TB := tbm 844 (by decide +kernel) rfl
set_option maxRecDepth 100000 in
theorem ml_X8_130 : Cond.methodLink RX8 130 yX8_finds ∈ TB := tbm 768 (by decide +kernel) rfl
set_option maxRecDepth 100000 in
theorem ml_X8_135 : Cond.methodLink RX8 135 yX8_reads ∈ TB := tbm 778 (by decide +kernel) rfl
set_option maxRecDepth 100000 in
theorem ml_X8_139 : Cond.methodLink RX8 139 yX8_worked ∈ TB := tbm 840 (by decide +kernel) rfl
set_option maxRecDepth 100000 in
theorem ml_X8_142 : Cond.methodLink RX8 142 yX8_held ∈ TB := tbm 847 (by decide +kernel) rfl
set_option maxRecDepth 100000 in
theorem ml_X8_145 : Cond.methodLink RX8 145 yX8_textGives ∈ TB := tbm 836 (by decide +kernel) rfl
set_option maxRecDepth 100000 in
theorem ml_X8_149 : Cond.methodLink RX8 149 yX8_sets ∈ TB := tbm 881 (by decide +kernel) rfl
set_option maxRecDepth 100000 in
theorem ml_X8_152 : Cond.methodLink RX8 152 yX8_warms ∈ TB := tbm 943 (by decide +kernel) rfl
set_option maxRecDepth 100000 in
theorem ml_X8_155 : Cond.methodLink RX8 155 yX8_wants ∈ TB := tbm 893 (by decide +kernel) rfl
set_option maxRecDepth 100000 in
theorem ml_X8_158 : Cond.methodLink RX8 158 yX8_bears ∈ TB := tbm 897 (by decide +kernel) rfl
set_option maxRecDepth 100000 in
theorem ml_X8_161 : Cond.methodLink RX8 161 yX8_manyIn ∈ TB := tbm 947 (by decide +kernel) rfl
set_option maxRecDepth 100000 in
theorem ml_X8_164 : Cond.methodLink RX8 164 yX8_isBroken ∈ TB := tbm 872 (by decide +kernel) rfl
set_option maxRecDepth 100000 in
theorem ml_X8_167 : Cond.methodLink RX8 167 yX8_potGoes ∈ TB := tbm 939 (by decide +kernel) rfl
set_option maxRecDepth 100000 in
theorem ml_X8_170 : Cond.methodLink RX8 170 yX8_isHouse ∈ TB := tbm 854 (by decide +kernel) rfl
set_option maxRecDepth 100000 in
theorem ml_X8_177 : Cond.methodLink RX8 177 yX8_setOf ∈ TB := tbm 864 (by decide +kernel) rfl
set_option maxRecDepth 100000 in
theorem ml_X8_182 : Cond.methodLink RX8 182 yX8_isPot ∈ TB := tbm 889 (by decide +kernel) rfl
set_option maxRecDepth 100000 in
theorem ml_X8_187 : Cond.methodLink RX8 187 yX8_moves ∈ TB := tbm 910 (by decide +kernel) rfl
set_option maxRecDepth 100000 in
theorem ml_X8_193 : Cond.methodLink RX8 193 yX8_above ∈ TB := tbm 927 (by decide +kernel) rfl
set_option maxRecDepth 100000 in
theorem ml_X8_198 : Cond.methodLink RX8 198 yX8_yearsGo ∈ TB := tbm 935 (by decide +kernel) rfl
set_option maxRecDepth 100000 in
theorem ml_X8_201 : Cond.methodLink RX8 201 yX8_handles ∈ TB := tbm 951 (by decide +kernel) rfl
set_option maxRecDepth 100000 in
theorem ml_X8_207 : Cond.methodLink RX8 207 yX8_drawn ∈ TB := tbm 960 (by decide +kernel) rfl
set_option maxRecDepth 100000 in
theorem ml_X8_210 : Cond.methodLink RX8 210 yX8_keepAside ∈ TB := tbm 969 (by decide +kernel) rfl
set_option maxRecDepth 100000 in
theorem ml_X8_213 : Cond.methodLink RX8 213 yX8_putBack ∈ TB := tbm 973 (by decide +kernel) rfl
set_option maxRecDepth 100000 in
theorem ml_X8_218 : Cond.methodLink RX8 218 yX8_bits ∈ TB := tbm 998 (by decide +kernel) rfl
set_option maxRecDepth 100000 in
theorem ml_X8_221 : Cond.methodLink RX8 221 yX8_isSheet ∈ TB := tbm 1005 (by decide +kernel) rfl
set_option maxRecDepth 100000 in
theorem ml_X8_226 : Cond.methodLink RX8 226 yX8_common ∈ TB := tbm 1030 (by decide +kernel) rfl
set_option maxRecDepth 100000 in
theorem ml_X8_232 : Cond.methodLink RX8 232 yX8_ran ∈ TB := tbm 1045 (by decide +kernel) rfl
set_option maxRecDepth 100000 in
theorem ml_X8_238 : Cond.methodLink RX8 238 yX8_holdsBy ∈ TB := tbm 1041 (by decide +kernel) rfl
set_option maxRecDepth 100000 in
theorem ml_X8_241 : Cond.methodLink RX8 241 yX8_warmsBy ∈ TB := tbm 1049 (by decide +kernel) rfl
set_option maxRecDepth 100000 in
theorem ml_X8_244 : Cond.methodLink RX8 244 yX8_growsBy ∈ TB := tbm 1053 (by decide +kernel) rfl
set_option maxRecDepth 100000 in
theorem ml_X8_247 : Cond.methodLink RX8 247 yX8_tellsBy ∈ TB := tbm 1057 (by decide +kernel) rfl
set_option maxRecDepth 100000 in
theorem st_max : Cond.static Lib.Math.max.name ∈ TB := tbm 358 (by decide +kernel) rfl
set_option maxRecDepth 100000 in
theorem cd_max : Cond.code Lib.Math.max.name Lib.Math.max.code 2 (some .int) ∈ TB := tbm 359 (by decide +kernel) rfl
set_option maxRecDepth 100000 in
theorem st_min : Cond.static Lib.Math.min.name ∈ TB := tbm 355 (by decide +kernel) rfl
set_option maxRecDepth 100000 in
theorem cd_min : Cond.code Lib.Math.min.name Lib.Math.min.code 2 (some .int) ∈ TB := tbm 356 (by decide +kernel) rfl
set_option maxRecDepth 100000 in
theorem in_Math : Cond.initialized "java/lang/Math" ∈ TB := tbm 11 (by decide +kernel) rfl
set_option maxRecDepth 100000 in
theorem in_System : Cond.initialized "java/lang/System" ∈ TB := tbm 12 (by decide +kernel) rfl
set_option maxRecDepth 100000 in
theorem na_copy : Cond.native arraycopyName ∈ TB := tbm 362 (by decide +kernel) rfl
set_option maxRecDepth 100000 in
theorem st_copy : Cond.static arraycopyName ∈ TB := tbm 361 (by decide +kernel) rfl
set_option maxRecDepth 100000 in
theorem ko_X7_298 : Cond.constant RX7 298 (-1000000000) ∈ TB := tbm 268 (by decide +kernel) rfl
set_option maxRecDepth 100000 in
theorem ko_X0_35 : Cond.constant RX0 35 (1103515245) ∈ TB := tbm 476 (by decide +kernel) rfl
set_option maxRecDepth 100000 in
theorem ko_X8_46 : Cond.constant RX8 46 (-1000000000) ∈ TB := tbm 772 (by decide +kernel) rfl
set_option maxRecDepth 100000 in
theorem ko_X8_51 : Cond.constantLong RX8 51 (4) ∈ TB := tbm 857 (by decide +kernel) rfl
set_option maxRecDepth 100000 in
theorem ko_X8_120 : Cond.constantLong RX8 120 (48) ∈ TB := tbm 830 (by decide +kernel) rfl
set_option maxRecDepth 100000 in
theorem ko_X8_122 : Cond.constantLong RX8 122 (57) ∈ TB := tbm 831 (by decide +kernel) rfl
set_option maxRecDepth 100000 in
theorem ko_X8_128 : Cond.constantLong RX8 128 (8) ∈ TB := tbm 764 (by decide +kernel) rfl
set_option maxRecDepth 100000 in
theorem ko_X8_133 : Cond.constantLong RX8 133 (255) ∈ TB := tbm 773 (by decide +kernel) rfl
set_option maxRecDepth 100000 in
theorem ko_X8_173 : Cond.constantLong RX8 173 (9) ∈ TB := tbm 858 (by decide +kernel) rfl
set_option maxRecDepth 100000 in
theorem ko_X8_175 : Cond.constantLong RX8 175 (2) ∈ TB := tbm 863 (by decide +kernel) rfl
set_option maxRecDepth 100000 in
theorem ko_X8_180 : Cond.constantLong RX8 180 (69) ∈ TB := tbm 880 (by decide +kernel) rfl
set_option maxRecDepth 100000 in
theorem ko_X8_185 : Cond.constantLong RX8 185 (999) ∈ TB := tbm 905 (by decide +kernel) rfl
set_option maxRecDepth 100000 in
theorem ko_X8_191 : Cond.constantLong RX8 191 (6) ∈ TB := tbm 926 (by decide +kernel) rfl
set_option maxRecDepth 100000 in
theorem ko_X8_196 : Cond.constantLong RX8 196 (60) ∈ TB := tbm 934 (by decide +kernel) rfl
set_option maxRecDepth 100000 in
theorem ko_X8_204 : Cond.constant RX8 204 (1103515245) ∈ TB := tbm 964 (by decide +kernel) rfl
set_option maxRecDepth 100000 in
theorem ko_X8_205 : Cond.constantLong RX8 205 (40) ∈ TB := tbm 959 (by decide +kernel) rfl
set_option maxRecDepth 100000 in
theorem ko_X8_216 : Cond.constantLong RX8 216 (20) ∈ TB := tbm 997 (by decide +kernel) rfl
set_option maxRecDepth 100000 in
theorem ko_X8_224 : Cond.constantLong RX8 224 (30) ∈ TB := tbm 1025 (by decide +kernel) rfl
set_option maxRecDepth 100000 in
theorem ko_X8_250 : Cond.constantLong RX8 250 (3) ∈ TB := tbm 1008 (by decide +kernel) rfl
set_option maxRecDepth 100000 in
theorem ko_X8_255 : Cond.constantLong RX8 255 (5) ∈ TB := tbm 1109 (by decide +kernel) rfl
set_option maxRecDepth 100000 in
theorem ko_J6_265 : Cond.constant RJ6 265 (1431655765) ∈ TB := tbm 461 (by decide +kernel) rfl
set_option maxRecDepth 100000 in
theorem ko_J6_266 : Cond.constant RJ6 266 (858993459) ∈ TB := tbm 462 (by decide +kernel) rfl
set_option maxRecDepth 100000 in
theorem ko_J6_267 : Cond.constant RJ6 267 (252645135) ∈ TB := tbm 463 (by decide +kernel) rfl
set_option maxRecDepth 100000 in
theorem inT_0 : ∀ w ∈ u_ws RX0 TX0 5, w ∈ TB := by
  intro w hw
  obtain ⟨k, hk, rfl⟩ := List.mem_map.mp hw
  have h : ∀ k, k < 5 → tables_1[([141, 143, 145, 147, 149] : List Nat).getD k 0]? = some (u_lay RX0 TX0 k) ∧ goodWord (u_lay RX0 TX0 k) = true := by decide +kernel
  exact tbm _ (h k (List.mem_range.mp hk)).1 (h k (List.mem_range.mp hk)).2
set_option maxRecDepth 100000 in
theorem inT_1 : ∀ w ∈ u_ws RX1 TX1 8, w ∈ TB := by
  intro w hw
  obtain ⟨k, hk, rfl⟩ := List.mem_map.mp hw
  have h : ∀ k, k < 8 → tables_1[([108, 110, 112, 114, 116, 118, 120, 122] : List Nat).getD k 0]? = some (u_lay RX1 TX1 k) ∧ goodWord (u_lay RX1 TX1 k) = true := by decide +kernel
  exact tbm _ (h k (List.mem_range.mp hk)).1 (h k (List.mem_range.mp hk)).2
set_option maxRecDepth 100000 in
theorem inT_2 : ∀ w ∈ u_ws RX2 TX2 3, w ∈ TB := by
  intro w hw
  obtain ⟨k, hk, rfl⟩ := List.mem_map.mp hw
  have h : ∀ k, k < 3 → tables_1[([39, 41, 43] : List Nat).getD k 0]? = some (u_lay RX2 TX2 k) ∧ goodWord (u_lay RX2 TX2 k) = true := by decide +kernel
  exact tbm _ (h k (List.mem_range.mp hk)).1 (h k (List.mem_range.mp hk)).2
set_option maxRecDepth 100000 in
theorem inT_3 : ∀ w ∈ u_ws RX3 TX3 8, w ∈ TB := by
  intro w hw
  obtain ⟨k, hk, rfl⟩ := List.mem_map.mp hw
  have h : ∀ k, k < 8 → tables_1[([77, 79, 81, 83, 85, 87, 89, 91] : List Nat).getD k 0]? = some (u_lay RX3 TX3 k) ∧ goodWord (u_lay RX3 TX3 k) = true := by decide +kernel
  exact tbm _ (h k (List.mem_range.mp hk)).1 (h k (List.mem_range.mp hk)).2
set_option maxRecDepth 100000 in
theorem inT_4 : ∀ w ∈ u_ws RX4 TX4 5, w ∈ TB := by
  intro w hw
  obtain ⟨k, hk, rfl⟩ := List.mem_map.mp hw
  have h : ∀ k, k < 5 → tables_1[([168, 170, 172, 174, 176] : List Nat).getD k 0]? = some (u_lay RX4 TX4 k) ∧ goodWord (u_lay RX4 TX4 k) = true := by decide +kernel
  exact tbm _ (h k (List.mem_range.mp hk)).1 (h k (List.mem_range.mp hk)).2
set_option maxRecDepth 100000 in
theorem inT_5 : ∀ w ∈ u_ws RX5 TX5 3, w ∈ TB := by
  intro w hw
  obtain ⟨k, hk, rfl⟩ := List.mem_map.mp hw
  have h : ∀ k, k < 3 → tables_1[([216, 218, 220] : List Nat).getD k 0]? = some (u_lay RX5 TX5 k) ∧ goodWord (u_lay RX5 TX5 k) = true := by decide +kernel
  exact tbm _ (h k (List.mem_range.mp hk)).1 (h k (List.mem_range.mp hk)).2
set_option maxRecDepth 100000 in
theorem inT_6 : ∀ w ∈ u_ws RX6 TX6 5, w ∈ TB := by
  intro w hw
  obtain ⟨k, hk, rfl⟩ := List.mem_map.mp hw
  have h : ∀ k, k < 5 → tables_1[([192, 194, 196, 198, 200] : List Nat).getD k 0]? = some (u_lay RX6 TX6 k) ∧ goodWord (u_lay RX6 TX6 k) = true := by decide +kernel
  exact tbm _ (h k (List.mem_range.mp hk)).1 (h k (List.mem_range.mp hk)).2
set_option maxRecDepth 100000 in
theorem inT_7 : ∀ w ∈ u_ws RX7 TX7 10, w ∈ TB := by
  intro w hw
  obtain ⟨k, hk, rfl⟩ := List.mem_map.mp hw
  have h : ∀ k, k < 10 → tables_1[([233, 235, 237, 239, 241, 243, 245, 247, 249, 251] : List Nat).getD k 0]? = some (u_lay RX7 TX7 k) ∧ goodWord (u_lay RX7 TX7 k) = true := by decide +kernel
  exact tbm _ (h k (List.mem_range.mp hk)).1 (h k (List.mem_range.mp hk)).2
set_option maxRecDepth 100000 in
theorem inT_8 : ∀ w ∈ u_ws RX8 TX8 22, w ∈ TB := by
  intro w hw
  obtain ⟨k, hk, rfl⟩ := List.mem_map.mp hw
  have h : ∀ k, k < 22 → tables_1[([715, 717, 719, 721, 723, 725, 727, 729, 731, 733, 735, 737, 739, 741, 743, 745, 747, 749, 751, 753, 755, 757] : List Nat).getD k 0]? = some (u_lay RX8 TX8 k) ∧ goodWord (u_lay RX8 TX8 k) = true := by decide +kernel
  exact tbm _ (h k (List.mem_range.mp hk)).1 (h k (List.mem_range.mp hk)).2
section FL
variable {X : CtxX} {t : MT} {d : Nat} {r : Option AV} {M' : MM} {pc : Nat} {L : List (Nat × AV)} {st : List AV} {M N : Mem}
set_option maxRecDepth 100000 in
theorem fg_X7_10 {i : Nat} (ht : t.1 = RX7) (hi : i < 1) (hdg : decode t.2.2.1 pc = .ok (.getfield 10, 3)) (k : GX X t d r M' (pc + 3) L (.inr (.inr (1, 0)) :: st) (M, N)) : GX X t d r M' pc L (.inr (.inr (7, i)) :: st) (M, N) := G_get (ci := 7) (k0 := 0) inT_7 rfl (by rw [ht]; exact tbm 223 (by decide +kernel) rfl) (by decide) hi rfl (by decide) rfl (by decide) rfl hdg k
set_option maxRecDepth 100000 in
theorem fg_X7_16 {i : Nat} (ht : t.1 = RX7) (hi : i < 1) (hdg : decode t.2.2.1 pc = .ok (.getfield 16, 3)) (k : GX X t d r M' (pc + 3) L (.inr (.inr (1, 1)) :: st) (M, N)) : GX X t d r M' pc L (.inr (.inr (7, i)) :: st) (M, N) := G_get (ci := 7) (k0 := 1) inT_7 rfl (by rw [ht]; exact tbm 224 (by decide +kernel) rfl) (by decide) hi rfl (by decide) rfl (by decide) rfl hdg k
set_option maxRecDepth 100000 in
theorem fg_X7_19 {i : Nat} (ht : t.1 = RX7) (hi : i < 1) (hdg : decode t.2.2.1 pc = .ok (.getfield 19, 3)) (k : GX X t d r M' (pc + 3) L (.inr (.inr (1, 2)) :: st) (M, N)) : GX X t d r M' pc L (.inr (.inr (7, i)) :: st) (M, N) := G_get (ci := 7) (k0 := 2) inT_7 rfl (by rw [ht]; exact tbm 225 (by decide +kernel) rfl) (by decide) hi rfl (by decide) rfl (by decide) rfl hdg k
set_option maxRecDepth 100000 in
theorem fg_X7_25 {i : Nat} (ht : t.1 = RX7) (hi : i < 1) (hdg : decode t.2.2.1 pc = .ok (.getfield 25, 3)) (k : GX X t d r M' (pc + 3) L (.inr (.inr (0, 0)) :: st) (M, N)) : GX X t d r M' pc L (.inr (.inr (7, i)) :: st) (M, N) := G_get (ci := 7) (k0 := 3) inT_7 rfl (by rw [ht]; exact tbm 226 (by decide +kernel) rfl) (by decide) hi rfl (by decide) rfl (by decide) rfl hdg k
set_option maxRecDepth 100000 in
theorem fg_X7_29 {i : Nat} (ht : t.1 = RX7) (hi : i < 1) (hdg : decode t.2.2.1 pc = .ok (.getfield 29, 3)) (k : GX X t d r M' (pc + 3) L (.inr (.inr (0, 1)) :: st) (M, N)) : GX X t d r M' pc L (.inr (.inr (7, i)) :: st) (M, N) := G_get (ci := 7) (k0 := 4) inT_7 rfl (by rw [ht]; exact tbm 227 (by decide +kernel) rfl) (by decide) hi rfl (by decide) rfl (by decide) rfl hdg k
set_option maxRecDepth 100000 in
theorem fg_X7_35 {i : Nat} (ht : t.1 = RX7) (hi : i < 1) (hdg : decode t.2.2.1 pc = .ok (.getfield 35, 3)) (k : GX X t d r M' (pc + 3) L (.inr (.inr (4, 0)) :: st) (M, N)) : GX X t d r M' pc L (.inr (.inr (7, i)) :: st) (M, N) := G_get (ci := 7) (k0 := 5) inT_7 rfl (by rw [ht]; exact tbm 228 (by decide +kernel) rfl) (by decide) hi rfl (by decide) rfl (by decide) rfl hdg k
set_option maxRecDepth 100000 in
theorem fg_X7_42 {i : Nat} (ht : t.1 = RX7) (hi : i < 1) (hdg : decode t.2.2.1 pc = .ok (.getfield 42, 3)) (k : GX X t d r M' (pc + 3) L (.inr (.inr (6, 0)) :: st) (M, N)) : GX X t d r M' pc L (.inr (.inr (7, i)) :: st) (M, N) := G_get (ci := 7) (k0 := 6) inT_7 rfl (by rw [ht]; exact tbm 229 (by decide +kernel) rfl) (by decide) hi rfl (by decide) rfl (by decide) rfl hdg k
set_option maxRecDepth 100000 in
theorem fg_X7_48 {i : Nat} (ht : t.1 = RX7) (hi : i < 1) (hdg : decode t.2.2.1 pc = .ok (.getfield 48, 3)) (k : GX X t d r M' (pc + 3) L (.inr (.inr (17, 0)) :: st) (M, N)) : GX X t d r M' pc L (.inr (.inr (7, i)) :: st) (M, N) := G_get (ci := 7) (k0 := 7) inT_7 rfl (by rw [ht]; exact tbm 230 (by decide +kernel) rfl) (by decide) hi rfl (by decide) rfl (by decide) rfl hdg k
set_option maxRecDepth 100000 in
theorem fg_X7_52 {i : Nat} (ht : t.1 = RX7) (hi : i < 1) (hdg : decode t.2.2.1 pc = .ok (.getfield 52, 3)) (k : GX X t d r M' (pc + 3) L (.inr (.inr (18, 0)) :: st) (M, N)) : GX X t d r M' pc L (.inr (.inr (7, i)) :: st) (M, N) := G_get (ci := 7) (k0 := 8) inT_7 rfl (by rw [ht]; exact tbm 231 (by decide +kernel) rfl) (by decide) hi rfl (by decide) rfl (by decide) rfl hdg k
set_option maxRecDepth 100000 in
theorem fg_X7_69 {i : Nat} (ht : t.1 = RX7) (hi : i < 3) (hdg : decode t.2.2.1 pc = .ok (.getfield 69, 3)) (k : GX X t d r M' (pc + 3) L (.inr (.inr (10, i)) :: st) (M, N)) : GX X t d r M' pc L (.inr (.inr (1, i)) :: st) (M, N) := G_get (ci := 1) (k0 := 0) inT_1 rfl (by rw [ht]; exact tbm 95 (by decide +kernel) rfl) (by decide) hi rfl (by decide) rfl (by decide) rfl hdg k
set_option maxRecDepth 100000 in
theorem fg_X7_72 {i : Nat} (ht : t.1 = RX7) (hi : i < 3) (hdg : decode t.2.2.1 pc = .ok (.getfield 72, 3)) (k : GX X t d r M' (pc + 3) L (.inr (.inr (11, i)) :: st) (M, N)) : GX X t d r M' pc L (.inr (.inr (1, i)) :: st) (M, N) := G_get (ci := 1) (k0 := 1) inT_1 rfl (by rw [ht]; exact tbm 97 (by decide +kernel) rfl) (by decide) hi rfl (by decide) rfl (by decide) rfl hdg k
set_option maxRecDepth 100000 in
theorem fg_X7_81 {i : Nat} {v : Int32} (hv : M 1 i 5 = v) (ht : t.1 = RX7) (hi : i < 3) (hdg : decode t.2.2.1 pc = .ok (.getfield 81, 3)) (k : GX X t d r M' (pc + 3) L (.inl v :: st) (M, N)) : GX X t d r M' pc L (.inr (.inr (1, i)) :: st) (M, N) := G_get (ci := 1) (k0 := 5) inT_1 rfl (by rw [ht]; exact tbm 103 (by decide +kernel) rfl) (by decide) hi rfl (by decide) rfl (by decide) (by rw [← hv]; rfl) hdg k
set_option maxRecDepth 100000 in
theorem fg_X7_85 {i : Nat} (ht : t.1 = RX7) (hi : i < 3) (hdg : decode t.2.2.1 pc = .ok (.getfield 85, 3)) (k : GX X t d r M' (pc + 3) L (.inr (.inr (12, i)) :: st) (M, N)) : GX X t d r M' pc L (.inr (.inr (1, i)) :: st) (M, N) := G_get (ci := 1) (k0 := 2) inT_1 rfl (by rw [ht]; exact tbm 99 (by decide +kernel) rfl) (by decide) hi rfl (by decide) rfl (by decide) rfl hdg k
set_option maxRecDepth 100000 in
theorem fg_X7_98 {i : Nat} {v : Int32} (hv : M 3 i 0 = v) (ht : t.1 = RX7) (hi : i < 30) (hdg : decode t.2.2.1 pc = .ok (.getfield 98, 3)) (k : GX X t d r M' (pc + 3) L (.inl v :: st) (M, N)) : GX X t d r M' pc L (.inr (.inr (3, i)) :: st) (M, N) := G_get (ci := 3) (k0 := 0) inT_3 rfl (by rw [ht]; exact tbm 57 (by decide +kernel) rfl) (by decide) hi rfl (by decide) rfl (by decide) (by rw [← hv]; rfl) hdg k
set_option maxRecDepth 100000 in
theorem fg_X7_101 {i : Nat} {v : Int32} (hv : M 3 i 1 = v) (ht : t.1 = RX7) (hi : i < 30) (hdg : decode t.2.2.1 pc = .ok (.getfield 101, 3)) (k : GX X t d r M' (pc + 3) L (.inl v :: st) (M, N)) : GX X t d r M' pc L (.inr (.inr (3, i)) :: st) (M, N) := G_get (ci := 3) (k0 := 1) inT_3 rfl (by rw [ht]; exact tbm 60 (by decide +kernel) rfl) (by decide) hi rfl (by decide) rfl (by decide) (by rw [← hv]; rfl) hdg k
set_option maxRecDepth 100000 in
theorem fg_X7_104 {i : Nat} {v : Int32} (hv : M 3 i 2 = v) (ht : t.1 = RX7) (hi : i < 30) (hdg : decode t.2.2.1 pc = .ok (.getfield 104, 3)) (k : GX X t d r M' (pc + 3) L (.inl v :: st) (M, N)) : GX X t d r M' pc L (.inr (.inr (3, i)) :: st) (M, N) := G_get (ci := 3) (k0 := 2) inT_3 rfl (by rw [ht]; exact tbm 62 (by decide +kernel) rfl) (by decide) hi rfl (by decide) rfl (by decide) (by rw [← hv]; rfl) hdg k
set_option maxRecDepth 100000 in
theorem fg_X7_107 {i : Nat} {v : Int32} (hv : M 3 i 3 = v) (ht : t.1 = RX7) (hi : i < 30) (hdg : decode t.2.2.1 pc = .ok (.getfield 107, 3)) (k : GX X t d r M' (pc + 3) L (.inl v :: st) (M, N)) : GX X t d r M' pc L (.inr (.inr (3, i)) :: st) (M, N) := G_get (ci := 3) (k0 := 3) inT_3 rfl (by rw [ht]; exact tbm 65 (by decide +kernel) rfl) (by decide) hi rfl (by decide) rfl (by decide) (by rw [← hv]; rfl) hdg k
set_option maxRecDepth 100000 in
theorem fg_X7_110 {i : Nat} {v : Int32} (hv : M 3 i 4 = v) (ht : t.1 = RX7) (hi : i < 30) (hdg : decode t.2.2.1 pc = .ok (.getfield 110, 3)) (k : GX X t d r M' (pc + 3) L (.inl v :: st) (M, N)) : GX X t d r M' pc L (.inr (.inr (3, i)) :: st) (M, N) := G_get (ci := 3) (k0 := 4) inT_3 rfl (by rw [ht]; exact tbm 68 (by decide +kernel) rfl) (by decide) hi rfl (by decide) rfl (by decide) (by rw [← hv]; rfl) hdg k
set_option maxRecDepth 100000 in
theorem fg_X7_113 {i : Nat} {v : Int32} (hv : M 3 i 5 = v) (ht : t.1 = RX7) (hi : i < 30) (hdg : decode t.2.2.1 pc = .ok (.getfield 113, 3)) (k : GX X t d r M' (pc + 3) L (.inl v :: st) (M, N)) : GX X t d r M' pc L (.inr (.inr (3, i)) :: st) (M, N) := G_get (ci := 3) (k0 := 5) inT_3 rfl (by rw [ht]; exact tbm 70 (by decide +kernel) rfl) (by decide) hi rfl (by decide) rfl (by decide) (by rw [← hv]; rfl) hdg k
set_option maxRecDepth 100000 in
theorem fg_X7_116 {i : Nat} {v : Int32} (hv : M 3 i 6 = v) (ht : t.1 = RX7) (hi : i < 30) (hdg : decode t.2.2.1 pc = .ok (.getfield 116, 3)) (k : GX X t d r M' (pc + 3) L (.inl v :: st) (M, N)) : GX X t d r M' pc L (.inr (.inr (3, i)) :: st) (M, N) := G_get (ci := 3) (k0 := 6) inT_3 rfl (by rw [ht]; exact tbm 72 (by decide +kernel) rfl) (by decide) hi rfl (by decide) rfl (by decide) (by rw [← hv]; rfl) hdg k
set_option maxRecDepth 100000 in
theorem fg_X7_119 {i : Nat} {v : Int32} (hv : nbZ (M 3 i 7) = v) (ht : t.1 = RX7) (hi : i < 30) (hdg : decode t.2.2.1 pc = .ok (.getfield 119, 3)) (k : GX X t d r M' (pc + 3) L (.inl v :: st) (M, N)) : GX X t d r M' pc L (.inr (.inr (3, i)) :: st) (M, N) := G_get (ci := 3) (k0 := 7) inT_3 rfl (by rw [ht]; exact tbm 75 (by decide +kernel) rfl) (by decide) hi rfl (by decide) rfl (by decide) (by rw [← hv]; rfl) hdg k
set_option maxRecDepth 100000 in
theorem fg_X7_144 {i : Nat} {v : Int32} (hv : M 0 i 2 = v) (ht : t.1 = RX7) (hi : i < 2) (hdg : decode t.2.2.1 pc = .ok (.getfield 144, 3)) (k : GX X t d r M' (pc + 3) L (.inl v :: st) (M, N)) : GX X t d r M' pc L (.inr (.inr (0, i)) :: st) (M, N) := G_get (ci := 0) (k0 := 2) inT_0 rfl (by rw [ht]; exact tbm 136 (by decide +kernel) rfl) (by decide) hi rfl (by decide) rfl (by decide) (by rw [← hv]; rfl) hdg k
set_option maxRecDepth 100000 in
theorem fg_X7_147 {i : Nat} (ht : t.1 = RX7) (hi : i < 2) (hdg : decode t.2.2.1 pc = .ok (.getfield 147, 3)) (k : GX X t d r M' (pc + 3) L (.inr (.inr (8, i)) :: st) (M, N)) : GX X t d r M' pc L (.inr (.inr (0, i)) :: st) (M, N) := G_get (ci := 0) (k0 := 0) inT_0 rfl (by rw [ht]; exact tbm 132 (by decide +kernel) rfl) (by decide) hi rfl (by decide) rfl (by decide) rfl hdg k
set_option maxRecDepth 100000 in
theorem fg_X7_155 {i : Nat} {v : Int32} (hv : M 4 i 4 = v) (ht : t.1 = RX7) (hi : i < 1) (hdg : decode t.2.2.1 pc = .ok (.getfield 155, 3)) (k : GX X t d r M' (pc + 3) L (.inl v :: st) (M, N)) : GX X t d r M' pc L (.inr (.inr (4, i)) :: st) (M, N) := G_get (ci := 4) (k0 := 4) inT_4 rfl (by rw [ht]; exact tbm 167 (by decide +kernel) rfl) (by decide) hi rfl (by decide) rfl (by decide) (by rw [← hv]; rfl) hdg k
set_option maxRecDepth 100000 in
theorem fg_X7_162 {i : Nat} (ht : t.1 = RX7) (hi : i < 1) (hdg : decode t.2.2.1 pc = .ok (.getfield 162, 3)) (k : GX X t d r M' (pc + 3) L (.inr (.inr (2, 6)) :: st) (M, N)) : GX X t d r M' pc L (.inr (.inr (4, i)) :: st) (M, N) := G_get (ci := 4) (k0 := 0) inT_4 rfl (by rw [ht]; exact tbm 162 (by decide +kernel) rfl) (by decide) hi rfl (by decide) rfl (by decide) rfl hdg k
set_option maxRecDepth 100000 in
theorem fg_X7_176 {i : Nat} {v : Int32} (hv : M 1 i 6 = v) (ht : t.1 = RX7) (hi : i < 3) (hdg : decode t.2.2.1 pc = .ok (.getfield 176, 3)) (k : GX X t d r M' (pc + 3) L (.inl v :: st) (M, N)) : GX X t d r M' pc L (.inr (.inr (1, i)) :: st) (M, N) := G_get (ci := 1) (k0 := 6) inT_1 rfl (by rw [ht]; exact tbm 105 (by decide +kernel) rfl) (by decide) hi rfl (by decide) rfl (by decide) (by rw [← hv]; rfl) hdg k
set_option maxRecDepth 100000 in
theorem fg_X7_240 {i : Nat} {v : Int32} (hv : M 0 i 4 = v) (ht : t.1 = RX7) (hi : i < 2) (hdg : decode t.2.2.1 pc = .ok (.getfield 240, 3)) (k : GX X t d r M' (pc + 3) L (.inl v :: st) (M, N)) : GX X t d r M' pc L (.inr (.inr (0, i)) :: st) (M, N) := G_get (ci := 0) (k0 := 4) inT_0 rfl (by rw [ht]; exact tbm 140 (by decide +kernel) rfl) (by decide) hi rfl (by decide) rfl (by decide) (by rw [← hv]; rfl) hdg k
set_option maxRecDepth 100000 in
theorem fg_X7_247 {i : Nat} {v : Int32} (hv : M 6 i 1 = v) (ht : t.1 = RX7) (hi : i < 1) (hdg : decode t.2.2.1 pc = .ok (.getfield 247, 3)) (k : GX X t d r M' (pc + 3) L (.inl v :: st) (M, N)) : GX X t d r M' pc L (.inr (.inr (6, i)) :: st) (M, N) := G_get (ci := 6) (k0 := 1) inT_6 rfl (by rw [ht]; exact tbm 188 (by decide +kernel) rfl) (by decide) hi rfl (by decide) rfl (by decide) (by rw [← hv]; rfl) hdg k
set_option maxRecDepth 100000 in
theorem fg_X7_250 {i : Nat} (ht : t.1 = RX7) (hi : i < 1) (hdg : decode t.2.2.1 pc = .ok (.getfield 250, 3)) (k : GX X t d r M' (pc + 3) L (.inr (.inr (16, i)) :: st) (M, N)) : GX X t d r M' pc L (.inr (.inr (6, i)) :: st) (M, N) := G_get (ci := 6) (k0 := 0) inT_6 rfl (by rw [ht]; exact tbm 186 (by decide +kernel) rfl) (by decide) hi rfl (by decide) rfl (by decide) rfl hdg k
set_option maxRecDepth 100000 in
theorem fg_X7_257 {i : Nat} {v : Int32} (hv : M 5 i 2 = v) (ht : t.1 = RX7) (hi : i < 4) (hdg : decode t.2.2.1 pc = .ok (.getfield 257, 3)) (k : GX X t d r M' (pc + 3) L (.inl v :: st) (M, N)) : GX X t d r M' pc L (.inr (.inr (5, i)) :: st) (M, N) := G_get (ci := 5) (k0 := 2) inT_5 rfl (by rw [ht]; exact tbm 215 (by decide +kernel) rfl) (by decide) hi rfl (by decide) rfl (by decide) (by rw [← hv]; rfl) hdg k
set_option maxRecDepth 100000 in
theorem fg_X7_260 {i : Nat} (ht : t.1 = RX7) (hi : i < 4) (hdg : decode t.2.2.1 pc = .ok (.getfield 260, 3)) (k : GX X t d r M' (pc + 3) L (.inr (.inr (15, i)) :: st) (M, N)) : GX X t d r M' pc L (.inr (.inr (5, i)) :: st) (M, N) := G_get (ci := 5) (k0 := 0) inT_5 rfl (by rw [ht]; exact tbm 211 (by decide +kernel) rfl) (by decide) hi rfl (by decide) rfl (by decide) rfl hdg k
set_option maxRecDepth 100000 in
theorem fg_X7_265 {i : Nat} {v : Int32} (hv : M 5 i 1 = v) (ht : t.1 = RX7) (hi : i < 4) (hdg : decode t.2.2.1 pc = .ok (.getfield 265, 3)) (k : GX X t d r M' (pc + 3) L (.inl v :: st) (M, N)) : GX X t d r M' pc L (.inr (.inr (5, i)) :: st) (M, N) := G_get (ci := 5) (k0 := 1) inT_5 rfl (by rw [ht]; exact tbm 213 (by decide +kernel) rfl) (by decide) hi rfl (by decide) rfl (by decide) (by rw [← hv]; rfl) hdg k
set_option maxRecDepth 100000 in
theorem fg_X7_283 {i : Nat} {v : Int32} (hv : M 7 i 9 = v) (ht : t.1 = RX7) (hi : i < 1) (hdg : decode t.2.2.1 pc = .ok (.getfield 283, 3)) (k : GX X t d r M' (pc + 3) L (.inl v :: st) (M, N)) : GX X t d r M' pc L (.inr (.inr (7, i)) :: st) (M, N) := G_get (ci := 7) (k0 := 9) inT_7 rfl (by rw [ht]; exact tbm 232 (by decide +kernel) rfl) (by decide) hi rfl (by decide) rfl (by decide) (by rw [← hv]; rfl) hdg k
set_option maxRecDepth 100000 in
theorem fg_X7_286 {i : Nat} {v : Int32} (hv : M 0 i 3 = v) (ht : t.1 = RX7) (hi : i < 2) (hdg : decode t.2.2.1 pc = .ok (.getfield 286, 3)) (k : GX X t d r M' (pc + 3) L (.inl v :: st) (M, N)) : GX X t d r M' pc L (.inr (.inr (0, i)) :: st) (M, N) := G_get (ci := 0) (k0 := 3) inT_0 rfl (by rw [ht]; exact tbm 138 (by decide +kernel) rfl) (by decide) hi rfl (by decide) rfl (by decide) (by rw [← hv]; rfl) hdg k
set_option maxRecDepth 100000 in
theorem fg_X7_289 {i : Nat} (ht : t.1 = RX7) (hi : i < 2) (hdg : decode t.2.2.1 pc = .ok (.getfield 289, 3)) (k : GX X t d r M' (pc + 3) L (.inr (.inr (9, i)) :: st) (M, N)) : GX X t d r M' pc L (.inr (.inr (0, i)) :: st) (M, N) := G_get (ci := 0) (k0 := 1) inT_0 rfl (by rw [ht]; exact tbm 134 (by decide +kernel) rfl) (by decide) hi rfl (by decide) rfl (by decide) rfl hdg k
set_option maxRecDepth 100000 in
theorem fg_X7_292 {i : Nat} {v : Int32} (hv : M 1 i 7 = v) (ht : t.1 = RX7) (hi : i < 3) (hdg : decode t.2.2.1 pc = .ok (.getfield 292, 3)) (k : GX X t d r M' (pc + 3) L (.inl v :: st) (M, N)) : GX X t d r M' pc L (.inr (.inr (1, i)) :: st) (M, N) := G_get (ci := 1) (k0 := 7) inT_1 rfl (by rw [ht]; exact tbm 107 (by decide +kernel) rfl) (by decide) hi rfl (by decide) rfl (by decide) (by rw [← hv]; rfl) hdg k
set_option maxRecDepth 100000 in
theorem fg_X0_9 {i : Nat} (ht : t.1 = RX0) (hi : i < 2) (hdg : decode t.2.2.1 pc = .ok (.getfield 9, 3)) (k : GX X t d r M' (pc + 3) L (.inr (.inr (8, i)) :: st) (M, N)) : GX X t d r M' pc L (.inr (.inr (0, i)) :: st) (M, N) := G_get (ci := 0) (k0 := 0) inT_0 rfl (by rw [ht]; exact tbm 131 (by decide +kernel) rfl) (by decide) hi rfl (by decide) rfl (by decide) rfl hdg k
set_option maxRecDepth 100000 in
theorem fg_X0_15 {i : Nat} (ht : t.1 = RX0) (hi : i < 2) (hdg : decode t.2.2.1 pc = .ok (.getfield 15, 3)) (k : GX X t d r M' (pc + 3) L (.inr (.inr (9, i)) :: st) (M, N)) : GX X t d r M' pc L (.inr (.inr (0, i)) :: st) (M, N) := G_get (ci := 0) (k0 := 1) inT_0 rfl (by rw [ht]; exact tbm 133 (by decide +kernel) rfl) (by decide) hi rfl (by decide) rfl (by decide) rfl hdg k
set_option maxRecDepth 100000 in
theorem fg_X0_19 {i : Nat} {v : Int32} (hv : M 0 i 4 = v) (ht : t.1 = RX0) (hi : i < 2) (hdg : decode t.2.2.1 pc = .ok (.getfield 19, 3)) (k : GX X t d r M' (pc + 3) L (.inl v :: st) (M, N)) : GX X t d r M' pc L (.inr (.inr (0, i)) :: st) (M, N) := G_get (ci := 0) (k0 := 4) inT_0 rfl (by rw [ht]; exact tbm 139 (by decide +kernel) rfl) (by decide) hi rfl (by decide) rfl (by decide) (by rw [← hv]; rfl) hdg k
set_option maxRecDepth 100000 in
theorem fg_X0_29 {i : Nat} {v : Int32} (hv : M 0 i 2 = v) (ht : t.1 = RX0) (hi : i < 2) (hdg : decode t.2.2.1 pc = .ok (.getfield 29, 3)) (k : GX X t d r M' (pc + 3) L (.inl v :: st) (M, N)) : GX X t d r M' pc L (.inr (.inr (0, i)) :: st) (M, N) := G_get (ci := 0) (k0 := 2) inT_0 rfl (by rw [ht]; exact tbm 135 (by decide +kernel) rfl) (by decide) hi rfl (by decide) rfl (by decide) (by rw [← hv]; rfl) hdg k
set_option maxRecDepth 100000 in
theorem fg_X0_32 {i : Nat} {v : Int32} (hv : M 0 i 3 = v) (ht : t.1 = RX0) (hi : i < 2) (hdg : decode t.2.2.1 pc = .ok (.getfield 32, 3)) (k : GX X t d r M' (pc + 3) L (.inl v :: st) (M, N)) : GX X t d r M' pc L (.inr (.inr (0, i)) :: st) (M, N) := G_get (ci := 0) (k0 := 3) inT_0 rfl (by rw [ht]; exact tbm 137 (by decide +kernel) rfl) (by decide) hi rfl (by decide) rfl (by decide) (by rw [← hv]; rfl) hdg k
set_option maxRecDepth 100000 in
theorem fg_X1_9 {i : Nat} (ht : t.1 = RX1) (hi : i < 3) (hdg : decode t.2.2.1 pc = .ok (.getfield 9, 3)) (k : GX X t d r M' (pc + 3) L (.inr (.inr (10, i)) :: st) (M, N)) : GX X t d r M' pc L (.inr (.inr (1, i)) :: st) (M, N) := G_get (ci := 1) (k0 := 0) inT_1 rfl (by rw [ht]; exact tbm 94 (by decide +kernel) rfl) (by decide) hi rfl (by decide) rfl (by decide) rfl hdg k
set_option maxRecDepth 100000 in
theorem fg_X1_15 {i : Nat} (ht : t.1 = RX1) (hi : i < 3) (hdg : decode t.2.2.1 pc = .ok (.getfield 15, 3)) (k : GX X t d r M' (pc + 3) L (.inr (.inr (11, i)) :: st) (M, N)) : GX X t d r M' pc L (.inr (.inr (1, i)) :: st) (M, N) := G_get (ci := 1) (k0 := 1) inT_1 rfl (by rw [ht]; exact tbm 96 (by decide +kernel) rfl) (by decide) hi rfl (by decide) rfl (by decide) rfl hdg k
set_option maxRecDepth 100000 in
theorem fg_X1_20 {i : Nat} (ht : t.1 = RX1) (hi : i < 3) (hdg : decode t.2.2.1 pc = .ok (.getfield 20, 3)) (k : GX X t d r M' (pc + 3) L (.inr (.inr (12, i)) :: st) (M, N)) : GX X t d r M' pc L (.inr (.inr (1, i)) :: st) (M, N) := G_get (ci := 1) (k0 := 2) inT_1 rfl (by rw [ht]; exact tbm 98 (by decide +kernel) rfl) (by decide) hi rfl (by decide) rfl (by decide) rfl hdg k
set_option maxRecDepth 100000 in
theorem fg_X1_27 {i : Nat} (ht : t.1 = RX1) (hi : i < 3) (hdg : decode t.2.2.1 pc = .ok (.getfield 27, 3)) (k : GX X t d r M' (pc + 3) L (.inr (.inr (2, (2 * i))) :: st) (M, N)) : GX X t d r M' pc L (.inr (.inr (1, i)) :: st) (M, N) := G_get (ci := 1) (k0 := 3) inT_1 rfl (by rw [ht]; exact tbm 100 (by decide +kernel) rfl) (by decide) hi rfl (by decide) rfl (by decide) rfl hdg k
set_option maxRecDepth 100000 in
theorem fg_X1_31 {i : Nat} (ht : t.1 = RX1) (hi : i < 3) (hdg : decode t.2.2.1 pc = .ok (.getfield 31, 3)) (k : GX X t d r M' (pc + 3) L (.inr (.inr (2, (2 * i + 1))) :: st) (M, N)) : GX X t d r M' pc L (.inr (.inr (1, i)) :: st) (M, N) := G_get (ci := 1) (k0 := 4) inT_1 rfl (by rw [ht]; exact tbm 101 (by decide +kernel) rfl) (by decide) hi rfl (by decide) rfl (by decide) rfl hdg k
set_option maxRecDepth 100000 in
theorem fg_X1_47 {i : Nat} {v : Int32} (hv : M 1 i 5 = v) (ht : t.1 = RX1) (hi : i < 3) (hdg : decode t.2.2.1 pc = .ok (.getfield 47, 3)) (k : GX X t d r M' (pc + 3) L (.inl v :: st) (M, N)) : GX X t d r M' pc L (.inr (.inr (1, i)) :: st) (M, N) := G_get (ci := 1) (k0 := 5) inT_1 rfl (by rw [ht]; exact tbm 102 (by decide +kernel) rfl) (by decide) hi rfl (by decide) rfl (by decide) (by rw [← hv]; rfl) hdg k
set_option maxRecDepth 100000 in
theorem fg_X1_58 {i : Nat} {v : Int32} (hv : M 1 i 6 = v) (ht : t.1 = RX1) (hi : i < 3) (hdg : decode t.2.2.1 pc = .ok (.getfield 58, 3)) (k : GX X t d r M' (pc + 3) L (.inl v :: st) (M, N)) : GX X t d r M' pc L (.inr (.inr (1, i)) :: st) (M, N) := G_get (ci := 1) (k0 := 6) inT_1 rfl (by rw [ht]; exact tbm 104 (by decide +kernel) rfl) (by decide) hi rfl (by decide) rfl (by decide) (by rw [← hv]; rfl) hdg k
set_option maxRecDepth 100000 in
theorem fg_X1_61 {i : Nat} {v : Int32} (hv : M 1 i 7 = v) (ht : t.1 = RX1) (hi : i < 3) (hdg : decode t.2.2.1 pc = .ok (.getfield 61, 3)) (k : GX X t d r M' (pc + 3) L (.inl v :: st) (M, N)) : GX X t d r M' pc L (.inr (.inr (1, i)) :: st) (M, N) := G_get (ci := 1) (k0 := 7) inT_1 rfl (by rw [ht]; exact tbm 106 (by decide +kernel) rfl) (by decide) hi rfl (by decide) rfl (by decide) (by rw [← hv]; rfl) hdg k
set_option maxRecDepth 100000 in
theorem fg_X1_85 {i : Nat} {v : Int32} (hv : M 3 i 2 = v) (ht : t.1 = RX1) (hi : i < 30) (hdg : decode t.2.2.1 pc = .ok (.getfield 85, 3)) (k : GX X t d r M' (pc + 3) L (.inl v :: st) (M, N)) : GX X t d r M' pc L (.inr (.inr (3, i)) :: st) (M, N) := G_get (ci := 3) (k0 := 2) inT_3 rfl (by rw [ht]; exact tbm 63 (by decide +kernel) rfl) (by decide) hi rfl (by decide) rfl (by decide) (by rw [← hv]; rfl) hdg k
set_option maxRecDepth 100000 in
theorem fg_X1_96 {i : Nat} {v : Int32} (hv : M 3 i 3 = v) (ht : t.1 = RX1) (hi : i < 30) (hdg : decode t.2.2.1 pc = .ok (.getfield 96, 3)) (k : GX X t d r M' (pc + 3) L (.inl v :: st) (M, N)) : GX X t d r M' pc L (.inr (.inr (3, i)) :: st) (M, N) := G_get (ci := 3) (k0 := 3) inT_3 rfl (by rw [ht]; exact tbm 66 (by decide +kernel) rfl) (by decide) hi rfl (by decide) rfl (by decide) (by rw [← hv]; rfl) hdg k
set_option maxRecDepth 100000 in
theorem fg_X1_116 {i : Nat} {v : Int32} (hv : M 3 i 6 = v) (ht : t.1 = RX1) (hi : i < 30) (hdg : decode t.2.2.1 pc = .ok (.getfield 116, 3)) (k : GX X t d r M' (pc + 3) L (.inl v :: st) (M, N)) : GX X t d r M' pc L (.inr (.inr (3, i)) :: st) (M, N) := G_get (ci := 3) (k0 := 6) inT_3 rfl (by rw [ht]; exact tbm 73 (by decide +kernel) rfl) (by decide) hi rfl (by decide) rfl (by decide) (by rw [← hv]; rfl) hdg k
set_option maxRecDepth 100000 in
theorem fg_X1_119 {i : Nat} {v : Int32} (hv : nbZ (M 3 i 7) = v) (ht : t.1 = RX1) (hi : i < 30) (hdg : decode t.2.2.1 pc = .ok (.getfield 119, 3)) (k : GX X t d r M' (pc + 3) L (.inl v :: st) (M, N)) : GX X t d r M' pc L (.inr (.inr (3, i)) :: st) (M, N) := G_get (ci := 3) (k0 := 7) inT_3 rfl (by rw [ht]; exact tbm 76 (by decide +kernel) rfl) (by decide) hi rfl (by decide) rfl (by decide) (by rw [← hv]; rfl) hdg k
set_option maxRecDepth 100000 in
theorem fg_X2_9 {i : Nat} (ht : t.1 = RX2) (hi : i < 7) (hdg : decode t.2.2.1 pc = .ok (.getfield 9, 3)) (k : GX X t d r M' (pc + 3) L (.inr (.inr (13, i)) :: st) (M, N)) : GX X t d r M' pc L (.inr (.inr (2, i)) :: st) (M, N) := G_get (ci := 2) (k0 := 0) inT_2 rfl (by rw [ht]; exact tbm 36 (by decide +kernel) rfl) (by decide) hi rfl (by decide) rfl (by decide) rfl hdg k
set_option maxRecDepth 100000 in
theorem fg_X2_15 {i : Nat} (ht : t.1 = RX2) (hi : i < 7) (hdg : decode t.2.2.1 pc = .ok (.getfield 15, 3)) (k : GX X t d r M' (pc + 3) L (.inr (.inr (14, i)) :: st) (M, N)) : GX X t d r M' pc L (.inr (.inr (2, i)) :: st) (M, N) := G_get (ci := 2) (k0 := 1) inT_2 rfl (by rw [ht]; exact tbm 37 (by decide +kernel) rfl) (by decide) hi rfl (by decide) rfl (by decide) rfl hdg k
set_option maxRecDepth 100000 in
theorem fg_X2_18 {i : Nat} {v : Int32} (hv : M 2 i 2 = v) (ht : t.1 = RX2) (hi : i < 7) (hdg : decode t.2.2.1 pc = .ok (.getfield 18, 3)) (k : GX X t d r M' (pc + 3) L (.inl v :: st) (M, N)) : GX X t d r M' pc L (.inr (.inr (2, i)) :: st) (M, N) := G_get (ci := 2) (k0 := 2) inT_2 rfl (by rw [ht]; exact tbm 38 (by decide +kernel) rfl) (by decide) hi rfl (by decide) rfl (by decide) (by rw [← hv]; rfl) hdg k
set_option maxRecDepth 100000 in
theorem fg_X3_9 {i : Nat} {v : Int32} (hv : M 3 i 0 = v) (ht : t.1 = RX3) (hi : i < 30) (hdg : decode t.2.2.1 pc = .ok (.getfield 9, 3)) (k : GX X t d r M' (pc + 3) L (.inl v :: st) (M, N)) : GX X t d r M' pc L (.inr (.inr (3, i)) :: st) (M, N) := G_get (ci := 3) (k0 := 0) inT_3 rfl (by rw [ht]; exact tbm 55 (by decide +kernel) rfl) (by decide) hi rfl (by decide) rfl (by decide) (by rw [← hv]; rfl) hdg k
set_option maxRecDepth 100000 in
theorem fg_X3_15 {i : Nat} {v : Int32} (hv : M 3 i 1 = v) (ht : t.1 = RX3) (hi : i < 30) (hdg : decode t.2.2.1 pc = .ok (.getfield 15, 3)) (k : GX X t d r M' (pc + 3) L (.inl v :: st) (M, N)) : GX X t d r M' pc L (.inr (.inr (3, i)) :: st) (M, N) := G_get (ci := 3) (k0 := 1) inT_3 rfl (by rw [ht]; exact tbm 58 (by decide +kernel) rfl) (by decide) hi rfl (by decide) rfl (by decide) (by rw [← hv]; rfl) hdg k
set_option maxRecDepth 100000 in
theorem fg_X3_18 {i : Nat} {v : Int32} (hv : M 3 i 2 = v) (ht : t.1 = RX3) (hi : i < 30) (hdg : decode t.2.2.1 pc = .ok (.getfield 18, 3)) (k : GX X t d r M' (pc + 3) L (.inl v :: st) (M, N)) : GX X t d r M' pc L (.inr (.inr (3, i)) :: st) (M, N) := G_get (ci := 3) (k0 := 2) inT_3 rfl (by rw [ht]; exact tbm 61 (by decide +kernel) rfl) (by decide) hi rfl (by decide) rfl (by decide) (by rw [← hv]; rfl) hdg k
set_option maxRecDepth 100000 in
theorem fg_X3_21 {i : Nat} {v : Int32} (hv : M 3 i 3 = v) (ht : t.1 = RX3) (hi : i < 30) (hdg : decode t.2.2.1 pc = .ok (.getfield 21, 3)) (k : GX X t d r M' (pc + 3) L (.inl v :: st) (M, N)) : GX X t d r M' pc L (.inr (.inr (3, i)) :: st) (M, N) := G_get (ci := 3) (k0 := 3) inT_3 rfl (by rw [ht]; exact tbm 64 (by decide +kernel) rfl) (by decide) hi rfl (by decide) rfl (by decide) (by rw [← hv]; rfl) hdg k
set_option maxRecDepth 100000 in
theorem fg_X3_24 {i : Nat} {v : Int32} (hv : M 3 i 4 = v) (ht : t.1 = RX3) (hi : i < 30) (hdg : decode t.2.2.1 pc = .ok (.getfield 24, 3)) (k : GX X t d r M' (pc + 3) L (.inl v :: st) (M, N)) : GX X t d r M' pc L (.inr (.inr (3, i)) :: st) (M, N) := G_get (ci := 3) (k0 := 4) inT_3 rfl (by rw [ht]; exact tbm 67 (by decide +kernel) rfl) (by decide) hi rfl (by decide) rfl (by decide) (by rw [← hv]; rfl) hdg k
set_option maxRecDepth 100000 in
theorem fg_X3_27 {i : Nat} {v : Int32} (hv : M 3 i 5 = v) (ht : t.1 = RX3) (hi : i < 30) (hdg : decode t.2.2.1 pc = .ok (.getfield 27, 3)) (k : GX X t d r M' (pc + 3) L (.inl v :: st) (M, N)) : GX X t d r M' pc L (.inr (.inr (3, i)) :: st) (M, N) := G_get (ci := 3) (k0 := 5) inT_3 rfl (by rw [ht]; exact tbm 69 (by decide +kernel) rfl) (by decide) hi rfl (by decide) rfl (by decide) (by rw [← hv]; rfl) hdg k
set_option maxRecDepth 100000 in
theorem fg_X3_30 {i : Nat} {v : Int32} (hv : M 3 i 6 = v) (ht : t.1 = RX3) (hi : i < 30) (hdg : decode t.2.2.1 pc = .ok (.getfield 30, 3)) (k : GX X t d r M' (pc + 3) L (.inl v :: st) (M, N)) : GX X t d r M' pc L (.inr (.inr (3, i)) :: st) (M, N) := G_get (ci := 3) (k0 := 6) inT_3 rfl (by rw [ht]; exact tbm 71 (by decide +kernel) rfl) (by decide) hi rfl (by decide) rfl (by decide) (by rw [← hv]; rfl) hdg k
set_option maxRecDepth 100000 in
theorem fg_X3_33 {i : Nat} {v : Int32} (hv : nbZ (M 3 i 7) = v) (ht : t.1 = RX3) (hi : i < 30) (hdg : decode t.2.2.1 pc = .ok (.getfield 33, 3)) (k : GX X t d r M' (pc + 3) L (.inl v :: st) (M, N)) : GX X t d r M' pc L (.inr (.inr (3, i)) :: st) (M, N) := G_get (ci := 3) (k0 := 7) inT_3 rfl (by rw [ht]; exact tbm 74 (by decide +kernel) rfl) (by decide) hi rfl (by decide) rfl (by decide) (by rw [← hv]; rfl) hdg k
set_option maxRecDepth 100000 in
theorem fg_X4_12 {i : Nat} (ht : t.1 = RX4) (hi : i < 1) (hdg : decode t.2.2.1 pc = .ok (.getfield 12, 3)) (k : GX X t d r M' (pc + 3) L (.inr (.inr (2, 6)) :: st) (M, N)) : GX X t d r M' pc L (.inr (.inr (4, i)) :: st) (M, N) := G_get (ci := 4) (k0 := 0) inT_4 rfl (by rw [ht]; exact tbm 161 (by decide +kernel) rfl) (by decide) hi rfl (by decide) rfl (by decide) rfl hdg k
set_option maxRecDepth 100000 in
theorem fg_X4_18 {i : Nat} (ht : t.1 = RX4) (hi : i < 1) (hdg : decode t.2.2.1 pc = .ok (.getfield 18, 3)) (k : GX X t d r M' (pc + 3) L (.inr (.inr (8, 2)) :: st) (M, N)) : GX X t d r M' pc L (.inr (.inr (4, i)) :: st) (M, N) := G_get (ci := 4) (k0 := 1) inT_4 rfl (by rw [ht]; exact tbm 163 (by decide +kernel) rfl) (by decide) hi rfl (by decide) rfl (by decide) rfl hdg k
set_option maxRecDepth 100000 in
theorem fg_X4_31 {i : Nat} {v : Int32} (hv : M 4 i 2 = v) (ht : t.1 = RX4) (hi : i < 1) (hdg : decode t.2.2.1 pc = .ok (.getfield 31, 3)) (k : GX X t d r M' (pc + 3) L (.inl v :: st) (M, N)) : GX X t d r M' pc L (.inr (.inr (4, i)) :: st) (M, N) := G_get (ci := 4) (k0 := 2) inT_4 rfl (by rw [ht]; exact tbm 164 (by decide +kernel) rfl) (by decide) hi rfl (by decide) rfl (by decide) (by rw [← hv]; rfl) hdg k
set_option maxRecDepth 100000 in
theorem fg_X4_41 {i : Nat} {v : Int32} (hv : M 4 i 3 = v) (ht : t.1 = RX4) (hi : i < 1) (hdg : decode t.2.2.1 pc = .ok (.getfield 41, 3)) (k : GX X t d r M' (pc + 3) L (.inl v :: st) (M, N)) : GX X t d r M' pc L (.inr (.inr (4, i)) :: st) (M, N) := G_get (ci := 4) (k0 := 3) inT_4 rfl (by rw [ht]; exact tbm 165 (by decide +kernel) rfl) (by decide) hi rfl (by decide) rfl (by decide) (by rw [← hv]; rfl) hdg k
set_option maxRecDepth 100000 in
theorem fg_X4_44 {i : Nat} {v : Int32} (hv : M 4 i 4 = v) (ht : t.1 = RX4) (hi : i < 1) (hdg : decode t.2.2.1 pc = .ok (.getfield 44, 3)) (k : GX X t d r M' (pc + 3) L (.inl v :: st) (M, N)) : GX X t d r M' pc L (.inr (.inr (4, i)) :: st) (M, N) := G_get (ci := 4) (k0 := 4) inT_4 rfl (by rw [ht]; exact tbm 166 (by decide +kernel) rfl) (by decide) hi rfl (by decide) rfl (by decide) (by rw [← hv]; rfl) hdg k
set_option maxRecDepth 100000 in
theorem fg_X5_9 {i : Nat} (ht : t.1 = RX5) (hi : i < 4) (hdg : decode t.2.2.1 pc = .ok (.getfield 9, 3)) (k : GX X t d r M' (pc + 3) L (.inr (.inr (15, i)) :: st) (M, N)) : GX X t d r M' pc L (.inr (.inr (5, i)) :: st) (M, N) := G_get (ci := 5) (k0 := 0) inT_5 rfl (by rw [ht]; exact tbm 210 (by decide +kernel) rfl) (by decide) hi rfl (by decide) rfl (by decide) rfl hdg k
set_option maxRecDepth 100000 in
theorem fg_X5_15 {i : Nat} {v : Int32} (hv : M 5 i 1 = v) (ht : t.1 = RX5) (hi : i < 4) (hdg : decode t.2.2.1 pc = .ok (.getfield 15, 3)) (k : GX X t d r M' (pc + 3) L (.inl v :: st) (M, N)) : GX X t d r M' pc L (.inr (.inr (5, i)) :: st) (M, N) := G_get (ci := 5) (k0 := 1) inT_5 rfl (by rw [ht]; exact tbm 212 (by decide +kernel) rfl) (by decide) hi rfl (by decide) rfl (by decide) (by rw [← hv]; rfl) hdg k
set_option maxRecDepth 100000 in
theorem fg_X5_19 {i : Nat} {v : Int32} (hv : M 5 i 2 = v) (ht : t.1 = RX5) (hi : i < 4) (hdg : decode t.2.2.1 pc = .ok (.getfield 19, 3)) (k : GX X t d r M' (pc + 3) L (.inl v :: st) (M, N)) : GX X t d r M' pc L (.inr (.inr (5, i)) :: st) (M, N) := G_get (ci := 5) (k0 := 2) inT_5 rfl (by rw [ht]; exact tbm 214 (by decide +kernel) rfl) (by decide) hi rfl (by decide) rfl (by decide) (by rw [← hv]; rfl) hdg k
set_option maxRecDepth 100000 in
theorem fg_X6_9 {i : Nat} (ht : t.1 = RX6) (hi : i < 1) (hdg : decode t.2.2.1 pc = .ok (.getfield 9, 3)) (k : GX X t d r M' (pc + 3) L (.inr (.inr (16, i)) :: st) (M, N)) : GX X t d r M' pc L (.inr (.inr (6, i)) :: st) (M, N) := G_get (ci := 6) (k0 := 0) inT_6 rfl (by rw [ht]; exact tbm 185 (by decide +kernel) rfl) (by decide) hi rfl (by decide) rfl (by decide) rfl hdg k
set_option maxRecDepth 100000 in
theorem fg_X6_15 {i : Nat} {v : Int32} (hv : M 6 i 1 = v) (ht : t.1 = RX6) (hi : i < 1) (hdg : decode t.2.2.1 pc = .ok (.getfield 15, 3)) (k : GX X t d r M' (pc + 3) L (.inl v :: st) (M, N)) : GX X t d r M' pc L (.inr (.inr (6, i)) :: st) (M, N) := G_get (ci := 6) (k0 := 1) inT_6 rfl (by rw [ht]; exact tbm 187 (by decide +kernel) rfl) (by decide) hi rfl (by decide) rfl (by decide) (by rw [← hv]; rfl) hdg k
set_option maxRecDepth 100000 in
theorem fg_X6_19 {i : Nat} {v : Int32} (hv : M 3 i 0 = v) (ht : t.1 = RX6) (hi : i < 30) (hdg : decode t.2.2.1 pc = .ok (.getfield 19, 3)) (k : GX X t d r M' (pc + 3) L (.inl v :: st) (M, N)) : GX X t d r M' pc L (.inr (.inr (3, i)) :: st) (M, N) := G_get (ci := 3) (k0 := 0) inT_3 rfl (by rw [ht]; exact tbm 56 (by decide +kernel) rfl) (by decide) hi rfl (by decide) rfl (by decide) (by rw [← hv]; rfl) hdg k
set_option maxRecDepth 100000 in
theorem fg_X6_24 {i : Nat} {v : Int32} (hv : M 6 i 2 = v) (ht : t.1 = RX6) (hi : i < 1) (hdg : decode t.2.2.1 pc = .ok (.getfield 24, 3)) (k : GX X t d r M' (pc + 3) L (.inl v :: st) (M, N)) : GX X t d r M' pc L (.inr (.inr (6, i)) :: st) (M, N) := G_get (ci := 6) (k0 := 2) inT_6 rfl (by rw [ht]; exact tbm 189 (by decide +kernel) rfl) (by decide) hi rfl (by decide) rfl (by decide) (by rw [← hv]; rfl) hdg k
set_option maxRecDepth 100000 in
theorem fg_X6_25 {i : Nat} {v : Int32} (hv : M 6 i 3 = v) (ht : t.1 = RX6) (hi : i < 1) (hdg : decode t.2.2.1 pc = .ok (.getfield 25, 3)) (k : GX X t d r M' (pc + 3) L (.inl v :: st) (M, N)) : GX X t d r M' pc L (.inr (.inr (6, i)) :: st) (M, N) := G_get (ci := 6) (k0 := 3) inT_6 rfl (by rw [ht]; exact tbm 190 (by decide +kernel) rfl) (by decide) hi rfl (by decide) rfl (by decide) (by rw [← hv]; rfl) hdg k
set_option maxRecDepth 100000 in
theorem fg_X6_28 {i : Nat} {v : Int32} (hv : M 3 i 1 = v) (ht : t.1 = RX6) (hi : i < 30) (hdg : decode t.2.2.1 pc = .ok (.getfield 28, 3)) (k : GX X t d r M' (pc + 3) L (.inl v :: st) (M, N)) : GX X t d r M' pc L (.inr (.inr (3, i)) :: st) (M, N) := G_get (ci := 3) (k0 := 1) inT_3 rfl (by rw [ht]; exact tbm 59 (by decide +kernel) rfl) (by decide) hi rfl (by decide) rfl (by decide) (by rw [← hv]; rfl) hdg k
set_option maxRecDepth 100000 in
theorem fg_X6_31 {i : Nat} {v : Int32} (hv : M 6 i 4 = v) (ht : t.1 = RX6) (hi : i < 1) (hdg : decode t.2.2.1 pc = .ok (.getfield 31, 3)) (k : GX X t d r M' (pc + 3) L (.inl v :: st) (M, N)) : GX X t d r M' pc L (.inr (.inr (6, i)) :: st) (M, N) := G_get (ci := 6) (k0 := 4) inT_6 rfl (by rw [ht]; exact tbm 191 (by decide +kernel) rfl) (by decide) hi rfl (by decide) rfl (by decide) (by rw [← hv]; rfl) hdg k
set_option maxRecDepth 100000 in
theorem fg_X8_7 {i : Nat} (ht : t.1 = RX8) (hi : i < 1) (hdg : decode t.2.2.1 pc = .ok (.getfield 7, 3)) (k : GX X t d r M' (pc + 3) L (.inr (.inr (20, 0)) :: st) (N, M)) : GX X t d r M' pc L (.inr (.inr (19, i)) :: st) (N, M) := G_get (ci := 8) (k0 := 0) inT_8 rfl (by rw [ht]; exact tbm 693 (by decide +kernel) rfl) (by decide) hi rfl (by decide) rfl (by decide) rfl hdg k
set_option maxRecDepth 100000 in
theorem fg_X8_13 {i : Nat} (ht : t.1 = RX8) (hi : i < 1) (hdg : decode t.2.2.1 pc = .ok (.getfield 13, 3)) (k : GX X t d r M' (pc + 3) L (.inr (.inr (21, 0)) :: st) (N, M)) : GX X t d r M' pc L (.inr (.inr (19, i)) :: st) (N, M) := G_get (ci := 8) (k0 := 1) inT_8 rfl (by rw [ht]; exact tbm 694 (by decide +kernel) rfl) (by decide) hi rfl (by decide) rfl (by decide) rfl hdg k
set_option maxRecDepth 100000 in
theorem fg_X8_16 {i : Nat} (ht : t.1 = RX8) (hi : i < 1) (hdg : decode t.2.2.1 pc = .ok (.getfield 16, 3)) (k : GX X t d r M' (pc + 3) L (.inr (.inr (22, 0)) :: st) (N, M)) : GX X t d r M' pc L (.inr (.inr (19, i)) :: st) (N, M) := G_get (ci := 8) (k0 := 2) inT_8 rfl (by rw [ht]; exact tbm 695 (by decide +kernel) rfl) (by decide) hi rfl (by decide) rfl (by decide) rfl hdg k
set_option maxRecDepth 100000 in
theorem fg_X8_19 {i : Nat} (ht : t.1 = RX8) (hi : i < 1) (hdg : decode t.2.2.1 pc = .ok (.getfield 19, 3)) (k : GX X t d r M' (pc + 3) L (.inr (.inr (23, 0)) :: st) (N, M)) : GX X t d r M' pc L (.inr (.inr (19, i)) :: st) (N, M) := G_get (ci := 8) (k0 := 4) inT_8 rfl (by rw [ht]; exact tbm 697 (by decide +kernel) rfl) (by decide) hi rfl (by decide) rfl (by decide) rfl hdg k
set_option maxRecDepth 100000 in
theorem fg_X8_22 {i : Nat} (ht : t.1 = RX8) (hi : i < 1) (hdg : decode t.2.2.1 pc = .ok (.getfield 22, 3)) (k : GX X t d r M' (pc + 3) L (.inr (.inr (24, 0)) :: st) (N, M)) : GX X t d r M' pc L (.inr (.inr (19, i)) :: st) (N, M) := G_get (ci := 8) (k0 := 11) inT_8 rfl (by rw [ht]; exact tbm 704 (by decide +kernel) rfl) (by decide) hi rfl (by decide) rfl (by decide) rfl hdg k
set_option maxRecDepth 100000 in
theorem fg_X8_25 {i : Nat} (ht : t.1 = RX8) (hi : i < 1) (hdg : decode t.2.2.1 pc = .ok (.getfield 25, 3)) (k : GX X t d r M' (pc + 3) L (.inr (.inr (25, 0)) :: st) (N, M)) : GX X t d r M' pc L (.inr (.inr (19, i)) :: st) (N, M) := G_get (ci := 8) (k0 := 12) inT_8 rfl (by rw [ht]; exact tbm 705 (by decide +kernel) rfl) (by decide) hi rfl (by decide) rfl (by decide) rfl hdg k
set_option maxRecDepth 100000 in
theorem fg_X8_28 {i : Nat} (ht : t.1 = RX8) (hi : i < 1) (hdg : decode t.2.2.1 pc = .ok (.getfield 28, 3)) (k : GX X t d r M' (pc + 3) L (.inr (.inr (26, 0)) :: st) (N, M)) : GX X t d r M' pc L (.inr (.inr (19, i)) :: st) (N, M) := G_get (ci := 8) (k0 := 14) inT_8 rfl (by rw [ht]; exact tbm 707 (by decide +kernel) rfl) (by decide) hi rfl (by decide) rfl (by decide) rfl hdg k
set_option maxRecDepth 100000 in
theorem fg_X8_31 {i : Nat} (ht : t.1 = RX8) (hi : i < 1) (hdg : decode t.2.2.1 pc = .ok (.getfield 31, 3)) (k : GX X t d r M' (pc + 3) L (.inr (.inr (27, 0)) :: st) (N, M)) : GX X t d r M' pc L (.inr (.inr (19, i)) :: st) (N, M) := G_get (ci := 8) (k0 := 15) inT_8 rfl (by rw [ht]; exact tbm 708 (by decide +kernel) rfl) (by decide) hi rfl (by decide) rfl (by decide) rfl hdg k
set_option maxRecDepth 100000 in
theorem fg_X8_34 {i : Nat} (ht : t.1 = RX8) (hi : i < 1) (hdg : decode t.2.2.1 pc = .ok (.getfield 34, 3)) (k : GX X t d r M' (pc + 3) L (.inr (.inr (28, 0)) :: st) (N, M)) : GX X t d r M' pc L (.inr (.inr (19, i)) :: st) (N, M) := G_get (ci := 8) (k0 := 18) inT_8 rfl (by rw [ht]; exact tbm 711 (by decide +kernel) rfl) (by decide) hi rfl (by decide) rfl (by decide) rfl hdg k
set_option maxRecDepth 100000 in
theorem fg_X8_37 {i : Nat} (ht : t.1 = RX8) (hi : i < 1) (hdg : decode t.2.2.1 pc = .ok (.getfield 37, 3)) (k : GX X t d r M' (pc + 3) L (.inr (.inr (29, 0)) :: st) (N, M)) : GX X t d r M' pc L (.inr (.inr (19, i)) :: st) (N, M) := G_get (ci := 8) (k0 := 19) inT_8 rfl (by rw [ht]; exact tbm 712 (by decide +kernel) rfl) (by decide) hi rfl (by decide) rfl (by decide) rfl hdg k
set_option maxRecDepth 100000 in
theorem fg_X8_40 {i : Nat} (ht : t.1 = RX8) (hi : i < 1) (hdg : decode t.2.2.1 pc = .ok (.getfield 40, 3)) (k : GX X t d r M' (pc + 3) L (.inr (.inr (30, 0)) :: st) (N, M)) : GX X t d r M' pc L (.inr (.inr (19, i)) :: st) (N, M) := G_get (ci := 8) (k0 := 20) inT_8 rfl (by rw [ht]; exact tbm 713 (by decide +kernel) rfl) (by decide) hi rfl (by decide) rfl (by decide) rfl hdg k
set_option maxRecDepth 100000 in
theorem fg_X8_43 {i : Nat} (ht : t.1 = RX8) (hi : i < 1) (hdg : decode t.2.2.1 pc = .ok (.getfield 43, 3)) (k : GX X t d r M' (pc + 3) L (.inr (.inr (31, 0)) :: st) (N, M)) : GX X t d r M' pc L (.inr (.inr (19, i)) :: st) (N, M) := G_get (ci := 8) (k0 := 21) inT_8 rfl (by rw [ht]; exact tbm 714 (by decide +kernel) rfl) (by decide) hi rfl (by decide) rfl (by decide) rfl hdg k
set_option maxRecDepth 100000 in
theorem fg_X8_57 {i : Nat} {v : Int32} (hv : M 19 i 6 = v) (ht : t.1 = RX8) (hi : i < 1) (hdg : decode t.2.2.1 pc = .ok (.getfield 57, 3)) (k : GX X t d r M' (pc + 3) L (.inl v :: st) (N, M)) : GX X t d r M' pc L (.inr (.inr (19, i)) :: st) (N, M) := G_get (ci := 8) (k0 := 6) inT_8 rfl (by rw [ht]; exact tbm 699 (by decide +kernel) rfl) (by decide) hi rfl (by decide) rfl (by decide) (by rw [← hv]; rfl) hdg k
set_option maxRecDepth 100000 in
theorem fg_X8_61 {i : Nat} {v : Int32} (hv : M 19 i 7 = v) (ht : t.1 = RX8) (hi : i < 1) (hdg : decode t.2.2.1 pc = .ok (.getfield 61, 3)) (k : GX X t d r M' (pc + 3) L (.inl v :: st) (N, M)) : GX X t d r M' pc L (.inr (.inr (19, i)) :: st) (N, M) := G_get (ci := 8) (k0 := 7) inT_8 rfl (by rw [ht]; exact tbm 700 (by decide +kernel) rfl) (by decide) hi rfl (by decide) rfl (by decide) (by rw [← hv]; rfl) hdg k
set_option maxRecDepth 100000 in
theorem fg_X8_64 {i : Nat} {v : Int32} (hv : M 19 i 8 = v) (ht : t.1 = RX8) (hi : i < 1) (hdg : decode t.2.2.1 pc = .ok (.getfield 64, 3)) (k : GX X t d r M' (pc + 3) L (.inl v :: st) (N, M)) : GX X t d r M' pc L (.inr (.inr (19, i)) :: st) (N, M) := G_get (ci := 8) (k0 := 8) inT_8 rfl (by rw [ht]; exact tbm 701 (by decide +kernel) rfl) (by decide) hi rfl (by decide) rfl (by decide) (by rw [← hv]; rfl) hdg k
set_option maxRecDepth 100000 in
theorem fg_X8_67 {i : Nat} {v : Int32} (hv : M 19 i 5 = v) (ht : t.1 = RX8) (hi : i < 1) (hdg : decode t.2.2.1 pc = .ok (.getfield 67, 3)) (k : GX X t d r M' (pc + 3) L (.inl v :: st) (N, M)) : GX X t d r M' pc L (.inr (.inr (19, i)) :: st) (N, M) := G_get (ci := 8) (k0 := 5) inT_8 rfl (by rw [ht]; exact tbm 698 (by decide +kernel) rfl) (by decide) hi rfl (by decide) rfl (by decide) (by rw [← hv]; rfl) hdg k
set_option maxRecDepth 100000 in
theorem fg_X8_74 {i : Nat} {v : Int32} (hv : nbZ (M 19 i 10) = v) (ht : t.1 = RX8) (hi : i < 1) (hdg : decode t.2.2.1 pc = .ok (.getfield 74, 3)) (k : GX X t d r M' (pc + 3) L (.inl v :: st) (N, M)) : GX X t d r M' pc L (.inr (.inr (19, i)) :: st) (N, M) := G_get (ci := 8) (k0 := 10) inT_8 rfl (by rw [ht]; exact tbm 703 (by decide +kernel) rfl) (by decide) hi rfl (by decide) rfl (by decide) (by rw [← hv]; rfl) hdg k
set_option maxRecDepth 100000 in
theorem fg_X8_78 {i : Nat} {v : Int32} (hv : M 19 i 13 = v) (ht : t.1 = RX8) (hi : i < 1) (hdg : decode t.2.2.1 pc = .ok (.getfield 78, 3)) (k : GX X t d r M' (pc + 3) L (.inl v :: st) (N, M)) : GX X t d r M' pc L (.inr (.inr (19, i)) :: st) (N, M) := G_get (ci := 8) (k0 := 13) inT_8 rfl (by rw [ht]; exact tbm 706 (by decide +kernel) rfl) (by decide) hi rfl (by decide) rfl (by decide) (by rw [← hv]; rfl) hdg k
set_option maxRecDepth 100000 in
theorem fg_X8_104 {i : Nat} {v : Int32} (hv : M 19 i 9 = v) (ht : t.1 = RX8) (hi : i < 1) (hdg : decode t.2.2.1 pc = .ok (.getfield 104, 3)) (k : GX X t d r M' (pc + 3) L (.inl v :: st) (N, M)) : GX X t d r M' pc L (.inr (.inr (19, i)) :: st) (N, M) := G_get (ci := 8) (k0 := 9) inT_8 rfl (by rw [ht]; exact tbm 702 (by decide +kernel) rfl) (by decide) hi rfl (by decide) rfl (by decide) (by rw [← hv]; rfl) hdg k
set_option maxRecDepth 100000 in
theorem fg_X8_229 {i : Nat} {v : Int32} (hv : M 19 i 16 = v) (ht : t.1 = RX8) (hi : i < 1) (hdg : decode t.2.2.1 pc = .ok (.getfield 229, 3)) (k : GX X t d r M' (pc + 3) L (.inl v :: st) (N, M)) : GX X t d r M' pc L (.inr (.inr (19, i)) :: st) (N, M) := G_get (ci := 8) (k0 := 16) inT_8 rfl (by rw [ht]; exact tbm 709 (by decide +kernel) rfl) (by decide) hi rfl (by decide) rfl (by decide) (by rw [← hv]; rfl) hdg k
set_option maxRecDepth 100000 in
theorem fg_X8_235 {i : Nat} {v : Int32} (hv : M 19 i 17 = v) (ht : t.1 = RX8) (hi : i < 1) (hdg : decode t.2.2.1 pc = .ok (.getfield 235, 3)) (k : GX X t d r M' (pc + 3) L (.inl v :: st) (N, M)) : GX X t d r M' pc L (.inr (.inr (19, i)) :: st) (N, M) := G_get (ci := 8) (k0 := 17) inT_8 rfl (by rw [ht]; exact tbm 710 (by decide +kernel) rfl) (by decide) hi rfl (by decide) rfl (by decide) (by rw [← hv]; rfl) hdg k
set_option maxRecDepth 100000 in
theorem fg_X8_252 {i : Nat} {v : Int32} (hv : M 19 i 3 = v) (ht : t.1 = RX8) (hi : i < 1) (hdg : decode t.2.2.1 pc = .ok (.getfield 252, 3)) (k : GX X t d r M' (pc + 3) L (.inl v :: st) (N, M)) : GX X t d r M' pc L (.inr (.inr (19, i)) :: st) (N, M) := G_get (ci := 8) (k0 := 3) inT_8 rfl (by rw [ht]; exact tbm 696 (by decide +kernel) rfl) (by decide) hi rfl (by decide) rfl (by decide) (by rw [← hv]; rfl) hdg k
set_option maxRecDepth 100000 in
theorem fp_X7_81 {i : Nat} {v : Int32} (ht : t.1 = RX7) (hi : i < 3) (hdg : decode t.2.2.1 pc = .ok (.putfield 81, 3)) (k : GX X t d r M' (pc + 3) L st (up3 M 1 i 5 v, N)) : GX X t d r M' pc L (.inl v :: .inr (.inr (1, i)) :: st) (M, N) := G_put (ci := 1) (k0 := 5) (ty0 := tyX1) inT_1 tyX1_ok nmX1 rfl (by rw [ht]; exact tbm 103 (by decide +kernel) rfl) (by decide) hi rfl (by decide) rfl (by decide) rfl (Or.inl ⟨rfl, rfl⟩) rfl rfl hdg k
set_option maxRecDepth 100000 in
theorem fp_X7_98 {i : Nat} {v : Int32} (ht : t.1 = RX7) (hi : i < 30) (hdg : decode t.2.2.1 pc = .ok (.putfield 98, 3)) (k : GX X t d r M' (pc + 3) L st (up3 M 3 i 0 v, N)) : GX X t d r M' pc L (.inl v :: .inr (.inr (3, i)) :: st) (M, N) := G_put (ci := 3) (k0 := 0) (ty0 := tyX3) inT_3 tyX3_ok nmX3 rfl (by rw [ht]; exact tbm 57 (by decide +kernel) rfl) (by decide) hi rfl (by decide) rfl (by decide) rfl (Or.inl ⟨rfl, rfl⟩) rfl rfl hdg k
set_option maxRecDepth 100000 in
theorem fp_X7_101 {i : Nat} {v : Int32} (ht : t.1 = RX7) (hi : i < 30) (hdg : decode t.2.2.1 pc = .ok (.putfield 101, 3)) (k : GX X t d r M' (pc + 3) L st (up3 M 3 i 1 v, N)) : GX X t d r M' pc L (.inl v :: .inr (.inr (3, i)) :: st) (M, N) := G_put (ci := 3) (k0 := 1) (ty0 := tyX3) inT_3 tyX3_ok nmX3 rfl (by rw [ht]; exact tbm 60 (by decide +kernel) rfl) (by decide) hi rfl (by decide) rfl (by decide) rfl (Or.inl ⟨rfl, rfl⟩) rfl rfl hdg k
set_option maxRecDepth 100000 in
theorem fp_X7_104 {i : Nat} {v : Int32} (ht : t.1 = RX7) (hi : i < 30) (hdg : decode t.2.2.1 pc = .ok (.putfield 104, 3)) (k : GX X t d r M' (pc + 3) L st (up3 M 3 i 2 v, N)) : GX X t d r M' pc L (.inl v :: .inr (.inr (3, i)) :: st) (M, N) := G_put (ci := 3) (k0 := 2) (ty0 := tyX3) inT_3 tyX3_ok nmX3 rfl (by rw [ht]; exact tbm 62 (by decide +kernel) rfl) (by decide) hi rfl (by decide) rfl (by decide) rfl (Or.inl ⟨rfl, rfl⟩) rfl rfl hdg k
set_option maxRecDepth 100000 in
theorem fp_X7_107 {i : Nat} {v : Int32} (ht : t.1 = RX7) (hi : i < 30) (hdg : decode t.2.2.1 pc = .ok (.putfield 107, 3)) (k : GX X t d r M' (pc + 3) L st (up3 M 3 i 3 v, N)) : GX X t d r M' pc L (.inl v :: .inr (.inr (3, i)) :: st) (M, N) := G_put (ci := 3) (k0 := 3) (ty0 := tyX3) inT_3 tyX3_ok nmX3 rfl (by rw [ht]; exact tbm 65 (by decide +kernel) rfl) (by decide) hi rfl (by decide) rfl (by decide) rfl (Or.inl ⟨rfl, rfl⟩) rfl rfl hdg k
set_option maxRecDepth 100000 in
theorem fp_X7_110 {i : Nat} {v : Int32} (ht : t.1 = RX7) (hi : i < 30) (hdg : decode t.2.2.1 pc = .ok (.putfield 110, 3)) (k : GX X t d r M' (pc + 3) L st (up3 M 3 i 4 v, N)) : GX X t d r M' pc L (.inl v :: .inr (.inr (3, i)) :: st) (M, N) := G_put (ci := 3) (k0 := 4) (ty0 := tyX3) inT_3 tyX3_ok nmX3 rfl (by rw [ht]; exact tbm 68 (by decide +kernel) rfl) (by decide) hi rfl (by decide) rfl (by decide) rfl (Or.inl ⟨rfl, rfl⟩) rfl rfl hdg k
set_option maxRecDepth 100000 in
theorem fp_X7_113 {i : Nat} {v : Int32} (ht : t.1 = RX7) (hi : i < 30) (hdg : decode t.2.2.1 pc = .ok (.putfield 113, 3)) (k : GX X t d r M' (pc + 3) L st (up3 M 3 i 5 v, N)) : GX X t d r M' pc L (.inl v :: .inr (.inr (3, i)) :: st) (M, N) := G_put (ci := 3) (k0 := 5) (ty0 := tyX3) inT_3 tyX3_ok nmX3 rfl (by rw [ht]; exact tbm 70 (by decide +kernel) rfl) (by decide) hi rfl (by decide) rfl (by decide) rfl (Or.inl ⟨rfl, rfl⟩) rfl rfl hdg k
set_option maxRecDepth 100000 in
theorem fp_X7_144 {i : Nat} {v : Int32} (ht : t.1 = RX7) (hi : i < 2) (hdg : decode t.2.2.1 pc = .ok (.putfield 144, 3)) (k : GX X t d r M' (pc + 3) L st (up3 M 0 i 2 v, N)) : GX X t d r M' pc L (.inl v :: .inr (.inr (0, i)) :: st) (M, N) := G_put (ci := 0) (k0 := 2) (ty0 := tyX0) inT_0 tyX0_ok nmX0 rfl (by rw [ht]; exact tbm 136 (by decide +kernel) rfl) (by decide) hi rfl (by decide) rfl (by decide) rfl (Or.inl ⟨rfl, rfl⟩) rfl rfl hdg k
set_option maxRecDepth 100000 in
theorem fp_X7_240 {i : Nat} {v : Int32} (ht : t.1 = RX7) (hi : i < 2) (hdg : decode t.2.2.1 pc = .ok (.putfield 240, 3)) (k : GX X t d r M' (pc + 3) L st (up3 M 0 i 4 v, N)) : GX X t d r M' pc L (.inl v :: .inr (.inr (0, i)) :: st) (M, N) := G_put (ci := 0) (k0 := 4) (ty0 := tyX0) inT_0 tyX0_ok nmX0 rfl (by rw [ht]; exact tbm 140 (by decide +kernel) rfl) (by decide) hi rfl (by decide) rfl (by decide) rfl (Or.inl ⟨rfl, rfl⟩) rfl rfl hdg k
set_option maxRecDepth 100000 in
theorem fp_X7_283 {i : Nat} {v : Int32} (ht : t.1 = RX7) (hi : i < 1) (hdg : decode t.2.2.1 pc = .ok (.putfield 283, 3)) (k : GX X t d r M' (pc + 3) L st (up3 M 7 i 9 v, N)) : GX X t d r M' pc L (.inl v :: .inr (.inr (7, i)) :: st) (M, N) := G_put (ci := 7) (k0 := 9) (ty0 := tyX7) inT_7 tyX7_ok nmX7 rfl (by rw [ht]; exact tbm 232 (by decide +kernel) rfl) (by decide) hi rfl (by decide) rfl (by decide) rfl (Or.inl ⟨rfl, rfl⟩) rfl rfl hdg k
set_option maxRecDepth 100000 in
theorem fp_X7_286 {i : Nat} {v : Int32} (ht : t.1 = RX7) (hi : i < 2) (hdg : decode t.2.2.1 pc = .ok (.putfield 286, 3)) (k : GX X t d r M' (pc + 3) L st (up3 M 0 i 3 v, N)) : GX X t d r M' pc L (.inl v :: .inr (.inr (0, i)) :: st) (M, N) := G_put (ci := 0) (k0 := 3) (ty0 := tyX0) inT_0 tyX0_ok nmX0 rfl (by rw [ht]; exact tbm 138 (by decide +kernel) rfl) (by decide) hi rfl (by decide) rfl (by decide) rfl (Or.inl ⟨rfl, rfl⟩) rfl rfl hdg k
set_option maxRecDepth 100000 in
theorem fp_X0_19 {i : Nat} {v : Int32} (ht : t.1 = RX0) (hi : i < 2) (hdg : decode t.2.2.1 pc = .ok (.putfield 19, 3)) (k : GX X t d r M' (pc + 3) L st (up3 M 0 i 4 v, N)) : GX X t d r M' pc L (.inl v :: .inr (.inr (0, i)) :: st) (M, N) := G_put (ci := 0) (k0 := 4) (ty0 := tyX0) inT_0 tyX0_ok nmX0 rfl (by rw [ht]; exact tbm 139 (by decide +kernel) rfl) (by decide) hi rfl (by decide) rfl (by decide) rfl (Or.inl ⟨rfl, rfl⟩) rfl rfl hdg k
set_option maxRecDepth 100000 in
theorem fp_X0_29 {i : Nat} {v : Int32} (ht : t.1 = RX0) (hi : i < 2) (hdg : decode t.2.2.1 pc = .ok (.putfield 29, 3)) (k : GX X t d r M' (pc + 3) L st (up3 M 0 i 2 v, N)) : GX X t d r M' pc L (.inl v :: .inr (.inr (0, i)) :: st) (M, N) := G_put (ci := 0) (k0 := 2) (ty0 := tyX0) inT_0 tyX0_ok nmX0 rfl (by rw [ht]; exact tbm 135 (by decide +kernel) rfl) (by decide) hi rfl (by decide) rfl (by decide) rfl (Or.inl ⟨rfl, rfl⟩) rfl rfl hdg k
set_option maxRecDepth 100000 in
theorem fp_X0_32 {i : Nat} {v : Int32} (ht : t.1 = RX0) (hi : i < 2) (hdg : decode t.2.2.1 pc = .ok (.putfield 32, 3)) (k : GX X t d r M' (pc + 3) L st (up3 M 0 i 3 v, N)) : GX X t d r M' pc L (.inl v :: .inr (.inr (0, i)) :: st) (M, N) := G_put (ci := 0) (k0 := 3) (ty0 := tyX0) inT_0 tyX0_ok nmX0 rfl (by rw [ht]; exact tbm 137 (by decide +kernel) rfl) (by decide) hi rfl (by decide) rfl (by decide) rfl (Or.inl ⟨rfl, rfl⟩) rfl rfl hdg k
set_option maxRecDepth 100000 in
theorem fp_X1_47 {i : Nat} {v : Int32} (ht : t.1 = RX1) (hi : i < 3) (hdg : decode t.2.2.1 pc = .ok (.putfield 47, 3)) (k : GX X t d r M' (pc + 3) L st (up3 M 1 i 5 v, N)) : GX X t d r M' pc L (.inl v :: .inr (.inr (1, i)) :: st) (M, N) := G_put (ci := 1) (k0 := 5) (ty0 := tyX1) inT_1 tyX1_ok nmX1 rfl (by rw [ht]; exact tbm 102 (by decide +kernel) rfl) (by decide) hi rfl (by decide) rfl (by decide) rfl (Or.inl ⟨rfl, rfl⟩) rfl rfl hdg k
set_option maxRecDepth 100000 in
theorem fp_X1_58 {i : Nat} {v : Int32} (ht : t.1 = RX1) (hi : i < 3) (hdg : decode t.2.2.1 pc = .ok (.putfield 58, 3)) (k : GX X t d r M' (pc + 3) L st (up3 M 1 i 6 v, N)) : GX X t d r M' pc L (.inl v :: .inr (.inr (1, i)) :: st) (M, N) := G_put (ci := 1) (k0 := 6) (ty0 := tyX1) inT_1 tyX1_ok nmX1 rfl (by rw [ht]; exact tbm 104 (by decide +kernel) rfl) (by decide) hi rfl (by decide) rfl (by decide) rfl (Or.inl ⟨rfl, rfl⟩) rfl rfl hdg k
set_option maxRecDepth 100000 in
theorem fp_X1_61 {i : Nat} {v : Int32} (ht : t.1 = RX1) (hi : i < 3) (hdg : decode t.2.2.1 pc = .ok (.putfield 61, 3)) (k : GX X t d r M' (pc + 3) L st (up3 M 1 i 7 v, N)) : GX X t d r M' pc L (.inl v :: .inr (.inr (1, i)) :: st) (M, N) := G_put (ci := 1) (k0 := 7) (ty0 := tyX1) inT_1 tyX1_ok nmX1 rfl (by rw [ht]; exact tbm 106 (by decide +kernel) rfl) (by decide) hi rfl (by decide) rfl (by decide) rfl (Or.inl ⟨rfl, rfl⟩) rfl rfl hdg k
set_option maxRecDepth 100000 in
theorem fp_X1_85 {i : Nat} {v : Int32} (ht : t.1 = RX1) (hi : i < 30) (hdg : decode t.2.2.1 pc = .ok (.putfield 85, 3)) (k : GX X t d r M' (pc + 3) L st (up3 M 3 i 2 v, N)) : GX X t d r M' pc L (.inl v :: .inr (.inr (3, i)) :: st) (M, N) := G_put (ci := 3) (k0 := 2) (ty0 := tyX3) inT_3 tyX3_ok nmX3 rfl (by rw [ht]; exact tbm 63 (by decide +kernel) rfl) (by decide) hi rfl (by decide) rfl (by decide) rfl (Or.inl ⟨rfl, rfl⟩) rfl rfl hdg k
set_option maxRecDepth 100000 in
theorem fp_X2_18 {i : Nat} {v : Int32} (ht : t.1 = RX2) (hi : i < 7) (hdg : decode t.2.2.1 pc = .ok (.putfield 18, 3)) (k : GX X t d r M' (pc + 3) L st (up3 M 2 i 2 v, N)) : GX X t d r M' pc L (.inl v :: .inr (.inr (2, i)) :: st) (M, N) := G_put (ci := 2) (k0 := 2) (ty0 := tyX2) inT_2 tyX2_ok nmX2 rfl (by rw [ht]; exact tbm 38 (by decide +kernel) rfl) (by decide) hi rfl (by decide) rfl (by decide) rfl (Or.inl ⟨rfl, rfl⟩) rfl rfl hdg k
set_option maxRecDepth 100000 in
theorem fp_X3_9 {i : Nat} {v : Int32} (ht : t.1 = RX3) (hi : i < 30) (hdg : decode t.2.2.1 pc = .ok (.putfield 9, 3)) (k : GX X t d r M' (pc + 3) L st (up3 M 3 i 0 v, N)) : GX X t d r M' pc L (.inl v :: .inr (.inr (3, i)) :: st) (M, N) := G_put (ci := 3) (k0 := 0) (ty0 := tyX3) inT_3 tyX3_ok nmX3 rfl (by rw [ht]; exact tbm 55 (by decide +kernel) rfl) (by decide) hi rfl (by decide) rfl (by decide) rfl (Or.inl ⟨rfl, rfl⟩) rfl rfl hdg k
set_option maxRecDepth 100000 in
theorem fp_X3_15 {i : Nat} {v : Int32} (ht : t.1 = RX3) (hi : i < 30) (hdg : decode t.2.2.1 pc = .ok (.putfield 15, 3)) (k : GX X t d r M' (pc + 3) L st (up3 M 3 i 1 v, N)) : GX X t d r M' pc L (.inl v :: .inr (.inr (3, i)) :: st) (M, N) := G_put (ci := 3) (k0 := 1) (ty0 := tyX3) inT_3 tyX3_ok nmX3 rfl (by rw [ht]; exact tbm 58 (by decide +kernel) rfl) (by decide) hi rfl (by decide) rfl (by decide) rfl (Or.inl ⟨rfl, rfl⟩) rfl rfl hdg k
set_option maxRecDepth 100000 in
theorem fp_X3_18 {i : Nat} {v : Int32} (ht : t.1 = RX3) (hi : i < 30) (hdg : decode t.2.2.1 pc = .ok (.putfield 18, 3)) (k : GX X t d r M' (pc + 3) L st (up3 M 3 i 2 v, N)) : GX X t d r M' pc L (.inl v :: .inr (.inr (3, i)) :: st) (M, N) := G_put (ci := 3) (k0 := 2) (ty0 := tyX3) inT_3 tyX3_ok nmX3 rfl (by rw [ht]; exact tbm 61 (by decide +kernel) rfl) (by decide) hi rfl (by decide) rfl (by decide) rfl (Or.inl ⟨rfl, rfl⟩) rfl rfl hdg k
set_option maxRecDepth 100000 in
theorem fp_X3_21 {i : Nat} {v : Int32} (ht : t.1 = RX3) (hi : i < 30) (hdg : decode t.2.2.1 pc = .ok (.putfield 21, 3)) (k : GX X t d r M' (pc + 3) L st (up3 M 3 i 3 v, N)) : GX X t d r M' pc L (.inl v :: .inr (.inr (3, i)) :: st) (M, N) := G_put (ci := 3) (k0 := 3) (ty0 := tyX3) inT_3 tyX3_ok nmX3 rfl (by rw [ht]; exact tbm 64 (by decide +kernel) rfl) (by decide) hi rfl (by decide) rfl (by decide) rfl (Or.inl ⟨rfl, rfl⟩) rfl rfl hdg k
set_option maxRecDepth 100000 in
theorem fp_X3_24 {i : Nat} {v : Int32} (ht : t.1 = RX3) (hi : i < 30) (hdg : decode t.2.2.1 pc = .ok (.putfield 24, 3)) (k : GX X t d r M' (pc + 3) L st (up3 M 3 i 4 v, N)) : GX X t d r M' pc L (.inl v :: .inr (.inr (3, i)) :: st) (M, N) := G_put (ci := 3) (k0 := 4) (ty0 := tyX3) inT_3 tyX3_ok nmX3 rfl (by rw [ht]; exact tbm 67 (by decide +kernel) rfl) (by decide) hi rfl (by decide) rfl (by decide) rfl (Or.inl ⟨rfl, rfl⟩) rfl rfl hdg k
set_option maxRecDepth 100000 in
theorem fp_X3_27 {i : Nat} {v : Int32} (ht : t.1 = RX3) (hi : i < 30) (hdg : decode t.2.2.1 pc = .ok (.putfield 27, 3)) (k : GX X t d r M' (pc + 3) L st (up3 M 3 i 5 v, N)) : GX X t d r M' pc L (.inl v :: .inr (.inr (3, i)) :: st) (M, N) := G_put (ci := 3) (k0 := 5) (ty0 := tyX3) inT_3 tyX3_ok nmX3 rfl (by rw [ht]; exact tbm 69 (by decide +kernel) rfl) (by decide) hi rfl (by decide) rfl (by decide) rfl (Or.inl ⟨rfl, rfl⟩) rfl rfl hdg k
set_option maxRecDepth 100000 in
theorem fp_X3_30 {i : Nat} {v : Int32} (ht : t.1 = RX3) (hi : i < 30) (hdg : decode t.2.2.1 pc = .ok (.putfield 30, 3)) (k : GX X t d r M' (pc + 3) L st (up3 M 3 i 6 v, N)) : GX X t d r M' pc L (.inl v :: .inr (.inr (3, i)) :: st) (M, N) := G_put (ci := 3) (k0 := 6) (ty0 := tyX3) inT_3 tyX3_ok nmX3 rfl (by rw [ht]; exact tbm 71 (by decide +kernel) rfl) (by decide) hi rfl (by decide) rfl (by decide) rfl (Or.inl ⟨rfl, rfl⟩) rfl rfl hdg k
set_option maxRecDepth 100000 in
theorem fp_X3_33 {i : Nat} {v : Int32} (hz : nbZ v = v) (ht : t.1 = RX3) (hi : i < 30) (hdg : decode t.2.2.1 pc = .ok (.putfield 33, 3)) (k : GX X t d r M' (pc + 3) L st (up3 M 3 i 7 v, N)) : GX X t d r M' pc L (.inl v :: .inr (.inr (3, i)) :: st) (M, N) := G_put (ci := 3) (k0 := 7) (ty0 := tyX3) inT_3 tyX3_ok nmX3 rfl (by rw [ht]; exact tbm 74 (by decide +kernel) rfl) (by decide) hi rfl (by decide) rfl (by decide) rfl (Or.inr ⟨hz, rfl⟩) rfl rfl hdg k
set_option maxRecDepth 100000 in
theorem fp_X4_31 {i : Nat} {v : Int32} (ht : t.1 = RX4) (hi : i < 1) (hdg : decode t.2.2.1 pc = .ok (.putfield 31, 3)) (k : GX X t d r M' (pc + 3) L st (up3 M 4 i 2 v, N)) : GX X t d r M' pc L (.inl v :: .inr (.inr (4, i)) :: st) (M, N) := G_put (ci := 4) (k0 := 2) (ty0 := tyX4) inT_4 tyX4_ok nmX4 rfl (by rw [ht]; exact tbm 164 (by decide +kernel) rfl) (by decide) hi rfl (by decide) rfl (by decide) rfl (Or.inl ⟨rfl, rfl⟩) rfl rfl hdg k
set_option maxRecDepth 100000 in
theorem fp_X4_41 {i : Nat} {v : Int32} (ht : t.1 = RX4) (hi : i < 1) (hdg : decode t.2.2.1 pc = .ok (.putfield 41, 3)) (k : GX X t d r M' (pc + 3) L st (up3 M 4 i 3 v, N)) : GX X t d r M' pc L (.inl v :: .inr (.inr (4, i)) :: st) (M, N) := G_put (ci := 4) (k0 := 3) (ty0 := tyX4) inT_4 tyX4_ok nmX4 rfl (by rw [ht]; exact tbm 165 (by decide +kernel) rfl) (by decide) hi rfl (by decide) rfl (by decide) rfl (Or.inl ⟨rfl, rfl⟩) rfl rfl hdg k
set_option maxRecDepth 100000 in
theorem fp_X4_44 {i : Nat} {v : Int32} (ht : t.1 = RX4) (hi : i < 1) (hdg : decode t.2.2.1 pc = .ok (.putfield 44, 3)) (k : GX X t d r M' (pc + 3) L st (up3 M 4 i 4 v, N)) : GX X t d r M' pc L (.inl v :: .inr (.inr (4, i)) :: st) (M, N) := G_put (ci := 4) (k0 := 4) (ty0 := tyX4) inT_4 tyX4_ok nmX4 rfl (by rw [ht]; exact tbm 166 (by decide +kernel) rfl) (by decide) hi rfl (by decide) rfl (by decide) rfl (Or.inl ⟨rfl, rfl⟩) rfl rfl hdg k
set_option maxRecDepth 100000 in
theorem fp_X5_15 {i : Nat} {v : Int32} (ht : t.1 = RX5) (hi : i < 4) (hdg : decode t.2.2.1 pc = .ok (.putfield 15, 3)) (k : GX X t d r M' (pc + 3) L st (up3 M 5 i 1 v, N)) : GX X t d r M' pc L (.inl v :: .inr (.inr (5, i)) :: st) (M, N) := G_put (ci := 5) (k0 := 1) (ty0 := tyX5) inT_5 tyX5_ok nmX5 rfl (by rw [ht]; exact tbm 212 (by decide +kernel) rfl) (by decide) hi rfl (by decide) rfl (by decide) rfl (Or.inl ⟨rfl, rfl⟩) rfl rfl hdg k
set_option maxRecDepth 100000 in
theorem fp_X5_19 {i : Nat} {v : Int32} (ht : t.1 = RX5) (hi : i < 4) (hdg : decode t.2.2.1 pc = .ok (.putfield 19, 3)) (k : GX X t d r M' (pc + 3) L st (up3 M 5 i 2 v, N)) : GX X t d r M' pc L (.inl v :: .inr (.inr (5, i)) :: st) (M, N) := G_put (ci := 5) (k0 := 2) (ty0 := tyX5) inT_5 tyX5_ok nmX5 rfl (by rw [ht]; exact tbm 214 (by decide +kernel) rfl) (by decide) hi rfl (by decide) rfl (by decide) rfl (Or.inl ⟨rfl, rfl⟩) rfl rfl hdg k
set_option maxRecDepth 100000 in
theorem fp_X6_15 {i : Nat} {v : Int32} (ht : t.1 = RX6) (hi : i < 1) (hdg : decode t.2.2.1 pc = .ok (.putfield 15, 3)) (k : GX X t d r M' (pc + 3) L st (up3 M 6 i 1 v, N)) : GX X t d r M' pc L (.inl v :: .inr (.inr (6, i)) :: st) (M, N) := G_put (ci := 6) (k0 := 1) (ty0 := tyX6) inT_6 tyX6_ok nmX6 rfl (by rw [ht]; exact tbm 187 (by decide +kernel) rfl) (by decide) hi rfl (by decide) rfl (by decide) rfl (Or.inl ⟨rfl, rfl⟩) rfl rfl hdg k
set_option maxRecDepth 100000 in
theorem fp_X6_24 {i : Nat} {v : Int32} (ht : t.1 = RX6) (hi : i < 1) (hdg : decode t.2.2.1 pc = .ok (.putfield 24, 3)) (k : GX X t d r M' (pc + 3) L st (up3 M 6 i 2 v, N)) : GX X t d r M' pc L (.inl v :: .inr (.inr (6, i)) :: st) (M, N) := G_put (ci := 6) (k0 := 2) (ty0 := tyX6) inT_6 tyX6_ok nmX6 rfl (by rw [ht]; exact tbm 189 (by decide +kernel) rfl) (by decide) hi rfl (by decide) rfl (by decide) rfl (Or.inl ⟨rfl, rfl⟩) rfl rfl hdg k
set_option maxRecDepth 100000 in
theorem fp_X6_25 {i : Nat} {v : Int32} (ht : t.1 = RX6) (hi : i < 1) (hdg : decode t.2.2.1 pc = .ok (.putfield 25, 3)) (k : GX X t d r M' (pc + 3) L st (up3 M 6 i 3 v, N)) : GX X t d r M' pc L (.inl v :: .inr (.inr (6, i)) :: st) (M, N) := G_put (ci := 6) (k0 := 3) (ty0 := tyX6) inT_6 tyX6_ok nmX6 rfl (by rw [ht]; exact tbm 190 (by decide +kernel) rfl) (by decide) hi rfl (by decide) rfl (by decide) rfl (Or.inl ⟨rfl, rfl⟩) rfl rfl hdg k
set_option maxRecDepth 100000 in
theorem fp_X6_31 {i : Nat} {v : Int32} (ht : t.1 = RX6) (hi : i < 1) (hdg : decode t.2.2.1 pc = .ok (.putfield 31, 3)) (k : GX X t d r M' (pc + 3) L st (up3 M 6 i 4 v, N)) : GX X t d r M' pc L (.inl v :: .inr (.inr (6, i)) :: st) (M, N) := G_put (ci := 6) (k0 := 4) (ty0 := tyX6) inT_6 tyX6_ok nmX6 rfl (by rw [ht]; exact tbm 191 (by decide +kernel) rfl) (by decide) hi rfl (by decide) rfl (by decide) rfl (Or.inl ⟨rfl, rfl⟩) rfl rfl hdg k
set_option maxRecDepth 100000 in
theorem fp_X8_57 {i : Nat} {v : Int32} (ht : t.1 = RX8) (hi : i < 1) (hdg : decode t.2.2.1 pc = .ok (.putfield 57, 3)) (k : GX X t d r M' (pc + 3) L st (N, up3 M 19 i 6 v)) : GX X t d r M' pc L (.inl v :: .inr (.inr (19, i)) :: st) (N, M) := G_put (ci := 8) (k0 := 6) (ty0 := tyX8) inT_8 tyX8_ok nmX8 rfl (by rw [ht]; exact tbm 699 (by decide +kernel) rfl) (by decide) hi rfl (by decide) rfl (by decide) rfl (Or.inl ⟨rfl, rfl⟩) rfl rfl hdg k
set_option maxRecDepth 100000 in
theorem fp_X8_61 {i : Nat} {v : Int32} (ht : t.1 = RX8) (hi : i < 1) (hdg : decode t.2.2.1 pc = .ok (.putfield 61, 3)) (k : GX X t d r M' (pc + 3) L st (N, up3 M 19 i 7 v)) : GX X t d r M' pc L (.inl v :: .inr (.inr (19, i)) :: st) (N, M) := G_put (ci := 8) (k0 := 7) (ty0 := tyX8) inT_8 tyX8_ok nmX8 rfl (by rw [ht]; exact tbm 700 (by decide +kernel) rfl) (by decide) hi rfl (by decide) rfl (by decide) rfl (Or.inl ⟨rfl, rfl⟩) rfl rfl hdg k
set_option maxRecDepth 100000 in
theorem fp_X8_64 {i : Nat} {v : Int32} (ht : t.1 = RX8) (hi : i < 1) (hdg : decode t.2.2.1 pc = .ok (.putfield 64, 3)) (k : GX X t d r M' (pc + 3) L st (N, up3 M 19 i 8 v)) : GX X t d r M' pc L (.inl v :: .inr (.inr (19, i)) :: st) (N, M) := G_put (ci := 8) (k0 := 8) (ty0 := tyX8) inT_8 tyX8_ok nmX8 rfl (by rw [ht]; exact tbm 701 (by decide +kernel) rfl) (by decide) hi rfl (by decide) rfl (by decide) rfl (Or.inl ⟨rfl, rfl⟩) rfl rfl hdg k
set_option maxRecDepth 100000 in
theorem fp_X8_67 {i : Nat} {v : Int32} (ht : t.1 = RX8) (hi : i < 1) (hdg : decode t.2.2.1 pc = .ok (.putfield 67, 3)) (k : GX X t d r M' (pc + 3) L st (N, up3 M 19 i 5 v)) : GX X t d r M' pc L (.inl v :: .inr (.inr (19, i)) :: st) (N, M) := G_put (ci := 8) (k0 := 5) (ty0 := tyX8) inT_8 tyX8_ok nmX8 rfl (by rw [ht]; exact tbm 698 (by decide +kernel) rfl) (by decide) hi rfl (by decide) rfl (by decide) rfl (Or.inl ⟨rfl, rfl⟩) rfl rfl hdg k
set_option maxRecDepth 100000 in
theorem fp_X8_74 {i : Nat} {v : Int32} (hz : nbZ v = v) (ht : t.1 = RX8) (hi : i < 1) (hdg : decode t.2.2.1 pc = .ok (.putfield 74, 3)) (k : GX X t d r M' (pc + 3) L st (N, up3 M 19 i 10 v)) : GX X t d r M' pc L (.inl v :: .inr (.inr (19, i)) :: st) (N, M) := G_put (ci := 8) (k0 := 10) (ty0 := tyX8) inT_8 tyX8_ok nmX8 rfl (by rw [ht]; exact tbm 703 (by decide +kernel) rfl) (by decide) hi rfl (by decide) rfl (by decide) rfl (Or.inr ⟨hz, rfl⟩) rfl rfl hdg k
set_option maxRecDepth 100000 in
theorem fp_X8_78 {i : Nat} {v : Int32} (ht : t.1 = RX8) (hi : i < 1) (hdg : decode t.2.2.1 pc = .ok (.putfield 78, 3)) (k : GX X t d r M' (pc + 3) L st (N, up3 M 19 i 13 v)) : GX X t d r M' pc L (.inl v :: .inr (.inr (19, i)) :: st) (N, M) := G_put (ci := 8) (k0 := 13) (ty0 := tyX8) inT_8 tyX8_ok nmX8 rfl (by rw [ht]; exact tbm 706 (by decide +kernel) rfl) (by decide) hi rfl (by decide) rfl (by decide) rfl (Or.inl ⟨rfl, rfl⟩) rfl rfl hdg k
set_option maxRecDepth 100000 in
theorem fp_X8_104 {i : Nat} {v : Int32} (ht : t.1 = RX8) (hi : i < 1) (hdg : decode t.2.2.1 pc = .ok (.putfield 104, 3)) (k : GX X t d r M' (pc + 3) L st (N, up3 M 19 i 9 v)) : GX X t d r M' pc L (.inl v :: .inr (.inr (19, i)) :: st) (N, M) := G_put (ci := 8) (k0 := 9) (ty0 := tyX8) inT_8 tyX8_ok nmX8 rfl (by rw [ht]; exact tbm 702 (by decide +kernel) rfl) (by decide) hi rfl (by decide) rfl (by decide) rfl (Or.inl ⟨rfl, rfl⟩) rfl rfl hdg k
set_option maxRecDepth 100000 in
theorem fp_X8_229 {i : Nat} {v : Int32} (ht : t.1 = RX8) (hi : i < 1) (hdg : decode t.2.2.1 pc = .ok (.putfield 229, 3)) (k : GX X t d r M' (pc + 3) L st (N, up3 M 19 i 16 v)) : GX X t d r M' pc L (.inl v :: .inr (.inr (19, i)) :: st) (N, M) := G_put (ci := 8) (k0 := 16) (ty0 := tyX8) inT_8 tyX8_ok nmX8 rfl (by rw [ht]; exact tbm 709 (by decide +kernel) rfl) (by decide) hi rfl (by decide) rfl (by decide) rfl (Or.inl ⟨rfl, rfl⟩) rfl rfl hdg k
set_option maxRecDepth 100000 in
theorem fp_X8_235 {i : Nat} {v : Int32} (ht : t.1 = RX8) (hi : i < 1) (hdg : decode t.2.2.1 pc = .ok (.putfield 235, 3)) (k : GX X t d r M' (pc + 3) L st (N, up3 M 19 i 17 v)) : GX X t d r M' pc L (.inl v :: .inr (.inr (19, i)) :: st) (N, M) := G_put (ci := 8) (k0 := 17) (ty0 := tyX8) inT_8 tyX8_ok nmX8 rfl (by rw [ht]; exact tbm 710 (by decide +kernel) rfl) (by decide) hi rfl (by decide) rfl (by decide) rfl (Or.inl ⟨rfl, rfl⟩) rfl rfl hdg k
set_option maxRecDepth 100000 in
theorem fp_X8_252 {i : Nat} {v : Int32} (ht : t.1 = RX8) (hi : i < 1) (hdg : decode t.2.2.1 pc = .ok (.putfield 252, 3)) (k : GX X t d r M' (pc + 3) L st (N, up3 M 19 i 3 v)) : GX X t d r M' pc L (.inl v :: .inr (.inr (19, i)) :: st) (N, M) := G_put (ci := 8) (k0 := 3) (ty0 := tyX8) inT_8 tyX8_ok nmX8 rfl (by rw [ht]; exact tbm 696 (by decide +kernel) rfl) (by decide) hi rfl (by decide) rfl (by decide) rfl (Or.inl ⟨rfl, rfl⟩) rfl rfl hdg k
theorem al_8 {i kk : Nat} {x v : Int32} (hi : i < 3) (hin : ib x 50 = true) (hk : x.toNatClampNeg = kk) (hv : nbB (M 8 i kk) = v) (hdg : decode t.2.2.1 pc = .ok (.baload, 1)) (k : GX X t d r M' (pc + 1) L (.inl v :: st) (M, N)) : GX X t d r M' pc L (.inl x :: .inr (.inr (8, i)) :: st) (M, N) := G_bald (by decide) hi (by decide) rfl hin (by rw [hk, ← hv]; rfl) hdg k
theorem as_8 {i kk : Nat} {x v : Int32} (hi : i < 3) (hin : ib x 50 = true) (hk : x.toNatClampNeg = kk) (hdg : decode t.2.2.1 pc = .ok (.bastore, 1)) (k : GX X t d r M' (pc + 1) L st (up3 M 8 i kk v, N)) : GX X t d r M' pc L (.inl v :: .inl x :: .inr (.inr (8, i)) :: st) (M, N) := G_bast (by decide) hi (by decide) rfl hin (by rw [hk]; rfl) hdg k
theorem al_9 {i kk : Nat} {x v : Int32} (hi : i < 2) (hin : ib x 20 = true) (hk : x.toNatClampNeg = kk) (hv : M 9 i kk = v) (hdg : decode t.2.2.1 pc = .ok (.iaload, 1)) (k : GX X t d r M' (pc + 1) L (.inl v :: st) (M, N)) : GX X t d r M' pc L (.inl x :: .inr (.inr (9, i)) :: st) (M, N) := G_iald (by decide) hi (by decide) rfl hin (by rw [hk, ← hv]; rfl) hdg k
theorem as_9 {i kk : Nat} {x v : Int32} (hi : i < 2) (hin : ib x 20 = true) (hk : x.toNatClampNeg = kk) (hdg : decode t.2.2.1 pc = .ok (.iastore, 1)) (k : GX X t d r M' (pc + 1) L st (up3 M 9 i kk v, N)) : GX X t d r M' pc L (.inl v :: .inl x :: .inr (.inr (9, i)) :: st) (M, N) := G_iast (by decide) hi (by decide) rfl hin (by rw [hk]; rfl) hdg k
theorem al_10 {i kk : Nat} {x v : Int32} (hi : i < 3) (hin : ib x 5 = true) (hk : x.toNatClampNeg = kk) (hv : M 10 i kk = v) (hdg : decode t.2.2.1 pc = .ok (.iaload, 1)) (k : GX X t d r M' (pc + 1) L (.inl v :: st) (M, N)) : GX X t d r M' pc L (.inl x :: .inr (.inr (10, i)) :: st) (M, N) := G_iald (by decide) hi (by decide) rfl hin (by rw [hk, ← hv]; rfl) hdg k
theorem as_10 {i kk : Nat} {x v : Int32} (hi : i < 3) (hin : ib x 5 = true) (hk : x.toNatClampNeg = kk) (hdg : decode t.2.2.1 pc = .ok (.iastore, 1)) (k : GX X t d r M' (pc + 1) L st (up3 M 10 i kk v, N)) : GX X t d r M' pc L (.inl v :: .inl x :: .inr (.inr (10, i)) :: st) (M, N) := G_iast (by decide) hi (by decide) rfl hin (by rw [hk]; rfl) hdg k
theorem al_11 {i kk : Nat} {x v : Int32} (hi : i < 3) (hin : ib x 5 = true) (hk : x.toNatClampNeg = kk) (hv : M 11 i kk = v) (hdg : decode t.2.2.1 pc = .ok (.iaload, 1)) (k : GX X t d r M' (pc + 1) L (.inl v :: st) (M, N)) : GX X t d r M' pc L (.inl x :: .inr (.inr (11, i)) :: st) (M, N) := G_iald (by decide) hi (by decide) rfl hin (by rw [hk, ← hv]; rfl) hdg k
theorem as_11 {i kk : Nat} {x v : Int32} (hi : i < 3) (hin : ib x 5 = true) (hk : x.toNatClampNeg = kk) (hdg : decode t.2.2.1 pc = .ok (.iastore, 1)) (k : GX X t d r M' (pc + 1) L st (up3 M 11 i kk v, N)) : GX X t d r M' pc L (.inl v :: .inl x :: .inr (.inr (11, i)) :: st) (M, N) := G_iast (by decide) hi (by decide) rfl hin (by rw [hk]; rfl) hdg k
theorem al_13 {i kk : Nat} {x v : Int32} (hi : i < 7) (hin : ib x 50 = true) (hk : x.toNatClampNeg = kk) (hv : M 13 i kk = v) (hdg : decode t.2.2.1 pc = .ok (.iaload, 1)) (k : GX X t d r M' (pc + 1) L (.inl v :: st) (M, N)) : GX X t d r M' pc L (.inl x :: .inr (.inr (13, i)) :: st) (M, N) := G_iald (by decide) hi (by decide) rfl hin (by rw [hk, ← hv]; rfl) hdg k
theorem as_13 {i kk : Nat} {x v : Int32} (hi : i < 7) (hin : ib x 50 = true) (hk : x.toNatClampNeg = kk) (hdg : decode t.2.2.1 pc = .ok (.iastore, 1)) (k : GX X t d r M' (pc + 1) L st (up3 M 13 i kk v, N)) : GX X t d r M' pc L (.inl v :: .inl x :: .inr (.inr (13, i)) :: st) (M, N) := G_iast (by decide) hi (by decide) rfl hin (by rw [hk]; rfl) hdg k
theorem al_14 {i kk : Nat} {x v : Int32} (hi : i < 7) (hin : ib x 50 = true) (hk : x.toNatClampNeg = kk) (hv : M 14 i kk = v) (hdg : decode t.2.2.1 pc = .ok (.iaload, 1)) (k : GX X t d r M' (pc + 1) L (.inl v :: st) (M, N)) : GX X t d r M' pc L (.inl x :: .inr (.inr (14, i)) :: st) (M, N) := G_iald (by decide) hi (by decide) rfl hin (by rw [hk, ← hv]; rfl) hdg k
theorem as_14 {i kk : Nat} {x v : Int32} (hi : i < 7) (hin : ib x 50 = true) (hk : x.toNatClampNeg = kk) (hdg : decode t.2.2.1 pc = .ok (.iastore, 1)) (k : GX X t d r M' (pc + 1) L st (up3 M 14 i kk v, N)) : GX X t d r M' pc L (.inl v :: .inl x :: .inr (.inr (14, i)) :: st) (M, N) := G_iast (by decide) hi (by decide) rfl hin (by rw [hk]; rfl) hdg k
theorem al_15 {i kk : Nat} {x v : Int32} (hi : i < 4) (hin : ib x 40 = true) (hk : x.toNatClampNeg = kk) (hv : M 15 i kk = v) (hdg : decode t.2.2.1 pc = .ok (.iaload, 1)) (k : GX X t d r M' (pc + 1) L (.inl v :: st) (M, N)) : GX X t d r M' pc L (.inl x :: .inr (.inr (15, i)) :: st) (M, N) := G_iald (by decide) hi (by decide) rfl hin (by rw [hk, ← hv]; rfl) hdg k
theorem as_15 {i kk : Nat} {x v : Int32} (hi : i < 4) (hin : ib x 40 = true) (hk : x.toNatClampNeg = kk) (hdg : decode t.2.2.1 pc = .ok (.iastore, 1)) (k : GX X t d r M' (pc + 1) L st (up3 M 15 i kk v, N)) : GX X t d r M' pc L (.inl v :: .inl x :: .inr (.inr (15, i)) :: st) (M, N) := G_iast (by decide) hi (by decide) rfl hin (by rw [hk]; rfl) hdg k
theorem al_16 {i kk : Nat} {x v : Int32} (hi : i < 1) (hin : ib x 40 = true) (hk : x.toNatClampNeg = kk) (hv : M 16 i kk = v) (hdg : decode t.2.2.1 pc = .ok (.iaload, 1)) (k : GX X t d r M' (pc + 1) L (.inl v :: st) (M, N)) : GX X t d r M' pc L (.inl x :: .inr (.inr (16, i)) :: st) (M, N) := G_iald (by decide) hi (by decide) rfl hin (by rw [hk, ← hv]; rfl) hdg k
theorem as_16 {i kk : Nat} {x v : Int32} (hi : i < 1) (hin : ib x 40 = true) (hk : x.toNatClampNeg = kk) (hdg : decode t.2.2.1 pc = .ok (.iastore, 1)) (k : GX X t d r M' (pc + 1) L st (up3 M 16 i kk v, N)) : GX X t d r M' pc L (.inl v :: .inl x :: .inr (.inr (16, i)) :: st) (M, N) := G_iast (by decide) hi (by decide) rfl hin (by rw [hk]; rfl) hdg k
theorem al_18 {i kk : Nat} {x v : Int32} (hi : i < 1) (hin : ib x 6 = true) (hk : x.toNatClampNeg = kk) (hv : M 18 i kk = v) (hdg : decode t.2.2.1 pc = .ok (.iaload, 1)) (k : GX X t d r M' (pc + 1) L (.inl v :: st) (M, N)) : GX X t d r M' pc L (.inl x :: .inr (.inr (18, i)) :: st) (M, N) := G_iald (by decide) hi (by decide) rfl hin (by rw [hk, ← hv]; rfl) hdg k
theorem as_18 {i kk : Nat} {x v : Int32} (hi : i < 1) (hin : ib x 6 = true) (hk : x.toNatClampNeg = kk) (hdg : decode t.2.2.1 pc = .ok (.iastore, 1)) (k : GX X t d r M' (pc + 1) L st (up3 M 18 i kk v, N)) : GX X t d r M' pc L (.inl v :: .inl x :: .inr (.inr (18, i)) :: st) (M, N) := G_iast (by decide) hi (by decide) rfl hin (by rw [hk]; rfl) hdg k
theorem al_20 {i kk : Nat} {x v : Int32} (hi : i < 1) (hin : ib x 268 = true) (hk : x.toNatClampNeg = kk) (hv : M 20 i kk = v) (hdg : decode t.2.2.1 pc = .ok (.iaload, 1)) (k : GX X t d r M' (pc + 1) L (.inl v :: st) (N, M)) : GX X t d r M' pc L (.inl x :: .inr (.inr (20, i)) :: st) (N, M) := G_iald (by decide) hi (by decide) rfl hin (by rw [hk, ← hv]; rfl) hdg k
theorem as_20 {i kk : Nat} {x v : Int32} (hi : i < 1) (hin : ib x 268 = true) (hk : x.toNatClampNeg = kk) (hdg : decode t.2.2.1 pc = .ok (.iastore, 1)) (k : GX X t d r M' (pc + 1) L st (N, up3 M 20 i kk v)) : GX X t d r M' pc L (.inl v :: .inl x :: .inr (.inr (20, i)) :: st) (N, M) := G_iast (by decide) hi (by decide) rfl hin (by rw [hk]; rfl) hdg k
theorem al_21 {i kk : Nat} {x v : Int32} (hi : i < 1) (hin : ib x 268 = true) (hk : x.toNatClampNeg = kk) (hv : M 21 i kk = v) (hdg : decode t.2.2.1 pc = .ok (.iaload, 1)) (k : GX X t d r M' (pc + 1) L (.inl v :: st) (N, M)) : GX X t d r M' pc L (.inl x :: .inr (.inr (21, i)) :: st) (N, M) := G_iald (by decide) hi (by decide) rfl hin (by rw [hk, ← hv]; rfl) hdg k
theorem as_21 {i kk : Nat} {x v : Int32} (hi : i < 1) (hin : ib x 268 = true) (hk : x.toNatClampNeg = kk) (hdg : decode t.2.2.1 pc = .ok (.iastore, 1)) (k : GX X t d r M' (pc + 1) L st (N, up3 M 21 i kk v)) : GX X t d r M' pc L (.inl v :: .inl x :: .inr (.inr (21, i)) :: st) (N, M) := G_iast (by decide) hi (by decide) rfl hin (by rw [hk]; rfl) hdg k
theorem al_22 {i kk : Nat} {x v : Int32} (hi : i < 1) (hin : ib x 96 = true) (hk : x.toNatClampNeg = kk) (hv : M 22 i kk = v) (hdg : decode t.2.2.1 pc = .ok (.iaload, 1)) (k : GX X t d r M' (pc + 1) L (.inl v :: st) (N, M)) : GX X t d r M' pc L (.inl x :: .inr (.inr (22, i)) :: st) (N, M) := G_iald (by decide) hi (by decide) rfl hin (by rw [hk, ← hv]; rfl) hdg k
theorem as_22 {i kk : Nat} {x v : Int32} (hi : i < 1) (hin : ib x 96 = true) (hk : x.toNatClampNeg = kk) (hdg : decode t.2.2.1 pc = .ok (.iastore, 1)) (k : GX X t d r M' (pc + 1) L st (N, up3 M 22 i kk v)) : GX X t d r M' pc L (.inl v :: .inl x :: .inr (.inr (22, i)) :: st) (N, M) := G_iast (by decide) hi (by decide) rfl hin (by rw [hk]; rfl) hdg k
theorem al_23 {i kk : Nat} {x v : Int32} (hi : i < 1) (hin : ib x 6 = true) (hk : x.toNatClampNeg = kk) (hv : M 23 i kk = v) (hdg : decode t.2.2.1 pc = .ok (.iaload, 1)) (k : GX X t d r M' (pc + 1) L (.inl v :: st) (N, M)) : GX X t d r M' pc L (.inl x :: .inr (.inr (23, i)) :: st) (N, M) := G_iald (by decide) hi (by decide) rfl hin (by rw [hk, ← hv]; rfl) hdg k
theorem as_23 {i kk : Nat} {x v : Int32} (hi : i < 1) (hin : ib x 6 = true) (hk : x.toNatClampNeg = kk) (hdg : decode t.2.2.1 pc = .ok (.iastore, 1)) (k : GX X t d r M' (pc + 1) L st (N, up3 M 23 i kk v)) : GX X t d r M' pc L (.inl v :: .inl x :: .inr (.inr (23, i)) :: st) (N, M) := G_iast (by decide) hi (by decide) rfl hin (by rw [hk]; rfl) hdg k
theorem al_24 {i kk : Nat} {x v : Int32} (hi : i < 1) (hin : ib x 3 = true) (hk : x.toNatClampNeg = kk) (hv : M 24 i kk = v) (hdg : decode t.2.2.1 pc = .ok (.iaload, 1)) (k : GX X t d r M' (pc + 1) L (.inl v :: st) (N, M)) : GX X t d r M' pc L (.inl x :: .inr (.inr (24, i)) :: st) (N, M) := G_iald (by decide) hi (by decide) rfl hin (by rw [hk, ← hv]; rfl) hdg k
theorem as_24 {i kk : Nat} {x v : Int32} (hi : i < 1) (hin : ib x 3 = true) (hk : x.toNatClampNeg = kk) (hdg : decode t.2.2.1 pc = .ok (.iastore, 1)) (k : GX X t d r M' (pc + 1) L st (N, up3 M 24 i kk v)) : GX X t d r M' pc L (.inl v :: .inl x :: .inr (.inr (24, i)) :: st) (N, M) := G_iast (by decide) hi (by decide) rfl hin (by rw [hk]; rfl) hdg k
theorem al_25 {i kk : Nat} {x v : Int32} (hi : i < 1) (hin : ib x 60 = true) (hk : x.toNatClampNeg = kk) (hv : M 25 i kk = v) (hdg : decode t.2.2.1 pc = .ok (.iaload, 1)) (k : GX X t d r M' (pc + 1) L (.inl v :: st) (N, M)) : GX X t d r M' pc L (.inl x :: .inr (.inr (25, i)) :: st) (N, M) := G_iald (by decide) hi (by decide) rfl hin (by rw [hk, ← hv]; rfl) hdg k
theorem as_25 {i kk : Nat} {x v : Int32} (hi : i < 1) (hin : ib x 60 = true) (hk : x.toNatClampNeg = kk) (hdg : decode t.2.2.1 pc = .ok (.iastore, 1)) (k : GX X t d r M' (pc + 1) L st (N, up3 M 25 i kk v)) : GX X t d r M' pc L (.inl v :: .inl x :: .inr (.inr (25, i)) :: st) (N, M) := G_iast (by decide) hi (by decide) rfl hin (by rw [hk]; rfl) hdg k
theorem al_26 {i kk : Nat} {x v : Int32} (hi : i < 1) (hin : ib x 60 = true) (hk : x.toNatClampNeg = kk) (hv : M 26 i kk = v) (hdg : decode t.2.2.1 pc = .ok (.iaload, 1)) (k : GX X t d r M' (pc + 1) L (.inl v :: st) (N, M)) : GX X t d r M' pc L (.inl x :: .inr (.inr (26, i)) :: st) (N, M) := G_iald (by decide) hi (by decide) rfl hin (by rw [hk, ← hv]; rfl) hdg k
theorem as_26 {i kk : Nat} {x v : Int32} (hi : i < 1) (hin : ib x 60 = true) (hk : x.toNatClampNeg = kk) (hdg : decode t.2.2.1 pc = .ok (.iastore, 1)) (k : GX X t d r M' (pc + 1) L st (N, up3 M 26 i kk v)) : GX X t d r M' pc L (.inl v :: .inl x :: .inr (.inr (26, i)) :: st) (N, M) := G_iast (by decide) hi (by decide) rfl hin (by rw [hk]; rfl) hdg k
theorem al_27 {i kk : Nat} {x v : Int32} (hi : i < 1) (hin : ib x 40 = true) (hk : x.toNatClampNeg = kk) (hv : M 27 i kk = v) (hdg : decode t.2.2.1 pc = .ok (.iaload, 1)) (k : GX X t d r M' (pc + 1) L (.inl v :: st) (N, M)) : GX X t d r M' pc L (.inl x :: .inr (.inr (27, i)) :: st) (N, M) := G_iald (by decide) hi (by decide) rfl hin (by rw [hk, ← hv]; rfl) hdg k
theorem as_27 {i kk : Nat} {x v : Int32} (hi : i < 1) (hin : ib x 40 = true) (hk : x.toNatClampNeg = kk) (hdg : decode t.2.2.1 pc = .ok (.iastore, 1)) (k : GX X t d r M' (pc + 1) L st (N, up3 M 27 i kk v)) : GX X t d r M' pc L (.inl v :: .inl x :: .inr (.inr (27, i)) :: st) (N, M) := G_iast (by decide) hi (by decide) rfl hin (by rw [hk]; rfl) hdg k
theorem al_28 {i kk : Nat} {x v : Int32} (hi : i < 1) (hin : ib x 4 = true) (hk : x.toNatClampNeg = kk) (hv : M 28 i kk = v) (hdg : decode t.2.2.1 pc = .ok (.iaload, 1)) (k : GX X t d r M' (pc + 1) L (.inl v :: st) (N, M)) : GX X t d r M' pc L (.inl x :: .inr (.inr (28, i)) :: st) (N, M) := G_iald (by decide) hi (by decide) rfl hin (by rw [hk, ← hv]; rfl) hdg k
theorem as_28 {i kk : Nat} {x v : Int32} (hi : i < 1) (hin : ib x 4 = true) (hk : x.toNatClampNeg = kk) (hdg : decode t.2.2.1 pc = .ok (.iastore, 1)) (k : GX X t d r M' (pc + 1) L st (N, up3 M 28 i kk v)) : GX X t d r M' pc L (.inl v :: .inl x :: .inr (.inr (28, i)) :: st) (N, M) := G_iast (by decide) hi (by decide) rfl hin (by rw [hk]; rfl) hdg k
theorem al_29 {i kk : Nat} {x v : Int32} (hi : i < 1) (hin : ib x 4 = true) (hk : x.toNatClampNeg = kk) (hv : M 29 i kk = v) (hdg : decode t.2.2.1 pc = .ok (.iaload, 1)) (k : GX X t d r M' (pc + 1) L (.inl v :: st) (N, M)) : GX X t d r M' pc L (.inl x :: .inr (.inr (29, i)) :: st) (N, M) := G_iald (by decide) hi (by decide) rfl hin (by rw [hk, ← hv]; rfl) hdg k
theorem as_29 {i kk : Nat} {x v : Int32} (hi : i < 1) (hin : ib x 4 = true) (hk : x.toNatClampNeg = kk) (hdg : decode t.2.2.1 pc = .ok (.iastore, 1)) (k : GX X t d r M' (pc + 1) L st (N, up3 M 29 i kk v)) : GX X t d r M' pc L (.inl v :: .inl x :: .inr (.inr (29, i)) :: st) (N, M) := G_iast (by decide) hi (by decide) rfl hin (by rw [hk]; rfl) hdg k
theorem al_30 {i kk : Nat} {x v : Int32} (hi : i < 1) (hin : ib x 160 = true) (hk : x.toNatClampNeg = kk) (hv : M 30 i kk = v) (hdg : decode t.2.2.1 pc = .ok (.iaload, 1)) (k : GX X t d r M' (pc + 1) L (.inl v :: st) (N, M)) : GX X t d r M' pc L (.inl x :: .inr (.inr (30, i)) :: st) (N, M) := G_iald (by decide) hi (by decide) rfl hin (by rw [hk, ← hv]; rfl) hdg k
theorem as_30 {i kk : Nat} {x v : Int32} (hi : i < 1) (hin : ib x 160 = true) (hk : x.toNatClampNeg = kk) (hdg : decode t.2.2.1 pc = .ok (.iastore, 1)) (k : GX X t d r M' (pc + 1) L st (N, up3 M 30 i kk v)) : GX X t d r M' pc L (.inl v :: .inl x :: .inr (.inr (30, i)) :: st) (N, M) := G_iast (by decide) hi (by decide) rfl hin (by rw [hk]; rfl) hdg k
theorem al_31 {i kk : Nat} {x v : Int32} (hi : i < 1) (hin : ib x 40 = true) (hk : x.toNatClampNeg = kk) (hv : M 31 i kk = v) (hdg : decode t.2.2.1 pc = .ok (.iaload, 1)) (k : GX X t d r M' (pc + 1) L (.inl v :: st) (N, M)) : GX X t d r M' pc L (.inl x :: .inr (.inr (31, i)) :: st) (N, M) := G_iald (by decide) hi (by decide) rfl hin (by rw [hk, ← hv]; rfl) hdg k
theorem as_31 {i kk : Nat} {x v : Int32} (hi : i < 1) (hin : ib x 40 = true) (hk : x.toNatClampNeg = kk) (hdg : decode t.2.2.1 pc = .ok (.iastore, 1)) (k : GX X t d r M' (pc + 1) L st (N, up3 M 31 i kk v)) : GX X t d r M' pc L (.inl v :: .inl x :: .inr (.inr (31, i)) :: st) (N, M) := G_iast (by decide) hi (by decide) rfl hin (by rw [hk]; rfl) hdg k
end FL
