/-- two systems' calls agree: same answer, and the systems stay alike -/
def EqP (Rel : Mem → Mem → Prop) (f g : Mem → Option (Int32 × Mem)) : Prop := ∀ C R, Rel C R → ∃ (res : Int32) (C' R' : Mem), f C = some (res, C') ∧ g R = some (res, R') ∧ Rel C' R'
/-- all forty calls agree -/
def AllEq (Rel : Mem → Mem → Prop) : Prop :=
  (∀ a1 a2 a3 : Int32, EqP Rel (X7_house a1 a2 a3) (X8_house a1 a2 a3)) ∧
  (∀ a1 a2 : Int32, EqP Rel (X7_ofHouse a1 a2) (X8_ofHouse a1 a2)) ∧
  (∀ a1 a2 a3 : Int32, EqP Rel (X7_pot a1 a2 a3) (X8_pot a1 a2 a3)) ∧
  (∀ a1 a2 : Int32, EqP Rel (X7_ofPot a1 a2) (X8_ofPot a1 a2)) ∧
  (∀ a1 a2 a3 : Int32, EqP Rel (X7_change a1 a2 a3) (X8_change a1 a2 a3)) ∧
  (∀ a1 a2 : Int32, EqP Rel (X7_shift a1 a2) (X8_shift a1 a2)) ∧
  (∀ a1 : Int32, EqP Rel (X7_stick a1) (X8_stick a1)) ∧
  (∀ a1 a2 : Int32, EqP Rel (X7_become a1 a2) (X8_become a1 a2)) ∧
  (∀ a1 a2 : Int32, EqP Rel (X7_as a1 a2) (X8_as a1 a2)) ∧
  (∀ (j : Int64) (a3 : Int32), EqP Rel (X7_feed j a3) (X8_feed j a3)) ∧
  (∀ a1 : Int32, EqP Rel (X7_text a1) (X8_text a1)) ∧
  (∀ a1 a2 a3 a4 : Int32, EqP Rel (X7_law a1 a2 a3 a4) (X8_law a1 a2 a3 a4)) ∧
  (∀ a1 : Int32, EqP Rel (X7_years a1) (X8_years a1)) ∧
  (∀ a1 : Int32, EqP Rel (X7_loose a1) (X8_loose a1)) ∧
  (∀ a1 a2 a3 : Int32, EqP Rel (X7_then a1 a2 a3) (X8_then a1 a2 a3)) ∧
  (∀ a1 : Int32, EqP Rel (X7_when a1) (X8_when a1)) ∧
  (∀ a1 a2 : Int32, EqP Rel (X7_shelf a1 a2) (X8_shelf a1 a2)) ∧
  (∀ a1 a2 a3 : Int32, EqP Rel (X7_place a1 a2 a3) (X8_place a1 a2 a3)) ∧
  (∀ a1 a2 : Int32, EqP Rel (X7_use a1 a2) (X8_use a1 a2)) ∧
  (∀ a1 a2 : Int32, EqP Rel (X7_needed a1 a2) (X8_needed a1 a2)) ∧
  (∀ a1 a2 a3 : Int32, EqP Rel (X7_whose a1 a2 a3) (X8_whose a1 a2 a3)) ∧
  (∀ a1 : Int32, EqP Rel (X7_carry a1) (X8_carry a1)) ∧
  (∀ a1 a2 : Int32, EqP Rel (X7_richest a1 a2) (X8_richest a1 a2)) ∧
  (∀ a1 : Int32, EqP Rel (X7_breaks a1) (X8_breaks a1)) ∧
  (∀ a1 : Int32, EqP Rel (X7_dealer a1) (X8_dealer a1)) ∧
  (∀ a1 a2 a3 : Int32, EqP Rel (X7_odds a1 a2 a3) (X8_odds a1 a2 a3)) ∧
  (∀ a1 : Int32, EqP Rel (X7_seed a1) (X8_seed a1)) ∧
  (∀ a1 a2 a3 : Int32, EqP Rel (X7_voice a1 a2 a3) (X8_voice a1 a2 a3)) ∧
  (∀ a1 : Int32, EqP Rel (X7_trace a1) (X8_trace a1)) ∧
  (∀ a1 a2 a3 : Int32, EqP Rel (X7_sheet a1 a2 a3) (X8_sheet a1 a2 a3)) ∧
  (∀ a1 a2 a3 : Int32, EqP Rel (X7_put a1 a2 a3) (X8_put a1 a2 a3)) ∧
  (∀ a1 a2 a3 a4 a5 : Int32, EqP Rel (X7_move a1 a2 a3 a4 a5) (X8_move a1 a2 a3 a4 a5)) ∧
  (∀ a1 : Int32, EqP Rel (X7_uses a1) (X8_uses a1)) ∧
  (∀ a1 : Int32, EqP Rel (X7_judge a1) (X8_judge a1)) ∧
  EqP Rel X7_image X8_image ∧
  EqP Rel X7_restore X8_restore ∧
  (∀ a1 : Int32, EqP Rel (X7_tell a1) (X8_tell a1)) ∧
  EqP Rel X7_check X8_check ∧
  (∀ a1 : Int32, EqP Rel (X7_count a1) (X8_count a1)) ∧
  (∀ a1 : Int32, EqP Rel (X7_told a1) (X8_told a1))
theorem loop_end {n : Nat} {xs : Nat → Int32} {M : MM} {v3 : Int32} : GX (SX n xs) mt_law 1000 (some (.inl 1)) M 1504 [(0, .inr (.inr (99, 0))), (1, .inr (.inr (7, 0))), (2, .inr (.inr (19, 0))), (3, .inl v3)] [] M := by
  refine G_iconst (v := 1) dL_law_1504 (by decide) ?_
  exact G_ret dL_law_1505 (Or.inr rfl) rfl rfl
theorem loop_next {n : Nat} {xs : Nat → Int32} {r : Option AV} {M M' : MM} {k : Nat} (hk : 6 * k + 6 ≤ 4000) (K : GX (SX n xs) mt_law 1000 r M' 18 [(0, .inr (.inr (99, 0))), (1, .inr (.inr (7, 0))), (2, .inr (.inr (19, 0))), (3, .inl (Int32.ofNat (6 * (k + 1))))] [] M) : GX (SX n xs) mt_law 1000 r M' 1498 [(0, .inr (.inr (99, 0))), (1, .inr (.inr (7, 0))), (2, .inr (.inr (19, 0))), (3, .inl (Int32.ofNat (6 * k)))] [] M := by
  refine G_iinc (v := Int32.ofNat (6 * (k + 1))) (L2 := [(3, .inl (Int32.ofNat (6 * (k + 1)))), (0, .inr (.inr (99, 0))), (1, .inr (.inr (7, 0))), (2, .inr (.inr (19, 0)))]) dL_law_1498 rfl ?_ (by decide) rfl ?_
  · show Int32.ofNat (6 * k) + Int32.ofNat 6 = _
    rw [i_ofadd]; rfl
  refine G_goto (tgt := 18) dL_law_1501 (by decide) ?_
  exact G_sub _ [1, 2, 3, 0] rfl K
set_option maxRecDepth 100000 in
set_option maxHeartbeats 4000000 in
/-- THE LAW'S LOOP: from two systems that are alike it comes to its end with 1 -/
theorem law_loop {Rel : Mem → Mem → Prop} (hE : AllEq Rel) {n : Nat} (hn : n ≤ 3072) {xs : Nat → Int32} : ∀ (m k : Nat) (C R : Mem), n + 6 ≤ 6 * k + m → 6 * k ≤ n + 6 → Rel C R → ∃ M' : MM, GX (SX n xs) mt_law 1000 (some (.inl 1)) M' 18 [(0, .inr (.inr (99, 0))), (1, .inr (.inr (7, 0))), (2, .inr (.inr (19, 0))), (3, .inl (Int32.ofNat (6 * k)))] [] (C, R) := by
  intro m
  induction m with
  | zero =>
    intro k C R hm hk hR
    refine ⟨(C, R), ?_⟩
    refine G_iload_n dL_law_18 rfl ?_
    refine G_aload_n dL_law_19 rfl ?_
    refine G_slen dL_law_20 ?_
    refine G_bipush (v := 6) dL_law_21 (by decide) ?_
    refine G_isub dL_law_23 ?_
    refine G_icmp_gt (tgt := 1504) dL_law_24 (by decide) (fun _ => loop_end) (fun hc => ?_)
    exfalso
    apply hc
    rw [i_lt, i_sub, i_of, i_of] <;> (try rw [i_of]) <;> (try rw [show (6 : Int32).toInt = 6 from rfl]) <;> omega
  | succ m ih =>
    intro k C R hm hk hR
    by_cases hgo : 6 * k + 6 ≤ n
    · have hx : ∀ j : Nat, j < 6 → vp_in (Int32.ofNat (6 * k) + Int32.ofNat j) n := by
        intro j hj
        rw [i_ofadd]
        exact ib_in (ib_of (by omega) (by omega))
      have hx0 : vp_in (Int32.ofNat (6 * k)) n := ib_in (ib_of (by omega) (by omega))
      obtain ⟨E0, E1, E2, E3, E4, E5, E6, E7, E8, E9, E10, E11, E12, E13, E14, E15, E16, E17, E18, E19, E20, E21, E22, E23, E24, E25, E26, E27, E28, E29, E30, E31, E32, E33, E34, E35, E36, E37, E38, E39⟩ := hE
      generalize hv3 : Int32.ofNat (6 * k) = v3 at hx hx0
      have b1 : vp_in (v3 + 1) n := hx 1 (by omega)
      have b2 : vp_in (v3 + 2) n := hx 2 (by omega)
      have b3 : vp_in (v3 + 3) n := hx 3 (by omega)
      have b4 : vp_in (v3 + 4) n := hx 4 (by omega)
      have b5 : vp_in (v3 + 5) n := hx 5 (by omega)
      have front : ∀ {M' : MM}, GX (SX n xs) mt_law 1000 (some (.inl 1)) M' 33 [(0, .inr (.inr (99, 0))), (1, .inr (.inr (7, 0))), (2, .inr (.inr (19, 0))), (3, .inl v3)] [.inl (xs v3.toNatClampNeg &&& 63)] (C, R) → GX (SX n xs) mt_law 1000 (some (.inl 1)) M' 18 [(0, .inr (.inr (99, 0))), (1, .inr (.inr (7, 0))), (2, .inr (.inr (19, 0))), (3, .inl v3)] [] (C, R) := by
        intro M' K
        refine G_iload_n dL_law_18 rfl ?_
        refine G_aload_n dL_law_19 rfl ?_
        refine G_slen dL_law_20 ?_
        refine G_bipush (v := 6) dL_law_21 (by decide) ?_
        refine G_isub dL_law_23 ?_
        refine G_icmp_gt (tgt := 1504) dL_law_24 (by decide) (fun hc => ?_) (fun _ => ?_)
        · exfalso
          revert hc
          subst hv3
          rw [i_lt, i_sub, i_of, i_of] <;> (try rw [i_of]) <;> (try rw [show (6 : Int32).toInt = 6 from rfl]) <;> omega
        refine G_aload_n dL_law_27 rfl ?_
        refine G_iload_n dL_law_28 rfl ?_
        refine G_sld hx0 rfl dL_law_29 ?_
        refine G_bipush (v := 63) dL_law_30 (by decide) ?_
        exact G_iand dL_law_32 K
      generalize xs v3.toNatClampNeg &&& 63 = op at front
      by_cases hc0 : op = 0
      · obtain ⟨res, C1, R1, g1, g2, g3⟩ := (E0 (xs (v3 + 1).toNatClampNeg) (xs (v3 + 2).toNatClampNeg) (xs (v3 + 3).toNatClampNeg)) C R hR
        obtain ⟨M1, K⟩ := ih (k + 1) C1 R1 (by omega) (by omega) g3
        refine ⟨M1, front (G_tableEq (off := 175) (tgt := 208) hc0 dL_law_33 (by decide) (by decide) (by decide) (by decide) (lawc_0 b1 rfl b2 rfl b3 rfl g1 g2 ?_))⟩
        subst hv3
        exact loop_next (by omega) K
      by_cases hc1 : op = 1
      · obtain ⟨res, C1, R1, g1, g2, g3⟩ := (E1 (xs (v3 + 1).toNatClampNeg) (xs (v3 + 2).toNatClampNeg)) C R hR
        obtain ⟨M1, K⟩ := ih (k + 1) C1 R1 (by omega) (by omega) g3
        refine ⟨M1, front (G_tableEq (off := 218) (tgt := 251) hc1 dL_law_33 (by decide) (by decide) (by decide) (by decide) (lawc_1 b1 rfl b2 rfl g1 g2 ?_))⟩
        subst hv3
        exact loop_next (by omega) K
      by_cases hc2 : op = 2
      · obtain ⟨res, C1, R1, g1, g2, g3⟩ := (E2 (xs (v3 + 1).toNatClampNeg) (xs (v3 + 2).toNatClampNeg) (xs (v3 + 3).toNatClampNeg)) C R hR
        obtain ⟨M1, K⟩ := ih (k + 1) C1 R1 (by omega) (by omega) g3
        refine ⟨M1, front (G_tableEq (off := 251) (tgt := 284) hc2 dL_law_33 (by decide) (by decide) (by decide) (by decide) (lawc_2 b1 rfl b2 rfl b3 rfl g1 g2 ?_))⟩
        subst hv3
        exact loop_next (by omega) K
      by_cases hc3 : op = 3
      · obtain ⟨res, C1, R1, g1, g2, g3⟩ := (E3 (xs (v3 + 1).toNatClampNeg) (xs (v3 + 2).toNatClampNeg)) C R hR
        obtain ⟨M1, K⟩ := ih (k + 1) C1 R1 (by omega) (by omega) g3
        refine ⟨M1, front (G_tableEq (off := 294) (tgt := 327) hc3 dL_law_33 (by decide) (by decide) (by decide) (by decide) (lawc_3 b1 rfl b2 rfl g1 g2 ?_))⟩
        subst hv3
        exact loop_next (by omega) K
      by_cases hc4 : op = 4
      · obtain ⟨res, C1, R1, g1, g2, g3⟩ := (E4 (xs (v3 + 1).toNatClampNeg) (xs (v3 + 2).toNatClampNeg) (xs (v3 + 3).toNatClampNeg)) C R hR
        obtain ⟨M1, K⟩ := ih (k + 1) C1 R1 (by omega) (by omega) g3
        refine ⟨M1, front (G_tableEq (off := 327) (tgt := 360) hc4 dL_law_33 (by decide) (by decide) (by decide) (by decide) (lawc_4 b1 rfl b2 rfl b3 rfl g1 g2 ?_))⟩
        subst hv3
        exact loop_next (by omega) K
      by_cases hc5 : op = 5
      · obtain ⟨res, C1, R1, g1, g2, g3⟩ := (E5 (xs (v3 + 1).toNatClampNeg) (xs (v3 + 2).toNatClampNeg)) C R hR
        obtain ⟨M1, K⟩ := ih (k + 1) C1 R1 (by omega) (by omega) g3
        refine ⟨M1, front (G_tableEq (off := 370) (tgt := 403) hc5 dL_law_33 (by decide) (by decide) (by decide) (by decide) (lawc_5 b1 rfl b2 rfl g1 g2 ?_))⟩
        subst hv3
        exact loop_next (by omega) K
      by_cases hc6 : op = 6
      · obtain ⟨res, C1, R1, g1, g2, g3⟩ := (E6 (xs (v3 + 1).toNatClampNeg)) C R hR
        obtain ⟨M1, K⟩ := ih (k + 1) C1 R1 (by omega) (by omega) g3
        refine ⟨M1, front (G_tableEq (off := 403) (tgt := 436) hc6 dL_law_33 (by decide) (by decide) (by decide) (by decide) (lawc_6 b1 rfl g1 g2 ?_))⟩
        subst hv3
        exact loop_next (by omega) K
      by_cases hc7 : op = 7
      · obtain ⟨res, C1, R1, g1, g2, g3⟩ := (E7 (xs (v3 + 1).toNatClampNeg) (xs (v3 + 2).toNatClampNeg)) C R hR
        obtain ⟨M1, K⟩ := ih (k + 1) C1 R1 (by omega) (by omega) g3
        refine ⟨M1, front (G_tableEq (off := 426) (tgt := 459) hc7 dL_law_33 (by decide) (by decide) (by decide) (by decide) (lawc_7 b1 rfl b2 rfl g1 g2 ?_))⟩
        subst hv3
        exact loop_next (by omega) K
      by_cases hc8 : op = 8
      · obtain ⟨res, C1, R1, g1, g2, g3⟩ := (E8 (xs (v3 + 1).toNatClampNeg) (xs (v3 + 2).toNatClampNeg)) C R hR
        obtain ⟨M1, K⟩ := ih (k + 1) C1 R1 (by omega) (by omega) g3
        refine ⟨M1, front (G_tableEq (off := 459) (tgt := 492) hc8 dL_law_33 (by decide) (by decide) (by decide) (by decide) (lawc_8 b1 rfl b2 rfl g1 g2 ?_))⟩
        subst hv3
        exact loop_next (by omega) K
      by_cases hc9 : op = 9
      · obtain ⟨res, C1, R1, g1, g2, g3⟩ := (E9 (((xs (v3 + 1).toNatClampNeg).toInt64 <<< ((32 : Int32).toInt64 &&& 63)) ||| ((xs (v3 + 2).toNatClampNeg).toInt64 &&& (4294967295 : Int64))) (xs (v3 + 3).toNatClampNeg)) C R hR
        obtain ⟨M1, K⟩ := ih (k + 1) C1 R1 (by omega) (by omega) g3
        refine ⟨M1, front (G_tableEq (off := 492) (tgt := 525) hc9 dL_law_33 (by decide) (by decide) (by decide) (by decide) (lawc_9 b1 rfl b2 rfl b3 rfl g1 g2 ?_))⟩
        subst hv3
        exact loop_next (by omega) K
      by_cases hc10 : op = 10
      · obtain ⟨res, C1, R1, g1, g2, g3⟩ := (E10 (xs (v3 + 1).toNatClampNeg)) C R hR
        obtain ⟨M1, K⟩ := ih (k + 1) C1 R1 (by omega) (by omega) g3
        refine ⟨M1, front (G_tableEq (off := 555) (tgt := 588) hc10 dL_law_33 (by decide) (by decide) (by decide) (by decide) (lawc_10 b1 rfl g1 g2 ?_))⟩
        subst hv3
        exact loop_next (by omega) K
      by_cases hc11 : op = 11
      · obtain ⟨res, C1, R1, g1, g2, g3⟩ := (E11 (xs (v3 + 1).toNatClampNeg) (xs (v3 + 2).toNatClampNeg) (xs (v3 + 3).toNatClampNeg) (xs (v3 + 4).toNatClampNeg)) C R hR
        obtain ⟨M1, K⟩ := ih (k + 1) C1 R1 (by omega) (by omega) g3
        refine ⟨M1, front (G_tableEq (off := 578) (tgt := 611) hc11 dL_law_33 (by decide) (by decide) (by decide) (by decide) (lawc_11 b1 rfl b2 rfl b3 rfl b4 rfl g1 g2 ?_))⟩
        subst hv3
        exact loop_next (by omega) K
      by_cases hc12 : op = 12
      · obtain ⟨res, C1, R1, g1, g2, g3⟩ := (E12 (xs (v3 + 1).toNatClampNeg)) C R hR
        obtain ⟨M1, K⟩ := ih (k + 1) C1 R1 (by omega) (by omega) g3
        refine ⟨M1, front (G_tableEq (off := 631) (tgt := 664) hc12 dL_law_33 (by decide) (by decide) (by decide) (by decide) (lawc_12 b1 rfl g1 g2 ?_))⟩
        subst hv3
        exact loop_next (by omega) K
      by_cases hc13 : op = 13
      · obtain ⟨res, C1, R1, g1, g2, g3⟩ := (E13 (xs (v3 + 1).toNatClampNeg)) C R hR
        obtain ⟨M1, K⟩ := ih (k + 1) C1 R1 (by omega) (by omega) g3
        refine ⟨M1, front (G_tableEq (off := 654) (tgt := 687) hc13 dL_law_33 (by decide) (by decide) (by decide) (by decide) (lawc_13 b1 rfl g1 g2 ?_))⟩
        subst hv3
        exact loop_next (by omega) K
      by_cases hc14 : op = 14
      · obtain ⟨res, C1, R1, g1, g2, g3⟩ := (E14 (xs (v3 + 1).toNatClampNeg) (xs (v3 + 2).toNatClampNeg) (xs (v3 + 3).toNatClampNeg)) C R hR
        obtain ⟨M1, K⟩ := ih (k + 1) C1 R1 (by omega) (by omega) g3
        refine ⟨M1, front (G_tableEq (off := 677) (tgt := 710) hc14 dL_law_33 (by decide) (by decide) (by decide) (by decide) (lawc_14 b1 rfl b2 rfl b3 rfl g1 g2 ?_))⟩
        subst hv3
        exact loop_next (by omega) K
      by_cases hc15 : op = 15
      · obtain ⟨res, C1, R1, g1, g2, g3⟩ := (E15 (xs (v3 + 1).toNatClampNeg)) C R hR
        obtain ⟨M1, K⟩ := ih (k + 1) C1 R1 (by omega) (by omega) g3
        refine ⟨M1, front (G_tableEq (off := 720) (tgt := 753) hc15 dL_law_33 (by decide) (by decide) (by decide) (by decide) (lawc_15 b1 rfl g1 g2 ?_))⟩
        subst hv3
        exact loop_next (by omega) K
      by_cases hc16 : op = 16
      · obtain ⟨res, C1, R1, g1, g2, g3⟩ := (E16 (xs (v3 + 1).toNatClampNeg) (xs (v3 + 2).toNatClampNeg)) C R hR
        obtain ⟨M1, K⟩ := ih (k + 1) C1 R1 (by omega) (by omega) g3
        refine ⟨M1, front (G_tableEq (off := 743) (tgt := 776) hc16 dL_law_33 (by decide) (by decide) (by decide) (by decide) (lawc_16 b1 rfl b2 rfl g1 g2 ?_))⟩
        subst hv3
        exact loop_next (by omega) K
      by_cases hc17 : op = 17
      · obtain ⟨res, C1, R1, g1, g2, g3⟩ := (E17 (xs (v3 + 1).toNatClampNeg) (xs (v3 + 2).toNatClampNeg) (xs (v3 + 3).toNatClampNeg)) C R hR
        obtain ⟨M1, K⟩ := ih (k + 1) C1 R1 (by omega) (by omega) g3
        refine ⟨M1, front (G_tableEq (off := 776) (tgt := 809) hc17 dL_law_33 (by decide) (by decide) (by decide) (by decide) (lawc_17 b1 rfl b2 rfl b3 rfl g1 g2 ?_))⟩
        subst hv3
        exact loop_next (by omega) K
      by_cases hc18 : op = 18
      · obtain ⟨res, C1, R1, g1, g2, g3⟩ := (E18 (xs (v3 + 1).toNatClampNeg) (xs (v3 + 2).toNatClampNeg)) C R hR
        obtain ⟨M1, K⟩ := ih (k + 1) C1 R1 (by omega) (by omega) g3
        refine ⟨M1, front (G_tableEq (off := 819) (tgt := 852) hc18 dL_law_33 (by decide) (by decide) (by decide) (by decide) (lawc_18 b1 rfl b2 rfl g1 g2 ?_))⟩
        subst hv3
        exact loop_next (by omega) K
      by_cases hc19 : op = 19
      · obtain ⟨res, C1, R1, g1, g2, g3⟩ := (E19 (xs (v3 + 1).toNatClampNeg) (xs (v3 + 2).toNatClampNeg)) C R hR
        obtain ⟨M1, K⟩ := ih (k + 1) C1 R1 (by omega) (by omega) g3
        refine ⟨M1, front (G_tableEq (off := 852) (tgt := 885) hc19 dL_law_33 (by decide) (by decide) (by decide) (by decide) (lawc_19 b1 rfl b2 rfl g1 g2 ?_))⟩
        subst hv3
        exact loop_next (by omega) K
      by_cases hc20 : op = 20
      · obtain ⟨res, C1, R1, g1, g2, g3⟩ := (E20 (xs (v3 + 1).toNatClampNeg) (xs (v3 + 2).toNatClampNeg) (xs (v3 + 3).toNatClampNeg)) C R hR
        obtain ⟨M1, K⟩ := ih (k + 1) C1 R1 (by omega) (by omega) g3
        refine ⟨M1, front (G_tableEq (off := 885) (tgt := 918) hc20 dL_law_33 (by decide) (by decide) (by decide) (by decide) (lawc_20 b1 rfl b2 rfl b3 rfl g1 g2 ?_))⟩
        subst hv3
        exact loop_next (by omega) K
      by_cases hc21 : op = 21
      · obtain ⟨res, C1, R1, g1, g2, g3⟩ := (E21 (xs (v3 + 1).toNatClampNeg)) C R hR
        obtain ⟨M1, K⟩ := ih (k + 1) C1 R1 (by omega) (by omega) g3
        refine ⟨M1, front (G_tableEq (off := 928) (tgt := 961) hc21 dL_law_33 (by decide) (by decide) (by decide) (by decide) (lawc_21 b1 rfl g1 g2 ?_))⟩
        subst hv3
        exact loop_next (by omega) K
      by_cases hc22 : op = 22
      · obtain ⟨res, C1, R1, g1, g2, g3⟩ := (E22 (xs (v3 + 1).toNatClampNeg) (xs (v3 + 2).toNatClampNeg)) C R hR
        obtain ⟨M1, K⟩ := ih (k + 1) C1 R1 (by omega) (by omega) g3
        refine ⟨M1, front (G_tableEq (off := 951) (tgt := 984) hc22 dL_law_33 (by decide) (by decide) (by decide) (by decide) (lawc_22 b1 rfl b2 rfl g1 g2 ?_))⟩
        subst hv3
        exact loop_next (by omega) K
      by_cases hc23 : op = 23
      · obtain ⟨res, C1, R1, g1, g2, g3⟩ := (E23 (xs (v3 + 1).toNatClampNeg)) C R hR
        obtain ⟨M1, K⟩ := ih (k + 1) C1 R1 (by omega) (by omega) g3
        refine ⟨M1, front (G_tableEq (off := 984) (tgt := 1017) hc23 dL_law_33 (by decide) (by decide) (by decide) (by decide) (lawc_23 b1 rfl g1 g2 ?_))⟩
        subst hv3
        exact loop_next (by omega) K
      by_cases hc24 : op = 24
      · obtain ⟨res, C1, R1, g1, g2, g3⟩ := (E24 (xs (v3 + 1).toNatClampNeg)) C R hR
        obtain ⟨M1, K⟩ := ih (k + 1) C1 R1 (by omega) (by omega) g3
        refine ⟨M1, front (G_tableEq (off := 1007) (tgt := 1040) hc24 dL_law_33 (by decide) (by decide) (by decide) (by decide) (lawc_24 b1 rfl g1 g2 ?_))⟩
        subst hv3
        exact loop_next (by omega) K
      by_cases hc25 : op = 25
      · obtain ⟨res, C1, R1, g1, g2, g3⟩ := (E25 (xs (v3 + 1).toNatClampNeg) (xs (v3 + 2).toNatClampNeg) (xs (v3 + 3).toNatClampNeg)) C R hR
        obtain ⟨M1, K⟩ := ih (k + 1) C1 R1 (by omega) (by omega) g3
        refine ⟨M1, front (G_tableEq (off := 1030) (tgt := 1063) hc25 dL_law_33 (by decide) (by decide) (by decide) (by decide) (lawc_25 b1 rfl b2 rfl b3 rfl g1 g2 ?_))⟩
        subst hv3
        exact loop_next (by omega) K
      by_cases hc26 : op = 26
      · obtain ⟨res, C1, R1, g1, g2, g3⟩ := (E26 (xs (v3 + 1).toNatClampNeg)) C R hR
        obtain ⟨M1, K⟩ := ih (k + 1) C1 R1 (by omega) (by omega) g3
        refine ⟨M1, front (G_tableEq (off := 1073) (tgt := 1106) hc26 dL_law_33 (by decide) (by decide) (by decide) (by decide) (lawc_26 b1 rfl g1 g2 ?_))⟩
        subst hv3
        exact loop_next (by omega) K
      by_cases hc27 : op = 27
      · obtain ⟨res, C1, R1, g1, g2, g3⟩ := (E27 (xs (v3 + 1).toNatClampNeg) (xs (v3 + 2).toNatClampNeg) (xs (v3 + 3).toNatClampNeg)) C R hR
        obtain ⟨M1, K⟩ := ih (k + 1) C1 R1 (by omega) (by omega) g3
        refine ⟨M1, front (G_tableEq (off := 1096) (tgt := 1129) hc27 dL_law_33 (by decide) (by decide) (by decide) (by decide) (lawc_27 b1 rfl b2 rfl b3 rfl g1 g2 ?_))⟩
        subst hv3
        exact loop_next (by omega) K
      by_cases hc28 : op = 28
      · obtain ⟨res, C1, R1, g1, g2, g3⟩ := (E28 (xs (v3 + 1).toNatClampNeg)) C R hR
        obtain ⟨M1, K⟩ := ih (k + 1) C1 R1 (by omega) (by omega) g3
        refine ⟨M1, front (G_tableEq (off := 1139) (tgt := 1172) hc28 dL_law_33 (by decide) (by decide) (by decide) (by decide) (lawc_28 b1 rfl g1 g2 ?_))⟩
        subst hv3
        exact loop_next (by omega) K
      by_cases hc29 : op = 29
      · obtain ⟨res, C1, R1, g1, g2, g3⟩ := (E29 (xs (v3 + 1).toNatClampNeg) (xs (v3 + 2).toNatClampNeg) (xs (v3 + 3).toNatClampNeg)) C R hR
        obtain ⟨M1, K⟩ := ih (k + 1) C1 R1 (by omega) (by omega) g3
        refine ⟨M1, front (G_tableEq (off := 1162) (tgt := 1195) hc29 dL_law_33 (by decide) (by decide) (by decide) (by decide) (lawc_29 b1 rfl b2 rfl b3 rfl g1 g2 ?_))⟩
        subst hv3
        exact loop_next (by omega) K
      by_cases hc30 : op = 30
      · obtain ⟨res, C1, R1, g1, g2, g3⟩ := (E30 (xs (v3 + 1).toNatClampNeg) (xs (v3 + 2).toNatClampNeg) (xs (v3 + 3).toNatClampNeg)) C R hR
        obtain ⟨M1, K⟩ := ih (k + 1) C1 R1 (by omega) (by omega) g3
        refine ⟨M1, front (G_tableEq (off := 1205) (tgt := 1238) hc30 dL_law_33 (by decide) (by decide) (by decide) (by decide) (lawc_30 b1 rfl b2 rfl b3 rfl g1 g2 ?_))⟩
        subst hv3
        exact loop_next (by omega) K
      by_cases hc31 : op = 31
      · obtain ⟨res, C1, R1, g1, g2, g3⟩ := (E31 (xs (v3 + 1).toNatClampNeg) (xs (v3 + 2).toNatClampNeg) (xs (v3 + 3).toNatClampNeg) (xs (v3 + 4).toNatClampNeg) (xs (v3 + 5).toNatClampNeg)) C R hR
        obtain ⟨M1, K⟩ := ih (k + 1) C1 R1 (by omega) (by omega) g3
        refine ⟨M1, front (G_tableEq (off := 1248) (tgt := 1281) hc31 dL_law_33 (by decide) (by decide) (by decide) (by decide) (lawc_31 b1 rfl b2 rfl b3 rfl b4 rfl b5 rfl g1 g2 ?_))⟩
        subst hv3
        exact loop_next (by omega) K
      by_cases hc32 : op = 32
      · obtain ⟨res, C1, R1, g1, g2, g3⟩ := (E32 (xs (v3 + 1).toNatClampNeg)) C R hR
        obtain ⟨M1, K⟩ := ih (k + 1) C1 R1 (by omega) (by omega) g3
        refine ⟨M1, front (G_tableEq (off := 1311) (tgt := 1344) hc32 dL_law_33 (by decide) (by decide) (by decide) (by decide) (lawc_32 b1 rfl g1 g2 ?_))⟩
        subst hv3
        exact loop_next (by omega) K
      by_cases hc33 : op = 33
      · obtain ⟨res, C1, R1, g1, g2, g3⟩ := (E33 (xs (v3 + 1).toNatClampNeg)) C R hR
        obtain ⟨M1, K⟩ := ih (k + 1) C1 R1 (by omega) (by omega) g3
        refine ⟨M1, front (G_tableEq (off := 1334) (tgt := 1367) hc33 dL_law_33 (by decide) (by decide) (by decide) (by decide) (lawc_33 b1 rfl g1 g2 ?_))⟩
        subst hv3
        exact loop_next (by omega) K
      by_cases hc34 : op = 34
      · obtain ⟨res, C1, R1, g1, g2, g3⟩ := E34 C R hR
        obtain ⟨M1, K⟩ := ih (k + 1) C1 R1 (by omega) (by omega) g3
        refine ⟨M1, front (G_tableEq (off := 1357) (tgt := 1390) hc34 dL_law_33 (by decide) (by decide) (by decide) (by decide) (lawc_34  g1 g2 ?_))⟩
        subst hv3
        exact loop_next (by omega) K
      by_cases hc35 : op = 35
      · obtain ⟨res, C1, R1, g1, g2, g3⟩ := E35 C R hR
        obtain ⟨M1, K⟩ := ih (k + 1) C1 R1 (by omega) (by omega) g3
        refine ⟨M1, front (G_tableEq (off := 1370) (tgt := 1403) hc35 dL_law_33 (by decide) (by decide) (by decide) (by decide) (lawc_35  g1 g2 ?_))⟩
        subst hv3
        exact loop_next (by omega) K
      by_cases hc36 : op = 36
      · obtain ⟨res, C1, R1, g1, g2, g3⟩ := (E36 (xs (v3 + 1).toNatClampNeg)) C R hR
        obtain ⟨M1, K⟩ := ih (k + 1) C1 R1 (by omega) (by omega) g3
        refine ⟨M1, front (G_tableEq (off := 1383) (tgt := 1416) hc36 dL_law_33 (by decide) (by decide) (by decide) (by decide) (lawc_36 b1 rfl g1 g2 ?_))⟩
        subst hv3
        exact loop_next (by omega) K
      by_cases hc37 : op = 37
      · obtain ⟨res, C1, R1, g1, g2, g3⟩ := E37 C R hR
        obtain ⟨M1, K⟩ := ih (k + 1) C1 R1 (by omega) (by omega) g3
        refine ⟨M1, front (G_tableEq (off := 1406) (tgt := 1439) hc37 dL_law_33 (by decide) (by decide) (by decide) (by decide) (lawc_37  g1 g2 ?_))⟩
        subst hv3
        exact loop_next (by omega) K
      by_cases hc38 : op = 38
      · obtain ⟨res, C1, R1, g1, g2, g3⟩ := (E38 (xs (v3 + 1).toNatClampNeg)) C R hR
        obtain ⟨M1, K⟩ := ih (k + 1) C1 R1 (by omega) (by omega) g3
        refine ⟨M1, front (G_tableEq (off := 1419) (tgt := 1452) hc38 dL_law_33 (by decide) (by decide) (by decide) (by decide) (lawc_38 b1 rfl g1 g2 ?_))⟩
        subst hv3
        exact loop_next (by omega) K
      by_cases hc39 : op = 39
      · obtain ⟨res, C1, R1, g1, g2, g3⟩ := (E39 (xs (v3 + 1).toNatClampNeg)) C R hR
        obtain ⟨M1, K⟩ := ih (k + 1) C1 R1 (by omega) (by omega) g3
        refine ⟨M1, front (G_tableEq (off := 1442) (tgt := 1475) hc39 dL_law_33 (by decide) (by decide) (by decide) (by decide) (lawc_39 b1 rfl g1 g2 ?_))⟩
        subst hv3
        exact loop_next (by omega) K
      obtain ⟨M1, K⟩ := ih (k + 1) C R (by omega) (by omega) hR
      have n0 := ne_lit (n := 0) (by decide) hc0
      have n1 := ne_lit (n := 1) (by decide) hc1
      have n2 := ne_lit (n := 2) (by decide) hc2
      have n3 := ne_lit (n := 3) (by decide) hc3
      have n4 := ne_lit (n := 4) (by decide) hc4
      have n5 := ne_lit (n := 5) (by decide) hc5
      have n6 := ne_lit (n := 6) (by decide) hc6
      have n7 := ne_lit (n := 7) (by decide) hc7
      have n8 := ne_lit (n := 8) (by decide) hc8
      have n9 := ne_lit (n := 9) (by decide) hc9
      have n10 := ne_lit (n := 10) (by decide) hc10
      have n11 := ne_lit (n := 11) (by decide) hc11
      have n12 := ne_lit (n := 12) (by decide) hc12
      have n13 := ne_lit (n := 13) (by decide) hc13
      have n14 := ne_lit (n := 14) (by decide) hc14
      have n15 := ne_lit (n := 15) (by decide) hc15
      have n16 := ne_lit (n := 16) (by decide) hc16
      have n17 := ne_lit (n := 17) (by decide) hc17
      have n18 := ne_lit (n := 18) (by decide) hc18
      have n19 := ne_lit (n := 19) (by decide) hc19
      have n20 := ne_lit (n := 20) (by decide) hc20
      have n21 := ne_lit (n := 21) (by decide) hc21
      have n22 := ne_lit (n := 22) (by decide) hc22
      have n23 := ne_lit (n := 23) (by decide) hc23
      have n24 := ne_lit (n := 24) (by decide) hc24
      have n25 := ne_lit (n := 25) (by decide) hc25
      have n26 := ne_lit (n := 26) (by decide) hc26
      have n27 := ne_lit (n := 27) (by decide) hc27
      have n28 := ne_lit (n := 28) (by decide) hc28
      have n29 := ne_lit (n := 29) (by decide) hc29
      have n30 := ne_lit (n := 30) (by decide) hc30
      have n31 := ne_lit (n := 31) (by decide) hc31
      have n32 := ne_lit (n := 32) (by decide) hc32
      have n33 := ne_lit (n := 33) (by decide) hc33
      have n34 := ne_lit (n := 34) (by decide) hc34
      have n35 := ne_lit (n := 35) (by decide) hc35
      have n36 := ne_lit (n := 36) (by decide) hc36
      have n37 := ne_lit (n := 37) (by decide) hc37
      have n38 := ne_lit (n := 38) (by decide) hc38
      have n39 := ne_lit (n := 39) (by decide) hc39
      refine ⟨M1, front (G_tableOut (tgt := 1498) dL_law_33 (by omega) (by decide) ?_)⟩
      subst hv3
      exact loop_next (by omega) K
    · refine ⟨(C, R), ?_⟩
      refine G_iload_n dL_law_18 rfl ?_
      refine G_aload_n dL_law_19 rfl ?_
      refine G_slen dL_law_20 ?_
      refine G_bipush (v := 6) dL_law_21 (by decide) ?_
      refine G_isub dL_law_23 ?_
      refine G_icmp_gt (tgt := 1504) dL_law_24 (by decide) (fun _ => loop_end) (fun hc => ?_)
      exfalso
      apply hc
      rw [i_lt, i_sub, i_of, i_of] <;> (try rw [i_of]) <;> (try rw [show (6 : Int32).toInt = 6 from rfl]) <;> omega
