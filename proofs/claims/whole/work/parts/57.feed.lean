theorem lsr_bv (w : Int64) : ∀ i, i < 8 → (jlushr w (8 * Int32.ofNat i)).toBitVec = w.toBitVec >>> (8 * i) := by
  intro i hi
  rcases (show i = 0 ∨ i = 1 ∨ i = 2 ∨ i = 3 ∨ i = 4 ∨ i = 5 ∨ i = 6 ∨ i = 7 by omega) with rfl | rfl | rfl | rfl | rfl | rfl | rfl | rfl <;> rfl
theorem asr_bv (w : Int64) : ∀ i, i < 8 → (w >>> ((8 * Int32.ofNat i).toInt64 &&& 63)).toBitVec = w.toBitVec.sshiftRight (8 * i) := by
  intro i hi
  rcases (show i = 0 ∨ i = 1 ∨ i = 2 ∨ i = 3 ∨ i = 4 ∨ i = 5 ∨ i = 6 ∨ i = 7 by omega) with rfl | rfl | rfl | rfl | rfl | rfl | rfl | rfl <;> rfl
theorem b255 : ∀ j, j < 8 → (255#64).getLsbD j = true := by decide
theorem byte_eq (w : Int64) {i : Nat} (hi : i < 8) : nbB (nbB ((jlushr w (8 * Int32.ofNat i)).toInt32)) = nbB (((w >>> ((8 * Int32.ofNat i).toInt64 &&& 63)) &&& (255 : Int64)).toInt32) := by
  unfold nbB
  rw [Int8.toInt8_toInt32, Int64.toInt8_toInt32, Int64.toInt8_toInt32]
  congr 1
  refine Int8.toBitVec_inj.mp ?_
  show (jlushr w (8 * Int32.ofNat i)).toBitVec.signExtend 8 = ((w >>> ((8 * Int32.ofNat i).toInt64 &&& 63)).toBitVec &&& 255#64).signExtend 8
  rw [lsr_bv w i hi, asr_bv w i hi, BitVec.signExtend_eq_setWidth_of_le _ (by omega), BitVec.signExtend_eq_setWidth_of_le _ (by omega)]
  refine BitVec.eq_of_getLsbD_eq fun j hj => ?_
  rw [BitVec.getLsbD_setWidth, BitVec.getLsbD_setWidth, BitVec.getLsbD_and, b255 j hj, Bool.and_true, BitVec.getLsbD_ushiftRight, BitVec.getLsbD_sshiftRight, if_pos (show 8 * i + j < 64 by omega), decide_eq_false (show ¬ 64 ≤ j by omega)]
  rfl
theorem byte_in (x : Int64) : inR ((x &&& (255 : Int64)).toInt32) 0 255 := by
  have e : ((x &&& (255 : Int64)).toInt32).toInt = ((x.toBitVec &&& 255#64).toNat : Int) := by
    show BitVec.toInt ((x.toBitVec &&& 255#64).signExtend 32) = _
    have hl : (x.toBitVec &&& 255#64).toNat ≤ 255 := by
      rw [BitVec.toNat_and]
      exact Nat.and_le_right
    rw [BitVec.signExtend_eq_setWidth_of_le _ (by omega), BitVec.toInt_eq_toNat_of_lt, BitVec.toNat_setWidth, Nat.mod_eq_of_lt (by omega)]
    rw [BitVec.toNat_setWidth, Nat.mod_eq_of_lt (by omega)]
    omega
  have hl : (x.toBitVec &&& 255#64).toNat ≤ 255 := by
    rw [BitVec.toNat_and]
    exact Nat.and_le_right
  exact ⟨by rw [e]; omega, by rw [e]; omega⟩
theorem feed_L {j : Int64} {t n : Nat} (hn : n ≤ 8) (ht : t + n ≤ 50) : ∀ (m i fu fu' : Nat) (C R : Mem), i + m = n → m < fu → m < fu' → C 0 0 2 = Int32.ofNat t → R 20 0 4 = Int32.ofNat (t + i) → (∀ k, k < t + i → nbB (C 8 0 k) = nbB (R 20 0 (218 + k)) ∧ inR (R 20 0 (218 + k)) 0 255) → ∃ C' R', X7_feed_L40 fu j (Int32.ofNat n) (Int32.ofNat i) C = some C' ∧ X8_feed_L40 fu' j (Int32.ofNat n) (Int32.ofNat i) R = some R' ∧ R' 20 0 4 = Int32.ofNat (t + n) ∧ (∀ k, k < t + n → nbB (C' 8 0 k) = nbB (R' 20 0 (218 + k)) ∧ inR (R' 20 0 (218 + k)) 0 255) ∧ Fr (fun f i => f = 8 ∧ i = 0) C C' ∧ (∀ f i k, ¬ f = 20 → R' f i k = R f i k) ∧ ∀ k, ¬ k = 4 → k < 218 → R' 20 0 k = R 20 0 k := by
  intro m
  induction m with
  | zero =>
    intro i fu fu' C R hi hf hf' e0 e4 hb
    obtain ⟨fu, rfl⟩ : ∃ g, fu = g + 1 := ⟨fu - 1, by omega⟩
    obtain ⟨fu', rfl⟩ : ∃ g, fu' = g + 1 := ⟨fu' - 1, by omega⟩
    obtain rfl : i = n := by omega
    exact ⟨C, R, by rw [X7_feed_L40, if_neg (by rw [i_ltn (by omega) (by omega)]; omega)], by rw [X8_feed_L40, if_neg (by rw [i_ltn (by omega) (by omega)]; omega)], e4, hb, Fr.rf, fun _ _ _ _ => rfl, fun _ _ _ => rfl⟩
  | succ m ih =>
    intro i fu fu' C R hi hf hf' e0 e4 hb
    obtain ⟨fu, rfl⟩ : ∃ g, fu = g + 1 := ⟨fu - 1, by omega⟩
    obtain ⟨fu', rfl⟩ : ∃ g, fu' = g + 1 := ⟨fu' - 1, by omega⟩
    have lt : Int32.ofNat i < Int32.ofNat n := by rw [i_ltn (by omega) (by omega)]; omega
    obtain ⟨x, hx⟩ : ∃ x, x = nbB ((jlushr j (8 * Int32.ofNat i)).toInt32) := ⟨_, rfl⟩
    obtain ⟨y, hy⟩ : ∃ y, y = ((j >>> ((8 * Int32.ofNat i).toInt64 &&& 63)) &&& (255 : Int64)).toInt32 := ⟨_, rfl⟩
    have hxy : nbB x = nbB y := by rw [hx, hy]; exact byte_eq j (by omega)
    have hyr : inR y 0 255 := by rw [hy]; exact byte_in _
    have s7 : X7_feed_L40 (fu + 1) j (Int32.ofNat n) (Int32.ofNat i) C = X7_feed_L40 fu j (Int32.ofNat n) (Int32.ofNat (i + 1)) (up3 C 8 0 (t + i) x) := by
      rw [X7_feed_L40, if_pos lt, e0, i_ofadd, if_pos (ib_of (by omega) (by omega)), i_ofix (by omega), i_succ, ← hx]
    have s8 : X8_feed_L40 (fu' + 1) j (Int32.ofNat n) (Int32.ofNat i) R = X8_feed_L40 fu' j (Int32.ofNat n) (Int32.ofNat (i + 1)) (up3 (up3 R 20 0 (218 + (t + i)) y) 20 0 4 (Int32.ofNat (t + i + 1))) := by
      rw [X8_feed_L40, if_pos lt, e4, show (218 : Int32) = Int32.ofNat 218 from rfl, i_ofadd, if_pos (ib_of (by omega) (by omega)), i_ofix (by omega), ← hy, up3_k (k := 218 + (t + i)) (by omega), e4, i_succ, i_succ]
    rw [s7, s8]
    obtain ⟨C', R', g1, g2, g3, g4, g5, g6, g7⟩ := ih (i + 1) fu fu' (up3 C 8 0 (t + i) x) (up3 (up3 R 20 0 (218 + (t + i)) y) 20 0 4 (Int32.ofNat (t + i + 1))) (by omega) (by omega) (by omega) (by rw [up3_f (by decide)]; exact e0) (by rw [up3_eq]; rfl) (fun k hk => by
      rw [up3_k (k := 4) (by omega)]
      by_cases hkt : k = t + i
      · subst hkt
        rw [up3_eq, up3_eq]
        exact ⟨hxy, hyr⟩
      · rw [up3_k hkt, up3_k (by omega)]
        exact hb k (by omega))
    exact ⟨C', R', g1, g2, g3, g4, (Fr.up ⟨rfl, rfl⟩).tr g5, fun f i k a => (g6 f i k a).trans ((up3_f a).trans (up3_f a)), fun k a b => (g7 k a b).trans ((up3_k a).trans (up3_k (by omega)))⟩
theorem eq_feed (j : Int64) (a3 : Int32) : EqP Rel (X7_feed j a3) (X8_feed j a3) := by
  intro C R h
  unfold X7_feed X8_feed
  rw [rng7, rng8 (a := 1) (b := 8) rfl rfl]
  obtain ⟨k1, ⟨t, t1, t2, t3, t4⟩, w, w1, w2, w3, w4⟩ := id h.2.1
  by_cases c1 : 1 ≤ a3.toInt ∧ a3.toInt ≤ 8
  · rw [if_pos (show (1 : Int32).toInt ≤ a3.toInt ∧ a3.toInt ≤ (8 : Int32).toInt from c1), if_pos c1, t2, t3]
    by_cases c2 : 50 < Int32.ofNat t + a3
    · rw [if_pos c2, if_pos c2]
      exact bad2 4 (by omega) (by omega) h bind_some2 bind_some2
    · rw [if_neg c2, if_neg c2]
      obtain ⟨n, rfl, N1, N2⟩ := i_get c1 (by omega)
      rw [i_ofadd, show (50 : Int32) = Int32.ofNat 50 from rfl, i_ltn (by omega) (by omega)] at c2
      obtain ⟨C', R', g1, g2, g3, g4, g5, g6, g7⟩ := feed_L (j := j) (t := t) (n := n) (by omega) (by omega) n 0 400 400 C R (by omega) (by omega) (by omega) t2 t3 t4
      have e0 : C' 0 0 2 = Int32.ofNat t := by rw [g5 0 0 2 (by omega)]; exact t2
      refine ⟨Int32.ofNat (t + n), up3 C' 0 0 2 (Int32.ofNat (t + n)), R', ?_, ?_, ?_⟩
      · rw [show X7_feed_L40 400 j (Int32.ofNat n) 0 C = _ from g1, bs, e0, i_ofadd]
      · rw [show X8_feed_L40 400 j (Int32.ofNat n) 0 R = _ from g2, bs, g3]
      · refine Rel_dskD ((g5.mono (fun f i hh => by unfold DSK; omega)).tr (Fr.up ⟨Or.inl rfl, rfl⟩)) g6 (fun k hk => g7 k (by unfold supD at hk; omega) (by unfold supD at hk; omega)) ⟨?_, ⟨t + n, by omega, up3_eq, g3, fun k hk => ?_⟩, w, w1, ?_, ?_, fun k hk => ?_⟩ h
        · rw [up3_k (by decide), g5 0 0 4 (by omega), g7 3 (by omega) (by omega)]; exact k1
        · rw [up3_f (by decide)]; exact g4 k hk
        · rw [up3_k (by decide), g5 0 0 3 (by omega)]; exact w2
        · rw [g7 5 (by omega) (by omega)]; exact w3
        · rw [up3_f (by decide), g5 9 0 k (by omega), g7 (98 + k) (by omega) (by omega)]; exact w4 k hk
  · rw [if_neg (show ¬ ((1 : Int32).toInt ≤ a3.toInt ∧ a3.toInt ≤ (8 : Int32).toInt) from c1), if_neg c1]
    exact bad2 1 (by omega) (by omega) h bind_some2 bind_some2
