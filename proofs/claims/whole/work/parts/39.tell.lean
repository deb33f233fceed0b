theorem Rel_dskD {C C' R R' : Mem} (hC : Fr DSK C C') (hR : ∀ f i k, ¬ f = 20 → R' f i k = R f i k) (hD : ∀ k, supD k → R' 20 0 k = R 20 0 k) (hK : RelK 0 C' (R' 20 0)) (h : Rel C R) : Rel C' R' :=
  Rel_rest (hC.mono (fun _ _ => Or.inr)) hR (RelD_cg (fun k _ _ => hC 1 0 k (by unfold DSK; omega)) (fun p _ k => hC 3 _ k (by unfold DSK; omega)) (fun k _ => hC 10 0 k (by unfold DSK; omega)) (fun k _ => hC 11 0 k (by unfold DSK; omega)) (fun u _ => hC 2 _ _ (by unfold DSK; omega)) (fun u _ k _ => hC 13 _ _ (by unfold DSK; omega)) hD h.1) hK h
theorem i_succ (n : Nat) : Int32.ofNat n + 1 = Int32.ofNat (n + 1) := by
  rw [show (1 : Int32) = Int32.ofNat 1 from rfl, i_ofadd]
theorem eq_tell (a1 : Int32) : EqP Rel (X7_tell a1) (X8_tell a1) := by
  intro C R h
  obtain ⟨k1, ⟨t, t1, t2, t3, t4⟩, w, w1, w2, w3, w4⟩ := id h.2.1
  by_cases hw : w = 20
  · subst hw
    refine bad 4 (by omega) (by omega) h ?_ ?_
    · unfold X7_tell
      rw [w2, if_neg (by decide)]
      exact bind_some2
    · unfold X8_tell
      rw [w3, if_pos (by decide)]
      exact bind_some2
  · have e7 : X7_tell a1 C = some (Int32.ofNat (w + 1), up3 (up3 C 9 0 w a1) 0 0 3 (Int32.ofNat (w + 1))) := by
      unfold X7_tell
      rw [w2, if_pos (by rw [i_lt, i_of (by omega), show (20 : Int32).toInt = 20 from rfl]; omega), if_pos (ib_of (by omega) (by omega)), i_ofix (by omega), i_succ]
    have e8 : X8_tell a1 R = some (Int32.ofNat (w + 1), up3 (up3 R 20 0 (98 + w) a1) 20 0 5 (Int32.ofNat (w + 1))) := by
      unfold X8_tell
      rw [w3, if_neg (by rw [i_eq, i_of (by omega), show (20 : Int32).toInt = 20 from rfl]; omega), show (98 : Int32) = Int32.ofNat 98 from rfl, i_ofadd, if_pos (ib_of (by omega) (by omega)), i_ofix (by omega), up3_k (by omega), w3, i_succ]
    refine ⟨_, _, _, e7, e8, ?_⟩
    refine Rel_dskD ((Fr.up ⟨Or.inr (Or.inr rfl), rfl⟩).tr (Fr.up ⟨Or.inl rfl, rfl⟩)) (fun f i k hf => by rw [up3_f hf, up3_f hf]) (fun k hk => ?_) ?_ h
    · unfold supD at hk
      rw [up3_k (by omega), up3_k (by omega)]
    · rw [up_row, up_row]
      refine ⟨?_, ⟨t, t1, ?_, ?_, fun k hk => ?_⟩, w + 1, by omega, up3_eq, upD_eq, fun k hk => ?_⟩
      · rw [up3_k (by decide), up3_f (by decide), upD_ne (by omega), upD_ne (by omega)]; exact k1
      · rw [up3_k (by decide), up3_f (by decide)]; exact t2
      · rw [upD_ne (by omega), upD_ne (by omega)]; exact t3
      · rw [up3_f (by decide), up3_f (by decide), upD_ne (by omega), upD_ne (by omega)]; exact t4 k hk
      · rw [up3_f (by decide), upD_ne (by omega)]
        by_cases hkw : k = w
        · subst hkw; rw [up3_eq, upD_eq]
        · rw [up3_k hkw, upD_ne (by omega)]; exact w4 k (by omega)
