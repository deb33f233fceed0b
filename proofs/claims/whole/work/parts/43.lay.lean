theorem RelS_lay {C R : Mem} {s c : Nat} {v : Int32} (hs : s < 4) (hc : c ≤ 40) (hv : v = 0 ∨ v = 8 ∨ v = 16 ∨ v = 32) (h : RelS C R) : RelS (zr (up3 (up3 C 5 s 1 v) 5 s 2 (Int32.ofNat c)) 15 s 0 40) (zr (up3 (up3 R 28 0 s v) 29 0 s (Int32.ofNat c)) 30 0 (40 * s + 0) (40 * s + 40)) := by
  have zf : ∀ {M : Mem} {f s a b f' i' j : Nat}, ¬ f' = f → zr M f s a b f' i' j = M f' i' j := fun hn => if_neg (fun e => hn e.1)
  intro s' hs'
  obtain ⟨⟨a, b⟩, ⟨c', c1, c2, c3⟩, d⟩ := h s' hs'
  have e51 : zr (up3 (up3 C 5 s 1 v) 5 s 2 (Int32.ofNat c)) 15 s 0 40 5 s' 1 = if s' = s then v else C 5 s' 1 := by
    rw [zf (by decide), up3_k (by decide)]
    by_cases e : s' = s
    · rw [if_pos e, e, up3_eq]
    · rw [if_neg e, up3_i e]
  have e52 : zr (up3 (up3 C 5 s 1 v) 5 s 2 (Int32.ofNat c)) 15 s 0 40 5 s' 2 = if s' = s then Int32.ofNat c else C 5 s' 2 := by
    rw [zf (by decide)]
    by_cases e : s' = s
    · rw [if_pos e, e, up3_eq]
    · rw [if_neg e, up3_i e, up3_i e]
  have e28 : zr (up3 (up3 R 28 0 s v) 29 0 s (Int32.ofNat c)) 30 0 (40 * s + 0) (40 * s + 40) 28 0 s' = if s' = s then v else R 28 0 s' := by
    rw [zf (by decide), up3_f (by decide), up3_row]
  have e29 : zr (up3 (up3 R 28 0 s v) 29 0 s (Int32.ofNat c)) 30 0 (40 * s + 0) (40 * s + 40) 29 0 s' = if s' = s then Int32.ofNat c else R 29 0 s' := by
    rw [zf (by decide), up3_row]
    by_cases e : s' = s
    · rw [if_pos e, if_pos e]
    · rw [if_neg e, if_neg e, up3_f (by decide)]
  rw [e51, e28]
  refine ⟨?_, ?_, fun k hk => ?_⟩
  · by_cases e : s' = s
    · rw [if_pos e, if_pos e]; exact ⟨rfl, hv⟩
    · rw [if_neg e, if_neg e]; exact ⟨a, b⟩
  · rw [e52, e29]
    by_cases e : s' = s
    · rw [if_pos e, if_pos e]; exact ⟨c, hc, rfl, rfl⟩
    · rw [if_neg e, if_neg e]; exact ⟨c', c1, c2, c3⟩
  · unfold zr
    by_cases e : s' = s
    · subst e
      rw [if_pos ⟨rfl, rfl, by omega, hk⟩, if_pos ⟨rfl, rfl, by omega, by omega⟩]
    · rw [if_neg (fun x => e x.2.1), if_neg (by omega), up3_f (by decide), up3_f (by decide), up3_f (by decide), up3_f (by decide)]
      exact d k hk
