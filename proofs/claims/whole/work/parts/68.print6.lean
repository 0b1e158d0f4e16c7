/-! printed lines: both sides -/
theorem k16 {k : Int32} (h : 1 ≤ k ∧ k ≤ 6) : (0 ≤ k - 1 ∧ k - 1 ≤ 5) ∧ (k - 1 < 2 ∨ k - 1 = 5 → k = 1 ∨ k = 2 ∨ k = 6) := by
  refine ⟨by grind, fun h9 => by grind⟩
theorem rd_own {t k y : Int32} (h : rd1 t k y) : (0 ≤ fKd t ∧ fKd t ≤ 5) ∧ (fKd t < 2 ∨ fKd t = 5 → own1 (fMy t) (fBC (fMy t - 1))) := by
  obtain ⟨h1, h2, h3⟩ := rd1_un h
  by_cases h0 : t = 0
  · rw [h0]
    exact ⟨by decide, fun h9 => absurd h9 (by decide)⟩
  · rw [(h3 h0).1, (h3 h0).2]
    rcases h with h | h
    · exact absurd h.1 h0
    · obtain ⟨k1, k6, _, _, _, hv⟩ := h
      refine ⟨(k16 ⟨k1, k6⟩).1, fun h9 => ?_⟩
      obtain ⟨v, v0, v1, rfl⟩ := hv ((k16 ⟨k1, k6⟩).2 h9)
      have g := own1_of ⟨v0, v1⟩
      rw [g.2.1]
      exact g
theorem ld_own {n n' s l p : Int32} {rk rk' t kd y : Nat → Int32} (hH : RHa n n' rk rk') (hT : RTo t kd y) (h : inP s l p) : (0 ≤ fKd (tLd t rk n s l p) ∧ fKd (tLd t rk n s l p) ≤ 5) ∧ (fKd (tLd t rk n s l p) < 2 ∨ fKd (tLd t rk n s l p) = 5 → own1 (fMy (tLd t rk n s l p)) (fBC (fMy (tLd t rk n s l p) - 1))) := by
  rcases ld_some (t := t) (s := s) (l := l) (p := p) (rk := rk) hH.2.1 hH.2.2.1 (fun x a b => (hH.2.2.2 x a b).2.1) with h2 | h2
  · have e : tLd t rk n s l p = 0 := if_pos h2.1
    rw [e]
    exact ⟨by decide, fun h9 => absurd h9 (by decide)⟩
  · have hb : 0 ≤ fLd t rk n s l p ∧ fLd t rk n s l p < 6 := ⟨h2.1, Int32.lt_of_lt_of_le h2.2.1 hH.2.2.1⟩
    have e : tLd t rk n s l p = tAt t (fLd t rk n s l p) s l p := if_neg (fun h9 => by rw [h9] at hb; exact absurd hb.1 (by decide))
    rw [e, ix_at hb h]
    exact rd_own (hT _ (ix_lt hb h))
theorem wr_eq {k o cv : Int32} {S : Int32 × (Nat → Int32)} (hk : 0 ≤ k ∧ k ≤ 5) (ho : 0 ≤ o) (hc : cv = -1 ∨ 0 ≤ cv) : wr k o cv S = wrR k (if k < 2 ∨ k = 5 then o else cv) S := by
  unfold wr wrR chR
  by_cases h1 : k = 0 ∨ k = 1
  · rw [if_pos h1, if_pos (show k < 2 ∨ k = 5 by grind), if_neg (show ¬ (1 < k ∧ 0 ≤ o) by grind), if_pos ho]
  · rw [if_neg h1]
    by_cases h2 : k = 5
    · rw [if_pos h2, if_pos (show k < 2 ∨ k = 5 from Or.inr h2), if_pos (show 1 < k ∧ 0 ≤ o from ⟨by grind, ho⟩), if_pos h2, if_pos h2, if_pos ho]
    · rw [if_neg h2, if_neg (show ¬ (k < 2 ∨ k = 5) by grind)]
      by_cases h3 : cv = -1
      · rw [if_pos h3, if_neg (show ¬ (1 < k ∧ 0 ≤ cv) by grind), if_neg (show ¬ 0 ≤ cv by grind)]
        by_cases h4 : k = 2
        · rw [if_pos h4, if_pos h4]
        · rw [if_neg h4, if_neg h4]
          by_cases h5 : k = 4
          · rw [if_pos h5, if_neg (show ¬ k = 3 by grind)]
          · rw [if_neg h5, if_pos (show k = 3 by grind)]
      · have h4 : 0 ≤ cv := hc.resolve_left h3
        rw [if_neg h3, if_pos (show 1 < k ∧ 0 ≤ cv from ⟨by grind, h4⟩), if_neg h2, if_neg h2, if_pos h4]
