/-! formulas: the reference's pairs, all of them -/
theorem l_X12_joinsN {d z : Nat} {N : Nat → Nat} {I : Nat → Nat → Int32} {L : Nat → Nat → Int64} {R : Nat → Nat → Option Nat} {Q : qP} {a x y : Nat} {A B : List Nat} (h : qJ m_X12_joins (qWP (d + 6)) Q 24 [(5, .int (nI (y + 1))), (4, .int (nI x)), (3, .int (nI (a + A.length + B.length))), (2, .int (nI (a + A.length))), (1, .int (nI a)), (0, .ref 65)] [] 0 0 (z, N, I, L, R)) :  qJ m_X12_joins (qWP (d + 6)) Q 212 [(5, .int (nI y)), (4, .int (nI x)), (3, .int (nI (a + A.length + B.length))), (2, .int (nI (a + A.length))), (1, .int (nI a)), (0, .ref 65)] [] 0 0 (z, N, I, L, R) := by
  skip
  refine qJ_run (qWP_mono _) [24, 212] 400 ?_
  change qJ m_X12_joins (qWP _) Q 24 [(5, .int ((nI y) + 1)), (4, .int (nI x)), (3, .int (nI (a + A.length + B.length))), (2, .int (nI (a + A.length))), (1, .int (nI a)), (0, .ref 65)] [] _ _ (z, N, I, L, R)
  rw [nI_1]
  exact h
theorem l_X12_joinsS8 {d z : Nat} {N : Nat → Nat} {I : Nat → Nat → Int32} {L : Nat → Nat → Int64} {R : Nat → Nat → Option Nat} {Q : qP} {a : Nat} {A B : List Nat} {W : Option (List Nat)} (hb : a + A.length + B.length + 202 < 4000) (hF : ∀ (x : Int32) (C : List Nat) (I2 : Nat → Nat → Int32), frJ I I2 (a + A.length + B.length) → I2 65 15 = nI ((a + A.length + B.length) + C.length) → C.length ≤ 200 → segR I2 (a + A.length + B.length) C → ((I2 65 21 = 1 ∧ W = none) ∨ (I2 65 21 = 0 ∧ W = some C)) → qJ m_X12_joins (qWP (d + 6)) Q 224 [(4, .int x), (3, .int (nI (a + A.length + B.length))), (2, .int (nI (a + A.length))), (1, .int (nI a)), (0, .ref 65)] [] 0 0 (z, N, I2, L, R)) : ∀ (x : Int32) (C : List Nat) (I2 : Nat → Nat → Int32), frJ I I2 (a + A.length + B.length) → I2 65 15 = nI ((a + A.length + B.length) + C.length) → C.length ≤ 200 → segR I2 (a + A.length + B.length) C → I2 65 21 = 1 → W = none → qJ m_X12_joins (qWP (d + 6)) Q 8 [(4, .int x), (3, .int (nI (a + A.length + B.length))), (2, .int (nI (a + A.length))), (1, .int (nI a)), (0, .ref 65)] [] 0 0 (z, N, I2, L, R) := by
  skip
  intro x C I2 hf h15 hC hs hsp hW
  refine qJ_run (qWP_mono _) [8, 224] 400 ?_
  refine ⟨fun (c1 : (nI (a + A.length)) ≤ x) => ?_, fun (c1 : ¬ (nI (a + A.length)) ≤ x) => ?_⟩
  · change qJ m_X12_joins (qWP _) Q 224 [(4, .int x), (3, .int (nI (a + A.length + B.length))), (2, .int (nI (a + A.length))), (1, .int (nI a)), (0, .ref 65)] [] _ _ (z, N, I2, L, R)
    exact hF _ C I2 hf h15 hC hs (Or.inl ⟨hsp, hW⟩)
  · refine ⟨fun _ => ?_, fun hx => absurd hx (show ¬ (I2 65 21) = 0 from by rw [hsp]; decide)⟩
    change qJ m_X12_joins (qWP _) Q 224 [(4, .int x), (3, .int (nI (a + A.length + B.length))), (2, .int (nI (a + A.length))), (1, .int (nI a)), (0, .ref 65)] [] _ _ (z, N, I2, L, R)
    exact hF _ C I2 hf h15 hC hs (Or.inl ⟨hsp, hW⟩)
theorem l_X12_joinsS24 {d z : Nat} {N : Nat → Nat} {I : Nat → Nat → Int32} {L : Nat → Nat → Int64} {R : Nat → Nat → Option Nat} {Q : qP} {a : Nat} {A B : List Nat} {W : Option (List Nat)} (hb : a + A.length + B.length + 202 < 4000) (hF : ∀ (x : Int32) (C : List Nat) (I2 : Nat → Nat → Int32), frJ I I2 (a + A.length + B.length) → I2 65 15 = nI ((a + A.length + B.length) + C.length) → C.length ≤ 200 → segR I2 (a + A.length + B.length) C → ((I2 65 21 = 1 ∧ W = none) ∨ (I2 65 21 = 0 ∧ W = some C)) → qJ m_X12_joins (qWP (d + 6)) Q 224 [(4, .int x), (3, .int (nI (a + A.length + B.length))), (2, .int (nI (a + A.length))), (1, .int (nI a)), (0, .ref 65)] [] 0 0 (z, N, I2, L, R)) : ∀ (y x : Int32) (C : List Nat) (I2 : Nat → Nat → Int32), frJ I I2 (a + A.length + B.length) → I2 65 15 = nI ((a + A.length + B.length) + C.length) → C.length ≤ 200 → segR I2 (a + A.length + B.length) C → I2 65 21 = 1 → W = none → qJ m_X12_joins (qWP (d + 6)) Q 24 [(5, .int y), (4, .int x), (3, .int (nI (a + A.length + B.length))), (2, .int (nI (a + A.length))), (1, .int (nI a)), (0, .ref 65)] [] 0 0 (z, N, I2, L, R) := by
  skip
  intro y x C I2 hf h15 hC hs hsp hW
  refine qJ_run (qWP_mono _) [8, 24] 400 ?_
  refine ⟨fun (c1 : (nI (a + A.length + B.length)) ≤ y) => ?_, fun (c1 : ¬ (nI (a + A.length + B.length)) ≤ y) => ?_⟩
  · refine qJ_nm (qWP_mono _) [(5, _)] [(4, .int (x + 1)), (3, .int (nI (a + A.length + B.length))), (2, .int (nI (a + A.length))), (1, .int (nI a)), (0, .ref 65)] rfl rfl rfl ?_
    change qJ m_X12_joins (qWP _) Q 8 [(4, .int (x + 1)), (3, .int (nI (a + A.length + B.length))), (2, .int (nI (a + A.length))), (1, .int (nI a)), (0, .ref 65)] [] _ _ (z, N, I2, L, R)
    exact l_X12_joinsS8 (d := d) hb hF _ C I2 hf h15 hC hs hsp hW
  · refine ⟨fun _ => ?_, fun hx => absurd hx (show ¬ (I2 65 21) = 0 from by rw [hsp]; decide)⟩
    refine qJ_nm (qWP_mono _) [(5, _)] [(4, .int (x + 1)), (3, .int (nI (a + A.length + B.length))), (2, .int (nI (a + A.length))), (1, .int (nI a)), (0, .ref 65)] rfl rfl rfl ?_
    change qJ m_X12_joins (qWP _) Q 8 [(4, .int (x + 1)), (3, .int (nI (a + A.length + B.length))), (2, .int (nI (a + A.length))), (1, .int (nI a)), (0, .ref 65)] [] _ _ (z, N, I2, L, R)
    exact l_X12_joinsS8 (d := d) hb hF _ C I2 hf h15 hC hs hsp hW
theorem l_X12_joins24 {d z : Nat} {N : Nat → Nat} {I : Nat → Nat → Int32} {L : Nat → Nat → Int64} {R : Nat → Nat → Option Nat} {Q : qP} {a : Nat} {A B : List Nat} {W : Option (List Nat)} (hb : a + A.length + B.length + 202 < 4000) (hA : segR I a A) (hB : segR I (a + A.length) B) (hF : ∀ (x : Int32) (C : List Nat) (I2 : Nat → Nat → Int32), frJ I I2 (a + A.length + B.length) → I2 65 15 = nI ((a + A.length + B.length) + C.length) → C.length ≤ 200 → segR I2 (a + A.length + B.length) C → ((I2 65 21 = 1 ∧ W = none) ∨ (I2 65 21 = 0 ∧ W = some C)) → qJ m_X12_joins (qWP (d + 6)) Q 224 [(4, .int x), (3, .int (nI (a + A.length + B.length))), (2, .int (nI (a + A.length))), (1, .int (nI a)), (0, .ref 65)] [] 0 0 (z, N, I2, L, R)) {i : Nat} (hi : i < A.length) (hnx : ∀ (C : List Nat) (I1 : Nat → Nat → Int32), frJ I I1 (a + A.length + B.length) → I1 65 15 = nI ((a + A.length + B.length) + C.length) → C.length ≤ 200 → segR I1 (a + A.length + B.length) C → I1 65 21 = 0 → addI apF 200 (prI (A.drop (i + 1)) B) C = W → qJ m_X12_joins (qWP (d + 6)) Q 8 [(4, .int (nI (a + i + 1))), (3, .int (nI (a + A.length + B.length))), (2, .int (nI (a + A.length))), (1, .int (nI a)), (0, .ref 65)] [] 0 0 (z, N, I1, L, R)) : ∀ (q j : Nat) (C : List Nat) (I1 : Nat → Nat → Int32), j + q = B.length → frJ I I1 (a + A.length + B.length) → I1 65 15 = nI ((a + A.length + B.length) + C.length) → C.length ≤ 200 → segR I1 (a + A.length + B.length) C → I1 65 21 = 0 → addI apF 200 ((B.drop j).map (cat (A.getD i 0)) ++ prI (A.drop (i + 1)) B) C = W → qJ m_X12_joins (qWP (d + 6)) Q 24 [(5, .int (nI ((a + A.length) + j))), (4, .int (nI (a + i))), (3, .int (nI (a + A.length + B.length))), (2, .int (nI (a + A.length))), (1, .int (nI a)), (0, .ref 65)] [] 0 0 (z, N, I1, L, R) := by
  refine nat_ind fun q ih => ?_
  intro j C I1 hjq hf h15 hC hs hsp hW
  refine qJ_run (qWP_mono _) [8, 24, 99] 400 ?_
  refine ⟨fun (c1 : (nI (a + A.length + B.length)) ≤ (nI ((a + A.length) + j))) => ?_, fun (c1 : ¬ (nI (a + A.length + B.length)) ≤ (nI ((a + A.length) + j))) => ?_⟩
  · have hj : j = B.length := by
      have c9 := c1
      rw [nI_leI (by omega) (by omega)] at c9
      omega
    refine qJ_nm (qWP_mono _) [(5, _)] [(4, .int ((nI (a + i)) + 1)), (3, .int (nI (a + A.length + B.length))), (2, .int (nI (a + A.length))), (1, .int (nI a)), (0, .ref 65)] rfl rfl rfl ?_
    change qJ m_X12_joins (qWP _) Q 8 [(4, .int ((nI (a + i)) + 1)), (3, .int (nI (a + A.length + B.length))), (2, .int (nI (a + A.length))), (1, .int (nI a)), (0, .ref 65)] [] _ _ (z, N, I1, L, R)
    rw [nI_1]
    rw [hj, List.drop_length] at hW
    exact hnx C I1 hf h15 hC hs hsp hW
  · have hj : j < B.length := by
      refine Decidable.byContradiction fun h9 => c1 ?_
      exact nI_le (by omega) (by omega)
    obtain ⟨n1, v1, l1, c1x⟩ := enR_s (hA i hi) (hf.2.2 _ (by omega))
    obtain ⟨n2, v2, l2, c2x⟩ := enR_s (hB j hj) (hf.2.2 _ (by omega))
    have b1 := v1.1
    have b2 := v2.1
    have ex : I1 73 (nI (a + i)).toNatClampNeg = nI n1 := by rw [nI_clamp (by omega)]; exact l1
    have ey : I1 73 (nI ((a + A.length) + j)).toNatClampNeg = nI n2 := by rw [nI_clamp (by omega)]; exact l2
    have hdr : (B.drop j).map (cat (A.getD i 0)) ++ prI (A.drop (i + 1)) B = cat (A.getD i 0) (B.getD j 0) :: ((B.drop (j + 1)).map (cat (A.getD i 0)) ++ prI (A.drop (i + 1)) B) := by rw [drop_c hj]; rfl
    refine ⟨fun hx => absurd (show (I1 65 21) = 0 from hsp) hx, fun _ => ?_⟩
    refine ⟨?_, ?_⟩
    · show vp_in (nI (a + i)) 4000
      exact vp_in_nI (by omega) (by decide)
    refine ⟨fun (c3 : (I1 73 ((nI (a + i)).toNatClampNeg)) ≤ 0) => ?_, fun (c3 : ¬ (I1 73 ((nI (a + i)).toNatClampNeg)) ≤ 0) => ?_⟩
    · have g1 : n1 = 0 := by
        have c9 := c3
        rw [ex] at c9
        have := (nI_leI (b := 0) (by omega) (by omega)).mp c9
        omega
      refine ⟨?_, ?_⟩
      · show vp_in (nI (a + i)) 4000
        exact vp_in_nI (by omega) (by decide)
      refine ⟨?_, ?_⟩
      · show vp_in (nI ((a + A.length) + j)) 4000
        exact vp_in_nI (by omega) (by decide)
      refine ⟨fun (c4 : (((I1 73 ((nI (a + i)).toNatClampNeg)) + 0) + (I1 73 ((nI ((a + A.length) + j)).toNatClampNeg))) ≤ 24) => ?_, fun (c4 : ¬ (((I1 73 ((nI (a + i)).toNatClampNeg)) + 0) + (I1 73 ((nI ((a + A.length) + j)).toNatClampNeg))) ≤ 24) => ?_⟩
      · change qJ m_X12_joins (qWP _) Q 99 [(7, .int (((I1 73 ((nI (a + i)).toNatClampNeg)) + 0) + (I1 73 ((nI ((a + A.length) + j)).toNatClampNeg)))), (6, .int 0), (5, .int (nI ((a + A.length) + j))), (4, .int (nI (a + i))), (3, .int (nI (a + A.length + B.length))), (2, .int (nI (a + A.length))), (1, .int (nI a)), (0, .ref 65)] [] _ _ (z, N, I1, L, R)
        have hg : gpN n1 n2 = 0 := if_neg (by omega)
        have hle : n1 + gpN n1 n2 + n2 ≤ 24 := by
          have c9 := c4
          rw [ex, ey, show (0 : Int32) = nI 0 from rfl, nI_add, nI_add] at c9
          rw [hg]
          exact (nI_leI (b := 24) (by omega) (by omega)).mp c9
        have enn : I1 73 (nI (a + i)).toNatClampNeg + 0 + I1 73 (nI ((a + A.length) + j)).toNatClampNeg = nI (n1 + gpN n1 n2 + n2) := by
          rw [ex, ey, show (0 : Int32) = nI 0 from rfl, nI_add, nI_add, hg]
        have egp : (0 : Int32) = nI (gpN n1 n2) := by rw [hg]; rfl
        obtain ⟨K, hcK, hvK, _, _, _⟩ := cat_c v1 v2 hle
        have hdrW := hW
        rw [hdr, hcK, addI_c, addI1] at hdrW
        rw [enn, egp]
        refine l_X12_joinsB (d := d) (I := I) hb (show (a + i) < (a + A.length + B.length) by omega) (show ((a + A.length) + j) < (a + A.length + B.length) by omega) v1 v2 hle hcK l1 l2 c2x ⟨n1, v1, l1, c1x⟩ h15 hC hs (fun ea I5 k1 k2 k3 => l_X12_joinsN (d := d) ?_) (fun C5 I5 ea k1 k2 k3 k4 => l_X12_joinsN (d := d) ?_)
        · rw [ea] at hdrW
          exact l_X12_joinsS24 (d := d) hb hF _ _ [] _ (frJ_t hf k1 (Nat.le_refl _)) k2 (by decide) (fun i hi => absurd hi (by simp)) k3 hdrW.symm
        · rw [ea] at hdrW
          obtain ⟨p, rfl⟩ : ∃ p, q = p + 1 := ⟨q - 1, by omega⟩
          exact ih p rfl (j + 1) C5 I5 (by omega) (frJ_t hf k1 (Nat.le_refl _)) k2 (addG_len pc_apF ea hC) k4 (k3.trans hsp) hdrW
      · refine ⟨?_, ?_⟩
        · first | exact Or.inl rfl | exact Or.inr rfl | (clear ih hF hnx hs hf hA hB; grind)
        refine qJ_nm (qWP_mono _) [(7, _), (6, _)] [(5, .int ((nI ((a + A.length) + j)) + 1)), (4, .int (nI (a + i))), (3, .int (nI (a + A.length + B.length))), (2, .int (nI (a + A.length))), (1, .int (nI a)), (0, .ref 65)] rfl rfl rfl ?_
        change qJ m_X12_joins (qWP _) Q 24 [(5, .int ((nI ((a + A.length) + j)) + 1)), (4, .int (nI (a + i))), (3, .int (nI (a + A.length + B.length))), (2, .int (nI (a + A.length))), (1, .int (nI a)), (0, .ref 65)] [] _ _ (z, N, q2 I1 65 21 1, L, R)
        have hg : gpN n1 n2 = 0 := if_neg (by omega)
        have hbig : 24 < n1 + gpN n1 n2 + n2 := Nat.not_le.mp fun h9 => c4 (by
          rw [ex, ey, show (0 : Int32) = nI 0 from rfl, nI_add, nI_add]
          rw [hg] at h9
          exact nI_le (b := 24) h9 (by omega))
        have hW2 : W = none := by rw [← hW, hdr, cat_no v1 v2 hbig]; rfl
        exact l_X12_joinsS24 (d := d) hb hF _ _ C _ (frJ_t hf (frK_J (frK_s frK_r (by decide)) (a := (a + A.length + B.length))) (Nat.le_refl _)) (by rw [q2_nj (by decide)]; exact h15) hC (segR_s hs fun i _ => frK_E (frK_s frK_r (by decide))) q2_at hW2
    · have g1 : 0 < n1 := Nat.pos_of_ne_zero fun h9 => c3 (by rw [ex, h9]; decide)
      refine ⟨?_, ?_⟩
      · show vp_in (nI ((a + A.length) + j)) 4000
        exact vp_in_nI (by omega) (by decide)
      refine ⟨fun (c5 : (I1 73 ((nI ((a + A.length) + j)).toNatClampNeg)) ≤ 0) => ?_, fun (c5 : ¬ (I1 73 ((nI ((a + A.length) + j)).toNatClampNeg)) ≤ 0) => ?_⟩
      · have g2 : n2 = 0 := by
          have c9 := c5
          rw [ey] at c9
          have := (nI_leI (b := 0) (by omega) (by omega)).mp c9
          omega
        refine ⟨?_, ?_⟩
        · show vp_in (nI (a + i)) 4000
          exact vp_in_nI (by omega) (by decide)
        refine ⟨?_, ?_⟩
        · show vp_in (nI ((a + A.length) + j)) 4000
          exact vp_in_nI (by omega) (by decide)
        refine ⟨fun (c6 : (((I1 73 ((nI (a + i)).toNatClampNeg)) + 0) + (I1 73 ((nI ((a + A.length) + j)).toNatClampNeg))) ≤ 24) => ?_, fun (c6 : ¬ (((I1 73 ((nI (a + i)).toNatClampNeg)) + 0) + (I1 73 ((nI ((a + A.length) + j)).toNatClampNeg))) ≤ 24) => ?_⟩
        · change qJ m_X12_joins (qWP _) Q 99 [(7, .int (((I1 73 ((nI (a + i)).toNatClampNeg)) + 0) + (I1 73 ((nI ((a + A.length) + j)).toNatClampNeg)))), (6, .int 0), (5, .int (nI ((a + A.length) + j))), (4, .int (nI (a + i))), (3, .int (nI (a + A.length + B.length))), (2, .int (nI (a + A.length))), (1, .int (nI a)), (0, .ref 65)] [] _ _ (z, N, I1, L, R)
          have hg : gpN n1 n2 = 0 := if_neg (by omega)
          have hle : n1 + gpN n1 n2 + n2 ≤ 24 := by
            have c9 := c6
            rw [ex, ey, show (0 : Int32) = nI 0 from rfl, nI_add, nI_add] at c9
            rw [hg]
            exact (nI_leI (b := 24) (by omega) (by omega)).mp c9
          have enn : I1 73 (nI (a + i)).toNatClampNeg + 0 + I1 73 (nI ((a + A.length) + j)).toNatClampNeg = nI (n1 + gpN n1 n2 + n2) := by
            rw [ex, ey, show (0 : Int32) = nI 0 from rfl, nI_add, nI_add, hg]
          have egp : (0 : Int32) = nI (gpN n1 n2) := by rw [hg]; rfl
          obtain ⟨K, hcK, hvK, _, _, _⟩ := cat_c v1 v2 hle
          have hdrW := hW
          rw [hdr, hcK, addI_c, addI1] at hdrW
          rw [enn, egp]
          refine l_X12_joinsB (d := d) (I := I) hb (show (a + i) < (a + A.length + B.length) by omega) (show ((a + A.length) + j) < (a + A.length + B.length) by omega) v1 v2 hle hcK l1 l2 c2x ⟨n1, v1, l1, c1x⟩ h15 hC hs (fun ea I5 k1 k2 k3 => l_X12_joinsN (d := d) ?_) (fun C5 I5 ea k1 k2 k3 k4 => l_X12_joinsN (d := d) ?_)
          · rw [ea] at hdrW
            exact l_X12_joinsS24 (d := d) hb hF _ _ [] _ (frJ_t hf k1 (Nat.le_refl _)) k2 (by decide) (fun i hi => absurd hi (by simp)) k3 hdrW.symm
          · rw [ea] at hdrW
            obtain ⟨p, rfl⟩ : ∃ p, q = p + 1 := ⟨q - 1, by omega⟩
            exact ih p rfl (j + 1) C5 I5 (by omega) (frJ_t hf k1 (Nat.le_refl _)) k2 (addG_len pc_apF ea hC) k4 (k3.trans hsp) hdrW
        · refine ⟨?_, ?_⟩
          · first | exact Or.inl rfl | exact Or.inr rfl | (clear ih hF hnx hs hf hA hB; grind)
          refine qJ_nm (qWP_mono _) [(7, _), (6, _)] [(5, .int ((nI ((a + A.length) + j)) + 1)), (4, .int (nI (a + i))), (3, .int (nI (a + A.length + B.length))), (2, .int (nI (a + A.length))), (1, .int (nI a)), (0, .ref 65)] rfl rfl rfl ?_
          change qJ m_X12_joins (qWP _) Q 24 [(5, .int ((nI ((a + A.length) + j)) + 1)), (4, .int (nI (a + i))), (3, .int (nI (a + A.length + B.length))), (2, .int (nI (a + A.length))), (1, .int (nI a)), (0, .ref 65)] [] _ _ (z, N, q2 I1 65 21 1, L, R)
          have hg : gpN n1 n2 = 0 := if_neg (by omega)
          have hbig : 24 < n1 + gpN n1 n2 + n2 := Nat.not_le.mp fun h9 => c6 (by
            rw [ex, ey, show (0 : Int32) = nI 0 from rfl, nI_add, nI_add]
            rw [hg] at h9
            exact nI_le (b := 24) h9 (by omega))
          have hW2 : W = none := by rw [← hW, hdr, cat_no v1 v2 hbig]; rfl
          exact l_X12_joinsS24 (d := d) hb hF _ _ C _ (frJ_t hf (frK_J (frK_s frK_r (by decide)) (a := (a + A.length + B.length))) (Nat.le_refl _)) (by rw [q2_nj (by decide)]; exact h15) hC (segR_s hs fun i _ => frK_E (frK_s frK_r (by decide))) q2_at hW2
      · have g2 : 0 < n2 := Nat.pos_of_ne_zero fun h9 => c5 (by rw [ey, h9]; decide)
        refine ⟨?_, ?_⟩
        · show vp_in (nI (a + i)) 4000
          exact vp_in_nI (by omega) (by decide)
        refine ⟨?_, ?_⟩
        · show vp_in (nI ((a + A.length) + j)) 4000
          exact vp_in_nI (by omega) (by decide)
        refine ⟨fun (c7 : (((I1 73 ((nI (a + i)).toNatClampNeg)) + 1) + (I1 73 ((nI ((a + A.length) + j)).toNatClampNeg))) ≤ 24) => ?_, fun (c7 : ¬ (((I1 73 ((nI (a + i)).toNatClampNeg)) + 1) + (I1 73 ((nI ((a + A.length) + j)).toNatClampNeg))) ≤ 24) => ?_⟩
        · change qJ m_X12_joins (qWP _) Q 99 [(7, .int (((I1 73 ((nI (a + i)).toNatClampNeg)) + 1) + (I1 73 ((nI ((a + A.length) + j)).toNatClampNeg)))), (6, .int 1), (5, .int (nI ((a + A.length) + j))), (4, .int (nI (a + i))), (3, .int (nI (a + A.length + B.length))), (2, .int (nI (a + A.length))), (1, .int (nI a)), (0, .ref 65)] [] _ _ (z, N, I1, L, R)
          have hg : gpN n1 n2 = 1 := if_pos ⟨g1, g2⟩
          have hle : n1 + gpN n1 n2 + n2 ≤ 24 := by
            have c9 := c7
            rw [ex, ey, show (1 : Int32) = nI 1 from rfl, nI_add, nI_add] at c9
            rw [hg]
            exact (nI_leI (b := 24) (by omega) (by omega)).mp c9
          have enn : I1 73 (nI (a + i)).toNatClampNeg + 1 + I1 73 (nI ((a + A.length) + j)).toNatClampNeg = nI (n1 + gpN n1 n2 + n2) := by
            rw [ex, ey, show (1 : Int32) = nI 1 from rfl, nI_add, nI_add, hg]
          have egp : (1 : Int32) = nI (gpN n1 n2) := by rw [hg]; rfl
          obtain ⟨K, hcK, hvK, _, _, _⟩ := cat_c v1 v2 hle
          have hdrW := hW
          rw [hdr, hcK, addI_c, addI1] at hdrW
          rw [enn, egp]
          refine l_X12_joinsB (d := d) (I := I) hb (show (a + i) < (a + A.length + B.length) by omega) (show ((a + A.length) + j) < (a + A.length + B.length) by omega) v1 v2 hle hcK l1 l2 c2x ⟨n1, v1, l1, c1x⟩ h15 hC hs (fun ea I5 k1 k2 k3 => l_X12_joinsN (d := d) ?_) (fun C5 I5 ea k1 k2 k3 k4 => l_X12_joinsN (d := d) ?_)
          · rw [ea] at hdrW
            exact l_X12_joinsS24 (d := d) hb hF _ _ [] _ (frJ_t hf k1 (Nat.le_refl _)) k2 (by decide) (fun i hi => absurd hi (by simp)) k3 hdrW.symm
          · rw [ea] at hdrW
            obtain ⟨p, rfl⟩ : ∃ p, q = p + 1 := ⟨q - 1, by omega⟩
            exact ih p rfl (j + 1) C5 I5 (by omega) (frJ_t hf k1 (Nat.le_refl _)) k2 (addG_len pc_apF ea hC) k4 (k3.trans hsp) hdrW
        · refine ⟨?_, ?_⟩
          · first | exact Or.inl rfl | exact Or.inr rfl | (clear ih hF hnx hs hf hA hB; grind)
          refine qJ_nm (qWP_mono _) [(7, _), (6, _)] [(5, .int ((nI ((a + A.length) + j)) + 1)), (4, .int (nI (a + i))), (3, .int (nI (a + A.length + B.length))), (2, .int (nI (a + A.length))), (1, .int (nI a)), (0, .ref 65)] rfl rfl rfl ?_
          change qJ m_X12_joins (qWP _) Q 24 [(5, .int ((nI ((a + A.length) + j)) + 1)), (4, .int (nI (a + i))), (3, .int (nI (a + A.length + B.length))), (2, .int (nI (a + A.length))), (1, .int (nI a)), (0, .ref 65)] [] _ _ (z, N, q2 I1 65 21 1, L, R)
          have hg : gpN n1 n2 = 1 := if_pos ⟨g1, g2⟩
          have hbig : 24 < n1 + gpN n1 n2 + n2 := Nat.not_le.mp fun h9 => c7 (by
            rw [ex, ey, show (1 : Int32) = nI 1 from rfl, nI_add, nI_add]
            rw [hg] at h9
            exact nI_le (b := 24) h9 (by omega))
          have hW2 : W = none := by rw [← hW, hdr, cat_no v1 v2 hbig]; rfl
          exact l_X12_joinsS24 (d := d) hb hF _ _ C _ (frJ_t hf (frK_J (frK_s frK_r (by decide)) (a := (a + A.length + B.length))) (Nat.le_refl _)) (by rw [q2_nj (by decide)]; exact h15) hC (segR_s hs fun i _ => frK_E (frK_s frK_r (by decide))) q2_at hW2
theorem l_X12_joins8 {d z : Nat} {N : Nat → Nat} {I : Nat → Nat → Int32} {L : Nat → Nat → Int64} {R : Nat → Nat → Option Nat} {Q : qP} {a : Nat} {A B : List Nat} {W : Option (List Nat)} (hb : a + A.length + B.length + 202 < 4000) (hA : segR I a A) (hB : segR I (a + A.length) B) (hF : ∀ (x : Int32) (C : List Nat) (I2 : Nat → Nat → Int32), frJ I I2 (a + A.length + B.length) → I2 65 15 = nI ((a + A.length + B.length) + C.length) → C.length ≤ 200 → segR I2 (a + A.length + B.length) C → ((I2 65 21 = 1 ∧ W = none) ∨ (I2 65 21 = 0 ∧ W = some C)) → qJ m_X12_joins (qWP (d + 6)) Q 224 [(4, .int x), (3, .int (nI (a + A.length + B.length))), (2, .int (nI (a + A.length))), (1, .int (nI a)), (0, .ref 65)] [] 0 0 (z, N, I2, L, R)) : ∀ (q i : Nat) (C : List Nat) (I1 : Nat → Nat → Int32), i + q = A.length → frJ I I1 (a + A.length + B.length) → I1 65 15 = nI ((a + A.length + B.length) + C.length) → C.length ≤ 200 → segR I1 (a + A.length + B.length) C → I1 65 21 = 0 → addI apF 200 (prI (A.drop i) B) C = W → qJ m_X12_joins (qWP (d + 6)) Q 8 [(4, .int (nI (a + i))), (3, .int (nI (a + A.length + B.length))), (2, .int (nI (a + A.length))), (1, .int (nI a)), (0, .ref 65)] [] 0 0 (z, N, I1, L, R) := by
  refine nat_ind fun q ih => ?_
  intro i C I1 hiq hf h15 hC hs hsp hW
  refine qJ_run (qWP_mono _) [8, 24, 224] 400 ?_
  refine ⟨fun (c1 : (nI (a + A.length)) ≤ (nI (a + i))) => ?_, fun (c1 : ¬ (nI (a + A.length)) ≤ (nI (a + i))) => ?_⟩
  · have hi : i = A.length := by
      have c9 := c1
      rw [nI_leI (by omega) (by omega)] at c9
      omega
    change qJ m_X12_joins (qWP _) Q 224 [(4, .int (nI (a + i))), (3, .int (nI (a + A.length + B.length))), (2, .int (nI (a + A.length))), (1, .int (nI a)), (0, .ref 65)] [] _ _ (z, N, I1, L, R)
    rw [hi, prI_0 (Nat.le_refl _)] at hW
    exact hF _ C I1 hf h15 hC hs (Or.inr ⟨hsp, hW.symm⟩)
  · have hi : i < A.length := by
      refine Decidable.byContradiction fun h9 => c1 ?_
      exact nI_le (by omega) (by omega)
    refine ⟨fun hx => absurd (show (I1 65 21) = 0 from hsp) hx, fun _ => ?_⟩
    change qJ m_X12_joins (qWP _) Q 24 [(5, .int (nI (a + A.length))), (4, .int (nI (a + i))), (3, .int (nI (a + A.length + B.length))), (2, .int (nI (a + A.length))), (1, .int (nI a)), (0, .ref 65)] [] _ _ (z, N, I1, L, R)
    obtain ⟨p, rfl⟩ : ∃ p, q = p + 1 := ⟨q - 1, by omega⟩
    rw [prI_c hi] at hW
    exact l_X12_joins24 (d := d) hb hA hB hF hi (fun C' I' k1 k2 k3 k4 k5 k6 => ih p rfl (i + 1) C' I' (by omega) k1 k2 k3 k4 k5 k6) B.length 0 C I1 (Nat.zero_add _) hf h15 hC hs hsp hW
theorem c_X12_joins {d z : Nat} {N : Nat → Nat} {I : Nat → Nat → Int32} {L : Nat → Nat → Int64} {R : Nat → Nat → Option Nat} {Q : qP} {a : Nat} {A B : List Nat} (hb : a + A.length + B.length + 202 < 4000) (hA : segR I a A) (hB : segR I (a + A.length) B) (h15 : I 65 15 = nI (a + A.length + B.length)) (hsp : I 65 21 = 0) (h0 : addI apF 200 (prI A B) [] = none → ∀ I', frJ I I' a → I' 65 15 = nI a → I' 65 21 = 1 → Q none (z, N, I', L, R)) (h1 : ∀ C I', addI apF 200 (prI A B) [] = some C → frJ I I' a → I' 65 15 = nI (a + C.length) → I' 65 21 = 0 → segR I' a C → Q none (z, N, I', L, R)) : qWP (d + 7) 190 [.ref 65, .int (nI a), .int (nI (a + A.length))] (z, N, I, L, R) Q := by
  refine qWP_of m_X12_joins rfl rfl [(0, .ref 65), (1, .int (nI a)), (2, .int (nI (a + A.length)))] rfl ?_
  refine qJ_run (qWP_mono _) [8] 400 ?_
  refine qJ_nm (qWP_mono _) [] [(4, .int (nI a)), (3, .int (I 65 15)), (2, .int (nI (a + A.length))), (1, .int (nI a)), (0, .ref 65)] rfl rfl rfl ?_
  change qJ m_X12_joins (qWP _) Q 8 [(4, .int (nI a)), (3, .int (I 65 15)), (2, .int (nI (a + A.length))), (1, .int (nI a)), (0, .ref 65)] [] _ _ (z, N, I, L, R)
  rw [h15]
  exact l_X12_joins8 (d := d) hb hA hB (fun x C I2 k1 k2 k3 k4 k5 => l_X12_joinsF (d := d) hb h0 h1 x C I2 k1 k2 k3 k4 k5) A.length 0 [] I (Nat.zero_add _) frJ_r h15 (by decide) (fun i hi => absurd hi (by simp)) hsp rfl
