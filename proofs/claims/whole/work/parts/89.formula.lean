/-! formulas: the class's operation, all of it -/
theorem c_X2_isSpent {d z : Nat} {N : Nat → Nat} {I : Nat → Nat → Int32} {L : Nat → Nat → Int64} {R : Nat → Nat → Option Nat} {Q : qP} (hb : I 11 9 = 0 ∨ I 11 9 = 1) (h : Q (some (.int (I 11 9))) (z, N, I, L, R)) : qWP (d + 1) 26 [.ref 11] (z, N, I, L, R) Q := by
  refine qWP_of m_X2_isSpent rfl rfl [(0, .ref 11)] rfl ?_
  refine qJ_run (qWP_mono _) [] 400 ?_
  refine ⟨by first | exact hb | exact Or.inl rfl | exact Or.inr rfl | (clear h; grind), ?_⟩
  change Q (some (.int (I 11 9))) (z, N, I, L, R)
  exact h
theorem c_X2_made {d z : Nat} {N : Nat → Nat} {I : Nat → Nat → Int32} {L : Nat → Nat → Int64} {R : Nat → Nat → Option Nat} {Q : qP} {m : List Nat} (hN : mkN z N) (hR13 : R 13 0 = some 21) (hC : hsL I L 21 m) (hmr : m.length ≤ 200) (hst : qStat (z, N, I, L, R)) (hk : qK (z + 2) = 9) (hk2 : qK (z + 3) = 15) (hz2 : qSz (z + 3) = none) (g : ∀ e, rowL e m → Q (some (.ref (z + 2))) (z + 2, (qUp N (z + 3) (2 * m.length)), (q2 (qRow (qRow I (z + 2) (fun _ => 0)) (z + 3) (fun _ => 0)) (z + 2) 1 (nI m.length)), (qRow (qRow L (z + 3) (fun _ => 0)) (z + 3) e), (q2 (qRow R (z + 2) (fun _ => none)) (z + 2) 0 (some (z + 3))))) : qWP (d + 7) 27 [.ref 11] (z, N, I, L, R) Q := by
  have h94 := hN.1
  refine qWP_of m_X2_made rfl rfl [(0, .ref 11)] rfl ?_
  refine qJ_run (qWP_mono _) [] 400 ?_
  refine ⟨?_, ?_⟩
  · exact vp_in_nI (n := 0) (N := 5) (by decide) (by decide)
  refine ⟨some 21, hR13, ?_⟩
  refine ⟨⟨trivial, show 11 < z + 2 by omega, trivial⟩, ⟨Nat.le_refl _, Nat.le_refl _⟩, ?_⟩
  refine c_X9_copy (d := d) (h := 21) (mkN_a hN (j := 0) (by decide)) hC hmr hst hk hk2 hz2 fun e hr => ⟨st_mk hst hk hk2, ?_⟩
  change Q (some (.ref (z + 2))) ((z + 2), (qUp N (z + 3) (2 * m.length)), (q2 (qRow (qRow I (z + 2) (fun _ => 0)) (z + 3) (fun _ => 0)) (z + 2) 1 (nI m.length)), (qRow (qRow L (z + 3) (fun _ => 0)) (z + 3) e), (q2 (qRow R (z + 2) (fun _ => none)) (z + 2) 0 (some (z + 3))))
  exact g e hr
theorem c_X11_formula {d z : Nat} {N : Nat → Nat} {I : Nat → Nat → Int32} {L : Nat → Nat → Int64} {R : Nat → Nat → Option Nat} {Q : qP} {n F : Nat} {g : Nat → Nat} (hN : mkN z N) (hst : qStat (z, N, I, L, R)) (hn : I 9 1 = nI n) (h200 : n ≤ 200) (hg : gOk g) (hR : (∀ i, i < 5 → R 13 i = some (21 + 4 * i)) ∧ (∀ i, i < 5 → R 12 i = some (g i)) ∧ R 11 4 = some (g 5)) (hF : I 2 5 = nI F) (hF8 : F ≤ 8) (hk : F < 8 → qK (z + 2) = 9 ∧ qK (z + 3) = 15 ∧ qSz (z + 3) = none) (h0 : F = 8 → Q (some (.int (-4))) (z, N, I, L, R)) (h1 : ∀ f g' s' I' L' R', F < 8 → fmR n (bT I) 0 (sLev 0 false sg00) = .inl f → f ≤ n → mkR I L R g' s' I' L' R' → qStat (z, N, I', L', R') → Q (some (.int (-20 - nI f))) (z, N, (q2 I' 9 1 0), L', R')) (h2 : ∀ s' g' I' L' R', F < 8 → fmR n (bT I) 0 (sLev 0 false sg00) = .inr s' → gSp s' = true → mkR I L R g' s' I' L' R' → qStat (z, N, I', L', R') → Q (some (.int (-3))) (z, N, (q2 I' 9 1 0), L', R')) (h3 : ∀ s' g' I' L' R' e, F < 8 → fmR n (bT I) 0 (sLev 0 false sg00) = .inr s' → gSp s' = false → mkR I L R g' s' I' L' R' → qStat (z, N, I', L', R') → rowL e (gAl s' 0) → Q (some (.int (nI F))) (z + 2, (qUp N (z + 3) (2 * (gAl s' 0).length)), q2 (q2 (qRow (qRow (q2 I' 9 1 0) (z + 2) (fun _ => 0)) (z + 3) (fun _ => 0)) (z + 2) 1 (nI (gAl s' 0).length)) 2 5 (nI (F + 1)), (qRow (qRow L' (z + 3) (fun _ => 0)) (z + 3) e), q2 (q2 (qRow R' (z + 2) (fun _ => none)) (z + 2) 0 (some (z + 3))) 39 F (some (z + 2)))) : qWP (d + 10) 128 [.ref 2] (z, N, I, L, R) Q := by
  refine qWP_of m_X11_formula rfl rfl [(0, .ref 2)] rfl ?_
  refine qJ_run (qWP_mono _) [76] 400 ?_
  refine br_f (show ¬ (I 2 5) < 0 from by rw [hF]; exact nI_pos (by omega)) ?_
  refine ⟨fun (c2 : (I 2 5) < 8) => ?_, fun (c2 : ¬ (I 2 5) < 8) => ?_⟩
  · have hF7 : F < 8 := by
      have c9 := c2
      rw [hF] at c9
      exact (nI_ltI (b := 8) (by omega) (by omega)).mp c9
    refine ⟨⟨by decide, by decide⟩, ?_⟩
    refine c_X2_make (d := d) hN hst hn h200 hg hR rfl (fun f g1 s1 I1 L1 R1 er hfn hm1 hst1 => ?_) (fun s1 g1 I1 L1 R1 er hm1 hst1 => ?_)
    · refine ⟨⟨by decide, by decide⟩, ?_⟩
      refine c_X8_clear ?_
      refine br_f (show ¬ (nI f) = (-1) from fun h9 => nI_pos (n := f) (by omega) (by rw [h9]; decide)) ?_
      change Q (some (.int ((-20) - (nI f)))) (z, N, q2 I1 9 1 0, L1, R1)
      exact h1 f g1 s1 I1 L1 R1 hF7 er hfn hm1 hst1
    · refine ⟨⟨by decide, by decide⟩, ?_⟩
      refine c_X8_clear ?_
      refine ⟨fun (c4 : (-1) = (-1)) => ?_, fun (c4 : ¬ (-1) = (-1)) => ?_⟩
      · refine ⟨⟨by decide, by decide⟩, ?_⟩
        refine c_X2_isSpent (d := d + 8) (show I1 11 9 = 0 ∨ I1 11 9 = 1 by rw [hm1.1.2.2.2.2.1.2.2.2]; exact bI_b _) ?_
        refine ⟨fun (c5 : (I1 11 9) = 0) => ?_, fun (c5 : ¬ (I1 11 9) = 0) => ?_⟩
        · have hsp : gSp s1 = false := by
            have c9 := c5
            rw [hm1.1.2.2.2.2.1.2.2.2] at c9
            exact bI_1.mp c9
          change qJ m_X11_formula (qWP _) Q 76 [(1, .int (-1)), (0, .ref 2)] [.ref 11, .int (I1 2 5), .ref 39] _ _ (z, N, q2 I1 9 1 0, L1, R1)
          refine qJ_run (qWP_mono _) [76] 400 ?_
          refine ⟨⟨⟨show 39 < z + 2 by have := hN.1; omega, trivial⟩, ⟨show 2 < z + 2 by have := hN.1; omega, trivial⟩⟩, ⟨by decide, by decide⟩, ?_⟩
          have hI25 : I1 2 5 = nI F := by rw [(hm1.1.2.2.1 2 (by decide)).1]; exact hF
          have h94 := hN.1
          have hk9 := hk hF7
          have hC0 := (hm1.2 hsp 0 (Nat.zero_le _)).2
          have hCA : hsL (q2 I1 9 1 0) L1 21 (gAl s1 0) := hsL_I hC0.1 (fun a ha => q2_ne ha) (by decide)
          refine c_X2_made (d := d + 2) hN (hm1.1.2.2.2.1.1 0 (by decide)) hCA hC0.2.1 (show qStat (z, N, q2 I1 9 1 0, L1, R1) from hst1) hk9.1 hk9.2.1 hk9.2.2 fun e hr => ?_
          have hI2 : (q2 (qRow (qRow (q2 I1 9 1 0) (z + 2) (fun _ => 0)) (z + 3) (fun _ => 0)) (z + 2) 1 (nI (gAl s1 0).length)) 2 5 = nI F := by rw [q2_ne (by omega), qRow_ne (by omega), qRow_ne (by omega), q2_ne (by decide)]; exact hI25
          have hst2 : qStat (z + 2, (qUp N (z + 3) (2 * (gAl s1 0).length)), (q2 (qRow (qRow (q2 I1 9 1 0) (z + 2) (fun _ => 0)) (z + 3) (fun _ => 0)) (z + 2) 1 (nI (gAl s1 0).length)), (qRow (qRow L1 (z + 3) (fun _ => 0)) (z + 3) e), (q2 (qRow R1 (z + 2) (fun _ => none)) (z + 2) 0 (some (z + 3)))) := st_mk (show qStat (z, N, q2 I1 9 1 0, L1, R1) from hst1) hk9.1 hk9.2.1
          have g3 := h3 s1 g1 I1 L1 R1 e hF7 er hsp hm1 hst1 hr
          obtain ⟨I2, eI2⟩ : ∃ x, x = (q2 (qRow (qRow (q2 I1 9 1 0) (z + 2) (fun _ => 0)) (z + 3) (fun _ => 0)) (z + 2) 1 (nI (gAl s1 0).length)) := ⟨_, rfl⟩
          obtain ⟨R2, eR2⟩ : ∃ x, x = (q2 (qRow R1 (z + 2) (fun _ => none)) (z + 2) 0 (some (z + 3))) := ⟨_, rfl⟩
          obtain ⟨L2, eL2⟩ : ∃ x, x = (qRow (qRow L1 (z + 3) (fun _ => 0)) (z + 3) e) := ⟨_, rfl⟩
          obtain ⟨N2, eN2⟩ : ∃ x, x = (qUp N (z + 3) (2 * (gAl s1 0).length)) := ⟨_, rfl⟩
          rw [← eI2] at hI2
          rw [← eI2, ← eR2, ← eL2, ← eN2] at hst2 g3 ⊢
          refine ⟨?_, ?_⟩
          · show vp_in (I1 2 5) 8
            rw [hI25]
            exact vp_in_nI hF7 (by decide)
          refine ⟨?_, ?_⟩
          · (intro b hb; obtain rfl := Option.some.inj hb; exact ⟨hk9.1, by omega, show z + 2 < z + 2 + 2 by omega⟩)
          change Q (some (.int (((I2 2 5) + 1) - 1))) ((z + 2), N2, q2 I2 2 5 ((I2 2 5) + 1), L2, q2 R2 39 ((I1 2 5).toNatClampNeg) (some (z + 2)))
          rw [hI25, hI2, nI_clamp (by omega), nI_1, show nI (F + 1) - 1 = nI F from nI_pred F]
          exact g3
        · have hsp : gSp s1 = true := by
            have c9 := c5
            rw [hm1.1.2.2.2.2.1.2.2.2] at c9
            cases e : gSp s1 with
            | true => rfl
            | false => rw [e] at c9; exact absurd rfl c9
          change Q (some (.int (-3))) (z, N, q2 I1 9 1 0, L1, R1)
          exact h2 s1 g1 I1 L1 R1 hF7 er hsp hm1 hst1
      · change Q (some (.int ((-20) - (-1)))) (z, N, q2 I1 9 1 0, L1, R1)
        exact absurd rfl c4
  · have hF7 : F = 8 := by
      refine Decidable.byContradiction fun h9 => c2 ?_
      rw [hF]
      exact nI_lt (b := 8) (by omega) (by omega)
    change Q (some (.int (-4))) (z, N, I, L, R)
    exact h0 hF7
