theorem l_X12_clashes2 {d z : Nat} {N : Nat → Nat} {I : Nat → Nat → Int32} {L : Nat → Nat → Int64} {R : Nat → Nat → Option Nat} {Q : qP} {g : Int32} (hs : 0 ≤ I 65 0 ∧ I 65 0 ≤ 12) (hb : okB (I 65 0) (I 84) (I 85) (I 86) (I 65 4)) (hl : yLn (I 65 0).toNatClampNeg (I 80) (I 81)) {E0 U0 : Nat → Int32} {m0 : Int32} (hJ : mJ (I 65 0).toNatClampNeg (I 80) (I 81) (I 84) (I 85) (I 86) g (I 65 4) E0 U0 m0) (hout : ∀ (E U : Nat → Int32) (m : Int32), mJ (I 65 0).toNatClampNeg (I 80) (I 81) (I 84) (I 85) (I 86) g (I 65 4) E U m → (m = 0 ∨ (m = 1 ∧ mM (I 65 0).toNatClampNeg E U < mM (I 65 0).toNatClampNeg E0 U0)) → qJ m_X12_clashes (qWP (d + 0)) Q 42 [(2, .int m), (1, .int g), (0, .ref 65)] [] 0 0 (z, N, qRow (qRow I 82 E) 83 U, L, R)) (hq : (∀ (v : Int32) (E U : Nat → Int32), yO (I 65 0).toNatClampNeg (I 80) (I 81) (I 84) (I 85) (I 86) (I 65 4) g (I 65 0) 0 1 v E U → (v = 0 ∨ v = 1) → Q (some (.int v)) (z, N, qRow (qRow I 82 E) 83 U, L, R))) : ∀ (k : Int32), ∀ (E U : Nat → Int32) (m : Int32), 0 ≤ k → k ≤ I 65 4 → tP (I 65 0).toNatClampNeg (I 84) (I 85) (I 86) g (I 65 4) E0 U0 999 k (E, U, m) → (∀ v, v < (I 65 0).toNatClampNeg → (E v).toInt ≤ (U v).toInt) → qJ m_X12_clashes (qWP (d + 0)) Q 50 [(3, .int k), (2, .int m), (1, .int g), (0, .ref 65)] [] 0 0 (z, N, qRow (qRow I 82 E) 83 U, L, R) := by
  refine up_ind (I 65 4) fun k ih => ?_
  intro E U m h0 h1 ht hEU
  have hx : k < I 65 4 → (0 ≤ I 84 k.toNatClampNeg ∧ I 84 k.toNatClampNeg < I 65 0) ∧ (0 ≤ I 85 k.toNatClampNeg ∧ I 85 k.toNatClampNeg < I 65 0) ∧ (-200 ≤ (I 86 k.toNatClampNeg).toInt ∧ (I 86 k.toNatClampNeg).toInt ≤ 200) ∧ (I 84 k.toNatClampNeg).toNatClampNeg < (I 65 0).toNatClampNeg ∧ (I 85 k.toNatClampNeg).toNatClampNeg < (I 65 0).toNatClampNeg ∧ k.toInt < 20 := fun hk => by
    have h9 := hb.2 k h0 hk
    have h1 := Int32.lt_iff_toInt_lt.mp hk
    have h2 := Int32.le_iff_toInt_le.mp hb.1.2
    rw [show (20 : Int32).toInt = 20 from rfl] at h2
    exact ⟨h9.1, h9.2.1, ⟨Int32.le_iff_toInt_le.mp h9.2.2.1, Int32.le_iff_toInt_le.mp h9.2.2.2⟩, clampN h9.1, clampN h9.2.1, by omega⟩
  have hC : ∀ v, v < (I 65 0).toNatClampNeg → -999 ≤ (E0 v).toInt ∧ (U0 v).toInt ≤ 999 := fun v hv => by
    have := hJ.1 v hv
    have := hl v hv
    omega
  refine qJ_run (qWP_mono _) [42, 50, 130, 177] 400 ?_
  refine ⟨fun (c1 : (I 65 4) ≤ k) => ?_, fun (c1 : ¬ (I 65 4) ≤ k) => ?_⟩
  · refine qJ_nm (qWP_mono _) [(3, _)] [(2, .int m), (1, .int g), (0, .ref 65)] rfl rfl rfl ?_
    have hkz : tP (I 65 0).toNatClampNeg (I 84) (I 85) (I 86) g (I 65 4) E0 U0 999 (I 65 4) (E, U, m) := by
      have : k = I 65 4 := by clear ih hq hout ht hx hC hEU; grind
      rw [this] at ht; exact ht
    obtain ⟨p1, p2⟩ := mJ_pass hJ hkz hEU
    exact hout _ _ _ p1 p2
  · refine ⟨fun (c2 : ¬ ((g >>> (k &&& 31)) &&& 1) = 0) => ?_, fun (c2 : ((g >>> (k &&& 31)) &&& 1) = 0) => ?_⟩
    · refine ⟨?_, ?_⟩
      · have hkk : k < I 65 4 := by clear ih hq hout; grind
        have h9 := hx hkk
        have h8 := hb.1
        exact vb (x := k) (N := 20) 20 (by decide) (by clear ih hq hout; grind) (by clear ih hq hout; grind)
      refine ⟨?_, ?_⟩
      · have hkk : k < I 65 4 := by clear ih hq hout; grind
        have h9 := hx hkk
        have h8 := hb.1
        exact vb (x := k) (N := 20) 20 (by decide) (by clear ih hq hout; grind) (by clear ih hq hout; grind)
      refine ⟨?_, ?_⟩
      · have hkk : k < I 65 4 := by clear ih hq hout; grind
        have h9 := hx hkk
        have h8 := hb.1
        exact vb (x := I 85 ((k).toNatClampNeg)) (N := 12) 12 (by decide) (by clear ih hq hout; grind) (by clear ih hq hout; grind)
      refine ⟨?_, ?_⟩
      · have hkk : k < I 65 4 := by clear ih hq hout; grind
        have h9 := hx hkk
        have h8 := hb.1
        exact vb (x := I 84 ((k).toNatClampNeg)) (N := 12) 12 (by decide) (by clear ih hq hout; grind) (by clear ih hq hout; grind)
      refine ⟨?_, ?_⟩
      · have hkk : k < I 65 4 := by clear ih hq hout; grind
        have h9 := hx hkk
        have h8 := hb.1
        exact vb (x := k) (N := 20) 20 (by decide) (by clear ih hq hout; grind) (by clear ih hq hout; grind)
      refine ⟨fun (c3 : ((E ((I 84 ((k).toNatClampNeg)).toNatClampNeg)) + (I 86 ((k).toNatClampNeg))) ≤ (E ((I 85 ((k).toNatClampNeg)).toNatClampNeg))) => ?_, fun (c3 : ¬ ((E ((I 84 ((k).toNatClampNeg)).toNatClampNeg)) + (I 86 ((k).toNatClampNeg))) ≤ (E ((I 85 ((k).toNatClampNeg)).toNatClampNeg))) => ?_⟩
      · refine ⟨?_, ?_⟩
        · have hkk : k < I 65 4 := by clear ih hq hout; grind
          have h9 := hx hkk
          have h8 := hb.1
          exact vb (x := I 84 ((k).toNatClampNeg)) (N := 12) 12 (by decide) (by clear ih hq hout; grind) (by clear ih hq hout; grind)
        refine ⟨?_, ?_⟩
        · have hkk : k < I 65 4 := by clear ih hq hout; grind
          have h9 := hx hkk
          have h8 := hb.1
          exact vb (x := I 85 ((k).toNatClampNeg)) (N := 12) 12 (by decide) (by clear ih hq hout; grind) (by clear ih hq hout; grind)
        refine ⟨?_, ?_⟩
        · have hkk : k < I 65 4 := by clear ih hq hout; grind
          have h9 := hx hkk
          have h8 := hb.1
          exact vb (x := k) (N := 20) 20 (by decide) (by clear ih hq hout; grind) (by clear ih hq hout; grind)
        refine ⟨fun (c4 : (U ((I 84 ((k).toNatClampNeg)).toNatClampNeg)) ≤ ((U ((I 85 ((k).toNatClampNeg)).toNatClampNeg)) - (I 86 ((k).toNatClampNeg)))) => ?_, fun (c4 : ¬ (U ((I 84 ((k).toNatClampNeg)).toNatClampNeg)) ≤ ((U ((I 85 ((k).toNatClampNeg)).toNatClampNeg)) - (I 86 ((k).toNatClampNeg)))) => ?_⟩
        · refine ⟨?_, ?_⟩
          · have hkk : k < I 65 4 := by clear ih hq hout; grind
            have h9 := hx hkk
            have h8 := hb.1
            exact vb (x := I 85 ((k).toNatClampNeg)) (N := 12) 12 (by decide) (by clear ih hq hout; grind) (by clear ih hq hout; grind)
          refine ⟨?_, ?_⟩
          · have hkk : k < I 65 4 := by clear ih hq hout; grind
            have h9 := hx hkk
            have h8 := hb.1
            exact vb (x := I 85 ((k).toNatClampNeg)) (N := 12) 12 (by decide) (by clear ih hq hout; grind) (by clear ih hq hout; grind)
          refine ⟨fun (c5 : (U ((I 85 ((k).toNatClampNeg)).toNatClampNeg)) < (E ((I 85 ((k).toNatClampNeg)).toNatClampNeg))) => ?_, fun (c5 : ¬ (U ((I 85 ((k).toNatClampNeg)).toNatClampNeg)) < (E ((I 85 ((k).toNatClampNeg)).toNatClampNeg))) => ?_⟩
          · refine ⟨by first | exact Or.inl rfl | exact Or.inr rfl | (clear ih hq hout; grind), ?_⟩
            change Q (some (.int 1)) (z, N, qRow (qRow I 82 E) 83 U, L, R)
            have hkk : k < I 65 4 := by clear ih hq hout; grind
            obtain ⟨ha9, hb9, hd3, ha3, hb3, hk20⟩ := hx hkk
            have hbd : (-1000000 ≤ (E (I 84 k.toNatClampNeg).toNatClampNeg).toInt ∧ (E (I 84 k.toNatClampNeg).toNatClampNeg).toInt ≤ 1000000) ∧ -1000000 ≤ (U (I 85 k.toNatClampNeg).toNatClampNeg).toInt ∧ (U (I 85 k.toNatClampNeg).toNatClampNeg).toInt ≤ 1000000 := by
              have q1 := ht.1 _ ha3
              have q2 := ht.1 _ hb3
              have q3 := hC _ ha3
              have q4 := hC _ hb3
              have q5 := i0 h0
              dsimp only at q1 q2
              omega
            have hk : k < I 65 4 := by clear ih hq hout; grind
            have e9 : gTi (I 84) (I 85) (I 86) g k (E, U, m) = (E, U, m) := by
              unfold gTi
              rw [if_pos ((and1 _).resolve_left c2)]
              unfold gT1 stE stU
              dsimp only
              have x1 : ¬ (E (I 85 (k).toNatClampNeg).toNatClampNeg < E (I 84 (k).toNatClampNeg).toNatClampNeg + I 86 (k).toNatClampNeg) := Int32.not_lt.mpr c3
              have x2 : ¬ (U (I 85 (k).toNatClampNeg).toNatClampNeg - I 86 (k).toNatClampNeg < U (I 84 (k).toNatClampNeg).toNatClampNeg) := Int32.not_lt.mpr c4
              rw [if_neg x1, if_neg x2, if_neg (fun h => h.elim x1 x2)]
            have ht2 := tP_step hb (by decide) hC h0 hk ht
            rw [e9] at ht2
            exact hq 1 _ _ (mJ_out hJ ht2 hb3 c5) (Or.inr rfl)
          · refine ⟨?_, ?_⟩
            · have hkk : k < I 65 4 := by clear ih hq hout; grind
              have h9 := hx hkk
              have h8 := hb.1
              exact vb (x := I 84 ((k).toNatClampNeg)) (N := 12) 12 (by decide) (by clear ih hq hout; grind) (by clear ih hq hout; grind)
            refine ⟨?_, ?_⟩
            · have hkk : k < I 65 4 := by clear ih hq hout; grind
              have h9 := hx hkk
              have h8 := hb.1
              exact vb (x := I 84 ((k).toNatClampNeg)) (N := 12) 12 (by decide) (by clear ih hq hout; grind) (by clear ih hq hout; grind)
            refine ⟨fun (c6 : (E ((I 84 ((k).toNatClampNeg)).toNatClampNeg)) ≤ (U ((I 84 ((k).toNatClampNeg)).toNatClampNeg))) => ?_, fun (c6 : ¬ (E ((I 84 ((k).toNatClampNeg)).toNatClampNeg)) ≤ (U ((I 84 ((k).toNatClampNeg)).toNatClampNeg))) => ?_⟩
            · refine qJ_nm (qWP_mono _) [(5, _), (4, _)] [(3, .int (k + 1)), (2, .int m), (1, .int g), (0, .ref 65)] rfl rfl rfl ?_
              have hkk : k < I 65 4 := by clear ih hq hout; grind
              obtain ⟨ha9, hb9, hd3, ha3, hb3, hk20⟩ := hx hkk
              have hbd : (-1000000 ≤ (E (I 84 k.toNatClampNeg).toNatClampNeg).toInt ∧ (E (I 84 k.toNatClampNeg).toNatClampNeg).toInt ≤ 1000000) ∧ -1000000 ≤ (U (I 85 k.toNatClampNeg).toNatClampNeg).toInt ∧ (U (I 85 k.toNatClampNeg).toNatClampNeg).toInt ≤ 1000000 := by
                have q1 := ht.1 _ ha3
                have q2 := ht.1 _ hb3
                have q3 := hC _ ha3
                have q4 := hC _ hb3
                have q5 := i0 h0
                dsimp only at q1 q2
                omega
              have hk : k < I 65 4 := by clear ih hq hout; grind
              have e9 : gTi (I 84) (I 85) (I 86) g k (E, U, m) = (E, U, m) := by
                unfold gTi
                rw [if_pos ((and1 _).resolve_left c2)]
                unfold gT1 stE stU
                dsimp only
                have x1 : ¬ (E (I 85 (k).toNatClampNeg).toNatClampNeg < E (I 84 (k).toNatClampNeg).toNatClampNeg + I 86 (k).toNatClampNeg) := Int32.not_lt.mpr c3
                have x2 : ¬ (U (I 85 (k).toNatClampNeg).toNatClampNeg - I 86 (k).toNatClampNeg < U (I 84 (k).toNatClampNeg).toNatClampNeg) := Int32.not_lt.mpr c4
                rw [if_neg x1, if_neg x2, if_neg (fun h => h.elim x1 x2)]
              have ht2 := tP_step hb (by decide) hC h0 hk ht
              rw [e9] at ht2
              have hle := gTi_le (bits := g) (S := (E, U, m)) hd3 hbd hEU (by rw [e9]; exact Int32.not_lt.mpr c6) (by rw [e9]; exact Int32.not_lt.mpr (Int32.not_lt.mp c5))
              rw [e9] at hle
              exact ih hk _ _ _ (by clear ih hq hout; grind) (by clear ih hq hout ht ht2; grind) ht2 hle
            · refine ⟨by first | exact Or.inl rfl | exact Or.inr rfl | (clear ih hq hout; grind), ?_⟩
              change Q (some (.int 1)) (z, N, qRow (qRow I 82 E) 83 U, L, R)
              have hkk : k < I 65 4 := by clear ih hq hout; grind
              obtain ⟨ha9, hb9, hd3, ha3, hb3, hk20⟩ := hx hkk
              have hbd : (-1000000 ≤ (E (I 84 k.toNatClampNeg).toNatClampNeg).toInt ∧ (E (I 84 k.toNatClampNeg).toNatClampNeg).toInt ≤ 1000000) ∧ -1000000 ≤ (U (I 85 k.toNatClampNeg).toNatClampNeg).toInt ∧ (U (I 85 k.toNatClampNeg).toNatClampNeg).toInt ≤ 1000000 := by
                have q1 := ht.1 _ ha3
                have q2 := ht.1 _ hb3
                have q3 := hC _ ha3
                have q4 := hC _ hb3
                have q5 := i0 h0
                dsimp only at q1 q2
                omega
              have hk : k < I 65 4 := by clear ih hq hout; grind
              have e9 : gTi (I 84) (I 85) (I 86) g k (E, U, m) = (E, U, m) := by
                unfold gTi
                rw [if_pos ((and1 _).resolve_left c2)]
                unfold gT1 stE stU
                dsimp only
                have x1 : ¬ (E (I 85 (k).toNatClampNeg).toNatClampNeg < E (I 84 (k).toNatClampNeg).toNatClampNeg + I 86 (k).toNatClampNeg) := Int32.not_lt.mpr c3
                have x2 : ¬ (U (I 85 (k).toNatClampNeg).toNatClampNeg - I 86 (k).toNatClampNeg < U (I 84 (k).toNatClampNeg).toNatClampNeg) := Int32.not_lt.mpr c4
                rw [if_neg x1, if_neg x2, if_neg (fun h => h.elim x1 x2)]
              have ht2 := tP_step hb (by decide) hC h0 hk ht
              rw [e9] at ht2
              exact hq 1 _ _ (mJ_out hJ ht2 ha3 (Int32.not_le.mp c6)) (Or.inr rfl)
        · refine ⟨?_, ?_⟩
          · have hkk : k < I 65 4 := by clear ih hq hout; grind
            have h9 := hx hkk
            have h8 := hb.1
            exact vb (x := I 85 ((k).toNatClampNeg)) (N := 12) 12 (by decide) (by clear ih hq hout; grind) (by clear ih hq hout; grind)
          refine ⟨?_, ?_⟩
          · have hkk : k < I 65 4 := by clear ih hq hout; grind
            have h9 := hx hkk
            have h8 := hb.1
            exact vb (x := k) (N := 20) 20 (by decide) (by clear ih hq hout; grind) (by clear ih hq hout; grind)
          refine ⟨?_, ?_⟩
          · have hkk : k < I 65 4 := by clear ih hq hout; grind
            have h9 := hx hkk
            have h8 := hb.1
            exact vb (x := I 84 ((k).toNatClampNeg)) (N := 12) 12 (by decide) (by clear ih hq hout; grind) (by clear ih hq hout; grind)
          refine qJ_M (M2 := (z, N, qRow (qRow I 82 E) 83 (uI U ((I 84 ((k).toNatClampNeg)).toNatClampNeg) ((U ((I 85 ((k).toNatClampNeg)).toNatClampNeg)) - (I 86 ((k).toNatClampNeg)))), L, R)) (by (try dsimp only); (simp (decide := true) only [q2_qRow, q2_qRow2, q2_qRow3]) <;> rfl) ?_
          change qJ m_X12_clashes (qWP _) Q 177 [(5, .int (I 85 ((k).toNatClampNeg))), (4, .int (I 84 ((k).toNatClampNeg))), (3, .int k), (2, .int m), (1, .int g), (0, .ref 65)] [] _ _ (z, N, qRow (qRow I 82 E) 83 (uI U ((I 84 ((k).toNatClampNeg)).toNatClampNeg) ((U ((I 85 ((k).toNatClampNeg)).toNatClampNeg)) - (I 86 ((k).toNatClampNeg)))), L, R)
          refine qJ_run (qWP_mono _) [42, 50, 130, 177] 400 ?_
          refine ⟨?_, ?_⟩
          · have hkk : k < I 65 4 := by clear ih hq hout; grind
            have h9 := hx hkk
            have h8 := hb.1
            exact vb (x := I 85 ((k).toNatClampNeg)) (N := 12) 12 (by decide) (by clear ih hq hout; grind) (by clear ih hq hout; grind)
          refine ⟨?_, ?_⟩
          · have hkk : k < I 65 4 := by clear ih hq hout; grind
            have h9 := hx hkk
            have h8 := hb.1
            exact vb (x := I 85 ((k).toNatClampNeg)) (N := 12) 12 (by decide) (by clear ih hq hout; grind) (by clear ih hq hout; grind)
          refine ⟨fun (c7 : ((uI U ((I 84 ((k).toNatClampNeg)).toNatClampNeg) ((U ((I 85 ((k).toNatClampNeg)).toNatClampNeg)) - (I 86 ((k).toNatClampNeg)))) ((I 85 ((k).toNatClampNeg)).toNatClampNeg)) < (E ((I 85 ((k).toNatClampNeg)).toNatClampNeg))) => ?_, fun (c7 : ¬ ((uI U ((I 84 ((k).toNatClampNeg)).toNatClampNeg) ((U ((I 85 ((k).toNatClampNeg)).toNatClampNeg)) - (I 86 ((k).toNatClampNeg)))) ((I 85 ((k).toNatClampNeg)).toNatClampNeg)) < (E ((I 85 ((k).toNatClampNeg)).toNatClampNeg))) => ?_⟩
          · refine ⟨by first | exact Or.inl rfl | exact Or.inr rfl | (clear ih hq hout; grind), ?_⟩
            change Q (some (.int 1)) (z, N, qRow (qRow I 82 E) 83 (uI U ((I 84 ((k).toNatClampNeg)).toNatClampNeg) ((U ((I 85 ((k).toNatClampNeg)).toNatClampNeg)) - (I 86 ((k).toNatClampNeg)))), L, R)
            have hkk : k < I 65 4 := by clear ih hq hout; grind
            obtain ⟨ha9, hb9, hd3, ha3, hb3, hk20⟩ := hx hkk
            have hbd : (-1000000 ≤ (E (I 84 k.toNatClampNeg).toNatClampNeg).toInt ∧ (E (I 84 k.toNatClampNeg).toNatClampNeg).toInt ≤ 1000000) ∧ -1000000 ≤ (U (I 85 k.toNatClampNeg).toNatClampNeg).toInt ∧ (U (I 85 k.toNatClampNeg).toNatClampNeg).toInt ≤ 1000000 := by
              have q1 := ht.1 _ ha3
              have q2 := ht.1 _ hb3
              have q3 := hC _ ha3
              have q4 := hC _ hb3
              have q5 := i0 h0
              dsimp only at q1 q2
              omega
            have hk : k < I 65 4 := by clear ih hq hout; grind
            have e9 : gTi (I 84) (I 85) (I 86) g k (E, U, m) = (E, uI U ((I 84 ((k).toNatClampNeg)).toNatClampNeg) ((U ((I 85 ((k).toNatClampNeg)).toNatClampNeg)) - (I 86 ((k).toNatClampNeg))), 1) := by
              unfold gTi
              rw [if_pos ((and1 _).resolve_left c2)]
              unfold gT1 stE stU
              dsimp only
              have x1 : ¬ (E (I 85 (k).toNatClampNeg).toNatClampNeg < E (I 84 (k).toNatClampNeg).toNatClampNeg + I 86 (k).toNatClampNeg) := Int32.not_lt.mpr c3
              have x2 : (U (I 85 (k).toNatClampNeg).toNatClampNeg - I 86 (k).toNatClampNeg < U (I 84 (k).toNatClampNeg).toNatClampNeg) := Int32.not_le.mp c4
              rw [if_neg x1, if_pos x2, if_pos (Or.inr x2)]
            have ht2 := tP_step hb (by decide) hC h0 hk ht
            rw [e9] at ht2
            exact hq 1 _ _ (mJ_out hJ ht2 hb3 c7) (Or.inr rfl)
          · refine ⟨?_, ?_⟩
            · have hkk : k < I 65 4 := by clear ih hq hout; grind
              have h9 := hx hkk
              have h8 := hb.1
              exact vb (x := I 84 ((k).toNatClampNeg)) (N := 12) 12 (by decide) (by clear ih hq hout; grind) (by clear ih hq hout; grind)
            refine ⟨?_, ?_⟩
            · have hkk : k < I 65 4 := by clear ih hq hout; grind
              have h9 := hx hkk
              have h8 := hb.1
              exact vb (x := I 84 ((k).toNatClampNeg)) (N := 12) 12 (by decide) (by clear ih hq hout; grind) (by clear ih hq hout; grind)
            refine ⟨fun (c8 : (E ((I 84 ((k).toNatClampNeg)).toNatClampNeg)) ≤ ((uI U ((I 84 ((k).toNatClampNeg)).toNatClampNeg) ((U ((I 85 ((k).toNatClampNeg)).toNatClampNeg)) - (I 86 ((k).toNatClampNeg)))) ((I 84 ((k).toNatClampNeg)).toNatClampNeg))) => ?_, fun (c8 : ¬ (E ((I 84 ((k).toNatClampNeg)).toNatClampNeg)) ≤ ((uI U ((I 84 ((k).toNatClampNeg)).toNatClampNeg) ((U ((I 85 ((k).toNatClampNeg)).toNatClampNeg)) - (I 86 ((k).toNatClampNeg)))) ((I 84 ((k).toNatClampNeg)).toNatClampNeg))) => ?_⟩
            · refine qJ_nm (qWP_mono _) [(5, _), (4, _)] [(3, .int (k + 1)), (2, .int 1), (1, .int g), (0, .ref 65)] rfl rfl rfl ?_
              have hkk : k < I 65 4 := by clear ih hq hout; grind
              obtain ⟨ha9, hb9, hd3, ha3, hb3, hk20⟩ := hx hkk
              have hbd : (-1000000 ≤ (E (I 84 k.toNatClampNeg).toNatClampNeg).toInt ∧ (E (I 84 k.toNatClampNeg).toNatClampNeg).toInt ≤ 1000000) ∧ -1000000 ≤ (U (I 85 k.toNatClampNeg).toNatClampNeg).toInt ∧ (U (I 85 k.toNatClampNeg).toNatClampNeg).toInt ≤ 1000000 := by
                have q1 := ht.1 _ ha3
                have q2 := ht.1 _ hb3
                have q3 := hC _ ha3
                have q4 := hC _ hb3
                have q5 := i0 h0
                dsimp only at q1 q2
                omega
              have hk : k < I 65 4 := by clear ih hq hout; grind
              have e9 : gTi (I 84) (I 85) (I 86) g k (E, U, m) = (E, uI U ((I 84 ((k).toNatClampNeg)).toNatClampNeg) ((U ((I 85 ((k).toNatClampNeg)).toNatClampNeg)) - (I 86 ((k).toNatClampNeg))), 1) := by
                unfold gTi
                rw [if_pos ((and1 _).resolve_left c2)]
                unfold gT1 stE stU
                dsimp only
                have x1 : ¬ (E (I 85 (k).toNatClampNeg).toNatClampNeg < E (I 84 (k).toNatClampNeg).toNatClampNeg + I 86 (k).toNatClampNeg) := Int32.not_lt.mpr c3
                have x2 : (U (I 85 (k).toNatClampNeg).toNatClampNeg - I 86 (k).toNatClampNeg < U (I 84 (k).toNatClampNeg).toNatClampNeg) := Int32.not_le.mp c4
                rw [if_neg x1, if_pos x2, if_pos (Or.inr x2)]
              have ht2 := tP_step hb (by decide) hC h0 hk ht
              rw [e9] at ht2
              have hle := gTi_le (bits := g) (S := (E, U, m)) hd3 hbd hEU (by rw [e9]; exact Int32.not_lt.mpr c8) (by rw [e9]; exact Int32.not_lt.mpr (Int32.not_lt.mp c7))
              rw [e9] at hle
              exact ih hk _ _ _ (by clear ih hq hout; grind) (by clear ih hq hout ht ht2; grind) ht2 hle
            · refine ⟨by first | exact Or.inl rfl | exact Or.inr rfl | (clear ih hq hout; grind), ?_⟩
              change Q (some (.int 1)) (z, N, qRow (qRow I 82 E) 83 (uI U ((I 84 ((k).toNatClampNeg)).toNatClampNeg) ((U ((I 85 ((k).toNatClampNeg)).toNatClampNeg)) - (I 86 ((k).toNatClampNeg)))), L, R)
              have hkk : k < I 65 4 := by clear ih hq hout; grind
              obtain ⟨ha9, hb9, hd3, ha3, hb3, hk20⟩ := hx hkk
              have hbd : (-1000000 ≤ (E (I 84 k.toNatClampNeg).toNatClampNeg).toInt ∧ (E (I 84 k.toNatClampNeg).toNatClampNeg).toInt ≤ 1000000) ∧ -1000000 ≤ (U (I 85 k.toNatClampNeg).toNatClampNeg).toInt ∧ (U (I 85 k.toNatClampNeg).toNatClampNeg).toInt ≤ 1000000 := by
                have q1 := ht.1 _ ha3
                have q2 := ht.1 _ hb3
                have q3 := hC _ ha3
                have q4 := hC _ hb3
                have q5 := i0 h0
                dsimp only at q1 q2
                omega
              have hk : k < I 65 4 := by clear ih hq hout; grind
              have e9 : gTi (I 84) (I 85) (I 86) g k (E, U, m) = (E, uI U ((I 84 ((k).toNatClampNeg)).toNatClampNeg) ((U ((I 85 ((k).toNatClampNeg)).toNatClampNeg)) - (I 86 ((k).toNatClampNeg))), 1) := by
                unfold gTi
                rw [if_pos ((and1 _).resolve_left c2)]
                unfold gT1 stE stU
                dsimp only
                have x1 : ¬ (E (I 85 (k).toNatClampNeg).toNatClampNeg < E (I 84 (k).toNatClampNeg).toNatClampNeg + I 86 (k).toNatClampNeg) := Int32.not_lt.mpr c3
                have x2 : (U (I 85 (k).toNatClampNeg).toNatClampNeg - I 86 (k).toNatClampNeg < U (I 84 (k).toNatClampNeg).toNatClampNeg) := Int32.not_le.mp c4
                rw [if_neg x1, if_pos x2, if_pos (Or.inr x2)]
              have ht2 := tP_step hb (by decide) hC h0 hk ht
              rw [e9] at ht2
              exact hq 1 _ _ (mJ_out hJ ht2 ha3 (Int32.not_le.mp c8)) (Or.inr rfl)
      · refine ⟨?_, ?_⟩
        · have hkk : k < I 65 4 := by clear ih hq hout; grind
          have h9 := hx hkk
          have h8 := hb.1
          exact vb (x := I 84 ((k).toNatClampNeg)) (N := 12) 12 (by decide) (by clear ih hq hout; grind) (by clear ih hq hout; grind)
        refine ⟨?_, ?_⟩
        · have hkk : k < I 65 4 := by clear ih hq hout; grind
          have h9 := hx hkk
          have h8 := hb.1
          exact vb (x := k) (N := 20) 20 (by decide) (by clear ih hq hout; grind) (by clear ih hq hout; grind)
        refine ⟨?_, ?_⟩
        · have hkk : k < I 65 4 := by clear ih hq hout; grind
          have h9 := hx hkk
          have h8 := hb.1
          exact vb (x := I 85 ((k).toNatClampNeg)) (N := 12) 12 (by decide) (by clear ih hq hout; grind) (by clear ih hq hout; grind)
        refine qJ_M (M2 := (z, N, qRow (qRow I 82 (uI E ((I 85 ((k).toNatClampNeg)).toNatClampNeg) ((E ((I 84 ((k).toNatClampNeg)).toNatClampNeg)) + (I 86 ((k).toNatClampNeg))))) 83 U, L, R)) (by (try dsimp only); (simp (decide := true) only [q2_qRow, q2_qRow2, q2_qRow3]) <;> rfl) ?_
        change qJ m_X12_clashes (qWP _) Q 130 [(5, .int (I 85 ((k).toNatClampNeg))), (4, .int (I 84 ((k).toNatClampNeg))), (3, .int k), (2, .int m), (1, .int g), (0, .ref 65)] [] _ _ (z, N, qRow (qRow I 82 (uI E ((I 85 ((k).toNatClampNeg)).toNatClampNeg) ((E ((I 84 ((k).toNatClampNeg)).toNatClampNeg)) + (I 86 ((k).toNatClampNeg))))) 83 U, L, R)
        refine qJ_run (qWP_mono _) [42, 50, 130, 177] 400 ?_
        refine ⟨?_, ?_⟩
        · have hkk : k < I 65 4 := by clear ih hq hout; grind
          have h9 := hx hkk
          have h8 := hb.1
          exact vb (x := I 84 ((k).toNatClampNeg)) (N := 12) 12 (by decide) (by clear ih hq hout; grind) (by clear ih hq hout; grind)
        refine ⟨?_, ?_⟩
        · have hkk : k < I 65 4 := by clear ih hq hout; grind
          have h9 := hx hkk
          have h8 := hb.1
          exact vb (x := I 85 ((k).toNatClampNeg)) (N := 12) 12 (by decide) (by clear ih hq hout; grind) (by clear ih hq hout; grind)
        refine ⟨?_, ?_⟩
        · have hkk : k < I 65 4 := by clear ih hq hout; grind
          have h9 := hx hkk
          have h8 := hb.1
          exact vb (x := k) (N := 20) 20 (by decide) (by clear ih hq hout; grind) (by clear ih hq hout; grind)
        refine ⟨fun (c9 : (U ((I 84 ((k).toNatClampNeg)).toNatClampNeg)) ≤ ((U ((I 85 ((k).toNatClampNeg)).toNatClampNeg)) - (I 86 ((k).toNatClampNeg)))) => ?_, fun (c9 : ¬ (U ((I 84 ((k).toNatClampNeg)).toNatClampNeg)) ≤ ((U ((I 85 ((k).toNatClampNeg)).toNatClampNeg)) - (I 86 ((k).toNatClampNeg)))) => ?_⟩
        · refine ⟨?_, ?_⟩
          · have hkk : k < I 65 4 := by clear ih hq hout; grind
            have h9 := hx hkk
            have h8 := hb.1
            exact vb (x := I 85 ((k).toNatClampNeg)) (N := 12) 12 (by decide) (by clear ih hq hout; grind) (by clear ih hq hout; grind)
          refine ⟨?_, ?_⟩
          · have hkk : k < I 65 4 := by clear ih hq hout; grind
            have h9 := hx hkk
            have h8 := hb.1
            exact vb (x := I 85 ((k).toNatClampNeg)) (N := 12) 12 (by decide) (by clear ih hq hout; grind) (by clear ih hq hout; grind)
          refine ⟨fun (c10 : (U ((I 85 ((k).toNatClampNeg)).toNatClampNeg)) < ((uI E ((I 85 ((k).toNatClampNeg)).toNatClampNeg) ((E ((I 84 ((k).toNatClampNeg)).toNatClampNeg)) + (I 86 ((k).toNatClampNeg)))) ((I 85 ((k).toNatClampNeg)).toNatClampNeg))) => ?_, fun (c10 : ¬ (U ((I 85 ((k).toNatClampNeg)).toNatClampNeg)) < ((uI E ((I 85 ((k).toNatClampNeg)).toNatClampNeg) ((E ((I 84 ((k).toNatClampNeg)).toNatClampNeg)) + (I 86 ((k).toNatClampNeg)))) ((I 85 ((k).toNatClampNeg)).toNatClampNeg))) => ?_⟩
          · refine ⟨by first | exact Or.inl rfl | exact Or.inr rfl | (clear ih hq hout; grind), ?_⟩
            change Q (some (.int 1)) (z, N, qRow (qRow I 82 (uI E ((I 85 ((k).toNatClampNeg)).toNatClampNeg) ((E ((I 84 ((k).toNatClampNeg)).toNatClampNeg)) + (I 86 ((k).toNatClampNeg))))) 83 U, L, R)
            have hkk : k < I 65 4 := by clear ih hq hout; grind
            obtain ⟨ha9, hb9, hd3, ha3, hb3, hk20⟩ := hx hkk
            have hbd : (-1000000 ≤ (E (I 84 k.toNatClampNeg).toNatClampNeg).toInt ∧ (E (I 84 k.toNatClampNeg).toNatClampNeg).toInt ≤ 1000000) ∧ -1000000 ≤ (U (I 85 k.toNatClampNeg).toNatClampNeg).toInt ∧ (U (I 85 k.toNatClampNeg).toNatClampNeg).toInt ≤ 1000000 := by
              have q1 := ht.1 _ ha3
              have q2 := ht.1 _ hb3
              have q3 := hC _ ha3
              have q4 := hC _ hb3
              have q5 := i0 h0
              dsimp only at q1 q2
              omega
            have hk : k < I 65 4 := by clear ih hq hout; grind
            have e9 : gTi (I 84) (I 85) (I 86) g k (E, U, m) = (uI E ((I 85 ((k).toNatClampNeg)).toNatClampNeg) ((E ((I 84 ((k).toNatClampNeg)).toNatClampNeg)) + (I 86 ((k).toNatClampNeg))), U, 1) := by
              unfold gTi
              rw [if_pos ((and1 _).resolve_left c2)]
              unfold gT1 stE stU
              dsimp only
              have x1 : (E (I 85 (k).toNatClampNeg).toNatClampNeg < E (I 84 (k).toNatClampNeg).toNatClampNeg + I 86 (k).toNatClampNeg) := Int32.not_le.mp c3
              have x2 : ¬ (U (I 85 (k).toNatClampNeg).toNatClampNeg - I 86 (k).toNatClampNeg < U (I 84 (k).toNatClampNeg).toNatClampNeg) := Int32.not_lt.mpr c9
              rw [if_pos x1, if_neg x2, if_pos (Or.inl x1)]
            have ht2 := tP_step hb (by decide) hC h0 hk ht
            rw [e9] at ht2
            exact hq 1 _ _ (mJ_out hJ ht2 hb3 c10) (Or.inr rfl)
          · refine ⟨?_, ?_⟩
            · have hkk : k < I 65 4 := by clear ih hq hout; grind
              have h9 := hx hkk
              have h8 := hb.1
              exact vb (x := I 84 ((k).toNatClampNeg)) (N := 12) 12 (by decide) (by clear ih hq hout; grind) (by clear ih hq hout; grind)
            refine ⟨?_, ?_⟩
            · have hkk : k < I 65 4 := by clear ih hq hout; grind
              have h9 := hx hkk
              have h8 := hb.1
              exact vb (x := I 84 ((k).toNatClampNeg)) (N := 12) 12 (by decide) (by clear ih hq hout; grind) (by clear ih hq hout; grind)
            refine ⟨fun (c11 : ((uI E ((I 85 ((k).toNatClampNeg)).toNatClampNeg) ((E ((I 84 ((k).toNatClampNeg)).toNatClampNeg)) + (I 86 ((k).toNatClampNeg)))) ((I 84 ((k).toNatClampNeg)).toNatClampNeg)) ≤ (U ((I 84 ((k).toNatClampNeg)).toNatClampNeg))) => ?_, fun (c11 : ¬ ((uI E ((I 85 ((k).toNatClampNeg)).toNatClampNeg) ((E ((I 84 ((k).toNatClampNeg)).toNatClampNeg)) + (I 86 ((k).toNatClampNeg)))) ((I 84 ((k).toNatClampNeg)).toNatClampNeg)) ≤ (U ((I 84 ((k).toNatClampNeg)).toNatClampNeg))) => ?_⟩
            · refine qJ_nm (qWP_mono _) [(5, _), (4, _)] [(3, .int (k + 1)), (2, .int 1), (1, .int g), (0, .ref 65)] rfl rfl rfl ?_
              have hkk : k < I 65 4 := by clear ih hq hout; grind
              obtain ⟨ha9, hb9, hd3, ha3, hb3, hk20⟩ := hx hkk
              have hbd : (-1000000 ≤ (E (I 84 k.toNatClampNeg).toNatClampNeg).toInt ∧ (E (I 84 k.toNatClampNeg).toNatClampNeg).toInt ≤ 1000000) ∧ -1000000 ≤ (U (I 85 k.toNatClampNeg).toNatClampNeg).toInt ∧ (U (I 85 k.toNatClampNeg).toNatClampNeg).toInt ≤ 1000000 := by
                have q1 := ht.1 _ ha3
                have q2 := ht.1 _ hb3
                have q3 := hC _ ha3
                have q4 := hC _ hb3
                have q5 := i0 h0
                dsimp only at q1 q2
                omega
              have hk : k < I 65 4 := by clear ih hq hout; grind
              have e9 : gTi (I 84) (I 85) (I 86) g k (E, U, m) = (uI E ((I 85 ((k).toNatClampNeg)).toNatClampNeg) ((E ((I 84 ((k).toNatClampNeg)).toNatClampNeg)) + (I 86 ((k).toNatClampNeg))), U, 1) := by
                unfold gTi
                rw [if_pos ((and1 _).resolve_left c2)]
                unfold gT1 stE stU
                dsimp only
                have x1 : (E (I 85 (k).toNatClampNeg).toNatClampNeg < E (I 84 (k).toNatClampNeg).toNatClampNeg + I 86 (k).toNatClampNeg) := Int32.not_le.mp c3
                have x2 : ¬ (U (I 85 (k).toNatClampNeg).toNatClampNeg - I 86 (k).toNatClampNeg < U (I 84 (k).toNatClampNeg).toNatClampNeg) := Int32.not_lt.mpr c9
                rw [if_pos x1, if_neg x2, if_pos (Or.inl x1)]
              have ht2 := tP_step hb (by decide) hC h0 hk ht
              rw [e9] at ht2
              have hle := gTi_le (bits := g) (S := (E, U, m)) hd3 hbd hEU (by rw [e9]; exact Int32.not_lt.mpr c11) (by rw [e9]; exact Int32.not_lt.mpr (Int32.not_lt.mp c10))
              rw [e9] at hle
              exact ih hk _ _ _ (by clear ih hq hout; grind) (by clear ih hq hout ht ht2; grind) ht2 hle
            · refine ⟨by first | exact Or.inl rfl | exact Or.inr rfl | (clear ih hq hout; grind), ?_⟩
              change Q (some (.int 1)) (z, N, qRow (qRow I 82 (uI E ((I 85 ((k).toNatClampNeg)).toNatClampNeg) ((E ((I 84 ((k).toNatClampNeg)).toNatClampNeg)) + (I 86 ((k).toNatClampNeg))))) 83 U, L, R)
              have hkk : k < I 65 4 := by clear ih hq hout; grind
              obtain ⟨ha9, hb9, hd3, ha3, hb3, hk20⟩ := hx hkk
              have hbd : (-1000000 ≤ (E (I 84 k.toNatClampNeg).toNatClampNeg).toInt ∧ (E (I 84 k.toNatClampNeg).toNatClampNeg).toInt ≤ 1000000) ∧ -1000000 ≤ (U (I 85 k.toNatClampNeg).toNatClampNeg).toInt ∧ (U (I 85 k.toNatClampNeg).toNatClampNeg).toInt ≤ 1000000 := by
                have q1 := ht.1 _ ha3
                have q2 := ht.1 _ hb3
                have q3 := hC _ ha3
                have q4 := hC _ hb3
                have q5 := i0 h0
                dsimp only at q1 q2
                omega
              have hk : k < I 65 4 := by clear ih hq hout; grind
              have e9 : gTi (I 84) (I 85) (I 86) g k (E, U, m) = (uI E ((I 85 ((k).toNatClampNeg)).toNatClampNeg) ((E ((I 84 ((k).toNatClampNeg)).toNatClampNeg)) + (I 86 ((k).toNatClampNeg))), U, 1) := by
                unfold gTi
                rw [if_pos ((and1 _).resolve_left c2)]
                unfold gT1 stE stU
                dsimp only
                have x1 : (E (I 85 (k).toNatClampNeg).toNatClampNeg < E (I 84 (k).toNatClampNeg).toNatClampNeg + I 86 (k).toNatClampNeg) := Int32.not_le.mp c3
                have x2 : ¬ (U (I 85 (k).toNatClampNeg).toNatClampNeg - I 86 (k).toNatClampNeg < U (I 84 (k).toNatClampNeg).toNatClampNeg) := Int32.not_lt.mpr c9
                rw [if_pos x1, if_neg x2, if_pos (Or.inl x1)]
              have ht2 := tP_step hb (by decide) hC h0 hk ht
              rw [e9] at ht2
              exact hq 1 _ _ (mJ_out hJ ht2 ha3 (Int32.not_le.mp c11)) (Or.inr rfl)
        · refine ⟨?_, ?_⟩
          · have hkk : k < I 65 4 := by clear ih hq hout; grind
            have h9 := hx hkk
            have h8 := hb.1
            exact vb (x := I 85 ((k).toNatClampNeg)) (N := 12) 12 (by decide) (by clear ih hq hout; grind) (by clear ih hq hout; grind)
          refine ⟨?_, ?_⟩
          · have hkk : k < I 65 4 := by clear ih hq hout; grind
            have h9 := hx hkk
            have h8 := hb.1
            exact vb (x := k) (N := 20) 20 (by decide) (by clear ih hq hout; grind) (by clear ih hq hout; grind)
          refine ⟨?_, ?_⟩
          · have hkk : k < I 65 4 := by clear ih hq hout; grind
            have h9 := hx hkk
            have h8 := hb.1
            exact vb (x := I 84 ((k).toNatClampNeg)) (N := 12) 12 (by decide) (by clear ih hq hout; grind) (by clear ih hq hout; grind)
          refine qJ_M (M2 := (z, N, qRow (qRow I 82 (uI E ((I 85 ((k).toNatClampNeg)).toNatClampNeg) ((E ((I 84 ((k).toNatClampNeg)).toNatClampNeg)) + (I 86 ((k).toNatClampNeg))))) 83 (uI U ((I 84 ((k).toNatClampNeg)).toNatClampNeg) ((U ((I 85 ((k).toNatClampNeg)).toNatClampNeg)) - (I 86 ((k).toNatClampNeg)))), L, R)) (by (try dsimp only); (simp (decide := true) only [q2_qRow, q2_qRow2, q2_qRow3]) <;> rfl) ?_
          change qJ m_X12_clashes (qWP _) Q 177 [(2, .int 1), (5, .int (I 85 ((k).toNatClampNeg))), (4, .int (I 84 ((k).toNatClampNeg))), (3, .int k), (1, .int g), (0, .ref 65)] [] _ _ (z, N, qRow (qRow I 82 (uI E ((I 85 ((k).toNatClampNeg)).toNatClampNeg) ((E ((I 84 ((k).toNatClampNeg)).toNatClampNeg)) + (I 86 ((k).toNatClampNeg))))) 83 (uI U ((I 84 ((k).toNatClampNeg)).toNatClampNeg) ((U ((I 85 ((k).toNatClampNeg)).toNatClampNeg)) - (I 86 ((k).toNatClampNeg)))), L, R)
          refine qJ_run (qWP_mono _) [42, 50, 130, 177] 400 ?_
          refine ⟨?_, ?_⟩
          · have hkk : k < I 65 4 := by clear ih hq hout; grind
            have h9 := hx hkk
            have h8 := hb.1
            exact vb (x := I 85 ((k).toNatClampNeg)) (N := 12) 12 (by decide) (by clear ih hq hout; grind) (by clear ih hq hout; grind)
          refine ⟨?_, ?_⟩
          · have hkk : k < I 65 4 := by clear ih hq hout; grind
            have h9 := hx hkk
            have h8 := hb.1
            exact vb (x := I 85 ((k).toNatClampNeg)) (N := 12) 12 (by decide) (by clear ih hq hout; grind) (by clear ih hq hout; grind)
          refine ⟨fun (c12 : ((uI U ((I 84 ((k).toNatClampNeg)).toNatClampNeg) ((U ((I 85 ((k).toNatClampNeg)).toNatClampNeg)) - (I 86 ((k).toNatClampNeg)))) ((I 85 ((k).toNatClampNeg)).toNatClampNeg)) < ((uI E ((I 85 ((k).toNatClampNeg)).toNatClampNeg) ((E ((I 84 ((k).toNatClampNeg)).toNatClampNeg)) + (I 86 ((k).toNatClampNeg)))) ((I 85 ((k).toNatClampNeg)).toNatClampNeg))) => ?_, fun (c12 : ¬ ((uI U ((I 84 ((k).toNatClampNeg)).toNatClampNeg) ((U ((I 85 ((k).toNatClampNeg)).toNatClampNeg)) - (I 86 ((k).toNatClampNeg)))) ((I 85 ((k).toNatClampNeg)).toNatClampNeg)) < ((uI E ((I 85 ((k).toNatClampNeg)).toNatClampNeg) ((E ((I 84 ((k).toNatClampNeg)).toNatClampNeg)) + (I 86 ((k).toNatClampNeg)))) ((I 85 ((k).toNatClampNeg)).toNatClampNeg))) => ?_⟩
          · refine ⟨by first | exact Or.inl rfl | exact Or.inr rfl | (clear ih hq hout; grind), ?_⟩
            change Q (some (.int 1)) (z, N, qRow (qRow I 82 (uI E ((I 85 ((k).toNatClampNeg)).toNatClampNeg) ((E ((I 84 ((k).toNatClampNeg)).toNatClampNeg)) + (I 86 ((k).toNatClampNeg))))) 83 (uI U ((I 84 ((k).toNatClampNeg)).toNatClampNeg) ((U ((I 85 ((k).toNatClampNeg)).toNatClampNeg)) - (I 86 ((k).toNatClampNeg)))), L, R)
            have hkk : k < I 65 4 := by clear ih hq hout; grind
            obtain ⟨ha9, hb9, hd3, ha3, hb3, hk20⟩ := hx hkk
            have hbd : (-1000000 ≤ (E (I 84 k.toNatClampNeg).toNatClampNeg).toInt ∧ (E (I 84 k.toNatClampNeg).toNatClampNeg).toInt ≤ 1000000) ∧ -1000000 ≤ (U (I 85 k.toNatClampNeg).toNatClampNeg).toInt ∧ (U (I 85 k.toNatClampNeg).toNatClampNeg).toInt ≤ 1000000 := by
              have q1 := ht.1 _ ha3
              have q2 := ht.1 _ hb3
              have q3 := hC _ ha3
              have q4 := hC _ hb3
              have q5 := i0 h0
              dsimp only at q1 q2
              omega
            have hk : k < I 65 4 := by clear ih hq hout; grind
            have e9 : gTi (I 84) (I 85) (I 86) g k (E, U, m) = (uI E ((I 85 ((k).toNatClampNeg)).toNatClampNeg) ((E ((I 84 ((k).toNatClampNeg)).toNatClampNeg)) + (I 86 ((k).toNatClampNeg))), uI U ((I 84 ((k).toNatClampNeg)).toNatClampNeg) ((U ((I 85 ((k).toNatClampNeg)).toNatClampNeg)) - (I 86 ((k).toNatClampNeg))), 1) := by
              unfold gTi
              rw [if_pos ((and1 _).resolve_left c2)]
              unfold gT1 stE stU
              dsimp only
              have x1 : (E (I 85 (k).toNatClampNeg).toNatClampNeg < E (I 84 (k).toNatClampNeg).toNatClampNeg + I 86 (k).toNatClampNeg) := Int32.not_le.mp c3
              have x2 : (U (I 85 (k).toNatClampNeg).toNatClampNeg - I 86 (k).toNatClampNeg < U (I 84 (k).toNatClampNeg).toNatClampNeg) := Int32.not_le.mp c9
              rw [if_pos x1, if_pos x2, if_pos (Or.inl x1)]
            have ht2 := tP_step hb (by decide) hC h0 hk ht
            rw [e9] at ht2
            exact hq 1 _ _ (mJ_out hJ ht2 hb3 c12) (Or.inr rfl)
          · refine ⟨?_, ?_⟩
            · have hkk : k < I 65 4 := by clear ih hq hout; grind
              have h9 := hx hkk
              have h8 := hb.1
              exact vb (x := I 84 ((k).toNatClampNeg)) (N := 12) 12 (by decide) (by clear ih hq hout; grind) (by clear ih hq hout; grind)
            refine ⟨?_, ?_⟩
            · have hkk : k < I 65 4 := by clear ih hq hout; grind
              have h9 := hx hkk
              have h8 := hb.1
              exact vb (x := I 84 ((k).toNatClampNeg)) (N := 12) 12 (by decide) (by clear ih hq hout; grind) (by clear ih hq hout; grind)
            refine ⟨fun (c13 : ((uI E ((I 85 ((k).toNatClampNeg)).toNatClampNeg) ((E ((I 84 ((k).toNatClampNeg)).toNatClampNeg)) + (I 86 ((k).toNatClampNeg)))) ((I 84 ((k).toNatClampNeg)).toNatClampNeg)) ≤ ((uI U ((I 84 ((k).toNatClampNeg)).toNatClampNeg) ((U ((I 85 ((k).toNatClampNeg)).toNatClampNeg)) - (I 86 ((k).toNatClampNeg)))) ((I 84 ((k).toNatClampNeg)).toNatClampNeg))) => ?_, fun (c13 : ¬ ((uI E ((I 85 ((k).toNatClampNeg)).toNatClampNeg) ((E ((I 84 ((k).toNatClampNeg)).toNatClampNeg)) + (I 86 ((k).toNatClampNeg)))) ((I 84 ((k).toNatClampNeg)).toNatClampNeg)) ≤ ((uI U ((I 84 ((k).toNatClampNeg)).toNatClampNeg) ((U ((I 85 ((k).toNatClampNeg)).toNatClampNeg)) - (I 86 ((k).toNatClampNeg)))) ((I 84 ((k).toNatClampNeg)).toNatClampNeg))) => ?_⟩
            · refine qJ_nm (qWP_mono _) [(5, _), (4, _)] [(3, .int (k + 1)), (2, .int 1), (1, .int g), (0, .ref 65)] rfl rfl rfl ?_
              have hkk : k < I 65 4 := by clear ih hq hout; grind
              obtain ⟨ha9, hb9, hd3, ha3, hb3, hk20⟩ := hx hkk
              have hbd : (-1000000 ≤ (E (I 84 k.toNatClampNeg).toNatClampNeg).toInt ∧ (E (I 84 k.toNatClampNeg).toNatClampNeg).toInt ≤ 1000000) ∧ -1000000 ≤ (U (I 85 k.toNatClampNeg).toNatClampNeg).toInt ∧ (U (I 85 k.toNatClampNeg).toNatClampNeg).toInt ≤ 1000000 := by
                have q1 := ht.1 _ ha3
                have q2 := ht.1 _ hb3
                have q3 := hC _ ha3
                have q4 := hC _ hb3
                have q5 := i0 h0
                dsimp only at q1 q2
                omega
              have hk : k < I 65 4 := by clear ih hq hout; grind
              have e9 : gTi (I 84) (I 85) (I 86) g k (E, U, m) = (uI E ((I 85 ((k).toNatClampNeg)).toNatClampNeg) ((E ((I 84 ((k).toNatClampNeg)).toNatClampNeg)) + (I 86 ((k).toNatClampNeg))), uI U ((I 84 ((k).toNatClampNeg)).toNatClampNeg) ((U ((I 85 ((k).toNatClampNeg)).toNatClampNeg)) - (I 86 ((k).toNatClampNeg))), 1) := by
                unfold gTi
                rw [if_pos ((and1 _).resolve_left c2)]
                unfold gT1 stE stU
                dsimp only
                have x1 : (E (I 85 (k).toNatClampNeg).toNatClampNeg < E (I 84 (k).toNatClampNeg).toNatClampNeg + I 86 (k).toNatClampNeg) := Int32.not_le.mp c3
                have x2 : (U (I 85 (k).toNatClampNeg).toNatClampNeg - I 86 (k).toNatClampNeg < U (I 84 (k).toNatClampNeg).toNatClampNeg) := Int32.not_le.mp c9
                rw [if_pos x1, if_pos x2, if_pos (Or.inl x1)]
              have ht2 := tP_step hb (by decide) hC h0 hk ht
              rw [e9] at ht2
              have hle := gTi_le (bits := g) (S := (E, U, m)) hd3 hbd hEU (by rw [e9]; exact Int32.not_lt.mpr c13) (by rw [e9]; exact Int32.not_lt.mpr (Int32.not_lt.mp c12))
              rw [e9] at hle
              exact ih hk _ _ _ (by clear ih hq hout; grind) (by clear ih hq hout ht ht2; grind) ht2 hle
            · refine ⟨by first | exact Or.inl rfl | exact Or.inr rfl | (clear ih hq hout; grind), ?_⟩
              change Q (some (.int 1)) (z, N, qRow (qRow I 82 (uI E ((I 85 ((k).toNatClampNeg)).toNatClampNeg) ((E ((I 84 ((k).toNatClampNeg)).toNatClampNeg)) + (I 86 ((k).toNatClampNeg))))) 83 (uI U ((I 84 ((k).toNatClampNeg)).toNatClampNeg) ((U ((I 85 ((k).toNatClampNeg)).toNatClampNeg)) - (I 86 ((k).toNatClampNeg)))), L, R)
              have hkk : k < I 65 4 := by clear ih hq hout; grind
              obtain ⟨ha9, hb9, hd3, ha3, hb3, hk20⟩ := hx hkk
              have hbd : (-1000000 ≤ (E (I 84 k.toNatClampNeg).toNatClampNeg).toInt ∧ (E (I 84 k.toNatClampNeg).toNatClampNeg).toInt ≤ 1000000) ∧ -1000000 ≤ (U (I 85 k.toNatClampNeg).toNatClampNeg).toInt ∧ (U (I 85 k.toNatClampNeg).toNatClampNeg).toInt ≤ 1000000 := by
                have q1 := ht.1 _ ha3
                have q2 := ht.1 _ hb3
                have q3 := hC _ ha3
                have q4 := hC _ hb3
                have q5 := i0 h0
                dsimp only at q1 q2
                omega
              have hk : k < I 65 4 := by clear ih hq hout; grind
              have e9 : gTi (I 84) (I 85) (I 86) g k (E, U, m) = (uI E ((I 85 ((k).toNatClampNeg)).toNatClampNeg) ((E ((I 84 ((k).toNatClampNeg)).toNatClampNeg)) + (I 86 ((k).toNatClampNeg))), uI U ((I 84 ((k).toNatClampNeg)).toNatClampNeg) ((U ((I 85 ((k).toNatClampNeg)).toNatClampNeg)) - (I 86 ((k).toNatClampNeg))), 1) := by
                unfold gTi
                rw [if_pos ((and1 _).resolve_left c2)]
                unfold gT1 stE stU
                dsimp only
                have x1 : (E (I 85 (k).toNatClampNeg).toNatClampNeg < E (I 84 (k).toNatClampNeg).toNatClampNeg + I 86 (k).toNatClampNeg) := Int32.not_le.mp c3
                have x2 : (U (I 85 (k).toNatClampNeg).toNatClampNeg - I 86 (k).toNatClampNeg < U (I 84 (k).toNatClampNeg).toNatClampNeg) := Int32.not_le.mp c9
                rw [if_pos x1, if_pos x2, if_pos (Or.inl x1)]
              have ht2 := tP_step hb (by decide) hC h0 hk ht
              rw [e9] at ht2
              exact hq 1 _ _ (mJ_out hJ ht2 ha3 (Int32.not_le.mp c13)) (Or.inr rfl)
    · have hkk : k < I 65 4 := by clear ih hq hout; grind
      obtain ⟨ha9, hb9, hd3, ha3, hb3, hk20⟩ := hx hkk
      have hbd : (-1000000 ≤ (E (I 84 k.toNatClampNeg).toNatClampNeg).toInt ∧ (E (I 84 k.toNatClampNeg).toNatClampNeg).toInt ≤ 1000000) ∧ -1000000 ≤ (U (I 85 k.toNatClampNeg).toNatClampNeg).toInt ∧ (U (I 85 k.toNatClampNeg).toNatClampNeg).toInt ≤ 1000000 := by
        have q1 := ht.1 _ ha3
        have q2 := ht.1 _ hb3
        have q3 := hC _ ha3
        have q4 := hC _ hb3
        have q5 := i0 h0
        dsimp only at q1 q2
        omega
      have hk : k < I 65 4 := by clear ih hq hout; grind
      have e9 : gTi (I 84) (I 85) (I 86) g k (E, U, m) = (E, U, m) := by
        unfold gTi
        exact if_neg (fun h => by rw [c2] at h; exact absurd h (by decide))
      have ht2 := tP_step hb (by decide) hC h0 hk ht
      rw [e9] at ht2
      exact ih hk _ _ _ (by clear ih hq hout; grind) (by clear ih hq hout ht ht2; grind) ht2 hEU
theorem l_X12_clashes1 {d z : Nat} {N : Nat → Nat} {I : Nat → Nat → Int32} {L : Nat → Nat → Int64} {R : Nat → Nat → Option Nat} {Q : qP} {g : Int32} (hs : 0 ≤ I 65 0 ∧ I 65 0 ≤ 12) (hb : okB (I 65 0) (I 84) (I 85) (I 86) (I 65 4)) (hl : yLn (I 65 0).toNatClampNeg (I 80) (I 81)) (hq : (∀ (v : Int32) (E U : Nat → Int32), yO (I 65 0).toNatClampNeg (I 80) (I 81) (I 84) (I 85) (I 86) (I 65 4) g (I 65 0) 0 1 v E U → (v = 0 ∨ v = 1) → Q (some (.int v)) (z, N, qRow (qRow I 82 E) 83 U, L, R))) : ∀ (M : Nat) (E U : Nat → Int32) (m : Int32), mJ (I 65 0).toNatClampNeg (I 80) (I 81) (I 84) (I 85) (I 86) g (I 65 4) E U m → (m = 0 ∨ (m = 1 ∧ mM (I 65 0).toNatClampNeg E U < M)) → qJ m_X12_clashes (qWP (d + 0)) Q 42 [(2, .int m), (1, .int g), (0, .ref 65)] [] 0 0 (z, N, qRow (qRow I 82 E) 83 U, L, R) := by
  refine nat_ind fun M ih => ?_
  intro E U m hJ hM
  refine qJ_run (qWP_mono _) [50] 400 ?_
  refine ⟨fun (c1 : m = 0) => ?_, fun (c1 : ¬ m = 0) => ?_⟩
  · refine ⟨by first | exact Or.inl rfl | exact Or.inr rfl | (clear ih hq; grind), ?_⟩
    change Q (some (.int 0)) (z, N, qRow (qRow I 82 E) 83 U, L, R)
    have hm : m = 0 := by assumption
    subst hm
    exact hq 0 _ _ (mJ_end rfl hl hJ) (Or.inl rfl)
  · have hm : m = 1 ∧ mM (I 65 0).toNatClampNeg E U < M := hM.resolve_left (by assumption)
    obtain ⟨K, rfl⟩ : ∃ K, M = K + 1 := ⟨M - 1, by omega⟩
    have hz := hb.1.1
    refine l_X12_clashes2 (d := d) hs hb hl hJ (fun E2 U2 m2 hJ2 hM2 => ih K rfl E2 U2 m2 hJ2 (hM2.imp id fun h => ⟨h.1, by omega⟩)) hq 0 E U 0 (by decide) hz (tP_0 fun v hv => ?_) (fun v hv => (hJ.1 v hv).2.1)
    have := hJ.1 v hv
    have := hl v hv
    omega
theorem l_X12_clashes0 {d z : Nat} {N : Nat → Nat} {I : Nat → Nat → Int32} {L : Nat → Nat → Int64} {R : Nat → Nat → Option Nat} {Q : qP} {g : Int32} (hs : 0 ≤ I 65 0 ∧ I 65 0 ≤ 12) (hb : okB (I 65 0) (I 84) (I 85) (I 86) (I 65 4)) (hl : yLn (I 65 0).toNatClampNeg (I 80) (I 81)) : ∀ (k : Int32), ∀ (E U : Nat → Int32), 0 ≤ k → k ≤ I 65 0 → (∀ v, v < k.toNatClampNeg → E v = I 80 v ∧ U v = I 81 v) → (∀ (v : Int32) (E U : Nat → Int32), yO (I 65 0).toNatClampNeg (I 80) (I 81) (I 84) (I 85) (I 86) (I 65 4) g (I 65 0) 0 1 v E U → (v = 0 ∨ v = 1) → Q (some (.int v)) (z, N, qRow (qRow I 82 E) 83 U, L, R)) → qJ m_X12_clashes (qWP (d + 0)) Q 2 [(2, .int k), (1, .int g), (0, .ref 65)] [] 0 0 (z, N, qRow (qRow I 82 E) 83 U, L, R) := by
  refine up_ind (I 65 0) fun k ih => ?_
  intro E U h0 h1 hE hq
  refine qJ_run (qWP_mono _) [2, 22, 34, 42] 400 ?_
  refine ⟨fun (c1 : (I 65 0) ≤ k) => ?_, fun (c1 : ¬ (I 65 0) ≤ k) => ?_⟩
  · have hk : k = I 65 0 := by clear ih hq; grind
    rw [hk] at hE
    refine l_X12_clashes1 (d := d) hs hb hl hq _ E U 1 ⟨fun v hv => ?_, fun x hx v hv => ?_, fun h => absurd h (by decide)⟩ (Or.inr ⟨rfl, Nat.lt_succ_self _⟩)
    · have := hl v hv
      rw [(hE v hv).1, (hE v hv).2]
      omega
    · rw [(hE v hv).1, (hE v hv).2]; exact hx.1 v hv
  · refine ⟨?_, ?_⟩
    · exact vb (x := k) (N := 12) 12 (by decide) (by clear ih hq; grind) (by clear ih hq; grind)
    refine ⟨?_, ?_⟩
    · exact vb (x := k) (N := 12) 12 (by decide) (by clear ih hq; grind) (by clear ih hq; grind)
    refine qJ_M (M2 := (z, N, qRow (qRow I 82 (uI E ((k).toNatClampNeg) (I 80 ((k).toNatClampNeg)))) 83 U, L, R)) (by (try dsimp only); (simp (decide := true) only [q2_qRow, q2_qRow2, q2_qRow3]) <;> rfl) ?_
    change qJ m_X12_clashes (qWP _) Q 22 [(2, .int k), (1, .int g), (0, .ref 65)] [] _ _ (z, N, qRow (qRow I 82 (uI E ((k).toNatClampNeg) (I 80 ((k).toNatClampNeg)))) 83 U, L, R)
    refine qJ_run (qWP_mono _) [2, 22, 34, 42] 400 ?_
    refine ⟨?_, ?_⟩
    · exact vb (x := k) (N := 12) 12 (by decide) (by clear ih hq; grind) (by clear ih hq; grind)
    refine ⟨?_, ?_⟩
    · exact vb (x := k) (N := 12) 12 (by decide) (by clear ih hq; grind) (by clear ih hq; grind)
    refine qJ_M (M2 := (z, N, qRow (qRow I 82 (uI E ((k).toNatClampNeg) (I 80 ((k).toNatClampNeg)))) 83 (uI U ((k).toNatClampNeg) (I 81 ((k).toNatClampNeg))), L, R)) (by (try dsimp only); (simp (decide := true) only [q2_qRow, q2_qRow2, q2_qRow3]) <;> rfl) ?_
    change qJ m_X12_clashes (qWP _) Q 34 [(2, .int k), (1, .int g), (0, .ref 65)] [] _ _ (z, N, qRow (qRow I 82 (uI E ((k).toNatClampNeg) (I 80 ((k).toNatClampNeg)))) 83 (uI U ((k).toNatClampNeg) (I 81 ((k).toNatClampNeg))), L, R)
    refine qJ_run (qWP_mono _) [2, 22, 34, 42] 400 ?_
    have hk : k < I 65 0 := by clear ih hq; grind
    refine ih hk _ _ (by clear ih hq; grind) (by clear ih hq; grind) (fun v hv => ?_) hq
    rw [tn1 h0 (by clear ih hq; grind)] at hv
    by_cases e : v = k.toNatClampNeg
    · subst e; rw [uI_at, uI_at]; exact ⟨rfl, rfl⟩
    · rw [uI_nj e, uI_nj e]; exact hE v (by omega)
theorem c_X12_clashes {d z : Nat} {N : Nat → Nat} {I : Nat → Nat → Int32} {L : Nat → Nat → Int64} {R : Nat → Nat → Option Nat} {Q : qP} {g : Int32} (hs : 0 ≤ I 65 0 ∧ I 65 0 ≤ 12) (hb : okB (I 65 0) (I 84) (I 85) (I 86) (I 65 4)) (hl : yLn (I 65 0).toNatClampNeg (I 80) (I 81)) (h : ∀ (v : Int32) (E U : Nat → Int32), yO (I 65 0).toNatClampNeg (I 80) (I 81) (I 84) (I 85) (I 86) (I 65 4) g (I 65 0) 0 1 v E U → (v = 0 ∨ v = 1) → Q (some (.int v)) (z, N, qRow (qRow I 82 E) 83 U, L, R)) : qWP (d + 1) 221 [.ref 65, .int g] (z, N, I, L, R) Q := by
  refine qWP_of m_X12_clashes rfl rfl [(0, .ref 65), (1, .int g)] rfl ?_
  refine qJ_run (qWP_mono _) [2] 400 ?_
  refine qJ_nm (qWP_mono _) [] [(2, .int 0), (1, .int g), (0, .ref 65)] rfl rfl rfl ?_
  refine qJ_M (M2 := (z, N, qRow (qRow I 82 (I 82)) 83 (I 83), L, R)) (by rw [qRow_self, qRow_self]) ?_
  exact l_X12_clashes0 (d := d) hs hb hl 0 _ _ (by decide) hs.1 (fun v hv => absurd hv (Nat.not_lt_zero v)) h
theorem c_X12_clashAll {d z : Nat} {N : Nat → Nat} {I : Nat → Nat → Int32} {L : Nat → Nat → Int64} {R : Nat → Nat → Option Nat} {Q : qP} (hs : 0 ≤ I 65 0 ∧ I 65 0 ≤ 12) (hb : okB (I 65 0) (I 84) (I 85) (I 86) (I 65 4)) (hl : yLn (I 65 0).toNatClampNeg (I 80) (I 81)) (h : ∀ (v : Int32) (E U : Nat → Int32), yO (I 65 0).toNatClampNeg (I 80) (I 81) (I 84) (I 85) (I 86) (I 65 4) (1 <<< (I 65 4 &&& 31) - 1) (I 65 0) 0 1 v E U → (v = 0 ∨ v = 1) → Q (some (.int v)) (z, N, qRow (qRow I 82 E) 83 U, L, R)) : qWP (d + 2) 222 [.ref 65] (z, N, I, L, R) Q := by
  refine qWP_of m_X12_clashAll rfl rfl [(0, .ref 65)] rfl ?_
  refine qJ_run (qWP_mono _) [] 400 ?_
  refine ⟨⟨Nat.le_refl _, Nat.le_refl _⟩, ?_⟩
  refine c_X12_clashes (d := d) hs hb hl fun v1 E U hy1 hw1 => ?_
  refine ⟨by first | exact Or.inl rfl | exact Or.inr rfl | (clear h; grind), ?_⟩
  change Q (some (.int v1)) (z, N, qRow (qRow I 82 E) 83 U, L, R)
  exact h _ _ _ hy1 hw1
