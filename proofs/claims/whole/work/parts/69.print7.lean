/-! printed lines: the reference's places -/
def gRg (t cv : Int32 → Int32) (p : Int32) (S : Int32 × (Nat → Int32)) : Int32 × (Nat → Int32) := wrR (fKd (t p)) (if fKd (t p) < 2 ∨ fKd (t p) = 5 then fBC (fMy (t p) - 1) else cv p) S
theorem wrR_n {k c : Int32} {S : Int32 × (Nat → Int32)} (h : 0 ≤ S.1 ∧ S.1 ≤ 69) : S.1 ≤ (wrR k c S).1 ∧ (wrR k c S).1 ≤ S.1 + 3 := by
  unfold wrR
  split <;> (simp only [pu]; grind)
theorem l_X12_prints {d z : Nat} {N : Nat → Nat} {I : Nat → Nat → Int32} {L : Nat → Nat → Int64} {R : Nat → Nat → Option Nat} {Q : qP} {s l f : Int32} {cv : Int32 → Int32} (hHa : RHa (I 6 2) (I 65 1) (I 7) (I 68)) (hTo : RTo (I 8) (I 70) (I 71)) (hs : 0 ≤ s ∧ s < 12) (hl : 0 ≤ l ∧ l < 4) (hn : 1 ≤ I 67 s.toNatClampNeg ∧ I 67 s.toNatClampNeg ≤ 24) (hcc : 0 ≤ I 65 2 ∧ I 65 2 ≤ 8) (hm : ∀ f : Int32, 0 ≤ f → f < I 65 2 → 0 ≤ I 76 f.toNatClampNeg ∧ I 76 f.toNatClampNeg ≤ 200) (hz : ∀ f i : Int32, 0 ≤ f → f < I 65 2 → 0 ≤ i → i < I 76 f.toNatClampNeg → 0 ≤ I 75 (200 * f + i).toNatClampNeg ∧ I 75 (200 * f + i).toNatClampNeg ≤ 24) (hcv0 : f < 0 → ∀ p : Int32, cv p = -1) (hcv1 : ¬ f < 0 → (0 ≤ f ∧ f < I 65 2) ∧ ∀ p : Int32, 0 ≤ p → p < I 67 s.toNatClampNeg → cv p = (upS (200 * f + (I 76 f.toNatClampNeg)) (gKr (fun t => fGo (fun p => fMy (tLd (I 8) (I 7) (I 6 2) s l p)) (laR (I 75) (I 74) t) (I 75 (t).toNatClampNeg) (I 67 s.toNatClampNeg)) (fun t => laR (I 75) (I 74) t p)) id (200 * f) (-1))) : ∀ (p : Int32), ∀ S : Int32 × (Nat → Int32), 0 ≤ p → (0 ≤ S.1 ∧ S.1 ≤ 3 * p) → Q (some (.int (upF (I 67 s.toNatClampNeg) (gRg (fun p => tLd (I 8) (I 7) (I 6 2) s l p) cv) p S).1)) (z, N, qRow I 91 (upF (I 67 s.toNatClampNeg) (gRg (fun p => tLd (I 8) (I 7) (I 6 2) s l p) cv) p S).2, L, R) → qJ m_X12_prints (qWP (d + 5)) Q 6 [(5, .int p), (4, .int S.1), (3, .int f), (2, .int l), (1, .int s), (0, .ref 65)] [] 0 0 (z, N, qRow I 91 S.2, L, R) := by
  refine up_ind ((I 67 s.toNatClampNeg)) fun p ih => ?_
  intro S h0 hS hq
  refine qJ_run (qWP_mono _) [6, 52, 87] 400 ?_
  refine ⟨?_, ?_⟩
  · exact vb (x := s) (N := 12) 12 (by decide) hs.1 hs.2
  refine ⟨fun (c1 : (I 67 ((s).toNatClampNeg)) ≤ p) => ?_, fun (c1 : ¬ (I 67 ((s).toNatClampNeg)) ≤ p) => ?_⟩
  · change Q (some (.int S.1)) (z, N, qRow I 91 S.2, L, R)
    rw [upF_ge (Int32.not_lt.mpr c1)] at hq
    exact hq
  · refine ⟨⟨Nat.le_refl _, Nat.le_refl _⟩, ?_⟩
    have hp9 : p < (I 67 s.toNatClampNeg) := Int32.not_le.mp (by assumption)
    refine c_X12_kindOf (d := d + 2) (I := qRow I 91 S.2) (by simp (decide := true) only [qRow_ne]; exact hHa) (by simp (decide := true) only [qRow_ne]; exact hTo) ⟨hs, hl, h0, Int32.lt_of_lt_of_le hp9 hn.2⟩ fun v1 hk => ?_
    simp (decide := true) only [qRow_ne] at hk
    subst hk
    refine ⟨⟨Nat.le_refl _, Nat.le_refl _⟩, ?_⟩
    refine c_X12_mayOf (d := d + 2) (I := qRow I 91 S.2) (by simp (decide := true) only [qRow_ne]; exact hHa) (by simp (decide := true) only [qRow_ne]; exact hTo) ⟨hs, hl, h0, Int32.lt_of_lt_of_le hp9 hn.2⟩ fun v2 hy => ?_
    simp (decide := true) only [qRow_ne] at hy
    subst hy
    refine ⟨fun (c2 : (fKd (tLd (I 8) (I 7) (I 6 2) s l p)) < 2) => ?_, fun (c2 : ¬ (fKd (tLd (I 8) (I 7) (I 6 2) s l p)) < 2) => ?_⟩
    · have hp : p < (I 67 s.toNatClampNeg) := Int32.not_le.mp c1
      have hS69 : 0 ≤ S.1 ∧ S.1 ≤ 69 := by clear ih hq hHa hTo hcc hm hz hcv0 hcv1; grind
      rw [upF_on hp] at hq
      have hb9 := wrR_n (k := fKd (tLd (I 8) (I 7) (I 6 2) s l p)) (c := (if fKd (tLd (I 8) (I 7) (I 6 2) s l p) < 2 ∨ fKd (tLd (I 8) (I 7) (I 6 2) s l p) = 5 then fBC (fMy (tLd (I 8) (I 7) (I 6 2) s l p) - 1) else cv p)) hS69
      have hnx : qJ m_X12_prints (qWP (d + 5)) Q 6 [(5, .int (p + 1)), (4, .int (wrR (fKd (tLd (I 8) (I 7) (I 6 2) s l p)) (if fKd (tLd (I 8) (I 7) (I 6 2) s l p) < 2 ∨ fKd (tLd (I 8) (I 7) (I 6 2) s l p) = 5 then fBC (fMy (tLd (I 8) (I 7) (I 6 2) s l p) - 1) else cv p) S).1), (3, .int f), (2, .int l), (1, .int s), (0, .ref 65)] [] 0 0 (z, N, qRow I 91 (wrR (fKd (tLd (I 8) (I 7) (I 6 2) s l p)) (if fKd (tLd (I 8) (I 7) (I 6 2) s l p) < 2 ∨ fKd (tLd (I 8) (I 7) (I 6 2) s l p) = 5 then fBC (fMy (tLd (I 8) (I 7) (I 6 2) s l p) - 1) else cv p) S).2, L, R) := by
        refine ih hp (gRg (fun p => tLd (I 8) (I 7) (I 6 2) s l p) cv p S) (by clear ih hq hHa hTo hcc hm hz hcv0 hcv1; grind) ?_ hq
        show 0 ≤ (wrR (fKd (tLd (I 8) (I 7) (I 6 2) s l p)) (if fKd (tLd (I 8) (I 7) (I 6 2) s l p) < 2 ∨ fKd (tLd (I 8) (I 7) (I 6 2) s l p) = 5 then fBC (fMy (tLd (I 8) (I 7) (I 6 2) s l p) - 1) else cv p) S).1 ∧ (wrR (fKd (tLd (I 8) (I 7) (I 6 2) s l p)) (if fKd (tLd (I 8) (I 7) (I 6 2) s l p) < 2 ∨ fKd (tLd (I 8) (I 7) (I 6 2) s l p) = 5 then fBC (fMy (tLd (I 8) (I 7) (I 6 2) s l p) - 1) else cv p) S).1 ≤ 3 * (p + 1)
        generalize (wrR (fKd (tLd (I 8) (I 7) (I 6 2) s l p)) (if fKd (tLd (I 8) (I 7) (I 6 2) s l p) < 2 ∨ fKd (tLd (I 8) (I 7) (I 6 2) s l p) = 5 then fBC (fMy (tLd (I 8) (I 7) (I 6 2) s l p) - 1) else cv p) S).1 = w at *
        clear ih hq hHa hTo hcc hm hz hcv0 hcv1
        grind
      have hk9 : fKd (tLd (I 8) (I 7) (I 6 2) s l p) < 2 ∨ fKd (tLd (I 8) (I 7) (I 6 2) s l p) = 5 := by clear ih hq hnx hHa hTo hcc hm hz hcv0 hcv1; grind
      rw [if_pos hk9] at hnx
      have ho := (ld_own hHa hTo ⟨hs, hl, h0, Int32.lt_of_lt_of_le hp hn.2⟩ (p := p)).2 hk9
      exact l_X12_prints2 (d := d) ho 0 (by decide) ho.1.1 (l_X12_prints3 (d := d) hS69 hnx)
    · refine ⟨fun (c3 : ¬ (fKd (tLd (I 8) (I 7) (I 6 2) s l p)) = 5) => ?_, fun (c3 : (fKd (tLd (I 8) (I 7) (I 6 2) s l p)) = 5) => ?_⟩
      · refine ⟨fun (c4 : 0 ≤ f) => ?_, fun (c4 : ¬ 0 ≤ f) => ?_⟩
        · refine ⟨⟨Nat.le_refl _, Nat.le_refl _⟩, ?_⟩
          have hff := (hcv1 (Int32.not_lt.mpr c4)).1
          refine c_X12_carriedOf (d := d) (I := qRow I 91 S.2) (by simp (decide := true) only [qRow_ne]; exact hHa) (by simp (decide := true) only [qRow_ne]; exact hTo) hs hl (by simp (decide := true) only [qRow_ne]; exact hn) (by simp (decide := true) only [qRow_ne]; exact hcc) (by simp (decide := true) only [qRow_ne]; exact hm) (by simp (decide := true) only [qRow_ne]; exact hz) (by simp (decide := true) only [qRow_ne]; exact hff) ⟨h0, Int32.lt_of_lt_of_le hp9 hn.2⟩ fun v3 hco => ?_
          simp (decide := true) only [qRow_ne] at hco
          have hp : p < (I 67 s.toNatClampNeg) := Int32.not_le.mp c1
          have hS69 : 0 ≤ S.1 ∧ S.1 ≤ 69 := by clear ih hq hHa hTo hcc hm hz hcv0 hcv1; grind
          rw [upF_on hp] at hq
          have hb9 := wrR_n (k := fKd (tLd (I 8) (I 7) (I 6 2) s l p)) (c := (if fKd (tLd (I 8) (I 7) (I 6 2) s l p) < 2 ∨ fKd (tLd (I 8) (I 7) (I 6 2) s l p) = 5 then fBC (fMy (tLd (I 8) (I 7) (I 6 2) s l p) - 1) else cv p)) hS69
          have hnx : qJ m_X12_prints (qWP (d + 5)) Q 6 [(5, .int (p + 1)), (4, .int (wrR (fKd (tLd (I 8) (I 7) (I 6 2) s l p)) (if fKd (tLd (I 8) (I 7) (I 6 2) s l p) < 2 ∨ fKd (tLd (I 8) (I 7) (I 6 2) s l p) = 5 then fBC (fMy (tLd (I 8) (I 7) (I 6 2) s l p) - 1) else cv p) S).1), (3, .int f), (2, .int l), (1, .int s), (0, .ref 65)] [] 0 0 (z, N, qRow I 91 (wrR (fKd (tLd (I 8) (I 7) (I 6 2) s l p)) (if fKd (tLd (I 8) (I 7) (I 6 2) s l p) < 2 ∨ fKd (tLd (I 8) (I 7) (I 6 2) s l p) = 5 then fBC (fMy (tLd (I 8) (I 7) (I 6 2) s l p) - 1) else cv p) S).2, L, R) := by
            refine ih hp (gRg (fun p => tLd (I 8) (I 7) (I 6 2) s l p) cv p S) (by clear ih hq hHa hTo hcc hm hz hcv0 hcv1; grind) ?_ hq
            show 0 ≤ (wrR (fKd (tLd (I 8) (I 7) (I 6 2) s l p)) (if fKd (tLd (I 8) (I 7) (I 6 2) s l p) < 2 ∨ fKd (tLd (I 8) (I 7) (I 6 2) s l p) = 5 then fBC (fMy (tLd (I 8) (I 7) (I 6 2) s l p) - 1) else cv p) S).1 ∧ (wrR (fKd (tLd (I 8) (I 7) (I 6 2) s l p)) (if fKd (tLd (I 8) (I 7) (I 6 2) s l p) < 2 ∨ fKd (tLd (I 8) (I 7) (I 6 2) s l p) = 5 then fBC (fMy (tLd (I 8) (I 7) (I 6 2) s l p) - 1) else cv p) S).1 ≤ 3 * (p + 1)
            generalize (wrR (fKd (tLd (I 8) (I 7) (I 6 2) s l p)) (if fKd (tLd (I 8) (I 7) (I 6 2) s l p) < 2 ∨ fKd (tLd (I 8) (I 7) (I 6 2) s l p) = 5 then fBC (fMy (tLd (I 8) (I 7) (I 6 2) s l p) - 1) else cv p) S).1 = w at *
            clear ih hq hHa hTo hcc hm hz hcv0 hcv1
            grind
          have hk9 : ¬ (fKd (tLd (I 8) (I 7) (I 6 2) s l p) < 2 ∨ fKd (tLd (I 8) (I 7) (I 6 2) s l p) = 5) := by clear ih hq hnx hHa hTo hcc hm hz hcv0 hcv1; grind
          rw [if_neg hk9] at hnx
          rw [(hcv1 (Int32.not_lt.mpr c4)).2 p h0 hp, ← hco] at hnx
          exact l_X12_prints3 (d := d) hS69 hnx
        · have hp : p < (I 67 s.toNatClampNeg) := Int32.not_le.mp c1
          have hS69 : 0 ≤ S.1 ∧ S.1 ≤ 69 := by clear ih hq hHa hTo hcc hm hz hcv0 hcv1; grind
          rw [upF_on hp] at hq
          have hb9 := wrR_n (k := fKd (tLd (I 8) (I 7) (I 6 2) s l p)) (c := (if fKd (tLd (I 8) (I 7) (I 6 2) s l p) < 2 ∨ fKd (tLd (I 8) (I 7) (I 6 2) s l p) = 5 then fBC (fMy (tLd (I 8) (I 7) (I 6 2) s l p) - 1) else cv p)) hS69
          have hnx : qJ m_X12_prints (qWP (d + 5)) Q 6 [(5, .int (p + 1)), (4, .int (wrR (fKd (tLd (I 8) (I 7) (I 6 2) s l p)) (if fKd (tLd (I 8) (I 7) (I 6 2) s l p) < 2 ∨ fKd (tLd (I 8) (I 7) (I 6 2) s l p) = 5 then fBC (fMy (tLd (I 8) (I 7) (I 6 2) s l p) - 1) else cv p) S).1), (3, .int f), (2, .int l), (1, .int s), (0, .ref 65)] [] 0 0 (z, N, qRow I 91 (wrR (fKd (tLd (I 8) (I 7) (I 6 2) s l p)) (if fKd (tLd (I 8) (I 7) (I 6 2) s l p) < 2 ∨ fKd (tLd (I 8) (I 7) (I 6 2) s l p) = 5 then fBC (fMy (tLd (I 8) (I 7) (I 6 2) s l p) - 1) else cv p) S).2, L, R) := by
            refine ih hp (gRg (fun p => tLd (I 8) (I 7) (I 6 2) s l p) cv p S) (by clear ih hq hHa hTo hcc hm hz hcv0 hcv1; grind) ?_ hq
            show 0 ≤ (wrR (fKd (tLd (I 8) (I 7) (I 6 2) s l p)) (if fKd (tLd (I 8) (I 7) (I 6 2) s l p) < 2 ∨ fKd (tLd (I 8) (I 7) (I 6 2) s l p) = 5 then fBC (fMy (tLd (I 8) (I 7) (I 6 2) s l p) - 1) else cv p) S).1 ∧ (wrR (fKd (tLd (I 8) (I 7) (I 6 2) s l p)) (if fKd (tLd (I 8) (I 7) (I 6 2) s l p) < 2 ∨ fKd (tLd (I 8) (I 7) (I 6 2) s l p) = 5 then fBC (fMy (tLd (I 8) (I 7) (I 6 2) s l p) - 1) else cv p) S).1 ≤ 3 * (p + 1)
            generalize (wrR (fKd (tLd (I 8) (I 7) (I 6 2) s l p)) (if fKd (tLd (I 8) (I 7) (I 6 2) s l p) < 2 ∨ fKd (tLd (I 8) (I 7) (I 6 2) s l p) = 5 then fBC (fMy (tLd (I 8) (I 7) (I 6 2) s l p) - 1) else cv p) S).1 = w at *
            clear ih hq hHa hTo hcc hm hz hcv0 hcv1
            grind
          have hk9 : ¬ (fKd (tLd (I 8) (I 7) (I 6 2) s l p) < 2 ∨ fKd (tLd (I 8) (I 7) (I 6 2) s l p) = 5) := by clear ih hq hnx hHa hTo hcc hm hz hcv0 hcv1; grind
          rw [if_neg hk9] at hnx
          rw [hcv0 (Int32.not_le.mp c4) p] at hnx
          exact l_X12_prints3 (d := d) hS69 hnx
      · have hp : p < (I 67 s.toNatClampNeg) := Int32.not_le.mp c1
        have hS69 : 0 ≤ S.1 ∧ S.1 ≤ 69 := by clear ih hq hHa hTo hcc hm hz hcv0 hcv1; grind
        rw [upF_on hp] at hq
        have hb9 := wrR_n (k := fKd (tLd (I 8) (I 7) (I 6 2) s l p)) (c := (if fKd (tLd (I 8) (I 7) (I 6 2) s l p) < 2 ∨ fKd (tLd (I 8) (I 7) (I 6 2) s l p) = 5 then fBC (fMy (tLd (I 8) (I 7) (I 6 2) s l p) - 1) else cv p)) hS69
        have hnx : qJ m_X12_prints (qWP (d + 5)) Q 6 [(5, .int (p + 1)), (4, .int (wrR (fKd (tLd (I 8) (I 7) (I 6 2) s l p)) (if fKd (tLd (I 8) (I 7) (I 6 2) s l p) < 2 ∨ fKd (tLd (I 8) (I 7) (I 6 2) s l p) = 5 then fBC (fMy (tLd (I 8) (I 7) (I 6 2) s l p) - 1) else cv p) S).1), (3, .int f), (2, .int l), (1, .int s), (0, .ref 65)] [] 0 0 (z, N, qRow I 91 (wrR (fKd (tLd (I 8) (I 7) (I 6 2) s l p)) (if fKd (tLd (I 8) (I 7) (I 6 2) s l p) < 2 ∨ fKd (tLd (I 8) (I 7) (I 6 2) s l p) = 5 then fBC (fMy (tLd (I 8) (I 7) (I 6 2) s l p) - 1) else cv p) S).2, L, R) := by
          refine ih hp (gRg (fun p => tLd (I 8) (I 7) (I 6 2) s l p) cv p S) (by clear ih hq hHa hTo hcc hm hz hcv0 hcv1; grind) ?_ hq
          show 0 ≤ (wrR (fKd (tLd (I 8) (I 7) (I 6 2) s l p)) (if fKd (tLd (I 8) (I 7) (I 6 2) s l p) < 2 ∨ fKd (tLd (I 8) (I 7) (I 6 2) s l p) = 5 then fBC (fMy (tLd (I 8) (I 7) (I 6 2) s l p) - 1) else cv p) S).1 ∧ (wrR (fKd (tLd (I 8) (I 7) (I 6 2) s l p)) (if fKd (tLd (I 8) (I 7) (I 6 2) s l p) < 2 ∨ fKd (tLd (I 8) (I 7) (I 6 2) s l p) = 5 then fBC (fMy (tLd (I 8) (I 7) (I 6 2) s l p) - 1) else cv p) S).1 ≤ 3 * (p + 1)
          generalize (wrR (fKd (tLd (I 8) (I 7) (I 6 2) s l p)) (if fKd (tLd (I 8) (I 7) (I 6 2) s l p) < 2 ∨ fKd (tLd (I 8) (I 7) (I 6 2) s l p) = 5 then fBC (fMy (tLd (I 8) (I 7) (I 6 2) s l p) - 1) else cv p) S).1 = w at *
          clear ih hq hHa hTo hcc hm hz hcv0 hcv1
          grind
        have hk9 : fKd (tLd (I 8) (I 7) (I 6 2) s l p) < 2 ∨ fKd (tLd (I 8) (I 7) (I 6 2) s l p) = 5 := by clear ih hq hnx hHa hTo hcc hm hz hcv0 hcv1; grind
        rw [if_pos hk9] at hnx
        have ho := (ld_own hHa hTo ⟨hs, hl, h0, Int32.lt_of_lt_of_le hp hn.2⟩ (p := p)).2 hk9
        exact l_X12_prints2 (d := d) ho 0 (by decide) ho.1.1 (l_X12_prints3 (d := d) hS69 hnx)
