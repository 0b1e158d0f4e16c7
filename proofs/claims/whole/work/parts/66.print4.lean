/-! printed lines: the reference -/
def chR (k c : Int32) : Int32 := if 0 ≤ c then shw c else if k = 2 then 63 else if k = 3 then 45 else 35
def wrR (k c : Int32) (S : Int32 × (Nat → Int32)) : Int32 × (Nat → Int32) := if 1 < k ∧ 0 ≤ c then pu (if k = 5 then 62 else 93) (pu (chR k c) (pu (if k = 5 then 60 else 91) S)) else pu (chR k c) S
theorem l_X12_prints3 {d z : Nat} {N : Nat → Nat} {I : Nat → Nat → Int32} {L : Nat → Nat → Int64} {R : Nat → Nat → Option Nat} {Q : qP} {s l f p k y c n : Int32} {e : Nat → Int32} (hn : 0 ≤ n ∧ n ≤ 69) : qJ m_X12_prints (qWP (d + 5)) Q 6 [(5, .int (p + 1)), (4, .int (wrR k c (n, e)).1), (3, .int f), (2, .int l), (1, .int s), (0, .ref 65)] [] 0 0 (z, N, qRow I 91 (wrR k c (n, e)).2, L, R) → qJ m_X12_prints (qWP (d + 5)) Q 87 [(8, .int c), (7, .int y), (6, .int k), (5, .int p), (4, .int n), (3, .int f), (2, .int l), (1, .int s), (0, .ref 65)] [] 0 0 (z, N, qRow I 91 e, L, R) := by
  skip
  intro h
  refine qJ_run (qWP_mono _) [6, 87, 130, 189, 217] 400 ?_
  refine ⟨fun (c1 : k ≤ 1) => ?_, fun (c1 : ¬ k ≤ 1) => ?_⟩
  · refine ⟨fun _ => ?_, fun h => absurd h (by decide)⟩
    refine ⟨fun (c2 : c < 0) => ?_, fun (c2 : ¬ c < 0) => ?_⟩
    · refine ⟨fun (c3 : ¬ k = 2) => ?_, fun (c3 : k = 2) => ?_⟩
      · refine ⟨fun (c4 : ¬ k = 3) => ?_, fun (c4 : k = 3) => ?_⟩
        · refine ⟨?_, ?_⟩
          · exact vb (N := 72) 72 (by decide) (by clear h; grind) (by clear h; grind)
          refine qJ_M (M2 := (z, N, qRow I 91 (uI e ((n).toNatClampNeg) 35), L, R)) (by (try dsimp only); (simp (decide := true) only [q2_qRow, q2_qRow2, q2_qRow3]) <;> rfl) ?_
          change qJ m_X12_prints (qWP _) Q 189 [(9, .int 0), (8, .int c), (7, .int y), (6, .int k), (5, .int p), (4, .int n), (3, .int f), (2, .int l), (1, .int s), (0, .ref 65)] [] _ _ (z, N, qRow I 91 (uI e ((n).toNatClampNeg) 35), L, R)
          refine qJ_run (qWP_mono _) [6, 87, 130, 189, 217] 400 ?_
          refine ⟨fun _ => ?_, fun h => absurd h (by decide)⟩
          refine qJ_nm (qWP_mono _) [(9, _), (8, _), (7, _), (6, _)] [(5, .int (p + 1)), (4, .int (n + 1)), (3, .int f), (2, .int l), (1, .int s), (0, .ref 65)] rfl rfl rfl ?_
          have e9 : wrR k c (n, e) = ((n + 1), uI e ((n).toNatClampNeg) 35) := by
            clear h
            simp only [wrR, chR, shw, pu]
            grind
          rw [e9] at h
          exact h
        · refine ⟨?_, ?_⟩
          · exact vb (N := 72) 72 (by decide) (by clear h; grind) (by clear h; grind)
          refine qJ_M (M2 := (z, N, qRow I 91 (uI e ((n).toNatClampNeg) 45), L, R)) (by (try dsimp only); (simp (decide := true) only [q2_qRow, q2_qRow2, q2_qRow3]) <;> rfl) ?_
          change qJ m_X12_prints (qWP _) Q 189 [(9, .int 0), (8, .int c), (7, .int y), (6, .int k), (5, .int p), (4, .int n), (3, .int f), (2, .int l), (1, .int s), (0, .ref 65)] [] _ _ (z, N, qRow I 91 (uI e ((n).toNatClampNeg) 45), L, R)
          refine qJ_run (qWP_mono _) [6, 87, 130, 189, 217] 400 ?_
          refine ⟨fun _ => ?_, fun h => absurd h (by decide)⟩
          refine qJ_nm (qWP_mono _) [(9, _), (8, _), (7, _), (6, _)] [(5, .int (p + 1)), (4, .int (n + 1)), (3, .int f), (2, .int l), (1, .int s), (0, .ref 65)] rfl rfl rfl ?_
          have e9 : wrR k c (n, e) = ((n + 1), uI e ((n).toNatClampNeg) 45) := by
            clear h
            simp only [wrR, chR, shw, pu]
            grind
          rw [e9] at h
          exact h
      · refine ⟨?_, ?_⟩
        · exact vb (N := 72) 72 (by decide) (by clear h; grind) (by clear h; grind)
        refine qJ_M (M2 := (z, N, qRow I 91 (uI e ((n).toNatClampNeg) 63), L, R)) (by (try dsimp only); (simp (decide := true) only [q2_qRow, q2_qRow2, q2_qRow3]) <;> rfl) ?_
        change qJ m_X12_prints (qWP _) Q 189 [(9, .int 0), (8, .int c), (7, .int y), (6, .int k), (5, .int p), (4, .int n), (3, .int f), (2, .int l), (1, .int s), (0, .ref 65)] [] _ _ (z, N, qRow I 91 (uI e ((n).toNatClampNeg) 63), L, R)
        refine qJ_run (qWP_mono _) [6, 87, 130, 189, 217] 400 ?_
        refine ⟨fun _ => ?_, fun h => absurd h (by decide)⟩
        refine qJ_nm (qWP_mono _) [(9, _), (8, _), (7, _), (6, _)] [(5, .int (p + 1)), (4, .int (n + 1)), (3, .int f), (2, .int l), (1, .int s), (0, .ref 65)] rfl rfl rfl ?_
        have e9 : wrR k c (n, e) = ((n + 1), uI e ((n).toNatClampNeg) 63) := by
          clear h
          simp only [wrR, chR, shw, pu]
          grind
        rw [e9] at h
        exact h
    · refine ⟨fun (c5 : ¬ c = 26) => ?_, fun (c5 : c = 26) => ?_⟩
      · refine ⟨?_, ?_⟩
        · exact vb (N := 72) 72 (by decide) (by clear h; grind) (by clear h; grind)
        refine qJ_M (M2 := (z, N, qRow I 91 (uI e ((n).toNatClampNeg) (97 + c)), L, R)) (by (try dsimp only); (simp (decide := true) only [q2_qRow, q2_qRow2, q2_qRow3]) <;> rfl) ?_
        change qJ m_X12_prints (qWP _) Q 189 [(9, .int 0), (8, .int c), (7, .int y), (6, .int k), (5, .int p), (4, .int n), (3, .int f), (2, .int l), (1, .int s), (0, .ref 65)] [] _ _ (z, N, qRow I 91 (uI e ((n).toNatClampNeg) (97 + c)), L, R)
        refine qJ_run (qWP_mono _) [6, 87, 130, 189, 217] 400 ?_
        refine ⟨fun _ => ?_, fun h => absurd h (by decide)⟩
        refine qJ_nm (qWP_mono _) [(9, _), (8, _), (7, _), (6, _)] [(5, .int (p + 1)), (4, .int (n + 1)), (3, .int f), (2, .int l), (1, .int s), (0, .ref 65)] rfl rfl rfl ?_
        have e9 : wrR k c (n, e) = ((n + 1), uI e ((n).toNatClampNeg) (97 + c)) := by
          clear h
          simp only [wrR, chR, shw, pu]
          grind
        rw [e9] at h
        exact h
      · refine ⟨?_, ?_⟩
        · exact vb (N := 72) 72 (by decide) (by clear h; grind) (by clear h; grind)
        refine qJ_M (M2 := (z, N, qRow I 91 (uI e ((n).toNatClampNeg) 95), L, R)) (by (try dsimp only); (simp (decide := true) only [q2_qRow, q2_qRow2, q2_qRow3]) <;> rfl) ?_
        change qJ m_X12_prints (qWP _) Q 189 [(9, .int 0), (8, .int c), (7, .int y), (6, .int k), (5, .int p), (4, .int n), (3, .int f), (2, .int l), (1, .int s), (0, .ref 65)] [] _ _ (z, N, qRow I 91 (uI e ((n).toNatClampNeg) 95), L, R)
        refine qJ_run (qWP_mono _) [6, 87, 130, 189, 217] 400 ?_
        refine ⟨fun _ => ?_, fun h => absurd h (by decide)⟩
        refine qJ_nm (qWP_mono _) [(9, _), (8, _), (7, _), (6, _)] [(5, .int (p + 1)), (4, .int (n + 1)), (3, .int f), (2, .int l), (1, .int s), (0, .ref 65)] rfl rfl rfl ?_
        have e9 : wrR k c (n, e) = ((n + 1), uI e ((n).toNatClampNeg) 95) := by
          clear h
          simp only [wrR, chR, shw, pu]
          grind
        rw [e9] at h
        exact h
  · refine ⟨fun (c6 : c < 0) => ?_, fun (c6 : ¬ c < 0) => ?_⟩
    · refine ⟨fun _ => ?_, fun h => absurd h (by decide)⟩
      refine ⟨fun (c7 : c < 0) => ?_, fun (c7 : ¬ c < 0) => ?_⟩
      · refine ⟨fun (c8 : ¬ k = 2) => ?_, fun (c8 : k = 2) => ?_⟩
        · refine ⟨fun (c9 : ¬ k = 3) => ?_, fun (c9 : k = 3) => ?_⟩
          · refine ⟨?_, ?_⟩
            · exact vb (N := 72) 72 (by decide) (by clear h; grind) (by clear h; grind)
            refine qJ_M (M2 := (z, N, qRow I 91 (uI e ((n).toNatClampNeg) 35), L, R)) (by (try dsimp only); (simp (decide := true) only [q2_qRow, q2_qRow2, q2_qRow3]) <;> rfl) ?_
            change qJ m_X12_prints (qWP _) Q 189 [(9, .int 0), (8, .int c), (7, .int y), (6, .int k), (5, .int p), (4, .int n), (3, .int f), (2, .int l), (1, .int s), (0, .ref 65)] [] _ _ (z, N, qRow I 91 (uI e ((n).toNatClampNeg) 35), L, R)
            refine qJ_run (qWP_mono _) [6, 87, 130, 189, 217] 400 ?_
            refine ⟨fun _ => ?_, fun h => absurd h (by decide)⟩
            refine qJ_nm (qWP_mono _) [(9, _), (8, _), (7, _), (6, _)] [(5, .int (p + 1)), (4, .int (n + 1)), (3, .int f), (2, .int l), (1, .int s), (0, .ref 65)] rfl rfl rfl ?_
            have e9 : wrR k c (n, e) = ((n + 1), uI e ((n).toNatClampNeg) 35) := by
              clear h
              simp only [wrR, chR, shw, pu]
              grind
            rw [e9] at h
            exact h
          · refine ⟨?_, ?_⟩
            · exact vb (N := 72) 72 (by decide) (by clear h; grind) (by clear h; grind)
            refine qJ_M (M2 := (z, N, qRow I 91 (uI e ((n).toNatClampNeg) 45), L, R)) (by (try dsimp only); (simp (decide := true) only [q2_qRow, q2_qRow2, q2_qRow3]) <;> rfl) ?_
            change qJ m_X12_prints (qWP _) Q 189 [(9, .int 0), (8, .int c), (7, .int y), (6, .int k), (5, .int p), (4, .int n), (3, .int f), (2, .int l), (1, .int s), (0, .ref 65)] [] _ _ (z, N, qRow I 91 (uI e ((n).toNatClampNeg) 45), L, R)
            refine qJ_run (qWP_mono _) [6, 87, 130, 189, 217] 400 ?_
            refine ⟨fun _ => ?_, fun h => absurd h (by decide)⟩
            refine qJ_nm (qWP_mono _) [(9, _), (8, _), (7, _), (6, _)] [(5, .int (p + 1)), (4, .int (n + 1)), (3, .int f), (2, .int l), (1, .int s), (0, .ref 65)] rfl rfl rfl ?_
            have e9 : wrR k c (n, e) = ((n + 1), uI e ((n).toNatClampNeg) 45) := by
              clear h
              simp only [wrR, chR, shw, pu]
              grind
            rw [e9] at h
            exact h
        · refine ⟨?_, ?_⟩
          · exact vb (N := 72) 72 (by decide) (by clear h; grind) (by clear h; grind)
          refine qJ_M (M2 := (z, N, qRow I 91 (uI e ((n).toNatClampNeg) 63), L, R)) (by (try dsimp only); (simp (decide := true) only [q2_qRow, q2_qRow2, q2_qRow3]) <;> rfl) ?_
          change qJ m_X12_prints (qWP _) Q 189 [(9, .int 0), (8, .int c), (7, .int y), (6, .int k), (5, .int p), (4, .int n), (3, .int f), (2, .int l), (1, .int s), (0, .ref 65)] [] _ _ (z, N, qRow I 91 (uI e ((n).toNatClampNeg) 63), L, R)
          refine qJ_run (qWP_mono _) [6, 87, 130, 189, 217] 400 ?_
          refine ⟨fun _ => ?_, fun h => absurd h (by decide)⟩
          refine qJ_nm (qWP_mono _) [(9, _), (8, _), (7, _), (6, _)] [(5, .int (p + 1)), (4, .int (n + 1)), (3, .int f), (2, .int l), (1, .int s), (0, .ref 65)] rfl rfl rfl ?_
          have e9 : wrR k c (n, e) = ((n + 1), uI e ((n).toNatClampNeg) 63) := by
            clear h
            simp only [wrR, chR, shw, pu]
            grind
          rw [e9] at h
          exact h
      · refine ⟨fun (c10 : ¬ c = 26) => ?_, fun (c10 : c = 26) => ?_⟩
        · refine ⟨?_, ?_⟩
          · exact vb (N := 72) 72 (by decide) (by clear h; grind) (by clear h; grind)
          refine qJ_M (M2 := (z, N, qRow I 91 (uI e ((n).toNatClampNeg) (97 + c)), L, R)) (by (try dsimp only); (simp (decide := true) only [q2_qRow, q2_qRow2, q2_qRow3]) <;> rfl) ?_
          change qJ m_X12_prints (qWP _) Q 189 [(9, .int 0), (8, .int c), (7, .int y), (6, .int k), (5, .int p), (4, .int n), (3, .int f), (2, .int l), (1, .int s), (0, .ref 65)] [] _ _ (z, N, qRow I 91 (uI e ((n).toNatClampNeg) (97 + c)), L, R)
          refine qJ_run (qWP_mono _) [6, 87, 130, 189, 217] 400 ?_
          refine ⟨fun _ => ?_, fun h => absurd h (by decide)⟩
          refine qJ_nm (qWP_mono _) [(9, _), (8, _), (7, _), (6, _)] [(5, .int (p + 1)), (4, .int (n + 1)), (3, .int f), (2, .int l), (1, .int s), (0, .ref 65)] rfl rfl rfl ?_
          have e9 : wrR k c (n, e) = ((n + 1), uI e ((n).toNatClampNeg) (97 + c)) := by
            clear h
            simp only [wrR, chR, shw, pu]
            grind
          rw [e9] at h
          exact h
        · refine ⟨?_, ?_⟩
          · exact vb (N := 72) 72 (by decide) (by clear h; grind) (by clear h; grind)
          refine qJ_M (M2 := (z, N, qRow I 91 (uI e ((n).toNatClampNeg) 95), L, R)) (by (try dsimp only); (simp (decide := true) only [q2_qRow, q2_qRow2, q2_qRow3]) <;> rfl) ?_
          change qJ m_X12_prints (qWP _) Q 189 [(9, .int 0), (8, .int c), (7, .int y), (6, .int k), (5, .int p), (4, .int n), (3, .int f), (2, .int l), (1, .int s), (0, .ref 65)] [] _ _ (z, N, qRow I 91 (uI e ((n).toNatClampNeg) 95), L, R)
          refine qJ_run (qWP_mono _) [6, 87, 130, 189, 217] 400 ?_
          refine ⟨fun _ => ?_, fun h => absurd h (by decide)⟩
          refine qJ_nm (qWP_mono _) [(9, _), (8, _), (7, _), (6, _)] [(5, .int (p + 1)), (4, .int (n + 1)), (3, .int f), (2, .int l), (1, .int s), (0, .ref 65)] rfl rfl rfl ?_
          have e9 : wrR k c (n, e) = ((n + 1), uI e ((n).toNatClampNeg) 95) := by
            clear h
            simp only [wrR, chR, shw, pu]
            grind
          rw [e9] at h
          exact h
    · refine ⟨fun h => absurd h (by decide), fun _ => ?_⟩
      refine ⟨fun (c11 : ¬ k = 5) => ?_, fun (c11 : k = 5) => ?_⟩
      · refine ⟨?_, ?_⟩
        · exact vb (N := 72) 72 (by decide) (by clear h; grind) (by clear h; grind)
        refine qJ_M (M2 := (z, N, qRow I 91 (uI e ((n).toNatClampNeg) 91), L, R)) (by (try dsimp only); (simp (decide := true) only [q2_qRow, q2_qRow2, q2_qRow3]) <;> rfl) ?_
        change qJ m_X12_prints (qWP _) Q 130 [(9, .int 1), (8, .int c), (7, .int y), (6, .int k), (5, .int p), (4, .int n), (3, .int f), (2, .int l), (1, .int s), (0, .ref 65)] [] _ _ (z, N, qRow I 91 (uI e ((n).toNatClampNeg) 91), L, R)
        refine qJ_run (qWP_mono _) [6, 87, 130, 189, 217] 400 ?_
        refine ⟨fun (c12 : c < 0) => ?_, fun (c12 : ¬ c < 0) => ?_⟩
        · refine ⟨fun (c13 : ¬ k = 2) => ?_, fun (c13 : k = 2) => ?_⟩
          · refine ⟨fun (c14 : ¬ k = 3) => ?_, fun (c14 : k = 3) => ?_⟩
            · refine ⟨?_, ?_⟩
              · exact vb (N := 72) 72 (by decide) (by clear h; grind) (by clear h; grind)
              refine qJ_M (M2 := (z, N, qRow I 91 (uI (uI e ((n).toNatClampNeg) 91) ((n + 1).toNatClampNeg) 35), L, R)) (by (try dsimp only); (simp (decide := true) only [q2_qRow, q2_qRow2, q2_qRow3]) <;> rfl) ?_
              change qJ m_X12_prints (qWP _) Q 189 [(4, .int (n + 1)), (9, .int 1), (8, .int c), (7, .int y), (6, .int k), (5, .int p), (3, .int f), (2, .int l), (1, .int s), (0, .ref 65)] [] _ _ (z, N, qRow I 91 (uI (uI e ((n).toNatClampNeg) 91) ((n + 1).toNatClampNeg) 35), L, R)
              refine qJ_run (qWP_mono _) [6, 87, 130, 189, 217] 400 ?_
              refine ⟨fun h => absurd h (by decide), fun _ => ?_⟩
              refine ⟨fun (c15 : ¬ k = 5) => ?_, fun (c15 : k = 5) => ?_⟩
              · refine ⟨?_, ?_⟩
                · exact vb (N := 72) 72 (by decide) (by clear h; grind) (by clear h; grind)
                refine qJ_M (M2 := (z, N, qRow I 91 (uI (uI (uI e ((n).toNatClampNeg) 91) ((n + 1).toNatClampNeg) 35) (((n + 1) + 1).toNatClampNeg) 93), L, R)) (by (try dsimp only); (simp (decide := true) only [q2_qRow, q2_qRow2, q2_qRow3]) <;> rfl) ?_
                change qJ m_X12_prints (qWP _) Q 217 [(4, .int ((n + 1) + 1)), (9, .int 1), (8, .int c), (7, .int y), (6, .int k), (5, .int p), (3, .int f), (2, .int l), (1, .int s), (0, .ref 65)] [] _ _ (z, N, qRow I 91 (uI (uI (uI e ((n).toNatClampNeg) 91) ((n + 1).toNatClampNeg) 35) (((n + 1) + 1).toNatClampNeg) 93), L, R)
                refine qJ_run (qWP_mono _) [6, 87, 130, 189, 217] 400 ?_
                refine qJ_nm (qWP_mono _) [(9, _), (8, _), (7, _), (6, _)] [(5, .int (p + 1)), (4, .int (((n + 1) + 1) + 1)), (3, .int f), (2, .int l), (1, .int s), (0, .ref 65)] rfl rfl rfl ?_
                have e9 : wrR k c (n, e) = ((((n + 1) + 1) + 1), uI (uI (uI e ((n).toNatClampNeg) 91) ((n + 1).toNatClampNeg) 35) (((n + 1) + 1).toNatClampNeg) 93) := by
                  clear h
                  simp only [wrR, chR, shw, pu]
                  grind
                rw [e9] at h
                exact h
              · refine ⟨?_, ?_⟩
                · exact vb (N := 72) 72 (by decide) (by clear h; grind) (by clear h; grind)
                refine qJ_M (M2 := (z, N, qRow I 91 (uI (uI (uI e ((n).toNatClampNeg) 91) ((n + 1).toNatClampNeg) 35) (((n + 1) + 1).toNatClampNeg) 62), L, R)) (by (try dsimp only); (simp (decide := true) only [q2_qRow, q2_qRow2, q2_qRow3]) <;> rfl) ?_
                change qJ m_X12_prints (qWP _) Q 217 [(4, .int ((n + 1) + 1)), (9, .int 1), (8, .int c), (7, .int y), (6, .int k), (5, .int p), (3, .int f), (2, .int l), (1, .int s), (0, .ref 65)] [] _ _ (z, N, qRow I 91 (uI (uI (uI e ((n).toNatClampNeg) 91) ((n + 1).toNatClampNeg) 35) (((n + 1) + 1).toNatClampNeg) 62), L, R)
                refine qJ_run (qWP_mono _) [6, 87, 130, 189, 217] 400 ?_
                refine qJ_nm (qWP_mono _) [(9, _), (8, _), (7, _), (6, _)] [(5, .int (p + 1)), (4, .int (((n + 1) + 1) + 1)), (3, .int f), (2, .int l), (1, .int s), (0, .ref 65)] rfl rfl rfl ?_
                have e9 : wrR k c (n, e) = ((((n + 1) + 1) + 1), uI (uI (uI e ((n).toNatClampNeg) 91) ((n + 1).toNatClampNeg) 35) (((n + 1) + 1).toNatClampNeg) 62) := by
                  clear h
                  simp only [wrR, chR, shw, pu]
                  grind
                rw [e9] at h
                exact h
            · refine ⟨?_, ?_⟩
              · exact vb (N := 72) 72 (by decide) (by clear h; grind) (by clear h; grind)
              refine qJ_M (M2 := (z, N, qRow I 91 (uI (uI e ((n).toNatClampNeg) 91) ((n + 1).toNatClampNeg) 45), L, R)) (by (try dsimp only); (simp (decide := true) only [q2_qRow, q2_qRow2, q2_qRow3]) <;> rfl) ?_
              change qJ m_X12_prints (qWP _) Q 189 [(4, .int (n + 1)), (9, .int 1), (8, .int c), (7, .int y), (6, .int k), (5, .int p), (3, .int f), (2, .int l), (1, .int s), (0, .ref 65)] [] _ _ (z, N, qRow I 91 (uI (uI e ((n).toNatClampNeg) 91) ((n + 1).toNatClampNeg) 45), L, R)
              refine qJ_run (qWP_mono _) [6, 87, 130, 189, 217] 400 ?_
              refine ⟨fun h => absurd h (by decide), fun _ => ?_⟩
              refine ⟨fun (c16 : ¬ k = 5) => ?_, fun (c16 : k = 5) => ?_⟩
              · refine ⟨?_, ?_⟩
                · exact vb (N := 72) 72 (by decide) (by clear h; grind) (by clear h; grind)
                refine qJ_M (M2 := (z, N, qRow I 91 (uI (uI (uI e ((n).toNatClampNeg) 91) ((n + 1).toNatClampNeg) 45) (((n + 1) + 1).toNatClampNeg) 93), L, R)) (by (try dsimp only); (simp (decide := true) only [q2_qRow, q2_qRow2, q2_qRow3]) <;> rfl) ?_
                change qJ m_X12_prints (qWP _) Q 217 [(4, .int ((n + 1) + 1)), (9, .int 1), (8, .int c), (7, .int y), (6, .int k), (5, .int p), (3, .int f), (2, .int l), (1, .int s), (0, .ref 65)] [] _ _ (z, N, qRow I 91 (uI (uI (uI e ((n).toNatClampNeg) 91) ((n + 1).toNatClampNeg) 45) (((n + 1) + 1).toNatClampNeg) 93), L, R)
                refine qJ_run (qWP_mono _) [6, 87, 130, 189, 217] 400 ?_
                refine qJ_nm (qWP_mono _) [(9, _), (8, _), (7, _), (6, _)] [(5, .int (p + 1)), (4, .int (((n + 1) + 1) + 1)), (3, .int f), (2, .int l), (1, .int s), (0, .ref 65)] rfl rfl rfl ?_
                have e9 : wrR k c (n, e) = ((((n + 1) + 1) + 1), uI (uI (uI e ((n).toNatClampNeg) 91) ((n + 1).toNatClampNeg) 45) (((n + 1) + 1).toNatClampNeg) 93) := by
                  clear h
                  simp only [wrR, chR, shw, pu]
                  grind
                rw [e9] at h
                exact h
              · refine ⟨?_, ?_⟩
                · exact vb (N := 72) 72 (by decide) (by clear h; grind) (by clear h; grind)
                refine qJ_M (M2 := (z, N, qRow I 91 (uI (uI (uI e ((n).toNatClampNeg) 91) ((n + 1).toNatClampNeg) 45) (((n + 1) + 1).toNatClampNeg) 62), L, R)) (by (try dsimp only); (simp (decide := true) only [q2_qRow, q2_qRow2, q2_qRow3]) <;> rfl) ?_
                change qJ m_X12_prints (qWP _) Q 217 [(4, .int ((n + 1) + 1)), (9, .int 1), (8, .int c), (7, .int y), (6, .int k), (5, .int p), (3, .int f), (2, .int l), (1, .int s), (0, .ref 65)] [] _ _ (z, N, qRow I 91 (uI (uI (uI e ((n).toNatClampNeg) 91) ((n + 1).toNatClampNeg) 45) (((n + 1) + 1).toNatClampNeg) 62), L, R)
                refine qJ_run (qWP_mono _) [6, 87, 130, 189, 217] 400 ?_
                refine qJ_nm (qWP_mono _) [(9, _), (8, _), (7, _), (6, _)] [(5, .int (p + 1)), (4, .int (((n + 1) + 1) + 1)), (3, .int f), (2, .int l), (1, .int s), (0, .ref 65)] rfl rfl rfl ?_
                have e9 : wrR k c (n, e) = ((((n + 1) + 1) + 1), uI (uI (uI e ((n).toNatClampNeg) 91) ((n + 1).toNatClampNeg) 45) (((n + 1) + 1).toNatClampNeg) 62) := by
                  clear h
                  simp only [wrR, chR, shw, pu]
                  grind
                rw [e9] at h
                exact h
          · refine ⟨?_, ?_⟩
            · exact vb (N := 72) 72 (by decide) (by clear h; grind) (by clear h; grind)
            refine qJ_M (M2 := (z, N, qRow I 91 (uI (uI e ((n).toNatClampNeg) 91) ((n + 1).toNatClampNeg) 63), L, R)) (by (try dsimp only); (simp (decide := true) only [q2_qRow, q2_qRow2, q2_qRow3]) <;> rfl) ?_
            change qJ m_X12_prints (qWP _) Q 189 [(4, .int (n + 1)), (9, .int 1), (8, .int c), (7, .int y), (6, .int k), (5, .int p), (3, .int f), (2, .int l), (1, .int s), (0, .ref 65)] [] _ _ (z, N, qRow I 91 (uI (uI e ((n).toNatClampNeg) 91) ((n + 1).toNatClampNeg) 63), L, R)
            refine qJ_run (qWP_mono _) [6, 87, 130, 189, 217] 400 ?_
            refine ⟨fun h => absurd h (by decide), fun _ => ?_⟩
            refine ⟨fun (c17 : ¬ k = 5) => ?_, fun (c17 : k = 5) => ?_⟩
            · refine ⟨?_, ?_⟩
              · exact vb (N := 72) 72 (by decide) (by clear h; grind) (by clear h; grind)
              refine qJ_M (M2 := (z, N, qRow I 91 (uI (uI (uI e ((n).toNatClampNeg) 91) ((n + 1).toNatClampNeg) 63) (((n + 1) + 1).toNatClampNeg) 93), L, R)) (by (try dsimp only); (simp (decide := true) only [q2_qRow, q2_qRow2, q2_qRow3]) <;> rfl) ?_
              change qJ m_X12_prints (qWP _) Q 217 [(4, .int ((n + 1) + 1)), (9, .int 1), (8, .int c), (7, .int y), (6, .int k), (5, .int p), (3, .int f), (2, .int l), (1, .int s), (0, .ref 65)] [] _ _ (z, N, qRow I 91 (uI (uI (uI e ((n).toNatClampNeg) 91) ((n + 1).toNatClampNeg) 63) (((n + 1) + 1).toNatClampNeg) 93), L, R)
              refine qJ_run (qWP_mono _) [6, 87, 130, 189, 217] 400 ?_
              refine qJ_nm (qWP_mono _) [(9, _), (8, _), (7, _), (6, _)] [(5, .int (p + 1)), (4, .int (((n + 1) + 1) + 1)), (3, .int f), (2, .int l), (1, .int s), (0, .ref 65)] rfl rfl rfl ?_
              have e9 : wrR k c (n, e) = ((((n + 1) + 1) + 1), uI (uI (uI e ((n).toNatClampNeg) 91) ((n + 1).toNatClampNeg) 63) (((n + 1) + 1).toNatClampNeg) 93) := by
                clear h
                simp only [wrR, chR, shw, pu]
                grind
              rw [e9] at h
              exact h
            · refine ⟨?_, ?_⟩
              · exact vb (N := 72) 72 (by decide) (by clear h; grind) (by clear h; grind)
              refine qJ_M (M2 := (z, N, qRow I 91 (uI (uI (uI e ((n).toNatClampNeg) 91) ((n + 1).toNatClampNeg) 63) (((n + 1) + 1).toNatClampNeg) 62), L, R)) (by (try dsimp only); (simp (decide := true) only [q2_qRow, q2_qRow2, q2_qRow3]) <;> rfl) ?_
              change qJ m_X12_prints (qWP _) Q 217 [(4, .int ((n + 1) + 1)), (9, .int 1), (8, .int c), (7, .int y), (6, .int k), (5, .int p), (3, .int f), (2, .int l), (1, .int s), (0, .ref 65)] [] _ _ (z, N, qRow I 91 (uI (uI (uI e ((n).toNatClampNeg) 91) ((n + 1).toNatClampNeg) 63) (((n + 1) + 1).toNatClampNeg) 62), L, R)
              refine qJ_run (qWP_mono _) [6, 87, 130, 189, 217] 400 ?_
              refine qJ_nm (qWP_mono _) [(9, _), (8, _), (7, _), (6, _)] [(5, .int (p + 1)), (4, .int (((n + 1) + 1) + 1)), (3, .int f), (2, .int l), (1, .int s), (0, .ref 65)] rfl rfl rfl ?_
              have e9 : wrR k c (n, e) = ((((n + 1) + 1) + 1), uI (uI (uI e ((n).toNatClampNeg) 91) ((n + 1).toNatClampNeg) 63) (((n + 1) + 1).toNatClampNeg) 62) := by
                clear h
                simp only [wrR, chR, shw, pu]
                grind
              rw [e9] at h
              exact h
        · refine ⟨fun (c18 : ¬ c = 26) => ?_, fun (c18 : c = 26) => ?_⟩
          · refine ⟨?_, ?_⟩
            · exact vb (N := 72) 72 (by decide) (by clear h; grind) (by clear h; grind)
            refine qJ_M (M2 := (z, N, qRow I 91 (uI (uI e ((n).toNatClampNeg) 91) ((n + 1).toNatClampNeg) (97 + c)), L, R)) (by (try dsimp only); (simp (decide := true) only [q2_qRow, q2_qRow2, q2_qRow3]) <;> rfl) ?_
            change qJ m_X12_prints (qWP _) Q 189 [(4, .int (n + 1)), (9, .int 1), (8, .int c), (7, .int y), (6, .int k), (5, .int p), (3, .int f), (2, .int l), (1, .int s), (0, .ref 65)] [] _ _ (z, N, qRow I 91 (uI (uI e ((n).toNatClampNeg) 91) ((n + 1).toNatClampNeg) (97 + c)), L, R)
            refine qJ_run (qWP_mono _) [6, 87, 130, 189, 217] 400 ?_
            refine ⟨fun h => absurd h (by decide), fun _ => ?_⟩
            refine ⟨fun (c19 : ¬ k = 5) => ?_, fun (c19 : k = 5) => ?_⟩
            · refine ⟨?_, ?_⟩
              · exact vb (N := 72) 72 (by decide) (by clear h; grind) (by clear h; grind)
              refine qJ_M (M2 := (z, N, qRow I 91 (uI (uI (uI e ((n).toNatClampNeg) 91) ((n + 1).toNatClampNeg) (97 + c)) (((n + 1) + 1).toNatClampNeg) 93), L, R)) (by (try dsimp only); (simp (decide := true) only [q2_qRow, q2_qRow2, q2_qRow3]) <;> rfl) ?_
              change qJ m_X12_prints (qWP _) Q 217 [(4, .int ((n + 1) + 1)), (9, .int 1), (8, .int c), (7, .int y), (6, .int k), (5, .int p), (3, .int f), (2, .int l), (1, .int s), (0, .ref 65)] [] _ _ (z, N, qRow I 91 (uI (uI (uI e ((n).toNatClampNeg) 91) ((n + 1).toNatClampNeg) (97 + c)) (((n + 1) + 1).toNatClampNeg) 93), L, R)
              refine qJ_run (qWP_mono _) [6, 87, 130, 189, 217] 400 ?_
              refine qJ_nm (qWP_mono _) [(9, _), (8, _), (7, _), (6, _)] [(5, .int (p + 1)), (4, .int (((n + 1) + 1) + 1)), (3, .int f), (2, .int l), (1, .int s), (0, .ref 65)] rfl rfl rfl ?_
              have e9 : wrR k c (n, e) = ((((n + 1) + 1) + 1), uI (uI (uI e ((n).toNatClampNeg) 91) ((n + 1).toNatClampNeg) (97 + c)) (((n + 1) + 1).toNatClampNeg) 93) := by
                clear h
                simp only [wrR, chR, shw, pu]
                grind
              rw [e9] at h
              exact h
            · refine ⟨?_, ?_⟩
              · exact vb (N := 72) 72 (by decide) (by clear h; grind) (by clear h; grind)
              refine qJ_M (M2 := (z, N, qRow I 91 (uI (uI (uI e ((n).toNatClampNeg) 91) ((n + 1).toNatClampNeg) (97 + c)) (((n + 1) + 1).toNatClampNeg) 62), L, R)) (by (try dsimp only); (simp (decide := true) only [q2_qRow, q2_qRow2, q2_qRow3]) <;> rfl) ?_
              change qJ m_X12_prints (qWP _) Q 217 [(4, .int ((n + 1) + 1)), (9, .int 1), (8, .int c), (7, .int y), (6, .int k), (5, .int p), (3, .int f), (2, .int l), (1, .int s), (0, .ref 65)] [] _ _ (z, N, qRow I 91 (uI (uI (uI e ((n).toNatClampNeg) 91) ((n + 1).toNatClampNeg) (97 + c)) (((n + 1) + 1).toNatClampNeg) 62), L, R)
              refine qJ_run (qWP_mono _) [6, 87, 130, 189, 217] 400 ?_
              refine qJ_nm (qWP_mono _) [(9, _), (8, _), (7, _), (6, _)] [(5, .int (p + 1)), (4, .int (((n + 1) + 1) + 1)), (3, .int f), (2, .int l), (1, .int s), (0, .ref 65)] rfl rfl rfl ?_
              have e9 : wrR k c (n, e) = ((((n + 1) + 1) + 1), uI (uI (uI e ((n).toNatClampNeg) 91) ((n + 1).toNatClampNeg) (97 + c)) (((n + 1) + 1).toNatClampNeg) 62) := by
                clear h
                simp only [wrR, chR, shw, pu]
                grind
              rw [e9] at h
              exact h
          · refine ⟨?_, ?_⟩
            · exact vb (N := 72) 72 (by decide) (by clear h; grind) (by clear h; grind)
            refine qJ_M (M2 := (z, N, qRow I 91 (uI (uI e ((n).toNatClampNeg) 91) ((n + 1).toNatClampNeg) 95), L, R)) (by (try dsimp only); (simp (decide := true) only [q2_qRow, q2_qRow2, q2_qRow3]) <;> rfl) ?_
            change qJ m_X12_prints (qWP _) Q 189 [(4, .int (n + 1)), (9, .int 1), (8, .int c), (7, .int y), (6, .int k), (5, .int p), (3, .int f), (2, .int l), (1, .int s), (0, .ref 65)] [] _ _ (z, N, qRow I 91 (uI (uI e ((n).toNatClampNeg) 91) ((n + 1).toNatClampNeg) 95), L, R)
            refine qJ_run (qWP_mono _) [6, 87, 130, 189, 217] 400 ?_
            refine ⟨fun h => absurd h (by decide), fun _ => ?_⟩
            refine ⟨fun (c20 : ¬ k = 5) => ?_, fun (c20 : k = 5) => ?_⟩
            · refine ⟨?_, ?_⟩
              · exact vb (N := 72) 72 (by decide) (by clear h; grind) (by clear h; grind)
              refine qJ_M (M2 := (z, N, qRow I 91 (uI (uI (uI e ((n).toNatClampNeg) 91) ((n + 1).toNatClampNeg) 95) (((n + 1) + 1).toNatClampNeg) 93), L, R)) (by (try dsimp only); (simp (decide := true) only [q2_qRow, q2_qRow2, q2_qRow3]) <;> rfl) ?_
              change qJ m_X12_prints (qWP _) Q 217 [(4, .int ((n + 1) + 1)), (9, .int 1), (8, .int c), (7, .int y), (6, .int k), (5, .int p), (3, .int f), (2, .int l), (1, .int s), (0, .ref 65)] [] _ _ (z, N, qRow I 91 (uI (uI (uI e ((n).toNatClampNeg) 91) ((n + 1).toNatClampNeg) 95) (((n + 1) + 1).toNatClampNeg) 93), L, R)
              refine qJ_run (qWP_mono _) [6, 87, 130, 189, 217] 400 ?_
              refine qJ_nm (qWP_mono _) [(9, _), (8, _), (7, _), (6, _)] [(5, .int (p + 1)), (4, .int (((n + 1) + 1) + 1)), (3, .int f), (2, .int l), (1, .int s), (0, .ref 65)] rfl rfl rfl ?_
              have e9 : wrR k c (n, e) = ((((n + 1) + 1) + 1), uI (uI (uI e ((n).toNatClampNeg) 91) ((n + 1).toNatClampNeg) 95) (((n + 1) + 1).toNatClampNeg) 93) := by
                clear h
                simp only [wrR, chR, shw, pu]
                grind
              rw [e9] at h
              exact h
            · refine ⟨?_, ?_⟩
              · exact vb (N := 72) 72 (by decide) (by clear h; grind) (by clear h; grind)
              refine qJ_M (M2 := (z, N, qRow I 91 (uI (uI (uI e ((n).toNatClampNeg) 91) ((n + 1).toNatClampNeg) 95) (((n + 1) + 1).toNatClampNeg) 62), L, R)) (by (try dsimp only); (simp (decide := true) only [q2_qRow, q2_qRow2, q2_qRow3]) <;> rfl) ?_
              change qJ m_X12_prints (qWP _) Q 217 [(4, .int ((n + 1) + 1)), (9, .int 1), (8, .int c), (7, .int y), (6, .int k), (5, .int p), (3, .int f), (2, .int l), (1, .int s), (0, .ref 65)] [] _ _ (z, N, qRow I 91 (uI (uI (uI e ((n).toNatClampNeg) 91) ((n + 1).toNatClampNeg) 95) (((n + 1) + 1).toNatClampNeg) 62), L, R)
              refine qJ_run (qWP_mono _) [6, 87, 130, 189, 217] 400 ?_
              refine qJ_nm (qWP_mono _) [(9, _), (8, _), (7, _), (6, _)] [(5, .int (p + 1)), (4, .int (((n + 1) + 1) + 1)), (3, .int f), (2, .int l), (1, .int s), (0, .ref 65)] rfl rfl rfl ?_
              have e9 : wrR k c (n, e) = ((((n + 1) + 1) + 1), uI (uI (uI e ((n).toNatClampNeg) 91) ((n + 1).toNatClampNeg) 95) (((n + 1) + 1).toNatClampNeg) 62) := by
                clear h
                simp only [wrR, chR, shw, pu]
                grind
              rw [e9] at h
              exact h
      · refine ⟨?_, ?_⟩
        · exact vb (N := 72) 72 (by decide) (by clear h; grind) (by clear h; grind)
        refine qJ_M (M2 := (z, N, qRow I 91 (uI e ((n).toNatClampNeg) 60), L, R)) (by (try dsimp only); (simp (decide := true) only [q2_qRow, q2_qRow2, q2_qRow3]) <;> rfl) ?_
        change qJ m_X12_prints (qWP _) Q 130 [(9, .int 1), (8, .int c), (7, .int y), (6, .int k), (5, .int p), (4, .int n), (3, .int f), (2, .int l), (1, .int s), (0, .ref 65)] [] _ _ (z, N, qRow I 91 (uI e ((n).toNatClampNeg) 60), L, R)
        refine qJ_run (qWP_mono _) [6, 87, 130, 189, 217] 400 ?_
        refine ⟨fun (c21 : c < 0) => ?_, fun (c21 : ¬ c < 0) => ?_⟩
        · refine ⟨fun (c22 : ¬ k = 2) => ?_, fun (c22 : k = 2) => ?_⟩
          · refine ⟨fun (c23 : ¬ k = 3) => ?_, fun (c23 : k = 3) => ?_⟩
            · refine ⟨?_, ?_⟩
              · exact vb (N := 72) 72 (by decide) (by clear h; grind) (by clear h; grind)
              refine qJ_M (M2 := (z, N, qRow I 91 (uI (uI e ((n).toNatClampNeg) 60) ((n + 1).toNatClampNeg) 35), L, R)) (by (try dsimp only); (simp (decide := true) only [q2_qRow, q2_qRow2, q2_qRow3]) <;> rfl) ?_
              change qJ m_X12_prints (qWP _) Q 189 [(4, .int (n + 1)), (9, .int 1), (8, .int c), (7, .int y), (6, .int k), (5, .int p), (3, .int f), (2, .int l), (1, .int s), (0, .ref 65)] [] _ _ (z, N, qRow I 91 (uI (uI e ((n).toNatClampNeg) 60) ((n + 1).toNatClampNeg) 35), L, R)
              refine qJ_run (qWP_mono _) [6, 87, 130, 189, 217] 400 ?_
              refine ⟨fun h => absurd h (by decide), fun _ => ?_⟩
              refine ⟨fun (c24 : ¬ k = 5) => ?_, fun (c24 : k = 5) => ?_⟩
              · refine ⟨?_, ?_⟩
                · exact vb (N := 72) 72 (by decide) (by clear h; grind) (by clear h; grind)
                refine qJ_M (M2 := (z, N, qRow I 91 (uI (uI (uI e ((n).toNatClampNeg) 60) ((n + 1).toNatClampNeg) 35) (((n + 1) + 1).toNatClampNeg) 93), L, R)) (by (try dsimp only); (simp (decide := true) only [q2_qRow, q2_qRow2, q2_qRow3]) <;> rfl) ?_
                change qJ m_X12_prints (qWP _) Q 217 [(4, .int ((n + 1) + 1)), (9, .int 1), (8, .int c), (7, .int y), (6, .int k), (5, .int p), (3, .int f), (2, .int l), (1, .int s), (0, .ref 65)] [] _ _ (z, N, qRow I 91 (uI (uI (uI e ((n).toNatClampNeg) 60) ((n + 1).toNatClampNeg) 35) (((n + 1) + 1).toNatClampNeg) 93), L, R)
                refine qJ_run (qWP_mono _) [6, 87, 130, 189, 217] 400 ?_
                refine qJ_nm (qWP_mono _) [(9, _), (8, _), (7, _), (6, _)] [(5, .int (p + 1)), (4, .int (((n + 1) + 1) + 1)), (3, .int f), (2, .int l), (1, .int s), (0, .ref 65)] rfl rfl rfl ?_
                have e9 : wrR k c (n, e) = ((((n + 1) + 1) + 1), uI (uI (uI e ((n).toNatClampNeg) 60) ((n + 1).toNatClampNeg) 35) (((n + 1) + 1).toNatClampNeg) 93) := by
                  clear h
                  simp only [wrR, chR, shw, pu]
                  grind
                rw [e9] at h
                exact h
              · refine ⟨?_, ?_⟩
                · exact vb (N := 72) 72 (by decide) (by clear h; grind) (by clear h; grind)
                refine qJ_M (M2 := (z, N, qRow I 91 (uI (uI (uI e ((n).toNatClampNeg) 60) ((n + 1).toNatClampNeg) 35) (((n + 1) + 1).toNatClampNeg) 62), L, R)) (by (try dsimp only); (simp (decide := true) only [q2_qRow, q2_qRow2, q2_qRow3]) <;> rfl) ?_
                change qJ m_X12_prints (qWP _) Q 217 [(4, .int ((n + 1) + 1)), (9, .int 1), (8, .int c), (7, .int y), (6, .int k), (5, .int p), (3, .int f), (2, .int l), (1, .int s), (0, .ref 65)] [] _ _ (z, N, qRow I 91 (uI (uI (uI e ((n).toNatClampNeg) 60) ((n + 1).toNatClampNeg) 35) (((n + 1) + 1).toNatClampNeg) 62), L, R)
                refine qJ_run (qWP_mono _) [6, 87, 130, 189, 217] 400 ?_
                refine qJ_nm (qWP_mono _) [(9, _), (8, _), (7, _), (6, _)] [(5, .int (p + 1)), (4, .int (((n + 1) + 1) + 1)), (3, .int f), (2, .int l), (1, .int s), (0, .ref 65)] rfl rfl rfl ?_
                have e9 : wrR k c (n, e) = ((((n + 1) + 1) + 1), uI (uI (uI e ((n).toNatClampNeg) 60) ((n + 1).toNatClampNeg) 35) (((n + 1) + 1).toNatClampNeg) 62) := by
                  clear h
                  simp only [wrR, chR, shw, pu]
                  grind
                rw [e9] at h
                exact h
            · refine ⟨?_, ?_⟩
              · exact vb (N := 72) 72 (by decide) (by clear h; grind) (by clear h; grind)
              refine qJ_M (M2 := (z, N, qRow I 91 (uI (uI e ((n).toNatClampNeg) 60) ((n + 1).toNatClampNeg) 45), L, R)) (by (try dsimp only); (simp (decide := true) only [q2_qRow, q2_qRow2, q2_qRow3]) <;> rfl) ?_
              change qJ m_X12_prints (qWP _) Q 189 [(4, .int (n + 1)), (9, .int 1), (8, .int c), (7, .int y), (6, .int k), (5, .int p), (3, .int f), (2, .int l), (1, .int s), (0, .ref 65)] [] _ _ (z, N, qRow I 91 (uI (uI e ((n).toNatClampNeg) 60) ((n + 1).toNatClampNeg) 45), L, R)
              refine qJ_run (qWP_mono _) [6, 87, 130, 189, 217] 400 ?_
              refine ⟨fun h => absurd h (by decide), fun _ => ?_⟩
              refine ⟨fun (c25 : ¬ k = 5) => ?_, fun (c25 : k = 5) => ?_⟩
              · refine ⟨?_, ?_⟩
                · exact vb (N := 72) 72 (by decide) (by clear h; grind) (by clear h; grind)
                refine qJ_M (M2 := (z, N, qRow I 91 (uI (uI (uI e ((n).toNatClampNeg) 60) ((n + 1).toNatClampNeg) 45) (((n + 1) + 1).toNatClampNeg) 93), L, R)) (by (try dsimp only); (simp (decide := true) only [q2_qRow, q2_qRow2, q2_qRow3]) <;> rfl) ?_
                change qJ m_X12_prints (qWP _) Q 217 [(4, .int ((n + 1) + 1)), (9, .int 1), (8, .int c), (7, .int y), (6, .int k), (5, .int p), (3, .int f), (2, .int l), (1, .int s), (0, .ref 65)] [] _ _ (z, N, qRow I 91 (uI (uI (uI e ((n).toNatClampNeg) 60) ((n + 1).toNatClampNeg) 45) (((n + 1) + 1).toNatClampNeg) 93), L, R)
                refine qJ_run (qWP_mono _) [6, 87, 130, 189, 217] 400 ?_
                refine qJ_nm (qWP_mono _) [(9, _), (8, _), (7, _), (6, _)] [(5, .int (p + 1)), (4, .int (((n + 1) + 1) + 1)), (3, .int f), (2, .int l), (1, .int s), (0, .ref 65)] rfl rfl rfl ?_
                have e9 : wrR k c (n, e) = ((((n + 1) + 1) + 1), uI (uI (uI e ((n).toNatClampNeg) 60) ((n + 1).toNatClampNeg) 45) (((n + 1) + 1).toNatClampNeg) 93) := by
                  clear h
                  simp only [wrR, chR, shw, pu]
                  grind
                rw [e9] at h
                exact h
              · refine ⟨?_, ?_⟩
                · exact vb (N := 72) 72 (by decide) (by clear h; grind) (by clear h; grind)
                refine qJ_M (M2 := (z, N, qRow I 91 (uI (uI (uI e ((n).toNatClampNeg) 60) ((n + 1).toNatClampNeg) 45) (((n + 1) + 1).toNatClampNeg) 62), L, R)) (by (try dsimp only); (simp (decide := true) only [q2_qRow, q2_qRow2, q2_qRow3]) <;> rfl) ?_
                change qJ m_X12_prints (qWP _) Q 217 [(4, .int ((n + 1) + 1)), (9, .int 1), (8, .int c), (7, .int y), (6, .int k), (5, .int p), (3, .int f), (2, .int l), (1, .int s), (0, .ref 65)] [] _ _ (z, N, qRow I 91 (uI (uI (uI e ((n).toNatClampNeg) 60) ((n + 1).toNatClampNeg) 45) (((n + 1) + 1).toNatClampNeg) 62), L, R)
                refine qJ_run (qWP_mono _) [6, 87, 130, 189, 217] 400 ?_
                refine qJ_nm (qWP_mono _) [(9, _), (8, _), (7, _), (6, _)] [(5, .int (p + 1)), (4, .int (((n + 1) + 1) + 1)), (3, .int f), (2, .int l), (1, .int s), (0, .ref 65)] rfl rfl rfl ?_
                have e9 : wrR k c (n, e) = ((((n + 1) + 1) + 1), uI (uI (uI e ((n).toNatClampNeg) 60) ((n + 1).toNatClampNeg) 45) (((n + 1) + 1).toNatClampNeg) 62) := by
                  clear h
                  simp only [wrR, chR, shw, pu]
                  grind
                rw [e9] at h
                exact h
          · refine ⟨?_, ?_⟩
            · exact vb (N := 72) 72 (by decide) (by clear h; grind) (by clear h; grind)
            refine qJ_M (M2 := (z, N, qRow I 91 (uI (uI e ((n).toNatClampNeg) 60) ((n + 1).toNatClampNeg) 63), L, R)) (by (try dsimp only); (simp (decide := true) only [q2_qRow, q2_qRow2, q2_qRow3]) <;> rfl) ?_
            change qJ m_X12_prints (qWP _) Q 189 [(4, .int (n + 1)), (9, .int 1), (8, .int c), (7, .int y), (6, .int k), (5, .int p), (3, .int f), (2, .int l), (1, .int s), (0, .ref 65)] [] _ _ (z, N, qRow I 91 (uI (uI e ((n).toNatClampNeg) 60) ((n + 1).toNatClampNeg) 63), L, R)
            refine qJ_run (qWP_mono _) [6, 87, 130, 189, 217] 400 ?_
            refine ⟨fun h => absurd h (by decide), fun _ => ?_⟩
            refine ⟨fun (c26 : ¬ k = 5) => ?_, fun (c26 : k = 5) => ?_⟩
            · refine ⟨?_, ?_⟩
              · exact vb (N := 72) 72 (by decide) (by clear h; grind) (by clear h; grind)
              refine qJ_M (M2 := (z, N, qRow I 91 (uI (uI (uI e ((n).toNatClampNeg) 60) ((n + 1).toNatClampNeg) 63) (((n + 1) + 1).toNatClampNeg) 93), L, R)) (by (try dsimp only); (simp (decide := true) only [q2_qRow, q2_qRow2, q2_qRow3]) <;> rfl) ?_
              change qJ m_X12_prints (qWP _) Q 217 [(4, .int ((n + 1) + 1)), (9, .int 1), (8, .int c), (7, .int y), (6, .int k), (5, .int p), (3, .int f), (2, .int l), (1, .int s), (0, .ref 65)] [] _ _ (z, N, qRow I 91 (uI (uI (uI e ((n).toNatClampNeg) 60) ((n + 1).toNatClampNeg) 63) (((n + 1) + 1).toNatClampNeg) 93), L, R)
              refine qJ_run (qWP_mono _) [6, 87, 130, 189, 217] 400 ?_
              refine qJ_nm (qWP_mono _) [(9, _), (8, _), (7, _), (6, _)] [(5, .int (p + 1)), (4, .int (((n + 1) + 1) + 1)), (3, .int f), (2, .int l), (1, .int s), (0, .ref 65)] rfl rfl rfl ?_
              have e9 : wrR k c (n, e) = ((((n + 1) + 1) + 1), uI (uI (uI e ((n).toNatClampNeg) 60) ((n + 1).toNatClampNeg) 63) (((n + 1) + 1).toNatClampNeg) 93) := by
                clear h
                simp only [wrR, chR, shw, pu]
                grind
              rw [e9] at h
              exact h
            · refine ⟨?_, ?_⟩
              · exact vb (N := 72) 72 (by decide) (by clear h; grind) (by clear h; grind)
              refine qJ_M (M2 := (z, N, qRow I 91 (uI (uI (uI e ((n).toNatClampNeg) 60) ((n + 1).toNatClampNeg) 63) (((n + 1) + 1).toNatClampNeg) 62), L, R)) (by (try dsimp only); (simp (decide := true) only [q2_qRow, q2_qRow2, q2_qRow3]) <;> rfl) ?_
              change qJ m_X12_prints (qWP _) Q 217 [(4, .int ((n + 1) + 1)), (9, .int 1), (8, .int c), (7, .int y), (6, .int k), (5, .int p), (3, .int f), (2, .int l), (1, .int s), (0, .ref 65)] [] _ _ (z, N, qRow I 91 (uI (uI (uI e ((n).toNatClampNeg) 60) ((n + 1).toNatClampNeg) 63) (((n + 1) + 1).toNatClampNeg) 62), L, R)
              refine qJ_run (qWP_mono _) [6, 87, 130, 189, 217] 400 ?_
              refine qJ_nm (qWP_mono _) [(9, _), (8, _), (7, _), (6, _)] [(5, .int (p + 1)), (4, .int (((n + 1) + 1) + 1)), (3, .int f), (2, .int l), (1, .int s), (0, .ref 65)] rfl rfl rfl ?_
              have e9 : wrR k c (n, e) = ((((n + 1) + 1) + 1), uI (uI (uI e ((n).toNatClampNeg) 60) ((n + 1).toNatClampNeg) 63) (((n + 1) + 1).toNatClampNeg) 62) := by
                clear h
                simp only [wrR, chR, shw, pu]
                grind
              rw [e9] at h
              exact h
        · refine ⟨fun (c27 : ¬ c = 26) => ?_, fun (c27 : c = 26) => ?_⟩
          · refine ⟨?_, ?_⟩
            · exact vb (N := 72) 72 (by decide) (by clear h; grind) (by clear h; grind)
            refine qJ_M (M2 := (z, N, qRow I 91 (uI (uI e ((n).toNatClampNeg) 60) ((n + 1).toNatClampNeg) (97 + c)), L, R)) (by (try dsimp only); (simp (decide := true) only [q2_qRow, q2_qRow2, q2_qRow3]) <;> rfl) ?_
            change qJ m_X12_prints (qWP _) Q 189 [(4, .int (n + 1)), (9, .int 1), (8, .int c), (7, .int y), (6, .int k), (5, .int p), (3, .int f), (2, .int l), (1, .int s), (0, .ref 65)] [] _ _ (z, N, qRow I 91 (uI (uI e ((n).toNatClampNeg) 60) ((n + 1).toNatClampNeg) (97 + c)), L, R)
            refine qJ_run (qWP_mono _) [6, 87, 130, 189, 217] 400 ?_
            refine ⟨fun h => absurd h (by decide), fun _ => ?_⟩
            refine ⟨fun (c28 : ¬ k = 5) => ?_, fun (c28 : k = 5) => ?_⟩
            · refine ⟨?_, ?_⟩
              · exact vb (N := 72) 72 (by decide) (by clear h; grind) (by clear h; grind)
              refine qJ_M (M2 := (z, N, qRow I 91 (uI (uI (uI e ((n).toNatClampNeg) 60) ((n + 1).toNatClampNeg) (97 + c)) (((n + 1) + 1).toNatClampNeg) 93), L, R)) (by (try dsimp only); (simp (decide := true) only [q2_qRow, q2_qRow2, q2_qRow3]) <;> rfl) ?_
              change qJ m_X12_prints (qWP _) Q 217 [(4, .int ((n + 1) + 1)), (9, .int 1), (8, .int c), (7, .int y), (6, .int k), (5, .int p), (3, .int f), (2, .int l), (1, .int s), (0, .ref 65)] [] _ _ (z, N, qRow I 91 (uI (uI (uI e ((n).toNatClampNeg) 60) ((n + 1).toNatClampNeg) (97 + c)) (((n + 1) + 1).toNatClampNeg) 93), L, R)
              refine qJ_run (qWP_mono _) [6, 87, 130, 189, 217] 400 ?_
              refine qJ_nm (qWP_mono _) [(9, _), (8, _), (7, _), (6, _)] [(5, .int (p + 1)), (4, .int (((n + 1) + 1) + 1)), (3, .int f), (2, .int l), (1, .int s), (0, .ref 65)] rfl rfl rfl ?_
              have e9 : wrR k c (n, e) = ((((n + 1) + 1) + 1), uI (uI (uI e ((n).toNatClampNeg) 60) ((n + 1).toNatClampNeg) (97 + c)) (((n + 1) + 1).toNatClampNeg) 93) := by
                clear h
                simp only [wrR, chR, shw, pu]
                grind
              rw [e9] at h
              exact h
            · refine ⟨?_, ?_⟩
              · exact vb (N := 72) 72 (by decide) (by clear h; grind) (by clear h; grind)
              refine qJ_M (M2 := (z, N, qRow I 91 (uI (uI (uI e ((n).toNatClampNeg) 60) ((n + 1).toNatClampNeg) (97 + c)) (((n + 1) + 1).toNatClampNeg) 62), L, R)) (by (try dsimp only); (simp (decide := true) only [q2_qRow, q2_qRow2, q2_qRow3]) <;> rfl) ?_
              change qJ m_X12_prints (qWP _) Q 217 [(4, .int ((n + 1) + 1)), (9, .int 1), (8, .int c), (7, .int y), (6, .int k), (5, .int p), (3, .int f), (2, .int l), (1, .int s), (0, .ref 65)] [] _ _ (z, N, qRow I 91 (uI (uI (uI e ((n).toNatClampNeg) 60) ((n + 1).toNatClampNeg) (97 + c)) (((n + 1) + 1).toNatClampNeg) 62), L, R)
              refine qJ_run (qWP_mono _) [6, 87, 130, 189, 217] 400 ?_
              refine qJ_nm (qWP_mono _) [(9, _), (8, _), (7, _), (6, _)] [(5, .int (p + 1)), (4, .int (((n + 1) + 1) + 1)), (3, .int f), (2, .int l), (1, .int s), (0, .ref 65)] rfl rfl rfl ?_
              have e9 : wrR k c (n, e) = ((((n + 1) + 1) + 1), uI (uI (uI e ((n).toNatClampNeg) 60) ((n + 1).toNatClampNeg) (97 + c)) (((n + 1) + 1).toNatClampNeg) 62) := by
                clear h
                simp only [wrR, chR, shw, pu]
                grind
              rw [e9] at h
              exact h
          · refine ⟨?_, ?_⟩
            · exact vb (N := 72) 72 (by decide) (by clear h; grind) (by clear h; grind)
            refine qJ_M (M2 := (z, N, qRow I 91 (uI (uI e ((n).toNatClampNeg) 60) ((n + 1).toNatClampNeg) 95), L, R)) (by (try dsimp only); (simp (decide := true) only [q2_qRow, q2_qRow2, q2_qRow3]) <;> rfl) ?_
            change qJ m_X12_prints (qWP _) Q 189 [(4, .int (n + 1)), (9, .int 1), (8, .int c), (7, .int y), (6, .int k), (5, .int p), (3, .int f), (2, .int l), (1, .int s), (0, .ref 65)] [] _ _ (z, N, qRow I 91 (uI (uI e ((n).toNatClampNeg) 60) ((n + 1).toNatClampNeg) 95), L, R)
            refine qJ_run (qWP_mono _) [6, 87, 130, 189, 217] 400 ?_
            refine ⟨fun h => absurd h (by decide), fun _ => ?_⟩
            refine ⟨fun (c29 : ¬ k = 5) => ?_, fun (c29 : k = 5) => ?_⟩
            · refine ⟨?_, ?_⟩
              · exact vb (N := 72) 72 (by decide) (by clear h; grind) (by clear h; grind)
              refine qJ_M (M2 := (z, N, qRow I 91 (uI (uI (uI e ((n).toNatClampNeg) 60) ((n + 1).toNatClampNeg) 95) (((n + 1) + 1).toNatClampNeg) 93), L, R)) (by (try dsimp only); (simp (decide := true) only [q2_qRow, q2_qRow2, q2_qRow3]) <;> rfl) ?_
              change qJ m_X12_prints (qWP _) Q 217 [(4, .int ((n + 1) + 1)), (9, .int 1), (8, .int c), (7, .int y), (6, .int k), (5, .int p), (3, .int f), (2, .int l), (1, .int s), (0, .ref 65)] [] _ _ (z, N, qRow I 91 (uI (uI (uI e ((n).toNatClampNeg) 60) ((n + 1).toNatClampNeg) 95) (((n + 1) + 1).toNatClampNeg) 93), L, R)
              refine qJ_run (qWP_mono _) [6, 87, 130, 189, 217] 400 ?_
              refine qJ_nm (qWP_mono _) [(9, _), (8, _), (7, _), (6, _)] [(5, .int (p + 1)), (4, .int (((n + 1) + 1) + 1)), (3, .int f), (2, .int l), (1, .int s), (0, .ref 65)] rfl rfl rfl ?_
              have e9 : wrR k c (n, e) = ((((n + 1) + 1) + 1), uI (uI (uI e ((n).toNatClampNeg) 60) ((n + 1).toNatClampNeg) 95) (((n + 1) + 1).toNatClampNeg) 93) := by
                clear h
                simp only [wrR, chR, shw, pu]
                grind
              rw [e9] at h
              exact h
            · refine ⟨?_, ?_⟩
              · exact vb (N := 72) 72 (by decide) (by clear h; grind) (by clear h; grind)
              refine qJ_M (M2 := (z, N, qRow I 91 (uI (uI (uI e ((n).toNatClampNeg) 60) ((n + 1).toNatClampNeg) 95) (((n + 1) + 1).toNatClampNeg) 62), L, R)) (by (try dsimp only); (simp (decide := true) only [q2_qRow, q2_qRow2, q2_qRow3]) <;> rfl) ?_
              change qJ m_X12_prints (qWP _) Q 217 [(4, .int ((n + 1) + 1)), (9, .int 1), (8, .int c), (7, .int y), (6, .int k), (5, .int p), (3, .int f), (2, .int l), (1, .int s), (0, .ref 65)] [] _ _ (z, N, qRow I 91 (uI (uI (uI e ((n).toNatClampNeg) 60) ((n + 1).toNatClampNeg) 95) (((n + 1) + 1).toNatClampNeg) 62), L, R)
              refine qJ_run (qWP_mono _) [6, 87, 130, 189, 217] 400 ?_
              refine qJ_nm (qWP_mono _) [(9, _), (8, _), (7, _), (6, _)] [(5, .int (p + 1)), (4, .int (((n + 1) + 1) + 1)), (3, .int f), (2, .int l), (1, .int s), (0, .ref 65)] rfl rfl rfl ?_
              have e9 : wrR k c (n, e) = ((((n + 1) + 1) + 1), uI (uI (uI e ((n).toNatClampNeg) 60) ((n + 1).toNatClampNeg) 95) (((n + 1) + 1).toNatClampNeg) 62) := by
                clear h
                simp only [wrR, chR, shw, pu]
                grind
              rw [e9] at h
              exact h
