theorem c_X11_stone {d z : Nat} {N : Nat → Nat} {I : Nat → Nat → Int32} {L : Nat → Nat → Int64} {R : Nat → Nat → Option Nat} {Q : qP} {l : Int32} {p : Int32} (hn : 0 ≤ I 3 2 ∧ I 3 2 ≤ 12) (h0 : (l < 1 ∨ 4 < l ∨ p < 1 ∨ 24 < p) → Q (some (.int (-2))) (z, N, I, L, R)) (h1 : ¬ (l < 1 ∨ 4 < l ∨ p < 1 ∨ 24 < p) → I 3 2 = 12 → Q (some (.int (-4))) (z, N, I, L, R)) (h2 : ¬ (l < 1 ∨ 4 < l ∨ p < 1 ∨ 24 < p) → I 3 2 < 12 → Q (some (.int (I 3 2 + 1 - 1))) (z, N, q2 (q2 (q2 I 4 (I 3 2).toNatClampNeg l) 5 (I 3 2).toNatClampNeg p) 3 2 (I 3 2 + 1), L, R)) : qWP (d + 2) 122 [.ref 2, .int l, .int p] (z, N, I, L, R) Q := by
  refine qWP_of m_X11_stone rfl rfl [(0, .ref 2), (1, .int l), (2, .int p)] rfl ?_
  refine qJ_run (qWP_mono _) [] 400 ?_
  refine ⟨fun c1 => ?_, fun c1 => ?_⟩
  · exact h0 (by clear h0 h1 h2; grind [q2, ql8, ql39, ql44, ql45, ql60, ql61])
  · refine ⟨fun c2 => ?_, fun c2 => ?_⟩
    · exact h0 (by clear h0 h1 h2; grind [q2, ql8, ql39, ql44, ql45, ql60, ql61])
    · refine ⟨fun c3 => ?_, fun c3 => ?_⟩
      · exact h0 (by clear h0 h1 h2; grind [q2, ql8, ql39, ql44, ql45, ql60, ql61])
      · refine ⟨fun c4 => ?_, fun c4 => ?_⟩
        · refine ⟨⟨Nat.le_refl _, Nat.le_refl _⟩, ?_⟩
          refine c_X6_put hn (fun e5 => ?_) (fun e5 => ?_)
          · exact h1 (by clear h0 h1 h2; grind [q2, ql8, ql39, ql44, ql45, ql60, ql61]) (by clear h0 h1 h2; grind [q2, ql8, ql39, ql44, ql45, ql60, ql61])
          · exact h2 (by clear h0 h1 h2; grind [q2, ql8, ql39, ql44, ql45, ql60, ql61]) (by clear h0 h1 h2; grind [q2, ql8, ql39, ql44, ql45, ql60, ql61])
        · exact h0 (by clear h0 h1 h2; grind [q2, ql8, ql39, ql44, ql45, ql60, ql61])
theorem c_X12_stone {d z : Nat} {N : Nat → Nat} {I : Nat → Nat → Int32} {L : Nat → Nat → Int64} {R : Nat → Nat → Option Nat} {Q : qP} {l : Int32} {p : Int32} (hn : 0 ≤ I 65 0 ∧ I 65 0 ≤ 12) (h0 : (l < 1 ∨ 4 < l ∨ p < 1 ∨ 24 < p) → Q (some (.int (-2))) (z, N, I, L, R)) (h1 : ¬ (l < 1 ∨ 4 < l ∨ p < 1 ∨ 24 < p) → I 65 0 = 12 → Q (some (.int (-4))) (z, N, I, L, R)) (h2 : ¬ (l < 1 ∨ 4 < l ∨ p < 1 ∨ 24 < p) → I 65 0 < 12 → Q (some (.int (I 65 0 + 1 - 1))) (z, N, q2 (q2 (q2 (q2 (q2 (q2 (q2 I 66 (I 65 0).toNatClampNeg l) 67 (I 65 0).toNatClampNeg p) 80 (I 65 0).toNatClampNeg (-999)) 81 (I 65 0).toNatClampNeg 999) 78 (I 65 0).toNatClampNeg (-1)) 79 (I 65 0).toNatClampNeg (-1)) 65 0 (I 65 0 + 1), L, R)) : qWP (d + 2) 172 [.ref 65, .int l, .int p] (z, N, I, L, R) Q := by
  refine qWP_of m_X12_stone rfl rfl [(0, .ref 65), (1, .int l), (2, .int p)] rfl ?_
  refine qJ_run (qWP_mono _) [46, 56, 68, 80, 90, 100, 110] 400 ?_
  refine ⟨⟨Nat.le_refl _, Nat.le_refl _⟩, ?_⟩
  refine c_X12_isIn fun v hv => ?_
  simp only [in1_4] at hv
  refine ⟨fun c1 => ?_, fun c1 => ?_⟩
  · refine qQ_id (Q := Q) ?_
    try simp (decide := true) only [q2_ne, q2_nj, q2_at, Nat.reduceMod, Nat.reduceAdd, kc_m999, kc_m4, kc_m2, kc_m1, kc_1, kc_4, kc_12, kc_24, kc_999]
    first | exact h0 (by clear h0 h1 h2; grind [q2, ql8, ql39, ql44, ql45, ql60, ql61]) | exact h1 (by clear h0 h1 h2; grind [q2, ql8, ql39, ql44, ql45, ql60, ql61]) (by clear h0 h1 h2; grind [q2, ql8, ql39, ql44, ql45, ql60, ql61])
  · refine ⟨⟨Nat.le_refl _, Nat.le_refl _⟩, ?_⟩
    refine c_X12_isIn fun w hw => ?_
    simp only [in1_24] at hw
    refine ⟨fun c2 => ?_, fun c2 => ?_⟩
    · refine ⟨fun c3 => ?_, fun c3 => ?_⟩
      · refine ⟨?_, ?_⟩
        · try simp (decide := true) only [q2_ne, q2_nj, q2_at, Nat.reduceMod, Nat.reduceAdd, kc_m999, kc_m4, kc_m2, kc_m1, kc_1, kc_4, kc_12, kc_24, kc_999]
          exact vb (N := 12) 12 (by decide) (by clear h0 h1 h2; grind [q2, ql8, ql39, ql44, ql45, ql60, ql61]) (by clear h0 h1 h2; grind [q2, ql8, ql39, ql44, ql45, ql60, ql61])
        refine qJ_id ?_
        simp (decide := true) only [q2_ne, q2_nj, q2_at, Nat.reduceMod, Nat.reduceAdd, kc_m999, kc_m4, kc_m2, kc_m1, kc_1, kc_4, kc_12, kc_24, kc_999]
        refine qJ_run (qWP_mono _) [46, 56, 68, 80, 90, 100, 110] 400 ?_
        refine ⟨?_, ?_⟩
        · try simp (decide := true) only [q2_ne, q2_nj, q2_at, Nat.reduceMod, Nat.reduceAdd, kc_m999, kc_m4, kc_m2, kc_m1, kc_1, kc_4, kc_12, kc_24, kc_999]
          exact vb (N := 12) 12 (by decide) (by clear h0 h1 h2; grind [q2, ql8, ql39, ql44, ql45, ql60, ql61]) (by clear h0 h1 h2; grind [q2, ql8, ql39, ql44, ql45, ql60, ql61])
        refine qJ_id ?_
        simp (decide := true) only [q2_ne, q2_nj, q2_at, Nat.reduceMod, Nat.reduceAdd, kc_m999, kc_m4, kc_m2, kc_m1, kc_1, kc_4, kc_12, kc_24, kc_999]
        refine qJ_run (qWP_mono _) [46, 56, 68, 80, 90, 100, 110] 400 ?_
        refine ⟨?_, ?_⟩
        · try simp (decide := true) only [q2_ne, q2_nj, q2_at, Nat.reduceMod, Nat.reduceAdd, kc_m999, kc_m4, kc_m2, kc_m1, kc_1, kc_4, kc_12, kc_24, kc_999]
          exact vb (N := 12) 12 (by decide) (by clear h0 h1 h2; grind [q2, ql8, ql39, ql44, ql45, ql60, ql61]) (by clear h0 h1 h2; grind [q2, ql8, ql39, ql44, ql45, ql60, ql61])
        refine qJ_id ?_
        simp (decide := true) only [q2_ne, q2_nj, q2_at, Nat.reduceMod, Nat.reduceAdd, kc_m999, kc_m4, kc_m2, kc_m1, kc_1, kc_4, kc_12, kc_24, kc_999]
        refine qJ_run (qWP_mono _) [46, 56, 68, 80, 90, 100, 110] 400 ?_
        refine ⟨?_, ?_⟩
        · try simp (decide := true) only [q2_ne, q2_nj, q2_at, Nat.reduceMod, Nat.reduceAdd, kc_m999, kc_m4, kc_m2, kc_m1, kc_1, kc_4, kc_12, kc_24, kc_999]
          exact vb (N := 12) 12 (by decide) (by clear h0 h1 h2; grind [q2, ql8, ql39, ql44, ql45, ql60, ql61]) (by clear h0 h1 h2; grind [q2, ql8, ql39, ql44, ql45, ql60, ql61])
        refine qJ_id ?_
        simp (decide := true) only [q2_ne, q2_nj, q2_at, Nat.reduceMod, Nat.reduceAdd, kc_m999, kc_m4, kc_m2, kc_m1, kc_1, kc_4, kc_12, kc_24, kc_999]
        refine qJ_run (qWP_mono _) [46, 56, 68, 80, 90, 100, 110] 400 ?_
        refine ⟨?_, ?_⟩
        · try simp (decide := true) only [q2_ne, q2_nj, q2_at, Nat.reduceMod, Nat.reduceAdd, kc_m999, kc_m4, kc_m2, kc_m1, kc_1, kc_4, kc_12, kc_24, kc_999]
          exact vb (N := 12) 12 (by decide) (by clear h0 h1 h2; grind [q2, ql8, ql39, ql44, ql45, ql60, ql61]) (by clear h0 h1 h2; grind [q2, ql8, ql39, ql44, ql45, ql60, ql61])
        refine qJ_id ?_
        simp (decide := true) only [q2_ne, q2_nj, q2_at, Nat.reduceMod, Nat.reduceAdd, kc_m999, kc_m4, kc_m2, kc_m1, kc_1, kc_4, kc_12, kc_24, kc_999]
        refine qJ_run (qWP_mono _) [46, 56, 68, 80, 90, 100, 110] 400 ?_
        refine ⟨?_, ?_⟩
        · try simp (decide := true) only [q2_ne, q2_nj, q2_at, Nat.reduceMod, Nat.reduceAdd, kc_m999, kc_m4, kc_m2, kc_m1, kc_1, kc_4, kc_12, kc_24, kc_999]
          exact vb (N := 12) 12 (by decide) (by clear h0 h1 h2; grind [q2, ql8, ql39, ql44, ql45, ql60, ql61]) (by clear h0 h1 h2; grind [q2, ql8, ql39, ql44, ql45, ql60, ql61])
        refine qJ_id ?_
        simp (decide := true) only [q2_ne, q2_nj, q2_at, Nat.reduceMod, Nat.reduceAdd, kc_m999, kc_m4, kc_m2, kc_m1, kc_1, kc_4, kc_12, kc_24, kc_999]
        refine qJ_run (qWP_mono _) [46, 56, 68, 80, 90, 100, 110] 400 ?_
        refine qJ_id ?_
        simp (decide := true) only [q2_ne, q2_nj, q2_at, Nat.reduceMod, Nat.reduceAdd, kc_m999, kc_m4, kc_m2, kc_m1, kc_1, kc_4, kc_12, kc_24, kc_999]
        refine qJ_run (qWP_mono _) [46, 56, 68, 80, 90, 100, 110] 400 ?_
        refine qQ_id (Q := Q) ?_
        try simp (decide := true) only [q2_ne, q2_nj, q2_at, Nat.reduceMod, Nat.reduceAdd, kc_m999, kc_m4, kc_m2, kc_m1, kc_1, kc_4, kc_12, kc_24, kc_999]
        exact h2 (by clear h0 h1 h2; grind [q2, ql8, ql39, ql44, ql45, ql60, ql61]) (by clear h0 h1 h2; grind [q2, ql8, ql39, ql44, ql45, ql60, ql61])
      · refine qQ_id (Q := Q) ?_
        try simp (decide := true) only [q2_ne, q2_nj, q2_at, Nat.reduceMod, Nat.reduceAdd, kc_m999, kc_m4, kc_m2, kc_m1, kc_1, kc_4, kc_12, kc_24, kc_999]
        first | exact h0 (by clear h0 h1 h2; grind [q2, ql8, ql39, ql44, ql45, ql60, ql61]) | exact h1 (by clear h0 h1 h2; grind [q2, ql8, ql39, ql44, ql45, ql60, ql61]) (by clear h0 h1 h2; grind [q2, ql8, ql39, ql44, ql45, ql60, ql61])
    · refine qQ_id (Q := Q) ?_
      try simp (decide := true) only [q2_ne, q2_nj, q2_at, Nat.reduceMod, Nat.reduceAdd, kc_m999, kc_m4, kc_m2, kc_m1, kc_1, kc_4, kc_12, kc_24, kc_999]
      first | exact h0 (by clear h0 h1 h2; grind [q2, ql8, ql39, ql44, ql45, ql60, ql61]) | exact h1 (by clear h0 h1 h2; grind [q2, ql8, ql39, ql44, ql45, ql60, ql61]) (by clear h0 h1 h2; grind [q2, ql8, ql39, ql44, ql45, ql60, ql61])
theorem c_X11_hand {d z : Nat} {N : Nat → Nat} {I : Nat → Nat → Int32} {L : Nat → Nat → Int64} {R : Nat → Nat → Option Nat} {Q : qP} {r : Int32} (hn : 0 ≤ I 6 2 ∧ I 6 2 ≤ 6) (h0 : (r < 0 ∨ 9 < r) → Q (some (.int (-2))) (z, N, I, L, R)) (h1 : ¬ (r < 0 ∨ 9 < r) → I 6 2 = 6 → Q (some (.int (-4))) (z, N, I, L, R)) (h2 : ¬ (r < 0 ∨ 9 < r) → I 6 2 < 6 → Q (some (.int (I 6 2 + 1 - 1))) (z, N, q2 (q2 I 7 (I 6 2).toNatClampNeg r) 6 2 (I 6 2 + 1), L, R)) : qWP (d + 2) 123 [.ref 2, .int r] (z, N, I, L, R) Q := by
  refine qWP_of m_X11_hand rfl rfl [(0, .ref 2), (1, .int r)] rfl ?_
  refine qJ_run (qWP_mono _) [] 400 ?_
  refine ⟨fun c1 => ?_, fun c1 => ?_⟩
  · exact h0 (by clear h0 h1 h2; grind [q2, ql8, ql39, ql44, ql45, ql60, ql61])
  · refine ⟨fun c2 => ?_, fun c2 => ?_⟩
    · refine ⟨⟨Nat.le_refl _, Nat.le_refl _⟩, ?_⟩
      refine c_X5_putHand hn (fun e3 => ?_) (fun e3 => ?_)
      · exact h1 (by clear h0 h1 h2; grind [q2, ql8, ql39, ql44, ql45, ql60, ql61]) (by clear h0 h1 h2; grind [q2, ql8, ql39, ql44, ql45, ql60, ql61])
      · exact h2 (by clear h0 h1 h2; grind [q2, ql8, ql39, ql44, ql45, ql60, ql61]) (by clear h0 h1 h2; grind [q2, ql8, ql39, ql44, ql45, ql60, ql61])
    · exact h0 (by clear h0 h1 h2; grind [q2, ql8, ql39, ql44, ql45, ql60, ql61])
theorem c_X12_hand {d z : Nat} {N : Nat → Nat} {I : Nat → Nat → Int32} {L : Nat → Nat → Int64} {R : Nat → Nat → Option Nat} {Q : qP} {r : Int32} (hn : 0 ≤ I 65 1 ∧ I 65 1 ≤ 6) (h0 : (r < 0 ∨ 9 < r) → Q (some (.int (-2))) (z, N, I, L, R)) (h1 : ¬ (r < 0 ∨ 9 < r) → I 65 1 = 6 → Q (some (.int (-4))) (z, N, I, L, R)) (h2 : ¬ (r < 0 ∨ 9 < r) → I 65 1 < 6 → Q (some (.int (I 65 1 + 1 - 1))) (z, N, q2 (q2 I 68 (I 65 1).toNatClampNeg r) 65 1 (I 65 1 + 1), L, R)) : qWP (d + 2) 173 [.ref 65, .int r] (z, N, I, L, R) Q := by
  refine qWP_of m_X12_hand rfl rfl [(0, .ref 65), (1, .int r)] rfl ?_
  refine qJ_run (qWP_mono _) [34, 44] 400 ?_
  refine ⟨⟨Nat.le_refl _, Nat.le_refl _⟩, ?_⟩
  refine c_X12_isIn fun v hv => ?_
  refine ⟨fun c1 => ?_, fun c1 => ?_⟩
  · refine ⟨fun c2 => ?_, fun c2 => ?_⟩
    · refine ⟨?_, ?_⟩
      · try simp (decide := true) only [q2_ne, q2_nj, q2_at, Nat.reduceMod, Nat.reduceAdd, kc_m4, kc_m2, kc_1, kc_6, kc_10]
        exact vb (N := 6) 6 (by decide) (by clear h0 h1 h2; grind [q2, ql8, ql39, ql44, ql45, ql60, ql61]) (by clear h0 h1 h2; grind [q2, ql8, ql39, ql44, ql45, ql60, ql61])
      refine qJ_id ?_
      simp (decide := true) only [q2_ne, q2_nj, q2_at, Nat.reduceMod, Nat.reduceAdd, kc_m4, kc_m2, kc_1, kc_6, kc_10]
      refine qJ_run (qWP_mono _) [34, 44] 400 ?_
      refine qJ_id ?_
      simp (decide := true) only [q2_ne, q2_nj, q2_at, Nat.reduceMod, Nat.reduceAdd, kc_m4, kc_m2, kc_1, kc_6, kc_10]
      refine qJ_run (qWP_mono _) [34, 44] 400 ?_
      refine qQ_id (Q := Q) ?_
      try simp (decide := true) only [q2_ne, q2_nj, q2_at, Nat.reduceMod, Nat.reduceAdd, kc_m4, kc_m2, kc_1, kc_6, kc_10]
      exact h2 (by clear h0 h1 h2; grind [q2, ql8, ql39, ql44, ql45, ql60, ql61]) (by clear h0 h1 h2; grind [q2, ql8, ql39, ql44, ql45, ql60, ql61])
    · refine qQ_id (Q := Q) ?_
      try simp (decide := true) only [q2_ne, q2_nj, q2_at, Nat.reduceMod, Nat.reduceAdd, kc_m4, kc_m2, kc_1, kc_6, kc_10]
      first | exact h0 (by clear h0 h1 h2; grind [q2, ql8, ql39, ql44, ql45, ql60, ql61]) | exact h1 (by clear h0 h1 h2; grind [q2, ql8, ql39, ql44, ql45, ql60, ql61]) (by clear h0 h1 h2; grind [q2, ql8, ql39, ql44, ql45, ql60, ql61])
  · refine qQ_id (Q := Q) ?_
    try simp (decide := true) only [q2_ne, q2_nj, q2_at, Nat.reduceMod, Nat.reduceAdd, kc_m4, kc_m2, kc_1, kc_6, kc_10]
    first | exact h0 (by clear h0 h1 h2; grind [q2, ql8, ql39, ql44, ql45, ql60, ql61]) | exact h1 (by clear h0 h1 h2; grind [q2, ql8, ql39, ql44, ql45, ql60, ql61]) (by clear h0 h1 h2; grind [q2, ql8, ql39, ql44, ql45, ql60, ql61])
theorem c_X11_years {d z : Nat} {N : Nat → Nat} {I : Nat → Nat → Int32} {L : Nat → Nat → Int64} {R : Nat → Nat → Option Nat} {Q : qP} {s : Int32} {a : Int32} {b : Int32} (hn : 0 ≤ I 3 2 ∧ I 3 2 ≤ 12) (h0 : (¬ (0 ≤ s ∧ s < I 3 2) ∨ a < -999 ∨ b < a ∨ 999 < b) → Q (some (.int (-2))) (z, N, I, L, R)) (h1 : ¬ (¬ (0 ≤ s ∧ s < I 3 2) ∨ a < -999 ∨ b < a ∨ 999 < b) → Q (some (.int 1)) (z, N, q2 (q2 I 47 s.toNatClampNeg a) 48 s.toNatClampNeg b, L, R)) : qWP (d + 2) 147 [.ref 2, .int s, .int a, .int b] (z, N, I, L, R) Q := by
  refine qWP_of m_X11_years rfl rfl [(0, .ref 2), (1, .int s), (2, .int a), (3, .int b)] rfl ?_
  refine qJ_run (qWP_mono _) [] 400 ?_
  refine ⟨fun c1 => ?_, fun c1 => ?_⟩
  · refine ⟨⟨Nat.le_refl _, Nat.le_refl _⟩, ?_⟩
    refine c_X6_has hn fun v hv => ?_
    refine ⟨fun c2 => ?_, fun c2 => ?_⟩
    · exact h0 (by clear h0 h1; grind [q2, ql8, ql39, ql44, ql45, ql60, ql61])
    · refine ⟨fun c3 => ?_, fun c3 => ?_⟩
      · refine ⟨⟨Nat.le_refl _, Nat.le_refl _⟩, ?_⟩
        refine c_X0_limit (fun e4 f4 => ?_) (fun e4 => absurd hn (by clear h0 h1; grind [q2, ql8, ql39, ql44, ql45, ql60, ql61]))
        · exact h1 (by clear h0 h1; grind [q2, ql8, ql39, ql44, ql45, ql60, ql61])
      · exact h0 (by clear h0 h1; grind [q2, ql8, ql39, ql44, ql45, ql60, ql61])
  · refine ⟨fun c5 => ?_, fun c5 => ?_⟩
    · refine ⟨⟨Nat.le_refl _, Nat.le_refl _⟩, ?_⟩
      refine c_X6_has hn fun v hv => ?_
      refine ⟨fun c6 => ?_, fun c6 => ?_⟩
      · exact h0 (by clear h0 h1; grind [q2, ql8, ql39, ql44, ql45, ql60, ql61])
      · refine ⟨fun c7 => ?_, fun c7 => ?_⟩
        · refine ⟨⟨Nat.le_refl _, Nat.le_refl _⟩, ?_⟩
          refine c_X0_limit (fun e8 f8 => ?_) (fun e8 => absurd hn (by clear h0 h1; grind [q2, ql8, ql39, ql44, ql45, ql60, ql61]))
          · exact h1 (by clear h0 h1; grind [q2, ql8, ql39, ql44, ql45, ql60, ql61])
        · exact h0 (by clear h0 h1; grind [q2, ql8, ql39, ql44, ql45, ql60, ql61])
    · refine ⟨fun c9 => ?_, fun c9 => ?_⟩
      · refine ⟨⟨Nat.le_refl _, Nat.le_refl _⟩, ?_⟩
        refine c_X6_has hn fun v hv => ?_
        refine ⟨fun c10 => ?_, fun c10 => ?_⟩
        · exact h0 (by clear h0 h1; grind [q2, ql8, ql39, ql44, ql45, ql60, ql61])
        · refine ⟨fun c11 => ?_, fun c11 => ?_⟩
          · refine ⟨⟨Nat.le_refl _, Nat.le_refl _⟩, ?_⟩
            refine c_X0_limit (fun e12 f12 => ?_) (fun e12 => absurd hn (by clear h0 h1; grind [q2, ql8, ql39, ql44, ql45, ql60, ql61]))
            · exact h1 (by clear h0 h1; grind [q2, ql8, ql39, ql44, ql45, ql60, ql61])
          · exact h0 (by clear h0 h1; grind [q2, ql8, ql39, ql44, ql45, ql60, ql61])
      · refine ⟨⟨Nat.le_refl _, Nat.le_refl _⟩, ?_⟩
        refine c_X6_has hn fun v hv => ?_
        refine ⟨fun c13 => ?_, fun c13 => ?_⟩
        · exact h0 (by clear h0 h1; grind [q2, ql8, ql39, ql44, ql45, ql60, ql61])
        · refine ⟨fun c14 => ?_, fun c14 => ?_⟩
          · refine ⟨⟨Nat.le_refl _, Nat.le_refl _⟩, ?_⟩
            refine c_X0_limit (fun e15 f15 => ?_) (fun e15 => absurd hn (by clear h0 h1; grind [q2, ql8, ql39, ql44, ql45, ql60, ql61]))
            · exact h1 (by clear h0 h1; grind [q2, ql8, ql39, ql44, ql45, ql60, ql61])
          · exact h0 (by clear h0 h1; grind [q2, ql8, ql39, ql44, ql45, ql60, ql61])
theorem c_X12_years {d z : Nat} {N : Nat → Nat} {I : Nat → Nat → Int32} {L : Nat → Nat → Int64} {R : Nat → Nat → Option Nat} {Q : qP} {s : Int32} {a : Int32} {b : Int32} (hn : 0 ≤ I 65 0 ∧ I 65 0 ≤ 12) (h0 : (¬ (0 ≤ s ∧ s < I 65 0) ∨ a < -999 ∨ b < a ∨ 999 < b) → Q (some (.int (-2))) (z, N, I, L, R)) (h1 : ¬ (¬ (0 ≤ s ∧ s < I 65 0) ∨ a < -999 ∨ b < a ∨ 999 < b) → Q (some (.int 1)) (z, N, q2 (q2 I 80 s.toNatClampNeg a) 81 s.toNatClampNeg b, L, R)) : qWP (d + 3) 218 [.ref 65, .int s, .int a, .int b] (z, N, I, L, R) Q := by
  refine qWP_of m_X12_years rfl rfl [(0, .ref 65), (1, .int s), (2, .int a), (3, .int b)] rfl ?_
  refine qJ_run (qWP_mono _) [37, 44] 400 ?_
  refine ⟨⟨Nat.le_refl _, Nat.le_refl _⟩, ?_⟩
  refine c_X12_isStone fun v hv => ?_
  refine ⟨fun c1 => ?_, fun c1 => ?_⟩
  · refine qQ_id (Q := Q) ?_
    try simp (decide := true) only [q2_ne, q2_nj, q2_at, Nat.reduceMod, Nat.reduceAdd, kc_m999, kc_m2, kc_1, kc_999]
    exact h0 (by clear h0 h1; grind [q2, ql8, ql39, ql44, ql45, ql60, ql61])
  · refine ⟨fun c2 => ?_, fun c2 => ?_⟩
    · refine qQ_id (Q := Q) ?_
      try simp (decide := true) only [q2_ne, q2_nj, q2_at, Nat.reduceMod, Nat.reduceAdd, kc_m999, kc_m2, kc_1, kc_999]
      exact h0 (by clear h0 h1; grind [q2, ql8, ql39, ql44, ql45, ql60, ql61])
    · refine ⟨fun c3 => ?_, fun c3 => ?_⟩
      · refine qQ_id (Q := Q) ?_
        try simp (decide := true) only [q2_ne, q2_nj, q2_at, Nat.reduceMod, Nat.reduceAdd, kc_m999, kc_m2, kc_1, kc_999]
        exact h0 (by clear h0 h1; grind [q2, ql8, ql39, ql44, ql45, ql60, ql61])
      · refine ⟨fun c4 => ?_, fun c4 => ?_⟩
        · refine ⟨?_, ?_⟩
          · try simp (decide := true) only [q2_ne, q2_nj, q2_at, Nat.reduceMod, Nat.reduceAdd, kc_m999, kc_m2, kc_1, kc_999]
            exact vb (N := 12) 12 (by decide) (by clear h0 h1; grind [q2, ql8, ql39, ql44, ql45, ql60, ql61]) (by clear h0 h1; grind [q2, ql8, ql39, ql44, ql45, ql60, ql61])
          refine qJ_id ?_
          simp (decide := true) only [q2_ne, q2_nj, q2_at, Nat.reduceMod, Nat.reduceAdd, kc_m999, kc_m2, kc_1, kc_999]
          refine qJ_run (qWP_mono _) [37, 44] 400 ?_
          refine ⟨?_, ?_⟩
          · try simp (decide := true) only [q2_ne, q2_nj, q2_at, Nat.reduceMod, Nat.reduceAdd, kc_m999, kc_m2, kc_1, kc_999]
            exact vb (N := 12) 12 (by decide) (by clear h0 h1; grind [q2, ql8, ql39, ql44, ql45, ql60, ql61]) (by clear h0 h1; grind [q2, ql8, ql39, ql44, ql45, ql60, ql61])
          refine qJ_id ?_
          simp (decide := true) only [q2_ne, q2_nj, q2_at, Nat.reduceMod, Nat.reduceAdd, kc_m999, kc_m2, kc_1, kc_999]
          refine qJ_run (qWP_mono _) [37, 44] 400 ?_
          refine qQ_id (Q := Q) ?_
          try simp (decide := true) only [q2_ne, q2_nj, q2_at, Nat.reduceMod, Nat.reduceAdd, kc_m999, kc_m2, kc_1, kc_999]
          exact h1 (by clear h0 h1; grind [q2, ql8, ql39, ql44, ql45, ql60, ql61])
        · refine qQ_id (Q := Q) ?_
          try simp (decide := true) only [q2_ne, q2_nj, q2_at, Nat.reduceMod, Nat.reduceAdd, kc_m999, kc_m2, kc_1, kc_999]
          exact h0 (by clear h0 h1; grind [q2, ql8, ql39, ql44, ql45, ql60, ql61])
theorem c_X11_bound {d z : Nat} {N : Nat → Nat} {I : Nat → Nat → Int32} {L : Nat → Nat → Int64} {R : Nat → Nat → Option Nat} {Q : qP} {a : Int32} {b : Int32} {g : Int32} (hn : 0 ≤ I 3 2 ∧ I 3 2 ≤ 12) (hm : 0 ≤ I 46 7 ∧ I 46 7 ≤ 20) (h0 : (¬ (0 ≤ a ∧ a < I 3 2) ∨ ¬ (0 ≤ b ∧ b < I 3 2) ∨ a = b ∨ g < -200 ∨ 200 < g) → Q (some (.int (-2))) (z, N, I, L, R)) (h1 : ¬ (¬ (0 ≤ a ∧ a < I 3 2) ∨ ¬ (0 ≤ b ∧ b < I 3 2) ∨ a = b ∨ g < -200 ∨ 200 < g) → I 46 7 = 20 → Q (some (.int (-4))) (z, N, I, L, R)) (h2 : ¬ (¬ (0 ≤ a ∧ a < I 3 2) ∨ ¬ (0 ≤ b ∧ b < I 3 2) ∨ a = b ∨ g < -200 ∨ 200 < g) → I 46 7 < 20 → Q (some (.int (I 46 7 + 1))) (z, N, q2 (q2 (q2 (q2 I 51 (I 46 7).toNatClampNeg a) 52 (I 46 7).toNatClampNeg b) 53 (I 46 7).toNatClampNeg g) 46 7 (I 46 7 + 1), L, R)) : qWP (d + 2) 148 [.ref 2, .int a, .int b, .int g] (z, N, I, L, R) Q := by
  refine qWP_of m_X11_bound rfl rfl [(0, .ref 2), (1, .int a), (2, .int b), (3, .int g)] rfl ?_
  refine qJ_run (qWP_mono _) [] 400 ?_
  refine ⟨⟨Nat.le_refl _, Nat.le_refl _⟩, ?_⟩
  refine c_X6_has hn fun v hv => ?_
  refine ⟨fun c1 => ?_, fun c1 => ?_⟩
  · exact h0 (by clear h0 h1 h2; grind [q2, ql8, ql39, ql44, ql45, ql60, ql61])
  · refine ⟨⟨Nat.le_refl _, Nat.le_refl _⟩, ?_⟩
    refine c_X6_has hn fun v hv => ?_
    refine ⟨fun c2 => ?_, fun c2 => ?_⟩
    · exact h0 (by clear h0 h1 h2; grind [q2, ql8, ql39, ql44, ql45, ql60, ql61])
    · refine ⟨fun c3 => ?_, fun c3 => ?_⟩
      · exact h0 (by clear h0 h1 h2; grind [q2, ql8, ql39, ql44, ql45, ql60, ql61])
      · refine ⟨fun c4 => ?_, fun c4 => ?_⟩
        · exact h0 (by clear h0 h1 h2; grind [q2, ql8, ql39, ql44, ql45, ql60, ql61])
        · refine ⟨fun c5 => ?_, fun c5 => ?_⟩
          · refine ⟨⟨Nat.le_refl _, Nat.le_refl _⟩, ?_⟩
            refine c_X0_put hm (by clear h0 h1 h2; grind [q2, ql8, ql39, ql44, ql45, ql60, ql61]) (by clear h0 h1 h2; grind [q2, ql8, ql39, ql44, ql45, ql60, ql61]) (fun e6 => ?_) (fun e6 => ?_)
            · exact h1 (by clear h0 h1 h2; grind [q2, ql8, ql39, ql44, ql45, ql60, ql61]) (by clear h0 h1 h2; grind [q2, ql8, ql39, ql44, ql45, ql60, ql61])
            · exact h2 (by clear h0 h1 h2; grind [q2, ql8, ql39, ql44, ql45, ql60, ql61]) (by clear h0 h1 h2; grind [q2, ql8, ql39, ql44, ql45, ql60, ql61])
          · exact h0 (by clear h0 h1 h2; grind [q2, ql8, ql39, ql44, ql45, ql60, ql61])
theorem c_X12_bound {d z : Nat} {N : Nat → Nat} {I : Nat → Nat → Int32} {L : Nat → Nat → Int64} {R : Nat → Nat → Option Nat} {Q : qP} {a : Int32} {b : Int32} {g : Int32} (hn : 0 ≤ I 65 0 ∧ I 65 0 ≤ 12) (hm : 0 ≤ I 65 4 ∧ I 65 4 ≤ 20) (h0 : (¬ (0 ≤ a ∧ a < I 65 0) ∨ ¬ (0 ≤ b ∧ b < I 65 0) ∨ a = b ∨ g < -200 ∨ 200 < g) → Q (some (.int (-2))) (z, N, I, L, R)) (h1 : ¬ (¬ (0 ≤ a ∧ a < I 65 0) ∨ ¬ (0 ≤ b ∧ b < I 65 0) ∨ a = b ∨ g < -200 ∨ 200 < g) → I 65 4 = 20 → Q (some (.int (-4))) (z, N, I, L, R)) (h2 : ¬ (¬ (0 ≤ a ∧ a < I 65 0) ∨ ¬ (0 ≤ b ∧ b < I 65 0) ∨ a = b ∨ g < -200 ∨ 200 < g) → I 65 4 < 20 → Q (some (.int (I 65 4 + 1))) (z, N, q2 (q2 (q2 (q2 I 84 (I 65 4).toNatClampNeg a) 85 (I 65 4).toNatClampNeg b) 86 (I 65 4).toNatClampNeg g) 65 4 (I 65 4 + 1), L, R)) : qWP (d + 3) 219 [.ref 65, .int a, .int b, .int g] (z, N, I, L, R) Q := by
  refine qWP_of m_X12_bound rfl rfl [(0, .ref 65), (1, .int a), (2, .int b), (3, .int g)] rfl ?_
  refine qJ_run (qWP_mono _) [60, 70, 80, 90] 400 ?_
  refine ⟨⟨Nat.le_refl _, Nat.le_refl _⟩, ?_⟩
  refine c_X12_isStone fun v hv => ?_
  refine ⟨fun c1 => ?_, fun c1 => ?_⟩
  · refine qQ_id (Q := Q) ?_
    try simp (decide := true) only [q2_ne, q2_nj, q2_at, Nat.reduceMod, Nat.reduceAdd, kc_m200, kc_m4, kc_m2, kc_1, kc_20, kc_200]
    first | exact h0 (by clear h0 h1 h2; grind [q2, ql8, ql39, ql44, ql45, ql60, ql61]) | exact h1 (by clear h0 h1 h2; grind [q2, ql8, ql39, ql44, ql45, ql60, ql61]) (by clear h0 h1 h2; grind [q2, ql8, ql39, ql44, ql45, ql60, ql61])
  · refine ⟨⟨Nat.le_refl _, Nat.le_refl _⟩, ?_⟩
    refine c_X12_isStone fun v hv => ?_
    refine ⟨fun c2 => ?_, fun c2 => ?_⟩
    · refine qQ_id (Q := Q) ?_
      try simp (decide := true) only [q2_ne, q2_nj, q2_at, Nat.reduceMod, Nat.reduceAdd, kc_m200, kc_m4, kc_m2, kc_1, kc_20, kc_200]
      first | exact h0 (by clear h0 h1 h2; grind [q2, ql8, ql39, ql44, ql45, ql60, ql61]) | exact h1 (by clear h0 h1 h2; grind [q2, ql8, ql39, ql44, ql45, ql60, ql61]) (by clear h0 h1 h2; grind [q2, ql8, ql39, ql44, ql45, ql60, ql61])
    · refine ⟨fun c3 => ?_, fun c3 => ?_⟩
      · refine qQ_id (Q := Q) ?_
        try simp (decide := true) only [q2_ne, q2_nj, q2_at, Nat.reduceMod, Nat.reduceAdd, kc_m200, kc_m4, kc_m2, kc_1, kc_20, kc_200]
        first | exact h0 (by clear h0 h1 h2; grind [q2, ql8, ql39, ql44, ql45, ql60, ql61]) | exact h1 (by clear h0 h1 h2; grind [q2, ql8, ql39, ql44, ql45, ql60, ql61]) (by clear h0 h1 h2; grind [q2, ql8, ql39, ql44, ql45, ql60, ql61])
      · refine ⟨fun c4 => ?_, fun c4 => ?_⟩
        · refine qQ_id (Q := Q) ?_
          try simp (decide := true) only [q2_ne, q2_nj, q2_at, Nat.reduceMod, Nat.reduceAdd, kc_m200, kc_m4, kc_m2, kc_1, kc_20, kc_200]
          first | exact h0 (by clear h0 h1 h2; grind [q2, ql8, ql39, ql44, ql45, ql60, ql61]) | exact h1 (by clear h0 h1 h2; grind [q2, ql8, ql39, ql44, ql45, ql60, ql61]) (by clear h0 h1 h2; grind [q2, ql8, ql39, ql44, ql45, ql60, ql61])
        · refine ⟨fun c5 => ?_, fun c5 => ?_⟩
          · refine ⟨fun c6 => ?_, fun c6 => ?_⟩
            · refine ⟨?_, ?_⟩
              · try simp (decide := true) only [q2_ne, q2_nj, q2_at, Nat.reduceMod, Nat.reduceAdd, kc_m200, kc_m4, kc_m2, kc_1, kc_20, kc_200]
                exact vb (N := 20) 20 (by decide) (by clear h0 h1 h2; grind [q2, ql8, ql39, ql44, ql45, ql60, ql61]) (by clear h0 h1 h2; grind [q2, ql8, ql39, ql44, ql45, ql60, ql61])
              refine qJ_id ?_
              simp (decide := true) only [q2_ne, q2_nj, q2_at, Nat.reduceMod, Nat.reduceAdd, kc_m200, kc_m4, kc_m2, kc_1, kc_20, kc_200]
              refine qJ_run (qWP_mono _) [60, 70, 80, 90] 400 ?_
              refine ⟨?_, ?_⟩
              · try simp (decide := true) only [q2_ne, q2_nj, q2_at, Nat.reduceMod, Nat.reduceAdd, kc_m200, kc_m4, kc_m2, kc_1, kc_20, kc_200]
                exact vb (N := 20) 20 (by decide) (by clear h0 h1 h2; grind [q2, ql8, ql39, ql44, ql45, ql60, ql61]) (by clear h0 h1 h2; grind [q2, ql8, ql39, ql44, ql45, ql60, ql61])
              refine qJ_id ?_
              simp (decide := true) only [q2_ne, q2_nj, q2_at, Nat.reduceMod, Nat.reduceAdd, kc_m200, kc_m4, kc_m2, kc_1, kc_20, kc_200]
              refine qJ_run (qWP_mono _) [60, 70, 80, 90] 400 ?_
              refine ⟨?_, ?_⟩
              · try simp (decide := true) only [q2_ne, q2_nj, q2_at, Nat.reduceMod, Nat.reduceAdd, kc_m200, kc_m4, kc_m2, kc_1, kc_20, kc_200]
                exact vb (N := 20) 20 (by decide) (by clear h0 h1 h2; grind [q2, ql8, ql39, ql44, ql45, ql60, ql61]) (by clear h0 h1 h2; grind [q2, ql8, ql39, ql44, ql45, ql60, ql61])
              refine qJ_id ?_
              simp (decide := true) only [q2_ne, q2_nj, q2_at, Nat.reduceMod, Nat.reduceAdd, kc_m200, kc_m4, kc_m2, kc_1, kc_20, kc_200]
              refine qJ_run (qWP_mono _) [60, 70, 80, 90] 400 ?_
              refine qJ_id ?_
              simp (decide := true) only [q2_ne, q2_nj, q2_at, Nat.reduceMod, Nat.reduceAdd, kc_m200, kc_m4, kc_m2, kc_1, kc_20, kc_200]
              refine qJ_run (qWP_mono _) [60, 70, 80, 90] 400 ?_
              refine qQ_id (Q := Q) ?_
              try simp (decide := true) only [q2_ne, q2_nj, q2_at, Nat.reduceMod, Nat.reduceAdd, kc_m200, kc_m4, kc_m2, kc_1, kc_20, kc_200]
              exact h2 (by clear h0 h1 h2; grind [q2, ql8, ql39, ql44, ql45, ql60, ql61]) (by clear h0 h1 h2; grind [q2, ql8, ql39, ql44, ql45, ql60, ql61])
            · refine qQ_id (Q := Q) ?_
              try simp (decide := true) only [q2_ne, q2_nj, q2_at, Nat.reduceMod, Nat.reduceAdd, kc_m200, kc_m4, kc_m2, kc_1, kc_20, kc_200]
              first | exact h0 (by clear h0 h1 h2; grind [q2, ql8, ql39, ql44, ql45, ql60, ql61]) | exact h1 (by clear h0 h1 h2; grind [q2, ql8, ql39, ql44, ql45, ql60, ql61]) (by clear h0 h1 h2; grind [q2, ql8, ql39, ql44, ql45, ql60, ql61])
          · refine qQ_id (Q := Q) ?_
            try simp (decide := true) only [q2_ne, q2_nj, q2_at, Nat.reduceMod, Nat.reduceAdd, kc_m200, kc_m4, kc_m2, kc_1, kc_20, kc_200]
            first | exact h0 (by clear h0 h1 h2; grind [q2, ql8, ql39, ql44, ql45, ql60, ql61]) | exact h1 (by clear h0 h1 h2; grind [q2, ql8, ql39, ql44, ql45, ql60, ql61]) (by clear h0 h1 h2; grind [q2, ql8, ql39, ql44, ql45, ql60, ql61])
theorem c_X11_loose {d z : Nat} {N : Nat → Nat} {I : Nat → Nat → Int32} {L : Nat → Nat → Int64} {R : Nat → Nat → Option Nat} {Q : qP}  (hn : 0 ≤ I 46 7 ∧ I 46 7 ≤ 20) (h1 : I 46 7 = 0 → Q (some (.int (-3))) (z, N, I, L, R)) (h2 : 0 < I 46 7 → Q (some (.int (I 46 7 - 1))) (z, N, q2 I 46 7 (I 46 7 - 1), L, R)) : qWP (d + 2) 149 [.ref 2] (z, N, I, L, R) Q := by
  refine qWP_of m_X11_loose rfl rfl [(0, .ref 2)] rfl ?_
  refine qJ_run (qWP_mono _) [] 400 ?_
  refine ⟨⟨Nat.le_refl _, Nat.le_refl _⟩, ?_⟩
  refine c_X0_drop hn (fun e1 => ?_) (fun e1 => ?_)
  · exact h1 (by clear h1 h2; grind [q2, ql8, ql39, ql44, ql45, ql60, ql61])
  · exact h2 (by clear h1 h2; grind [q2, ql8, ql39, ql44, ql45, ql60, ql61])
theorem c_X12_loose {d z : Nat} {N : Nat → Nat} {I : Nat → Nat → Int32} {L : Nat → Nat → Int64} {R : Nat → Nat → Option Nat} {Q : qP}  (hn : 0 ≤ I 65 4 ∧ I 65 4 ≤ 20) (h1 : I 65 4 = 0 → Q (some (.int (-3))) (z, N, I, L, R)) (h2 : 0 < I 65 4 → Q (some (.int (I 65 4 - 1))) (z, N, q2 I 65 4 (I 65 4 - 1), L, R)) : qWP (d + 1) 220 [.ref 65] (z, N, I, L, R) Q := by
  refine qWP_of m_X12_loose rfl rfl [(0, .ref 65)] rfl ?_
  refine qJ_run (qWP_mono _) [] 400 ?_
  refine ⟨fun c1 => ?_, fun c1 => ?_⟩
  · exact h2 (by clear h1 h2; grind [q2, ql8, ql39, ql44, ql45, ql60, ql61])
  · exact h1 (by clear h1 h2; grind [q2, ql8, ql39, ql44, ql45, ql60, ql61])
