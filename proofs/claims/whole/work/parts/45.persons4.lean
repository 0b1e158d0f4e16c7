theorem l_X12_isWord {d z : Nat} {N : Nat → Nat} {I : Nat → Nat → Int32} {L : Nat → Nat → Int64} {R : Nat → Nat → Option Nat} {Q : qP} {y : Int64} : ∀ (m : Nat) (n : Int32) (w : Int64), 0 ≤ n → n.toInt + m ≤ 50 → (0 < y → 0 ≤ w.toInt) → w.toInt < 27 ^ m → (0 < w → 0 < y) → Q (some (.int (if 0 < y ∧ (if n ≤ 7 then wd (dn 7 n) w else false) = true then 1 else 0))) (z, N, I, L, R) → qJ m_X12_isWord (qWP (d + 0)) Q 4 [(3, .long w), (2, .int n), (0, .long y)] [] 0 0 (z, N, I, L, R) := by
  refine nat_ind fun m ih => ?_
  intro n w h0 h1 h2 h3 h4 hq
  refine qJ_run (qWP_mono _) [4] 400 ?_
  refine ⟨fun (c1 : (lg_cmp w 0) ≤ 0) => ?_, fun (c1 : ¬ (lg_cmp w 0) ≤ 0) => ?_⟩
  · refine ⟨fun (c2 : (lg_cmp y 0) ≤ 0) => ?_, fun (c2 : ¬ (lg_cmp y 0) ≤ 0) => ?_⟩
    · refine ⟨by first | exact Or.inl rfl | exact Or.inr rfl | (clear ih hq; grind), ?_⟩
      change Q (some (.int 0)) (z, N, I, L, R)
      simp only [lg_eq, lg_gt, lg_le] at *
      have hc : ¬ (0 < y ∧ (if n ≤ 7 then wd (dn 7 n) w else false) = true) := by
        rintro ⟨g1, g2⟩
        by_cases hn7 : n ≤ 7
        · rw [if_pos hn7] at g2
          first
          | (exact absurd g1 (by assumption))
          | (exact absurd hn7 (by clear ih hq; grind))
          | (have hw0 : 0 < w := Classical.not_not.mp (by assumption)
             by_cases hn8 : n < 7
             · rw [dn_s hn8, wd_s, if_pos hw0, if_pos (show w - w / 27 * 27 = 0 by assumption)] at g2
               exact absurd g2 (by decide)
             · rw [dn_0 hn8] at g2
               have g3 := of_decide_eq_true g2
               rw [g3] at hw0
               exact absurd hw0 (by decide))
        · rw [if_neg hn7] at g2
          exact absurd g2 (by decide)
      rw [if_neg hc] at hq
      exact hq
    · refine ⟨fun (c3 : 7 < n) => ?_, fun (c3 : ¬ 7 < n) => ?_⟩
      · refine ⟨by first | exact Or.inl rfl | exact Or.inr rfl | (clear ih hq; grind), ?_⟩
        change Q (some (.int 0)) (z, N, I, L, R)
        simp only [lg_eq, lg_gt, lg_le] at *
        have hc : ¬ (0 < y ∧ (if n ≤ 7 then wd (dn 7 n) w else false) = true) := by
          rintro ⟨g1, g2⟩
          by_cases hn7 : n ≤ 7
          · rw [if_pos hn7] at g2
            first
            | (exact absurd g1 (by assumption))
            | (exact absurd hn7 (by clear ih hq; grind))
            | (have hw0 : 0 < w := Classical.not_not.mp (by assumption)
               by_cases hn8 : n < 7
               · rw [dn_s hn8, wd_s, if_pos hw0, if_pos (show w - w / 27 * 27 = 0 by assumption)] at g2
                 exact absurd g2 (by decide)
               · rw [dn_0 hn8] at g2
                 have g3 := of_decide_eq_true g2
                 rw [g3] at hw0
                 exact absurd hw0 (by decide))
          · rw [if_neg hn7] at g2
            exact absurd g2 (by decide)
        rw [if_neg hc] at hq
        exact hq
      · refine ⟨by first | exact Or.inl rfl | exact Or.inr rfl | (clear ih hq; grind), ?_⟩
        change Q (some (.int 1)) (z, N, I, L, R)
        simp only [lg_eq, lg_gt, lg_le] at *
        have hc : 0 < y ∧ (if n ≤ 7 then wd (dn 7 n) w else false) = true := by
          have hy : 0 < y := Classical.not_not.mp (by assumption)
          refine ⟨hy, ?_⟩
          rw [if_pos (show n ≤ 7 by clear ih hq; grind), wd_np (show ¬ 0 < w by assumption)]
          have h9 := h2 hy
          have h8 : ¬ 0 < w := by assumption
          refine decide_eq_true ?_
          apply Int64.toInt_inj.mp
          rw [Int64.lt_iff_toInt_lt] at h8
          rw [show (0 : Int64).toInt = 0 from rfl] at *
          omega
        rw [if_pos hc] at hq
        exact hq
  · refine ⟨?_, ?_⟩
    · decide
    refine ⟨fun (c4 : ¬ (lg_cmp (w - w / 27 * 27) 0) = 0) => ?_, fun (c4 : (lg_cmp (w - w / 27 * 27) 0) = 0) => ?_⟩
    · refine ⟨?_, ?_⟩
      · decide
      refine qJ_nm (qWP_mono _) [] [(3, .long (w / 27)), (2, .int (n + 1)), (0, .long y)] rfl rfl rfl ?_
      simp only [lg_eq, lg_gt, lg_le] at *
      have hw0 : 0 < w := Classical.not_not.mp (by assumption)
      have hd := div27 hw0
      have hm : ¬ m = 0 := fun e => by
        subst e
        rw [Int.pow_zero] at h3
        omega
      obtain ⟨k, rfl⟩ : ∃ k, m = k + 1 := ⟨m - 1, by omega⟩
      have en : (n + 1).toInt = n.toInt + 1 := ti_add (by have := i0 h0; rw [show (1 : Int32).toInt = 1 from rfl]; omega)
      have h0' := i0 h0
      rw [Int.pow_succ] at h3
      refine ih k rfl _ _ (by rw [fa_le, en, show (0 : Int32).toInt = 0 from rfl]; omega) (by rw [en]; omega) (fun _ => by rw [hd.1]; omega) (by rw [hd.1]; omega) (fun _ => h4 hw0) ?_
      have e9 : (if n + 1 ≤ 7 then wd (dn 7 (n + 1)) (w / 27) else false) = (if n ≤ 7 then wd (dn 7 n) w else false) := by
        by_cases hn8 : n < 7
        · have hn7 : n + 1 ≤ 7 := by clear ih hq; grind
          rw [if_pos hn7, if_pos (show n ≤ 7 by clear ih hq; grind), dn_s hn8, wd_s, if_pos hw0, if_neg (show ¬ w - w / 27 * 27 = 0 by assumption)]
        · have hn7 : ¬ n + 1 ≤ 7 := by
            intro h
            have h5 := Int32.le_iff_toInt_le.mp h
            rw [en, show (7 : Int32).toInt = 7 from rfl] at h5
            exact hn8 (by rw [fa_lt, show (7 : Int32).toInt = 7 from rfl]; omega)
          rw [if_neg hn7]
          by_cases hn9 : n ≤ 7
          · rw [if_pos hn9, dn_0 hn8]
            symm
            refine decide_eq_false fun h => ?_
            rw [h] at hw0
            exact absurd hw0 (by decide)
          · rw [if_neg hn9]
      rw [e9]
      exact hq
    · refine ⟨by first | exact Or.inl rfl | exact Or.inr rfl | (clear ih hq; grind), ?_⟩
      change Q (some (.int 0)) (z, N, I, L, R)
      simp only [lg_eq, lg_gt, lg_le] at *
      have hc : ¬ (0 < y ∧ (if n ≤ 7 then wd (dn 7 n) w else false) = true) := by
        rintro ⟨g1, g2⟩
        by_cases hn7 : n ≤ 7
        · rw [if_pos hn7] at g2
          first
          | (exact absurd g1 (by assumption))
          | (exact absurd hn7 (by clear ih hq; grind))
          | (have hw0 : 0 < w := Classical.not_not.mp (by assumption)
             by_cases hn8 : n < 7
             · rw [dn_s hn8, wd_s, if_pos hw0, if_pos (show w - w / 27 * 27 = 0 by assumption)] at g2
               exact absurd g2 (by decide)
             · rw [dn_0 hn8] at g2
               have g3 := of_decide_eq_true g2
               rw [g3] at hw0
               exact absurd hw0 (by decide))
        · rw [if_neg hn7] at g2
          exact absurd g2 (by decide)
      rw [if_neg hc] at hq
      exact hq
theorem isW_nz {a : Int64} (h : isW a = true) : ¬ a = 0 := fun e => by
  rw [e] at h
  exact absurd h (by decide)
theorem c_X12_isWord {d z : Nat} {N : Nat → Nat} {I : Nat → Nat → Int32} {L : Nat → Nat → Int64} {R : Nat → Nat → Option Nat} {Q : qP} {y : Int64}  (h : ∀ v : Int32, v = (if isW y = true then 1 else 0) → Q (some (.int v)) (z, N, I, L, R)) : qWP (d + 1) 225 [.long y] (z, N, I, L, R) Q := by
  refine qWP_of m_X12_isWord rfl rfl [(0, .long y)] rfl ?_
  refine qJ_run (qWP_mono _) [4] 400 ?_
  have hlt := Int64.toInt_lt y
  have hy9 : 0 < y → 0 ≤ y.toInt := fun h => by
    rw [Int64.lt_iff_toInt_lt, show (0 : Int64).toInt = 0 from rfl] at h
    omega
  refine l_X12_isWord (d := d) 14 0 y (by decide) (by decide) hy9 (by rw [show (27 : Int) ^ 14 = 109418989131512359209 from rfl]; omega) id (h _ ?_)
  unfold isW
  rw [if_pos (show (0 : Int32) ≤ 7 by decide), show dn 7 0 = 7 from rfl]
  by_cases hc : 0 < y
  · rw [if_pos hc]; simp only [hc, true_and]
  · rw [if_neg hc, if_neg (fun h => hc h.1)]; rfl
theorem c_X11_person {d z : Nat} {N : Nat → Nat} {I : Nat → Nat → Int32} {L : Nat → Nat → Int64} {R : Nat → Nat → Option Nat} {Q : qP} {a : Int64} {b : Int64} {s : Int32} (hs : 0 ≤ I 3 2 ∧ I 3 2 ≤ 12) (hp : 0 ≤ I 54 5 ∧ I 54 5 ≤ 12) (h0 : ¬ (isW a = true ∧ (b = 0 ∨ isW b = true) ∧ 0 ≤ s ∧ s < I 3 2) → Q (some (.int (-2))) (z, N, I, L, R)) (h1 : isW a = true ∧ (b = 0 ∨ isW b = true) ∧ 0 ≤ s ∧ s < I 3 2 → I 54 5 = 12 → Q (some (.int (-4))) (z, N, I, L, R)) (h2 : isW a = true ∧ (b = 0 ∨ isW b = true) ∧ 0 ≤ s ∧ s < I 3 2 → I 54 5 < 12 → Q (some (.int (I 54 5 + 1 - 1))) (z, N, q2 (q2 I 57 (I 54 5).toNatClampNeg s) 54 5 (I 54 5 + 1), q2 (q2 L 55 (I 54 5).toNatClampNeg a) 56 (I 54 5).toNatClampNeg b, R)) : qWP (d + 2) 152 [.ref 2, .long a, .long b, .int s] (z, N, I, L, R) Q := by
  refine qWP_of m_X11_person rfl rfl [(0, .ref 2), (1, .long a), (3, .long b), (5, .int s)] rfl ?_
  refine qJ_run (qWP_mono _) [] 400 ?_
  refine ⟨⟨Nat.le_refl _, Nat.le_refl _⟩, ?_⟩
  refine c_X4_isWord fun v1 hv1 => ?_
  replace hv1 : v1 = if isW a = true then 1 else 0 := hv1
  refine ⟨fun (c1 : v1 = 0) => ?_, fun (c1 : ¬ v1 = 0) => ?_⟩
  · refine ⟨fun _ => ?_, fun h => absurd h (by decide)⟩
    change Q (some (.int (-2))) (z, N, I, L, R)
    (try simp only [lg_eq] at *)
    exact h0 (by clear h0 h1 h2; grind)
  · refine ⟨fun (c2 : (lg_cmp b 0) = 0) => ?_, fun (c2 : ¬ (lg_cmp b 0) = 0) => ?_⟩
    · refine ⟨fun h => absurd h (by decide), fun _ => ?_⟩
      refine ⟨⟨Nat.le_refl _, Nat.le_refl _⟩, ?_⟩
      refine c_X6_has hs fun v2 hv2 => ?_
      refine ⟨fun (c3 : ¬ v2 = 0) => ?_, fun (c3 : v2 = 0) => ?_⟩
      · refine ⟨⟨Nat.le_refl _, Nat.le_refl _⟩, ?_⟩
        refine c_X4_put hp (fun e => ?_) (fun e => ?_)
        · change Q (some (.int (-4))) (z, N, I, L, R)
          (try simp only [lg_eq] at *)
          exact h1 (by clear h0 h1 h2; grind) e
        · change Q (some (.int (I 54 5 + 1 - 1))) (z, N, q2 (q2 I 57 ((I 54 5).toNatClampNeg) s) 54 5 (I 54 5 + 1), q2 (q2 L 55 ((I 54 5).toNatClampNeg) a) 56 ((I 54 5).toNatClampNeg) b, R)
          (try simp only [lg_eq] at *)
          exact h2 (by clear h0 h1 h2; grind) e
      · change Q (some (.int (-2))) (z, N, I, L, R)
        (try simp only [lg_eq] at *)
        exact h0 (by clear h0 h1 h2; grind)
    · refine ⟨⟨Nat.le_refl _, Nat.le_refl _⟩, ?_⟩
      refine c_X4_isWord fun v4 hv4 => ?_
      replace hv4 : v4 = if isW b = true then 1 else 0 := hv4
      refine ⟨fun (c4 : v4 = 0) => ?_, fun (c4 : ¬ v4 = 0) => ?_⟩
      · refine ⟨fun _ => ?_, fun h => absurd h (by decide)⟩
        change Q (some (.int (-2))) (z, N, I, L, R)
        (try simp only [lg_eq] at *)
        exact h0 (by clear h0 h1 h2; grind)
      · refine ⟨fun h => absurd h (by decide), fun _ => ?_⟩
        refine ⟨⟨Nat.le_refl _, Nat.le_refl _⟩, ?_⟩
        refine c_X6_has hs fun v5 hv5 => ?_
        refine ⟨fun (c5 : ¬ v5 = 0) => ?_, fun (c5 : v5 = 0) => ?_⟩
        · refine ⟨⟨Nat.le_refl _, Nat.le_refl _⟩, ?_⟩
          refine c_X4_put hp (fun e => ?_) (fun e => ?_)
          · change Q (some (.int (-4))) (z, N, I, L, R)
            (try simp only [lg_eq] at *)
            exact h1 (by clear h0 h1 h2; grind) e
          · change Q (some (.int (I 54 5 + 1 - 1))) (z, N, q2 (q2 I 57 ((I 54 5).toNatClampNeg) s) 54 5 (I 54 5 + 1), q2 (q2 L 55 ((I 54 5).toNatClampNeg) a) 56 ((I 54 5).toNatClampNeg) b, R)
            (try simp only [lg_eq] at *)
            exact h2 (by clear h0 h1 h2; grind) e
        · change Q (some (.int (-2))) (z, N, I, L, R)
          (try simp only [lg_eq] at *)
          exact h0 (by clear h0 h1 h2; grind)
theorem c_X12_person {d z : Nat} {N : Nat → Nat} {I : Nat → Nat → Int32} {L : Nat → Nat → Int64} {R : Nat → Nat → Option Nat} {Q : qP} {a : Int64} {b : Int64} {s : Int32} (hs : 0 ≤ I 65 0 ∧ I 65 0 ≤ 12) (hp : 0 ≤ I 65 3 ∧ I 65 3 ≤ 12) (h0 : ¬ (isW a = true ∧ (b = 0 ∨ isW b = true) ∧ 0 ≤ s ∧ s < I 65 0) → Q (some (.int (-2))) (z, N, I, L, R)) (h1 : isW a = true ∧ (b = 0 ∨ isW b = true) ∧ 0 ≤ s ∧ s < I 65 0 → I 65 3 = 12 → Q (some (.int (-4))) (z, N, I, L, R)) (h2 : isW a = true ∧ (b = 0 ∨ isW b = true) ∧ 0 ≤ s ∧ s < I 65 0 → I 65 3 < 12 → Q (some (.int (I 65 3 + 1 - 1))) (z, N, q2 (q2 I 89 (I 65 3).toNatClampNeg s) 65 3 (I 65 3 + 1), q2 (q2 L 87 (I 65 3).toNatClampNeg a) 88 (I 65 3).toNatClampNeg b, R)) : qWP (d + 3) 226 [.ref 65, .long a, .long b, .int s] (z, N, I, L, R) Q := by
  refine qWP_of m_X12_person rfl rfl [(0, .ref 65), (1, .long a), (3, .long b), (5, .int s)] rfl ?_
  refine qJ_run (qWP_mono _) [] 400 ?_
  refine ⟨⟨Nat.le_refl _, Nat.le_refl _⟩, ?_⟩
  refine c_X12_isWord fun v1 hv1 => ?_
  replace hv1 : v1 = if isW a = true then 1 else 0 := hv1
  refine ⟨fun (c1 : v1 = 0) => ?_, fun (c1 : ¬ v1 = 0) => ?_⟩
  · change Q (some (.int (-2))) (z, N, I, L, R)
    (try simp only [lg_eq] at *)
    exact h0 (by clear h0 h1 h2; grind)
  · refine ⟨fun (c2 : (lg_cmp b 0) = 0) => ?_, fun (c2 : ¬ (lg_cmp b 0) = 0) => ?_⟩
    · refine ⟨⟨Nat.le_refl _, Nat.le_refl _⟩, ?_⟩
      refine c_X12_isStone fun v2 hv2 => ?_
      refine ⟨fun (c3 : ¬ v2 = 0) => ?_, fun (c3 : v2 = 0) => ?_⟩
      · refine ⟨fun (c4 : ¬ (I 65 3) = 12) => ?_, fun (c4 : (I 65 3) = 12) => ?_⟩
        · refine ⟨?_, ?_⟩
          · exact vb (x := I 65 3) (N := 12) 12 (by decide) (by clear h0 h1 h2; grind) (by clear h0 h1 h2; grind)
          refine ⟨?_, ?_⟩
          · exact vb (x := I 65 3) (N := 12) 12 (by decide) (by clear h0 h1 h2; grind) (by clear h0 h1 h2; grind)
          refine ⟨?_, ?_⟩
          · exact vb (x := I 65 3) (N := 12) 12 (by decide) (by clear h0 h1 h2; grind) (by clear h0 h1 h2; grind)
          change Q (some (.int (((I 65 3) + 1) - 1))) (z, N, q2 (q2 I 89 ((I 65 3).toNatClampNeg) s) 65 3 ((I 65 3) + 1), q2 (q2 L 87 ((I 65 3).toNatClampNeg) a) 88 ((I 65 3).toNatClampNeg) b, R)
          (try simp only [lg_eq] at *)
          exact h2 (by clear h0 h1 h2; grind) (by clear h0 h1 h2; grind)
        · change Q (some (.int (-4))) (z, N, I, L, R)
          (try simp only [lg_eq] at *)
          exact h1 (by clear h0 h1 h2; grind) (by assumption)
      · change Q (some (.int (-2))) (z, N, I, L, R)
        (try simp only [lg_eq] at *)
        exact h0 (by clear h0 h1 h2; grind)
    · refine ⟨⟨Nat.le_refl _, Nat.le_refl _⟩, ?_⟩
      refine c_X12_isWord fun v3 hv3 => ?_
      replace hv3 : v3 = if isW b = true then 1 else 0 := hv3
      refine ⟨fun (c5 : v3 = 0) => ?_, fun (c5 : ¬ v3 = 0) => ?_⟩
      · change Q (some (.int (-2))) (z, N, I, L, R)
        (try simp only [lg_eq] at *)
        exact h0 (by clear h0 h1 h2; grind)
      · refine ⟨⟨Nat.le_refl _, Nat.le_refl _⟩, ?_⟩
        refine c_X12_isStone fun v4 hv4 => ?_
        refine ⟨fun (c6 : ¬ v4 = 0) => ?_, fun (c6 : v4 = 0) => ?_⟩
        · refine ⟨fun (c7 : ¬ (I 65 3) = 12) => ?_, fun (c7 : (I 65 3) = 12) => ?_⟩
          · refine ⟨?_, ?_⟩
            · exact vb (x := I 65 3) (N := 12) 12 (by decide) (by clear h0 h1 h2; grind) (by clear h0 h1 h2; grind)
            refine ⟨?_, ?_⟩
            · exact vb (x := I 65 3) (N := 12) 12 (by decide) (by clear h0 h1 h2; grind) (by clear h0 h1 h2; grind)
            refine ⟨?_, ?_⟩
            · exact vb (x := I 65 3) (N := 12) 12 (by decide) (by clear h0 h1 h2; grind) (by clear h0 h1 h2; grind)
            change Q (some (.int (((I 65 3) + 1) - 1))) (z, N, q2 (q2 I 89 ((I 65 3).toNatClampNeg) s) 65 3 ((I 65 3) + 1), q2 (q2 L 87 ((I 65 3).toNatClampNeg) a) 88 ((I 65 3).toNatClampNeg) b, R)
            (try simp only [lg_eq] at *)
            exact h2 (by clear h0 h1 h2; grind) (by clear h0 h1 h2; grind)
          · change Q (some (.int (-4))) (z, N, I, L, R)
            (try simp only [lg_eq] at *)
            exact h1 (by clear h0 h1 h2; grind) (by assumption)
        · change Q (some (.int (-2))) (z, N, I, L, R)
          (try simp only [lg_eq] at *)
          exact h0 (by clear h0 h1 h2; grind)
theorem op_person {M : qM} (hI : qInv M) (a : Int64) (b : Int64) (s : Int32) : qOp 152 226 [.long a, .long b, .int s] M := by
  obtain ⟨z, N, I, L, R⟩ := M
  obtain ⟨hst, hSt, hHa, hTo, hTp, hEd, hDa, hPe, hTr, hTx, hMk, hKA⟩ := hI
  dsimp only at hst hSt hHa hTo hTp hEd hDa hPe hTr hTx hMk hKA
  have hs : 0 ≤ I 3 2 ∧ I 3 2 ≤ 12 := ⟨hSt.2.1, hSt.2.2.1⟩
  have hs2 : 0 ≤ I 65 0 ∧ I 65 0 ≤ 12 := by rw [hSt.1]; exact hs
  obtain ⟨hb, hyl, hb3, hyl3⟩ := yr_ok hs hDa
  have hb2 : okB (I 65 0) (I 84) (I 85) (I 86) (I 65 4) := by rw [hSt.1]; exact hb3
  have hyl2 : yLn (I 65 0).toNatClampNeg (I 80) (I 81) := by rw [hSt.1]; exact hyl3
  have hp : 0 ≤ I 54 5 ∧ I 54 5 ≤ 12 := ⟨hPe.2.1, hPe.2.2.1⟩
  have hp2 : 0 ≤ I 65 3 ∧ I 65 3 ≤ 12 := by rw [hPe.1]; exact hp
  have hq1 : ∀ x : Int32, 0 ≤ x → x < I 54 5 → 0 ≤ I 57 x.toNatClampNeg ∧ I 57 x.toNatClampNeg < 12 := fun x a b => ⟨(hPe.2.2.2 x a b).2.2.2.2.1, Int32.lt_of_lt_of_le (hPe.2.2.2 x a b).2.2.2.2.2 hs.2⟩
  have hq2 : ∀ x : Int32, 0 ≤ x → x < I 65 3 → 0 ≤ I 89 x.toNatClampNeg ∧ I 89 x.toNatClampNeg < 12 := fun x a b => by
    rw [hPe.1] at b
    rw [(hPe.2.2.2 x a b).2.2.2.1]
    exact hq1 x a b
  refine c_X11_person hs hp (fun a0 => ?_) (fun a0 a1 => ?_) (fun a0 a1 => ?_)
  · refine ⟨_, rfl, ⟨rfl, rfl, hst⟩, ?_⟩
    refine c_X12_person (by first | exact hs2 | (simp (decide := true) only [q2_ne, q2_r1, uI_at, uI_nj, qRow_ne, qRow_at]; exact hs2)) (by first | exact hp2 | (simp (decide := true) only [q2_ne, q2_r1, uI_at, uI_nj, qRow_ne, qRow_at]; exact hp2)) (fun b0 => ?_) (fun b0 b1 => ?_) (fun b0 b1 => ?_)
    · exact ⟨rfl, ⟨by first | rfl | (simp (decide := true) only [q2_ne, q2_r1, uI_at, uI_nj, qRow_ne, qRow_at]), rfl⟩, ⟨hst, (by first | exact hSt | (simp (decide := true) only [q2_ne, q2_r1, uI_at, uI_nj, qRow_ne, qRow_at]; exact hSt)), (by first | exact hHa | (simp (decide := true) only [q2_ne, q2_r1, uI_at, uI_nj, qRow_ne, qRow_at]; exact hHa)), (by first | exact hTo | (simp (decide := true) only [q2_ne, q2_r1, uI_at, uI_nj, qRow_ne, qRow_at]; exact hTo)), (by first | exact hTp | (simp (decide := true) only [q2_ne, q2_r1, uI_at, uI_nj, qRow_ne, qRow_at]; exact hTp)), (by first | exact hEd | (simp (decide := true) only [q2_ne, q2_r1, uI_at, uI_nj, qRow_ne, qRow_at]; exact hEd)), (by first | exact hDa | (simp (decide := true) only [q2_ne, q2_r1, uI_at, uI_nj, qRow_ne, qRow_at]; exact hDa)), (by first | exact hPe | (simp (decide := true) only [q2_ne, q2_r1, uI_at, uI_nj, qRow_ne, qRow_at]; exact hPe)), (by first | exact hTr | (simp (decide := true) only [q2_ne, q2_r1, uI_at, uI_nj, qRow_ne, qRow_at]; exact hTr)), (RTx_of hTx (by simp (decide := true) only [q2_ne, q2_r1, uI_at, uI_nj, qRow_ne, qRow_at]) (by simp (decide := true) only [q2_ne, q2_r1, uI_at, uI_nj, qRow_ne, qRow_at]) (by simp (decide := true) only [q2_ne, q2_r1, uI_at, uI_nj, qRow_ne, qRow_at]) (by simp (decide := true) only [q2_ne, q2_r1, uI_at, uI_nj, qRow_ne, qRow_at]) (by simp (decide := true) only [q2_ne, q2_r1, uI_at, uI_nj, qRow_ne, qRow_at]) (fun k hk => by (try dsimp only); repeat first | rfl | rw [q2_ne (by omega)] | rw [qRow_ne (by omega)]) (fun k hk => by (try dsimp only); repeat first | rfl | rw [q2_ne (by omega)] | rw [qRow_ne (by omega)])), (by first | exact hMk | (simp (decide := true) only [q2_ne, q2_r1, uI_at, uI_nj, qRow_ne, qRow_at]; exact hMk)), (by first | exact hKA | (simp (decide := true) only [q2_ne, q2_r1, uI_at, uI_nj, qRow_ne, qRow_at]; exact hKA))⟩⟩
    · exact absurd (by rw [hSt.1] at b0; exact b0) a0
    · exact absurd (by rw [hSt.1] at b0; exact b0) a0
  · refine ⟨_, rfl, ⟨rfl, rfl, hst⟩, ?_⟩
    refine c_X12_person (by first | exact hs2 | (simp (decide := true) only [q2_ne, q2_r1, uI_at, uI_nj, qRow_ne, qRow_at]; exact hs2)) (by first | exact hp2 | (simp (decide := true) only [q2_ne, q2_r1, uI_at, uI_nj, qRow_ne, qRow_at]; exact hp2)) (fun b0 => ?_) (fun b0 b1 => ?_) (fun b0 b1 => ?_)
    · exact absurd (by rw [hSt.1]; exact a0) b0
    · exact ⟨rfl, ⟨by first | rfl | (simp (decide := true) only [q2_ne, q2_r1, uI_at, uI_nj, qRow_ne, qRow_at]), rfl⟩, ⟨hst, (by first | exact hSt | (simp (decide := true) only [q2_ne, q2_r1, uI_at, uI_nj, qRow_ne, qRow_at]; exact hSt)), (by first | exact hHa | (simp (decide := true) only [q2_ne, q2_r1, uI_at, uI_nj, qRow_ne, qRow_at]; exact hHa)), (by first | exact hTo | (simp (decide := true) only [q2_ne, q2_r1, uI_at, uI_nj, qRow_ne, qRow_at]; exact hTo)), (by first | exact hTp | (simp (decide := true) only [q2_ne, q2_r1, uI_at, uI_nj, qRow_ne, qRow_at]; exact hTp)), (by first | exact hEd | (simp (decide := true) only [q2_ne, q2_r1, uI_at, uI_nj, qRow_ne, qRow_at]; exact hEd)), (by first | exact hDa | (simp (decide := true) only [q2_ne, q2_r1, uI_at, uI_nj, qRow_ne, qRow_at]; exact hDa)), (by first | exact hPe | (simp (decide := true) only [q2_ne, q2_r1, uI_at, uI_nj, qRow_ne, qRow_at]; exact hPe)), (by first | exact hTr | (simp (decide := true) only [q2_ne, q2_r1, uI_at, uI_nj, qRow_ne, qRow_at]; exact hTr)), (RTx_of hTx (by simp (decide := true) only [q2_ne, q2_r1, uI_at, uI_nj, qRow_ne, qRow_at]) (by simp (decide := true) only [q2_ne, q2_r1, uI_at, uI_nj, qRow_ne, qRow_at]) (by simp (decide := true) only [q2_ne, q2_r1, uI_at, uI_nj, qRow_ne, qRow_at]) (by simp (decide := true) only [q2_ne, q2_r1, uI_at, uI_nj, qRow_ne, qRow_at]) (by simp (decide := true) only [q2_ne, q2_r1, uI_at, uI_nj, qRow_ne, qRow_at]) (fun k hk => by (try dsimp only); repeat first | rfl | rw [q2_ne (by omega)] | rw [qRow_ne (by omega)]) (fun k hk => by (try dsimp only); repeat first | rfl | rw [q2_ne (by omega)] | rw [qRow_ne (by omega)])), (by first | exact hMk | (simp (decide := true) only [q2_ne, q2_r1, uI_at, uI_nj, qRow_ne, qRow_at]; exact hMk)), (by first | exact hKA | (simp (decide := true) only [q2_ne, q2_r1, uI_at, uI_nj, qRow_ne, qRow_at]; exact hKA))⟩⟩
    · exact absurd b1 (by rw [hPe.1, a1]; decide)
  · refine ⟨_, rfl, ⟨by simp (decide := true) only [q2_ne, q2_r1, uI_at, uI_nj, qRow_ne, qRow_at], rfl, hst⟩, ?_⟩
    refine c_X12_person (by first | exact hs2 | (simp (decide := true) only [q2_ne, q2_r1, uI_at, uI_nj, qRow_ne, qRow_at]; exact hs2)) (by first | exact hp2 | (simp (decide := true) only [q2_ne, q2_r1, uI_at, uI_nj, qRow_ne, qRow_at]; exact hp2)) (fun b0 => ?_) (fun b0 b1 => ?_) (fun b0 b1 => ?_)
    · (try simp (decide := true) only [q2_ne, q2_r1, uI_at, uI_nj, qRow_ne, qRow_at] at b0)
      exact absurd (by rw [hSt.1]; exact a0) b0
    · (try simp (decide := true) only [q2_ne, q2_r1, uI_at, uI_nj, qRow_ne, qRow_at] at b1)
      exact absurd a1 (by rw [← hPe.1, b1]; decide)
    · have E1 := RPe_put (b := b) hPe a1 (isW_nz a0.1) a0.2.2
      exact ⟨by simp (decide := true) only [q2_ne, q2_r1, uI_at, uI_nj, qRow_ne, qRow_at]; rw [hPe.1], ⟨by first | rfl | (simp (decide := true) only [q2_ne, q2_r1, uI_at, uI_nj, qRow_ne, qRow_at]), rfl⟩, ⟨hst, (by first | exact hSt | (simp (decide := true) only [q2_ne, q2_r1, uI_at, uI_nj, qRow_ne, qRow_at]; exact hSt)), (by first | exact hHa | (simp (decide := true) only [q2_ne, q2_r1, uI_at, uI_nj, qRow_ne, qRow_at]; exact hHa)), (by first | exact hTo | (simp (decide := true) only [q2_ne, q2_r1, uI_at, uI_nj, qRow_ne, qRow_at]; exact hTo)), (by first | exact hTp | (simp (decide := true) only [q2_ne, q2_r1, uI_at, uI_nj, qRow_ne, qRow_at]; exact hTp)), (by first | exact hEd | (simp (decide := true) only [q2_ne, q2_r1, uI_at, uI_nj, qRow_ne, qRow_at]; exact hEd)), (by first | exact hDa | (simp (decide := true) only [q2_ne, q2_r1, uI_at, uI_nj, qRow_ne, qRow_at]; exact hDa)), (by simp (decide := true) only [q2_ne, q2_r1, uI_at, uI_nj, qRow_ne, qRow_at]; (try simp only [hPe.1]); exact E1), (by first | exact hTr | (simp (decide := true) only [q2_ne, q2_r1, uI_at, uI_nj, qRow_ne, qRow_at]; exact hTr)), (RTx_of hTx (by simp (decide := true) only [q2_ne, q2_r1, uI_at, uI_nj, qRow_ne, qRow_at]) (by simp (decide := true) only [q2_ne, q2_r1, uI_at, uI_nj, qRow_ne, qRow_at]) (by simp (decide := true) only [q2_ne, q2_r1, uI_at, uI_nj, qRow_ne, qRow_at]) (by simp (decide := true) only [q2_ne, q2_r1, uI_at, uI_nj, qRow_ne, qRow_at]) (by simp (decide := true) only [q2_ne, q2_r1, uI_at, uI_nj, qRow_ne, qRow_at]) (fun k hk => by (try dsimp only); repeat first | rfl | rw [q2_ne (by omega)] | rw [qRow_ne (by omega)]) (fun k hk => by (try dsimp only); repeat first | rfl | rw [q2_ne (by omega)] | rw [qRow_ne (by omega)])), (by first | exact hMk | (simp (decide := true) only [q2_ne, q2_r1, uI_at, uI_nj, qRow_ne, qRow_at]; exact hMk)), (by first | exact hKA | (simp (decide := true) only [q2_ne, q2_r1, uI_at, uI_nj, qRow_ne, qRow_at]; exact hKA))⟩⟩

theorem pOne_eq {n p p' a b : Int32} {nm fa nm' fa' : Nat → Int64} {st st' E U E' U' : Nat → Int32} (h : RPe n p p' nm fa nm' fa' st st') (hE : eqS n E U E' U') (ha : 0 ≤ a ∧ a < p) (hb : 0 ≤ b ∧ b < p) : pOne nm' fa' st' E' U' a b = pOne nm fa st E U a b := by
  obtain ⟨a1, a2, a3, a4, a5, a6⟩ := h.2.2.2 a ha.1 ha.2
  obtain ⟨b1, b2, b3, b4, b5, b6⟩ := h.2.2.2 b hb.1 hb.2
  have g1 := hE _ a5 a6
  have g2 := hE _ b5 b6
  unfold pOne
  rw [a1, a2, a4, b1, b2, b4, g1.1.1, g1.1.2, g2.1.1, g2.1.2]
theorem fFa_eq {n p p' c : Int32} {nm fa nm' fa' : Nat → Int64} {st st' E U E' U' : Nat → Int32} (h : RPe n p p' nm fa nm' fa' st st') (hE : eqS n E U E' U') (hc : 0 ≤ c ∧ c < p) : fFa nm' fa' st' E' U' p' c = fFa nm fa st E U p c := by
  obtain ⟨hp, h0, h12, h4⟩ := h
  subst hp
  unfold fFa
  refine upS_rel2 (fun _ (x y : Int32) => x = y) (fun (x y : Int32) => x = y) (fun x y h => h) (fun k x y k0 k1 hh => ?_) 0 (-1) (-1) (by decide) h0 rfl
  obtain ⟨a1, a2, a3, a4, a5, a6⟩ := h4 k k0 k1
  obtain ⟨b1, b2, b3, b4, b5, b6⟩ := h4 c hc.1 hc.2
  have g1 := hE _ a5 a6
  have g2 := hE _ b5 b6
  unfold gFa pAh
  rw [a1, a4, b2, b4, g1.1.1, g1.1.2, g2.1.1, g2.1.2]
  split
  · exact Or.inr ⟨_, _, rfl, rfl, rfl⟩
  · exact Or.inl ⟨_, _, rfl, rfl, rfl⟩
theorem fFa_none {n p p' c : Int32} {nm fa nm' fa' : Nat → Int64} {st st' E U : Nat → Int32} (h : RPe n p p' nm fa nm' fa' st st') (hz : fa c.toNatClampNeg = 0) : fFa nm fa st E U p c = -1 := by
  refine upS_inv (fun _ x => x = -1) (fun x => x = -1) (fun x hx => hx) (fun k x k0 k1 hx => ?_) 0 (-1) (by decide) h.2.1 rfl
  unfold gFa
  rw [if_neg (fun hc => (h.2.2.2 k k0 k1).2.2.1 (by rw [hc.2.1, hz]))]
  exact Or.inl ⟨_, rfl, rfl⟩
theorem op_one {M : qM} (hI : qInv M) (a : Int32) (b : Int32) : qOp 153 229 [.int a, .int b] M := by
  obtain ⟨z, N, I, L, R⟩ := M
  obtain ⟨hst, hSt, hHa, hTo, hTp, hEd, hDa, hPe, hTr, hTx, hMk, hKA⟩ := hI
  dsimp only at hst hSt hHa hTo hTp hEd hDa hPe hTr hTx hMk hKA
  have hs : 0 ≤ I 3 2 ∧ I 3 2 ≤ 12 := ⟨hSt.2.1, hSt.2.2.1⟩
  have hs2 : 0 ≤ I 65 0 ∧ I 65 0 ≤ 12 := by rw [hSt.1]; exact hs
  obtain ⟨hb0, hyl, hb3, hyl3⟩ := yr_ok hs hDa
  have hb2 : okB (I 65 0) (I 84) (I 85) (I 86) (I 65 4) := by rw [hSt.1]; exact hb3
  have hyl2 : yLn (I 65 0).toNatClampNeg (I 80) (I 81) := by rw [hSt.1]; exact hyl3
  have hp : 0 ≤ I 54 5 ∧ I 54 5 ≤ 12 := ⟨hPe.2.1, hPe.2.2.1⟩
  have hp2 : 0 ≤ I 65 3 ∧ I 65 3 ≤ 12 := by rw [hPe.1]; exact hp
  have hq1 : ∀ x : Int32, 0 ≤ x → x < I 54 5 → 0 ≤ I 57 x.toNatClampNeg ∧ I 57 x.toNatClampNeg < 12 := fun x a b => ⟨(hPe.2.2.2 x a b).2.2.2.2.1, Int32.lt_of_lt_of_le (hPe.2.2.2 x a b).2.2.2.2.2 hs.2⟩
  have hq2 : ∀ x : Int32, 0 ≤ x → x < I 65 3 → 0 ≤ I 89 x.toNatClampNeg ∧ I 89 x.toNatClampNeg < 12 := fun x a b => by
    rw [hPe.1] at b
    rw [(hPe.2.2.2 x a b).2.2.2.1]
    exact hq1 x a b
  refine c_X11_one hp hq1 hb0 hyl (fun a0 => ?_) (fun a0 v E U hy1 => ?_)
  · refine ⟨_, rfl, ⟨rfl, rfl, hst⟩, ?_⟩
    refine c_X12_one (by first | exact hp2 | (simp (decide := true) only [q2_ne, q2_r1, uI_at, uI_nj, qRow_ne, qRow_at]; exact hp2)) (by first | exact hq2 | (simp (decide := true) only [q2_ne, q2_r1, uI_at, uI_nj, qRow_ne, qRow_at]; exact hq2)) (by first | exact hs2 | (simp (decide := true) only [q2_ne, q2_r1, uI_at, uI_nj, qRow_ne, qRow_at]; exact hs2)) (by first | exact hb2 | (simp (decide := true) only [q2_ne, q2_r1, uI_at, uI_nj, qRow_ne, qRow_at]; exact hb2)) (by first | exact hyl2 | (simp (decide := true) only [q2_ne, q2_r1, uI_at, uI_nj, qRow_ne, qRow_at]; exact hyl2)) (fun b0 => ?_) (fun b0 v2 E2 U2 hy2 => ?_)
    · exact ⟨rfl, ⟨by first | rfl | (simp (decide := true) only [q2_ne, q2_r1, uI_at, uI_nj, qRow_ne, qRow_at]), rfl⟩, ⟨hst, (by first | exact hSt | (simp (decide := true) only [q2_ne, q2_r1, uI_at, uI_nj, qRow_ne, qRow_at]; exact hSt)), (by first | exact hHa | (simp (decide := true) only [q2_ne, q2_r1, uI_at, uI_nj, qRow_ne, qRow_at]; exact hHa)), (by first | exact hTo | (simp (decide := true) only [q2_ne, q2_r1, uI_at, uI_nj, qRow_ne, qRow_at]; exact hTo)), (by first | exact hTp | (simp (decide := true) only [q2_ne, q2_r1, uI_at, uI_nj, qRow_ne, qRow_at]; exact hTp)), (by first | exact hEd | (simp (decide := true) only [q2_ne, q2_r1, uI_at, uI_nj, qRow_ne, qRow_at]; exact hEd)), (by first | exact hDa | (simp (decide := true) only [q2_ne, q2_r1, uI_at, uI_nj, qRow_ne, qRow_at]; exact hDa)), (by first | exact hPe | (simp (decide := true) only [q2_ne, q2_r1, uI_at, uI_nj, qRow_ne, qRow_at]; exact hPe)), (by first | exact hTr | (simp (decide := true) only [q2_ne, q2_r1, uI_at, uI_nj, qRow_ne, qRow_at]; exact hTr)), (RTx_of hTx (by simp (decide := true) only [q2_ne, q2_r1, uI_at, uI_nj, qRow_ne, qRow_at]) (by simp (decide := true) only [q2_ne, q2_r1, uI_at, uI_nj, qRow_ne, qRow_at]) (by simp (decide := true) only [q2_ne, q2_r1, uI_at, uI_nj, qRow_ne, qRow_at]) (by simp (decide := true) only [q2_ne, q2_r1, uI_at, uI_nj, qRow_ne, qRow_at]) (by simp (decide := true) only [q2_ne, q2_r1, uI_at, uI_nj, qRow_ne, qRow_at]) (fun k hk => by (try dsimp only); repeat first | rfl | rw [q2_ne (by omega)] | rw [qRow_ne (by omega)]) (fun k hk => by (try dsimp only); repeat first | rfl | rw [q2_ne (by omega)] | rw [qRow_ne (by omega)])), (by first | exact hMk | (simp (decide := true) only [q2_ne, q2_r1, uI_at, uI_nj, qRow_ne, qRow_at]; exact hMk)), (by first | exact hKA | (simp (decide := true) only [q2_ne, q2_r1, uI_at, uI_nj, qRow_ne, qRow_at]; exact hKA))⟩⟩
    · exact absurd (by rw [hPe.1] at b0; exact b0) a0
  · refine ⟨_, rfl, ⟨by simp (decide := true) only [q2_ne, q2_r1, uI_at, uI_nj, qRow_ne, qRow_at], rfl, hst⟩, ?_⟩
    refine c_X12_one (by first | exact hp2 | (simp (decide := true) only [q2_ne, q2_r1, uI_at, uI_nj, qRow_ne, qRow_at]; exact hp2)) (by first | exact hq2 | (simp (decide := true) only [q2_ne, q2_r1, uI_at, uI_nj, qRow_ne, qRow_at]; exact hq2)) (by first | exact hs2 | (simp (decide := true) only [q2_ne, q2_r1, uI_at, uI_nj, qRow_ne, qRow_at]; exact hs2)) (by first | exact hb2 | (simp (decide := true) only [q2_ne, q2_r1, uI_at, uI_nj, qRow_ne, qRow_at]; exact hb2)) (by first | exact hyl2 | (simp (decide := true) only [q2_ne, q2_r1, uI_at, uI_nj, qRow_ne, qRow_at]; exact hyl2)) (fun b0 => ?_) (fun b0 v2 E2 U2 hy2 => ?_)
    · (try simp (decide := true) only [q2_ne, q2_r1, uI_at, uI_nj, qRow_ne, qRow_at] at b0)
      exact absurd (by rw [hPe.1]; exact a0) b0
    · (try simp (decide := true) only [q2_ne, q2_r1, uI_at, uI_nj, qRow_ne, qRow_at] at hy2)
      rw [hSt.1, hDa.1] at hy2
      have hr := yO_rel hs hDa hy1 (by rw [hDa.1]; exact hy2)
      have e9 : (if v2 = 0 ∧ pOne (L 87) (L 88) (I 89) E2 U2 a b = true then (1 : Int32) else 0) = (if v = 1 ∧ pOne (L 55) (L 56) (I 57) E U a b = true then 1 else 0) := by
        rcases hr with ⟨rfl, rfl, h9⟩ | ⟨rfl, rfl⟩
        · rw [pOne_eq hPe h9 a0.1 a0.2.1]; simp
        · rw [if_neg (fun h => absurd h.1 (by decide)), if_neg (fun h => absurd h.1 (by decide))]
      exact ⟨by simp (decide := true) only [q2_ne, q2_r1, uI_at, uI_nj, qRow_ne, qRow_at]; rw [e9], ⟨by first | rfl | (simp (decide := true) only [q2_ne, q2_r1, uI_at, uI_nj, qRow_ne, qRow_at]), rfl⟩, ⟨hst, (by first | exact hSt | (simp (decide := true) only [q2_ne, q2_r1, uI_at, uI_nj, qRow_ne, qRow_at]; exact hSt)), (by first | exact hHa | (simp (decide := true) only [q2_ne, q2_r1, uI_at, uI_nj, qRow_ne, qRow_at]; exact hHa)), (by first | exact hTo | (simp (decide := true) only [q2_ne, q2_r1, uI_at, uI_nj, qRow_ne, qRow_at]; exact hTo)), (by first | exact hTp | (simp (decide := true) only [q2_ne, q2_r1, uI_at, uI_nj, qRow_ne, qRow_at]; exact hTp)), (by first | exact hEd | (simp (decide := true) only [q2_ne, q2_r1, uI_at, uI_nj, qRow_ne, qRow_at]; exact hEd)), (by first | exact hDa | (simp (decide := true) only [q2_ne, q2_r1, uI_at, uI_nj, qRow_ne, qRow_at]; exact hDa)), (by first | exact hPe | (simp (decide := true) only [q2_ne, q2_r1, uI_at, uI_nj, qRow_ne, qRow_at]; exact hPe)), (by first | exact hTr | (simp (decide := true) only [q2_ne, q2_r1, uI_at, uI_nj, qRow_ne, qRow_at]; exact hTr)), (RTx_of hTx (by simp (decide := true) only [q2_ne, q2_r1, uI_at, uI_nj, qRow_ne, qRow_at]) (by simp (decide := true) only [q2_ne, q2_r1, uI_at, uI_nj, qRow_ne, qRow_at]) (by simp (decide := true) only [q2_ne, q2_r1, uI_at, uI_nj, qRow_ne, qRow_at]) (by simp (decide := true) only [q2_ne, q2_r1, uI_at, uI_nj, qRow_ne, qRow_at]) (by simp (decide := true) only [q2_ne, q2_r1, uI_at, uI_nj, qRow_ne, qRow_at]) (fun k hk => by (try dsimp only); repeat first | rfl | rw [q2_ne (by omega)] | rw [qRow_ne (by omega)]) (fun k hk => by (try dsimp only); repeat first | rfl | rw [q2_ne (by omega)] | rw [qRow_ne (by omega)])), (by first | exact hMk | (simp (decide := true) only [q2_ne, q2_r1, uI_at, uI_nj, qRow_ne, qRow_at]; exact hMk)), (by first | exact hKA | (simp (decide := true) only [q2_ne, q2_r1, uI_at, uI_nj, qRow_ne, qRow_at]; exact hKA))⟩⟩

theorem op_group {M : qM} (hI : qInv M) (p : Int32) : qOp 154 232 [.int p] M := by
  obtain ⟨z, N, I, L, R⟩ := M
  obtain ⟨hst, hSt, hHa, hTo, hTp, hEd, hDa, hPe, hTr, hTx, hMk, hKA⟩ := hI
  dsimp only at hst hSt hHa hTo hTp hEd hDa hPe hTr hTx hMk hKA
  have hs : 0 ≤ I 3 2 ∧ I 3 2 ≤ 12 := ⟨hSt.2.1, hSt.2.2.1⟩
  have hs2 : 0 ≤ I 65 0 ∧ I 65 0 ≤ 12 := by rw [hSt.1]; exact hs
  obtain ⟨hb, hyl, hb3, hyl3⟩ := yr_ok hs hDa
  have hb2 : okB (I 65 0) (I 84) (I 85) (I 86) (I 65 4) := by rw [hSt.1]; exact hb3
  have hyl2 : yLn (I 65 0).toNatClampNeg (I 80) (I 81) := by rw [hSt.1]; exact hyl3
  have hp : 0 ≤ I 54 5 ∧ I 54 5 ≤ 12 := ⟨hPe.2.1, hPe.2.2.1⟩
  have hp2 : 0 ≤ I 65 3 ∧ I 65 3 ≤ 12 := by rw [hPe.1]; exact hp
  have hq1 : ∀ x : Int32, 0 ≤ x → x < I 54 5 → 0 ≤ I 57 x.toNatClampNeg ∧ I 57 x.toNatClampNeg < 12 := fun x a b => ⟨(hPe.2.2.2 x a b).2.2.2.2.1, Int32.lt_of_lt_of_le (hPe.2.2.2 x a b).2.2.2.2.2 hs.2⟩
  have hq2 : ∀ x : Int32, 0 ≤ x → x < I 65 3 → 0 ≤ I 89 x.toNatClampNeg ∧ I 89 x.toNatClampNeg < 12 := fun x a b => by
    rw [hPe.1] at b
    rw [(hPe.2.2.2 x a b).2.2.2.1]
    exact hq1 x a b
  refine c_X11_group hp hq1 hb hyl (fun a0 => ?_) (fun a0 v E U hy1 => ?_)
  · refine ⟨_, rfl, ⟨rfl, rfl, hst⟩, ?_⟩
    refine c_X12_group (by first | exact hp2 | (simp (decide := true) only [q2_ne, q2_r1, uI_at, uI_nj, qRow_ne, qRow_at]; exact hp2)) (by first | exact hq2 | (simp (decide := true) only [q2_ne, q2_r1, uI_at, uI_nj, qRow_ne, qRow_at]; exact hq2)) (by first | exact hs2 | (simp (decide := true) only [q2_ne, q2_r1, uI_at, uI_nj, qRow_ne, qRow_at]; exact hs2)) (by first | exact hb2 | (simp (decide := true) only [q2_ne, q2_r1, uI_at, uI_nj, qRow_ne, qRow_at]; exact hb2)) (by first | exact hyl2 | (simp (decide := true) only [q2_ne, q2_r1, uI_at, uI_nj, qRow_ne, qRow_at]; exact hyl2)) (fun b0 => ?_) (fun b0 v2 E2 U2 hy2 => ?_)
    · exact ⟨rfl, ⟨by first | rfl | (simp (decide := true) only [q2_ne, q2_r1, uI_at, uI_nj, qRow_ne, qRow_at]), rfl⟩, ⟨hst, (by first | exact hSt | (simp (decide := true) only [q2_ne, q2_r1, uI_at, uI_nj, qRow_ne, qRow_at]; exact hSt)), (by first | exact hHa | (simp (decide := true) only [q2_ne, q2_r1, uI_at, uI_nj, qRow_ne, qRow_at]; exact hHa)), (by first | exact hTo | (simp (decide := true) only [q2_ne, q2_r1, uI_at, uI_nj, qRow_ne, qRow_at]; exact hTo)), (by first | exact hTp | (simp (decide := true) only [q2_ne, q2_r1, uI_at, uI_nj, qRow_ne, qRow_at]; exact hTp)), (by first | exact hEd | (simp (decide := true) only [q2_ne, q2_r1, uI_at, uI_nj, qRow_ne, qRow_at]; exact hEd)), (by first | exact hDa | (simp (decide := true) only [q2_ne, q2_r1, uI_at, uI_nj, qRow_ne, qRow_at]; exact hDa)), (by first | exact hPe | (simp (decide := true) only [q2_ne, q2_r1, uI_at, uI_nj, qRow_ne, qRow_at]; exact hPe)), (by first | exact hTr | (simp (decide := true) only [q2_ne, q2_r1, uI_at, uI_nj, qRow_ne, qRow_at]; exact hTr)), (RTx_of hTx (by simp (decide := true) only [q2_ne, q2_r1, uI_at, uI_nj, qRow_ne, qRow_at]) (by simp (decide := true) only [q2_ne, q2_r1, uI_at, uI_nj, qRow_ne, qRow_at]) (by simp (decide := true) only [q2_ne, q2_r1, uI_at, uI_nj, qRow_ne, qRow_at]) (by simp (decide := true) only [q2_ne, q2_r1, uI_at, uI_nj, qRow_ne, qRow_at]) (by simp (decide := true) only [q2_ne, q2_r1, uI_at, uI_nj, qRow_ne, qRow_at]) (fun k hk => by (try dsimp only); repeat first | rfl | rw [q2_ne (by omega)] | rw [qRow_ne (by omega)]) (fun k hk => by (try dsimp only); repeat first | rfl | rw [q2_ne (by omega)] | rw [qRow_ne (by omega)])), (by first | exact hMk | (simp (decide := true) only [q2_ne, q2_r1, uI_at, uI_nj, qRow_ne, qRow_at]; exact hMk)), (by first | exact hKA | (simp (decide := true) only [q2_ne, q2_r1, uI_at, uI_nj, qRow_ne, qRow_at]; exact hKA))⟩⟩
    · exact absurd (by rw [hPe.1] at b0; exact b0) a0
  · refine ⟨_, rfl, ⟨by simp (decide := true) only [q2_ne, q2_r1, uI_at, uI_nj, qRow_ne, qRow_at], rfl, hst⟩, ?_⟩
    refine c_X12_group (by first | exact hp2 | (simp (decide := true) only [q2_ne, q2_r1, uI_at, uI_nj, qRow_ne, qRow_at]; exact hp2)) (by first | exact hq2 | (simp (decide := true) only [q2_ne, q2_r1, uI_at, uI_nj, qRow_ne, qRow_at]; exact hq2)) (by first | exact hs2 | (simp (decide := true) only [q2_ne, q2_r1, uI_at, uI_nj, qRow_ne, qRow_at]; exact hs2)) (by first | exact hb2 | (simp (decide := true) only [q2_ne, q2_r1, uI_at, uI_nj, qRow_ne, qRow_at]; exact hb2)) (by first | exact hyl2 | (simp (decide := true) only [q2_ne, q2_r1, uI_at, uI_nj, qRow_ne, qRow_at]; exact hyl2)) (fun b0 => ?_) (fun b0 v2 E2 U2 hy2 => ?_)
    · (try simp (decide := true) only [q2_ne, q2_r1, uI_at, uI_nj, qRow_ne, qRow_at] at b0)
      exact absurd (by rw [hPe.1]; exact a0) b0
    · (try simp (decide := true) only [q2_ne, q2_r1, uI_at, uI_nj, qRow_ne, qRow_at] at hy2)
      rw [hSt.1, hDa.1] at hy2
      have hr := yO_rel hs hDa hy1 (by rw [hDa.1]; exact hy2)
      have e9 := (fSrt_eq (sp := decide (v = 1)) (one := pOne (L 55) (L 56) (I 57) E U) (one' := pOne (L 87) (L 88) (I 89) E2 U2) (gr := I 58) (gr' := I 90) hp (fun hv x y x0 x1 y0 y1 => by
        rcases hr with ⟨rfl, rfl, h9⟩ | ⟨rfl, rfl⟩
        · exact pOne_eq hPe h9 ⟨x0, x1⟩ ⟨y0, y1⟩
        · exact absurd hv (by decide))).2 p a0.1 a0.2
      have e8 : decide (v2 = 0) = decide (v = 1) := by
        rcases hr with ⟨rfl, rfl, h9⟩ | ⟨rfl, rfl⟩ <;> rfl
      exact ⟨by simp (decide := true) only [q2_ne, q2_r1, uI_at, uI_nj, qRow_ne, qRow_at]; rw [hPe.1, e8, e9], ⟨by first | rfl | (simp (decide := true) only [q2_ne, q2_r1, uI_at, uI_nj, qRow_ne, qRow_at]), rfl⟩, ⟨hst, (by first | exact hSt | (simp (decide := true) only [q2_ne, q2_r1, uI_at, uI_nj, qRow_ne, qRow_at]; exact hSt)), (by first | exact hHa | (simp (decide := true) only [q2_ne, q2_r1, uI_at, uI_nj, qRow_ne, qRow_at]; exact hHa)), (by first | exact hTo | (simp (decide := true) only [q2_ne, q2_r1, uI_at, uI_nj, qRow_ne, qRow_at]; exact hTo)), (by first | exact hTp | (simp (decide := true) only [q2_ne, q2_r1, uI_at, uI_nj, qRow_ne, qRow_at]; exact hTp)), (by first | exact hEd | (simp (decide := true) only [q2_ne, q2_r1, uI_at, uI_nj, qRow_ne, qRow_at]; exact hEd)), (by first | exact hDa | (simp (decide := true) only [q2_ne, q2_r1, uI_at, uI_nj, qRow_ne, qRow_at]; exact hDa)), (by first | exact hPe | (simp (decide := true) only [q2_ne, q2_r1, uI_at, uI_nj, qRow_ne, qRow_at]; exact hPe)), (by first | exact hTr | (simp (decide := true) only [q2_ne, q2_r1, uI_at, uI_nj, qRow_ne, qRow_at]; exact hTr)), (RTx_of hTx (by simp (decide := true) only [q2_ne, q2_r1, uI_at, uI_nj, qRow_ne, qRow_at]) (by simp (decide := true) only [q2_ne, q2_r1, uI_at, uI_nj, qRow_ne, qRow_at]) (by simp (decide := true) only [q2_ne, q2_r1, uI_at, uI_nj, qRow_ne, qRow_at]) (by simp (decide := true) only [q2_ne, q2_r1, uI_at, uI_nj, qRow_ne, qRow_at]) (by simp (decide := true) only [q2_ne, q2_r1, uI_at, uI_nj, qRow_ne, qRow_at]) (fun k hk => by (try dsimp only); repeat first | rfl | rw [q2_ne (by omega)] | rw [qRow_ne (by omega)]) (fun k hk => by (try dsimp only); repeat first | rfl | rw [q2_ne (by omega)] | rw [qRow_ne (by omega)])), (by first | exact hMk | (simp (decide := true) only [q2_ne, q2_r1, uI_at, uI_nj, qRow_ne, qRow_at]; exact hMk)), (by first | exact hKA | (simp (decide := true) only [q2_ne, q2_r1, uI_at, uI_nj, qRow_ne, qRow_at]; exact hKA))⟩⟩

theorem op_father {M : qM} (hI : qInv M) (p : Int32) : qOp 155 233 [.int p] M := by
  obtain ⟨z, N, I, L, R⟩ := M
  obtain ⟨hst, hSt, hHa, hTo, hTp, hEd, hDa, hPe, hTr, hTx, hMk, hKA⟩ := hI
  dsimp only at hst hSt hHa hTo hTp hEd hDa hPe hTr hTx hMk hKA
  have hs : 0 ≤ I 3 2 ∧ I 3 2 ≤ 12 := ⟨hSt.2.1, hSt.2.2.1⟩
  have hs2 : 0 ≤ I 65 0 ∧ I 65 0 ≤ 12 := by rw [hSt.1]; exact hs
  obtain ⟨hb, hyl, hb3, hyl3⟩ := yr_ok hs hDa
  have hb2 : okB (I 65 0) (I 84) (I 85) (I 86) (I 65 4) := by rw [hSt.1]; exact hb3
  have hyl2 : yLn (I 65 0).toNatClampNeg (I 80) (I 81) := by rw [hSt.1]; exact hyl3
  have hp : 0 ≤ I 54 5 ∧ I 54 5 ≤ 12 := ⟨hPe.2.1, hPe.2.2.1⟩
  have hp2 : 0 ≤ I 65 3 ∧ I 65 3 ≤ 12 := by rw [hPe.1]; exact hp
  have hq1 : ∀ x : Int32, 0 ≤ x → x < I 54 5 → 0 ≤ I 57 x.toNatClampNeg ∧ I 57 x.toNatClampNeg < 12 := fun x a b => ⟨(hPe.2.2.2 x a b).2.2.2.2.1, Int32.lt_of_lt_of_le (hPe.2.2.2 x a b).2.2.2.2.2 hs.2⟩
  have hq2 : ∀ x : Int32, 0 ≤ x → x < I 65 3 → 0 ≤ I 89 x.toNatClampNeg ∧ I 89 x.toNatClampNeg < 12 := fun x a b => by
    rw [hPe.1] at b
    rw [(hPe.2.2.2 x a b).2.2.2.1]
    exact hq1 x a b
  refine c_X11_father hp hq1 hb hyl (fun a0 => ?_) (fun a0 v E U hy1 => ?_)
  · refine ⟨_, rfl, ⟨rfl, rfl, hst⟩, ?_⟩
    refine c_X12_father (by first | exact hp2 | (simp (decide := true) only [q2_ne, q2_r1, uI_at, uI_nj, qRow_ne, qRow_at]; exact hp2)) (by first | exact hq2 | (simp (decide := true) only [q2_ne, q2_r1, uI_at, uI_nj, qRow_ne, qRow_at]; exact hq2)) (by first | exact hs2 | (simp (decide := true) only [q2_ne, q2_r1, uI_at, uI_nj, qRow_ne, qRow_at]; exact hs2)) (by first | exact hb2 | (simp (decide := true) only [q2_ne, q2_r1, uI_at, uI_nj, qRow_ne, qRow_at]; exact hb2)) (by first | exact hyl2 | (simp (decide := true) only [q2_ne, q2_r1, uI_at, uI_nj, qRow_ne, qRow_at]; exact hyl2)) (fun b0 => ?_) (fun b0 b1 => ?_) (fun b0 b1 v2 E2 U2 hy2 => ?_)
    · exact ⟨rfl, ⟨by first | rfl | (simp (decide := true) only [q2_ne, q2_r1, uI_at, uI_nj, qRow_ne, qRow_at]), rfl⟩, ⟨hst, (by first | exact hSt | (simp (decide := true) only [q2_ne, q2_r1, uI_at, uI_nj, qRow_ne, qRow_at]; exact hSt)), (by first | exact hHa | (simp (decide := true) only [q2_ne, q2_r1, uI_at, uI_nj, qRow_ne, qRow_at]; exact hHa)), (by first | exact hTo | (simp (decide := true) only [q2_ne, q2_r1, uI_at, uI_nj, qRow_ne, qRow_at]; exact hTo)), (by first | exact hTp | (simp (decide := true) only [q2_ne, q2_r1, uI_at, uI_nj, qRow_ne, qRow_at]; exact hTp)), (by first | exact hEd | (simp (decide := true) only [q2_ne, q2_r1, uI_at, uI_nj, qRow_ne, qRow_at]; exact hEd)), (by first | exact hDa | (simp (decide := true) only [q2_ne, q2_r1, uI_at, uI_nj, qRow_ne, qRow_at]; exact hDa)), (by first | exact hPe | (simp (decide := true) only [q2_ne, q2_r1, uI_at, uI_nj, qRow_ne, qRow_at]; exact hPe)), (by first | exact hTr | (simp (decide := true) only [q2_ne, q2_r1, uI_at, uI_nj, qRow_ne, qRow_at]; exact hTr)), (RTx_of hTx (by simp (decide := true) only [q2_ne, q2_r1, uI_at, uI_nj, qRow_ne, qRow_at]) (by simp (decide := true) only [q2_ne, q2_r1, uI_at, uI_nj, qRow_ne, qRow_at]) (by simp (decide := true) only [q2_ne, q2_r1, uI_at, uI_nj, qRow_ne, qRow_at]) (by simp (decide := true) only [q2_ne, q2_r1, uI_at, uI_nj, qRow_ne, qRow_at]) (by simp (decide := true) only [q2_ne, q2_r1, uI_at, uI_nj, qRow_ne, qRow_at]) (fun k hk => by (try dsimp only); repeat first | rfl | rw [q2_ne (by omega)] | rw [qRow_ne (by omega)]) (fun k hk => by (try dsimp only); repeat first | rfl | rw [q2_ne (by omega)] | rw [qRow_ne (by omega)])), (by first | exact hMk | (simp (decide := true) only [q2_ne, q2_r1, uI_at, uI_nj, qRow_ne, qRow_at]; exact hMk)), (by first | exact hKA | (simp (decide := true) only [q2_ne, q2_r1, uI_at, uI_nj, qRow_ne, qRow_at]; exact hKA))⟩⟩
    · exact absurd (by rw [hPe.1] at b0; exact b0) a0
    · exact absurd (by rw [hPe.1] at b0; exact b0) a0
  · refine ⟨_, rfl, ⟨by simp (decide := true) only [q2_ne, q2_r1, uI_at, uI_nj, qRow_ne, qRow_at], rfl, hst⟩, ?_⟩
    refine c_X12_father (by first | exact hp2 | (simp (decide := true) only [q2_ne, q2_r1, uI_at, uI_nj, qRow_ne, qRow_at]; exact hp2)) (by first | exact hq2 | (simp (decide := true) only [q2_ne, q2_r1, uI_at, uI_nj, qRow_ne, qRow_at]; exact hq2)) (by first | exact hs2 | (simp (decide := true) only [q2_ne, q2_r1, uI_at, uI_nj, qRow_ne, qRow_at]; exact hs2)) (by first | exact hb2 | (simp (decide := true) only [q2_ne, q2_r1, uI_at, uI_nj, qRow_ne, qRow_at]; exact hb2)) (by first | exact hyl2 | (simp (decide := true) only [q2_ne, q2_r1, uI_at, uI_nj, qRow_ne, qRow_at]; exact hyl2)) (fun b0 => ?_) (fun b0 b1 => ?_) (fun b0 b1 v2 E2 U2 hy2 => ?_)
    · (try simp (decide := true) only [q2_ne, q2_r1, uI_at, uI_nj, qRow_ne, qRow_at] at b0)
      exact absurd (by rw [hPe.1]; exact a0) b0
    · (try simp (decide := true) only [q2_ne, q2_r1, uI_at, uI_nj, qRow_ne, qRow_at] at b1)
      have hz : L 56 p.toNatClampNeg = 0 := by rw [← (hPe.2.2.2 p a0.1 a0.2).2.1]; exact b1
      have e9 : (if v = 1 then fFa (L 55) (L 56) (I 57) E U (I 54 5) p else -1) = -1 := by
        rw [fFa_none hPe hz]
        split <;> rfl
      rw [e9]
      exact ⟨rfl, ⟨by first | rfl | (simp (decide := true) only [q2_ne, q2_r1, uI_at, uI_nj, qRow_ne, qRow_at]), rfl⟩, ⟨hst, (by first | exact hSt | (simp (decide := true) only [q2_ne, q2_r1, uI_at, uI_nj, qRow_ne, qRow_at]; exact hSt)), (by first | exact hHa | (simp (decide := true) only [q2_ne, q2_r1, uI_at, uI_nj, qRow_ne, qRow_at]; exact hHa)), (by first | exact hTo | (simp (decide := true) only [q2_ne, q2_r1, uI_at, uI_nj, qRow_ne, qRow_at]; exact hTo)), (by first | exact hTp | (simp (decide := true) only [q2_ne, q2_r1, uI_at, uI_nj, qRow_ne, qRow_at]; exact hTp)), (by first | exact hEd | (simp (decide := true) only [q2_ne, q2_r1, uI_at, uI_nj, qRow_ne, qRow_at]; exact hEd)), (by first | exact hDa | (simp (decide := true) only [q2_ne, q2_r1, uI_at, uI_nj, qRow_ne, qRow_at]; exact hDa)), (by first | exact hPe | (simp (decide := true) only [q2_ne, q2_r1, uI_at, uI_nj, qRow_ne, qRow_at]; exact hPe)), (by first | exact hTr | (simp (decide := true) only [q2_ne, q2_r1, uI_at, uI_nj, qRow_ne, qRow_at]; exact hTr)), (RTx_of hTx (by simp (decide := true) only [q2_ne, q2_r1, uI_at, uI_nj, qRow_ne, qRow_at]) (by simp (decide := true) only [q2_ne, q2_r1, uI_at, uI_nj, qRow_ne, qRow_at]) (by simp (decide := true) only [q2_ne, q2_r1, uI_at, uI_nj, qRow_ne, qRow_at]) (by simp (decide := true) only [q2_ne, q2_r1, uI_at, uI_nj, qRow_ne, qRow_at]) (by simp (decide := true) only [q2_ne, q2_r1, uI_at, uI_nj, qRow_ne, qRow_at]) (fun k hk => by (try dsimp only); repeat first | rfl | rw [q2_ne (by omega)] | rw [qRow_ne (by omega)]) (fun k hk => by (try dsimp only); repeat first | rfl | rw [q2_ne (by omega)] | rw [qRow_ne (by omega)])), (by first | exact hMk | (simp (decide := true) only [q2_ne, q2_r1, uI_at, uI_nj, qRow_ne, qRow_at]; exact hMk)), (by first | exact hKA | (simp (decide := true) only [q2_ne, q2_r1, uI_at, uI_nj, qRow_ne, qRow_at]; exact hKA))⟩⟩
    · (try simp (decide := true) only [q2_ne, q2_r1, uI_at, uI_nj, qRow_ne, qRow_at] at hy2)
      rw [hSt.1, hDa.1] at hy2
      have hr := yO_rel hs hDa hy1 (by rw [hDa.1]; exact hy2)
      have e9 : (if v2 = 0 then fFa (L 87) (L 88) (I 89) E2 U2 (I 65 3) p else -1) = (if v = 1 then fFa (L 55) (L 56) (I 57) E U (I 54 5) p else -1) := by
        rcases hr with ⟨rfl, rfl, h9⟩ | ⟨rfl, rfl⟩
        · rw [if_pos rfl, if_pos rfl, fFa_eq hPe h9 a0]
        · rw [if_neg (by decide), if_neg (by decide)]
      exact ⟨by simp (decide := true) only [q2_ne, q2_r1, uI_at, uI_nj, qRow_ne, qRow_at]; rw [e9], ⟨by first | rfl | (simp (decide := true) only [q2_ne, q2_r1, uI_at, uI_nj, qRow_ne, qRow_at]), rfl⟩, ⟨hst, (by first | exact hSt | (simp (decide := true) only [q2_ne, q2_r1, uI_at, uI_nj, qRow_ne, qRow_at]; exact hSt)), (by first | exact hHa | (simp (decide := true) only [q2_ne, q2_r1, uI_at, uI_nj, qRow_ne, qRow_at]; exact hHa)), (by first | exact hTo | (simp (decide := true) only [q2_ne, q2_r1, uI_at, uI_nj, qRow_ne, qRow_at]; exact hTo)), (by first | exact hTp | (simp (decide := true) only [q2_ne, q2_r1, uI_at, uI_nj, qRow_ne, qRow_at]; exact hTp)), (by first | exact hEd | (simp (decide := true) only [q2_ne, q2_r1, uI_at, uI_nj, qRow_ne, qRow_at]; exact hEd)), (by first | exact hDa | (simp (decide := true) only [q2_ne, q2_r1, uI_at, uI_nj, qRow_ne, qRow_at]; exact hDa)), (by first | exact hPe | (simp (decide := true) only [q2_ne, q2_r1, uI_at, uI_nj, qRow_ne, qRow_at]; exact hPe)), (by first | exact hTr | (simp (decide := true) only [q2_ne, q2_r1, uI_at, uI_nj, qRow_ne, qRow_at]; exact hTr)), (RTx_of hTx (by simp (decide := true) only [q2_ne, q2_r1, uI_at, uI_nj, qRow_ne, qRow_at]) (by simp (decide := true) only [q2_ne, q2_r1, uI_at, uI_nj, qRow_ne, qRow_at]) (by simp (decide := true) only [q2_ne, q2_r1, uI_at, uI_nj, qRow_ne, qRow_at]) (by simp (decide := true) only [q2_ne, q2_r1, uI_at, uI_nj, qRow_ne, qRow_at]) (by simp (decide := true) only [q2_ne, q2_r1, uI_at, uI_nj, qRow_ne, qRow_at]) (fun k hk => by (try dsimp only); repeat first | rfl | rw [q2_ne (by omega)] | rw [qRow_ne (by omega)]) (fun k hk => by (try dsimp only); repeat first | rfl | rw [q2_ne (by omega)] | rw [qRow_ne (by omega)])), (by first | exact hMk | (simp (decide := true) only [q2_ne, q2_r1, uI_at, uI_nj, qRow_ne, qRow_at]; exact hMk)), (by first | exact hKA | (simp (decide := true) only [q2_ne, q2_r1, uI_at, uI_nj, qRow_ne, qRow_at]; exact hKA))⟩⟩

