theorem qJ_M {T : qT} {cs : qC} {Q : qP} {pc : Nat} {ls : List (Nat × Value)} {st : List Value} {uc us : Nat} {M M2 : qM} (h : M = M2) (hj : qJ T cs Q pc ls st uc us M2) : qJ T cs Q pc ls st uc us M := h ▸ hj
theorem q2_qRow3 {α : Type} {f : Nat → Nat → α} {a b c j : Nat} {g g' g'' : Nat → α} {v : α} (h : a ≠ b) (h' : a ≠ c) : q2 (qRow (qRow (qRow f a g) b g') c g'') a j v = qRow (qRow (qRow f a (uI g j v)) b g') c g'' := by
  funext e i
  by_cases hb : e = b
  · subst hb; by_cases hc : e = c <;> simp [q2, qRow, Ne.symm h, Ne.symm h', hc]
  · by_cases hc : e = c
    · subst hc; simp [q2, qRow, Ne.symm h']
    · by_cases ha : e = a <;> simp [q2, uI, qRow, ha, hb, hc, h, h']
theorem l_X5_leader {d z : Nat} {N : Nat → Nat} {I : Nat → Nat → Int32} {L : Nat → Nat → Int64} {R : Nat → Nat → Option Nat} {Q : qP} {s l p : Int32} (hn : 0 ≤ I 6 2 ∧ I 6 2 ≤ 6) : ∀ (k : Int32), ∀ b r : Int32, 0 ≤ k → Q (some (.int ((upF (I 6 2) (gLd (I 8) (I 7) s l p) k (b, r)).1))) (z, N, I, L, R) → qJ m_X5_leader (qWP (d + 2)) Q 9 [(6, .int k), (5, .int r), (4, .int b), (3, .int p), (2, .int l), (1, .int s), (0, .ref 6)] [] 0 0 (z, N, I, L, R) := by
  refine up_ind (I 6 2) fun k ih => ?_
  intro b r h0 hq
  refine qJ_run (qWP_mono _) [9] 400 ?_
  refine ⟨fun (c1 : (I 6 2) ≤ k) => ?_, fun (c1 : ¬ (I 6 2) ≤ k) => ?_⟩
  · change Q (some (.int b)) (z, N, I, L, R)
    first | (rw [upF_ge (by grind)] at hq; exact hq) | exact absurd hn (by clear ih hq; grind)
  · refine ⟨fun (c2 : 6 ≤ k) => ?_, fun (c2 : ¬ 6 ≤ k) => ?_⟩
    · change Q (some (.int b)) (z, N, I, L, R)
      first | (rw [upF_ge (by grind)] at hq; exact hq) | exact absurd hn (by clear ih hq; grind)
    · refine ⟨?_, ?_⟩
      · exact vb (x := k) (N := 6) 6 (by decide) (by clear ih hq; grind) (by clear ih hq; grind)
      refine ⟨fun (c3 : (I 7 ((k).toNatClampNeg)) ≤ r) => ?_, fun (c3 : ¬ (I 7 ((k).toNatClampNeg)) ≤ r) => ?_⟩
      · have hk : k < I 6 2 := by clear ih hq; grind
        refine ih hk _ _ (by clear ih hq; grind) ?_
        rw [upF_on hk] at hq
        have e : gLd (I 8) (I 7) s l p k (b, r) = (b, r) := by
          unfold gLd
          first | exact if_pos (by clear ih hq; grind) | exact if_neg (by clear ih hq; grind)
        rw [e] at hq
        exact hq
      · refine ⟨⟨Nat.le_refl _, Nat.le_refl _⟩, ?_⟩
        refine c_X5_at fun v1 hv1 => ?_
        replace hv1 : v1 = tAt (I 8) k s l p := hv1
        refine ⟨fun (c4 : v1 = 0) => ?_, fun (c4 : ¬ v1 = 0) => ?_⟩
        · have hk : k < I 6 2 := by clear ih hq; grind
          refine ih hk _ _ (by clear ih hq; grind) ?_
          rw [upF_on hk] at hq
          have e : gLd (I 8) (I 7) s l p k (b, r) = (b, r) := by
            unfold gLd
            first | exact if_pos (by clear ih hq; grind) | exact if_neg (by clear ih hq; grind)
          rw [e] at hq
          exact hq
        · refine ⟨?_, ?_⟩
          · exact vb (x := k) (N := 6) 6 (by decide) (by clear ih hq; grind) (by clear ih hq; grind)
          have hk : k < I 6 2 := by clear ih hq; grind
          refine ih hk _ _ (by clear ih hq; grind) ?_
          rw [upF_on hk] at hq
          have e : gLd (I 8) (I 7) s l p k (b, r) = (k, (I 7 ((k).toNatClampNeg))) := by
            unfold gLd
            first | exact if_pos (by clear ih hq; grind) | exact if_neg (by clear ih hq; grind)
          rw [e] at hq
          exact hq
theorem c_X5_leader {d z : Nat} {N : Nat → Nat} {I : Nat → Nat → Int32} {L : Nat → Nat → Int64} {R : Nat → Nat → Option Nat} {Q : qP} {s : Int32} {l : Int32} {p : Int32} (hn : 0 ≤ I 6 2 ∧ I 6 2 ≤ 6) (h : ∀ v : Int32, v = fLd (I 8) (I 7) (I 6 2) s l p → Q (some (.int v)) (z, N, I, L, R)) : qWP (d + 3) 73 [.ref 6, .int s, .int l, .int p] (z, N, I, L, R) Q := by
  refine qWP_of m_X5_leader rfl rfl [(0, .ref 6), (1, .int s), (2, .int l), (3, .int p)] rfl ?_
  refine qJ_run (qWP_mono _) [9] 400 ?_
  refine qJ_nm (qWP_mono _) [] [(6, .int 0), (5, .int (-1)), (4, .int (-1)), (3, .int p), (2, .int l), (1, .int s), (0, .ref 6)] rfl rfl rfl ?_
  exact l_X5_leader hn 0 (-1) (-1) (by decide) (h _ rfl)
theorem c_X5_leading {d z : Nat} {N : Nat → Nat} {I : Nat → Nat → Int32} {L : Nat → Nat → Int64} {R : Nat → Nat → Option Nat} {Q : qP} {s : Int32} {l : Int32} {p : Int32} (hn : 0 ≤ I 6 2 ∧ I 6 2 ≤ 6) (h : ∀ v : Int32, v = tLd (I 8) (I 7) (I 6 2) s l p → Q (some (.int v)) (z, N, I, L, R)) : qWP (d + 4) 74 [.ref 6, .int s, .int l, .int p] (z, N, I, L, R) Q := by
  refine qWP_of m_X5_leading rfl rfl [(0, .ref 6), (1, .int s), (2, .int l), (3, .int p)] rfl ?_
  refine qJ_run (qWP_mono _) [] 400 ?_
  refine ⟨⟨Nat.le_refl _, Nat.le_refl _⟩, ?_⟩
  refine c_X5_leader (d := d) hn fun v1 hv1 => ?_
  refine ⟨fun (c1 : ¬ v1 = (-1)) => ?_, fun (c1 : v1 = (-1)) => ?_⟩
  · refine ⟨⟨Nat.le_refl _, Nat.le_refl _⟩, ?_⟩
    refine c_X5_at fun v2 hv2 => ?_
    replace hv2 : v2 = tAt (I 8) v1 s l p := hv2
    change Q (some (.int v2)) (z, N, I, L, R)
    first | (refine h _ (if_pos (by grind)).symm) | (refine h _ ?_; subst hv1; exact hv2.trans (if_neg (by assumption)).symm)
  · change Q (some (.int 0)) (z, N, I, L, R)
    first | (refine h _ (if_pos (by grind)).symm) | (refine h _ ?_; subst hv1; exact hv2.trans (if_neg (by assumption)).symm)
theorem l_X5_dissenters {d z : Nat} {N : Nat → Nat} {I : Nat → Nat → Int32} {L : Nat → Nat → Int64} {R : Nat → Nat → Option Nat} {Q : qP} {s l p q : Int32} (hn : 0 ≤ I 6 2 ∧ I 6 2 ≤ 6) : ∀ (k : Int32), ∀ b : Int32, 0 ≤ k → Q (some (.int (upF (I 6 2) (gDs (I 8) q s l p) k b))) (z, N, I, L, R) → qJ m_X5_dissenters (qWP (d + 4)) Q 15 [(6, .int k), (5, .int b), (4, .int q), (3, .int p), (2, .int l), (1, .int s), (0, .ref 6)] [] 0 0 (z, N, I, L, R) := by
  refine up_ind (I 6 2) fun k ih => ?_
  intro b h0 hq
  refine qJ_run (qWP_mono _) [15] 400 ?_
  refine ⟨fun (c1 : (I 6 2) ≤ k) => ?_, fun (c1 : ¬ (I 6 2) ≤ k) => ?_⟩
  · change Q (some (.int b)) (z, N, I, L, R)
    rw [upF_ge (by grind)] at hq; exact hq
  · refine ⟨⟨Nat.le_refl _, Nat.le_refl _⟩, ?_⟩
    refine c_X5_at fun v1 hv1 => ?_
    replace hv1 : v1 = tAt (I 8) k s l p := hv1
    refine ⟨fun (c2 : v1 = 0) => ?_, fun (c2 : ¬ v1 = 0) => ?_⟩
    · refine qJ_nm (qWP_mono _) [(7, _)] [(6, .int (k + 1)), (5, .int b), (4, .int q), (3, .int p), (2, .int l), (1, .int s), (0, .ref 6)] rfl rfl rfl ?_
      have hk : k < I 6 2 := by clear ih hq; grind
      refine ih hk _ (by clear ih hq; grind) ?_
      rw [upF_on hk] at hq
      have e : gDs (I 8) q s l p k b = b := by
        unfold gDs
        first | exact if_pos (by clear ih hq; grind) | exact if_neg (by clear ih hq; grind)
      rw [e] at hq
      exact hq
    · refine ⟨fun (c3 : v1 = q) => ?_, fun (c3 : ¬ v1 = q) => ?_⟩
      · refine qJ_nm (qWP_mono _) [(7, _)] [(6, .int (k + 1)), (5, .int b), (4, .int q), (3, .int p), (2, .int l), (1, .int s), (0, .ref 6)] rfl rfl rfl ?_
        have hk : k < I 6 2 := by clear ih hq; grind
        refine ih hk _ (by clear ih hq; grind) ?_
        rw [upF_on hk] at hq
        have e : gDs (I 8) q s l p k b = b := by
          unfold gDs
          first | exact if_pos (by clear ih hq; grind) | exact if_neg (by clear ih hq; grind)
        rw [e] at hq
        exact hq
      · refine qJ_nm (qWP_mono _) [(7, _)] [(6, .int (k + 1)), (5, .int (b + 1)), (4, .int q), (3, .int p), (2, .int l), (1, .int s), (0, .ref 6)] rfl rfl rfl ?_
        have hk : k < I 6 2 := by clear ih hq; grind
        refine ih hk _ (by clear ih hq; grind) ?_
        rw [upF_on hk] at hq
        have e : gDs (I 8) q s l p k b = (b + 1) := by
          unfold gDs
          first | exact if_pos (by clear ih hq; grind) | exact if_neg (by clear ih hq; grind)
        rw [e] at hq
        exact hq
theorem c_X5_dissenters {d z : Nat} {N : Nat → Nat} {I : Nat → Nat → Int32} {L : Nat → Nat → Int64} {R : Nat → Nat → Option Nat} {Q : qP} {s : Int32} {l : Int32} {p : Int32} (hn : 0 ≤ I 6 2 ∧ I 6 2 ≤ 6) (h : ∀ v : Int32, v = fDs (I 8) (I 6 2) (tLd (I 8) (I 7) (I 6 2) s l p) s l p → Q (some (.int v)) (z, N, I, L, R)) : qWP (d + 5) 75 [.ref 6, .int s, .int l, .int p] (z, N, I, L, R) Q := by
  refine qWP_of m_X5_dissenters rfl rfl [(0, .ref 6), (1, .int s), (2, .int l), (3, .int p)] rfl ?_
  refine qJ_run (qWP_mono _) [15] 400 ?_
  refine ⟨⟨Nat.le_refl _, Nat.le_refl _⟩, ?_⟩
  refine c_X5_leading (d := d) hn fun v1 hv1 => ?_
  refine qJ_nm (qWP_mono _) [] [(6, .int 0), (5, .int 0), (4, .int v1), (3, .int p), (2, .int l), (1, .int s), (0, .ref 6)] rfl rfl rfl ?_
  subst hv1
  exact l_X5_dissenters hn 0 0 (by decide) (h _ rfl)
theorem c_X5_kindOf {d z : Nat} {N : Nat → Nat} {I : Nat → Nat → Int32} {L : Nat → Nat → Int64} {R : Nat → Nat → Option Nat} {Q : qP} {s : Int32}  (h : ∀ v : Int32, v = fKd s → Q (some (.int v)) (z, N, I, L, R)) : qWP (d + 1) 64 [.int s] (z, N, I, L, R) Q := by
  refine qWP_of m_X5_kindOf rfl rfl [(0, .int s)] rfl ?_
  refine qJ_run (qWP_mono _) [] 400 ?_
  refine ⟨fun (c1 : ¬ s = 0) => ?_, fun (c1 : s = 0) => ?_⟩
  · change Q (some (.int ((s >>> (27 &&& 31)) - 1))) (z, N, I, L, R)
    first | exact h _ (if_pos (by assumption)).symm | exact h _ (if_neg (by assumption)).symm
  · change Q (some (.int 3)) (z, N, I, L, R)
    first | exact h _ (if_pos (by assumption)).symm | exact h _ (if_neg (by assumption)).symm
theorem c_X5_mayOf {d z : Nat} {N : Nat → Nat} {I : Nat → Nat → Int32} {L : Nat → Nat → Int64} {R : Nat → Nat → Option Nat} {Q : qP} {s : Int32}  (h : ∀ v : Int32, v = fMy s → Q (some (.int v)) (z, N, I, L, R)) : qWP (d + 1) 65 [.int s] (z, N, I, L, R) Q := by
  refine qWP_of m_X5_mayOf rfl rfl [(0, .int s)] rfl ?_
  refine qJ_run (qWP_mono _) [] 400 ?_
  refine ⟨fun (c1 : ¬ s = 0) => ?_, fun (c1 : s = 0) => ?_⟩
  · change Q (some (.int (s &&& 134217727))) (z, N, I, L, R)
    first | exact h _ (if_pos (by assumption)).symm | exact h _ (if_neg (by assumption)).symm
  · change Q (some (.int 134217727)) (z, N, I, L, R)
    first | exact h _ (if_pos (by assumption)).symm | exact h _ (if_neg (by assumption)).symm
theorem l_X12_handOf {d z : Nat} {N : Nat → Nat} {I : Nat → Nat → Int32} {L : Nat → Nat → Int64} {R : Nat → Nat → Option Nat} {Q : qP} {s l p : Int32} (hn : 0 ≤ I 65 1 ∧ I 65 1 ≤ 6) (hp : inP s l p) : ∀ (k : Int32), ∀ b : Int32, 0 ≤ k → b < 6 → Q (some (.int (upF (I 65 1) (gHo (I 70) (I 68) s l p) k b))) (z, N, I, L, R) → qJ m_X12_handOf (qWP (d + 1)) Q 6 [(5, .int k), (4, .int b), (3, .int p), (2, .int l), (1, .int s), (0, .ref 65)] [] 0 0 (z, N, I, L, R) := by
  refine up_ind (I 65 1) fun k ih => ?_
  intro b h0 hb hq
  refine qJ_run (qWP_mono _) [6] 400 ?_
  refine ⟨fun (c1 : (I 65 1) ≤ k) => ?_, fun (c1 : ¬ (I 65 1) ≤ k) => ?_⟩
  · change Q (some (.int b)) (z, N, I, L, R)
    rw [upF_ge (by grind)] at hq; exact hq
  · refine ⟨⟨Nat.le_refl _, Nat.le_refl _⟩, ?_⟩
    refine c_X12_at fun v1 hv1 => ?_
    replace hv1 : v1 = tIx k s l p := hv1
    subst hv1
    refine ⟨?_, ?_⟩
    · exact vb (N := 6912) 6912 (by decide) (ix_rng (by clear ih hq; grind) hp).1 (ix_rng (by clear ih hq; grind) hp).2
    refine ⟨fun (c2 : (I 70 ((tIx k s l p).toNatClampNeg)) ≤ 0) => ?_, fun (c2 : ¬ (I 70 ((tIx k s l p).toNatClampNeg)) ≤ 0) => ?_⟩
    · have hk : k < I 65 1 := by clear ih hq; grind
      refine ih hk _ (by clear ih hq; grind) (by clear ih hq; grind) ?_
      rw [upF_on hk] at hq
      have e : gHo (I 70) (I 68) s l p k b = b := by
        unfold gHo
        first | exact if_pos (by clear ih hq; grind) | exact if_neg (by clear ih hq; grind)
      rw [e] at hq
      exact hq
    · refine ⟨fun (c3 : b < 0) => ?_, fun (c3 : ¬ b < 0) => ?_⟩
      · have hk : k < I 65 1 := by clear ih hq; grind
        refine ih hk _ (by clear ih hq; grind) (by clear ih hq; grind) ?_
        rw [upF_on hk] at hq
        have e : gHo (I 70) (I 68) s l p k b = k := by
          unfold gHo
          first | exact if_pos (by clear ih hq; grind) | exact if_neg (by clear ih hq; grind)
        rw [e] at hq
        exact hq
      · refine ⟨?_, ?_⟩
        · exact vb (x := k) (N := 6) 6 (by decide) (by clear ih hq; grind) (by clear ih hq; grind)
        refine ⟨?_, ?_⟩
        · exact vb (x := b) (N := 6) 6 (by decide) (by clear ih hq; grind) (by clear ih hq; grind)
        refine ⟨fun (c4 : (I 68 ((k).toNatClampNeg)) ≤ (I 68 ((b).toNatClampNeg))) => ?_, fun (c4 : ¬ (I 68 ((k).toNatClampNeg)) ≤ (I 68 ((b).toNatClampNeg))) => ?_⟩
        · have hk : k < I 65 1 := by clear ih hq; grind
          refine ih hk _ (by clear ih hq; grind) (by clear ih hq; grind) ?_
          rw [upF_on hk] at hq
          have e : gHo (I 70) (I 68) s l p k b = b := by
            unfold gHo
            first | exact if_pos (by clear ih hq; grind) | exact if_neg (by clear ih hq; grind)
          rw [e] at hq
          exact hq
        · have hk : k < I 65 1 := by clear ih hq; grind
          refine ih hk _ (by clear ih hq; grind) (by clear ih hq; grind) ?_
          rw [upF_on hk] at hq
          have e : gHo (I 70) (I 68) s l p k b = k := by
            unfold gHo
            first | exact if_pos (by clear ih hq; grind) | exact if_neg (by clear ih hq; grind)
          rw [e] at hq
          exact hq
theorem c_X12_handOf {d z : Nat} {N : Nat → Nat} {I : Nat → Nat → Int32} {L : Nat → Nat → Int64} {R : Nat → Nat → Option Nat} {Q : qP} {s : Int32} {l : Int32} {p : Int32} (hHa : RHa (I 6 2) (I 65 1) (I 7) (I 68)) (hTo : RTo (I 8) (I 70) (I 71)) (hp : inP s l p) (h : ∀ v : Int32, v = fLd (I 8) (I 7) (I 6 2) s l p → Q (some (.int v)) (z, N, I, L, R)) : qWP (d + 2) 177 [.ref 65, .int s, .int l, .int p] (z, N, I, L, R) Q := by
  have hn : 0 ≤ I 65 1 ∧ I 65 1 ≤ 6 := ⟨by rw [hHa.1]; exact hHa.2.1, by rw [hHa.1]; exact hHa.2.2.1⟩
  refine qWP_of m_X12_handOf rfl rfl [(0, .ref 65), (1, .int s), (2, .int l), (3, .int p)] rfl ?_
  refine qJ_run (qWP_mono _) [6] 400 ?_
  refine qJ_nm (qWP_mono _) [] [(5, .int 0), (4, .int (-1)), (3, .int p), (2, .int l), (1, .int s), (0, .ref 65)] rfl rfl rfl ?_
  exact l_X12_handOf hn hp 0 (-1) (by decide) (by decide) (h _ (ho_ld hHa hTo hp))
theorem c_X12_kindOf {d z : Nat} {N : Nat → Nat} {I : Nat → Nat → Int32} {L : Nat → Nat → Int64} {R : Nat → Nat → Option Nat} {Q : qP} {s : Int32} {l : Int32} {p : Int32} (hHa : RHa (I 6 2) (I 65 1) (I 7) (I 68)) (hTo : RTo (I 8) (I 70) (I 71)) (hp : inP s l p) (h : ∀ v : Int32, v = fKd (tLd (I 8) (I 7) (I 6 2) s l p) → Q (some (.int v)) (z, N, I, L, R)) : qWP (d + 3) 178 [.ref 65, .int s, .int l, .int p] (z, N, I, L, R) Q := by
  have hld := ld_some (t := I 8) (s := s) (l := l) (p := p) (rk := I 7) hHa.2.1 hHa.2.2.1 (fun x a b => (hHa.2.2.2 x a b).2.1)
  have h6 := hHa.2.2.1
  refine qWP_of m_X12_kindOf rfl rfl [(0, .ref 65), (1, .int s), (2, .int l), (3, .int p)] rfl ?_
  refine qJ_run (qWP_mono _) [] 400 ?_
  refine ⟨⟨Nat.le_refl _, Nat.le_refl _⟩, ?_⟩
  refine c_X12_handOf (d := d) hHa hTo hp fun v1 hv1 => ?_
  refine ⟨fun (c1 : 0 ≤ v1) => ?_, fun (c1 : ¬ 0 ≤ v1) => ?_⟩
  · refine ⟨⟨Nat.le_refl _, Nat.le_refl _⟩, ?_⟩
    refine c_X12_at fun v2 hv2 => ?_
    replace hv2 : v2 = tIx v1 s l p := hv2
    subst hv2
    refine ⟨?_, ?_⟩
    · exact vb (N := 6912) 6912 (by decide) (ix_rng (by clear h; grind) hp).1 (ix_rng (by clear h; grind) hp).2
    change Q (some (.int ((I 70 ((tIx v1 s l p).toNatClampNeg)) - 1))) (z, N, I, L, R)
    refine h _ ?_
    rcases hld with hl | hl
    · have e : tLd (I 8) (I 7) (I 6 2) s l p = 0 := if_pos hl.1
      rw [e]
      first | rfl | exact absurd hl.1 (by rw [← hv1]; clear h; grind)
    · have hr : 0 ≤ fLd (I 8) (I 7) (I 6 2) s l p ∧ fLd (I 8) (I 7) (I 6 2) s l p < 6 := by clear h; grind
      have e : tLd (I 8) (I 7) (I 6 2) s l p = tAt (I 8) (fLd (I 8) (I 7) (I 6 2) s l p) s l p := if_neg (by clear h; grind)
      first
      | exact absurd hr.1 (by rw [← hv1]; clear h; grind)
      | (rw [e, hv1, ix_at hr hp]
         have h3 := hl.2.2
         rw [ix_at hr hp] at h3
         exact (((rd1_un (hTo _ (ix_lt hr hp))).2.2 h3).1).symm)
  · change Q (some (.int 3)) (z, N, I, L, R)
    refine h _ ?_
    rcases hld with hl | hl
    · have e : tLd (I 8) (I 7) (I 6 2) s l p = 0 := if_pos hl.1
      rw [e]
      first | rfl | exact absurd hl.1 (by rw [← hv1]; clear h; grind)
    · have hr : 0 ≤ fLd (I 8) (I 7) (I 6 2) s l p ∧ fLd (I 8) (I 7) (I 6 2) s l p < 6 := by clear h; grind
      have e : tLd (I 8) (I 7) (I 6 2) s l p = tAt (I 8) (fLd (I 8) (I 7) (I 6 2) s l p) s l p := if_neg (by clear h; grind)
      first
      | exact absurd hr.1 (by rw [← hv1]; clear h; grind)
      | (rw [e, hv1, ix_at hr hp]
         have h3 := hl.2.2
         rw [ix_at hr hp] at h3
         exact (((rd1_un (hTo _ (ix_lt hr hp))).2.2 h3).1).symm)
theorem c_X12_mayOf {d z : Nat} {N : Nat → Nat} {I : Nat → Nat → Int32} {L : Nat → Nat → Int64} {R : Nat → Nat → Option Nat} {Q : qP} {s : Int32} {l : Int32} {p : Int32} (hHa : RHa (I 6 2) (I 65 1) (I 7) (I 68)) (hTo : RTo (I 8) (I 70) (I 71)) (hp : inP s l p) (h : ∀ v : Int32, v = fMy (tLd (I 8) (I 7) (I 6 2) s l p) → Q (some (.int v)) (z, N, I, L, R)) : qWP (d + 3) 179 [.ref 65, .int s, .int l, .int p] (z, N, I, L, R) Q := by
  have hld := ld_some (t := I 8) (s := s) (l := l) (p := p) (rk := I 7) hHa.2.1 hHa.2.2.1 (fun x a b => (hHa.2.2.2 x a b).2.1)
  have h6 := hHa.2.2.1
  refine qWP_of m_X12_mayOf rfl rfl [(0, .ref 65), (1, .int s), (2, .int l), (3, .int p)] rfl ?_
  refine qJ_run (qWP_mono _) [] 400 ?_
  refine ⟨⟨Nat.le_refl _, Nat.le_refl _⟩, ?_⟩
  refine c_X12_handOf (d := d) hHa hTo hp fun v1 hv1 => ?_
  refine ⟨fun (c1 : 0 ≤ v1) => ?_, fun (c1 : ¬ 0 ≤ v1) => ?_⟩
  · refine ⟨⟨Nat.le_refl _, Nat.le_refl _⟩, ?_⟩
    refine c_X12_at fun v2 hv2 => ?_
    replace hv2 : v2 = tIx v1 s l p := hv2
    subst hv2
    refine ⟨?_, ?_⟩
    · exact vb (N := 6912) 6912 (by decide) (ix_rng (by clear h; grind) hp).1 (ix_rng (by clear h; grind) hp).2
    change Q (some (.int (I 71 ((tIx v1 s l p).toNatClampNeg)))) (z, N, I, L, R)
    refine h _ ?_
    rcases hld with hl | hl
    · have e : tLd (I 8) (I 7) (I 6 2) s l p = 0 := if_pos hl.1
      rw [e]
      first | rfl | exact absurd hl.1 (by rw [← hv1]; clear h; grind)
    · have hr : 0 ≤ fLd (I 8) (I 7) (I 6 2) s l p ∧ fLd (I 8) (I 7) (I 6 2) s l p < 6 := by clear h; grind
      have e : tLd (I 8) (I 7) (I 6 2) s l p = tAt (I 8) (fLd (I 8) (I 7) (I 6 2) s l p) s l p := if_neg (by clear h; grind)
      first
      | exact absurd hr.1 (by rw [← hv1]; clear h; grind)
      | (rw [e, hv1, ix_at hr hp]
         have h3 := hl.2.2
         rw [ix_at hr hp] at h3
         exact (((rd1_un (hTo _ (ix_lt hr hp))).2.2 h3).2).symm)
  · change Q (some (.int 134217727)) (z, N, I, L, R)
    refine h _ ?_
    rcases hld with hl | hl
    · have e : tLd (I 8) (I 7) (I 6 2) s l p = 0 := if_pos hl.1
      rw [e]
      first | rfl | exact absurd hl.1 (by rw [← hv1]; clear h; grind)
    · have hr : 0 ≤ fLd (I 8) (I 7) (I 6 2) s l p ∧ fLd (I 8) (I 7) (I 6 2) s l p < 6 := by clear h; grind
      have e : tLd (I 8) (I 7) (I 6 2) s l p = tAt (I 8) (fLd (I 8) (I 7) (I 6 2) s l p) s l p := if_neg (by clear h; grind)
      first
      | exact absurd hr.1 (by rw [← hv1]; clear h; grind)
      | (rw [e, hv1, ix_at hr hp]
         have h3 := hl.2.2
         rw [ix_at hr hp] at h3
         exact (((rd1_un (hTo _ (ix_lt hr hp))).2.2 h3).2).symm)
