theorem c_X11_sign {d z : Nat} {N : Nat → Nat} {I : Nat → Nat → Int32} {L : Nat → Nat → Int64} {R : Nat → Nat → Option Nat} {Q : qP} {s : Int32} {l : Int32} {p : Int32} {w : Int32} (hs : 0 ≤ I 3 2 ∧ I 3 2 ≤ 12) (hn : 0 ≤ I 6 2 ∧ I 6 2 ≤ 6) (hl : ∀ x : Int32, 0 ≤ x → x < I 3 2 → I 4 x.toNatClampNeg ≤ 4 ∧ I 5 x.toNatClampNeg ≤ 24) (h0 : ¬ (((0 ≤ s ∧ s < I 3 2) ∧ 0 ≤ l ∧ l < I 4 s.toNatClampNeg) ∧ 0 ≤ p ∧ p < I 5 s.toNatClampNeg) ∨ w < 0 ∨ 3 < w → Q (some (.int (-2))) (z, N, I, L, R)) (h1 : ((0 ≤ s ∧ s < I 3 2) ∧ 0 ≤ l ∧ l < I 4 s.toNatClampNeg) ∧ 0 ≤ p ∧ p < I 5 s.toNatClampNeg → w = 0 → Q (some (.int (fKd (tLd (I 8) (I 7) (I 6 2) s l p)))) (z, N, I, L, R)) (h2 : ((0 ≤ s ∧ s < I 3 2) ∧ 0 ≤ l ∧ l < I 4 s.toNatClampNeg) ∧ 0 ≤ p ∧ p < I 5 s.toNatClampNeg → w = 1 → Q (some (.int (fMy (tLd (I 8) (I 7) (I 6 2) s l p)))) (z, N, I, L, R)) (h3 : ((0 ≤ s ∧ s < I 3 2) ∧ 0 ≤ l ∧ l < I 4 s.toNatClampNeg) ∧ 0 ≤ p ∧ p < I 5 s.toNatClampNeg → w = 2 → Q (some (.int (fLd (I 8) (I 7) (I 6 2) s l p))) (z, N, I, L, R)) (h4 : ((0 ≤ s ∧ s < I 3 2) ∧ 0 ≤ l ∧ l < I 4 s.toNatClampNeg) ∧ 0 ≤ p ∧ p < I 5 s.toNatClampNeg → w = 3 → Q (some (.int (fDs (I 8) (I 6 2) (tLd (I 8) (I 7) (I 6 2) s l p) s l p))) (z, N, I, L, R)) : qWP (d + 6) 126 [.ref 2, .int s, .int l, .int p, .int w] (z, N, I, L, R) Q := by
  refine qWP_of m_X11_sign rfl rfl [(0, .ref 2), (1, .int s), (2, .int l), (3, .int p), (4, .int w)] rfl ?_
  refine qJ_run (qWP_mono _) [] 400 ?_
  refine ⟨⟨Nat.le_refl _, Nat.le_refl _⟩, ?_⟩
  refine c_X6_hasPlace hs fun v1 hv1 => ?_
  refine ⟨fun (c1 : ¬ v1 = 0) => ?_, fun (c1 : v1 = 0) => ?_⟩
  · refine ⟨fun c2 => ?_, fun c2 => ?_, fun c2 => ?_, fun c2 => ?_, fun c2 => ?_, trivial⟩
    · replace c2 : w < 0 ∨ 3 < w := by rw [fa_lt, fa_lt]; exact c2
      change Q (some (.int (-2))) (z, N, I, L, R)
      exact h0 (Or.inr (by clear h0 h1 h2 h3 h4; grind))
    · replace c2 : w = 0 := Int32.toInt_inj.mp c2
      refine ⟨⟨Nat.le_refl _, Nat.le_refl _⟩, ?_⟩
      refine c_X5_leading (d := d + 1) hn fun v2 hv2 => ?_
      refine ⟨⟨Nat.le_refl _, Nat.le_refl _⟩, ?_⟩
      refine c_X5_kindOf (d := d + 4) fun v3 hv3 => ?_
      change Q (some (.int v3)) (z, N, I, L, R)
      subst hv2
      rw [hv3]
      exact h1 (by clear h0 h1 h2 h3 h4; grind) (by assumption)
    · replace c2 : w = 1 := Int32.toInt_inj.mp c2
      refine ⟨⟨Nat.le_refl _, Nat.le_refl _⟩, ?_⟩
      refine c_X5_leading (d := d + 1) hn fun v4 hv4 => ?_
      refine ⟨⟨Nat.le_refl _, Nat.le_refl _⟩, ?_⟩
      refine c_X5_mayOf (d := d + 4) fun v5 hv5 => ?_
      change Q (some (.int v5)) (z, N, I, L, R)
      subst hv4
      rw [hv5]
      exact h2 (by clear h0 h1 h2 h3 h4; grind) (by assumption)
    · replace c2 : w = 2 := Int32.toInt_inj.mp c2
      refine ⟨⟨Nat.le_refl _, Nat.le_refl _⟩, ?_⟩
      refine c_X5_leader (d := d + 2) hn fun v6 hv6 => ?_
      change Q (some (.int v6)) (z, N, I, L, R)
      rw [hv6]
      exact h3 (by clear h0 h1 h2 h3 h4; grind) (by assumption)
    · replace c2 : w = 3 := Int32.toInt_inj.mp c2
      refine ⟨⟨Nat.le_refl _, Nat.le_refl _⟩, ?_⟩
      refine c_X5_dissenters (d := d) hn fun v7 hv7 => ?_
      change Q (some (.int v7)) (z, N, I, L, R)
      rw [hv7]
      exact h4 (by clear h0 h1 h2 h3 h4; grind) (by assumption)
  · change Q (some (.int (-2))) (z, N, I, L, R)
    exact h0 (Or.inl (by clear h0 h1 h2 h3 h4; grind))
theorem l_X12_sign {d z : Nat} {N : Nat → Nat} {I : Nat → Nat → Int32} {L : Nat → Nat → Int64} {R : Nat → Nat → Option Nat} {Q : qP} {s l p w c y : Int32} (hn : 0 ≤ I 65 1 ∧ I 65 1 ≤ 6) (hp : inP s l p) : ∀ (k : Int32), ∀ b : Int32, 0 ≤ k → Q (some (.int (upF (I 65 1) (gDr (I 70) (I 71) c y s l p) k b))) (z, N, I, L, R) → qJ m_X12_sign (qWP (d + 3)) Q 79 [(8, .int k), (7, .int b), (6, .int y), (5, .int c), (4, .int w), (3, .int p), (2, .int l), (1, .int s), (0, .ref 65)] [] 0 0 (z, N, I, L, R) := by
  refine up_ind (I 65 1) fun k ih => ?_
  intro b h0 hq
  refine qJ_run (qWP_mono _) [79] 400 ?_
  refine ⟨fun (c1 : (I 65 1) ≤ k) => ?_, fun (c1 : ¬ (I 65 1) ≤ k) => ?_⟩
  · change Q (some (.int b)) (z, N, I, L, R)
    rw [upF_ge (by grind)] at hq; exact hq
  · refine ⟨⟨Nat.le_refl _, Nat.le_refl _⟩, ?_⟩
    refine c_X12_at fun v1 hv1 => ?_
    replace hv1 : v1 = tIx k s l p := hv1
    subst hv1
    refine ⟨?_, ?_⟩
    · exact vb (N := 6912) 6912 (by decide) (ix_rng (by clear ih hq; grind) hp).1 (ix_rng (by clear ih hq; grind) hp).2
    refine ⟨fun (c2 : (I 70 ((tIx k s l p).toNatClampNeg)) ≤ 0) => ?_, fun (c2 : ¬ (I 70 ((tIx k s l p).toNatClampNeg)) ≤ 0) => ?_⟩
    · refine qJ_nm (qWP_mono _) [(9, _)] [(8, .int (k + 1)), (7, .int (b + 0)), (6, .int y), (5, .int c), (4, .int w), (3, .int p), (2, .int l), (1, .int s), (0, .ref 65)] rfl rfl rfl ?_
      have hk : k < I 65 1 := by clear ih hq; grind
      refine ih hk _ (by clear ih hq; grind) ?_
      rw [upF_on hk] at hq
      have e : gDr (I 70) (I 71) c y s l p k b = (b + 0) := by
        unfold gDr
        first | exact if_pos (by clear ih hq; grind) | exact (if_neg (by clear ih hq; grind)).trans (by clear ih hq; grind)
      rw [e] at hq
      exact hq
    · refine ⟨?_, ?_⟩
      · exact vb (N := 6912) 6912 (by decide) (ix_rng (by clear ih hq; grind) hp).1 (ix_rng (by clear ih hq; grind) hp).2
      refine ⟨fun (c3 : ¬ ((I 70 ((tIx k s l p).toNatClampNeg)) - 1) = c) => ?_, fun (c3 : ((I 70 ((tIx k s l p).toNatClampNeg)) - 1) = c) => ?_⟩
      · refine qJ_nm (qWP_mono _) [(9, _)] [(8, .int (k + 1)), (7, .int (b + 1)), (6, .int y), (5, .int c), (4, .int w), (3, .int p), (2, .int l), (1, .int s), (0, .ref 65)] rfl rfl rfl ?_
        have hk : k < I 65 1 := by clear ih hq; grind
        refine ih hk _ (by clear ih hq; grind) ?_
        rw [upF_on hk] at hq
        have e : gDr (I 70) (I 71) c y s l p k b = (b + 1) := by
          unfold gDr
          first | exact if_pos (by clear ih hq; grind) | exact (if_neg (by clear ih hq; grind)).trans (by clear ih hq; grind)
        rw [e] at hq
        exact hq
      · refine ⟨?_, ?_⟩
        · exact vb (N := 6912) 6912 (by decide) (ix_rng (by clear ih hq; grind) hp).1 (ix_rng (by clear ih hq; grind) hp).2
        refine ⟨fun (c4 : (I 71 ((tIx k s l p).toNatClampNeg)) = y) => ?_, fun (c4 : ¬ (I 71 ((tIx k s l p).toNatClampNeg)) = y) => ?_⟩
        · refine qJ_nm (qWP_mono _) [(9, _)] [(8, .int (k + 1)), (7, .int (b + 0)), (6, .int y), (5, .int c), (4, .int w), (3, .int p), (2, .int l), (1, .int s), (0, .ref 65)] rfl rfl rfl ?_
          have hk : k < I 65 1 := by clear ih hq; grind
          refine ih hk _ (by clear ih hq; grind) ?_
          rw [upF_on hk] at hq
          have e : gDr (I 70) (I 71) c y s l p k b = (b + 0) := by
            unfold gDr
            first | exact if_pos (by clear ih hq; grind) | exact (if_neg (by clear ih hq; grind)).trans (by clear ih hq; grind)
          rw [e] at hq
          exact hq
        · refine qJ_nm (qWP_mono _) [(9, _)] [(8, .int (k + 1)), (7, .int (b + 1)), (6, .int y), (5, .int c), (4, .int w), (3, .int p), (2, .int l), (1, .int s), (0, .ref 65)] rfl rfl rfl ?_
          have hk : k < I 65 1 := by clear ih hq; grind
          refine ih hk _ (by clear ih hq; grind) ?_
          rw [upF_on hk] at hq
          have e : gDr (I 70) (I 71) c y s l p k b = (b + 1) := by
            unfold gDr
            first | exact if_pos (by clear ih hq; grind) | exact (if_neg (by clear ih hq; grind)).trans (by clear ih hq; grind)
          rw [e] at hq
          exact hq
theorem c_X12_sign {d z : Nat} {N : Nat → Nat} {I : Nat → Nat → Int32} {L : Nat → Nat → Int64} {R : Nat → Nat → Option Nat} {Q : qP} {s : Int32} {l : Int32} {p : Int32} {w : Int32} (hs : 0 ≤ I 65 0 ∧ I 65 0 ≤ 12) (hHa : RHa (I 6 2) (I 65 1) (I 7) (I 68)) (hTo : RTo (I 8) (I 70) (I 71)) (hl : ∀ x : Int32, 0 ≤ x → x < I 65 0 → I 66 x.toNatClampNeg ≤ 4 ∧ I 67 x.toNatClampNeg ≤ 24) (h0 : ¬ (((0 ≤ s ∧ s < I 65 0) ∧ 0 ≤ l ∧ l < I 66 s.toNatClampNeg) ∧ 0 ≤ p ∧ p < I 67 s.toNatClampNeg) ∨ w < 0 ∨ 3 < w → Q (some (.int (-2))) (z, N, I, L, R)) (h1 : ((0 ≤ s ∧ s < I 65 0) ∧ 0 ≤ l ∧ l < I 66 s.toNatClampNeg) ∧ 0 ≤ p ∧ p < I 67 s.toNatClampNeg → w = 0 → Q (some (.int (fKd (tLd (I 8) (I 7) (I 6 2) s l p)))) (z, N, I, L, R)) (h2 : ((0 ≤ s ∧ s < I 65 0) ∧ 0 ≤ l ∧ l < I 66 s.toNatClampNeg) ∧ 0 ≤ p ∧ p < I 67 s.toNatClampNeg → w = 1 → Q (some (.int (fMy (tLd (I 8) (I 7) (I 6 2) s l p)))) (z, N, I, L, R)) (h3 : ((0 ≤ s ∧ s < I 65 0) ∧ 0 ≤ l ∧ l < I 66 s.toNatClampNeg) ∧ 0 ≤ p ∧ p < I 67 s.toNatClampNeg → w = 2 → Q (some (.int (fLd (I 8) (I 7) (I 6 2) s l p))) (z, N, I, L, R)) (h4 : ((0 ≤ s ∧ s < I 65 0) ∧ 0 ≤ l ∧ l < I 66 s.toNatClampNeg) ∧ 0 ≤ p ∧ p < I 67 s.toNatClampNeg → w = 3 → Q (some (.int (fDs (I 8) (I 6 2) (tLd (I 8) (I 7) (I 6 2) s l p) s l p))) (z, N, I, L, R)) : qWP (d + 5) 180 [.ref 65, .int s, .int l, .int p, .int w] (z, N, I, L, R) Q := by
  refine qWP_of m_X12_sign rfl rfl [(0, .ref 65), (1, .int s), (2, .int l), (3, .int p), (4, .int w)] rfl ?_
  refine qJ_run (qWP_mono _) [79] 400 ?_
  refine ⟨⟨Nat.le_refl _, Nat.le_refl _⟩, ?_⟩
  refine c_X12_isPlace hs fun v1 hv1 => ?_
  refine ⟨fun (c1 : v1 = 0) => ?_, fun (c1 : ¬ v1 = 0) => ?_⟩
  · change Q (some (.int (-2))) (z, N, I, L, R)
    exact h0 (by clear h0 h1 h2 h3 h4; grind)
  · refine ⟨⟨Nat.le_refl _, Nat.le_refl _⟩, ?_⟩
    refine c_X12_isIn fun v2 hv2 => ?_
    refine ⟨fun (c2 : ¬ v2 = 0) => ?_, fun (c2 : v2 = 0) => ?_⟩
    · refine ⟨⟨Nat.le_refl _, Nat.le_refl _⟩, ?_⟩
      have hpl : ((0 ≤ s ∧ s < I 65 0) ∧ 0 ≤ l ∧ l < I 66 s.toNatClampNeg) ∧ 0 ≤ p ∧ p < I 67 s.toNatClampNeg := by clear h0 h1 h2 h3 h4; grind
      have hp : inP s l p := by have := hl s hpl.1.1.1 hpl.1.1.2; unfold inP; clear h0 h1 h2 h3 h4; grind
      refine c_X12_kindOf (d := d + 1) hHa hTo hp fun v3 hv3 => ?_
      refine ⟨⟨Nat.le_refl _, Nat.le_refl _⟩, ?_⟩
      refine c_X12_mayOf (d := d + 1) hHa hTo hp fun v4 hv4 => ?_
      refine ⟨fun (c3 : 2 ≤ w) => ?_, fun (c3 : ¬ 2 ≤ w) => ?_⟩
      · refine ⟨fun (c4 : ¬ w = 2) => ?_, fun (c4 : w = 2) => ?_⟩
        · refine qJ_nm (qWP_mono _) [] [(8, .int 0), (7, .int 0), (6, .int v4), (5, .int v3), (4, .int w), (3, .int p), (2, .int l), (1, .int s), (0, .ref 65)] rfl rfl rfl ?_
          have hn : 0 ≤ I 65 1 ∧ I 65 1 ≤ 6 := ⟨by rw [hHa.1]; exact hHa.2.1, by rw [hHa.1]; exact hHa.2.2.1⟩
          subst hv3 hv4
          refine l_X12_sign (d := d + 1) hn hp 0 0 (by decide) ?_
          have hd := ds_dr (n := I 6 2) (t := I 8) (rk := I 7) (kd := I 70) (my := I 71) hHa.2.1 hHa.2.2.1 (fun x a b => (hHa.2.2.2 x a b).2.1) hTo hp
          rw [hHa.1, hd]
          exact h4 hpl (by clear h0 h1 h2 h3 h4; grind)
        · refine ⟨⟨Nat.le_refl _, Nat.le_refl _⟩, ?_⟩
          refine c_X12_handOf (d := d + 2) hHa hTo hp fun v5 hv5 => ?_
          change Q (some (.int v5)) (z, N, I, L, R)
          subst hv5
          exact h3 (by clear h0 h1 h2 h3 h4; grind) (by clear h0 h1 h2 h3 h4; grind)
      · refine ⟨fun (c5 : ¬ w = 0) => ?_, fun (c5 : w = 0) => ?_⟩
        · change Q (some (.int v4)) (z, N, I, L, R)
          rw [hv4]
          exact h2 (by clear h0 h1 h2 h3 h4; grind) (by clear h0 h1 h2 h3 h4; grind)
        · change Q (some (.int v3)) (z, N, I, L, R)
          rw [hv3]
          exact h1 (by clear h0 h1 h2 h3 h4; grind) (by clear h0 h1 h2 h3 h4; grind)
    · change Q (some (.int (-2))) (z, N, I, L, R)
      exact h0 (by clear h0 h1 h2 h3 h4; grind)
theorem line_eq {n n' : Int32} {l p l' p' : Nat → Int32} (h : RSt n n' l p l' p') {s k : Int32} : ((0 ≤ s ∧ s < n') ∧ 0 ≤ k ∧ k < l' s.toNatClampNeg) ↔ ((0 ≤ s ∧ s < n) ∧ 0 ≤ k ∧ k < l s.toNatClampNeg) := by
  obtain ⟨e, _, _, h1⟩ := h
  rw [e]
  constructor
  · rintro ⟨a, b⟩; rw [(h1 s a.1 a.2).1] at b; exact ⟨a, b⟩
  · rintro ⟨a, b⟩; rw [← (h1 s a.1 a.2).1] at b; exact ⟨a, b⟩
theorem place_eq {n n' : Int32} {l p l' p' : Nat → Int32} (h : RSt n n' l p l' p') {s k q : Int32} : (((0 ≤ s ∧ s < n') ∧ 0 ≤ k ∧ k < l' s.toNatClampNeg) ∧ 0 ≤ q ∧ q < p' s.toNatClampNeg) ↔ (((0 ≤ s ∧ s < n) ∧ 0 ≤ k ∧ k < l s.toNatClampNeg) ∧ 0 ≤ q ∧ q < p s.toNatClampNeg) := by
  rw [line_eq h]
  obtain ⟨e, _, _, h1⟩ := h
  constructor
  · rintro ⟨a, b⟩; rw [(h1 s a.1.1 a.1.2).2.2.2.1] at b; exact ⟨a, b⟩
  · rintro ⟨a, b⟩; rw [← (h1 s a.1.1 a.1.2).2.2.2.1] at b; exact ⟨a, b⟩
theorem op_sign {M : qM} (hI : qInv M) (s : Int32) (l : Int32) (p : Int32) (w : Int32) : qOp 126 180 [.int s, .int l, .int p, .int w] M := by
  obtain ⟨z, N, I, L, R⟩ := M
  obtain ⟨hst, hSt, hHa, hTo, hTp, hEd, hDa, hPe, hTr, hTx, hMk, hKA⟩ := hI
  dsimp only at hst hSt hHa hTo hTp hEd hDa hPe hTr hTx hMk hKA
  have hs : 0 ≤ I 3 2 ∧ I 3 2 ≤ 12 := ⟨hSt.2.1, hSt.2.2.1⟩
  have hn : 0 ≤ I 6 2 ∧ I 6 2 ≤ 6 := ⟨hHa.2.1, hHa.2.2.1⟩
  have hl : ∀ x : Int32, 0 ≤ x → x < I 3 2 → I 4 x.toNatClampNeg ≤ 4 ∧ I 5 x.toNatClampNeg ≤ 24 := fun x a b => ⟨(hSt.2.2.2 x a b).2.2.1, (hSt.2.2.2 x a b).2.2.2.2.2⟩
  have hs2 : 0 ≤ I 65 0 ∧ I 65 0 ≤ 12 := by rw [hSt.1]; exact hs
  have hl2 : ∀ x : Int32, 0 ≤ x → x < I 65 0 → I 66 x.toNatClampNeg ≤ 4 ∧ I 67 x.toNatClampNeg ≤ 24 := fun x a b => by
    rw [hSt.1] at b
    rw [(hSt.2.2.2 x a b).1, (hSt.2.2.2 x a b).2.2.2.1]
    exact hl x a b
  have eP := fun s k q => place_eq hSt (s := s) (k := k) (q := q)
  have eL := fun s k => line_eq hSt (s := s) (k := k)
  refine c_X11_sign hs hn hl (fun a0 => ?_) (fun a0 a1 => ?_) (fun a0 a1 => ?_) (fun a0 a1 => ?_) (fun a0 a1 => ?_)
  · refine ⟨_, rfl, ⟨rfl, rfl, hst⟩, ?_⟩
    refine c_X12_sign hs2 hHa hTo hl2 (fun b0 => ?_) (fun b0 b1 => ?_) (fun b0 b1 => ?_) (fun b0 b1 => ?_) (fun b0 b1 => ?_)
    · exact ⟨rfl, ⟨by first | rfl | (simp (decide := true) only [q2_ne, q2_r1, uI_at, uI_nj, qRow_ne, qRow_at]), rfl⟩, ⟨hst, (by first | exact hSt | (simp (decide := true) only [q2_ne, q2_r1, uI_at, uI_nj, qRow_ne, qRow_at]; exact hSt)), (by first | exact hHa | (simp (decide := true) only [q2_ne, q2_r1, uI_at, uI_nj, qRow_ne, qRow_at]; exact hHa)), (by first | exact hTo | (simp (decide := true) only [q2_ne, q2_r1, uI_at, uI_nj, qRow_ne, qRow_at]; exact hTo)), (by first | exact hTp | (simp (decide := true) only [q2_ne, q2_r1, uI_at, uI_nj, qRow_ne, qRow_at]; exact hTp)), (by first | exact hEd | (simp (decide := true) only [q2_ne, q2_r1, uI_at, uI_nj, qRow_ne, qRow_at]; exact hEd)), (by first | exact hDa | (simp (decide := true) only [q2_ne, q2_r1, uI_at, uI_nj, qRow_ne, qRow_at]; exact hDa)), (by first | exact hPe | (simp (decide := true) only [q2_ne, q2_r1, uI_at, uI_nj, qRow_ne, qRow_at]; exact hPe)), (by first | exact hTr | (simp (decide := true) only [q2_ne, q2_r1, uI_at, uI_nj, qRow_ne, qRow_at]; exact hTr)), (RTx_of hTx (by simp (decide := true) only [q2_ne, q2_r1, uI_at, uI_nj, qRow_ne, qRow_at]) (by simp (decide := true) only [q2_ne, q2_r1, uI_at, uI_nj, qRow_ne, qRow_at]) (by simp (decide := true) only [q2_ne, q2_r1, uI_at, uI_nj, qRow_ne, qRow_at]) (by simp (decide := true) only [q2_ne, q2_r1, uI_at, uI_nj, qRow_ne, qRow_at]) (by simp (decide := true) only [q2_ne, q2_r1, uI_at, uI_nj, qRow_ne, qRow_at]) (fun k hk => by (try dsimp only); repeat first | rfl | rw [q2_ne (by omega)] | rw [qRow_ne (by omega)]) (fun k hk => by (try dsimp only); repeat first | rfl | rw [q2_ne (by omega)] | rw [qRow_ne (by omega)])), (by first | exact hMk | (simp (decide := true) only [q2_ne, q2_r1, uI_at, uI_nj, qRow_ne, qRow_at]; exact hMk)), (by first | exact hKA | (simp (decide := true) only [q2_ne, q2_r1, uI_at, uI_nj, qRow_ne, qRow_at]; exact hKA))⟩⟩
    · exfalso; (try simp only [eP] at *); (try simp only [eL] at *); (try rw [hSt.1] at *); clear hst hSt hHa hTo hTp hEd hDa hPe hTr hTx hMk hKA eP eL hl hl2; grind
    · exfalso; (try simp only [eP] at *); (try simp only [eL] at *); (try rw [hSt.1] at *); clear hst hSt hHa hTo hTp hEd hDa hPe hTr hTx hMk hKA eP eL hl hl2; grind
    · exfalso; (try simp only [eP] at *); (try simp only [eL] at *); (try rw [hSt.1] at *); clear hst hSt hHa hTo hTp hEd hDa hPe hTr hTx hMk hKA eP eL hl hl2; grind
    · exfalso; (try simp only [eP] at *); (try simp only [eL] at *); (try rw [hSt.1] at *); clear hst hSt hHa hTo hTp hEd hDa hPe hTr hTx hMk hKA eP eL hl hl2; grind
  · refine ⟨_, rfl, ⟨rfl, rfl, hst⟩, ?_⟩
    refine c_X12_sign hs2 hHa hTo hl2 (fun b0 => ?_) (fun b0 b1 => ?_) (fun b0 b1 => ?_) (fun b0 b1 => ?_) (fun b0 b1 => ?_)
    · exfalso; (try simp only [eP] at *); (try simp only [eL] at *); (try rw [hSt.1] at *); clear hst hSt hHa hTo hTp hEd hDa hPe hTr hTx hMk hKA eP eL hl hl2; grind
    · exact ⟨rfl, ⟨by first | rfl | (simp (decide := true) only [q2_ne, q2_r1, uI_at, uI_nj, qRow_ne, qRow_at]), rfl⟩, ⟨hst, (by first | exact hSt | (simp (decide := true) only [q2_ne, q2_r1, uI_at, uI_nj, qRow_ne, qRow_at]; exact hSt)), (by first | exact hHa | (simp (decide := true) only [q2_ne, q2_r1, uI_at, uI_nj, qRow_ne, qRow_at]; exact hHa)), (by first | exact hTo | (simp (decide := true) only [q2_ne, q2_r1, uI_at, uI_nj, qRow_ne, qRow_at]; exact hTo)), (by first | exact hTp | (simp (decide := true) only [q2_ne, q2_r1, uI_at, uI_nj, qRow_ne, qRow_at]; exact hTp)), (by first | exact hEd | (simp (decide := true) only [q2_ne, q2_r1, uI_at, uI_nj, qRow_ne, qRow_at]; exact hEd)), (by first | exact hDa | (simp (decide := true) only [q2_ne, q2_r1, uI_at, uI_nj, qRow_ne, qRow_at]; exact hDa)), (by first | exact hPe | (simp (decide := true) only [q2_ne, q2_r1, uI_at, uI_nj, qRow_ne, qRow_at]; exact hPe)), (by first | exact hTr | (simp (decide := true) only [q2_ne, q2_r1, uI_at, uI_nj, qRow_ne, qRow_at]; exact hTr)), (RTx_of hTx (by simp (decide := true) only [q2_ne, q2_r1, uI_at, uI_nj, qRow_ne, qRow_at]) (by simp (decide := true) only [q2_ne, q2_r1, uI_at, uI_nj, qRow_ne, qRow_at]) (by simp (decide := true) only [q2_ne, q2_r1, uI_at, uI_nj, qRow_ne, qRow_at]) (by simp (decide := true) only [q2_ne, q2_r1, uI_at, uI_nj, qRow_ne, qRow_at]) (by simp (decide := true) only [q2_ne, q2_r1, uI_at, uI_nj, qRow_ne, qRow_at]) (fun k hk => by (try dsimp only); repeat first | rfl | rw [q2_ne (by omega)] | rw [qRow_ne (by omega)]) (fun k hk => by (try dsimp only); repeat first | rfl | rw [q2_ne (by omega)] | rw [qRow_ne (by omega)])), (by first | exact hMk | (simp (decide := true) only [q2_ne, q2_r1, uI_at, uI_nj, qRow_ne, qRow_at]; exact hMk)), (by first | exact hKA | (simp (decide := true) only [q2_ne, q2_r1, uI_at, uI_nj, qRow_ne, qRow_at]; exact hKA))⟩⟩
    · exfalso; (try simp only [eP] at *); (try simp only [eL] at *); (try rw [hSt.1] at *); clear hst hSt hHa hTo hTp hEd hDa hPe hTr hTx hMk hKA eP eL hl hl2; grind
    · exfalso; (try simp only [eP] at *); (try simp only [eL] at *); (try rw [hSt.1] at *); clear hst hSt hHa hTo hTp hEd hDa hPe hTr hTx hMk hKA eP eL hl hl2; grind
    · exfalso; (try simp only [eP] at *); (try simp only [eL] at *); (try rw [hSt.1] at *); clear hst hSt hHa hTo hTp hEd hDa hPe hTr hTx hMk hKA eP eL hl hl2; grind
  · refine ⟨_, rfl, ⟨rfl, rfl, hst⟩, ?_⟩
    refine c_X12_sign hs2 hHa hTo hl2 (fun b0 => ?_) (fun b0 b1 => ?_) (fun b0 b1 => ?_) (fun b0 b1 => ?_) (fun b0 b1 => ?_)
    · exfalso; (try simp only [eP] at *); (try simp only [eL] at *); (try rw [hSt.1] at *); clear hst hSt hHa hTo hTp hEd hDa hPe hTr hTx hMk hKA eP eL hl hl2; grind
    · exfalso; (try simp only [eP] at *); (try simp only [eL] at *); (try rw [hSt.1] at *); clear hst hSt hHa hTo hTp hEd hDa hPe hTr hTx hMk hKA eP eL hl hl2; grind
    · exact ⟨rfl, ⟨by first | rfl | (simp (decide := true) only [q2_ne, q2_r1, uI_at, uI_nj, qRow_ne, qRow_at]), rfl⟩, ⟨hst, (by first | exact hSt | (simp (decide := true) only [q2_ne, q2_r1, uI_at, uI_nj, qRow_ne, qRow_at]; exact hSt)), (by first | exact hHa | (simp (decide := true) only [q2_ne, q2_r1, uI_at, uI_nj, qRow_ne, qRow_at]; exact hHa)), (by first | exact hTo | (simp (decide := true) only [q2_ne, q2_r1, uI_at, uI_nj, qRow_ne, qRow_at]; exact hTo)), (by first | exact hTp | (simp (decide := true) only [q2_ne, q2_r1, uI_at, uI_nj, qRow_ne, qRow_at]; exact hTp)), (by first | exact hEd | (simp (decide := true) only [q2_ne, q2_r1, uI_at, uI_nj, qRow_ne, qRow_at]; exact hEd)), (by first | exact hDa | (simp (decide := true) only [q2_ne, q2_r1, uI_at, uI_nj, qRow_ne, qRow_at]; exact hDa)), (by first | exact hPe | (simp (decide := true) only [q2_ne, q2_r1, uI_at, uI_nj, qRow_ne, qRow_at]; exact hPe)), (by first | exact hTr | (simp (decide := true) only [q2_ne, q2_r1, uI_at, uI_nj, qRow_ne, qRow_at]; exact hTr)), (RTx_of hTx (by simp (decide := true) only [q2_ne, q2_r1, uI_at, uI_nj, qRow_ne, qRow_at]) (by simp (decide := true) only [q2_ne, q2_r1, uI_at, uI_nj, qRow_ne, qRow_at]) (by simp (decide := true) only [q2_ne, q2_r1, uI_at, uI_nj, qRow_ne, qRow_at]) (by simp (decide := true) only [q2_ne, q2_r1, uI_at, uI_nj, qRow_ne, qRow_at]) (by simp (decide := true) only [q2_ne, q2_r1, uI_at, uI_nj, qRow_ne, qRow_at]) (fun k hk => by (try dsimp only); repeat first | rfl | rw [q2_ne (by omega)] | rw [qRow_ne (by omega)]) (fun k hk => by (try dsimp only); repeat first | rfl | rw [q2_ne (by omega)] | rw [qRow_ne (by omega)])), (by first | exact hMk | (simp (decide := true) only [q2_ne, q2_r1, uI_at, uI_nj, qRow_ne, qRow_at]; exact hMk)), (by first | exact hKA | (simp (decide := true) only [q2_ne, q2_r1, uI_at, uI_nj, qRow_ne, qRow_at]; exact hKA))⟩⟩
    · exfalso; (try simp only [eP] at *); (try simp only [eL] at *); (try rw [hSt.1] at *); clear hst hSt hHa hTo hTp hEd hDa hPe hTr hTx hMk hKA eP eL hl hl2; grind
    · exfalso; (try simp only [eP] at *); (try simp only [eL] at *); (try rw [hSt.1] at *); clear hst hSt hHa hTo hTp hEd hDa hPe hTr hTx hMk hKA eP eL hl hl2; grind
  · refine ⟨_, rfl, ⟨rfl, rfl, hst⟩, ?_⟩
    refine c_X12_sign hs2 hHa hTo hl2 (fun b0 => ?_) (fun b0 b1 => ?_) (fun b0 b1 => ?_) (fun b0 b1 => ?_) (fun b0 b1 => ?_)
    · exfalso; (try simp only [eP] at *); (try simp only [eL] at *); (try rw [hSt.1] at *); clear hst hSt hHa hTo hTp hEd hDa hPe hTr hTx hMk hKA eP eL hl hl2; grind
    · exfalso; (try simp only [eP] at *); (try simp only [eL] at *); (try rw [hSt.1] at *); clear hst hSt hHa hTo hTp hEd hDa hPe hTr hTx hMk hKA eP eL hl hl2; grind
    · exfalso; (try simp only [eP] at *); (try simp only [eL] at *); (try rw [hSt.1] at *); clear hst hSt hHa hTo hTp hEd hDa hPe hTr hTx hMk hKA eP eL hl hl2; grind
    · exact ⟨rfl, ⟨by first | rfl | (simp (decide := true) only [q2_ne, q2_r1, uI_at, uI_nj, qRow_ne, qRow_at]), rfl⟩, ⟨hst, (by first | exact hSt | (simp (decide := true) only [q2_ne, q2_r1, uI_at, uI_nj, qRow_ne, qRow_at]; exact hSt)), (by first | exact hHa | (simp (decide := true) only [q2_ne, q2_r1, uI_at, uI_nj, qRow_ne, qRow_at]; exact hHa)), (by first | exact hTo | (simp (decide := true) only [q2_ne, q2_r1, uI_at, uI_nj, qRow_ne, qRow_at]; exact hTo)), (by first | exact hTp | (simp (decide := true) only [q2_ne, q2_r1, uI_at, uI_nj, qRow_ne, qRow_at]; exact hTp)), (by first | exact hEd | (simp (decide := true) only [q2_ne, q2_r1, uI_at, uI_nj, qRow_ne, qRow_at]; exact hEd)), (by first | exact hDa | (simp (decide := true) only [q2_ne, q2_r1, uI_at, uI_nj, qRow_ne, qRow_at]; exact hDa)), (by first | exact hPe | (simp (decide := true) only [q2_ne, q2_r1, uI_at, uI_nj, qRow_ne, qRow_at]; exact hPe)), (by first | exact hTr | (simp (decide := true) only [q2_ne, q2_r1, uI_at, uI_nj, qRow_ne, qRow_at]; exact hTr)), (RTx_of hTx (by simp (decide := true) only [q2_ne, q2_r1, uI_at, uI_nj, qRow_ne, qRow_at]) (by simp (decide := true) only [q2_ne, q2_r1, uI_at, uI_nj, qRow_ne, qRow_at]) (by simp (decide := true) only [q2_ne, q2_r1, uI_at, uI_nj, qRow_ne, qRow_at]) (by simp (decide := true) only [q2_ne, q2_r1, uI_at, uI_nj, qRow_ne, qRow_at]) (by simp (decide := true) only [q2_ne, q2_r1, uI_at, uI_nj, qRow_ne, qRow_at]) (fun k hk => by (try dsimp only); repeat first | rfl | rw [q2_ne (by omega)] | rw [qRow_ne (by omega)]) (fun k hk => by (try dsimp only); repeat first | rfl | rw [q2_ne (by omega)] | rw [qRow_ne (by omega)])), (by first | exact hMk | (simp (decide := true) only [q2_ne, q2_r1, uI_at, uI_nj, qRow_ne, qRow_at]; exact hMk)), (by first | exact hKA | (simp (decide := true) only [q2_ne, q2_r1, uI_at, uI_nj, qRow_ne, qRow_at]; exact hKA))⟩⟩
    · exfalso; (try simp only [eP] at *); (try simp only [eL] at *); (try rw [hSt.1] at *); clear hst hSt hHa hTo hTp hEd hDa hPe hTr hTx hMk hKA eP eL hl hl2; grind
  · refine ⟨_, rfl, ⟨rfl, rfl, hst⟩, ?_⟩
    refine c_X12_sign hs2 hHa hTo hl2 (fun b0 => ?_) (fun b0 b1 => ?_) (fun b0 b1 => ?_) (fun b0 b1 => ?_) (fun b0 b1 => ?_)
    · exfalso; (try simp only [eP] at *); (try simp only [eL] at *); (try rw [hSt.1] at *); clear hst hSt hHa hTo hTp hEd hDa hPe hTr hTx hMk hKA eP eL hl hl2; grind
    · exfalso; (try simp only [eP] at *); (try simp only [eL] at *); (try rw [hSt.1] at *); clear hst hSt hHa hTo hTp hEd hDa hPe hTr hTx hMk hKA eP eL hl hl2; grind
    · exfalso; (try simp only [eP] at *); (try simp only [eL] at *); (try rw [hSt.1] at *); clear hst hSt hHa hTo hTp hEd hDa hPe hTr hTx hMk hKA eP eL hl hl2; grind
    · exfalso; (try simp only [eP] at *); (try simp only [eL] at *); (try rw [hSt.1] at *); clear hst hSt hHa hTo hTp hEd hDa hPe hTr hTx hMk hKA eP eL hl hl2; grind
    · exact ⟨rfl, ⟨by first | rfl | (simp (decide := true) only [q2_ne, q2_r1, uI_at, uI_nj, qRow_ne, qRow_at]), rfl⟩, ⟨hst, (by first | exact hSt | (simp (decide := true) only [q2_ne, q2_r1, uI_at, uI_nj, qRow_ne, qRow_at]; exact hSt)), (by first | exact hHa | (simp (decide := true) only [q2_ne, q2_r1, uI_at, uI_nj, qRow_ne, qRow_at]; exact hHa)), (by first | exact hTo | (simp (decide := true) only [q2_ne, q2_r1, uI_at, uI_nj, qRow_ne, qRow_at]; exact hTo)), (by first | exact hTp | (simp (decide := true) only [q2_ne, q2_r1, uI_at, uI_nj, qRow_ne, qRow_at]; exact hTp)), (by first | exact hEd | (simp (decide := true) only [q2_ne, q2_r1, uI_at, uI_nj, qRow_ne, qRow_at]; exact hEd)), (by first | exact hDa | (simp (decide := true) only [q2_ne, q2_r1, uI_at, uI_nj, qRow_ne, qRow_at]; exact hDa)), (by first | exact hPe | (simp (decide := true) only [q2_ne, q2_r1, uI_at, uI_nj, qRow_ne, qRow_at]; exact hPe)), (by first | exact hTr | (simp (decide := true) only [q2_ne, q2_r1, uI_at, uI_nj, qRow_ne, qRow_at]; exact hTr)), (RTx_of hTx (by simp (decide := true) only [q2_ne, q2_r1, uI_at, uI_nj, qRow_ne, qRow_at]) (by simp (decide := true) only [q2_ne, q2_r1, uI_at, uI_nj, qRow_ne, qRow_at]) (by simp (decide := true) only [q2_ne, q2_r1, uI_at, uI_nj, qRow_ne, qRow_at]) (by simp (decide := true) only [q2_ne, q2_r1, uI_at, uI_nj, qRow_ne, qRow_at]) (by simp (decide := true) only [q2_ne, q2_r1, uI_at, uI_nj, qRow_ne, qRow_at]) (fun k hk => by (try dsimp only); repeat first | rfl | rw [q2_ne (by omega)] | rw [qRow_ne (by omega)]) (fun k hk => by (try dsimp only); repeat first | rfl | rw [q2_ne (by omega)] | rw [qRow_ne (by omega)])), (by first | exact hMk | (simp (decide := true) only [q2_ne, q2_r1, uI_at, uI_nj, qRow_ne, qRow_at]; exact hMk)), (by first | exact hKA | (simp (decide := true) only [q2_ne, q2_r1, uI_at, uI_nj, qRow_ne, qRow_at]; exact hKA))⟩⟩

