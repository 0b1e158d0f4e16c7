/-! printed lines: the reference -/
theorem up_rg {n : Int32} {t cv : Int32 → Int32} {e : Nat → Int32} (hn : 0 ≤ n ∧ n ≤ 24) : 0 ≤ (upF n (gRg t cv) 0 (0, e)).1 ∧ (upF n (gRg t cv) 0 (0, e)).1 ≤ 72 := by
  have h9 := upF_inv (n := n) (g := gRg t cv) (fun k (S : Int32 × (Nat → Int32)) => 0 ≤ S.1 ∧ S.1 ≤ 3 * k) (fun k S h0 h1 hS => by
    have hb := wrR_n (k := fKd (t k)) (c := if fKd (t k) < 2 ∨ fKd (t k) = 5 then fBC (fMy (t k) - 1) else cv k) (S := S) (by grind)
    show 0 ≤ (wrR (fKd (t k)) (if fKd (t k) < 2 ∨ fKd (t k) = 5 then fBC (fMy (t k) - 1) else cv k) S).1 ∧ (wrR (fKd (t k)) (if fKd (t k) < 2 ∨ fKd (t k) = 5 then fBC (fMy (t k) - 1) else cv k) S).1 ≤ 3 * (k + 1)
    generalize (wrR (fKd (t k)) (if fKd (t k) < 2 ∨ fKd (t k) = 5 then fBC (fMy (t k) - 1) else cv k) S).1 = w at *
    grind) 0 (0, e) (by decide) hn.1 ⟨Int32.le_refl _, Int32.le_refl _⟩
  generalize (upF n (gRg t cv) 0 (0, e)).1 = w at *
  grind
theorem c_X12_printed {d z : Nat} {N : Nat → Nat} {I : Nat → Nat → Int32} {L : Nat → Nat → Int64} {R : Nat → Nat → Option Nat} {Q : qP} {s : Int32} {l : Int32} {f : Int32} {i : Int32} {cv : Int32 → Int32} (hs : 0 ≤ I 65 0 ∧ I 65 0 ≤ 12) (hHa : RHa (I 6 2) (I 65 1) (I 7) (I 68)) (hTo : RTo (I 8) (I 70) (I 71)) (hl : ∀ x : Int32, 0 ≤ x → x < I 65 0 → (1 ≤ I 66 x.toNatClampNeg ∧ I 66 x.toNatClampNeg ≤ 4) ∧ 1 ≤ I 67 x.toNatClampNeg ∧ I 67 x.toNatClampNeg ≤ 24) (hcc : 0 ≤ I 65 2 ∧ I 65 2 ≤ 8) (hm : ∀ f : Int32, 0 ≤ f → f < I 65 2 → 0 ≤ I 76 f.toNatClampNeg ∧ I 76 f.toNatClampNeg ≤ 200) (hz : ∀ f i : Int32, 0 ≤ f → f < I 65 2 → 0 ≤ i → i < I 76 f.toNatClampNeg → 0 ≤ I 75 (200 * f + i).toNatClampNeg ∧ I 75 (200 * f + i).toNatClampNeg ≤ 24) (hcv0 : f < 0 → ∀ p : Int32, cv p = -1) (hcv1 : (0 ≤ f ∧ f < I 65 2) → ∀ p : Int32, 0 ≤ p → p < I 67 s.toNatClampNeg → cv p = (upS (200 * f + (I 76 f.toNatClampNeg)) (gKr (fun t => fGo (fun p => fMy (tLd (I 8) (I 7) (I 6 2) s l p)) (laR (I 75) (I 74) t) (I 75 (t).toNatClampNeg) (I 67 s.toNatClampNeg)) (fun t => laR (I 75) (I 74) t p)) id (200 * f) (-1))) (h0 : ¬ (((0 ≤ s ∧ s < I 65 0) ∧ 0 ≤ l ∧ l < I 66 s.toNatClampNeg) ∧ (f = -1 ∨ (0 ≤ f ∧ f < I 65 2))) → Q (some (.int (-2))) (z, N, I, L, R)) (h1 : (((0 ≤ s ∧ s < I 65 0) ∧ 0 ≤ l ∧ l < I 66 s.toNatClampNeg) ∧ (f = -1 ∨ (0 ≤ f ∧ f < I 65 2))) → Q (some (.int (if 0 ≤ i ∧ i < (upF (I 67 s.toNatClampNeg) (gRg (fun p => tLd (I 8) (I 7) (I 6 2) s l p) cv) 0 (0, I 91)).1 then (upF (I 67 s.toNatClampNeg) (gRg (fun p => tLd (I 8) (I 7) (I 6 2) s l p) cv) 0 (0, I 91)).2 i.toNatClampNeg else -1))) (z, N, qRow I 91 (upF (I 67 s.toNatClampNeg) (gRg (fun p => tLd (I 8) (I 7) (I 6 2) s l p) cv) 0 (0, I 91)).2, L, R)) : qWP (d + 7) 236 [.ref 65, .int s, .int l, .int f, .int i] (z, N, I, L, R) Q := by
  refine qWP_of m_X12_printed rfl rfl [(0, .ref 65), (1, .int s), (2, .int l), (3, .int f), (4, .int i)] rfl ?_
  refine qJ_run (qWP_mono _) [] 400 ?_
  refine ⟨⟨Nat.le_refl _, Nat.le_refl _⟩, ?_⟩
  refine c_X12_isLine hs fun v1 hv1 => ?_
  refine ⟨fun (c1 : v1 = 0) => ?_, fun (c1 : ¬ v1 = 0) => ?_⟩
  · change Q (some (.int (-2))) (z, N, I, L, R)
    exact h0 (by clear h0 h1 hHa hTo hcc hm hz hcv0 hcv1 hl; grind)
  · refine ⟨fun (c2 : f = (-1)) => ?_, fun (c2 : ¬ f = (-1)) => ?_⟩
    · refine ⟨⟨Nat.le_refl _, Nat.le_refl _⟩, ?_⟩
      have hg : (((0 ≤ s ∧ s < I 65 0) ∧ 0 ≤ l ∧ l < I 66 s.toNatClampNeg) ∧ (f = -1 ∨ (0 ≤ f ∧ f < I 65 2))) := by clear h0 h1 hHa hTo hcc hm hz hcv0 hcv1 hl; grind
      have hls := hl s hg.1.1.1 hg.1.1.2
      refine c_X12_prints (d := d) (cv := cv) hHa hTo ⟨hg.1.1.1, Int32.lt_of_lt_of_le hg.1.1.2 hs.2⟩ ⟨hg.1.2.1, Int32.lt_of_lt_of_le hg.1.2.2 hls.1.2⟩ hls.2 hcc hm hz hcv0 (fun hf => ?_) ?_
      · have h9 := hg.2.resolve_left (fun h8 => hf (by rw [h8]; decide))
        exact ⟨h9, hcv1 h9⟩
      refine ⟨⟨Nat.le_refl _, Nat.le_refl _⟩, ?_⟩
      refine c_X12_isIn fun v3 h9 => ?_
      refine ⟨fun (c3 : v3 = 0) => ?_, fun (c3 : ¬ v3 = 0) => ?_⟩
      · change Q (some (.int (-1))) (z, N, qRow I 91 ((upF (I 67 s.toNatClampNeg) (gRg (fun p => tLd (I 8) (I 7) (I 6 2) s l p) cv) 0 (0, I 91)).2), L, R)
        have hx := h1 hg
        rw [if_neg (fun h8 => absurd (h9.trans (if_pos h8)) (by first | assumption | (intro h7; simp_all)))] at hx
        exact hx
      · refine ⟨?_, ?_⟩
        · have hi9 : 0 ≤ i ∧ i < (upF (I 67 s.toNatClampNeg) (gRg (fun p => tLd (I 8) (I 7) (I 6 2) s l p) cv) 0 (0, I 91)).1 := by
            refine Decidable.byContradiction fun h8 => ?_
            exact absurd (h9.trans (if_neg h8)) (by assumption)
          exact vb (N := 72) 72 (by decide) hi9.1 (Int32.lt_of_lt_of_le hi9.2 (up_rg ⟨Int32.le_trans (by decide) hls.2.1, hls.2.2⟩).2)
        change Q (some (.int (((upF (I 67 s.toNatClampNeg) (gRg (fun p => tLd (I 8) (I 7) (I 6 2) s l p) cv) 0 (0, I 91)).2) ((i).toNatClampNeg)))) (z, N, qRow I 91 ((upF (I 67 s.toNatClampNeg) (gRg (fun p => tLd (I 8) (I 7) (I 6 2) s l p) cv) 0 (0, I 91)).2), L, R)
        have hx := h1 hg
        rw [if_pos (show 0 ≤ i ∧ i < (upF (I 67 s.toNatClampNeg) (gRg (fun p => tLd (I 8) (I 7) (I 6 2) s l p) cv) 0 (0, I 91)).1 from Decidable.byContradiction fun h8 => absurd (h9.trans (if_neg h8)) (by assumption))] at hx
        exact hx
    · refine ⟨⟨Nat.le_refl _, Nat.le_refl _⟩, ?_⟩
      refine c_X12_isFormula fun v4 hv4 => ?_
      refine ⟨fun (c4 : ¬ v4 = 0) => ?_, fun (c4 : v4 = 0) => ?_⟩
      · refine ⟨⟨Nat.le_refl _, Nat.le_refl _⟩, ?_⟩
        have hg : (((0 ≤ s ∧ s < I 65 0) ∧ 0 ≤ l ∧ l < I 66 s.toNatClampNeg) ∧ (f = -1 ∨ (0 ≤ f ∧ f < I 65 2))) := by clear h0 h1 hHa hTo hcc hm hz hcv0 hcv1 hl; grind
        have hls := hl s hg.1.1.1 hg.1.1.2
        refine c_X12_prints (d := d) (cv := cv) hHa hTo ⟨hg.1.1.1, Int32.lt_of_lt_of_le hg.1.1.2 hs.2⟩ ⟨hg.1.2.1, Int32.lt_of_lt_of_le hg.1.2.2 hls.1.2⟩ hls.2 hcc hm hz hcv0 (fun hf => ?_) ?_
        · have h9 := hg.2.resolve_left (fun h8 => hf (by rw [h8]; decide))
          exact ⟨h9, hcv1 h9⟩
        refine ⟨⟨Nat.le_refl _, Nat.le_refl _⟩, ?_⟩
        refine c_X12_isIn fun v6 h9 => ?_
        refine ⟨fun (c5 : v6 = 0) => ?_, fun (c5 : ¬ v6 = 0) => ?_⟩
        · change Q (some (.int (-1))) (z, N, qRow I 91 ((upF (I 67 s.toNatClampNeg) (gRg (fun p => tLd (I 8) (I 7) (I 6 2) s l p) cv) 0 (0, I 91)).2), L, R)
          have hx := h1 hg
          rw [if_neg (fun h8 => absurd (h9.trans (if_pos h8)) (by first | assumption | (intro h7; simp_all)))] at hx
          exact hx
        · refine ⟨?_, ?_⟩
          · have hi9 : 0 ≤ i ∧ i < (upF (I 67 s.toNatClampNeg) (gRg (fun p => tLd (I 8) (I 7) (I 6 2) s l p) cv) 0 (0, I 91)).1 := by
              refine Decidable.byContradiction fun h8 => ?_
              exact absurd (h9.trans (if_neg h8)) (by assumption)
            exact vb (N := 72) 72 (by decide) hi9.1 (Int32.lt_of_lt_of_le hi9.2 (up_rg ⟨Int32.le_trans (by decide) hls.2.1, hls.2.2⟩).2)
          change Q (some (.int (((upF (I 67 s.toNatClampNeg) (gRg (fun p => tLd (I 8) (I 7) (I 6 2) s l p) cv) 0 (0, I 91)).2) ((i).toNatClampNeg)))) (z, N, qRow I 91 ((upF (I 67 s.toNatClampNeg) (gRg (fun p => tLd (I 8) (I 7) (I 6 2) s l p) cv) 0 (0, I 91)).2), L, R)
          have hx := h1 hg
          rw [if_pos (show 0 ≤ i ∧ i < (upF (I 67 s.toNatClampNeg) (gRg (fun p => tLd (I 8) (I 7) (I 6 2) s l p) cv) 0 (0, I 91)).1 from Decidable.byContradiction fun h8 => absurd (h9.trans (if_neg h8)) (by assumption))] at hx
          exact hx
      · change Q (some (.int (-2))) (z, N, I, L, R)
        exact h0 (by clear h0 h1 hHa hTo hcc hm hz hcv0 hcv1 hl; grind)
