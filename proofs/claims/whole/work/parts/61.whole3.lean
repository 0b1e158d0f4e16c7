theorem l_X12_waysOfW {d z : Nat} {N : Nat → Nat} {I : Nat → Nat → Int32} {L : Nat → Nat → Int64} {R : Nat → Nat → Option Nat} {Q : qP} {s l f : Int32} (hHa : RHa (I 6 2) (I 65 1) (I 7) (I 68)) (hTo : RTo (I 8) (I 70) (I 71)) (hs : 0 ≤ I 65 0 ∧ I 65 0 ≤ 12) (hl : 0 ≤ l ∧ l < 4) {r : Nat → Nat} (hr : ∀ x : Int32, 0 ≤ x → x < I 65 0 → 0 ≤ I 78 x.toNatClampNeg → I 78 x.toNatClampNeg < I 65 0 ∧ r x.toNatClampNeg = r (I 78 x.toNatClampNeg).toNatClampNeg + 1) (hr12 : ∀ x : Int32, 0 ≤ x → x < I 65 0 → r x.toNatClampNeg < 12) (hn : ∀ x : Int32, 0 ≤ x → x < I 65 0 → 1 ≤ I 67 x.toNatClampNeg ∧ I 67 x.toNatClampNeg ≤ 24) {T : Int32 → Int32} {M : Int32 → Int32 → Int32} (hch : chP (I 65 0) (I 78) (I 67) (fun s k => fMy (tLd (I 8) (I 7) (I 6 2) s l k)) T M) (hss : 0 ≤ s ∧ s < I 65 0) (hTT : T s ≤ 300) (hc : 0 ≤ I 65 2 ∧ I 65 2 ≤ 8) (hm : ∀ f : Int32, 0 ≤ f → f < I 65 2 → 0 ≤ I 76 f.toNatClampNeg ∧ I 76 f.toNatClampNeg ≤ 200) (hz : ∀ f i : Int32, 0 ≤ f → f < I 65 2 → 0 ≤ i → i < I 76 f.toNatClampNeg → 0 ≤ I 75 (200 * f + i).toNatClampNeg ∧ I 75 (200 * f + i).toNatClampNeg ≤ 24) (hf : 0 ≤ f ∧ f < I 65 2) : ∀ (i : Int32), ∀ c : Int32, 0 ≤ i → Q (some (.int (upF (I 76 f.toNatClampNeg) (gCr (fun i => fGo (M s) (laR (I 75) (I 74) (200 * f + i)) (I 75 ((200 * f + i)).toNatClampNeg) (T s))) i c))) (z, N, I, L, R) → qJ m_X12_waysOf (qWP (d + 4)) Q 6 [(6, .int i), (5, .int c), (4, .int 1), (3, .int f), (2, .int l), (1, .int s), (0, .ref 65)] [] 0 0 (z, N, I, L, R) := by
  refine up_ind ((I 76 f.toNatClampNeg)) fun i ih => ?_
  intro c h0 hq
  refine qJ_run (qWP_mono _) [6] 400 ?_
  refine ⟨?_, ?_⟩
  · exact vb (x := f) (N := 8) 8 (by decide) hf.1 (by clear ih hq hHa hTo hm hz hch hr hr12 hn; grind)
  refine ⟨fun (c1 : (I 76 ((f).toNatClampNeg)) ≤ i) => ?_, fun (c1 : ¬ (I 76 ((f).toNatClampNeg)) ≤ i) => ?_⟩
  · change Q (some (.int c)) (z, N, I, L, R)
    rw [upF_ge (Int32.not_lt.mpr c1)] at hq
    exact hq
  · refine ⟨⟨Nat.le_refl _, Nat.le_refl _⟩, ?_⟩
    have hm9 := hm f hf.1 hf.2
    have hi9 : 0 ≤ i ∧ i < I 76 f.toNatClampNeg := by clear ih hq hHa hTo hm hz hch hr hr12 hn; grind
    have hz9 := hz f i hf.1 hf.2 hi9.1 hi9.2
    have hx9 := tix (f := f) (i := i) ⟨hf.1, by clear ih hq hHa hTo hm hz hch hr hr12 hn; grind⟩ ⟨hi9.1, by clear ih hq hHa hTo hm hz hch hr hr12 hn; grind⟩
    refine c_X12_goesW (d := d) hHa hTo hs hl hr hr12 hn hch hx9.1 hz9 hss hTT fun v1 hgo => ?_
    refine ⟨fun (c2 : v1 = 0) => ?_, fun (c2 : ¬ v1 = 0) => ?_⟩
    · have hii : i < (I 76 f.toNatClampNeg) := Int32.not_le.mp c1
      have e9 : gCr (fun i => fGo (M s) (laR (I 75) (I 74) (200 * f + i)) (I 75 ((200 * f + i)).toNatClampNeg) (T s)) i c = (c + 0) := by
        subst hgo
        unfold gCr
        first | exact (if_pos (by assumption)).trans (by grind) | exact if_neg (by assumption)
      rw [upF_on hii, e9] at hq
      exact ih hii _ (by clear ih hq hHa hTo hm hz hch hr hr12 hn; grind) hq
    · have hii : i < (I 76 f.toNatClampNeg) := Int32.not_le.mp c1
      have e9 : gCr (fun i => fGo (M s) (laR (I 75) (I 74) (200 * f + i)) (I 75 ((200 * f + i)).toNatClampNeg) (T s)) i c = (c + 1) := by
        subst hgo
        unfold gCr
        first | exact (if_pos (by assumption)).trans (by grind) | exact if_neg (by assumption)
      rw [upF_on hii, e9] at hq
      exact ih hii _ (by clear ih hq hHa hTo hm hz hch hr hr12 hn; grind) hq
theorem c_X12_waysOfW {d z : Nat} {N : Nat → Nat} {I : Nat → Nat → Int32} {L : Nat → Nat → Int64} {R : Nat → Nat → Option Nat} {Q : qP} {s : Int32} {l : Int32} {f : Int32} (hHa : RHa (I 6 2) (I 65 1) (I 7) (I 68)) (hTo : RTo (I 8) (I 70) (I 71)) (hs : 0 ≤ I 65 0 ∧ I 65 0 ≤ 12) (hl : 0 ≤ l ∧ l < 4) {r : Nat → Nat} (hr : ∀ x : Int32, 0 ≤ x → x < I 65 0 → 0 ≤ I 78 x.toNatClampNeg → I 78 x.toNatClampNeg < I 65 0 ∧ r x.toNatClampNeg = r (I 78 x.toNatClampNeg).toNatClampNeg + 1) (hr12 : ∀ x : Int32, 0 ≤ x → x < I 65 0 → r x.toNatClampNeg < 12) (hn : ∀ x : Int32, 0 ≤ x → x < I 65 0 → 1 ≤ I 67 x.toNatClampNeg ∧ I 67 x.toNatClampNeg ≤ 24) {T : Int32 → Int32} {M : Int32 → Int32 → Int32} (hch : chP (I 65 0) (I 78) (I 67) (fun s k => fMy (tLd (I 8) (I 7) (I 6 2) s l k)) T M) (hss : 0 ≤ s ∧ s < I 65 0) (hTT : T s ≤ 300) (hc : 0 ≤ I 65 2 ∧ I 65 2 ≤ 8) (hm : ∀ f : Int32, 0 ≤ f → f < I 65 2 → 0 ≤ I 76 f.toNatClampNeg ∧ I 76 f.toNatClampNeg ≤ 200) (hz : ∀ f i : Int32, 0 ≤ f → f < I 65 2 → 0 ≤ i → i < I 76 f.toNatClampNeg → 0 ≤ I 75 (200 * f + i).toNatClampNeg ∧ I 75 (200 * f + i).toNatClampNeg ≤ 24) (hf : 0 ≤ f ∧ f < I 65 2) (h : ∀ v : Int32, v = (upF (I 76 f.toNatClampNeg) (gCr (fun i => fGo (M s) (laR (I 75) (I 74) (200 * f + i)) (I 75 ((200 * f + i)).toNatClampNeg) (T s))) 0 0) → Q (some (.int v)) (z, N, I, L, R)) : qWP (d + 5) 200 [.ref 65, .int s, .int l, .int f, .int 1] (z, N, I, L, R) Q := by
  refine qWP_of m_X12_waysOf rfl rfl [(0, .ref 65), (1, .int s), (2, .int l), (3, .int f), (4, .int 1)] rfl ?_
  refine qJ_run (qWP_mono _) [6] 400 ?_
  refine qJ_nm (qWP_mono _) [] [(6, .int 0), (5, .int 0), (4, .int 1), (3, .int f), (2, .int l), (1, .int s), (0, .ref 65)] rfl rfl rfl ?_
  exact l_X12_waysOfW (d := d) hHa hTo hs hl hr hr12 hn hch hss hTT hc hm hz hf 0 0 (by decide) (h _ rfl)
theorem l_X12_whole {d z : Nat} {N : Nat → Nat} {I : Nat → Nat → Int32} {L : Nat → Nat → Int64} {R : Nat → Nat → Option Nat} {Q : qP} {s l f : Int32} (hHa : RHa (I 6 2) (I 65 1) (I 7) (I 68)) (hTo : RTo (I 8) (I 70) (I 71)) (hs : 0 ≤ I 65 0 ∧ I 65 0 ≤ 12) (h66 : ∀ x : Int32, 0 ≤ x → x < I 65 0 → 1 ≤ I 66 x.toNatClampNeg ∧ I 66 x.toNatClampNeg ≤ 4) {r : Nat → Nat} (hr : ∀ x : Int32, 0 ≤ x → x < I 65 0 → 0 ≤ I 78 x.toNatClampNeg → I 78 x.toNatClampNeg < I 65 0 ∧ r x.toNatClampNeg = r (I 78 x.toNatClampNeg).toNatClampNeg + 1) (hr12 : ∀ x : Int32, 0 ≤ x → x < I 65 0 → r x.toNatClampNeg < 12) (hn : ∀ x : Int32, 0 ≤ x → x < I 65 0 → 1 ≤ I 67 x.toNatClampNeg ∧ I 67 x.toNatClampNeg ≤ 24) {T : Int32 → Int32} {M : Int32 → Int32 → Int32} (hch : chP (I 65 0) (I 78) (I 67) (fun s k => fMy (tLd (I 8) (I 7) (I 6 2) s l k)) T M) (hcc : 0 ≤ I 65 2 ∧ I 65 2 ≤ 8) (hm : ∀ f : Int32, 0 ≤ f → f < I 65 2 → 0 ≤ I 76 f.toNatClampNeg ∧ I 76 f.toNatClampNeg ≤ 200) (hz : ∀ f i : Int32, 0 ≤ f → f < I 65 2 → 0 ≤ i → i < I 76 f.toNatClampNeg → 0 ≤ I 75 (200 * f + i).toNatClampNeg ∧ I 75 (200 * f + i).toNatClampNeg ≤ 24) (hg : ((((0 ≤ s ∧ s < I 65 0) ∧ 0 ≤ l ∧ l < I 66 s.toNatClampNeg) ∧ 0 ≤ f ∧ f < I 65 2) ∧ I 79 s.toNatClampNeg < 0)) (h3 : ((((0 ≤ s ∧ s < I 65 0) ∧ 0 ≤ l ∧ l < I 66 s.toNatClampNeg) ∧ 0 ≤ f ∧ f < I 65 2) ∧ I 79 s.toNatClampNeg < 0) → 24 < T s → Q (some (.int (0))) (z, N, I, L, R)) (h4 : ((((0 ≤ s ∧ s < I 65 0) ∧ 0 ≤ l ∧ l < I 66 s.toNatClampNeg) ∧ 0 ≤ f ∧ f < I 65 2) ∧ I 79 s.toNatClampNeg < 0) → T s ≤ 24 → Q (some (.int ((upF (I 76 f.toNatClampNeg) (gCr (fun i => fGo (M s) (laR (I 75) (I 74) (200 * f + i)) (I 75 ((200 * f + i)).toNatClampNeg) (T s))) 0 0)))) (z, N, I, L, R)) : ∀ (m : Nat) (c a : Int32), (c < 0 ∨ (0 ≤ c ∧ c < I 65 0 ∧ r c.toNatClampNeg < m)) → a + T c = T s → qJ m_X12_whole (qWP (d + 5)) Q 38 [(5, .int c), (4, .int a), (3, .int f), (2, .int l), (1, .int s), (0, .ref 65)] [] 0 0 (z, N, I, L, R) := by
  refine nat_ind fun m ih => ?_
  intro c a hc ha
  refine qJ_run (qWP_mono _) [38] 400 ?_
  refine ⟨fun (c1 : c < 0) => ?_, fun (c1 : ¬ c < 0) => ?_⟩
  · refine ⟨fun (c2 : a ≤ 24) => ?_, fun (c2 : ¬ a ≤ 24) => ?_⟩
    · refine ⟨⟨Nat.le_refl _, Nat.le_refl _⟩, ?_⟩
      have hTS : T s ≤ 300 := by
        have e0 := hch.1 c (by assumption)
        rw [e0, Int32.add_zero] at ha
        rw [← ha]
        clear ih h3 h4 h66 hHa hTo hm hz hch hr hr12 hn; grind
      refine c_X12_waysOfW (d := d) hHa hTo hs ⟨hg.1.1.2.1, Int32.lt_of_lt_of_le hg.1.1.2.2 (h66 s hg.1.1.1.1 hg.1.1.1.2).2⟩ hr hr12 hn hch hg.1.1.1 hTS hcc hm hz hg.1.2 fun v1 hwv => ?_
      change Q (some (.int v1)) (z, N, I, L, R)
      have e0 := hch.1 c (by assumption)
      rw [e0, Int32.add_zero] at ha
      subst ha
      rw [hwv]
      exact h4 hg (by assumption)
    · change Q (some (.int 0)) (z, N, I, L, R)
      have e0 := hch.1 c (by assumption)
      rw [e0, Int32.add_zero] at ha
      subst ha
      exact h3 hg (Int32.not_le.mp (by assumption))
  · refine ⟨?_, ?_⟩
    · exact vb (x := c) (N := 12) 12 (by decide) (Int32.not_lt.mp (by assumption)) (Int32.lt_of_lt_of_le (hc.resolve_left (by assumption)).2.1 hs.2)
    refine ⟨?_, ?_⟩
    · exact vb (x := c) (N := 12) 12 (by decide) (Int32.not_lt.mp (by assumption)) (Int32.lt_of_lt_of_le (hc.resolve_left (by assumption)).2.1 hs.2)
    have hc2 : 0 ≤ c ∧ c < I 65 0 ∧ r c.toNatClampNeg < m := hc.resolve_left (by assumption)
    obtain ⟨q, rfl⟩ : ∃ q, m = q + 1 := ⟨m - 1, by omega⟩
    refine ih q rfl _ _ ?_ (by rw [← ha, (hch.2.1 c hc2.1 hc2.2.1).1, Int32.add_assoc])
    by_cases h9 : 0 ≤ I 78 c.toNatClampNeg
    · exact Or.inr ⟨h9, (hr c hc2.1 hc2.2.1 h9).1, by show r (I 78 c.toNatClampNeg).toNatClampNeg < q; have := (hr c hc2.1 hc2.2.1 h9).2; have := hc2.2.2; omega⟩
    · exact Or.inl (Int32.not_le.mp h9)
theorem c_X12_whole {d z : Nat} {N : Nat → Nat} {I : Nat → Nat → Int32} {L : Nat → Nat → Int64} {R : Nat → Nat → Option Nat} {Q : qP} {s : Int32} {l : Int32} {f : Int32} (hHa : RHa (I 6 2) (I 65 1) (I 7) (I 68)) (hTo : RTo (I 8) (I 70) (I 71)) (hs : 0 ≤ I 65 0 ∧ I 65 0 ≤ 12) (h66 : ∀ x : Int32, 0 ≤ x → x < I 65 0 → 1 ≤ I 66 x.toNatClampNeg ∧ I 66 x.toNatClampNeg ≤ 4) {r : Nat → Nat} (hr : ∀ x : Int32, 0 ≤ x → x < I 65 0 → 0 ≤ I 78 x.toNatClampNeg → I 78 x.toNatClampNeg < I 65 0 ∧ r x.toNatClampNeg = r (I 78 x.toNatClampNeg).toNatClampNeg + 1) (hr12 : ∀ x : Int32, 0 ≤ x → x < I 65 0 → r x.toNatClampNeg < 12) (hn : ∀ x : Int32, 0 ≤ x → x < I 65 0 → 1 ≤ I 67 x.toNatClampNeg ∧ I 67 x.toNatClampNeg ≤ 24) {T : Int32 → Int32} {M : Int32 → Int32 → Int32} (hch : chP (I 65 0) (I 78) (I 67) (fun s k => fMy (tLd (I 8) (I 7) (I 6 2) s l k)) T M) (hc : 0 ≤ I 65 2 ∧ I 65 2 ≤ 8) (hm : ∀ f : Int32, 0 ≤ f → f < I 65 2 → 0 ≤ I 76 f.toNatClampNeg ∧ I 76 f.toNatClampNeg ≤ 200) (hz : ∀ f i : Int32, 0 ≤ f → f < I 65 2 → 0 ≤ i → i < I 76 f.toNatClampNeg → 0 ≤ I 75 (200 * f + i).toNatClampNeg ∧ I 75 (200 * f + i).toNatClampNeg ≤ 24) (h1 : ¬ (((0 ≤ s ∧ s < I 65 0) ∧ 0 ≤ l ∧ l < I 66 s.toNatClampNeg) ∧ 0 ≤ f ∧ f < I 65 2) → Q (some (.int (-2))) (z, N, I, L, R)) (h2 : (((0 ≤ s ∧ s < I 65 0) ∧ 0 ≤ l ∧ l < I 66 s.toNatClampNeg) ∧ 0 ≤ f ∧ f < I 65 2) → ¬ I 79 s.toNatClampNeg < 0 → Q (some (.int (-3))) (z, N, I, L, R)) (h3 : ((((0 ≤ s ∧ s < I 65 0) ∧ 0 ≤ l ∧ l < I 66 s.toNatClampNeg) ∧ 0 ≤ f ∧ f < I 65 2) ∧ I 79 s.toNatClampNeg < 0) → 24 < T s → Q (some (.int (0))) (z, N, I, L, R)) (h4 : ((((0 ≤ s ∧ s < I 65 0) ∧ 0 ≤ l ∧ l < I 66 s.toNatClampNeg) ∧ 0 ≤ f ∧ f < I 65 2) ∧ I 79 s.toNatClampNeg < 0) → T s ≤ 24 → Q (some (.int ((upF (I 76 f.toNatClampNeg) (gCr (fun i => fGo (M s) (laR (I 75) (I 74) (200 * f + i)) (I 75 ((200 * f + i)).toNatClampNeg) (T s))) 0 0)))) (z, N, I, L, R)) : qWP (d + 6) 217 [.ref 65, .int s, .int l, .int f] (z, N, I, L, R) Q := by
  refine qWP_of m_X12_whole rfl rfl [(0, .ref 65), (1, .int s), (2, .int l), (3, .int f)] rfl ?_
  refine qJ_run (qWP_mono _) [38] 400 ?_
  refine ⟨⟨Nat.le_refl _, Nat.le_refl _⟩, ?_⟩
  refine c_X12_isLine hs fun v1 hv1 => ?_
  refine ⟨fun (c1 : v1 = 0) => ?_, fun (c1 : ¬ v1 = 0) => ?_⟩
  · change Q (some (.int (-2))) (z, N, I, L, R)
    exact h1 (by clear h1 h2 h3 h4 h66 hHa hTo hm hz hch hr hr12 hn; grind)
  · refine ⟨⟨Nat.le_refl _, Nat.le_refl _⟩, ?_⟩
    refine c_X12_isFormula fun v2 hv2 => ?_
    refine ⟨fun (c2 : ¬ v2 = 0) => ?_, fun (c2 : v2 = 0) => ?_⟩
    · refine ⟨?_, ?_⟩
      · exact vb (x := s) (N := 12) 12 (by decide) (by clear h1 h2 h3 h4; grind) (by clear h1 h2 h3 h4; grind)
      refine ⟨fun (c3 : (I 79 ((s).toNatClampNeg)) < 0) => ?_, fun (c3 : ¬ (I 79 ((s).toNatClampNeg)) < 0) => ?_⟩
      · refine qJ_nm (qWP_mono _) [] [(5, .int s), (4, .int 0), (3, .int f), (2, .int l), (1, .int s), (0, .ref 65)] rfl rfl rfl ?_
        have hg : ((((0 ≤ s ∧ s < I 65 0) ∧ 0 ≤ l ∧ l < I 66 s.toNatClampNeg) ∧ 0 ≤ f ∧ f < I 65 2) ∧ I 79 s.toNatClampNeg < 0) := by clear h1 h2 h3 h4 h66 hHa hTo hm hz hch hr hr12 hn; grind
        exact l_X12_whole (d := d) hHa hTo hs h66 hr hr12 hn hch hc hm hz hg h3 h4 12 s 0 (Or.inr ⟨hg.1.1.1.1, hg.1.1.1.2, hr12 s hg.1.1.1.1 hg.1.1.1.2⟩) (Int32.zero_add _)
      · change Q (some (.int (-3))) (z, N, I, L, R)
        exact h2 (by clear h1 h2 h3 h4 h66 hHa hTo hm hz hch hr hr12 hn; grind) (by clear h1 h2 h3 h4 h66 hHa hTo hm hz hch hr hr12 hn; grind)
    · change Q (some (.int (-2))) (z, N, I, L, R)
      exact h1 (by clear h1 h2 h3 h4 h66 hHa hTo hm hz hch hr hr12 hn; grind)
