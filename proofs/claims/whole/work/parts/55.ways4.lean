/-! counting ways by their places -/
def gCr (go : Int32 → Int32) (i c : Int32) : Int32 := if go i = 0 then c else c + 1
def gWr (go : Int32 → Int32) (i c : Int32) : Sum Int32 Int32 := if go i = 0 then .inl c else if c = 0 then .inr i else .inl (c + (-1))
def gKr (go la : Int32 → Int32) (t c : Int32) : Sum Int32 Int32 := if go t = 0 then .inl c else if 0 ≤ c ∧ ¬ la t = c then .inr (-1) else .inl (la t)
theorem tsub {f t m : Int32} (hf : 0 ≤ f ∧ f < 8) (hm : 0 ≤ m ∧ m ≤ 200) (h0 : 200 * f ≤ t) (h1 : t < 200 * f + m) : (0 ≤ t - 200 * f ∧ t - 200 * f < m) ∧ 200 * f + (t - 200 * f) = t ∧ 200 * f ≤ t + 1 := by
  refine ⟨?_, by grind, ?_⟩
  all_goals
    obtain ⟨f, hf2, rfl⟩ := nI_ofL (x := f) (n := 8) (by decide) hf.1 hf.2
    have e1 : (200 * nI f).toInt = 200 * (f : Int) := by
      rw [show (200 : Int32) = nI 200 from rfl, nI_mul, nI_toInt (by omega)]
      omega
    have a0 := i0 hm.1
    have a1 := Int32.le_iff_toInt_le.mp hm.2
    rw [show (200 : Int32).toInt = 200 from rfl] at a1
    have e2 : (200 * nI f + m).toInt = 200 * (f : Int) + m.toInt := by rw [ti_add (by rw [e1]; omega), e1]
    have b0 := Int32.le_iff_toInt_le.mp h0
    have b1 := Int32.lt_iff_toInt_lt.mp h1
    rw [e1] at b0
    rw [e2] at b1
  · have e3 : (t - 200 * nI f).toInt = t.toInt - 200 * (f : Int) := by rw [ti_sub (by rw [e1]; omega), e1]
    rw [fa_le, fa_lt, e3, show (0 : Int32).toInt = 0 from rfl]
    omega
  · rw [fa_le, e1, ti_add (by rw [show (1 : Int32).toInt = 1 from rfl]; omega), show (1 : Int32).toInt = 1 from rfl]
    omega
def gFi (many : Int32 → Int32) (f _x : Int32) : Sum Int32 Int32 := if 0 < many f then .inr f else .inl (-1)
theorem l_X12_waysOf {d z : Nat} {N : Nat → Nat} {I : Nat → Nat → Int32} {L : Nat → Nat → Int64} {R : Nat → Nat → Option Nat} {Q : qP} {s l f : Int32} (hHa : RHa (I 6 2) (I 65 1) (I 7) (I 68)) (hTo : RTo (I 8) (I 70) (I 71)) (hs : 0 ≤ s ∧ s < 12) (hl : 0 ≤ l ∧ l < 4) (hn : 1 ≤ I 67 s.toNatClampNeg ∧ I 67 s.toNatClampNeg ≤ 24) (hc : 0 ≤ I 65 2 ∧ I 65 2 ≤ 8) (hm : ∀ f : Int32, 0 ≤ f → f < I 65 2 → 0 ≤ I 76 f.toNatClampNeg ∧ I 76 f.toNatClampNeg ≤ 200) (hz : ∀ f i : Int32, 0 ≤ f → f < I 65 2 → 0 ≤ i → i < I 76 f.toNatClampNeg → 0 ≤ I 75 (200 * f + i).toNatClampNeg ∧ I 75 (200 * f + i).toNatClampNeg ≤ 24) (hf : 0 ≤ f ∧ f < I 65 2) : ∀ (i : Int32), ∀ c : Int32, 0 ≤ i → Q (some (.int (upF (I 76 f.toNatClampNeg) (gCr (fun i => fGo (fun p => fMy (tLd (I 8) (I 7) (I 6 2) s l p)) (laR (I 75) (I 74) (200 * f + i)) (I 75 ((200 * f + i)).toNatClampNeg) (I 67 s.toNatClampNeg))) i c))) (z, N, I, L, R) → qJ m_X12_waysOf (qWP (d + 4)) Q 6 [(6, .int i), (5, .int c), (4, .int 0), (3, .int f), (2, .int l), (1, .int s), (0, .ref 65)] [] 0 0 (z, N, I, L, R) := by
  refine up_ind ((I 76 f.toNatClampNeg)) fun i ih => ?_
  intro c h0 hq
  refine qJ_run (qWP_mono _) [6] 400 ?_
  refine ⟨?_, ?_⟩
  · exact vb (x := f) (N := 8) 8 (by decide) hf.1 (by clear ih hq hHa hTo hm hz; grind)
  refine ⟨fun (c1 : (I 76 ((f).toNatClampNeg)) ≤ i) => ?_, fun (c1 : ¬ (I 76 ((f).toNatClampNeg)) ≤ i) => ?_⟩
  · change Q (some (.int c)) (z, N, I, L, R)
    rw [upF_ge (Int32.not_lt.mpr c1)] at hq
    exact hq
  · refine ⟨⟨Nat.le_refl _, Nat.le_refl _⟩, ?_⟩
    have hm9 := hm f hf.1 hf.2
    have hi9 : 0 ≤ i ∧ i < I 76 f.toNatClampNeg := by clear ih hq hHa hTo hm hz; grind
    have hz9 := hz f i hf.1 hf.2 hi9.1 hi9.2
    have hx9 := tix (f := f) (i := i) ⟨hf.1, by clear ih hq hHa hTo hm hz; grind⟩ ⟨hi9.1, by clear ih hq hHa hTo hm hz; grind⟩
    refine c_X12_goes (d := d) hHa hTo hs hl hn hx9.1 hz9 fun v1 hgo => ?_
    refine ⟨fun (c2 : v1 = 0) => ?_, fun (c2 : ¬ v1 = 0) => ?_⟩
    · have hii : i < (I 76 f.toNatClampNeg) := Int32.not_le.mp c1
      have e9 : gCr (fun i => fGo (fun p => fMy (tLd (I 8) (I 7) (I 6 2) s l p)) (laR (I 75) (I 74) (200 * f + i)) (I 75 ((200 * f + i)).toNatClampNeg) (I 67 s.toNatClampNeg)) i c = (c + 0) := by
        subst hgo
        unfold gCr
        first | exact (if_pos (by assumption)).trans (by grind) | exact if_neg (by assumption)
      rw [upF_on hii, e9] at hq
      exact ih hii _ (by clear ih hq hHa hTo hm hz; grind) hq
    · have hii : i < (I 76 f.toNatClampNeg) := Int32.not_le.mp c1
      have e9 : gCr (fun i => fGo (fun p => fMy (tLd (I 8) (I 7) (I 6 2) s l p)) (laR (I 75) (I 74) (200 * f + i)) (I 75 ((200 * f + i)).toNatClampNeg) (I 67 s.toNatClampNeg)) i c = (c + 1) := by
        subst hgo
        unfold gCr
        first | exact (if_pos (by assumption)).trans (by grind) | exact if_neg (by assumption)
      rw [upF_on hii, e9] at hq
      exact ih hii _ (by clear ih hq hHa hTo hm hz; grind) hq
theorem c_X12_waysOf {d z : Nat} {N : Nat → Nat} {I : Nat → Nat → Int32} {L : Nat → Nat → Int64} {R : Nat → Nat → Option Nat} {Q : qP} {s : Int32} {l : Int32} {f : Int32} (hHa : RHa (I 6 2) (I 65 1) (I 7) (I 68)) (hTo : RTo (I 8) (I 70) (I 71)) (hs : 0 ≤ s ∧ s < 12) (hl : 0 ≤ l ∧ l < 4) (hn : 1 ≤ I 67 s.toNatClampNeg ∧ I 67 s.toNatClampNeg ≤ 24) (hc : 0 ≤ I 65 2 ∧ I 65 2 ≤ 8) (hm : ∀ f : Int32, 0 ≤ f → f < I 65 2 → 0 ≤ I 76 f.toNatClampNeg ∧ I 76 f.toNatClampNeg ≤ 200) (hz : ∀ f i : Int32, 0 ≤ f → f < I 65 2 → 0 ≤ i → i < I 76 f.toNatClampNeg → 0 ≤ I 75 (200 * f + i).toNatClampNeg ∧ I 75 (200 * f + i).toNatClampNeg ≤ 24) (hf : 0 ≤ f ∧ f < I 65 2) (h : ∀ v : Int32, v = (upF (I 76 f.toNatClampNeg) (gCr (fun i => fGo (fun p => fMy (tLd (I 8) (I 7) (I 6 2) s l p)) (laR (I 75) (I 74) (200 * f + i)) (I 75 ((200 * f + i)).toNatClampNeg) (I 67 s.toNatClampNeg))) 0 0) → Q (some (.int v)) (z, N, I, L, R)) : qWP (d + 5) 200 [.ref 65, .int s, .int l, .int f, .int 0] (z, N, I, L, R) Q := by
  refine qWP_of m_X12_waysOf rfl rfl [(0, .ref 65), (1, .int s), (2, .int l), (3, .int f), (4, .int 0)] rfl ?_
  refine qJ_run (qWP_mono _) [6] 400 ?_
  refine qJ_nm (qWP_mono _) [] [(6, .int 0), (5, .int 0), (4, .int 0), (3, .int f), (2, .int l), (1, .int s), (0, .ref 65)] rfl rfl rfl ?_
  exact l_X12_waysOf (d := d) hHa hTo hs hl hn hc hm hz hf 0 0 (by decide) (h _ rfl)
theorem c_X12_ways {d z : Nat} {N : Nat → Nat} {I : Nat → Nat → Int32} {L : Nat → Nat → Int64} {R : Nat → Nat → Option Nat} {Q : qP} {s : Int32} {l : Int32} {f : Int32} (hs : 0 ≤ I 65 0 ∧ I 65 0 ≤ 12) (hHa : RHa (I 6 2) (I 65 1) (I 7) (I 68)) (hTo : RTo (I 8) (I 70) (I 71)) (hl : ∀ x : Int32, 0 ≤ x → x < I 65 0 → (1 ≤ I 66 x.toNatClampNeg ∧ I 66 x.toNatClampNeg ≤ 4) ∧ 1 ≤ I 67 x.toNatClampNeg ∧ I 67 x.toNatClampNeg ≤ 24) (hc : 0 ≤ I 65 2 ∧ I 65 2 ≤ 8) (hm : ∀ f : Int32, 0 ≤ f → f < I 65 2 → 0 ≤ I 76 f.toNatClampNeg ∧ I 76 f.toNatClampNeg ≤ 200) (hz : ∀ f i : Int32, 0 ≤ f → f < I 65 2 → 0 ≤ i → i < I 76 f.toNatClampNeg → 0 ≤ I 75 (200 * f + i).toNatClampNeg ∧ I 75 (200 * f + i).toNatClampNeg ≤ 24) (h : ∀ v : Int32, v = (if ((0 ≤ f ∧ f < I 65 2) ∧ (0 ≤ s ∧ s < I 65 0) ∧ 0 ≤ l ∧ l < I 66 s.toNatClampNeg) then (upF (I 76 f.toNatClampNeg) (gCr (fun i => fGo (fun p => fMy (tLd (I 8) (I 7) (I 6 2) s l p)) (laR (I 75) (I 74) (200 * f + i)) (I 75 ((200 * f + i)).toNatClampNeg) (I 67 s.toNatClampNeg))) 0 0) else -2) → Q (some (.int v)) (z, N, I, L, R)) : qWP (d + 6) 201 [.ref 65, .int s, .int l, .int f] (z, N, I, L, R) Q := by
  refine qWP_of m_X12_ways rfl rfl [(0, .ref 65), (1, .int s), (2, .int l), (3, .int f)] rfl ?_
  refine qJ_run (qWP_mono _) [] 400 ?_
  refine ⟨⟨Nat.le_refl _, Nat.le_refl _⟩, ?_⟩
  refine c_X12_isLine hs fun v1 hv1 => ?_
  refine ⟨fun (c1 : v1 = 0) => ?_, fun (c1 : ¬ v1 = 0) => ?_⟩
  · change Q (some (.int (-2))) (z, N, I, L, R)
    exact h _ (if_neg (by clear h hHa hTo hm hz hl; grind)).symm
  · refine ⟨⟨Nat.le_refl _, Nat.le_refl _⟩, ?_⟩
    refine c_X12_isFormula fun v2 hv2 => ?_
    refine ⟨fun (c2 : v2 = 0) => ?_, fun (c2 : ¬ v2 = 0) => ?_⟩
    · change Q (some (.int (-2))) (z, N, I, L, R)
      exact h _ (if_neg (by clear h hHa hTo hm hz hl; grind)).symm
    · refine ⟨⟨Nat.le_refl _, Nat.le_refl _⟩, ?_⟩
      have hg : ((0 ≤ f ∧ f < I 65 2) ∧ (0 ≤ s ∧ s < I 65 0) ∧ 0 ≤ l ∧ l < I 66 s.toNatClampNeg) := by clear h hHa hTo hm hz hl; grind
      have hls := hl s hg.2.1.1 hg.2.1.2
      have ha : 0 ≤ s ∧ s < 12 := ⟨hg.2.1.1, Int32.lt_of_lt_of_le hg.2.1.2 hs.2⟩
      have hb : 0 ≤ l ∧ l < 4 := ⟨hg.2.2.1, Int32.lt_of_lt_of_le hg.2.2.2 hls.1.2⟩
      refine c_X12_waysOf (d := d) hHa hTo ha hb hls.2 hc hm hz hg.1 fun v3 hv3 => ?_
      change Q (some (.int v3)) (z, N, I, L, R)
      exact h _ (hv3.trans (if_pos hg).symm)
theorem l_X12_way {d z : Nat} {N : Nat → Nat} {I : Nat → Nat → Int32} {L : Nat → Nat → Int64} {R : Nat → Nat → Option Nat} {Q : qP} {s l f i : Int32} (hHa : RHa (I 6 2) (I 65 1) (I 7) (I 68)) (hTo : RTo (I 8) (I 70) (I 71)) (hs : 0 ≤ s ∧ s < 12) (hl : 0 ≤ l ∧ l < 4) (hn : 1 ≤ I 67 s.toNatClampNeg ∧ I 67 s.toNatClampNeg ≤ 24) (hc : 0 ≤ I 65 2 ∧ I 65 2 ≤ 8) (hm : ∀ f : Int32, 0 ≤ f → f < I 65 2 → 0 ≤ I 76 f.toNatClampNeg ∧ I 76 f.toNatClampNeg ≤ 200) (hz : ∀ f i : Int32, 0 ≤ f → f < I 65 2 → 0 ≤ i → i < I 76 f.toNatClampNeg → 0 ≤ I 75 (200 * f + i).toNatClampNeg ∧ I 75 (200 * f + i).toNatClampNeg ≤ 24) (hf : 0 ≤ f ∧ f < I 65 2) (hi : 0 ≤ i) : ∀ (k : Int32), ∀ c : Int32, 0 ≤ k → Q (some (.int (upS (I 76 f.toNatClampNeg) (gWr (fun i => fGo (fun p => fMy (tLd (I 8) (I 7) (I 6 2) s l p)) (laR (I 75) (I 74) (200 * f + i)) (I 75 ((200 * f + i)).toNatClampNeg) (I 67 s.toNatClampNeg))) (fun _ => -1) k c))) (z, N, I, L, R) → qJ m_X12_way (qWP (d + 4)) Q 27 [(6, .int k), (5, .int c), (4, .int i), (3, .int f), (2, .int l), (1, .int s), (0, .ref 65)] [] 0 0 (z, N, I, L, R) := by
  refine up_ind ((I 76 f.toNatClampNeg)) fun k ih => ?_
  intro c h0 hq
  refine qJ_run (qWP_mono _) [27] 400 ?_
  refine ⟨?_, ?_⟩
  · exact vb (x := f) (N := 8) 8 (by decide) hf.1 (by clear ih hq hHa hTo hm hz; grind)
  refine ⟨fun (c1 : (I 76 ((f).toNatClampNeg)) ≤ k) => ?_, fun (c1 : ¬ (I 76 ((f).toNatClampNeg)) ≤ k) => ?_⟩
  · change Q (some (.int (-1))) (z, N, I, L, R)
    rw [upS_ge (Int32.not_lt.mpr c1)] at hq
    exact hq
  · refine br_f (show ¬ i < 0 from (Int32.not_lt.mpr hi)) ?_
    refine ⟨⟨Nat.le_refl _, Nat.le_refl _⟩, ?_⟩
    have hm9 := hm f hf.1 hf.2
    have hi9 : 0 ≤ k ∧ k < I 76 f.toNatClampNeg := by clear ih hq hHa hTo hm hz; grind
    have hz9 := hz f k hf.1 hf.2 hi9.1 hi9.2
    have hx9 := tix (f := f) (i := k) ⟨hf.1, by clear ih hq hHa hTo hm hz; grind⟩ ⟨hi9.1, by clear ih hq hHa hTo hm hz; grind⟩
    refine c_X12_goes (d := d) hHa hTo hs hl hn hx9.1 hz9 fun v1 hgo => ?_
    refine ⟨fun (c3 : ¬ v1 = 0) => ?_, fun (c3 : v1 = 0) => ?_⟩
    · refine ⟨fun (c4 : ¬ c = 0) => ?_, fun (c4 : c = 0) => ?_⟩
      · have hkk : k < (I 76 f.toNatClampNeg) := Int32.not_le.mp c1
        have e9 : gWr (fun i => fGo (fun p => fMy (tLd (I 8) (I 7) (I 6 2) s l p)) (laR (I 75) (I 74) (200 * f + i)) (I 75 ((200 * f + i)).toNatClampNeg) (I 67 s.toNatClampNeg)) k c = .inl (c + (-1)) := by
          subst hgo
          unfold gWr
          exact (if_neg (by assumption)).trans (if_neg (by assumption))
        rw [upS_on hkk e9] at hq
        exact ih hkk _ (by clear ih hq hHa hTo hm hz; grind) hq
      · change Q (some (.int k)) (z, N, I, L, R)
        have hkk : k < (I 76 f.toNatClampNeg) := Int32.not_le.mp c1
        have e9 : gWr (fun i => fGo (fun p => fMy (tLd (I 8) (I 7) (I 6 2) s l p)) (laR (I 75) (I 74) (200 * f + i)) (I 75 ((200 * f + i)).toNatClampNeg) (I 67 s.toNatClampNeg)) k c = .inr k := by
          subst hgo
          unfold gWr
          exact (if_neg (by assumption)).trans (if_pos (by assumption))
        rw [upS_out hkk e9] at hq
        exact hq
    · have hkk : k < (I 76 f.toNatClampNeg) := Int32.not_le.mp c1
      have e9 : gWr (fun i => fGo (fun p => fMy (tLd (I 8) (I 7) (I 6 2) s l p)) (laR (I 75) (I 74) (200 * f + i)) (I 75 ((200 * f + i)).toNatClampNeg) (I 67 s.toNatClampNeg)) k c = .inl c := by
        subst hgo
        unfold gWr
        exact if_pos (by assumption)
      rw [upS_on hkk e9] at hq
      exact ih hkk _ (by clear ih hq hHa hTo hm hz; grind) hq
theorem l_X12_wayN {d z : Nat} {N : Nat → Nat} {I : Nat → Nat → Int32} {L : Nat → Nat → Int64} {R : Nat → Nat → Option Nat} {Q : qP} {s l f i : Int32} (hHa : RHa (I 6 2) (I 65 1) (I 7) (I 68)) (hTo : RTo (I 8) (I 70) (I 71)) (hs : 0 ≤ s ∧ s < 12) (hl : 0 ≤ l ∧ l < 4) (hn : 1 ≤ I 67 s.toNatClampNeg ∧ I 67 s.toNatClampNeg ≤ 24) (hc : 0 ≤ I 65 2 ∧ I 65 2 ≤ 8) (hm : ∀ f : Int32, 0 ≤ f → f < I 65 2 → 0 ≤ I 76 f.toNatClampNeg ∧ I 76 f.toNatClampNeg ≤ 200) (hz : ∀ f i : Int32, 0 ≤ f → f < I 65 2 → 0 ≤ i → i < I 76 f.toNatClampNeg → 0 ≤ I 75 (200 * f + i).toNatClampNeg ∧ I 75 (200 * f + i).toNatClampNeg ≤ 24) (hf : 0 ≤ f ∧ f < I 65 2) (hi : i < 0) (hq : Q (some (.int (-1))) (z, N, I, L, R)) : qJ m_X12_way (qWP (d + 4)) Q 27 [(6, .int 0), (5, .int i), (4, .int i), (3, .int f), (2, .int l), (1, .int s), (0, .ref 65)] [] 0 0 (z, N, I, L, R) := by
  refine qJ_run (qWP_mono _) [27] 400 ?_
  refine ⟨?_, ?_⟩
  · exact vb (x := f) (N := 8) 8 (by decide) hf.1 (by clear hq hHa hTo hm hz; grind)
  refine ⟨fun (c1 : (I 76 ((f).toNatClampNeg)) ≤ 0) => ?_, fun (c1 : ¬ (I 76 ((f).toNatClampNeg)) ≤ 0) => ?_⟩
  · change Q (some (.int (-1))) (z, N, I, L, R)
    exact hq
  · refine br_t (show i < 0 from hi) ?_
    change Q (some (.int (-1))) (z, N, I, L, R)
    exact hq
theorem c_X12_way {d z : Nat} {N : Nat → Nat} {I : Nat → Nat → Int32} {L : Nat → Nat → Int64} {R : Nat → Nat → Option Nat} {Q : qP} {s : Int32} {l : Int32} {f : Int32} {i : Int32} (hs : 0 ≤ I 65 0 ∧ I 65 0 ≤ 12) (hHa : RHa (I 6 2) (I 65 1) (I 7) (I 68)) (hTo : RTo (I 8) (I 70) (I 71)) (hl : ∀ x : Int32, 0 ≤ x → x < I 65 0 → (1 ≤ I 66 x.toNatClampNeg ∧ I 66 x.toNatClampNeg ≤ 4) ∧ 1 ≤ I 67 x.toNatClampNeg ∧ I 67 x.toNatClampNeg ≤ 24) (hc : 0 ≤ I 65 2 ∧ I 65 2 ≤ 8) (hm : ∀ f : Int32, 0 ≤ f → f < I 65 2 → 0 ≤ I 76 f.toNatClampNeg ∧ I 76 f.toNatClampNeg ≤ 200) (hz : ∀ f i : Int32, 0 ≤ f → f < I 65 2 → 0 ≤ i → i < I 76 f.toNatClampNeg → 0 ≤ I 75 (200 * f + i).toNatClampNeg ∧ I 75 (200 * f + i).toNatClampNeg ≤ 24) (h0 : ¬ ((0 ≤ f ∧ f < I 65 2) ∧ (0 ≤ s ∧ s < I 65 0) ∧ 0 ≤ l ∧ l < I 66 s.toNatClampNeg) → Q (some (.int (-2))) (z, N, I, L, R)) (h1 : ((0 ≤ f ∧ f < I 65 2) ∧ (0 ≤ s ∧ s < I 65 0) ∧ 0 ≤ l ∧ l < I 66 s.toNatClampNeg) → Q (some (.int ((if i < 0 then -1 else upS (I 76 f.toNatClampNeg) (gWr (fun i => fGo (fun p => fMy (tLd (I 8) (I 7) (I 6 2) s l p)) (laR (I 75) (I 74) (200 * f + i)) (I 75 ((200 * f + i)).toNatClampNeg) (I 67 s.toNatClampNeg))) (fun _ => -1) 0 i)))) (z, N, I, L, R)) : qWP (d + 5) 202 [.ref 65, .int s, .int l, .int f, .int i] (z, N, I, L, R) Q := by
  refine qWP_of m_X12_way rfl rfl [(0, .ref 65), (1, .int s), (2, .int l), (3, .int f), (4, .int i)] rfl ?_
  refine qJ_run (qWP_mono _) [27] 400 ?_
  refine ⟨⟨Nat.le_refl _, Nat.le_refl _⟩, ?_⟩
  refine c_X12_isLine hs fun v1 hv1 => ?_
  refine ⟨fun (c1 : v1 = 0) => ?_, fun (c1 : ¬ v1 = 0) => ?_⟩
  · change Q (some (.int (-2))) (z, N, I, L, R)
    exact h0 (by clear h0 h1 hHa hTo hm hz hl; grind)
  · refine ⟨⟨Nat.le_refl _, Nat.le_refl _⟩, ?_⟩
    refine c_X12_isFormula fun v2 hv2 => ?_
    refine ⟨fun (c2 : ¬ v2 = 0) => ?_, fun (c2 : v2 = 0) => ?_⟩
    · refine qJ_nm (qWP_mono _) [] [(6, .int 0), (5, .int i), (4, .int i), (3, .int f), (2, .int l), (1, .int s), (0, .ref 65)] rfl rfl rfl ?_
      have hg : ((0 ≤ f ∧ f < I 65 2) ∧ (0 ≤ s ∧ s < I 65 0) ∧ 0 ≤ l ∧ l < I 66 s.toNatClampNeg) := by clear h0 h1 hHa hTo hm hz hl; grind
      have hls := hl s hg.2.1.1 hg.2.1.2
      have ha : 0 ≤ s ∧ s < 12 := ⟨hg.2.1.1, Int32.lt_of_lt_of_le hg.2.1.2 hs.2⟩
      have hb : 0 ≤ l ∧ l < 4 := ⟨hg.2.2.1, Int32.lt_of_lt_of_le hg.2.2.2 hls.1.2⟩
      have hh9 := h1 hg
      by_cases hi : i < 0
      · rw [if_pos hi] at hh9
        exact l_X12_wayN (d := d) hHa hTo ha hb hls.2 hc hm hz hg.1 hi hh9
      · rw [if_neg hi] at hh9
        exact l_X12_way (d := d) hHa hTo ha hb hls.2 hc hm hz hg.1 (Int32.not_lt.mp hi) 0 i (by decide) hh9
    · change Q (some (.int (-2))) (z, N, I, L, R)
      exact h0 (by clear h0 h1 hHa hTo hm hz hl; grind)
theorem l_X12_carriedOf {d z : Nat} {N : Nat → Nat} {I : Nat → Nat → Int32} {L : Nat → Nat → Int64} {R : Nat → Nat → Option Nat} {Q : qP} {s l p f : Int32} (hHa : RHa (I 6 2) (I 65 1) (I 7) (I 68)) (hTo : RTo (I 8) (I 70) (I 71)) (hs : 0 ≤ s ∧ s < 12) (hl : 0 ≤ l ∧ l < 4) (hn : 1 ≤ I 67 s.toNatClampNeg ∧ I 67 s.toNatClampNeg ≤ 24) (hc : 0 ≤ I 65 2 ∧ I 65 2 ≤ 8) (hm : ∀ f : Int32, 0 ≤ f → f < I 65 2 → 0 ≤ I 76 f.toNatClampNeg ∧ I 76 f.toNatClampNeg ≤ 200) (hz : ∀ f i : Int32, 0 ≤ f → f < I 65 2 → 0 ≤ i → i < I 76 f.toNatClampNeg → 0 ≤ I 75 (200 * f + i).toNatClampNeg ∧ I 75 (200 * f + i).toNatClampNeg ≤ 24) (hf : 0 ≤ f ∧ f < I 65 2) (hp : 0 ≤ p ∧ p < 24) : ∀ (t : Int32), ∀ c : Int32, 200 * f ≤ t → Q (some (.int (upS (200 * f + (I 76 f.toNatClampNeg)) (gKr (fun t => fGo (fun p => fMy (tLd (I 8) (I 7) (I 6 2) s l p)) (laR (I 75) (I 74) t) (I 75 (t).toNatClampNeg) (I 67 s.toNatClampNeg)) (fun t => laR (I 75) (I 74) t p)) id t c))) (z, N, I, L, R) → qJ m_X12_carriedOf (qWP (d + 4)) Q 11 [(6, .int t), (5, .int c), (4, .int f), (3, .int p), (2, .int l), (1, .int s), (0, .ref 65)] [] 0 0 (z, N, I, L, R) := by
  refine up_ind ((200 * f + (I 76 f.toNatClampNeg))) fun t ih => ?_
  intro c h0 hq
  refine qJ_run (qWP_mono _) [11] 400 ?_
  refine ⟨?_, ?_⟩
  · exact vb (x := f) (N := 8) 8 (by decide) hf.1 (by clear ih hq hHa hTo hm hz; grind)
  refine ⟨fun (c1 : ((200 * f) + (I 76 ((f).toNatClampNeg))) ≤ t) => ?_, fun (c1 : ¬ ((200 * f) + (I 76 ((f).toNatClampNeg))) ≤ t) => ?_⟩
  · change Q (some (.int c)) (z, N, I, L, R)
    rw [upS_ge (Int32.not_lt.mpr c1)] at hq
    exact hq
  · refine ⟨⟨Nat.le_refl _, Nat.le_refl _⟩, ?_⟩
    have hm9 := hm f hf.1 hf.2
    have hts := tsub ⟨hf.1, Int32.lt_of_lt_of_le hf.2 hc.2⟩ hm9 h0 (Int32.not_le.mp (by assumption))
    have hz9 := hz f (t - 200 * f) hf.1 hf.2 hts.1.1 hts.1.2
    have hx9 := tix (f := f) (i := t - 200 * f) ⟨hf.1, Int32.lt_of_lt_of_le hf.2 hc.2⟩ ⟨hts.1.1, Int32.lt_of_lt_of_le hts.1.2 hm9.2⟩
    rw [hts.2.1] at hz9 hx9
    refine c_X12_goes (d := d) hHa hTo hs hl hn hx9.1 hz9 fun v1 hgo => ?_
    refine ⟨fun (c2 : ¬ v1 = 0) => ?_, fun (c2 : v1 = 0) => ?_⟩
    · refine ⟨fun (c3 : c < 0) => ?_, fun (c3 : ¬ c < 0) => ?_⟩
      · refine ⟨⟨Nat.le_refl _, Nat.le_refl _⟩, ?_⟩
        refine c_X12_letterAt (d := d + 2) hx9.1 hz9 hp.1 fun v2 hlb => ?_
        have htt : t < (200 * f + (I 76 f.toNatClampNeg)) := Int32.not_le.mp c1
        have e9 : gKr (fun t => fGo (fun p => fMy (tLd (I 8) (I 7) (I 6 2) s l p)) (laR (I 75) (I 74) t) (I 75 (t).toNatClampNeg) (I 67 s.toNatClampNeg)) (fun t => laR (I 75) (I 74) t p) t c = .inl v2 := by
          subst hgo
          unfold gKr
          subst hlb
          exact (if_neg (by assumption)).trans (if_neg (by clear ih hq hts hx9 hz9 h0 hHa hTo hm hz; (try subst hla); grind))
        rw [upS_on htt e9] at hq
        exact ih htt _ hts.2.2 hq
      · refine ⟨⟨Nat.le_refl _, Nat.le_refl _⟩, ?_⟩
        refine c_X12_letterAt (d := d + 2) hx9.1 hz9 hp.1 fun v3 hla => ?_
        refine ⟨fun (c4 : v3 = c) => ?_, fun (c4 : ¬ v3 = c) => ?_⟩
        · refine ⟨⟨Nat.le_refl _, Nat.le_refl _⟩, ?_⟩
          refine c_X12_letterAt (d := d + 2) hx9.1 hz9 hp.1 fun v4 hlb => ?_
          have htt : t < (200 * f + (I 76 f.toNatClampNeg)) := Int32.not_le.mp c1
          have e9 : gKr (fun t => fGo (fun p => fMy (tLd (I 8) (I 7) (I 6 2) s l p)) (laR (I 75) (I 74) t) (I 75 (t).toNatClampNeg) (I 67 s.toNatClampNeg)) (fun t => laR (I 75) (I 74) t p) t c = .inl v4 := by
            subst hgo
            unfold gKr
            subst hlb
            exact (if_neg (by assumption)).trans (if_neg (by clear ih hq hts hx9 hz9 h0 hHa hTo hm hz; (try subst hla); grind))
          rw [upS_on htt e9] at hq
          exact ih htt _ hts.2.2 hq
        · change Q (some (.int (-1))) (z, N, I, L, R)
          have htt : t < (200 * f + (I 76 f.toNatClampNeg)) := Int32.not_le.mp c1
          have e9 : gKr (fun t => fGo (fun p => fMy (tLd (I 8) (I 7) (I 6 2) s l p)) (laR (I 75) (I 74) t) (I 75 (t).toNatClampNeg) (I 67 s.toNatClampNeg)) (fun t => laR (I 75) (I 74) t p) t c = .inr (-1) := by
            subst hgo
            subst hla
            unfold gKr
            exact (if_neg (by assumption)).trans (if_pos ⟨Int32.not_lt.mp (by assumption), by assumption⟩)
          rw [upS_out htt e9] at hq
          exact hq
    · have htt : t < (200 * f + (I 76 f.toNatClampNeg)) := Int32.not_le.mp c1
      have e9 : gKr (fun t => fGo (fun p => fMy (tLd (I 8) (I 7) (I 6 2) s l p)) (laR (I 75) (I 74) t) (I 75 (t).toNatClampNeg) (I 67 s.toNatClampNeg)) (fun t => laR (I 75) (I 74) t p) t c = .inl c := by
        subst hgo
        unfold gKr
        exact if_pos (by assumption)
      rw [upS_on htt e9] at hq
      exact ih htt _ hts.2.2 hq
theorem c_X12_carriedOf {d z : Nat} {N : Nat → Nat} {I : Nat → Nat → Int32} {L : Nat → Nat → Int64} {R : Nat → Nat → Option Nat} {Q : qP} {s : Int32} {l : Int32} {p : Int32} {f : Int32} (hHa : RHa (I 6 2) (I 65 1) (I 7) (I 68)) (hTo : RTo (I 8) (I 70) (I 71)) (hs : 0 ≤ s ∧ s < 12) (hl : 0 ≤ l ∧ l < 4) (hn : 1 ≤ I 67 s.toNatClampNeg ∧ I 67 s.toNatClampNeg ≤ 24) (hc : 0 ≤ I 65 2 ∧ I 65 2 ≤ 8) (hm : ∀ f : Int32, 0 ≤ f → f < I 65 2 → 0 ≤ I 76 f.toNatClampNeg ∧ I 76 f.toNatClampNeg ≤ 200) (hz : ∀ f i : Int32, 0 ≤ f → f < I 65 2 → 0 ≤ i → i < I 76 f.toNatClampNeg → 0 ≤ I 75 (200 * f + i).toNatClampNeg ∧ I 75 (200 * f + i).toNatClampNeg ≤ 24) (hf : 0 ≤ f ∧ f < I 65 2) (hp : 0 ≤ p ∧ p < 24) (h : ∀ v : Int32, v = (upS (200 * f + (I 76 f.toNatClampNeg)) (gKr (fun t => fGo (fun p => fMy (tLd (I 8) (I 7) (I 6 2) s l p)) (laR (I 75) (I 74) t) (I 75 (t).toNatClampNeg) (I 67 s.toNatClampNeg)) (fun t => laR (I 75) (I 74) t p)) id (200 * f) (-1)) → Q (some (.int v)) (z, N, I, L, R)) : qWP (d + 5) 203 [.ref 65, .int s, .int l, .int p, .int f] (z, N, I, L, R) Q := by
  refine qWP_of m_X12_carriedOf rfl rfl [(0, .ref 65), (1, .int s), (2, .int l), (3, .int p), (4, .int f)] rfl ?_
  refine qJ_run (qWP_mono _) [11] 400 ?_
  refine qJ_nm (qWP_mono _) [] [(6, .int (200 * f)), (5, .int (-1)), (4, .int f), (3, .int p), (2, .int l), (1, .int s), (0, .ref 65)] rfl rfl rfl ?_
  exact l_X12_carriedOf (d := d) hHa hTo hs hl hn hc hm hz hf hp (200 * f) (-1) (Int32.le_refl _) (h _ rfl)
theorem c_X12_carried {d z : Nat} {N : Nat → Nat} {I : Nat → Nat → Int32} {L : Nat → Nat → Int64} {R : Nat → Nat → Option Nat} {Q : qP} {s : Int32} {l : Int32} {p : Int32} {f : Int32} (hs : 0 ≤ I 65 0 ∧ I 65 0 ≤ 12) (hHa : RHa (I 6 2) (I 65 1) (I 7) (I 68)) (hTo : RTo (I 8) (I 70) (I 71)) (hl : ∀ x : Int32, 0 ≤ x → x < I 65 0 → (1 ≤ I 66 x.toNatClampNeg ∧ I 66 x.toNatClampNeg ≤ 4) ∧ 1 ≤ I 67 x.toNatClampNeg ∧ I 67 x.toNatClampNeg ≤ 24) (hc : 0 ≤ I 65 2 ∧ I 65 2 ≤ 8) (hm : ∀ f : Int32, 0 ≤ f → f < I 65 2 → 0 ≤ I 76 f.toNatClampNeg ∧ I 76 f.toNatClampNeg ≤ 200) (hz : ∀ f i : Int32, 0 ≤ f → f < I 65 2 → 0 ≤ i → i < I 76 f.toNatClampNeg → 0 ≤ I 75 (200 * f + i).toNatClampNeg ∧ I 75 (200 * f + i).toNatClampNeg ≤ 24) (h : ∀ v : Int32, v = (if ((0 ≤ f ∧ f < I 65 2) ∧ ((0 ≤ s ∧ s < I 65 0) ∧ 0 ≤ l ∧ l < I 66 s.toNatClampNeg) ∧ 0 ≤ p ∧ p < I 67 s.toNatClampNeg) then (upS (200 * f + (I 76 f.toNatClampNeg)) (gKr (fun t => fGo (fun p => fMy (tLd (I 8) (I 7) (I 6 2) s l p)) (laR (I 75) (I 74) t) (I 75 (t).toNatClampNeg) (I 67 s.toNatClampNeg)) (fun t => laR (I 75) (I 74) t p)) id (200 * f) (-1)) else -2) → Q (some (.int v)) (z, N, I, L, R)) : qWP (d + 6) 204 [.ref 65, .int s, .int l, .int p, .int f] (z, N, I, L, R) Q := by
  refine qWP_of m_X12_carried rfl rfl [(0, .ref 65), (1, .int s), (2, .int l), (3, .int p), (4, .int f)] rfl ?_
  refine qJ_run (qWP_mono _) [] 400 ?_
  refine ⟨⟨Nat.le_refl _, Nat.le_refl _⟩, ?_⟩
  refine c_X12_isPlace hs fun v1 hv1 => ?_
  refine ⟨fun (c1 : v1 = 0) => ?_, fun (c1 : ¬ v1 = 0) => ?_⟩
  · change Q (some (.int (-2))) (z, N, I, L, R)
    exact h _ (if_neg (by clear h hHa hTo hm hz hl; grind)).symm
  · refine ⟨⟨Nat.le_refl _, Nat.le_refl _⟩, ?_⟩
    refine c_X12_isFormula fun v2 hv2 => ?_
    refine ⟨fun (c2 : v2 = 0) => ?_, fun (c2 : ¬ v2 = 0) => ?_⟩
    · change Q (some (.int (-2))) (z, N, I, L, R)
      exact h _ (if_neg (by clear h hHa hTo hm hz hl; grind)).symm
    · refine ⟨⟨Nat.le_refl _, Nat.le_refl _⟩, ?_⟩
      have hg : ((0 ≤ f ∧ f < I 65 2) ∧ (0 ≤ s ∧ s < I 65 0) ∧ 0 ≤ l ∧ l < I 66 s.toNatClampNeg) := by clear h hHa hTo hm hz hl; grind
      have hls := hl s hg.2.1.1 hg.2.1.2
      have ha : 0 ≤ s ∧ s < 12 := ⟨hg.2.1.1, Int32.lt_of_lt_of_le hg.2.1.2 hs.2⟩
      have hb : 0 ≤ l ∧ l < 4 := ⟨hg.2.2.1, Int32.lt_of_lt_of_le hg.2.2.2 hls.1.2⟩
      have hp9 : 0 ≤ p ∧ p < I 67 s.toNatClampNeg := by clear h hHa hTo hm hz hl; grind
      refine c_X12_carriedOf (d := d) hHa hTo ha hb hls.2 hc hm hz hg.1 ⟨hp9.1, Int32.lt_of_lt_of_le hp9.2 hls.2.2⟩ fun v3 hv3 => ?_
      change Q (some (.int v3)) (z, N, I, L, R)
      exact h _ (hv3.trans (if_pos ⟨hg.1, hg.2, hp9⟩).symm)
theorem l_X12_fits {d z : Nat} {N : Nat → Nat} {I : Nat → Nat → Int32} {L : Nat → Nat → Int64} {R : Nat → Nat → Option Nat} {Q : qP} {s l : Int32} (hHa : RHa (I 6 2) (I 65 1) (I 7) (I 68)) (hTo : RTo (I 8) (I 70) (I 71)) (hs : 0 ≤ s ∧ s < 12) (hl : 0 ≤ l ∧ l < 4) (hn : 1 ≤ I 67 s.toNatClampNeg ∧ I 67 s.toNatClampNeg ≤ 24) (hc : 0 ≤ I 65 2 ∧ I 65 2 ≤ 8) (hm : ∀ f : Int32, 0 ≤ f → f < I 65 2 → 0 ≤ I 76 f.toNatClampNeg ∧ I 76 f.toNatClampNeg ≤ 200) (hz : ∀ f i : Int32, 0 ≤ f → f < I 65 2 → 0 ≤ i → i < I 76 f.toNatClampNeg → 0 ≤ I 75 (200 * f + i).toNatClampNeg ∧ I 75 (200 * f + i).toNatClampNeg ≤ 24) : ∀ (f : Int32), ∀ x : Int32, 0 ≤ f → x = -1 → Q (some (.int (upS (I 65 2) (gFi (fun f => (upF (I 76 f.toNatClampNeg) (gCr (fun i => fGo (fun p => fMy (tLd (I 8) (I 7) (I 6 2) s l p)) (laR (I 75) (I 74) (200 * f + i)) (I 75 ((200 * f + i)).toNatClampNeg) (I 67 s.toNatClampNeg))) 0 0))) id f x))) (z, N, I, L, R) → qJ m_X12_fits (qWP (d + 5)) Q 14 [(3, .int f), (2, .int l), (1, .int s), (0, .ref 65)] [] 0 0 (z, N, I, L, R) := by
  refine up_ind (I 65 2) fun f ih => ?_
  intro x h0 hx hq
  refine qJ_run (qWP_mono _) [14] 400 ?_
  refine ⟨fun (c1 : (I 65 2) ≤ f) => ?_, fun (c1 : ¬ (I 65 2) ≤ f) => ?_⟩
  · change Q (some (.int (-1))) (z, N, I, L, R)
    rw [upS_ge (Int32.not_lt.mpr c1)] at hq
    subst hx
    exact hq
  · refine ⟨⟨Nat.le_refl _, Nat.le_refl _⟩, ?_⟩
    refine c_X12_waysOf (d := d) hHa hTo hs hl hn hc hm hz ⟨h0, Int32.not_le.mp (by assumption)⟩ fun v1 hwo => ?_
    refine ⟨fun (c2 : v1 ≤ 0) => ?_, fun (c2 : ¬ v1 ≤ 0) => ?_⟩
    · have hff : f < I 65 2 := Int32.not_le.mp c1
      have e9 : gFi (fun f => (upF (I 76 f.toNatClampNeg) (gCr (fun i => fGo (fun p => fMy (tLd (I 8) (I 7) (I 6 2) s l p)) (laR (I 75) (I 74) (200 * f + i)) (I 75 ((200 * f + i)).toNatClampNeg) (I 67 s.toNatClampNeg))) 0 0)) f x = .inl (-1) := by
        subst hwo
        unfold gFi
        exact if_neg (Int32.not_lt.mpr (by assumption))
      rw [upS_on hff e9] at hq
      exact ih hff _ (by clear ih hq hHa hTo hm hz; grind) rfl hq
    · change Q (some (.int f)) (z, N, I, L, R)
      have hff : f < I 65 2 := Int32.not_le.mp c1
      have e9 : gFi (fun f => (upF (I 76 f.toNatClampNeg) (gCr (fun i => fGo (fun p => fMy (tLd (I 8) (I 7) (I 6 2) s l p)) (laR (I 75) (I 74) (200 * f + i)) (I 75 ((200 * f + i)).toNatClampNeg) (I 67 s.toNatClampNeg))) 0 0)) f x = .inr f := by
        subst hwo
        unfold gFi
        exact if_pos (Int32.not_le.mp (by assumption))
      rw [upS_out hff e9] at hq
      exact hq
theorem c_X12_fits {d z : Nat} {N : Nat → Nat} {I : Nat → Nat → Int32} {L : Nat → Nat → Int64} {R : Nat → Nat → Option Nat} {Q : qP} {s : Int32} {l : Int32} (hs : 0 ≤ I 65 0 ∧ I 65 0 ≤ 12) (hHa : RHa (I 6 2) (I 65 1) (I 7) (I 68)) (hTo : RTo (I 8) (I 70) (I 71)) (hl : ∀ x : Int32, 0 ≤ x → x < I 65 0 → (1 ≤ I 66 x.toNatClampNeg ∧ I 66 x.toNatClampNeg ≤ 4) ∧ 1 ≤ I 67 x.toNatClampNeg ∧ I 67 x.toNatClampNeg ≤ 24) (hc : 0 ≤ I 65 2 ∧ I 65 2 ≤ 8) (hm : ∀ f : Int32, 0 ≤ f → f < I 65 2 → 0 ≤ I 76 f.toNatClampNeg ∧ I 76 f.toNatClampNeg ≤ 200) (hz : ∀ f i : Int32, 0 ≤ f → f < I 65 2 → 0 ≤ i → i < I 76 f.toNatClampNeg → 0 ≤ I 75 (200 * f + i).toNatClampNeg ∧ I 75 (200 * f + i).toNatClampNeg ≤ 24) (h : ∀ v : Int32, v = (if ((0 ≤ s ∧ s < I 65 0) ∧ 0 ≤ l ∧ l < I 66 s.toNatClampNeg) then upS (I 65 2) (gFi (fun f => (upF (I 76 f.toNatClampNeg) (gCr (fun i => fGo (fun p => fMy (tLd (I 8) (I 7) (I 6 2) s l p)) (laR (I 75) (I 74) (200 * f + i)) (I 75 ((200 * f + i)).toNatClampNeg) (I 67 s.toNatClampNeg))) 0 0))) id 0 (-1) else -2) → Q (some (.int v)) (z, N, I, L, R)) : qWP (d + 6) 205 [.ref 65, .int s, .int l] (z, N, I, L, R) Q := by
  refine qWP_of m_X12_fits rfl rfl [(0, .ref 65), (1, .int s), (2, .int l)] rfl ?_
  refine qJ_run (qWP_mono _) [14] 400 ?_
  refine ⟨⟨Nat.le_refl _, Nat.le_refl _⟩, ?_⟩
  refine c_X12_isLine hs fun v1 hv1 => ?_
  refine ⟨fun (c1 : ¬ v1 = 0) => ?_, fun (c1 : v1 = 0) => ?_⟩
  · refine qJ_nm (qWP_mono _) [] [(3, .int 0), (2, .int l), (1, .int s), (0, .ref 65)] rfl rfl rfl ?_
    have hg : ((0 ≤ s ∧ s < I 65 0) ∧ 0 ≤ l ∧ l < I 66 s.toNatClampNeg) := by clear h hHa hTo hm hz hl; grind
    have hls := hl s hg.1.1 hg.1.2
    exact l_X12_fits (d := d) hHa hTo ⟨hg.1.1, Int32.lt_of_lt_of_le hg.1.2 hs.2⟩ ⟨hg.2.1, Int32.lt_of_lt_of_le hg.2.2 hls.1.2⟩ hls.2 hc hm hz 0 (-1) (by decide) rfl (h _ (if_pos hg).symm)
  · change Q (some (.int (-2))) (z, N, I, L, R)
    exact h _ (if_neg (by clear h hHa hTo hm hz hl; grind)).symm
