/-! a line through a chain of stones: the reference -/
def chP (n0 : Int32) (rt n : Nat → Int32) (mf : Int32 → Int32 → Int32) (T : Int32 → Int32) (M : Int32 → Int32 → Int32) : Prop := (∀ x : Int32, x < 0 → T x = 0) ∧ (∀ x : Int32, 0 ≤ x → x < n0 → T x = n x.toNatClampNeg + T (rt x.toNatClampNeg) ∧ 0 ≤ T (rt x.toNatClampNeg) ∧ T (rt x.toNatClampNeg) ≤ 300) ∧ ∀ x k : Int32, 0 ≤ x → x < n0 → (k < n x.toNatClampNeg → M x k = mf x k) ∧ (¬ k < n x.toNatClampNeg → M x k = M (rt x.toNatClampNeg) (k - n x.toNatClampNeg))
theorem l_X12_goes2 {d z : Nat} {N : Nat → Nat} {I : Nat → Nat → Int32} {L : Nat → Nat → Int64} {R : Nat → Nat → Option Nat} {Q : qP} {t s l c a y TT : Int32} {mk : Int32 → Int32} (hHa : RHa (I 6 2) (I 65 1) (I 7) (I 68)) (hTo : RTo (I 8) (I 70) (I 71)) (hl : 0 ≤ l ∧ l < 4) (ht : 0 ≤ t ∧ t < 1600) (hs75 : 0 ≤ I 75 t.toNatClampNeg ∧ I 75 t.toNatClampNeg ≤ 24) (hc : 0 ≤ c ∧ c < 12) (hn : 1 ≤ (I 67 c.toNatClampNeg) ∧ (I 67 c.toNatClampNeg) ≤ 24) (ha : 0 ≤ a ∧ a ≤ 300) (hT : TT = a + (I 67 c.toNatClampNeg) + y) (hy : 0 ≤ y ∧ y ≤ 300) (hmk : ∀ j : Int32, 0 ≤ j → j < (I 67 c.toNatClampNeg) → mk (a + j) = fMy (tLd (I 8) (I 7) (I 6 2) c l j)) (hout : Q (some (.int ((upS TT (gGo mk (laR (I 75) (I 74) t)) (fun _ => if I 75 t.toNatClampNeg ≤ TT then 1 else 0) (a + (I 67 c.toNatClampNeg)) 1)))) (z, N, I, L, R) → qJ m_X12_goes (qWP (d + 3)) Q 6 [(6, .int (I 78 c.toNatClampNeg)), (5, .int (a + (I 67 c.toNatClampNeg))), (4, .int 1), (3, .int l), (2, .int s), (1, .int t), (0, .ref 65)] [] 0 0 (z, N, I, L, R)) : ∀ (p k : Int32), 0 ≤ p → p ≤ (I 67 c.toNatClampNeg) → k = a + p → Q (some (.int ((upS TT (gGo mk (laR (I 75) (I 74) t)) (fun _ => if I 75 t.toNatClampNeg ≤ TT then 1 else 0) k 1)))) (z, N, I, L, R) → qJ m_X12_goes (qWP (d + 3)) Q 14 [(7, .int p), (6, .int c), (5, .int k), (4, .int 1), (3, .int l), (2, .int s), (1, .int t), (0, .ref 65)] [] 0 0 (z, N, I, L, R) := by
  refine up_ind (I 67 c.toNatClampNeg) fun p ih => ?_
  intro k h0 h1 hk hq
  refine qJ_run (qWP_mono _) [6, 14] 400 ?_
  refine ⟨?_, ?_⟩
  · exact vb (x := c) (N := 12) 12 (by decide) hc.1 hc.2
  refine ⟨fun (c1 : (I 67 ((c).toNatClampNeg)) ≤ p) => ?_, fun (c1 : ¬ (I 67 ((c).toNatClampNeg)) ≤ p) => ?_⟩
  · refine ⟨fun h => absurd h (by decide), fun _ => ?_⟩
    refine ⟨?_, ?_⟩
    · exact vb (x := c) (N := 12) 12 (by decide) hc.1 hc.2
    refine qJ_nm (qWP_mono _) [(7, _)] [(6, .int (I 78 ((c).toNatClampNeg))), (5, .int k), (4, .int 1), (3, .int l), (2, .int s), (1, .int t), (0, .ref 65)] rfl rfl rfl ?_
    have hp : p = (I 67 c.toNatClampNeg) := by clear ih hq hout hHa hTo hmk hs75 ht; grind
    rw [hk, hp] at hq ⊢
    exact hout hq
  · refine ⟨⟨Nat.le_refl _, Nat.le_refl _⟩, ?_⟩
    have hp9 : p < (I 67 c.toNatClampNeg) := by clear ih hq hout hHa hTo hmk hs75 ht; grind
    refine c_X12_mayOf (d := d) hHa hTo ⟨hc, hl, h0, Int32.lt_of_lt_of_le hp9 hn.2⟩ fun v1 hmv => ?_
    refine ⟨⟨Nat.le_refl _, Nat.le_refl _⟩, ?_⟩
    refine c_X12_letterAt (d := d + 1) ht hs75 (show 0 ≤ k by clear ih hq hout hHa hTo hmk hs75 ht; grind) fun v2 hla => ?_
    refine ⟨fun (c2 : ¬ ((v1 >>> (v2 &&& 31)) &&& 1) = 0) => ?_, fun (c2 : ((v1 >>> (v2 &&& 31)) &&& 1) = 0) => ?_⟩
    · refine qJ_nm (qWP_mono _) [] [(7, .int (p + 1)), (6, .int c), (5, .int (k + 1)), (4, .int 1), (3, .int l), (2, .int s), (1, .int t), (0, .ref 65)] rfl rfl rfl ?_
      have hp : p < (I 67 c.toNatClampNeg) := Int32.not_le.mp c1
      have hkT : k < TT := by clear ih hq hout hHa hTo hmk hs75 ht; grind
      have e9 : gGo mk (laR (I 75) (I 74) t) k 1 = .inl 1 := by
        have e8 := hmk p h0 hp
        rw [← hk] at e8
        subst hmv hla
        unfold gGo
        rw [e8]
        exact if_neg (by assumption)
      rw [upS_on hkT e9] at hq
      exact ih hp _ (by clear ih hq hout hHa hTo hmk hs75 ht; grind) (by clear ih hq hout hHa hTo hmk hs75 ht; grind) (by clear ih hq hout hHa hTo hmk hs75 ht; grind) hq
    · refine ⟨by first | exact Or.inl rfl | exact Or.inr rfl | (clear ih hq hout hHa hTo hmk hs75 ht; grind), ?_⟩
      change Q (some (.int 0)) (z, N, I, L, R)
      have hp : p < (I 67 c.toNatClampNeg) := Int32.not_le.mp c1
      have hkT : k < TT := by clear ih hq hout hHa hTo hmk hs75 ht; grind
      have e9 : gGo mk (laR (I 75) (I 74) t) k 1 = .inr 0 := by
        have e8 := hmk p h0 hp
        rw [← hk] at e8
        subst hmv hla
        unfold gGo
        rw [e8]
        exact if_pos (by assumption)
      rw [upS_out hkT e9] at hq
      exact hq
theorem l_X12_goes1 {d z : Nat} {N : Nat → Nat} {I : Nat → Nat → Int32} {L : Nat → Nat → Int64} {R : Nat → Nat → Option Nat} {Q : qP} {t TT : Int32} {mk : Int32 → Int32} {s l : Int32} (hHa : RHa (I 6 2) (I 65 1) (I 7) (I 68)) (hTo : RTo (I 8) (I 70) (I 71)) (hs : 0 ≤ I 65 0 ∧ I 65 0 ≤ 12) (hl : 0 ≤ l ∧ l < 4) {r : Nat → Nat} (hr : ∀ x : Int32, 0 ≤ x → x < I 65 0 → 0 ≤ I 78 x.toNatClampNeg → I 78 x.toNatClampNeg < I 65 0 ∧ r x.toNatClampNeg = r (I 78 x.toNatClampNeg).toNatClampNeg + 1) (hr12 : ∀ x : Int32, 0 ≤ x → x < I 65 0 → r x.toNatClampNeg < 12) (hn : ∀ x : Int32, 0 ≤ x → x < I 65 0 → 1 ≤ I 67 x.toNatClampNeg ∧ I 67 x.toNatClampNeg ≤ 24) {T : Int32 → Int32} {M : Int32 → Int32 → Int32} (hch : chP (I 65 0) (I 78) (I 67) (fun s k => fMy (tLd (I 8) (I 7) (I 6 2) s l k)) T M) (ht : 0 ≤ t ∧ t < 1600) (hs75 : 0 ≤ I 75 t.toNatClampNeg ∧ I 75 t.toNatClampNeg ≤ 24) (hTT : TT ≤ 300) : ∀ (m : Nat) (c k : Int32), (c < 0 ∨ (0 ≤ c ∧ c < I 65 0 ∧ r c.toNatClampNeg < m)) → 0 ≤ k → k ≤ TT → TT = k + T c → (∀ j : Int32, 0 ≤ j → j < T c → mk (k + j) = M c j) → Q (some (.int ((upS TT (gGo mk (laR (I 75) (I 74) t)) (fun _ => if I 75 t.toNatClampNeg ≤ TT then 1 else 0) k 1)))) (z, N, I, L, R) → qJ m_X12_goes (qWP (d + 3)) Q 6 [(6, .int c), (5, .int k), (4, .int 1), (3, .int l), (2, .int s), (1, .int t), (0, .ref 65)] [] 0 0 (z, N, I, L, R) := by
  refine nat_ind fun m ih => ?_
  intro c k hc h0 h1 hT hmk hq
  refine qJ_run (qWP_mono _) [6, 14] 400 ?_
  refine ⟨fun (c1 : c < 0) => ?_, fun (c1 : ¬ c < 0) => ?_⟩
  · refine ⟨?_, ?_⟩
    · exact vb (N := 1600) 1600 (by decide) ht.1 ht.2
    refine ⟨fun (c2 : k < (I 75 ((t).toNatClampNeg))) => ?_, fun (c2 : ¬ k < (I 75 ((t).toNatClampNeg))) => ?_⟩
    · refine ⟨by first | exact Or.inl rfl | exact Or.inr rfl | (clear ih hq hch hr hr12 hHa hTo hmk hs75 ht; grind), ?_⟩
      change Q (some (.int 0)) (z, N, I, L, R)
      have e0 := hch.1 c (by assumption)
      rw [e0, Int32.add_zero] at hT
      rw [upS_ge (by rw [hT]; exact Int32.not_lt.mpr (Int32.le_refl _))] at hq
      rw [if_neg (by rw [hT]; clear ih hq hch hr hr12 hHa hTo hmk hs75 ht; grind)] at hq
      exact hq
    · refine ⟨by first | exact Or.inl rfl | exact Or.inr rfl | (clear ih hq hch hr hr12 hHa hTo hmk hs75 ht; grind), ?_⟩
      change Q (some (.int 1)) (z, N, I, L, R)
      have e0 := hch.1 c (by assumption)
      rw [e0, Int32.add_zero] at hT
      rw [upS_ge (by rw [hT]; exact Int32.not_lt.mpr (Int32.le_refl _))] at hq
      rw [if_pos (by rw [hT]; clear ih hq hch hr hr12 hHa hTo hmk hs75 ht; grind)] at hq
      exact hq
  · have hc2 : 0 ≤ c ∧ c < I 65 0 ∧ r c.toNatClampNeg < m := hc.resolve_left (by assumption)
    obtain ⟨q, rfl⟩ : ∃ q, m = q + 1 := ⟨m - 1, by omega⟩
    have hnn := hn c hc2.1 hc2.2.1
    have g := hch.2.1 c hc2.1 hc2.2.1
    have e1 : TT = k + I 67 c.toNatClampNeg + T (I 78 c.toNatClampNeg) := by rw [hT, g.1, Int32.add_assoc]
    refine l_X12_goes2 (d := d) (TT := TT) (mk := mk) (y := T (I 78 c.toNatClampNeg)) hHa hTo hl ht hs75 ⟨hc2.1, Int32.lt_of_lt_of_le hc2.2.1 hs.2⟩ hnn ⟨h0, Int32.le_trans h1 hTT⟩ e1 ⟨g.2.1, g.2.2⟩ (fun j j0 j1 => ?_) (fun hq2 => ?_) 0 k (by decide) (by clear ih hq hch hr hr12 hHa hTo hmk hs75 ht; grind) (Int32.add_zero k).symm hq
    · rw [hmk j j0 (by rw [g.1]; clear ih hq hch hr hr12 hHa hTo hmk hs75 ht; grind)]
      exact (hch.2.2 c j hc2.1 hc2.2.1).1 j1
    · refine ih q rfl _ _ ?_ (by clear ih hq hq2 hch hr hr12 hHa hTo hmk hs75 ht; grind) (by clear ih hq hq2 hch hr hr12 hHa hTo hmk hs75 ht; grind) e1 (fun j j0 j1 => ?_) hq2
      · by_cases h9 : 0 ≤ I 78 c.toNatClampNeg
        · exact Or.inr ⟨h9, (hr c hc2.1 hc2.2.1 h9).1, by have := (hr c hc2.1 hc2.2.1 h9).2; omega⟩
        · exact Or.inl (Int32.not_le.mp h9)
      · have h8 := hmk (I 67 c.toNatClampNeg + j) (by clear ih hq hq2 hch hr hr12 hHa hTo hmk hs75 ht; grind) (by rw [g.1]; clear ih hq hq2 hch hr hr12 hHa hTo hmk hs75 ht; grind)
        rw [← Int32.add_assoc] at h8
        rw [h8, (hch.2.2 c (I 67 c.toNatClampNeg + j) hc2.1 hc2.2.1).2 (by clear ih hq hq2 hch hr hr12 hHa hTo hmk hs75 ht; grind)]
        congr 1
        clear ih hq hq2 hch hr hr12 hHa hTo hmk hs75 ht; grind
theorem c_X12_goesW {d z : Nat} {N : Nat → Nat} {I : Nat → Nat → Int32} {L : Nat → Nat → Int64} {R : Nat → Nat → Option Nat} {Q : qP} {t : Int32} {s : Int32} {l : Int32} (hHa : RHa (I 6 2) (I 65 1) (I 7) (I 68)) (hTo : RTo (I 8) (I 70) (I 71)) (hs : 0 ≤ I 65 0 ∧ I 65 0 ≤ 12) (hl : 0 ≤ l ∧ l < 4) {r : Nat → Nat} (hr : ∀ x : Int32, 0 ≤ x → x < I 65 0 → 0 ≤ I 78 x.toNatClampNeg → I 78 x.toNatClampNeg < I 65 0 ∧ r x.toNatClampNeg = r (I 78 x.toNatClampNeg).toNatClampNeg + 1) (hr12 : ∀ x : Int32, 0 ≤ x → x < I 65 0 → r x.toNatClampNeg < 12) (hn : ∀ x : Int32, 0 ≤ x → x < I 65 0 → 1 ≤ I 67 x.toNatClampNeg ∧ I 67 x.toNatClampNeg ≤ 24) {T : Int32 → Int32} {M : Int32 → Int32 → Int32} (hch : chP (I 65 0) (I 78) (I 67) (fun s k => fMy (tLd (I 8) (I 7) (I 6 2) s l k)) T M) (ht : 0 ≤ t ∧ t < 1600) (hs75 : 0 ≤ I 75 t.toNatClampNeg ∧ I 75 t.toNatClampNeg ≤ 24) (hss : 0 ≤ s ∧ s < I 65 0) (hTT : T s ≤ 300) (h : ∀ v : Int32, v = (fGo (M s) (laR (I 75) (I 74) t) (I 75 t.toNatClampNeg) (T s)) → Q (some (.int v)) (z, N, I, L, R)) : qWP (d + 4) 199 [.ref 65, .int t, .int s, .int l, .int 1] (z, N, I, L, R) Q := by
  refine qWP_of m_X12_goes rfl rfl [(0, .ref 65), (1, .int t), (2, .int s), (3, .int l), (4, .int 1)] rfl ?_
  refine qJ_run (qWP_mono _) [6, 14] 400 ?_
  refine qJ_nm (qWP_mono _) [] [(6, .int s), (5, .int 0), (4, .int 1), (3, .int l), (2, .int s), (1, .int t), (0, .ref 65)] rfl rfl rfl ?_
  have g := hch.2.1 s hss.1 hss.2
  have hnn := hn s hss.1 hss.2
  exact l_X12_goes1 (d := d) hHa hTo hs hl hr hr12 hn hch ht hs75 hTT 12 s 0 (Or.inr ⟨hss.1, hss.2, hr12 s hss.1 hss.2⟩) (by decide) (by rw [g.1]; clear h hch hr hr12 hHa hTo; grind) (by grind) (fun j j0 j1 => by rw [show (0 : Int32) + j = j by grind]) (h _ rfl)
