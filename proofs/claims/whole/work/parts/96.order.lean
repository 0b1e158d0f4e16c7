/-! formulas: the reference puts its texts in order -/
theorem ah_iff {K J kx ky : Nat} (h1 : vK K kx) (h2 : vK J ky) (he : ∀ j, j < min kx ky → dg K j = dg J j) : K < J ↔ kx < ky := by
  constructor
  · intro h
    refine Decidable.byContradiction fun h9 => ?_
    obtain ⟨k, k1, k2, k3⟩ := (dg_lex h1.2.1 h2.2.1).mp h
    by_cases hk : k < ky
    · have := he k (by omega); omega
    · rw [(h2.2.2 k k1).2 (by omega)] at k3; omega
  · intro h
    refine (dg_lex h1.2.1 h2.2.1).mpr ⟨kx, by have := h2.1; omega, fun j hj => he j (by omega), ?_⟩
    rw [(h1.2.2 kx (by have := h2.1; omega)).2 (Nat.le_refl _)]
    exact (h2.2.2 kx (by have := h2.1; omega)).1 h |>.1
theorem ah_at {K J kx ky k : Nat} (h1 : vK K kx) (h2 : vK J ky) (he : ∀ j, j < k → dg K j = dg J j) (hk : k < 24) (hn : ¬ dg K k = dg J k) : K < J ↔ dg K k < dg J k := by
  constructor
  · intro h
    obtain ⟨i, i1, i2, i3⟩ := (dg_lex h1.2.1 h2.2.1).mp h
    by_cases e : i = k
    · rw [← e]; exact i3
    · by_cases e2 : i < k
      · have := he i e2; omega
      · exact absurd (i2 k (by omega)) hn
  · intro h
    exact (dg_lex h1.2.1 h2.2.1).mpr ⟨k, hk, he, h⟩
theorem l_X12_isAhead {d z : Nat} {N : Nat → Nat} {I : Nat → Nat → Int32} {L : Nat → Nat → Int64} {R : Nat → Nat → Option Nat} {Q : qP} {x y K J kx ky : Nat} (hx : x < 4000) (hy : y < 4000) (hvx : vK K kx) (hvy : vK J ky) (hlx : I 73 x = nI kx) (hly : I 73 y = nI ky) (hcx : ∀ j, j < kx → I 72 (24 * x + j) = nI (dg K j - 1)) (hcy : ∀ j, j < ky → I 72 (24 * y + j) = nI (dg J j - 1)) (h : Q (some (.int (if K < J then 1 else 0))) (z, N, I, L, R)) : ∀ (q k : Nat), k + q = 24 → (∀ j, j < k → dg K j = dg J j) → k ≤ min kx ky → qJ m_X12_isAhead (qWP (d + 1)) Q 19 [(4, .int (nI k)), (3, .int (nI (min kx ky))), (2, .int (nI y)), (1, .int (nI x)), (0, .ref 65)] [] 0 0 (z, N, I, L, R) := by
  refine nat_ind fun q ih => ?_
  intro k hkq he hkm
  have hx24 := hvx.1
  have hy24 := hvy.1
  refine qJ_run (qWP_mono _) [19] 400 ?_
  refine ⟨fun (c1 : (nI (min kx ky)) ≤ (nI k)) => ?_, fun (c1 : ¬ (nI (min kx ky)) ≤ (nI k)) => ?_⟩
  · have hk2 : ¬ k < min kx ky := fun h9 => by
      have c9 := c1
      rw [nI_leI (by omega) (by omega)] at c9
      omega
    refine ⟨?_, ?_⟩
    · show vp_in (nI x) 4000
      exact vp_in_nI (by omega) (by decide)
    refine ⟨?_, ?_⟩
    · show vp_in (nI y) 4000
      exact vp_in_nI (by omega) (by decide)
    refine ⟨fun (c2 : (I 73 ((nI y).toNatClampNeg)) ≤ (I 73 ((nI x).toNatClampNeg))) => ?_, fun (c2 : ¬ (I 73 ((nI y).toNatClampNeg)) ≤ (I 73 ((nI x).toNatClampNeg))) => ?_⟩
    · refine ⟨by first | exact Or.inl rfl | exact Or.inr rfl | (clear ih h hcx hcy he; grind), ?_⟩
      change Q (some (.int 0)) (z, N, I, L, R)
      have e1 : I 73 (nI x).toNatClampNeg = nI kx := by rw [nI_clamp (by omega)]; exact hlx
      have e2 : I 73 (nI y).toNatClampNeg = nI ky := by rw [nI_clamp (by omega)]; exact hly
      have c9 := c2
      rw [e1, e2] at c9
      have hi := ah_iff hvx hvy (fun j hj => he j (by omega))
      have h9 : ¬ K < J := fun h8 => by
        have := hi.mp h8
        rw [nI_leI (by omega) (by omega)] at c9
        omega
      rw [if_neg h9] at h
      exact h
    · refine ⟨by first | exact Or.inl rfl | exact Or.inr rfl | (clear ih h hcx hcy he; grind), ?_⟩
      change Q (some (.int 1)) (z, N, I, L, R)
      have e1 : I 73 (nI x).toNatClampNeg = nI kx := by rw [nI_clamp (by omega)]; exact hlx
      have e2 : I 73 (nI y).toNatClampNeg = nI ky := by rw [nI_clamp (by omega)]; exact hly
      have c9 := c2
      rw [e1, e2] at c9
      have hi := ah_iff hvx hvy (fun j hj => he j (by omega))
      have h9 : K < J := hi.mpr (Decidable.byContradiction fun h8 => c9 (nI_le (by omega) (by omega)))
      rw [if_pos h9] at h
      exact h
  · have hk2 : k < min kx ky := by
      refine Decidable.byContradiction fun h9 => c1 ?_
      exact nI_le (by omega) (by omega)
    have ex : I 72 (24 * nI x + nI k).toNatClampNeg = nI (dg K k - 1) := by rw [ix24, nI_clamp (by omega)]; exact hcx k (by omega)
    have ey : I 72 (24 * nI y + nI k).toNatClampNeg = nI (dg J k - 1) := by rw [ix24, nI_clamp (by omega)]; exact hcy k (by omega)
    have g1 := (hvx.2.2 k (by omega)).1 (by omega)
    have g2 := (hvy.2.2 k (by omega)).1 (by omega)
    refine ⟨?_, ?_⟩
    · show vp_in ((24 * (nI x)) + (nI k)) 96000
      rw [ix24]
      exact vp_in_nI (by have := hvx.1; have := hvy.1; omega) (by decide)
    refine ⟨?_, ?_⟩
    · show vp_in ((24 * (nI y)) + (nI k)) 96000
      rw [ix24]
      exact vp_in_nI (by have := hvx.1; have := hvy.1; omega) (by decide)
    refine ⟨fun (c3 : (I 72 (((24 * (nI x)) + (nI k)).toNatClampNeg)) = (I 72 (((24 * (nI y)) + (nI k)).toNatClampNeg))) => ?_, fun (c3 : ¬ (I 72 (((24 * (nI x)) + (nI k)).toNatClampNeg)) = (I 72 (((24 * (nI y)) + (nI k)).toNatClampNeg))) => ?_⟩
    · change qJ m_X12_isAhead (qWP _) Q 19 [(4, .int ((nI k) + 1)), (3, .int (nI (min kx ky))), (2, .int (nI y)), (1, .int (nI x)), (0, .ref 65)] [] _ _ (z, N, I, L, R)
      have c9 := c3
      rw [ex, ey, nI_eq (by omega) (by omega)] at c9
      obtain ⟨p, rfl⟩ : ∃ p, q = p + 1 := ⟨q - 1, by omega⟩
      rw [nI_1]
      refine ih p rfl (k + 1) (by omega) (fun j hj => ?_) (by omega)
      by_cases e : j = k
      · rw [e]; omega
      · exact he j (by omega)
    · refine ⟨?_, ?_⟩
      · show vp_in ((24 * (nI x)) + (nI k)) 96000
        rw [ix24]
        exact vp_in_nI (by have := hvx.1; have := hvy.1; omega) (by decide)
      refine ⟨?_, ?_⟩
      · show vp_in ((24 * (nI y)) + (nI k)) 96000
        rw [ix24]
        exact vp_in_nI (by have := hvx.1; have := hvy.1; omega) (by decide)
      refine ⟨fun (c4 : (I 72 (((24 * (nI y)) + (nI k)).toNatClampNeg)) ≤ (I 72 (((24 * (nI x)) + (nI k)).toNatClampNeg))) => ?_, fun (c4 : ¬ (I 72 (((24 * (nI y)) + (nI k)).toNatClampNeg)) ≤ (I 72 (((24 * (nI x)) + (nI k)).toNatClampNeg))) => ?_⟩
      · refine ⟨by first | exact Or.inl rfl | exact Or.inr rfl | (clear ih h hcx hcy he; grind), ?_⟩
        change Q (some (.int 0)) (z, N, I, L, R)
        have hne : ¬ dg K k = dg J k := fun h9 => c3 (by rw [ex, ey, h9])
        have c9 := c4
        rw [ex, ey] at c9
        have hi := ah_at hvx hvy he (by omega) hne
        have h9 : ¬ K < J := fun h8 => by
          have := hi.mp h8
          rw [nI_leI (by omega) (by omega)] at c9
          omega
        rw [if_neg h9] at h
        exact h
      · refine ⟨by first | exact Or.inl rfl | exact Or.inr rfl | (clear ih h hcx hcy he; grind), ?_⟩
        change Q (some (.int 1)) (z, N, I, L, R)
        have hne : ¬ dg K k = dg J k := fun h9 => c3 (by rw [ex, ey, h9])
        have c9 := c4
        rw [ex, ey] at c9
        have hi := ah_at hvx hvy he (by omega) hne
        have h9 : K < J := hi.mpr (Decidable.byContradiction fun h8 => c9 (nI_le (by omega) (by omega)))
        rw [if_pos h9] at h
        exact h
theorem c_X12_isAhead0 {d z : Nat} {N : Nat → Nat} {I : Nat → Nat → Int32} {L : Nat → Nat → Int64} {R : Nat → Nat → Option Nat} {Q : qP} {x y K J kx ky : Nat} (hx : x < 4000) (hy : y < 4000) (hvx : vK K kx) (hvy : vK J ky) (hlx : I 73 x = nI kx) (hly : I 73 y = nI ky) (hcx : ∀ j, j < kx → I 72 (24 * x + j) = nI (dg K j - 1)) (hcy : ∀ j, j < ky → I 72 (24 * y + j) = nI (dg J j - 1)) (h : Q (some (.int (if K < J then 1 else 0))) (z, N, I, L, R)) : qWP (d + 2) 192 [.ref 65, .int (nI x), .int (nI y)] (z, N, I, L, R) Q := by
  refine qWP_of m_X12_isAhead rfl rfl [(0, .ref 65), (1, .int (nI x)), (2, .int (nI y))] rfl ?_
  refine qJ_run (qWP_mono _) [19] 400 ?_
  refine ⟨?_, ?_⟩
  · show vp_in ((nI x)) 4000
    exact vp_in_nI (by omega) (by decide)
  refine ⟨?_, ?_⟩
  · show vp_in ((nI y)) 4000
    exact vp_in_nI (by omega) (by decide)
  refine qJ_nm (qWP_mono _) [] [(4, .int 0), (3, .int (if (I 73 (((nI y)).toNatClampNeg)) < (I 73 (((nI x)).toNatClampNeg)) then (I 73 (((nI y)).toNatClampNeg)) else (I 73 (((nI x)).toNatClampNeg)))), (2, .int (nI y)), (1, .int (nI x)), (0, .ref 65)] rfl rfl rfl ?_
  change qJ m_X12_isAhead (qWP _) Q 19 [(4, .int 0), (3, .int (if (I 73 (((nI y)).toNatClampNeg)) < (I 73 (((nI x)).toNatClampNeg)) then (I 73 (((nI y)).toNatClampNeg)) else (I 73 (((nI x)).toNatClampNeg)))), (2, .int (nI y)), (1, .int (nI x)), (0, .ref 65)] [] _ _ (z, N, I, L, R)
  have e1 : I 73 (nI x).toNatClampNeg = nI kx := by rw [nI_clamp (by omega)]; exact hlx
  have e2 : I 73 (nI y).toNatClampNeg = nI ky := by rw [nI_clamp (by omega)]; exact hly
  have hx24 := hvx.1
  have hy24 := hvy.1
  have em : (if nI ky < nI kx then nI ky else nI kx) = nI (min kx ky) := by
    by_cases h9 : ky < kx
    · rw [if_pos (nI_lt h9 (by omega))]; congr 1; omega
    · rw [if_neg (fun h8 => h9 ((nI_ltI (by omega) (by omega)).mp h8))]; congr 1; omega
  rw [e1, e2, em]
  exact l_X12_isAhead (d := d) hx hy hvx hvy hlx hly hcx hcy h 24 0 (by omega) (fun j hj => absurd hj (by omega)) (Nat.zero_le _)
theorem c_X12_isAhead {d z : Nat} {N : Nat → Nat} {I : Nat → Nat → Int32} {L : Nat → Nat → Int64} {R : Nat → Nat → Option Nat} {Q : qP} {x y K J : Nat} (hx : x < 4000) (hy : y < 4000) (hK : enR I x K) (hJ : enR I y J) (h : Q (some (.int (if K < J then 1 else 0))) (z, N, I, L, R)) : qWP (d + 2) 192 [.ref 65, .int (nI x), .int (nI y)] (z, N, I, L, R) Q := by
  obtain ⟨kx, hvx, hlx, hcx⟩ := hK
  obtain ⟨ky, hvy, hly, hcy⟩ := hJ
  exact c_X12_isAhead0 (d := d) hx hy hvx hvy hlx hly hcx hcy h
def okTx (I : Nat → Nat → Int32) (t K : Nat) : Prop := ∃ k, vK K k ∧ I 75 t = nI k ∧ ∀ j, j < k → I 74 (24 * t + j) = nI (dg K j - 1)
/-- only texts from f on move -/
def frX (I I' : Nat → Nat → Int32) (F : Nat) : Prop := (∀ a, a ≠ 74 → a ≠ 75 → I' a = I a) ∧ (∀ t, (t < 200 * F ∨ 200 * F + 200 ≤ t) → I' 75 t = I 75 t) ∧ ∀ c, (c < 24 * (200 * F) ∨ 24 * (200 * F + 200) ≤ c) → I' 74 c = I 74 c
theorem frX_r {I : Nat → Nat → Int32} {F : Nat} : frX I I F := ⟨fun _ _ _ => rfl, fun _ _ => rfl, fun _ _ => rfl⟩
theorem frX_t {I J K : Nat → Nat → Int32} {F : Nat} (h : frX I J F) (h' : frX J K F) : frX I K F := ⟨fun a h1 h2 => (h'.1 a h1 h2).trans (h.1 a h1 h2), fun t ht => (h'.2.1 t ht).trans (h.2.1 t ht), fun c hc => (h'.2.2 c hc).trans (h.2.2 c hc)⟩
def rkN (m : List Nat) (K : Nat) : Nat := m.countP fun x => decide (x < K)
theorem l_X12_fk {d z : Nat} {N : Nat → Nat} {I : Nat → Nat → Int32} {L : Nat → Nat → Int64} {R : Nat → Nat → Option Nat} {Q : qP} {F x t K kx : Nat} {I0 : Nat → Nat → Int32} (hF : F < 8) (hx : x < 4000) (ht : 200 * F ≤ t ∧ t < 200 * F + 200) (hvx : vK K kx) (hlx : I0 73 x = nI kx) (hcx : ∀ j, j < kx → I0 72 (24 * x + j) = nI (dg K j - 1)) (h : ∀ I', frX I0 I' F → okTx I' t K → (∀ t', t' ≠ t → I' 75 t' = I0 75 t' ∧ ∀ j, j < 24 → I' 74 (24 * t' + j) = I0 74 (24 * t' + j)) → qJ m_X12_formula (qWP (d + 21)) Q 140 [(2, .int (nI (x + 1))), (1, .int (nI F)), (0, .ref 65)] [] 0 0 (z, N, I', L, R)) : ∀ (q k : Nat) (I1 : Nat → Nat → Int32), k + q = kx → (∀ a, a ≠ 74 → a ≠ 75 → I1 a = I0 a) → I1 75 t = nI kx → (∀ t', t' ≠ t → I1 75 t' = I0 75 t') → (∀ j, j < k → I1 74 (24 * t + j) = nI (dg K j - 1)) → (∀ c, (c < 24 * t ∨ 24 * t + 24 ≤ c) → I1 74 c = I0 74 c) → qJ m_X12_formula (qWP (d + 21)) Q 205 [(4, .int (nI k)), (3, .int (nI t)), (2, .int (nI x)), (1, .int (nI F)), (0, .ref 65)] [] 0 0 (z, N, I1, L, R) := by
  refine nat_ind fun q ih => ?_
  intro k I1 hkq f1 f2 f3 f4 f5
  have hx24 := hvx.1
  refine qJ_run (qWP_mono _) [140, 205] 400 ?_
  refine ⟨?_, ?_⟩
  · show vp_in (nI x) 4000
    exact vp_in_nI (by omega) (by decide)
  refine ⟨fun (c1 : (I1 73 ((nI x).toNatClampNeg)) ≤ (nI k)) => ?_, fun (c1 : ¬ (I1 73 ((nI x).toNatClampNeg)) ≤ (nI k)) => ?_⟩
  · have hk2 : ¬ k < kx := fun h9 => by
      have c9 : I1 73 (nI x).toNatClampNeg ≤ nI k := c1
      rw [nI_clamp (by omega), f1 73 (by decide) (by decide), hlx, nI_leI (by omega) (by omega)] at c9
      omega
    refine qJ_nm (qWP_mono _) [(4, _), (3, _)] [(2, .int ((nI x) + 1)), (1, .int (nI F)), (0, .ref 65)] rfl rfl rfl ?_
    change qJ m_X12_formula (qWP _) Q 140 [(2, .int ((nI x) + 1)), (1, .int (nI F)), (0, .ref 65)] [] _ _ (z, N, I1, L, R)
    obtain rfl : k = kx := by omega
    rw [nI_1]
    exact h I1 ⟨f1, fun t' ht' => f3 t' (by omega), fun c hc => f5 c (by omega)⟩ ⟨k, hvx, f2, f4⟩ (fun t' ht' => ⟨f3 t' ht', fun j hj => f5 _ (by omega)⟩)
  · have hk2 : k < kx := by
      refine Decidable.byContradiction fun h9 => c1 ?_
      show I1 73 (nI x).toNatClampNeg ≤ nI k
      rw [nI_clamp (by omega), f1 73 (by decide) (by decide), hlx]
      exact nI_le (by omega) (by omega)
    refine ⟨?_, ?_⟩
    · show vp_in ((24 * (nI x)) + (nI k)) 96000
      rw [ix24]
      exact vp_in_nI (by omega) (by decide)
    refine ⟨?_, ?_⟩
    · show vp_in ((24 * (nI t)) + (nI k)) 38400
      rw [ix24]
      exact vp_in_nI (by omega) (by decide)
    change qJ m_X12_formula (qWP _) Q 205 [(4, .int ((nI k) + 1)), (3, .int (nI t)), (2, .int (nI x)), (1, .int (nI F)), (0, .ref 65)] [] _ _ (z, N, q2 I1 74 (((24 * (nI t)) + (nI k)).toNatClampNeg) (I1 72 (((24 * (nI x)) + (nI k)).toNatClampNeg)), L, R)
    obtain ⟨p, rfl⟩ : ∃ p, q = p + 1 := ⟨q - 1, by omega⟩
    have ex : I1 72 (24 * nI x + nI k).toNatClampNeg = nI (dg K k - 1) := by
      rw [ix24, nI_clamp (by omega), f1 72 (by decide) (by decide)]
      exact hcx k hk2
    rw [ex, ix24, nI_clamp (by omega), nI_1]
    refine ih p rfl (k + 1) _ (by omega) (fun a h1 h2 => by rw [q2_ne h1]; exact f1 a h1 h2) (by rw [q2_ne (by decide)]; exact f2) (fun t' ht' => by rw [q2_ne (by decide)]; exact f3 t' ht') (fun j hj => ?_) (fun c hc => by rw [q2_nj (by omega)]; exact f5 c hc)
    by_cases e : j = k
    · rw [e, q2_at]
    · rw [q2_nj (by omega)]; exact f4 j (by omega)
theorem cnt_tk {m : List Nat} {y K : Nat} (h : y < m.length) : ((m.take (y + 1)).countP fun v => decide (v < K)) = ((m.take y).countP fun v => decide (v < K)) + if m.getD y 0 < K then 1 else 0 := by
  rw [List.take_add_one, List.countP_append, List.getElem?_eq_getElem h, gD h]
  simp only [Option.toList_some, List.countP_cons, List.countP_nil, decide_eq_true_eq, Nat.zero_add]
theorem cnt_le2 {m : List Nat} {y K : Nat} : ((m.take y).countP fun v => decide (v < K)) ≤ m.length := Nat.le_trans List.countP_le_length (by rw [List.length_take]; omega)
theorem l_X12_fy {d z : Nat} {N : Nat → Nat} {I : Nat → Nat → Int32} {L : Nat → Nat → Int64} {R : Nat → Nat → Option Nat} {Q : qP} {F : Nat} (hF : F < 8) {m : List Nat} (hm : m.length ≤ 200) (h15 : I 65 15 = nI m.length) (hs : segR I 0 m) {x : Nat} (hx : x < m.length) (h : ∀ I', frX I I' F → okTx I' (200 * F + rkN m (m.getD x 0)) (m.getD x 0) → (∀ t', t' ≠ 200 * F + rkN m (m.getD x 0) → I' 75 t' = I 75 t' ∧ ∀ j, j < 24 → I' 74 (24 * t' + j) = I 74 (24 * t' + j)) → qJ m_X12_formula (qWP (d + 21)) Q 140 [(2, .int (nI (x + 1))), (1, .int (nI F)), (0, .ref 65)] [] 0 0 (z, N, I', L, R)) (hrk : rkN m (m.getD x 0) < 200) : ∀ (q y : Nat), y + q = m.length → qJ m_X12_formula (qWP (d + 21)) Q 157 [(4, .int (nI y)), (3, .int (nI (200 * F + (m.take y).countP fun v => decide (v < m.getD x 0)))), (2, .int (nI x)), (1, .int (nI F)), (0, .ref 65)] [] 0 0 (z, N, I, L, R) := by
  refine nat_ind fun q ih => ?_
  intro y hyq
  have hcl := cnt_le2 (m := m) (y := y) (K := m.getD x 0)
  refine qJ_run (qWP_mono _) [157, 205] 400 ?_
  refine ⟨fun (c1 : (I 65 15) ≤ (nI y)) => ?_, fun (c1 : ¬ (I 65 15) ≤ (nI y)) => ?_⟩
  · have hy : y = m.length := by
      have c9 := c1
      rw [h15, nI_leI (by omega) (by omega)] at c9
      omega
    refine ⟨?_, ?_⟩
    · show vp_in (nI x) 4000
      exact vp_in_nI (by omega) (by decide)
    refine ⟨?_, ?_⟩
    · show vp_in (nI (200 * F + (m.take y).countP fun v => decide (v < m.getD x 0))) 1600
      rw [hy, List.take_length] at *
      exact vp_in_nI (by unfold rkN at hrk; omega) (by decide)
    change qJ m_X12_formula (qWP _) Q 205 [(4, .int 0), (3, .int (nI (200 * F + (m.take y).countP fun v => decide (v < m.getD x 0)))), (2, .int (nI x)), (1, .int (nI F)), (0, .ref 65)] [] _ _ (z, N, q2 I 75 ((nI (200 * F + (m.take y).countP fun v => decide (v < m.getD x 0))).toNatClampNeg) (I 73 ((nI x).toNatClampNeg)), L, R)
    obtain ⟨kx, v1, v2, v3⟩ := hs x hx
    rw [Nat.zero_add] at v2 v3
    have e1 : I 73 (nI x).toNatClampNeg = nI kx := by rw [nI_clamp (by omega)]; exact v2
    rw [hy, List.take_length] at *
    change qJ m_X12_formula (qWP _) Q 205 [(4, .int 0), (3, .int (nI (200 * F + rkN m (m.getD x 0)))), (2, .int (nI x)), (1, .int (nI F)), (0, .ref 65)] [] _ _ (z, N, q2 I 75 (nI (200 * F + rkN m (m.getD x 0))).toNatClampNeg (I 73 (nI x).toNatClampNeg), L, R)
    rw [e1, nI_clamp (by omega)]
    exact l_X12_fk (d := d) (I := I) (I0 := I) hF (show x < 4000 by omega) (by omega) v1 v2 v3 h kx 0 _ (Nat.zero_add _) (fun a a1 a2 => q2_ne a2) q2_at (fun t' ht' => q2_nj ht') (fun j hj => absurd hj (by omega)) (fun c _ => by rw [q2_ne (by decide)])
  · have hy : y < m.length := by
      refine Decidable.byContradiction fun h9 => c1 ?_
      rw [h15]
      exact nI_le (by omega) (by omega)
    refine ⟨⟨Nat.le_refl _, Nat.le_refl _⟩, ?_⟩
    have hxe := hs x hx
    have hye := hs y hy
    rw [Nat.zero_add] at hxe hye
    refine c_X12_isAhead (d := d + 19) (by omega) (by omega) hye hxe ?_
    refine ⟨fun (c2 : (if m.getD y 0 < m.getD x 0 then 1 else 0) = 0) => ?_, fun (c2 : ¬ (if m.getD y 0 < m.getD x 0 then 1 else 0) = 0) => ?_⟩
    · change qJ m_X12_formula (qWP _) Q 157 [(4, .int ((nI y) + 1)), (3, .int ((nI (200 * F + (m.take y).countP fun v => decide (v < m.getD x 0))) + 0)), (2, .int (nI x)), (1, .int (nI F)), (0, .ref 65)] [] _ _ (z, N, I, L, R)
      have hlt : ¬ m.getD y 0 < m.getD x 0 := fun h9 => by
        have c9 := c2
        rw [if_pos h9] at c9
        exact absurd c9 (by decide)
      obtain ⟨p, rfl⟩ : ∃ p, q = p + 1 := ⟨q - 1, by omega⟩
      have hq9 := ih p rfl (y + 1) (by omega)
      rw [cnt_tk hy, if_neg hlt, ← Nat.add_assoc] at hq9
      rw [nI_1, show (0 : Int32) = nI 0 from rfl, nI_add]
      exact hq9
    · change qJ m_X12_formula (qWP _) Q 157 [(4, .int ((nI y) + 1)), (3, .int ((nI (200 * F + (m.take y).countP fun v => decide (v < m.getD x 0))) + 1)), (2, .int (nI x)), (1, .int (nI F)), (0, .ref 65)] [] _ _ (z, N, I, L, R)
      have hlt : m.getD y 0 < m.getD x 0 := Decidable.byContradiction fun h9 => c2 (if_neg h9)
      obtain ⟨p, rfl⟩ : ∃ p, q = p + 1 := ⟨q - 1, by omega⟩
      have hq9 := ih p rfl (y + 1) (by omega)
      rw [cnt_tk hy, if_pos hlt, ← Nat.add_assoc] at hq9
      rw [nI_1, show (1 : Int32) = nI 1 from rfl, nI_add]
      exact hq9
/-! formulas: the reference's operation -/
theorem rk_of {l m : List Nat} (hs : srt l) (hp : l.Perm m) {x : Nat} (hx : x < m.length) : rkN m (m.getD x 0) < l.length ∧ l.getD (rkN m (m.getD x 0)) 0 = m.getD x 0 := by
  have h1 : m.getD x 0 ∈ l := hp.mem_iff.mpr (by rw [gD hx]; exact List.getElem_mem hx)
  obtain ⟨i, hi, e⟩ := List.mem_iff_getElem.mp h1
  have h2 : rkN m (m.getD x 0) = i := by rw [← e]; exact rank_eq hs hp hi
  rw [h2]
  exact ⟨hi, by rw [gD hi]; exact e⟩
theorem rk_at {l m : List Nat} (hs : srt l) (hp : l.Perm m) {i : Nat} (hi : i < l.length) : ∃ x, x < m.length ∧ m.getD x 0 = l.getD i 0 ∧ rkN m (m.getD x 0) = i := by
  have h1 : l[i] ∈ m := hp.mem_iff.mp (List.getElem_mem hi)
  obtain ⟨x, hx, e⟩ := List.mem_iff_getElem.mp h1
  refine ⟨x, hx, by rw [gD hx, gD hi]; exact e, ?_⟩
  rw [gD hx, e]
  exact rank_eq hs hp hi
theorem l_X12_fx {d z : Nat} {N : Nat → Nat} {I : Nat → Nat → Int32} {L : Nat → Nat → Int64} {R : Nat → Nat → Option Nat} {Q : qP} {F : Nat} (hF : F < 8) {m : List Nat} (hm : m.length ≤ 200) {l : List Nat} (hsl : srt l) (hpl : l.Perm m) {I0 : Nat → Nat → Int32} (h15 : I0 65 15 = nI m.length) (hs : segR I0 0 m) (h : ∀ I', frX I0 I' F → (∀ i, i < l.length → okTx I' (200 * F + i) (l.getD i 0)) → Q (some (.int (nI F))) (z, N, I', L, R)) : ∀ (q x : Nat) (I1 : Nat → Nat → Int32), x + q = m.length → frX I0 I1 F → (∀ x', x' < x → okTx I1 (200 * F + rkN m (m.getD x' 0)) (m.getD x' 0)) → qJ m_X12_formula (qWP (d + 21)) Q 140 [(2, .int (nI x)), (1, .int (nI F)), (0, .ref 65)] [] 0 0 (z, N, I1, L, R) := by
  refine nat_ind fun q ih => ?_
  intro x I1 hxq hfx hok
  have b15 : I1 65 15 = nI m.length := by rw [hfx.1 65 (by decide) (by decide)]; exact h15
  refine qJ_run (qWP_mono _) [140, 157] 400 ?_
  refine ⟨fun (c1 : (I1 65 15) ≤ (nI x)) => ?_, fun (c1 : ¬ (I1 65 15) ≤ (nI x)) => ?_⟩
  · have hx : x = m.length := by
      have c9 := c1
      rw [b15, nI_leI (by omega) (by omega)] at c9
      omega
    change Q (some (.int (nI F))) (z, N, I1, L, R)
    refine h I1 hfx fun i hi => ?_
    obtain ⟨x2, hx2, e1, e2⟩ := rk_at hsl hpl hi
    have := hok x2 (by omega)
    rw [e2, e1] at this
    exact this
  · have hx : x < m.length := by
      refine Decidable.byContradiction fun h9 => c1 ?_
      rw [b15]
      exact nI_le (by omega) (by omega)
    change qJ m_X12_formula (qWP _) Q 157 [(4, .int 0), (3, .int (200 * (nI F))), (2, .int (nI x)), (1, .int (nI F)), (0, .ref 65)] [] _ _ (z, N, I1, L, R)
    obtain ⟨p, rfl⟩ : ∃ p, q = p + 1 := ⟨q - 1, by omega⟩
    have hr := rk_of hsl hpl hx
    have hle := hpl.length_eq
    rw [show 200 * nI F = nI (200 * F + ((m.take 0).countP fun v => decide (v < m.getD x 0))) from pk_mul 200 F]
    refine l_X12_fy (d := d) (I := I1) hF hm b15 (segR_s hs fun i _ => ⟨by rw [hfx.1 73 (by decide) (by decide)], fun j _ => by rw [hfx.1 72 (by decide) (by decide)]⟩) hx (fun I' g1 g2 g3 => ih p rfl (x + 1) I' (by omega) (frX_t hfx g1) fun x' hx' => ?_) (by omega) m.length 0 (Nat.zero_add _)
    by_cases e : rkN m (m.getD x' 0) = rkN m (m.getD x 0)
    · have h1 := (rk_of hsl hpl (show x' < m.length by omega)).2
      rw [e, hr.2] at h1
      rw [← h1]; exact g2
    · obtain ⟨k, v1, v2, v3⟩ := hok x' (by
        by_cases e2 : x' = x
        · exact absurd (by rw [e2]) e
        · omega)
      have g4 := g3 (200 * F + rkN m (m.getD x' 0)) (by omega)
      exact ⟨k, v1, g4.1.trans v2, fun j hj => (g4.2 j (by have := v1.1; omega)).trans (v3 j hj)⟩
def frY (I I' : Nat → Nat → Int32) : Prop := (∀ c, c ≠ 65 → c ≠ 72 → c ≠ 73 → I' c = I c) ∧ (∀ j, j < 15 → j ≠ 6 → I' 65 j = I 65 j) ∧ I' 65 6 = 0
def frZ (I I' : Nat → Nat → Int32) (F : Nat) (l : List Nat) : Prop := (∀ c, c ≠ 65 → c ≠ 72 → c ≠ 73 → c ≠ 74 → c ≠ 75 → c ≠ 76 → I' c = I c) ∧ (∀ j, j < 15 → j ≠ 6 → j ≠ 2 → I' 65 j = I 65 j) ∧ I' 65 6 = 0 ∧ I' 65 2 = nI (F + 1) ∧ I' 76 = uI (I 76) F (nI l.length) ∧ (∀ t, (t < 200 * F ∨ 200 * F + 200 ≤ t) → I' 75 t = I 75 t) ∧ (∀ c, (c < 24 * (200 * F) ∨ 24 * (200 * F + 200) ≤ c) → I' 74 c = I 74 c) ∧ ∀ i, i < l.length → okTx I' (200 * F + i) (l.getD i 0)
theorem fm_n6 {n : Nat} {t : Nat → Int32} {w : Nat} {s : sg} (hwn : w ≤ n) (hwh : w < n → ¬ isWh (t w)) (hen : gEn s = false) (hlv : gLv s = 0) (h1 : ¬ pcT n t w) (h2 : ¬ wdT n t w = 124) (hw : ¬ wdT n t w = 46) : fmR n t w s = .inl w := by
  refine fm_n hwn hen fun h9 => ?_
  have e : wdT n t w = tkA n t w := if_pos h9
  unfold pcT at h1
  rw [e] at h1 h2 hw
  unfold stT
  rw [if_neg (tk_nw (hwh h9)), if_neg (by rw [hen]; decide), if_neg (fun h8 => h1 (Or.inl h8)), if_neg (fun h8 => h1 (by rcases h8 with h8 | h8 <;> simp [h8])), if_neg h2, if_neg hw]
  split
  · rw [if_neg (by omega)]
  · rfl
theorem fm_pt {n : Nat} {t : Nat → Int32} {w : Nat} {s : sg} (hen : gEn s = false) (hlv : gLv s = 0) (hbg : gBg s = true) (hw : wdT n t w = 46) : w < n ∧ nx n t w = w + 1 ∧ fmR n t w s = fmR n t (w + 1) (wEn (eRow s)) := by
  obtain ⟨h1, h2⟩ := wd_lt hw (by decide)
  have h3 : letN n t w = 0 := tkA_l0 h2 (by decide) (by decide)
  refine ⟨h1, by unfold nx; rw [if_pos h1, h3]; rfl, ?_⟩
  have h4 := fm_s (s := s) h1 (s' := wEn (eRow s)) (by rw [h2, stT_K (K' := 0) (by decide), stT_p hen, if_pos ⟨hbg, hlv⟩])
  rw [h3] at h4
  exact h4
theorem fm_en {n : Nat} {t : Nat → Int32} {w : Nat} {s : sg} (hwn : w ≤ n) (hwh : w < n → ¬ isWh (t w)) (hen : gEn s = true) : (¬ wdT n t w = 0 → fmR n t w s = .inl w) ∧ (wdT n t w = 0 → fmR n t w s = .inr s) := by
  by_cases h9 : w < n
  · have hz := tk_nw (n := n) (hwh h9)
    refine ⟨fun _ => fm_f h9 (stT_e hen hz), fun h => ?_⟩
    unfold wdT at h
    rw [if_pos h9] at h
    exact absurd h hz
  · refine ⟨fun h => absurd (if_neg h9) h, fun _ => ?_⟩
    rw [fm_e h9, if_pos hen]
theorem c_X12_formula {d z : Nat} {N : Nat → Nat} {I : Nat → Nat → Int32} {L : Nat → Nat → Int64} {R : Nat → Nat → Option Nat} {Q : qP} {n F : Nat} {b : Nat → Int32} (hT : tpR n b I) (hF : I 65 2 = nI F) (hF8 : F ≤ 8) (h0 : F = 8 → Q (some (.int (-4))) (z, N, I, L, R)) (h1 : ∀ I' f, F < 8 → fmR n b 0 (sLev 0 false sg00) = .inl f → f ≤ n → frY I I' → Q (some (.int (-20 - nI f))) (z, N, I', L, R)) (h2 : ∀ I' s', F < 8 → fmR n b 0 (sLev 0 false sg00) = .inr s' → gSp s' = true → frY I I' → Q (some (.int (-3))) (z, N, I', L, R)) (h3 : ∀ I' s', F < 8 → fmR n b 0 (sLev 0 false sg00) = .inr s' → gSp s' = false → okS (gAl s' 0) → frZ I I' F (gAl s' 0) → Q (some (.int (nI F))) (z, N, I', L, R)) : qWP (d + 22) 193 [.ref 65] (z, N, I, L, R) Q := by
  refine qWP_of m_X12_formula rfl rfl [(0, .ref 65)] rfl ?_
  refine qJ_run (qWP_mono _) [33, 140] 400 ?_
  refine ⟨fun (c1 : ¬ (I 65 2) = 8) => ?_, fun (c1 : (I 65 2) = 8) => ?_⟩
  · have hF7 : F < 8 := by
      refine Nat.lt_of_le_of_ne hF8 fun h9 => c1 ?_
      rw [hF, h9]
      rfl
    refine ⟨?_, ?_⟩
    · first | exact Or.inl rfl | exact Or.inr rfl | (clear h0 h1 h2 h3; grind)
    change qJ m_X12_formula (qWP _) Q 33 [(0, .ref 65)] [.ref 65] _ _ (z, N, q2 (q2 (q2 (q2 I 65 15 0) 65 19 0) 65 20 (-1)) 65 21 0, L, R)
    refine qJ_run (qWP_mono _) [33, 140] 400 ?_
    refine ⟨⟨Nat.le_refl _, Nat.le_refl _⟩, ?_⟩
    obtain ⟨J, eJ⟩ : ∃ J, J = (q2 (q2 (q2 (q2 I 65 15 0) 65 19 0) 65 20 (-1)) 65 21 0) := ⟨_, rfl⟩
    rw [← eJ]
    have j15 : J 65 15 = nI 0 := by rw [eJ, q2_nj (by decide), q2_nj (by decide), q2_nj (by decide), q2_at]; rfl
    have j19 : J 65 19 = nI 0 := by rw [eJ, q2_nj (by decide), q2_nj (by decide), q2_at]; rfl
    have j20 : J 65 20 = -1 := by rw [eJ, q2_nj (by decide), q2_at]
    have j21 : J 65 21 = bI false := by rw [eJ, q2_at]; rfl
    have fJ : frP I J 0 := by rw [eJ]; exact frP_s (frP_s (frP_s (frP_s frP_r (by decide)) (by decide)) (by decide)) (by decide)
    have jT := tpR_P hT fJ
    refine c_X12_token (d := d + 18) (n := n) (p := 0) (b := b) (fun I1 w1 t1 t2 t3 t4 => ?_) jT j19 (Nat.zero_le _)
    refine ⟨⟨Nat.le_refl _, Nat.le_refl _⟩, ?_⟩
    refine qWP_as (as' := [.ref 65, .int (nI 0)]) rfl ?_
    refine qWP_e (show d + 21 = d + 3 * 4 + 9 from rfl) ?_
    refine ok_all 4 0 rfl _ I1 0 w1 (sLev 0 false sg00) (by decide) (cur_19 jT j20 t1 t2) rfl rfl rfl rfl rfl (bnS_19 (bnS_i j21 j15) t2) (fun I2 f sp m k1 k2 k3 k4 k5 k6 => ?_) (fun I2 w2 m s2 a1 hc2 a3 a4 a5 a6 a7 a8 a9 a10 a11 => ?_)
    · have fI2 : frP I I2 0 := frP_t (frP_t fJ (frP_19 t2) (Nat.le_refl _)) k1 (Nat.le_refl _)
      refine br_t (show 0 ≤ (I2 65 20) from by rw [k2]; exact nI_pos' (by have := hT.2.1; omega)) ?_
      refine br_t (show 0 ≤ (I2 65 20) from by rw [k2]; exact nI_pos' (by have := hT.2.1; omega)) ?_
      refine br_f (show ¬ (I2 65 20) < 0 from by rw [k2]; exact nI_pos (by have := hT.2.1; omega)) ?_
      change Q (some (.int ((-20) - (I2 65 20)))) (z, N, q2 I2 65 6 0, L, R)
      rw [k2]
      exact h1 _ f hF7 ((t3 _).trans k4) k3 ⟨fun c c1 c2 c3 => by (repeat rw [q2_ne c1]); exact fI2.1 c c1 c2 c3, fun j j1 j2 => by (repeat rw [q2_nj (by omega)]); exact fI2.2.1 j (by omega), q2_at⟩
    · have fI2 : frP I I2 0 := frP_t (frP_t fJ (frP_19 t2) (Nat.le_refl _)) a1 (Nat.le_refl _)
      have hlv2 : gLv s2 = 0 := a5.1
      have hen2 : gEn s2 = false := a5.2.1
      refine br_f (show ¬ 0 ≤ (I2 65 20) from by rw [hc2.2.1]; decide) ?_
      refine ⟨fun (c6 : (I2 65 16) = 46) => ?_, fun (c6 : ¬ (I2 65 16) = 46) => ?_⟩
      · have h46 : wdT n b w2 = 46 := by rw [← hc2.1.2.2.2.1]; exact c6
        refine br_f (show ¬ 0 ≤ (I2 65 20) from by rw [hc2.2.1]; decide) ?_
        refine ⟨⟨Nat.le_refl _, Nat.le_refl _⟩, ?_⟩
        obtain ⟨o1, o2, o3⟩ := fm_pt hen2 hlv2 a6 h46
        refine c_X12_token (d := d + 18) (n := n) (p := w2 + 1) (b := b) (fun I4 w4 u1 u2 u3 u4 => ?_) hc2.2.2 (by rw [hc2.1.2.2.2.2.2, o2]) (by omega)
        have hE := fm_en (s := wEn (eRow s2)) u1.1 u1.2.1 rfl
        have hfm : fmR n b 0 (sLev 0 false sg00) = fmR n b w4 (wEn (eRow s2)) := (t3 _).trans (a4.trans (o3.trans (u3 _)))
        have f4 : frP I I4 0 := frP_t fI2 (frP_19 u2) (Nat.le_refl _)
        refine ⟨fun (c8 : (I4 65 16) = 0) => ?_, fun (c8 : ¬ (I4 65 16) = 0) => ?_⟩
        · have hz : wdT n b w4 = 0 := by rw [← u1.2.2.2.1]; exact c8
          refine br_t (show (I4 65 20) < 0 from by rw [u2.2 20 (by omega), hc2.2.1]; decide) ?_
          refine ⟨fun (c10 : (I4 65 21) = 0) => ?_, fun (c10 : ¬ (I4 65 21) = 0) => ?_⟩
          · have hsp : gSp (eRow s2) = false := by
              have c9 := c10
              rw [u2.2 21 (by omega), a10.1] at c9
              exact bI_1.mp c9
            refine ⟨?_, ?_⟩
            · show vp_in (I4 65 2) 8
              rw [show I4 65 2 = nI F by rw [f4.2.1 2 (by omega)]; exact hF]
              exact vp_in_nI (by omega) (by decide)
            change qJ m_X12_formula (qWP _) Q 140 [(2, .int 0), (1, .int (I4 65 2)), (0, .ref 65)] [] _ _ (z, N, q2 (q2 (q2 I4 65 6 0) 65 2 ((I4 65 2) + 1)) 76 ((I4 65 2).toNatClampNeg) (I4 65 15), L, R)
            have e2 : I4 65 2 = nI F := by rw [f4.2.1 2 (by omega)]; exact hF
            have bk := a10.2.1 hsp
            have e15 : I4 65 15 = nI m.length := (u2.2 15 (by omega)).trans (by rw [bk.2.1, Nat.zero_add])
            have hpm := a9 hsp
            rw [e2, e15, nI_1, nI_clamp (by omega)]
            refine l_X12_fx (d := d) (I := I) hF7 bk.2.2 hpm.2.2 hpm.1 (I0 := q2 (q2 (q2 I4 65 6 0) 65 2 (nI (F + 1))) 76 F (nI m.length)) (by rw [q2_ne (by decide), q2_nj (by decide), q2_nj (by decide)]; exact e15) (segR_s bk.1 fun i _ => ⟨by rw [q2_ne (by decide), q2_ne (by decide), q2_ne (by decide)]; exact (fr19_E u2).1, fun j hj => by rw [q2_ne (by decide), q2_ne (by decide), q2_ne (by decide)]; exact (fr19_E u2).2 j hj⟩) (fun I' g1 g2 => h3 I' (wEn (eRow s2)) hF7 (hfm.trans (hE.2 hz)) hsp hpm.2.1 ⟨fun c c1 c2 c3 c4 c5 c6 => ?_, fun j j1 j2 j3 => ?_, ?_, ?_, ?_, fun t ht => ?_, fun c hc => ?_, g2⟩) m.length 0 _ (Nat.zero_add _) frX_r (fun x hx => absurd hx (by omega))
            · rw [g1.1 c c4 c5, q2_ne c6, q2_ne c1, q2_ne c1]; exact f4.1 c c1 c2 c3
            · rw [g1.1 65 (by decide) (by decide), q2_ne (by decide), q2_nj j3, q2_nj j2]; exact f4.2.1 j (by omega)
            · rw [g1.1 65 (by decide) (by decide), q2_ne (by decide), q2_nj (by decide), q2_at]
            · rw [g1.1 65 (by decide) (by decide), q2_ne (by decide), q2_at]
            · rw [g1.1 76 (by decide) (by decide), q2_r1, q2_ne (by decide), q2_ne (by decide), f4.1 76 (by decide) (by decide) (by decide)]
              show uI (I 76) F (nI m.length) = uI (I 76) F (nI (gAl (eRow s2) 0).length)
              rw [hpm.1.length_eq]
            · rw [g1.2.1 t ht, q2_ne (by decide), q2_ne (by decide), q2_ne (by decide), f4.1 75 (by decide) (by decide) (by decide)]
            · rw [g1.2.2 c hc, q2_ne (by decide), q2_ne (by decide), q2_ne (by decide), f4.1 74 (by decide) (by decide) (by decide)]
          · have hsp : gSp (eRow s2) = true := by
              have c9 := c10
              rw [u2.2 21 (by omega), a10.1] at c9
              cases e : gSp (eRow s2) with
              | true => rfl
              | false => rw [e] at c9; exact absurd rfl c9
            change Q (some (.int (-3))) (z, N, q2 I4 65 6 0, L, R)
            exact h2 _ (wEn (eRow s2)) hF7 (hfm.trans (hE.2 hz)) hsp ⟨fun c c1 c2 c3 => by (repeat rw [q2_ne c1]); exact f4.1 c c1 c2 c3, fun j j1 j2 => by (repeat rw [q2_nj (by omega)]); exact f4.2.1 j (by omega), q2_at⟩
        · have hz : ¬ wdT n b w4 = 0 := by rw [← u1.2.2.2.1]; exact c8
          refine ⟨⟨Nat.le_refl _, Nat.le_refl _⟩, ?_⟩
          refine c_X12_faults (d := d + 20) (fun h9 => absurd h9 (by rw [u2.2 20 (by omega), hc2.2.1]; decide)) (fun _ => ?_)
          refine br_f (show ¬ (I4 65 17) < 0 from by rw [u1.2.2.1]; exact nI_pos (by have := hT.2.1; have := u1.1; omega)) ?_
          change Q (some (.int ((-20) - (I4 65 17)))) (z, N, q2 (q2 I4 65 20 (I4 65 17)) 65 6 0, L, R)
          rw [u1.2.2.1]
          exact h1 _ w4 hF7 (hfm.trans (hE.1 hz)) u1.1 ⟨fun c c1 c2 c3 => by (repeat rw [q2_ne c1]); exact f4.1 c c1 c2 c3, fun j j1 j2 => by (repeat rw [q2_nj (by omega)]); exact f4.2.1 j (by omega), q2_at⟩
      · have h46 : ¬ wdT n b w2 = 46 := by rw [← hc2.1.2.2.2.1]; exact c6
        refine ⟨⟨Nat.le_refl _, Nat.le_refl _⟩, ?_⟩
        refine c_X12_faults (d := d + 20) (fun h9 => absurd h9 (by rw [hc2.2.1]; decide)) (fun _ => ?_)
        refine br_t (show 0 ≤ (I2 65 17) from by rw [hc2.1.2.2.1]; exact nI_pos' (by have := hT.2.1; have := hc2.1.1; omega)) ?_
        refine br_f (show ¬ (I2 65 17) < 0 from by rw [hc2.1.2.2.1]; exact nI_pos (by have := hT.2.1; have := hc2.1.1; omega)) ?_
        change Q (some (.int ((-20) - (I2 65 17)))) (z, N, q2 (q2 I2 65 20 (I2 65 17)) 65 6 0, L, R)
        rw [hc2.1.2.2.1]
        exact h1 _ w2 hF7 ((t3 _).trans (a4.trans (fm_n6 hc2.1.1 hc2.1.2.1 hen2 hlv2 a7 a8 h46))) hc2.1.1 ⟨fun c c1 c2 c3 => by (repeat rw [q2_ne c1]); exact fI2.1 c c1 c2 c3, fun j j1 j2 => by (repeat rw [q2_nj (by omega)]); exact fI2.2.1 j (by omega), q2_at⟩
  · have hF7 : F = 8 := by
      have c9 := c1
      rw [hF] at c9
      exact (nI_eq (b := 8) (by omega) (by omega)).mp c9
    change Q (some (.int (-4))) (z, N, I, L, R)
    exact h0 hF7
