/-! formulas: the reference's bank -/
def enR (I : Nat → Nat → Int32) (x K : Nat) : Prop := ∃ k, vK K k ∧ I 73 x = nI k ∧ ∀ j, j < k → I 72 (24 * x + j) = nI (dg K j - 1)
def segR (I : Nat → Nat → Int32) (a : Nat) (m : List Nat) : Prop := ∀ i, i < m.length → enR I (a + i) (m.getD i 0)
def sameE (I I' : Nat → Nat → Int32) (y : Nat) : Prop := I' 73 y = I 73 y ∧ ∀ j, j < 24 → I' 72 (24 * y + j) = I 72 (24 * y + j)
theorem enR_s {I I' : Nat → Nat → Int32} {x K : Nat} (h : enR I x K) (hs : sameE I I' x) : enR I' x K := by
  obtain ⟨k, h1, h2, h3⟩ := h
  exact ⟨k, h1, hs.1.trans h2, fun j hj => (hs.2 j (by have := h1.1; omega)).trans (h3 j hj)⟩
theorem segR_s {I I' : Nat → Nat → Int32} {a : Nat} {m : List Nat} (h : segR I a m) (hs : ∀ i, i < m.length → sameE I I' (a + i)) : segR I' a m := fun i hi => enR_s (h i hi) (hs i hi)
theorem sameE_r {I : Nat → Nat → Int32} {y : Nat} : sameE I I y := ⟨rfl, fun _ _ => rfl⟩
theorem sameE_t {I J K : Nat → Nat → Int32} {y : Nat} (h : sameE I J y) (h' : sameE J K y) : sameE I K y := ⟨h'.1.trans h.1, fun j hj => (h'.2 j hj).trans (h.2 j hj)⟩
/-- only how many there are, whether it is spent, and entries from a on -/
def frJ (I I' : Nat → Nat → Int32) (a : Nat) : Prop := (∀ c, c ≠ 65 → c ≠ 72 → c ≠ 73 → I' c = I c) ∧ (∀ j, j ≠ 15 → j ≠ 21 → I' 65 j = I 65 j) ∧ ∀ y, y < a → sameE I I' y
theorem frJ_r {I : Nat → Nat → Int32} {a : Nat} : frJ I I a := ⟨fun _ _ _ _ => rfl, fun _ _ _ => rfl, fun _ _ => sameE_r⟩
theorem frJ_t {I J K : Nat → Nat → Int32} {a a' : Nat} (h : frJ I J a) (h' : frJ J K a') (ha : a ≤ a') : frJ I K a := ⟨fun c h1 h2 h3 => (h'.1 c h1 h2 h3).trans (h.1 c h1 h2 h3), fun j h1 h2 => (h'.2.1 j h1 h2).trans (h.2.1 j h1 h2), fun y hy => sameE_t (h.2.2 y hy) (h'.2.2 y (by omega))⟩
/-- row 65's two fields alone -/
def frK (I I' : Nat → Nat → Int32) : Prop := (∀ c, c ≠ 65 → I' c = I c) ∧ ∀ j, j ≠ 15 → j ≠ 21 → I' 65 j = I 65 j
theorem frK_r {I : Nat → Nat → Int32} : frK I I := ⟨fun _ _ => rfl, fun _ _ _ => rfl⟩
theorem frK_s {I J : Nat → Nat → Int32} {j : Nat} {v : Int32} (h : frK I J) (hj : j = 15 ∨ j = 21) : frK I (q2 J 65 j v) := ⟨fun a ha => by rw [q2_ne ha]; exact h.1 a ha, fun k h1 h2 => by rw [q2_nj (by omega)]; exact h.2 k h1 h2⟩
theorem frK_E {I I' : Nat → Nat → Int32} (h : frK I I') {y : Nat} : sameE I I' y := by
  unfold sameE
  rw [h.1 73 (by decide), h.1 72 (by decide)]
  exact ⟨rfl, fun _ _ => rfl⟩
theorem frK_J {I I' : Nat → Nat → Int32} (h : frK I I') {a : Nat} : frJ I I' a := ⟨fun c h1 _ _ => h.1 c h1, h.2, fun y _ => frK_E h⟩
def cpF (I I' : Nat → Nat → Int32) (t : Nat) : Prop := (∀ a, a ≠ 72 → a ≠ 73 → I' a = I a) ∧ ∀ y, y ≠ t → sameE I I' y
theorem cpF_J {I I' : Nat → Nat → Int32} {t a : Nat} (h : cpF I I' t) (ha : a ≤ t) : frJ I I' a := ⟨fun c h1 h2 h3 => h.1 c h2 h3, fun j _ _ => by rw [h.1 65 (by decide) (by decide)], fun y hy => h.2 y (by omega)⟩
theorem vK_eq {K J k j : Nat} (h1 : vK K k) (h2 : vK J j) : K = J ↔ k = j ∧ ∀ i, i < k → dg K i = dg J i := by
  constructor
  · intro e
    subst e
    exact ⟨vK_n h1 h2, fun _ _ => rfl⟩
  · rintro ⟨e, h⟩
    subst e
    refine dg_ext h1.2.1 h2.2.1 fun i hi => ?_
    by_cases h9 : i < k
    · exact h i h9
    · rw [(h1.2.2 i hi).2 (by omega), (h2.2.2 i hi).2 (by omega)]
theorem dg_c {K J k j i : Nat} (h1 : vK K k) (h2 : vK J j) (hi : i < k) (hj : i < j) : nI (dg K i - 1) = nI (dg J i - 1) ↔ dg K i = dg J i := by
  have a := (h1.2.2 i (by have := h1.1; omega)).1 hi
  have b := (h2.2.2 i (by have := h2.1; omega)).1 hj
  rw [nI_eq (by omega) (by omega)]
  omega
theorem ix24 {x k : Nat} : 24 * nI x + nI k = nI (24 * x + k) := by
  rw [show 24 * nI x = nI (24 * x) from pk_mul 24 x, nI_add]
theorem l_X12_isAlike {d z : Nat} {N : Nat → Nat} {I : Nat → Nat → Int32} {L : Nat → Nat → Int64} {R : Nat → Nat → Option Nat} {Q : qP} {x y K J kx ky : Nat} (hx : x < 4000) (hy : y < 4000) (hvx : vK K kx) (hvy : vK J ky) (hlx : I 73 x = nI kx) (hly : I 73 y = nI ky) (hcx : ∀ j, j < kx → I 72 (24 * x + j) = nI (dg K j - 1)) (hcy : ∀ j, j < ky → I 72 (24 * y + j) = nI (dg J j - 1)) (h : Q (some (.int (if K = J then 1 else 0))) (z, N, I, L, R)) : ∀ (q k : Nat) (v : Int32), k + q = kx → (v = 1 ∧ kx = ky ∧ ∀ j, j < k → dg K j = dg J j) ∨ (v = 0 ∧ ¬ K = J) → qJ m_X12_isAlike (qWP (d + 1)) Q 24 [(4, .int (nI k)), (3, .int v), (2, .int (nI y)), (1, .int (nI x)), (0, .ref 65)] [] 0 0 (z, N, I, L, R) := by
  refine nat_ind fun q ih => ?_
  intro k v hkq hv
  have hx24 := hvx.1
  have hy24 := hvy.1
  have hv1 : v = 0 ∨ v = 1 := by rcases hv with h9 | h9 <;> simp [h9.1]
  refine qJ_run (qWP_mono _) [24] 400 ?_
  refine ⟨?_, ?_⟩
  · show vp_in (nI x) 4000
    exact vp_in_nI (by omega) (by decide)
  refine ⟨fun (c1 : (I 73 ((nI x).toNatClampNeg)) ≤ (nI k)) => ?_, fun (c1 : ¬ (I 73 ((nI x).toNatClampNeg)) ≤ (nI k)) => ?_⟩
  · have hk2 : ¬ k < kx := fun h9 => by
      have c9 : I 73 (nI x).toNatClampNeg ≤ nI k := c1
      rw [nI_clamp (by omega), hlx, nI_leI (by omega) (by omega)] at c9
      omega
    refine ⟨by first | exact Or.inl rfl | exact Or.inr rfl | (clear ih h hcx hcy; grind), ?_⟩
    change Q (some (.int v)) (z, N, I, L, R)
    have e9 : (if K = J then (1 : Int32) else 0) = v := by
      rcases hv with ⟨h1, h2, h3⟩ | ⟨h1, h2⟩
      · rw [if_pos ((vK_eq hvx hvy).mpr ⟨h2, fun i hi => h3 i (by omega)⟩), h1]
      · rw [if_neg h2, h1]
    rw [e9] at h
    exact h
  · have hk2 : k < kx := by
      refine Decidable.byContradiction fun h9 => c1 ?_
      show I 73 (nI x).toNatClampNeg ≤ nI k
      rw [nI_clamp (by omega), hlx]
      exact nI_le (by omega) (by omega)
    refine ⟨fun (c2 : v = 0) => ?_, fun (c2 : ¬ v = 0) => ?_⟩
    · refine ⟨by first | exact Or.inl rfl | exact Or.inr rfl | (clear ih h hcx hcy; grind), ?_⟩
      change Q (some (.int v)) (z, N, I, L, R)
      have e9 : (if K = J then (1 : Int32) else 0) = v := by
        rcases hv with ⟨h1, h2, h3⟩ | ⟨h1, h2⟩
        · exact absurd (c2.symm.trans h1) (by decide)
        · rw [if_neg h2, h1]
      rw [e9] at h
      exact h
    · refine ⟨?_, ?_⟩
      · show vp_in ((24 * (nI x)) + (nI k)) 96000
        rw [ix24]
        exact vp_in_nI (by have := hvx.1; have := hvy.1; omega) (by decide)
      refine ⟨?_, ?_⟩
      · show vp_in ((24 * (nI y)) + (nI k)) 96000
        rw [ix24]
        exact vp_in_nI (by have := hvx.1; have := hvy.1; omega) (by decide)
      refine ⟨fun (c3 : ¬ (I 72 (((24 * (nI x)) + (nI k)).toNatClampNeg)) = (I 72 (((24 * (nI y)) + (nI k)).toNatClampNeg))) => ?_, fun (c3 : (I 72 (((24 * (nI x)) + (nI k)).toNatClampNeg)) = (I 72 (((24 * (nI y)) + (nI k)).toNatClampNeg))) => ?_⟩
      · change qJ m_X12_isAlike (qWP _) Q 24 [(4, .int ((nI k) + 1)), (3, .int 0), (2, .int (nI y)), (1, .int (nI x)), (0, .ref 65)] [] _ _ (z, N, I, L, R)
        have hvv : v = 1 ∧ kx = ky ∧ ∀ j, j < k → dg K j = dg J j := by
          rcases hv with h9 | h9
          · exact h9
          · exact absurd h9.1 (by assumption)
        have ex : I 72 (24 * nI x + nI k).toNatClampNeg = nI (dg K k - 1) := by rw [ix24, nI_clamp (by omega)]; exact hcx k hk2
        have ey : I 72 (24 * nI y + nI k).toNatClampNeg = nI (dg J k - 1) := by rw [ix24, nI_clamp (by omega)]; exact hcy k (by omega)
        have c9 := c3
        rw [ex, ey, dg_c hvx hvy hk2 (by omega)] at c9
        obtain ⟨p, rfl⟩ : ∃ p, q = p + 1 := ⟨q - 1, by omega⟩
        rw [nI_1]
        exact ih p rfl (k + 1) 0 (by omega) (Or.inr ⟨rfl, fun h9 => c9 (by rw [h9])⟩)
      · change qJ m_X12_isAlike (qWP _) Q 24 [(4, .int ((nI k) + 1)), (3, .int 1), (2, .int (nI y)), (1, .int (nI x)), (0, .ref 65)] [] _ _ (z, N, I, L, R)
        have hvv : v = 1 ∧ kx = ky ∧ ∀ j, j < k → dg K j = dg J j := by
          rcases hv with h9 | h9
          · exact h9
          · exact absurd h9.1 (by assumption)
        have ex : I 72 (24 * nI x + nI k).toNatClampNeg = nI (dg K k - 1) := by rw [ix24, nI_clamp (by omega)]; exact hcx k hk2
        have ey : I 72 (24 * nI y + nI k).toNatClampNeg = nI (dg J k - 1) := by rw [ix24, nI_clamp (by omega)]; exact hcy k (by omega)
        have c9 := c3
        rw [ex, ey, dg_c hvx hvy hk2 (by omega)] at c9
        obtain ⟨p, rfl⟩ : ∃ p, q = p + 1 := ⟨q - 1, by omega⟩
        rw [nI_1]
        refine ih p rfl (k + 1) 1 (by omega) (Or.inl ⟨rfl, hvv.2.1, fun j hj => ?_⟩)
        by_cases h9 : j = k
        · rw [h9]; exact c9
        · exact hvv.2.2 j (by omega)
theorem c_X12_isAlike0 {d z : Nat} {N : Nat → Nat} {I : Nat → Nat → Int32} {L : Nat → Nat → Int64} {R : Nat → Nat → Option Nat} {Q : qP} {x y K J kx ky : Nat} (hx : x < 4000) (hy : y < 4000) (hvx : vK K kx) (hvy : vK J ky) (hlx : I 73 x = nI kx) (hly : I 73 y = nI ky) (hcx : ∀ j, j < kx → I 72 (24 * x + j) = nI (dg K j - 1)) (hcy : ∀ j, j < ky → I 72 (24 * y + j) = nI (dg J j - 1)) (h : Q (some (.int (if K = J then 1 else 0))) (z, N, I, L, R)) : qWP (d + 2) 185 [.ref 65, .int (nI x), .int (nI y)] (z, N, I, L, R) Q := by
  refine qWP_of m_X12_isAlike rfl rfl [(0, .ref 65), (1, .int (nI x)), (2, .int (nI y))] rfl ?_
  refine qJ_run (qWP_mono _) [24] 400 ?_
  refine ⟨?_, ?_⟩
  · show vp_in ((nI x)) 4000
    exact vp_in_nI (by omega) (by decide)
  refine ⟨?_, ?_⟩
  · show vp_in ((nI y)) 4000
    exact vp_in_nI (by omega) (by decide)
  refine ⟨fun (c1 : ¬ (I 73 (((nI x)).toNatClampNeg)) = (I 73 (((nI y)).toNatClampNeg))) => ?_, fun (c1 : (I 73 (((nI x)).toNatClampNeg)) = (I 73 (((nI y)).toNatClampNeg))) => ?_⟩
  · refine qJ_nm (qWP_mono _) [] [(4, .int 0), (3, .int 0), (2, .int (nI y)), (1, .int (nI x)), (0, .ref 65)] rfl rfl rfl ?_
    have c9 := c1
    replace c9 : ¬ I 73 (nI x).toNatClampNeg = I 73 (nI y).toNatClampNeg := c9
    rw [nI_clamp (by omega), nI_clamp (by omega), hlx, hly, nI_eq (by have := hvx.1; omega) (by have := hvy.1; omega)] at c9
    exact l_X12_isAlike (d := d) hx hy hvx hvy hlx hly hcx hcy h kx 0 0 (by omega) (Or.inr ⟨rfl, fun e => c9 ((vK_eq hvx hvy).mp e).1⟩)
  · refine qJ_nm (qWP_mono _) [] [(4, .int 0), (3, .int 1), (2, .int (nI y)), (1, .int (nI x)), (0, .ref 65)] rfl rfl rfl ?_
    have c9 := c1
    replace c9 : I 73 (nI x).toNatClampNeg = I 73 (nI y).toNatClampNeg := c9
    rw [nI_clamp (by omega), nI_clamp (by omega), hlx, hly, nI_eq (by have := hvx.1; omega) (by have := hvy.1; omega)] at c9
    exact l_X12_isAlike (d := d) hx hy hvx hvy hlx hly hcx hcy h kx 0 1 (by omega) (Or.inl ⟨rfl, c9, fun j hj => by omega⟩)
theorem c_X12_isAlike {d z : Nat} {N : Nat → Nat} {I : Nat → Nat → Int32} {L : Nat → Nat → Int64} {R : Nat → Nat → Option Nat} {Q : qP} {x y K J : Nat} (hx : x < 4000) (hy : y < 4000) (hK : enR I x K) (hJ : enR I y J) (h : Q (some (.int (if K = J then 1 else 0))) (z, N, I, L, R)) : qWP (d + 2) 185 [.ref 65, .int (nI x), .int (nI y)] (z, N, I, L, R) Q := by
  obtain ⟨kx, hvx, hlx, hcx⟩ := hK
  obtain ⟨ky, hvy, hly, hcy⟩ := hJ
  exact c_X12_isAlike0 (d := d) hx hy hvx hvy hlx hly hcx hcy h
theorem c_X12_faults {d z : Nat} {N : Nat → Nat} {I : Nat → Nat → Int32} {L : Nat → Nat → Int64} {R : Nat → Nat → Option Nat} {Q : qP}  (h0 : 0 ≤ I 65 20 → Q none (z, N, I, L, R)) (h1 : I 65 20 < 0 → Q none (z, N, q2 I 65 20 (I 65 17), L, R)) : qWP (d + 1) 184 [.ref 65] (z, N, I, L, R) Q := by
  refine qWP_of m_X12_faults rfl rfl [(0, .ref 65)] rfl ?_
  refine qJ_run (qWP_mono _) [] 400 ?_
  refine ⟨fun (c1 : 0 ≤ (I 65 20)) => ?_, fun (c1 : ¬ 0 ≤ (I 65 20)) => ?_⟩
  · change Q none (z, N, I, L, R)
    exact h0 c1
  · change Q none (z, N, q2 I 65 20 (I 65 17), L, R)
    exact h1 (Int32.not_le.mp c1)
/-! formulas: the reference's bank, copies and keeps -/
theorem l_X12_copies {d z : Nat} {N : Nat → Nat} {I : Nat → Nat → Int32} {L : Nat → Nat → Int64} {R : Nat → Nat → Option Nat} {Q : qP} {x t K kx : Nat} (hx : x < 4000) (ht : t < 4000) (hvx : vK K kx) (hlx : I 73 x = nI kx) (hcx : ∀ j, j < kx → I 72 (24 * x + j) = nI (dg K j - 1)) (h : ∀ I', cpF I I' t → enR I' t K → Q none (z, N, I', L, R)) : ∀ (q k : Nat) (I1 : Nat → Nat → Int32), k + q = kx → (∀ a, a ≠ 72 → a ≠ 73 → I1 a = I a) → I1 73 t = nI kx → (∀ y, y ≠ t → I1 73 y = I 73 y) → (∀ j, j < k → I1 72 (24 * t + j) = nI (dg K j - 1)) → (∀ c, (c < 24 * t ∨ 24 * t + k ≤ c) → I1 72 c = I 72 c) → qJ m_X12_copies (qWP (d + 1)) Q 14 [(3, .int (nI k)), (2, .int (nI t)), (1, .int (nI x)), (0, .ref 65)] [] 0 0 (z, N, I1, L, R) := by
  refine nat_ind fun q ih => ?_
  intro k I1 hkq f1 f2 f3 f4 f5
  have hx24 := hvx.1
  have h73 : I1 73 x = nI kx := by
    by_cases e : x = t
    · rw [e]; exact f2
    · rw [f3 x e]; exact hlx
  refine qJ_run (qWP_mono _) [14] 400 ?_
  refine ⟨?_, ?_⟩
  · show vp_in (nI x) 4000
    exact vp_in_nI (by have := hvx.1; omega) (by decide)
  refine ⟨fun (c1 : (I1 73 ((nI x).toNatClampNeg)) ≤ (nI k)) => ?_, fun (c1 : ¬ (I1 73 ((nI x).toNatClampNeg)) ≤ (nI k)) => ?_⟩
  · have hk2 : ¬ k < kx := fun h9 => by
      have c9 : I1 73 (nI x).toNatClampNeg ≤ nI k := c1
      rw [nI_clamp (by omega), h73, nI_leI (by omega) (by omega)] at c9
      omega
    change Q none (z, N, I1, L, R)
    obtain rfl : k = kx := by omega
    refine h I1 ⟨f1, fun y hy => ⟨f3 y hy, fun j hj => f5 _ (by omega)⟩⟩ ⟨k, hvx, f2, f4⟩
  · have hk2 : k < kx := by
      refine Decidable.byContradiction fun h9 => c1 ?_
      show I1 73 (nI x).toNatClampNeg ≤ nI k
      rw [nI_clamp (by omega), h73]
      exact nI_le (by omega) (by omega)
    refine ⟨?_, ?_⟩
    · show vp_in ((24 * (nI x)) + (nI k)) 96000
      rw [ix24]
      exact vp_in_nI (by have := hvx.1; omega) (by decide)
    refine ⟨?_, ?_⟩
    · show vp_in ((24 * (nI t)) + (nI k)) 96000
      rw [ix24]
      exact vp_in_nI (by have := hvx.1; omega) (by decide)
    change qJ m_X12_copies (qWP _) Q 14 [(3, .int ((nI k) + 1)), (2, .int (nI t)), (1, .int (nI x)), (0, .ref 65)] [] _ _ (z, N, q2 I1 72 (((24 * (nI t)) + (nI k)).toNatClampNeg) (I1 72 (((24 * (nI x)) + (nI k)).toNatClampNeg)), L, R)
    obtain ⟨p, rfl⟩ : ∃ p, q = p + 1 := ⟨q - 1, by omega⟩
    have ex : I1 72 (24 * nI x + nI k).toNatClampNeg = nI (dg K k - 1) := by
      rw [ix24, nI_clamp (by omega), f5 _ (by omega)]
      exact hcx k hk2
    rw [ex, ix24, nI_clamp (by omega), nI_1]
    refine ih p rfl (k + 1) _ (by omega) (fun a h1 h2 => by rw [q2_ne h1]; exact f1 a h1 h2) (by rw [q2_ne (by decide)]; exact f2) (fun y hy => by rw [q2_ne (by decide)]; exact f3 y hy) (fun j hj => ?_) (fun c hc => ?_)
    · by_cases e : j = k
      · rw [e, q2_at]
      · rw [q2_nj (by omega)]; exact f4 j (by omega)
    · rw [q2_nj (by omega)]; exact f5 c (by omega)
theorem c_X12_copies0 {d z : Nat} {N : Nat → Nat} {I : Nat → Nat → Int32} {L : Nat → Nat → Int64} {R : Nat → Nat → Option Nat} {Q : qP} {x t K kx : Nat} (hx : x < 4000) (ht : t < 4000) (hvx : vK K kx) (hlx : I 73 x = nI kx) (hcx : ∀ j, j < kx → I 72 (24 * x + j) = nI (dg K j - 1)) (h : ∀ I', cpF I I' t → enR I' t K → Q none (z, N, I', L, R)) : qWP (d + 2) 187 [.ref 65, .int (nI x), .int (nI t)] (z, N, I, L, R) Q := by
  refine qWP_of m_X12_copies rfl rfl [(0, .ref 65), (1, .int (nI x)), (2, .int (nI t))] rfl ?_
  refine qJ_run (qWP_mono _) [14] 400 ?_
  refine ⟨?_, ?_⟩
  · show vp_in ((nI x)) 4000
    exact vp_in_nI (by have := hvx.1; omega) (by decide)
  refine ⟨?_, ?_⟩
  · show vp_in ((nI t)) 4000
    exact vp_in_nI (by have := hvx.1; omega) (by decide)
  refine qJ_nm (qWP_mono _) [] [(3, .int 0), (2, .int (nI t)), (1, .int (nI x)), (0, .ref 65)] rfl rfl rfl ?_
  change qJ m_X12_copies (qWP _) Q 14 [(3, .int 0), (2, .int (nI t)), (1, .int (nI x)), (0, .ref 65)] [] _ _ (z, N, q2 I 73 (((nI t)).toNatClampNeg) (I 73 (((nI x)).toNatClampNeg)), L, R)
  have e1 : I 73 (nI x).toNatClampNeg = nI kx := by rw [nI_clamp (by omega)]; exact hlx
  rw [e1, nI_clamp (n := t) (by omega)]
  exact l_X12_copies (d := d) hx ht hvx hlx hcx h kx 0 _ (by omega) (fun a h1 h2 => q2_ne h2) q2_at (fun y hy => q2_nj hy) (fun j hj => absurd hj (by omega)) (fun c _ => by rw [q2_ne (by decide)])
theorem c_X12_copies {d z : Nat} {N : Nat → Nat} {I : Nat → Nat → Int32} {L : Nat → Nat → Int64} {R : Nat → Nat → Option Nat} {Q : qP} {x t K : Nat} (hx : x < 4000) (ht : t < 4000) (hK : enR I x K) (h : ∀ I', cpF I I' t → enR I' t K → Q none (z, N, I', L, R)) : qWP (d + 2) 187 [.ref 65, .int (nI x), .int (nI t)] (z, N, I, L, R) Q := by
  obtain ⟨kx, hvx, hlx, hcx⟩ := hK
  exact c_X12_copies0 (d := d) hx ht hvx hlx hcx h
def apF (K : Nat) (l : List Nat) : List Nat := l ++ [K]
theorem pc_apF : pc apF := pc_app
theorem l_X12_keeps {d z : Nat} {N : Nat → Nat} {I : Nat → Nat → Int32} {L : Nat → Nat → Int64} {R : Nat → Nat → Option Nat} {Q : qP} {a K : Nat} {m : List Nat} (hm : m.length ≤ 200) (ha : a + m.length + 1 < 4000) (h15 : I 65 15 = nI (a + m.length)) (hs : segR I a m) (hK : enR I (a + m.length) K) (h0 : addG apF 200 K m = none → ∀ I', frK I I' → I' 65 15 = nI a → I' 65 21 = 1 → Q none (z, N, I', L, R)) (h1 : ∀ m' I', addG apF 200 K m = some m' → frK I I' → I' 65 15 = nI (a + m'.length) → I' 65 21 = I 65 21 → segR I' a m' → Q none (z, N, I', L, R)) : ∀ (q i : Nat), i + q = m.length → (∀ j, j < i → ¬ m.getD j 0 = K) → qJ m_X12_keeps (qWP (d + 2)) Q 2 [(2, .int (nI (a + i))), (1, .int (nI a)), (0, .ref 65)] [] 0 0 (z, N, I, L, R) := by
  refine nat_ind fun q ih => ?_
  intro i hiq hno
  refine qJ_run (qWP_mono _) [2] 400 ?_
  refine ⟨fun (c1 : (I 65 15) ≤ (nI (a + i))) => ?_, fun (c1 : ¬ (I 65 15) ≤ (nI (a + i))) => ?_⟩
  · have hi : ¬ i < m.length := fun h9 => by
      have c9 := c1
      rw [h15, nI_leI (by omega) (by omega)] at c9
      omega
    have hnm : K ∉ m := fun h9 => by
      obtain ⟨j, hj, e⟩ := List.mem_iff_getElem.mp h9
      exact hno j (by omega) (by rw [gD hj]; exact e)
    refine ⟨fun (c2 : (((I 65 15) + 1) - (nI a)) ≤ 200) => ?_, fun (c2 : ¬ (((I 65 15) + 1) - (nI a)) ≤ 200) => ?_⟩
    · have h2 : m.length + 1 ≤ 200 := by
        have c9 := c2
        rw [h15, nI_1, pk_sub (by omega)] at c9
        have := (nI_leI (b := 200) (by omega) (by omega)).mp c9
        omega
      change Q none (z, N, q2 I 65 15 ((I 65 15) + 1), L, R)
      have e1 : (m ++ [K]).length = m.length + 1 := by simp
      refine h1 (m ++ [K]) _ (by unfold addG; rw [if_neg hnm, if_neg (by omega)]; rfl) (frK_s frK_r (by decide)) (by rw [q2_at, h15, nI_1, e1, Nat.add_assoc]) (q2_nj (by decide)) (fun i hi9 => ?_)
      rw [e1] at hi9
      refine enR_s ?_ (frK_E (frK_s frK_r (by decide)))
      by_cases h9 : i < m.length
      · rw [List.getD_eq_getElem?_getD, List.getElem?_append_left h9, ← List.getD_eq_getElem?_getD]; exact hs i h9
      · obtain rfl : i = m.length := by omega
        rw [List.getD_eq_getElem?_getD, List.getElem?_append_right (Nat.le_refl _), Nat.sub_self]
        exact hK
    · have h2 : 200 < m.length + 1 := Nat.not_le.mp fun h9 => c2 (by rw [h15, nI_1, pk_sub (by omega)]; exact nI_le (b := 200) (by omega) (by omega))
      refine ⟨?_, ?_⟩
      · first | exact Or.inl rfl | exact Or.inr rfl | (clear ih h0 h1 hs hno; grind)
      change Q none (z, N, q2 (q2 (q2 I 65 15 ((I 65 15) + 1)) 65 21 1) 65 15 (nI a), L, R)
      refine h0 (by unfold addG; rw [if_neg hnm, if_pos (by omega)]) _ (frK_s (frK_s (frK_s frK_r (by decide)) (by decide)) (by decide)) q2_at ?_
      rw [q2_nj (by decide), q2_at]
  · have hi : i < m.length := by
      refine Decidable.byContradiction fun h9 => c1 ?_
      rw [h15]
      exact nI_le (by omega) (by omega)
    refine ⟨⟨Nat.le_refl _, Nat.le_refl _⟩, ?_⟩
    refine qWP_as (as' := [.ref 65, .int (nI (a + i)), .int (nI (a + m.length))]) (show [Value.ref 65, .int (nI (a + i)), .int (I 65 15)] = _ by rw [h15]) ?_
    refine c_X12_isAlike (d := d) (by omega) (by omega) (hs i hi) hK ?_
    refine ⟨fun (c3 : (if m.getD i 0 = K then 1 else 0) = 0) => ?_, fun (c3 : ¬ (if m.getD i 0 = K then 1 else 0) = 0) => ?_⟩
    · have hne : ¬ m.getD i 0 = K := fun h9 => by
        have c9 := c3
        rw [if_pos h9] at c9
        exact absurd c9 (by decide)
      change qJ m_X12_keeps (qWP _) Q 2 [(2, .int ((nI (a + i)) + 1)), (1, .int (nI a)), (0, .ref 65)] [] _ _ (z, N, I, L, R)
      obtain ⟨p, rfl⟩ : ∃ p, q = p + 1 := ⟨q - 1, by omega⟩
      rw [nI_1, Nat.add_assoc]
      refine ih p rfl (i + 1) (by omega) fun j hj => ?_
      by_cases e : j = i
      · rw [e]; exact hne
      · exact hno j (by omega)
    · have heq : m.getD i 0 = K := by
        refine Decidable.byContradiction fun h9 => c3 (if_neg h9)
      change Q none (z, N, I, L, R)
      have hm9 : K ∈ m := by rw [← heq, gD hi]; exact List.getElem_mem hi
      exact h1 m I (by unfold addG; rw [if_pos hm9]) frK_r h15 rfl hs
theorem c_X12_keeps {d z : Nat} {N : Nat → Nat} {I : Nat → Nat → Int32} {L : Nat → Nat → Int64} {R : Nat → Nat → Option Nat} {Q : qP} {a K : Nat} {m : List Nat} (hm : m.length ≤ 200) (ha : a + m.length + 1 < 4000) (h15 : I 65 15 = nI (a + m.length)) (hs : segR I a m) (hK : enR I (a + m.length) K) (h0 : addG apF 200 K m = none → ∀ I', frK I I' → I' 65 15 = nI a → I' 65 21 = 1 → Q none (z, N, I', L, R)) (h1 : ∀ m' I', addG apF 200 K m = some m' → frK I I' → I' 65 15 = nI (a + m'.length) → I' 65 21 = I 65 21 → segR I' a m' → Q none (z, N, I', L, R)) : qWP (d + 3) 186 [.ref 65, .int (nI a)] (z, N, I, L, R) Q := by
  refine qWP_of m_X12_keeps rfl rfl [(0, .ref 65), (1, .int (nI a))] rfl ?_
  refine qJ_run (qWP_mono _) [2] 400 ?_
  refine qJ_nm (qWP_mono _) [] [(2, .int (nI a)), (1, .int (nI a)), (0, .ref 65)] rfl rfl rfl ?_
  exact l_X12_keeps (d := d) hm ha h15 hs hK h0 h1 m.length 0 (by omega) (fun j hj => absurd hj (by omega))
