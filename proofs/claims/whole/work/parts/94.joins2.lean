/-! formulas: the reference's pairs, one pair -/
theorem l_X12_joinsK {d z : Nat} {N : Nat → Nat} {I : Nat → Nat → Int32} {L : Nat → Nat → Int64} {R : Nat → Nat → Option Nat} {Q : qP} {a : Nat} {A B C : List Nat} (hb : a + A.length + B.length + 202 < 4000) {x y n1 n2 K1 K2 K : Nat} {I1 : Nat → Nat → Int32} (hx : x < a + A.length + B.length) (hy : y < a + A.length + B.length) (h1 : vK K1 n1) (h2 : vK K2 n2) (hn : n1 + gpN n1 n2 + n2 ≤ 24) (hcK : cat K1 K2 = some K) (hlx : I1 73 x = nI n1) (hly : I1 73 y = nI n2) (hcy : ∀ j, j < n2 → I1 72 (24 * y + j) = nI (dg K2 j - 1)) (h15 : I1 65 15 = nI ((a + A.length + B.length) + C.length)) (hC : C.length ≤ 200) (hs : segR I1 (a + A.length + B.length) C) (g0 : addG apF 200 K C = none → ∀ I5, frJ I1 I5 (a + A.length + B.length) → I5 65 15 = nI (a + A.length + B.length) → I5 65 21 = 1 → qJ m_X12_joins (qWP (d + 6)) Q 212 [(5, .int (nI y)), (4, .int (nI x)), (3, .int (nI (a + A.length + B.length))), (2, .int (nI (a + A.length))), (1, .int (nI a)), (0, .ref 65)] [] 0 0 (z, N, I5, L, R)) (g1 : ∀ C' I5, addG apF 200 K C = some C' → frJ I1 I5 (a + A.length + B.length) → I5 65 15 = nI ((a + A.length + B.length) + C'.length) → I5 65 21 = I1 65 21 → segR I5 (a + A.length + B.length) C' → qJ m_X12_joins (qWP (d + 6)) Q 212 [(5, .int (nI y)), (4, .int (nI x)), (3, .int (nI (a + A.length + B.length))), (2, .int (nI (a + A.length))), (1, .int (nI a)), (0, .ref 65)] [] 0 0 (z, N, I5, L, R)) : ∀ (q k : Nat) (I3 : Nat → Nat → Int32), k + q = n2 → (∀ c, c ≠ 72 → c ≠ 73 → I3 c = I1 c) → I3 73 ((a + A.length + B.length) + C.length) = nI n1 → (∀ t, t ≠ ((a + A.length + B.length) + C.length) → I3 73 t = I1 73 t) → (∀ j, j < n1 → I3 72 (24 * ((a + A.length + B.length) + C.length) + j) = nI (dg K1 j - 1)) → (gpN n1 n2 = 1 → I3 72 (24 * ((a + A.length + B.length) + C.length) + n1) = 0) → (∀ j, j < k → I3 72 (24 * ((a + A.length + B.length) + C.length) + n1 + gpN n1 n2 + j) = nI (dg K2 j - 1)) → (∀ c, (c < 24 * ((a + A.length + B.length) + C.length) ∨ 24 * ((a + A.length + B.length) + C.length) + 24 ≤ c) → I3 72 c = I1 72 c) → qJ m_X12_joins (qWP (d + 6)) Q 139 [(8, .int (nI k)), (7, .int (nI (n1 + gpN n1 n2 + n2))), (6, .int (nI (gpN n1 n2))), (5, .int (nI y)), (4, .int (nI x)), (3, .int (nI (a + A.length + B.length))), (2, .int (nI (a + A.length))), (1, .int (nI a)), (0, .ref 65)] [] 0 0 (z, N, I3, L, R) := by
  refine nat_ind fun q ih => ?_
  intro k I3 hkq f1 f2 f3 f4 f5 f6 f7
  have hn1 := h1.1
  have hn2 := h2.1
  have b15 : I3 65 15 = nI ((a + A.length + B.length) + C.length) := by rw [f1 65 (by decide) (by decide)]; exact h15
  have eix : 24 * I3 65 15 + I3 73 (nI x).toNatClampNeg + nI (gpN n1 n2) + nI k = nI (24 * ((a + A.length + B.length) + C.length) + n1 + gpN n1 n2 + k) := by
    rw [b15, nI_clamp (by omega), f3 x (by omega), hlx, ix24, nI_add, nI_add]
  refine qJ_run (qWP_mono _) [139, 207, 212] 400 ?_
  refine ⟨?_, ?_⟩
  · show vp_in (nI y) 4000
    exact vp_in_nI (by omega) (by decide)
  refine ⟨fun (c1 : (I3 73 ((nI y).toNatClampNeg)) ≤ (nI k)) => ?_, fun (c1 : ¬ (I3 73 ((nI y).toNatClampNeg)) ≤ (nI k)) => ?_⟩
  · have hk2 : ¬ k < n2 := fun h9 => by
      have c9 : I3 73 (nI y).toNatClampNeg ≤ nI k := c1
      rw [nI_clamp (by omega), f3 y (by omega), hly, nI_leI (by omega) (by omega)] at c9
      omega
    refine ⟨?_, ?_⟩
    · show vp_in (I3 65 15) 4000
      rw [b15]
      exact vp_in_nI (by omega) (by decide)
    change qJ m_X12_joins (qWP _) Q 207 [(8, .int (nI k)), (7, .int (nI (n1 + gpN n1 n2 + n2))), (6, .int (nI (gpN n1 n2))), (5, .int (nI y)), (4, .int (nI x)), (3, .int (nI (a + A.length + B.length))), (2, .int (nI (a + A.length))), (1, .int (nI a)), (0, .ref 65)] [] _ _ (z, N, q2 I3 73 ((I3 65 15).toNatClampNeg) (nI (n1 + gpN n1 n2 + n2)), L, R)
    refine qJ_run (qWP_mono _) [139, 207, 212] 400 ?_
    refine ⟨⟨Nat.le_refl _, Nat.le_refl _⟩, ?_⟩
    obtain ⟨K', hcK', hvK, d1, d2, d3⟩ := cat_c h1 h2 hn
    obtain rfl : K' = K := Option.some.inj (hcK'.symm.trans hcK)
    have ekk : k = n2 := by omega
    subst ekk
    have e73 : ∀ I9 : Nat → Nat → Int32, I9 = q2 I3 73 (I3 65 15).toNatClampNeg (nI (n1 + gpN n1 k + k)) → frJ I1 I9 ((a + A.length + B.length) + C.length) ∧ enR I9 ((a + A.length + B.length) + C.length) K' := fun I9 e9 => by
      rw [b15, nI_clamp (by omega)] at e9
      subst e9
      refine ⟨⟨fun c c1 c2 c3 => by rw [q2_ne c3]; exact f1 c c2 c3, fun j _ _ => by rw [q2_ne (by decide), f1 65 (by decide) (by decide)], fun t ht => ⟨by rw [q2_nj (by omega)]; exact f3 t (by omega), fun j hj => by rw [q2_ne (by decide)]; exact f7 _ (by omega)⟩⟩, _, hvK, q2_at, fun j hj => ?_⟩
      rw [q2_ne (by decide)]
      by_cases j1 : j < n1
      · rw [f4 j j1, d1 j j1]
      · by_cases j2 : j < n1 + gpN n1 k
        · have hg : gpN n1 k = 1 := by
            have : gpN n1 k ≤ 1 := by unfold gpN; split <;> omega
            omega
          obtain rfl : j = n1 := by omega
          rw [f5 hg, d2 hg]
          rfl
        · have e9 := f6 (j - n1 - gpN n1 k) (by omega)
          have e8 := d3 (j - n1 - gpN n1 k) (by omega)
          rw [show n1 + gpN n1 k + (j - n1 - gpN n1 k) = j by omega] at e8
          rw [show 24 * ((a + A.length + B.length) + C.length) + n1 + gpN n1 k + (j - n1 - gpN n1 k) = 24 * ((a + A.length + B.length) + C.length) + j by omega] at e9
          rw [e9, e8]
    obtain ⟨I9, e9⟩ : ∃ I9, I9 = q2 I3 73 (I3 65 15).toNatClampNeg (nI (n1 + gpN n1 k + k)) := ⟨_, rfl⟩
    rw [← e9]
    obtain ⟨w1, w2⟩ := e73 I9 e9
    refine c_X12_keeps (d := d + 3) (a := (a + A.length + B.length)) (K := K') hC (by omega) (by rw [e9, q2_ne (by decide)]; exact b15) (segR_s hs fun i hi => w1.2.2 _ (by omega)) w2 (fun ea I5 k1 k2 k3 => ?_) (fun C5 I5 ea k1 k2 k3 k4 => ?_)
    · refine qJ_nm (qWP_mono _) [(8, _), (7, _), (6, _)] [(5, .int (nI y)), (4, .int (nI x)), (3, .int (nI (a + A.length + B.length))), (2, .int (nI (a + A.length))), (1, .int (nI a)), (0, .ref 65)] rfl rfl rfl ?_
      change qJ m_X12_joins (qWP _) Q 212 [(5, .int (nI y)), (4, .int (nI x)), (3, .int (nI (a + A.length + B.length))), (2, .int (nI (a + A.length))), (1, .int (nI a)), (0, .ref 65)] [] _ _ (z, N, I5, L, R)
      exact g0 ea I5 (frJ_t (frJ_m w1 (by omega)) (frK_J k1) (Nat.le_refl _)) k2 k3
    · refine qJ_nm (qWP_mono _) [(8, _), (7, _), (6, _)] [(5, .int (nI y)), (4, .int (nI x)), (3, .int (nI (a + A.length + B.length))), (2, .int (nI (a + A.length))), (1, .int (nI a)), (0, .ref 65)] rfl rfl rfl ?_
      change qJ m_X12_joins (qWP _) Q 212 [(5, .int (nI y)), (4, .int (nI x)), (3, .int (nI (a + A.length + B.length))), (2, .int (nI (a + A.length))), (1, .int (nI a)), (0, .ref 65)] [] _ _ (z, N, I5, L, R)
      exact g1 C5 I5 ea (frJ_t (frJ_m w1 (by omega)) (frK_J k1) (Nat.le_refl _)) k2 (by rw [k3, e9, q2_ne (by decide), f1 65 (by decide) (by decide)]) k4
  · have hk2 : k < n2 := by
      refine Decidable.byContradiction fun h9 => c1 ?_
      show I3 73 (nI y).toNatClampNeg ≤ nI k
      rw [nI_clamp (by omega), f3 y (by omega), hly]
      exact nI_le (by omega) (by omega)
    refine ⟨?_, ?_⟩
    · show vp_in (nI x) 4000
      exact vp_in_nI (by omega) (by decide)
    refine ⟨?_, ?_⟩
    · show vp_in ((24 * (nI y)) + (nI k)) 96000
      first | (rw [eix]; exact vp_in_nI (by omega) (by decide)) | (rw [ix24]; exact vp_in_nI (by omega) (by decide))
    refine ⟨?_, ?_⟩
    · show vp_in ((((24 * (I3 65 15)) + (I3 73 ((nI x).toNatClampNeg))) + (nI (gpN n1 n2))) + (nI k)) 96000
      first | (rw [eix]; exact vp_in_nI (by omega) (by decide)) | (rw [ix24]; exact vp_in_nI (by omega) (by decide))
    change qJ m_X12_joins (qWP _) Q 139 [(8, .int ((nI k) + 1)), (7, .int (nI (n1 + gpN n1 n2 + n2))), (6, .int (nI (gpN n1 n2))), (5, .int (nI y)), (4, .int (nI x)), (3, .int (nI (a + A.length + B.length))), (2, .int (nI (a + A.length))), (1, .int (nI a)), (0, .ref 65)] [] _ _ (z, N, q2 I3 72 (((((24 * (I3 65 15)) + (I3 73 ((nI x).toNatClampNeg))) + (nI (gpN n1 n2))) + (nI k)).toNatClampNeg) (I3 72 (((24 * (nI y)) + (nI k)).toNatClampNeg)), L, R)
    obtain ⟨p, rfl⟩ : ∃ p, q = p + 1 := ⟨q - 1, by omega⟩
    have ex : I3 72 (24 * nI y + nI k).toNatClampNeg = nI (dg K2 k - 1) := by
      rw [ix24, nI_clamp (by omega), f7 _ (by omega)]
      exact hcy k hk2
    rw [ex, eix, nI_clamp (by omega), nI_1]
    refine ih p rfl (k + 1) _ (by omega) (fun c c1 c2 => by rw [q2_ne c1]; exact f1 c c1 c2) (by rw [q2_ne (by decide)]; exact f2) (fun t ht => by rw [q2_ne (by decide)]; exact f3 t ht) (fun j hj => by rw [q2_nj (by omega)]; exact f4 j hj) (fun hg => by rw [q2_nj (by omega)]; exact f5 hg) (fun j hj => ?_) (fun c hc => by rw [q2_nj (by omega)]; exact f7 c hc)
    by_cases e : j = k
    · rw [e, q2_at]
    · rw [q2_nj (by omega)]; exact f6 j (by omega)
theorem l_X12_joinsB {d z : Nat} {N : Nat → Nat} {I : Nat → Nat → Int32} {L : Nat → Nat → Int64} {R : Nat → Nat → Option Nat} {Q : qP} {a : Nat} {A B C : List Nat} (hb : a + A.length + B.length + 202 < 4000) {x y n1 n2 K1 K2 K : Nat} {I1 : Nat → Nat → Int32} (hx : x < a + A.length + B.length) (hy : y < a + A.length + B.length) (h1 : vK K1 n1) (h2 : vK K2 n2) (hn : n1 + gpN n1 n2 + n2 ≤ 24) (hcK : cat K1 K2 = some K) (hlx : I1 73 x = nI n1) (hly : I1 73 y = nI n2) (hcy : ∀ j, j < n2 → I1 72 (24 * y + j) = nI (dg K2 j - 1)) (hKx : enR I1 x K1) (h15 : I1 65 15 = nI ((a + A.length + B.length) + C.length)) (hC : C.length ≤ 200) (hs : segR I1 (a + A.length + B.length) C) (g0 : addG apF 200 K C = none → ∀ I5, frJ I1 I5 (a + A.length + B.length) → I5 65 15 = nI (a + A.length + B.length) → I5 65 21 = 1 → qJ m_X12_joins (qWP (d + 6)) Q 212 [(5, .int (nI y)), (4, .int (nI x)), (3, .int (nI (a + A.length + B.length))), (2, .int (nI (a + A.length))), (1, .int (nI a)), (0, .ref 65)] [] 0 0 (z, N, I5, L, R)) (g1 : ∀ C' I5, addG apF 200 K C = some C' → frJ I1 I5 (a + A.length + B.length) → I5 65 15 = nI ((a + A.length + B.length) + C'.length) → I5 65 21 = I1 65 21 → segR I5 (a + A.length + B.length) C' → qJ m_X12_joins (qWP (d + 6)) Q 212 [(5, .int (nI y)), (4, .int (nI x)), (3, .int (nI (a + A.length + B.length))), (2, .int (nI (a + A.length))), (1, .int (nI a)), (0, .ref 65)] [] 0 0 (z, N, I5, L, R)) :  qJ m_X12_joins (qWP (d + 6)) Q 99 [(7, .int (nI (n1 + gpN n1 n2 + n2))), (6, .int (nI (gpN n1 n2))), (5, .int (nI y)), (4, .int (nI x)), (3, .int (nI (a + A.length + B.length))), (2, .int (nI (a + A.length))), (1, .int (nI a)), (0, .ref 65)] [] 0 0 (z, N, I1, L, R) := by
  skip
  have hn1 := h1.1
  have hn2 := h2.1
  refine qJ_run (qWP_mono _) [99, 139] 400 ?_
  refine ⟨⟨Nat.le_refl _, Nat.le_refl _⟩, ?_⟩
  refine qWP_as (as' := [.ref 65, .int (nI x), .int (nI ((a + A.length + B.length) + C.length))]) (show [Value.ref 65, .int (nI x), .int (I1 65 15)] = _ by rw [h15]) ?_
  refine c_X12_copies (d := d + 4) (by omega) (by omega) hKx fun I2 k1 k2 => ?_
  have b15 : I2 65 15 = nI ((a + A.length + B.length) + C.length) := by rw [k1.1 65 (by decide) (by decide)]; exact h15
  obtain ⟨n1', hv1, k3, k4⟩ := k2
  have e1 : n1 = n1' := vK_n h1 hv1
  subst e1
  have b73 : I2 73 x = nI n1 := ((k1.2 x (by omega)).1).trans hlx
  have eix : 24 * I2 65 15 + I2 73 (nI x).toNatClampNeg = nI (24 * ((a + A.length + B.length) + C.length) + n1) := by rw [b15, nI_clamp (by omega), b73, ix24]
  refine ⟨fun (c1 : ¬ (nI (gpN n1 n2)) = 1) => ?_, fun (c1 : (nI (gpN n1 n2)) = 1) => ?_⟩
  · change qJ m_X12_joins (qWP _) Q 139 [(8, .int 0), (7, .int (nI (n1 + gpN n1 n2 + n2))), (6, .int (nI (gpN n1 n2))), (5, .int (nI y)), (4, .int (nI x)), (3, .int (nI (a + A.length + B.length))), (2, .int (nI (a + A.length))), (1, .int (nI a)), (0, .ref 65)] [] _ _ (z, N, I2, L, R)
    have hg : ¬ gpN n1 n2 = 1 := fun h9 => c1 (by rw [h9]; rfl)
    refine l_X12_joinsK (d := d) (I := I1) hb hx hy h1 h2 hn hcK hlx hly hcy h15 hC hs g0 g1 n2 0 I2 (by omega) (fun c c1 c2 => k1.1 c c1 c2) k3 (fun t ht => (k1.2 t ht).1) k4 (fun h9 => absurd h9 hg) (fun j hj => absurd hj (by omega)) (fun c hc => ?_)
    have e24 : c = 24 * (c / 24) + c % 24 := by omega
    have := (k1.2 (c / 24) (by omega)).2 (c % 24) (by omega)
    rw [← e24] at this
    exact this
  · refine ⟨?_, ?_⟩
    · show vp_in (nI x) 4000
      exact vp_in_nI (by omega) (by decide)
    refine ⟨?_, ?_⟩
    · show vp_in ((24 * (I2 65 15)) + (I2 73 ((nI x).toNatClampNeg))) 96000
      rw [eix]
      exact vp_in_nI (by omega) (by decide)
    change qJ m_X12_joins (qWP _) Q 139 [(8, .int 0), (7, .int (nI (n1 + gpN n1 n2 + n2))), (6, .int (nI (gpN n1 n2))), (5, .int (nI y)), (4, .int (nI x)), (3, .int (nI (a + A.length + B.length))), (2, .int (nI (a + A.length))), (1, .int (nI a)), (0, .ref 65)] [] _ _ (z, N, q2 I2 72 (((24 * (I2 65 15)) + (I2 73 ((nI x).toNatClampNeg))).toNatClampNeg) 0, L, R)
    have hg : gpN n1 n2 = 1 := by
      have : gpN n1 n2 ≤ 1 := by unfold gpN; split <;> omega
      exact (nI_eq (b := 1) (by omega) (by decide)).mp c1
    have hg2 : n1 < 24 := by omega
    rw [eix, nI_clamp (by omega)]
    refine l_X12_joinsK (d := d) (I := I1) hb hx hy h1 h2 hn hcK hlx hly hcy h15 hC hs g0 g1 n2 0 _ (by omega) (fun c c1 c2 => by rw [q2_ne c1]; exact k1.1 c c1 c2) (by rw [q2_ne (by decide)]; exact k3) (fun t ht => by rw [q2_ne (by decide)]; exact (k1.2 t ht).1) (fun j hj => by rw [q2_nj (by omega)]; exact k4 j hj) (fun _ => q2_at) (fun j hj => absurd hj (by omega)) (fun c hc => ?_)
    rw [q2_nj (by omega)]
    have e24 : c = 24 * (c / 24) + c % 24 := by omega
    have := (k1.2 (c / 24) (by omega)).2 (c % 24) (by omega)
    rw [← e24] at this
    exact this
