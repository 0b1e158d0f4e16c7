/-! formulas: the reference's pairs -/
/-- how two texts lie one behind the other -/
def gpN (n1 n2 : Nat) : Nat := if 0 < n1 ∧ 0 < n2 then 1 else 0
theorem cat_c {K1 n1 K2 n2 : Nat} (h1 : vK K1 n1) (h2 : vK K2 n2) (hn : n1 + gpN n1 n2 + n2 ≤ 24) : ∃ K, cat K1 K2 = some K ∧ vK K (n1 + gpN n1 n2 + n2) ∧ (∀ j, j < n1 → dg K j = dg K1 j) ∧ (gpN n1 n2 = 1 → dg K n1 = 1) ∧ ∀ j, j < n2 → dg K (n1 + gpN n1 n2 + j) = dg K2 j := by
  unfold gpN at *
  by_cases a : n1 = 0
  · subst a
    rw [if_neg (by omega)] at hn ⊢
    refine ⟨K2, (cat_0 h1 h2).1 rfl, ?_, fun j hj => absurd hj (by omega), fun h => absurd h (by decide), fun j hj => ?_⟩
    · simpa using h2
    · simp
  · by_cases b : n2 = 0
    · subst b
      rw [if_neg (by omega)] at hn ⊢
      exact ⟨K1, (cat_0 h1 h2).2.1 a rfl, h1, fun j hj => rfl, fun h => absurd h (by decide), fun j hj => absurd hj (by omega)⟩
    · rw [if_pos ⟨by omega, by omega⟩] at hn ⊢
      have hD : ∀ k, k < 24 → dg (ofD 24 (catD K1 n1 K2)) k = catD K1 n1 K2 k := fun k hk => dg_ofD (fun _ => catD_lt) hk
      have hc := cat_dg h1 h2 a b hn (ofD_lt (fun _ => catD_lt) 24) hD
      have hv := (cat_v h1 h2 hc).1
      unfold catN at hv
      rw [if_neg a, if_neg b] at hv
      refine ⟨_, hc, hv, fun j hj => ?_, fun _ => ?_, fun j hj => ?_⟩
      · rw [hD j (by omega)]; unfold catD; rw [if_pos hj]
      · rw [hD n1 (by omega)]; unfold catD; rw [if_neg (by omega), if_pos rfl]
      · rw [hD _ (by omega)]; unfold catD; rw [if_neg (by omega), if_neg (by omega), if_pos (by omega), show n1 + 1 + j - n1 - 1 = j by omega]
theorem cat_no {K1 n1 K2 n2 : Nat} (h1 : vK K1 n1) (h2 : vK K2 n2) (hn : 24 < n1 + gpN n1 n2 + n2) : cat K1 K2 = none := by
  have a := h1.1
  have b := h2.1
  unfold gpN at hn
  split at hn
  · exact (cat_0 h1 h2).2.2 (by omega) (by omega) (by omega)
  · rename_i h9
    omega
theorem frJ_m {I I' : Nat → Nat → Int32} {a a' : Nat} (h : frJ I I' a') (ha : a ≤ a') : frJ I I' a := ⟨h.1, h.2.1, fun y hy => h.2.2 y (by omega)⟩
theorem frJ_K {I I' : Nat → Nat → Int32} {a : Nat} (h : frK I I') : frJ I I' a := frK_J h
theorem l_X12_joinsF1 {d z : Nat} {N : Nat → Nat} {I : Nat → Nat → Int32} {L : Nat → Nat → Int64} {R : Nat → Nat → Option Nat} {Q : qP} {a : Nat} {A B : List Nat} {W : Option (List Nat)} (hb : a + A.length + B.length + 202 < 4000) (h0 : W = none → ∀ I', frJ I I' a → I' 65 15 = nI a → I' 65 21 = 1 → Q none (z, N, I', L, R)) (h1 : ∀ C I', W = some C → frJ I I' a → I' 65 15 = nI (a + C.length) → I' 65 21 = 0 → segR I' a C → Q none (z, N, I', L, R)) {C : List Nat} (hC : C.length ≤ 200) : ∀ (q k : Nat) (I2 : Nat → Nat → Int32), k + q = C.length → frJ I I2 a → ((I2 65 21 = 1 ∧ W = none) ∨ (I2 65 21 = 0 ∧ W = some C)) → (∀ i, i < k → enR I2 (a + i) (C.getD i 0)) → (∀ i, k ≤ i → i < C.length → enR I2 ((a + A.length + B.length) + i) (C.getD i 0)) → qJ m_X12_joins (qWP (d + 6)) Q 235 [(5, .int (nI k)), (4, .int (nI C.length)), (3, .int (nI (a + A.length + B.length))), (2, .int (nI (a + A.length))), (1, .int (nI a)), (0, .ref 65)] [] 0 0 (z, N, I2, L, R) := by
  refine nat_ind fun q ih => ?_
  intro k I2 hkq hf hsp hp hr
  refine qJ_run (qWP_mono _) [235] 400 ?_
  refine ⟨fun (c1 : (nI C.length) ≤ (nI k)) => ?_, fun (c1 : ¬ (nI C.length) ≤ (nI k)) => ?_⟩
  · have hk2 : ¬ k < C.length := fun h9 => by
      have c9 := c1
      rw [nI_leI (by omega) (by omega)] at c9
      omega
    refine ⟨fun (c2 : (I2 65 21) = 0) => ?_, fun (c2 : ¬ (I2 65 21) = 0) => ?_⟩
    · change Q none (z, N, q2 I2 65 15 ((nI a) + (nI C.length)), L, R)
      obtain rfl : k = C.length := by omega
      rcases hsp with ⟨s1, s2⟩ | ⟨s1, s2⟩
      · exact absurd (c2.symm.trans s1) (by decide)
      · refine h1 C _ s2 (frJ_t hf (frK_J (frK_s frK_r (by decide)) (a := a)) (Nat.le_refl _)) (by rw [q2_at, nI_add]) ?_ (fun i hi => enR_s (hp i hi) (frK_E (frK_s frK_r (by decide))))
        rw [q2_nj (by decide)]; exact s1
    · change Q none (z, N, q2 I2 65 15 (nI a), L, R)
      obtain rfl : k = C.length := by omega
      rcases hsp with ⟨s1, s2⟩ | ⟨s1, s2⟩
      · refine h0 s2 _ (frJ_t hf (frK_J (frK_s frK_r (by decide)) (a := a)) (Nat.le_refl _)) q2_at ?_
        rw [q2_nj (by decide)]; exact s1
      · exact absurd s1 c2
  · have hk2 : k < C.length := by
      refine Decidable.byContradiction fun h9 => c1 ?_
      exact nI_le (by omega) (by omega)
    refine ⟨⟨Nat.le_refl _, Nat.le_refl _⟩, ?_⟩
    refine qWP_as (as' := [.ref 65, .int (nI ((a + A.length + B.length) + k)), .int (nI (a + k))]) (show [Value.ref 65, .int (nI (a + A.length + B.length) + nI k), .int (nI a + nI k)] = _ by rw [nI_add, nI_add]) ?_
    refine c_X12_copies (d := d + 4) (by omega) (by omega) (hr k (Nat.le_refl _) hk2) fun I3 hf3 hK3 => ?_
    change qJ m_X12_joins (qWP _) Q 235 [(5, .int ((nI k) + 1)), (4, .int (nI C.length)), (3, .int (nI (a + A.length + B.length))), (2, .int (nI (a + A.length))), (1, .int (nI a)), (0, .ref 65)] [] _ _ (z, N, I3, L, R)
    obtain ⟨p, rfl⟩ : ∃ p, q = p + 1 := ⟨q - 1, by omega⟩
    rw [nI_1]
    have h65 : I3 65 = I2 65 := hf3.1 65 (by decide) (by decide)
    refine ih p rfl (k + 1) I3 (by omega) (frJ_t hf (cpF_J hf3 (show a ≤ a + k by omega)) (Nat.le_refl _)) (by rw [h65]; exact hsp) (fun i hi => ?_) (fun i hi hi2 => enR_s (hr i (by omega) hi2) (hf3.2 _ (by omega)))
    by_cases e : i = k
    · rw [e]; exact hK3
    · exact enR_s (hp i (by omega)) (hf3.2 _ (by omega))
theorem l_X12_joinsF {d z : Nat} {N : Nat → Nat} {I : Nat → Nat → Int32} {L : Nat → Nat → Int64} {R : Nat → Nat → Option Nat} {Q : qP} {a : Nat} {A B : List Nat} {W : Option (List Nat)} (hb : a + A.length + B.length + 202 < 4000) (h0 : W = none → ∀ I', frJ I I' a → I' 65 15 = nI a → I' 65 21 = 1 → Q none (z, N, I', L, R)) (h1 : ∀ C I', W = some C → frJ I I' a → I' 65 15 = nI (a + C.length) → I' 65 21 = 0 → segR I' a C → Q none (z, N, I', L, R)) : ∀ (x : Int32) (C : List Nat) (I2 : Nat → Nat → Int32), frJ I I2 (a + A.length + B.length) → I2 65 15 = nI ((a + A.length + B.length) + C.length) → C.length ≤ 200 → segR I2 (a + A.length + B.length) C → ((I2 65 21 = 1 ∧ W = none) ∨ (I2 65 21 = 0 ∧ W = some C)) → qJ m_X12_joins (qWP (d + 6)) Q 224 [(4, .int x), (3, .int (nI (a + A.length + B.length))), (2, .int (nI (a + A.length))), (1, .int (nI a)), (0, .ref 65)] [] 0 0 (z, N, I2, L, R) := by
  skip
  intro x C I2 hf h15 hC hs hsp
  refine qJ_run (qWP_mono _) [224, 235] 400 ?_
  change qJ m_X12_joins (qWP _) Q 235 [(5, .int 0), (4, .int ((I2 65 15) - (nI (a + A.length + B.length)))), (3, .int (nI (a + A.length + B.length))), (2, .int (nI (a + A.length))), (1, .int (nI a)), (0, .ref 65)] [] _ _ (z, N, I2, L, R)
  have e1 : I2 65 15 - nI (a + A.length + B.length) = nI C.length := by
    rw [h15]
    refine (pk_sub (a := (a + A.length + B.length) + C.length) (b := (a + A.length + B.length)) (by omega)).trans ?_
    congr 1
    omega
  rw [e1]
  exact l_X12_joinsF1 (d := d) hb h0 h1 hC C.length 0 I2 (by omega) (frJ_m hf (by omega)) hsp (fun i hi => absurd hi (by omega)) (fun i _ hi => hs i hi)
/-! formulas: the reference's pairs, one pair -/
theorem l_X12_joinsK {d z : Nat} {N : Nat → Nat} {I : Nat → Nat → Int32} {L : Nat → Nat → Int64} {R : Nat → Nat → Option Nat} {Q : qP} {a : Nat} {A B C : List Nat} (hb : a + A.length + B.length + 202 < 4000) {x y n1 n2 K1 K2 K : Nat} {I1 : Nat → Nat → Int32} (hx : x < a + A.length + B.length) (hy : y < a + A.length + B.length) (h1 : vK K1 n1) (h2 : vK K2 n2) (hn : n1 + gpN n1 n2 + n2 ≤ 24) (hcK : cat K1 K2 = some K) (hlx : I1 73 x = nI n1) (hly : I1 73 y = nI n2) (hcy : ∀ j, j < n2 → I1 72 (24 * y + j) = nI (dg K2 j - 1)) (h15 : I1 65 15 = nI ((a + A.length + B.length) + C.length)) (hC : C.length ≤ 200) (hs : segR I1 (a + A.length + B.length) C) (g0 : addG apF 200 K C = none → ∀ I5, frJ I1 I5 (a + A.length + B.length) → I5 65 15 = nI (a + A.length + B.length) → I5 65 21 = 1 → qJ m_X12_joins (qWP (d + 6)) Q 212 [(5, .int (nI y)), (4, .int (nI x)), (3, .int (nI (a + A.length + B.length))), (2, .int (nI (a + A.length))), (1, .int (nI a)), (0, .ref 65)] [] 0 0 (z, N, I5, L, R)) (g1 : ∀ C' I5, addG apF 200 K C = some C' → frJ I1 I5 (a + A.length + B.length) → I5 65 15 = nI ((a + A.length + B.length) + C'.length) → I5 65 21 = I1 65 21 → segR I5 (a + A.length + B.length) C' → qJ m_X12_joins (qWP (d + 6)) Q 212 [(5, .int (nI y)), (4, .int (nI x)), (3, .int (nI (a + A.length + B.length))), (2, .int (nI (a + A.length))), (1, .int (nI a)), (0, .ref 65)] [] 0 0 (z, N, I5, L, R)) : ∀ (q k : Nat) (I3 : Nat → Nat → Int32), k + q = n2 → (∀ c, c ≠ 72 → c ≠ 73 → I3 c = I1 c) → I3 73 ((a + A.length + B.length) + C.length) = nI n1 → (∀ t, t ≠ ((a + A.length + B.length) + C.length) → I3 73 t = I1 73 t) → (∀ j, j < n1 → I3 72 (24 * ((a + A.length + B.length) + C.length) + j) = nI (dg K1 j - 1)) → (gpN n1 n2 = 1 → I3 72 (24 * ((a + A.length + B.length) + C.length) + n1) = 0) → (∀ j, j < k → I3 72 (24 * ((a + A.length + B.length) + C.length) + n1 + gpN n1 n2 + j) = nI (dg K2 j - 1)) → (∀ c, (c < 24 * ((a + A.length + B.length) + C.length) ∨ 24 * ((a + A.length + B.length) + C.length) + 24 ≤ c) → I3 72 c = I1 72 c) → qJ m_X12_joins (qWP (d + 6)) Q 139 [(8, .int (nI k)), (7, .int (nI (n1 + gpN n1 n2 + n2))), (6, .int (nI (gpN n1 n2))), (5, .int (nI y)), (4, .int (nI x)), (3, .int (nI (a + A.length + B.length))), (2, .int (nI (a + A.length))), (1, .int (nI a)), (0, .ref 65)] [] 0 0 (z, N, I3, L, R) := by
  refine nat_ind fun q ih => ?_
  intro k I3 hkq f1 f2 f3 f4 f5 f6 f7
  have hn1 := h1.1
  have hn2 := h2.1
  have b15 : I3 65 15 = nI ((a + A.length + B.length) + C.length) := by rw [f1 65 (by decide) (by decide)]; exact h15
  have eix : 24 * I3 65 15 + I3 73 (nI x).toNatClampNeg + nI (gpN n1 n2) + nI k = nI (24 * ((a + A.length + B.length) + C.length) + n1 + gpN n1 n2 + k) := by
    rw [b15, nI_clamp (by omega), f3 x (by omega), hlx, ix24, nI_add, nI_add]
  refine qJ_run (qWP_mono _) [139, 207, 212] 400 ?_
  refine ⟨?_, ?_⟩
  · show vp_in (nI y) 4000
    exact vp_in_nI (by omega) (by decide)
  refine ⟨fun (c1 : (I3 73 ((nI y).toNatClampNeg)) ≤ (nI k)) => ?_, fun (c1 : ¬ (I3 73 ((nI y).toNatClampNeg)) ≤ (nI k)) => ?_⟩
  · have hk2 : ¬ k < n2 := fun h9 => by
      have c9 : I3 73 (nI y).toNatClampNeg ≤ nI k := c1
      rw [nI_clamp (by omega), f3 y (by omega), hly, nI_leI (by omega) (by omega)] at c9
      omega
    refine ⟨?_, ?_⟩
    · show vp_in (I3 65 15) 4000
      rw [b15]
      exact vp_in_nI (by omega) (by decide)
    change qJ m_X12_joins (qWP _) Q 207 [(8, .int (nI k)), (7, .int (nI (n1 + gpN n1 n2 + n2))), (6, .int (nI (gpN n1 n2))), (5, .int (nI y)), (4, .int (nI x)), (3, .int (nI (a + A.length + B.length))), (2, .int (nI (a + A.length))), (1, .int (nI a)), (0, .ref 65)] [] _ _ (z, N, q2 I3 73 ((I3 65 15).toNatClampNeg) (nI (n1 + gpN n1 n2 + n2)), L, R)
    refine qJ_run (qWP_mono _) [139, 207, 212] 400 ?_
    refine ⟨⟨Nat.le_refl _, Nat.le_refl _⟩, ?_⟩
    obtain ⟨K', hcK', hvK, d1, d2, d3⟩ := cat_c h1 h2 hn
    obtain rfl : K' = K := Option.some.inj (hcK'.symm.trans hcK)
    have ekk : k = n2 := by omega
    subst ekk
    have e73 : ∀ I9 : Nat → Nat → Int32, I9 = q2 I3 73 (I3 65 15).toNatClampNeg (nI (n1 + gpN n1 k + k)) → frJ I1 I9 ((a + A.length + B.length) + C.length) ∧ enR I9 ((a + A.length + B.length) + C.length) K' := fun I9 e9 => by
      rw [b15, nI_clamp (by omega)] at e9
      subst e9
      refine ⟨⟨fun c c1 c2 c3 => by rw [q2_ne c3]; exact f1 c c2 c3, fun j _ _ => by rw [q2_ne (by decide), f1 65 (by decide) (by decide)], fun t ht => ⟨by rw [q2_nj (by omega)]; exact f3 t (by omega), fun j hj => by rw [q2_ne (by decide)]; exact f7 _ (by omega)⟩⟩, _, hvK, q2_at, fun j hj => ?_⟩
      rw [q2_ne (by decide)]
      by_cases j1 : j < n1
      · rw [f4 j j1, d1 j j1]
      · by_cases j2 : j < n1 + gpN n1 k
        · have hg : gpN n1 k = 1 := by
            have : gpN n1 k ≤ 1 := by unfold gpN; split <;> omega
            omega
          obtain rfl : j = n1 := by omega
          rw [f5 hg, d2 hg]
          rfl
        · have e9 := f6 (j - n1 - gpN n1 k) (by omega)
          have e8 := d3 (j - n1 - gpN n1 k) (by omega)
          rw [show n1 + gpN n1 k + (j - n1 - gpN n1 k) = j by omega] at e8
          rw [show 24 * ((a + A.length + B.length) + C.length) + n1 + gpN n1 k + (j - n1 - gpN n1 k) = 24 * ((a + A.length + B.length) + C.length) + j by omega] at e9
          rw [e9, e8]
    obtain ⟨I9, e9⟩ : ∃ I9, I9 = q2 I3 73 (I3 65 15).toNatClampNeg (nI (n1 + gpN n1 k + k)) := ⟨_, rfl⟩
    rw [← e9]
    obtain ⟨w1, w2⟩ := e73 I9 e9
    refine c_X12_keeps (d := d + 3) (a := (a + A.length + B.length)) (K := K') hC (by omega) (by rw [e9, q2_ne (by decide)]; exact b15) (segR_s hs fun i hi => w1.2.2 _ (by omega)) w2 (fun ea I5 k1 k2 k3 => ?_) (fun C5 I5 ea k1 k2 k3 k4 => ?_)
    · refine qJ_nm (qWP_mono _) [(8, _), (7, _), (6, _)] [(5, .int (nI y)), (4, .int (nI x)), (3, .int (nI (a + A.length + B.length))), (2, .int (nI (a + A.length))), (1, .int (nI a)), (0, .ref 65)] rfl rfl rfl ?_
      change qJ m_X12_joins (qWP _) Q 212 [(5, .int (nI y)), (4, .int (nI x)), (3, .int (nI (a + A.length + B.length))), (2, .int (nI (a + A.length))), (1, .int (nI a)), (0, .ref 65)] [] _ _ (z, N, I5, L, R)
      exact g0 ea I5 (frJ_t (frJ_m w1 (by omega)) (frK_J k1) (Nat.le_refl _)) k2 k3
    · refine qJ_nm (qWP_mono _) [(8, _), (7, _), (6, _)] [(5, .int (nI y)), (4, .int (nI x)), (3, .int (nI (a + A.length + B.length))), (2, .int (nI (a + A.length))), (1, .int (nI a)), (0, .ref 65)] rfl rfl rfl ?_
      change qJ m_X12_joins (qWP _) Q 212 [(5, .int (nI y)), (4, .int (nI x)), (3, .int (nI (a + A.length + B.length))), (2, .int (nI (a + A.length))), (1, .int (nI a)), (0, .ref 65)] [] _ _ (z, N, I5, L, R)
      exact g1 C5 I5 ea (frJ_t (frJ_m w1 (by omega)) (frK_J k1) (Nat.le_refl _)) k2 (by rw [k3, e9, q2_ne (by decide), f1 65 (by decide) (by decide)]) k4
  · have hk2 : k < n2 := by
      refine Decidable.byContradiction fun h9 => c1 ?_
      show I3 73 (nI y).toNatClampNeg ≤ nI k
      rw [nI_clamp (by omega), f3 y (by omega), hly]
      exact nI_le (by omega) (by omega)
    refine ⟨?_, ?_⟩
    · show vp_in (nI x) 4000
      exact vp_in_nI (by omega) (by decide)
    refine ⟨?_, ?_⟩
    · show vp_in ((24 * (nI y)) + (nI k)) 96000
      first | (rw [eix]; exact vp_in_nI (by omega) (by decide)) | (rw [ix24]; exact vp_in_nI (by omega) (by decide))
    refine ⟨?_, ?_⟩
    · show vp_in ((((24 * (I3 65 15)) + (I3 73 ((nI x).toNatClampNeg))) + (nI (gpN n1 n2))) + (nI k)) 96000
      first | (rw [eix]; exact vp_in_nI (by omega) (by decide)) | (rw [ix24]; exact vp_in_nI (by omega) (by decide))
    change qJ m_X12_joins (qWP _) Q 139 [(8, .int ((nI k) + 1)), (7, .int (nI (n1 + gpN n1 n2 + n2))), (6, .int (nI (gpN n1 n2))), (5, .int (nI y)), (4, .int (nI x)), (3, .int (nI (a + A.length + B.length))), (2, .int (nI (a + A.length))), (1, .int (nI a)), (0, .ref 65)] [] _ _ (z, N, q2 I3 72 (((((24 * (I3 65 15)) + (I3 73 ((nI x).toNatClampNeg))) + (nI (gpN n1 n2))) + (nI k)).toNatClampNeg) (I3 72 (((24 * (nI y)) + (nI k)).toNatClampNeg)), L, R)
    obtain ⟨p, rfl⟩ : ∃ p, q = p + 1 := ⟨q - 1, by omega⟩
    have ex : I3 72 (24 * nI y + nI k).toNatClampNeg = nI (dg K2 k - 1) := by
      rw [ix24, nI_clamp (by omega), f7 _ (by omega)]
      exact hcy k hk2
    rw [ex, eix, nI_clamp (by omega), nI_1]
    refine ih p rfl (k + 1) _ (by omega) (fun c c1 c2 => by rw [q2_ne c1]; exact f1 c c1 c2) (by rw [q2_ne (by decide)]; exact f2) (fun t ht => by rw [q2_ne (by decide)]; exact f3 t ht) (fun j hj => by rw [q2_nj (by omega)]; exact f4 j hj) (fun hg => by rw [q2_nj (by omega)]; exact f5 hg) (fun j hj => ?_) (fun c hc => by rw [q2_nj (by omega)]; exact f7 c hc)
    by_cases e : j = k
    · rw [e, q2_at]
    · rw [q2_nj (by omega)]; exact f6 j (by omega)
theorem l_X12_joinsB {d z : Nat} {N : Nat → Nat} {I : Nat → Nat → Int32} {L : Nat → Nat → Int64} {R : Nat → Nat → Option Nat} {Q : qP} {a : Nat} {A B C : List Nat} (hb : a + A.length + B.length + 202 < 4000) {x y n1 n2 K1 K2 K : Nat} {I1 : Nat → Nat → Int32} (hx : x < a + A.length + B.length) (hy : y < a + A.length + B.length) (h1 : vK K1 n1) (h2 : vK K2 n2) (hn : n1 + gpN n1 n2 + n2 ≤ 24) (hcK : cat K1 K2 = some K) (hlx : I1 73 x = nI n1) (hly : I1 73 y = nI n2) (hcy : ∀ j, j < n2 → I1 72 (24 * y + j) = nI (dg K2 j - 1)) (hKx : enR I1 x K1) (h15 : I1 65 15 = nI ((a + A.length + B.length) + C.length)) (hC : C.length ≤ 200) (hs : segR I1 (a + A.length + B.length) C) (g0 : addG apF 200 K C = none → ∀ I5, frJ I1 I5 (a + A.length + B.length) → I5 65 15 = nI (a + A.length + B.length) → I5 65 21 = 1 → qJ m_X12_joins (qWP (d + 6)) Q 212 [(5, .int (nI y)), (4, .int (nI x)), (3, .int (nI (a + A.length + B.length))), (2, .int (nI (a + A.length))), (1, .int (nI a)), (0, .ref 65)] [] 0 0 (z, N, I5, L, R)) (g1 : ∀ C' I5, addG apF 200 K C = some C' → frJ I1 I5 (a + A.length + B.length) → I5 65 15 = nI ((a + A.length + B.length) + C'.length) → I5 65 21 = I1 65 21 → segR I5 (a + A.length + B.length) C' → qJ m_X12_joins (qWP (d + 6)) Q 212 [(5, .int (nI y)), (4, .int (nI x)), (3, .int (nI (a + A.length + B.length))), (2, .int (nI (a + A.length))), (1, .int (nI a)), (0, .ref 65)] [] 0 0 (z, N, I5, L, R)) :  qJ m_X12_joins (qWP (d + 6)) Q 99 [(7, .int (nI (n1 + gpN n1 n2 + n2))), (6, .int (nI (gpN n1 n2))), (5, .int (nI y)), (4, .int (nI x)), (3, .int (nI (a + A.length + B.length))), (2, .int (nI (a + A.length))), (1, .int (nI a)), (0, .ref 65)] [] 0 0 (z, N, I1, L, R) := by
  skip
  have hn1 := h1.1
  have hn2 := h2.1
  refine qJ_run (qWP_mono _) [99, 139] 400 ?_
  refine ⟨⟨Nat.le_refl _, Nat.le_refl _⟩, ?_⟩
  refine qWP_as (as' := [.ref 65, .int (nI x), .int (nI ((a + A.length + B.length) + C.length))]) (show [Value.ref 65, .int (nI x), .int (I1 65 15)] = _ by rw [h15]) ?_
  refine c_X12_copies (d := d + 4) (by omega) (by omega) hKx fun I2 k1 k2 => ?_
  have b15 : I2 65 15 = nI ((a + A.length + B.length) + C.length) := by rw [k1.1 65 (by decide) (by decide)]; exact h15
  obtain ⟨n1', hv1, k3, k4⟩ := k2
  have e1 : n1 = n1' := vK_n h1 hv1
  subst e1
  have b73 : I2 73 x = nI n1 := ((k1.2 x (by omega)).1).trans hlx
  have eix : 24 * I2 65 15 + I2 73 (nI x).toNatClampNeg = nI (24 * ((a + A.length + B.length) + C.length) + n1) := by rw [b15, nI_clamp (by omega), b73, ix24]
  refine ⟨fun (c1 : ¬ (nI (gpN n1 n2)) = 1) => ?_, fun (c1 : (nI (gpN n1 n2)) = 1) => ?_⟩
  · change qJ m_X12_joins (qWP _) Q 139 [(8, .int 0), (7, .int (nI (n1 + gpN n1 n2 + n2))), (6, .int (nI (gpN n1 n2))), (5, .int (nI y)), (4, .int (nI x)), (3, .int (nI (a + A.length + B.length))), (2, .int (nI (a + A.length))), (1, .int (nI a)), (0, .ref 65)] [] _ _ (z, N, I2, L, R)
    have hg : ¬ gpN n1 n2 = 1 := fun h9 => c1 (by rw [h9]; rfl)
    refine l_X12_joinsK (d := d) (I := I1) hb hx hy h1 h2 hn hcK hlx hly hcy h15 hC hs g0 g1 n2 0 I2 (by omega) (fun c c1 c2 => k1.1 c c1 c2) k3 (fun t ht => (k1.2 t ht).1) k4 (fun h9 => absurd h9 hg) (fun j hj => absurd hj (by omega)) (fun c hc => ?_)
    have e24 : c = 24 * (c / 24) + c % 24 := by omega
    have := (k1.2 (c / 24) (by omega)).2 (c % 24) (by omega)
    rw [← e24] at this
    exact this
  · refine ⟨?_, ?_⟩
    · show vp_in (nI x) 4000
      exact vp_in_nI (by omega) (by decide)
    refine ⟨?_, ?_⟩
    · show vp_in ((24 * (I2 65 15)) + (I2 73 ((nI x).toNatClampNeg))) 96000
      rw [eix]
      exact vp_in_nI (by omega) (by decide)
    change qJ m_X12_joins (qWP _) Q 139 [(8, .int 0), (7, .int (nI (n1 + gpN n1 n2 + n2))), (6, .int (nI (gpN n1 n2))), (5, .int (nI y)), (4, .int (nI x)), (3, .int (nI (a + A.length + B.length))), (2, .int (nI (a + A.length))), (1, .int (nI a)), (0, .ref 65)] [] _ _ (z, N, q2 I2 72 (((24 * (I2 65 15)) + (I2 73 ((nI x).toNatClampNeg))).toNatClampNeg) 0, L, R)
    have hg : gpN n1 n2 = 1 := by
      have : gpN n1 n2 ≤ 1 := by unfold gpN; split <;> omega
      exact (nI_eq (b := 1) (by omega) (by decide)).mp c1
    have hg2 : n1 < 24 := by omega
    rw [eix, nI_clamp (by omega)]
    refine l_X12_joinsK (d := d) (I := I1) hb hx hy h1 h2 hn hcK hlx hly hcy h15 hC hs g0 g1 n2 0 _ (by omega) (fun c c1 c2 => by rw [q2_ne c1]; exact k1.1 c c1 c2) (by rw [q2_ne (by decide)]; exact k3) (fun t ht => by rw [q2_ne (by decide)]; exact (k1.2 t ht).1) (fun j hj => by rw [q2_nj (by omega)]; exact k4 j hj) (fun _ => q2_at) (fun j hj => absurd hj (by omega)) (fun c hc => ?_)
    rw [q2_nj (by omega)]
    have e24 : c = 24 * (c / 24) + c % 24 := by omega
    have := (k1.2 (c / 24) (by omega)).2 (c % 24) (by omega)
    rw [← e24] at this
    exact this
/-! formulas: the reference's pairs, all of them -/
theorem l_X12_joinsN {d z : Nat} {N : Nat → Nat} {I : Nat → Nat → Int32} {L : Nat → Nat → Int64} {R : Nat → Nat → Option Nat} {Q : qP} {a x y : Nat} {A B : List Nat} (h : qJ m_X12_joins (qWP (d + 6)) Q 24 [(5, .int (nI (y + 1))), (4, .int (nI x)), (3, .int (nI (a + A.length + B.length))), (2, .int (nI (a + A.length))), (1, .int (nI a)), (0, .ref 65)] [] 0 0 (z, N, I, L, R)) :  qJ m_X12_joins (qWP (d + 6)) Q 212 [(5, .int (nI y)), (4, .int (nI x)), (3, .int (nI (a + A.length + B.length))), (2, .int (nI (a + A.length))), (1, .int (nI a)), (0, .ref 65)] [] 0 0 (z, N, I, L, R) := by
  skip
  refine qJ_run (qWP_mono _) [24, 212] 400 ?_
  change qJ m_X12_joins (qWP _) Q 24 [(5, .int ((nI y) + 1)), (4, .int (nI x)), (3, .int (nI (a + A.length + B.length))), (2, .int (nI (a + A.length))), (1, .int (nI a)), (0, .ref 65)] [] _ _ (z, N, I, L, R)
  rw [nI_1]
  exact h
theorem l_X12_joinsS8 {d z : Nat} {N : Nat → Nat} {I : Nat → Nat → Int32} {L : Nat → Nat → Int64} {R : Nat → Nat → Option Nat} {Q : qP} {a : Nat} {A B : List Nat} {W : Option (List Nat)} (hb : a + A.length + B.length + 202 < 4000) (hF : ∀ (x : Int32) (C : List Nat) (I2 : Nat → Nat → Int32), frJ I I2 (a + A.length + B.length) → I2 65 15 = nI ((a + A.length + B.length) + C.length) → C.length ≤ 200 → segR I2 (a + A.length + B.length) C → ((I2 65 21 = 1 ∧ W = none) ∨ (I2 65 21 = 0 ∧ W = some C)) → qJ m_X12_joins (qWP (d + 6)) Q 224 [(4, .int x), (3, .int (nI (a + A.length + B.length))), (2, .int (nI (a + A.length))), (1, .int (nI a)), (0, .ref 65)] [] 0 0 (z, N, I2, L, R)) : ∀ (x : Int32) (C : List Nat) (I2 : Nat → Nat → Int32), frJ I I2 (a + A.length + B.length) → I2 65 15 = nI ((a + A.length + B.length) + C.length) → C.length ≤ 200 → segR I2 (a + A.length + B.length) C → I2 65 21 = 1 → W = none → qJ m_X12_joins (qWP (d + 6)) Q 8 [(4, .int x), (3, .int (nI (a + A.length + B.length))), (2, .int (nI (a + A.length))), (1, .int (nI a)), (0, .ref 65)] [] 0 0 (z, N, I2, L, R) := by
  skip
  intro x C I2 hf h15 hC hs hsp hW
  refine qJ_run (qWP_mono _) [8, 224] 400 ?_
  refine ⟨fun (c1 : (nI (a + A.length)) ≤ x) => ?_, fun (c1 : ¬ (nI (a + A.length)) ≤ x) => ?_⟩
  · change qJ m_X12_joins (qWP _) Q 224 [(4, .int x), (3, .int (nI (a + A.length + B.length))), (2, .int (nI (a + A.length))), (1, .int (nI a)), (0, .ref 65)] [] _ _ (z, N, I2, L, R)
    exact hF _ C I2 hf h15 hC hs (Or.inl ⟨hsp, hW⟩)
  · refine ⟨fun _ => ?_, fun hx => absurd hx (show ¬ (I2 65 21) = 0 from by rw [hsp]; decide)⟩
    change qJ m_X12_joins (qWP _) Q 224 [(4, .int x), (3, .int (nI (a + A.length + B.length))), (2, .int (nI (a + A.length))), (1, .int (nI a)), (0, .ref 65)] [] _ _ (z, N, I2, L, R)
    exact hF _ C I2 hf h15 hC hs (Or.inl ⟨hsp, hW⟩)
theorem l_X12_joinsS24 {d z : Nat} {N : Nat → Nat} {I : Nat → Nat → Int32} {L : Nat → Nat → Int64} {R : Nat → Nat → Option Nat} {Q : qP} {a : Nat} {A B : List Nat} {W : Option (List Nat)} (hb : a + A.length + B.length + 202 < 4000) (hF : ∀ (x : Int32) (C : List Nat) (I2 : Nat → Nat → Int32), frJ I I2 (a + A.length + B.length) → I2 65 15 = nI ((a + A.length + B.length) + C.length) → C.length ≤ 200 → segR I2 (a + A.length + B.length) C → ((I2 65 21 = 1 ∧ W = none) ∨ (I2 65 21 = 0 ∧ W = some C)) → qJ m_X12_joins (qWP (d + 6)) Q 224 [(4, .int x), (3, .int (nI (a + A.length + B.length))), (2, .int (nI (a + A.length))), (1, .int (nI a)), (0, .ref 65)] [] 0 0 (z, N, I2, L, R)) : ∀ (y x : Int32) (C : List Nat) (I2 : Nat → Nat → Int32), frJ I I2 (a + A.length + B.length) → I2 65 15 = nI ((a + A.length + B.length) + C.length) → C.length ≤ 200 → segR I2 (a + A.length + B.length) C → I2 65 21 = 1 → W = none → qJ m_X12_joins (qWP (d + 6)) Q 24 [(5, .int y), (4, .int x), (3, .int (nI (a + A.length + B.length))), (2, .int (nI (a + A.length))), (1, .int (nI a)), (0, .ref 65)] [] 0 0 (z, N, I2, L, R) := by
  skip
  intro y x C I2 hf h15 hC hs hsp hW
  refine qJ_run (qWP_mono _) [8, 24] 400 ?_
  refine ⟨fun (c1 : (nI (a + A.length + B.length)) ≤ y) => ?_, fun (c1 : ¬ (nI (a + A.length + B.length)) ≤ y) => ?_⟩
  · refine qJ_nm (qWP_mono _) [(5, _)] [(4, .int (x + 1)), (3, .int (nI (a + A.length + B.length))), (2, .int (nI (a + A.length))), (1, .int (nI a)), (0, .ref 65)] rfl rfl rfl ?_
    change qJ m_X12_joins (qWP _) Q 8 [(4, .int (x + 1)), (3, .int (nI (a + A.length + B.length))), (2, .int (nI (a + A.length))), (1, .int (nI a)), (0, .ref 65)] [] _ _ (z, N, I2, L, R)
    exact l_X12_joinsS8 (d := d) hb hF _ C I2 hf h15 hC hs hsp hW
  · refine ⟨fun _ => ?_, fun hx => absurd hx (show ¬ (I2 65 21) = 0 from by rw [hsp]; decide)⟩
    refine qJ_nm (qWP_mono _) [(5, _)] [(4, .int (x + 1)), (3, .int (nI (a + A.length + B.length))), (2, .int (nI (a + A.length))), (1, .int (nI a)), (0, .ref 65)] rfl rfl rfl ?_
    change qJ m_X12_joins (qWP _) Q 8 [(4, .int (x + 1)), (3, .int (nI (a + A.length + B.length))), (2, .int (nI (a + A.length))), (1, .int (nI a)), (0, .ref 65)] [] _ _ (z, N, I2, L, R)
    exact l_X12_joinsS8 (d := d) hb hF _ C I2 hf h15 hC hs hsp hW
theorem l_X12_joins24 {d z : Nat} {N : Nat → Nat} {I : Nat → Nat → Int32} {L : Nat → Nat → Int64} {R : Nat → Nat → Option Nat} {Q : qP} {a : Nat} {A B : List Nat} {W : Option (List Nat)} (hb : a + A.length + B.length + 202 < 4000) (hA : segR I a A) (hB : segR I (a + A.length) B) (hF : ∀ (x : Int32) (C : List Nat) (I2 : Nat → Nat → Int32), frJ I I2 (a + A.length + B.length) → I2 65 15 = nI ((a + A.length + B.length) + C.length) → C.length ≤ 200 → segR I2 (a + A.length + B.length) C → ((I2 65 21 = 1 ∧ W = none) ∨ (I2 65 21 = 0 ∧ W = some C)) → qJ m_X12_joins (qWP (d + 6)) Q 224 [(4, .int x), (3, .int (nI (a + A.length + B.length))), (2, .int (nI (a + A.length))), (1, .int (nI a)), (0, .ref 65)] [] 0 0 (z, N, I2, L, R)) {i : Nat} (hi : i < A.length) (hnx : ∀ (C : List Nat) (I1 : Nat → Nat → Int32), frJ I I1 (a + A.length + B.length) → I1 65 15 = nI ((a + A.length + B.length) + C.length) → C.length ≤ 200 → segR I1 (a + A.length + B.length) C → I1 65 21 = 0 → addI apF 200 (prI (A.drop (i + 1)) B) C = W → qJ m_X12_joins (qWP (d + 6)) Q 8 [(4, .int (nI (a + i + 1))), (3, .int (nI (a + A.length + B.length))), (2, .int (nI (a + A.length))), (1, .int (nI a)), (0, .ref 65)] [] 0 0 (z, N, I1, L, R)) : ∀ (q j : Nat) (C : List Nat) (I1 : Nat → Nat → Int32), j + q = B.length → frJ I I1 (a + A.length + B.length) → I1 65 15 = nI ((a + A.length + B.length) + C.length) → C.length ≤ 200 → segR I1 (a + A.length + B.length) C → I1 65 21 = 0 → addI apF 200 ((B.drop j).map (cat (A.getD i 0)) ++ prI (A.drop (i + 1)) B) C = W → qJ m_X12_joins (qWP (d + 6)) Q 24 [(5, .int (nI ((a + A.length) + j))), (4, .int (nI (a + i))), (3, .int (nI (a + A.length + B.length))), (2, .int (nI (a + A.length))), (1, .int (nI a)), (0, .ref 65)] [] 0 0 (z, N, I1, L, R) := by
  refine nat_ind fun q ih => ?_
  intro j C I1 hjq hf h15 hC hs hsp hW
  refine qJ_run (qWP_mono _) [8, 24, 99] 400 ?_
  refine ⟨fun (c1 : (nI (a + A.length + B.length)) ≤ (nI ((a + A.length) + j))) => ?_, fun (c1 : ¬ (nI (a + A.length + B.length)) ≤ (nI ((a + A.length) + j))) => ?_⟩
  · have hj : j = B.length := by
      have c9 := c1
      rw [nI_leI (by omega) (by omega)] at c9
      omega
    refine qJ_nm (qWP_mono _) [(5, _)] [(4, .int ((nI (a + i)) + 1)), (3, .int (nI (a + A.length + B.length))), (2, .int (nI (a + A.length))), (1, .int (nI a)), (0, .ref 65)] rfl rfl rfl ?_
    change qJ m_X12_joins (qWP _) Q 8 [(4, .int ((nI (a + i)) + 1)), (3, .int (nI (a + A.length + B.length))), (2, .int (nI (a + A.length))), (1, .int (nI a)), (0, .ref 65)] [] _ _ (z, N, I1, L, R)
    rw [nI_1]
    rw [hj, List.drop_length] at hW
    exact hnx C I1 hf h15 hC hs hsp hW
  · have hj : j < B.length := by
      refine Decidable.byContradiction fun h9 => c1 ?_
      exact nI_le (by omega) (by omega)
    obtain ⟨n1, v1, l1, c1x⟩ := enR_s (hA i hi) (hf.2.2 _ (by omega))
    obtain ⟨n2, v2, l2, c2x⟩ := enR_s (hB j hj) (hf.2.2 _ (by omega))
    have b1 := v1.1
    have b2 := v2.1
    have ex : I1 73 (nI (a + i)).toNatClampNeg = nI n1 := by rw [nI_clamp (by omega)]; exact l1
    have ey : I1 73 (nI ((a + A.length) + j)).toNatClampNeg = nI n2 := by rw [nI_clamp (by omega)]; exact l2
    have hdr : (B.drop j).map (cat (A.getD i 0)) ++ prI (A.drop (i + 1)) B = cat (A.getD i 0) (B.getD j 0) :: ((B.drop (j + 1)).map (cat (A.getD i 0)) ++ prI (A.drop (i + 1)) B) := by rw [drop_c hj]; rfl
    refine ⟨fun hx => absurd (show (I1 65 21) = 0 from hsp) hx, fun _ => ?_⟩
    refine ⟨?_, ?_⟩
    · show vp_in (nI (a + i)) 4000
      exact vp_in_nI (by omega) (by decide)
    refine ⟨fun (c3 : (I1 73 ((nI (a + i)).toNatClampNeg)) ≤ 0) => ?_, fun (c3 : ¬ (I1 73 ((nI (a + i)).toNatClampNeg)) ≤ 0) => ?_⟩
    · have g1 : n1 = 0 := by
        have c9 := c3
        rw [ex] at c9
        have := (nI_leI (b := 0) (by omega) (by omega)).mp c9
        omega
      refine ⟨?_, ?_⟩
      · show vp_in (nI (a + i)) 4000
        exact vp_in_nI (by omega) (by decide)
      refine ⟨?_, ?_⟩
      · show vp_in (nI ((a + A.length) + j)) 4000
        exact vp_in_nI (by omega) (by decide)
      refine ⟨fun (c4 : (((I1 73 ((nI (a + i)).toNatClampNeg)) + 0) + (I1 73 ((nI ((a + A.length) + j)).toNatClampNeg))) ≤ 24) => ?_, fun (c4 : ¬ (((I1 73 ((nI (a + i)).toNatClampNeg)) + 0) + (I1 73 ((nI ((a + A.length) + j)).toNatClampNeg))) ≤ 24) => ?_⟩
      · change qJ m_X12_joins (qWP _) Q 99 [(7, .int (((I1 73 ((nI (a + i)).toNatClampNeg)) + 0) + (I1 73 ((nI ((a + A.length) + j)).toNatClampNeg)))), (6, .int 0), (5, .int (nI ((a + A.length) + j))), (4, .int (nI (a + i))), (3, .int (nI (a + A.length + B.length))), (2, .int (nI (a + A.length))), (1, .int (nI a)), (0, .ref 65)] [] _ _ (z, N, I1, L, R)
        have hg : gpN n1 n2 = 0 := if_neg (by omega)
        have hle : n1 + gpN n1 n2 + n2 ≤ 24 := by
          have c9 := c4
          rw [ex, ey, show (0 : Int32) = nI 0 from rfl, nI_add, nI_add] at c9
          rw [hg]
          exact (nI_leI (b := 24) (by omega) (by omega)).mp c9
        have enn : I1 73 (nI (a + i)).toNatClampNeg + 0 + I1 73 (nI ((a + A.length) + j)).toNatClampNeg = nI (n1 + gpN n1 n2 + n2) := by
          rw [ex, ey, show (0 : Int32) = nI 0 from rfl, nI_add, nI_add, hg]
        have egp : (0 : Int32) = nI (gpN n1 n2) := by rw [hg]; rfl
        obtain ⟨K, hcK, hvK, _, _, _⟩ := cat_c v1 v2 hle
        have hdrW := hW
        rw [hdr, hcK, addI_c, addI1] at hdrW
        rw [enn, egp]
        refine l_X12_joinsB (d := d) (I := I) hb (show (a + i) < (a + A.length + B.length) by omega) (show ((a + A.length) + j) < (a + A.length + B.length) by omega) v1 v2 hle hcK l1 l2 c2x ⟨n1, v1, l1, c1x⟩ h15 hC hs (fun ea I5 k1 k2 k3 => l_X12_joinsN (d := d) ?_) (fun C5 I5 ea k1 k2 k3 k4 => l_X12_joinsN (d := d) ?_)
        · rw [ea] at hdrW
          exact l_X12_joinsS24 (d := d) hb hF _ _ [] _ (frJ_t hf k1 (Nat.le_refl _)) k2 (by decide) (fun i hi => absurd hi (by simp)) k3 hdrW.symm
        · rw [ea] at hdrW
          obtain ⟨p, rfl⟩ : ∃ p, q = p + 1 := ⟨q - 1, by omega⟩
          exact ih p rfl (j + 1) C5 I5 (by omega) (frJ_t hf k1 (Nat.le_refl _)) k2 (addG_len pc_apF ea hC) k4 (k3.trans hsp) hdrW
      · refine ⟨?_, ?_⟩
        · first | exact Or.inl rfl | exact Or.inr rfl | (clear ih hF hnx hs hf hA hB; grind)
        refine qJ_nm (qWP_mono _) [(7, _), (6, _)] [(5, .int ((nI ((a + A.length) + j)) + 1)), (4, .int (nI (a + i))), (3, .int (nI (a + A.length + B.length))), (2, .int (nI (a + A.length))), (1, .int (nI a)), (0, .ref 65)] rfl rfl rfl ?_
        change qJ m_X12_joins (qWP _) Q 24 [(5, .int ((nI ((a + A.length) + j)) + 1)), (4, .int (nI (a + i))), (3, .int (nI (a + A.length + B.length))), (2, .int (nI (a + A.length))), (1, .int (nI a)), (0, .ref 65)] [] _ _ (z, N, q2 I1 65 21 1, L, R)
        have hg : gpN n1 n2 = 0 := if_neg (by omega)
        have hbig : 24 < n1 + gpN n1 n2 + n2 := Nat.not_le.mp fun h9 => c4 (by
          rw [ex, ey, show (0 : Int32) = nI 0 from rfl, nI_add, nI_add]
          rw [hg] at h9
          exact nI_le (b := 24) h9 (by omega))
        have hW2 : W = none := by rw [← hW, hdr, cat_no v1 v2 hbig]; rfl
        exact l_X12_joinsS24 (d := d) hb hF _ _ C _ (frJ_t hf (frK_J (frK_s frK_r (by decide)) (a := (a + A.length + B.length))) (Nat.le_refl _)) (by rw [q2_nj (by decide)]; exact h15) hC (segR_s hs fun i _ => frK_E (frK_s frK_r (by decide))) q2_at hW2
    · have g1 : 0 < n1 := Nat.pos_of_ne_zero fun h9 => c3 (by rw [ex, h9]; decide)
      refine ⟨?_, ?_⟩
      · show vp_in (nI ((a + A.length) + j)) 4000
        exact vp_in_nI (by omega) (by decide)
      refine ⟨fun (c5 : (I1 73 ((nI ((a + A.length) + j)).toNatClampNeg)) ≤ 0) => ?_, fun (c5 : ¬ (I1 73 ((nI ((a + A.length) + j)).toNatClampNeg)) ≤ 0) => ?_⟩
      · have g2 : n2 = 0 := by
          have c9 := c5
          rw [ey] at c9
          have := (nI_leI (b := 0) (by omega) (by omega)).mp c9
          omega
        refine ⟨?_, ?_⟩
        · show vp_in (nI (a + i)) 4000
          exact vp_in_nI (by omega) (by decide)
        refine ⟨?_, ?_⟩
        · show vp_in (nI ((a + A.length) + j)) 4000
          exact vp_in_nI (by omega) (by decide)
        refine ⟨fun (c6 : (((I1 73 ((nI (a + i)).toNatClampNeg)) + 0) + (I1 73 ((nI ((a + A.length) + j)).toNatClampNeg))) ≤ 24) => ?_, fun (c6 : ¬ (((I1 73 ((nI (a + i)).toNatClampNeg)) + 0) + (I1 73 ((nI ((a + A.length) + j)).toNatClampNeg))) ≤ 24) => ?_⟩
        · change qJ m_X12_joins (qWP _) Q 99 [(7, .int (((I1 73 ((nI (a + i)).toNatClampNeg)) + 0) + (I1 73 ((nI ((a + A.length) + j)).toNatClampNeg)))), (6, .int 0), (5, .int (nI ((a + A.length) + j))), (4, .int (nI (a + i))), (3, .int (nI (a + A.length + B.length))), (2, .int (nI (a + A.length))), (1, .int (nI a)), (0, .ref 65)] [] _ _ (z, N, I1, L, R)
          have hg : gpN n1 n2 = 0 := if_neg (by omega)
          have hle : n1 + gpN n1 n2 + n2 ≤ 24 := by
            have c9 := c6
            rw [ex, ey, show (0 : Int32) = nI 0 from rfl, nI_add, nI_add] at c9
            rw [hg]
            exact (nI_leI (b := 24) (by omega) (by omega)).mp c9
          have enn : I1 73 (nI (a + i)).toNatClampNeg + 0 + I1 73 (nI ((a + A.length) + j)).toNatClampNeg = nI (n1 + gpN n1 n2 + n2) := by
            rw [ex, ey, show (0 : Int32) = nI 0 from rfl, nI_add, nI_add, hg]
          have egp : (0 : Int32) = nI (gpN n1 n2) := by rw [hg]; rfl
          obtain ⟨K, hcK, hvK, _, _, _⟩ := cat_c v1 v2 hle
          have hdrW := hW
          rw [hdr, hcK, addI_c, addI1] at hdrW
          rw [enn, egp]
          refine l_X12_joinsB (d := d) (I := I) hb (show (a + i) < (a + A.length + B.length) by omega) (show ((a + A.length) + j) < (a + A.length + B.length) by omega) v1 v2 hle hcK l1 l2 c2x ⟨n1, v1, l1, c1x⟩ h15 hC hs (fun ea I5 k1 k2 k3 => l_X12_joinsN (d := d) ?_) (fun C5 I5 ea k1 k2 k3 k4 => l_X12_joinsN (d := d) ?_)
          · rw [ea] at hdrW
            exact l_X12_joinsS24 (d := d) hb hF _ _ [] _ (frJ_t hf k1 (Nat.le_refl _)) k2 (by decide) (fun i hi => absurd hi (by simp)) k3 hdrW.symm
          · rw [ea] at hdrW
            obtain ⟨p, rfl⟩ : ∃ p, q = p + 1 := ⟨q - 1, by omega⟩
            exact ih p rfl (j + 1) C5 I5 (by omega) (frJ_t hf k1 (Nat.le_refl _)) k2 (addG_len pc_apF ea hC) k4 (k3.trans hsp) hdrW
        · refine ⟨?_, ?_⟩
          · first | exact Or.inl rfl | exact Or.inr rfl | (clear ih hF hnx hs hf hA hB; grind)
          refine qJ_nm (qWP_mono _) [(7, _), (6, _)] [(5, .int ((nI ((a + A.length) + j)) + 1)), (4, .int (nI (a + i))), (3, .int (nI (a + A.length + B.length))), (2, .int (nI (a + A.length))), (1, .int (nI a)), (0, .ref 65)] rfl rfl rfl ?_
          change qJ m_X12_joins (qWP _) Q 24 [(5, .int ((nI ((a + A.length) + j)) + 1)), (4, .int (nI (a + i))), (3, .int (nI (a + A.length + B.length))), (2, .int (nI (a + A.length))), (1, .int (nI a)), (0, .ref 65)] [] _ _ (z, N, q2 I1 65 21 1, L, R)
          have hg : gpN n1 n2 = 0 := if_neg (by omega)
          have hbig : 24 < n1 + gpN n1 n2 + n2 := Nat.not_le.mp fun h9 => c6 (by
            rw [ex, ey, show (0 : Int32) = nI 0 from rfl, nI_add, nI_add]
            rw [hg] at h9
            exact nI_le (b := 24) h9 (by omega))
          have hW2 : W = none := by rw [← hW, hdr, cat_no v1 v2 hbig]; rfl
          exact l_X12_joinsS24 (d := d) hb hF _ _ C _ (frJ_t hf (frK_J (frK_s frK_r (by decide)) (a := (a + A.length + B.length))) (Nat.le_refl _)) (by rw [q2_nj (by decide)]; exact h15) hC (segR_s hs fun i _ => frK_E (frK_s frK_r (by decide))) q2_at hW2
      · have g2 : 0 < n2 := Nat.pos_of_ne_zero fun h9 => c5 (by rw [ey, h9]; decide)
        refine ⟨?_, ?_⟩
        · show vp_in (nI (a + i)) 4000
          exact vp_in_nI (by omega) (by decide)
        refine ⟨?_, ?_⟩
        · show vp_in (nI ((a + A.length) + j)) 4000
          exact vp_in_nI (by omega) (by decide)
        refine ⟨fun (c7 : (((I1 73 ((nI (a + i)).toNatClampNeg)) + 1) + (I1 73 ((nI ((a + A.length) + j)).toNatClampNeg))) ≤ 24) => ?_, fun (c7 : ¬ (((I1 73 ((nI (a + i)).toNatClampNeg)) + 1) + (I1 73 ((nI ((a + A.length) + j)).toNatClampNeg))) ≤ 24) => ?_⟩
        · change qJ m_X12_joins (qWP _) Q 99 [(7, .int (((I1 73 ((nI (a + i)).toNatClampNeg)) + 1) + (I1 73 ((nI ((a + A.length) + j)).toNatClampNeg)))), (6, .int 1), (5, .int (nI ((a + A.length) + j))), (4, .int (nI (a + i))), (3, .int (nI (a + A.length + B.length))), (2, .int (nI (a + A.length))), (1, .int (nI a)), (0, .ref 65)] [] _ _ (z, N, I1, L, R)
          have hg : gpN n1 n2 = 1 := if_pos ⟨g1, g2⟩
          have hle : n1 + gpN n1 n2 + n2 ≤ 24 := by
            have c9 := c7
            rw [ex, ey, show (1 : Int32) = nI 1 from rfl, nI_add, nI_add] at c9
            rw [hg]
            exact (nI_leI (b := 24) (by omega) (by omega)).mp c9
          have enn : I1 73 (nI (a + i)).toNatClampNeg + 1 + I1 73 (nI ((a + A.length) + j)).toNatClampNeg = nI (n1 + gpN n1 n2 + n2) := by
            rw [ex, ey, show (1 : Int32) = nI 1 from rfl, nI_add, nI_add, hg]
          have egp : (1 : Int32) = nI (gpN n1 n2) := by rw [hg]; rfl
          obtain ⟨K, hcK, hvK, _, _, _⟩ := cat_c v1 v2 hle
          have hdrW := hW
          rw [hdr, hcK, addI_c, addI1] at hdrW
          rw [enn, egp]
          refine l_X12_joinsB (d := d) (I := I) hb (show (a + i) < (a + A.length + B.length) by omega) (show ((a + A.length) + j) < (a + A.length + B.length) by omega) v1 v2 hle hcK l1 l2 c2x ⟨n1, v1, l1, c1x⟩ h15 hC hs (fun ea I5 k1 k2 k3 => l_X12_joinsN (d := d) ?_) (fun C5 I5 ea k1 k2 k3 k4 => l_X12_joinsN (d := d) ?_)
          · rw [ea] at hdrW
            exact l_X12_joinsS24 (d := d) hb hF _ _ [] _ (frJ_t hf k1 (Nat.le_refl _)) k2 (by decide) (fun i hi => absurd hi (by simp)) k3 hdrW.symm
          · rw [ea] at hdrW
            obtain ⟨p, rfl⟩ : ∃ p, q = p + 1 := ⟨q - 1, by omega⟩
            exact ih p rfl (j + 1) C5 I5 (by omega) (frJ_t hf k1 (Nat.le_refl _)) k2 (addG_len pc_apF ea hC) k4 (k3.trans hsp) hdrW
        · refine ⟨?_, ?_⟩
          · first | exact Or.inl rfl | exact Or.inr rfl | (clear ih hF hnx hs hf hA hB; grind)
          refine qJ_nm (qWP_mono _) [(7, _), (6, _)] [(5, .int ((nI ((a + A.length) + j)) + 1)), (4, .int (nI (a + i))), (3, .int (nI (a + A.length + B.length))), (2, .int (nI (a + A.length))), (1, .int (nI a)), (0, .ref 65)] rfl rfl rfl ?_
          change qJ m_X12_joins (qWP _) Q 24 [(5, .int ((nI ((a + A.length) + j)) + 1)), (4, .int (nI (a + i))), (3, .int (nI (a + A.length + B.length))), (2, .int (nI (a + A.length))), (1, .int (nI a)), (0, .ref 65)] [] _ _ (z, N, q2 I1 65 21 1, L, R)
          have hg : gpN n1 n2 = 1 := if_pos ⟨g1, g2⟩
          have hbig : 24 < n1 + gpN n1 n2 + n2 := Nat.not_le.mp fun h9 => c7 (by
            rw [ex, ey, show (1 : Int32) = nI 1 from rfl, nI_add, nI_add]
            rw [hg] at h9
            exact nI_le (b := 24) h9 (by omega))
          have hW2 : W = none := by rw [← hW, hdr, cat_no v1 v2 hbig]; rfl
          exact l_X12_joinsS24 (d := d) hb hF _ _ C _ (frJ_t hf (frK_J (frK_s frK_r (by decide)) (a := (a + A.length + B.length))) (Nat.le_refl _)) (by rw [q2_nj (by decide)]; exact h15) hC (segR_s hs fun i _ => frK_E (frK_s frK_r (by decide))) q2_at hW2
theorem l_X12_joins8 {d z : Nat} {N : Nat → Nat} {I : Nat → Nat → Int32} {L : Nat → Nat → Int64} {R : Nat → Nat → Option Nat} {Q : qP} {a : Nat} {A B : List Nat} {W : Option (List Nat)} (hb : a + A.length + B.length + 202 < 4000) (hA : segR I a A) (hB : segR I (a + A.length) B) (hF : ∀ (x : Int32) (C : List Nat) (I2 : Nat → Nat → Int32), frJ I I2 (a + A.length + B.length) → I2 65 15 = nI ((a + A.length + B.length) + C.length) → C.length ≤ 200 → segR I2 (a + A.length + B.length) C → ((I2 65 21 = 1 ∧ W = none) ∨ (I2 65 21 = 0 ∧ W = some C)) → qJ m_X12_joins (qWP (d + 6)) Q 224 [(4, .int x), (3, .int (nI (a + A.length + B.length))), (2, .int (nI (a + A.length))), (1, .int (nI a)), (0, .ref 65)] [] 0 0 (z, N, I2, L, R)) : ∀ (q i : Nat) (C : List Nat) (I1 : Nat → Nat → Int32), i + q = A.length → frJ I I1 (a + A.length + B.length) → I1 65 15 = nI ((a + A.length + B.length) + C.length) → C.length ≤ 200 → segR I1 (a + A.length + B.length) C → I1 65 21 = 0 → addI apF 200 (prI (A.drop i) B) C = W → qJ m_X12_joins (qWP (d + 6)) Q 8 [(4, .int (nI (a + i))), (3, .int (nI (a + A.length + B.length))), (2, .int (nI (a + A.length))), (1, .int (nI a)), (0, .ref 65)] [] 0 0 (z, N, I1, L, R) := by
  refine nat_ind fun q ih => ?_
  intro i C I1 hiq hf h15 hC hs hsp hW
  refine qJ_run (qWP_mono _) [8, 24, 224] 400 ?_
  refine ⟨fun (c1 : (nI (a + A.length)) ≤ (nI (a + i))) => ?_, fun (c1 : ¬ (nI (a + A.length)) ≤ (nI (a + i))) => ?_⟩
  · have hi : i = A.length := by
      have c9 := c1
      rw [nI_leI (by omega) (by omega)] at c9
      omega
    change qJ m_X12_joins (qWP _) Q 224 [(4, .int (nI (a + i))), (3, .int (nI (a + A.length + B.length))), (2, .int (nI (a + A.length))), (1, .int (nI a)), (0, .ref 65)] [] _ _ (z, N, I1, L, R)
    rw [hi, prI_0 (Nat.le_refl _)] at hW
    exact hF _ C I1 hf h15 hC hs (Or.inr ⟨hsp, hW.symm⟩)
  · have hi : i < A.length := by
      refine Decidable.byContradiction fun h9 => c1 ?_
      exact nI_le (by omega) (by omega)
    refine ⟨fun hx => absurd (show (I1 65 21) = 0 from hsp) hx, fun _ => ?_⟩
    change qJ m_X12_joins (qWP _) Q 24 [(5, .int (nI (a + A.length))), (4, .int (nI (a + i))), (3, .int (nI (a + A.length + B.length))), (2, .int (nI (a + A.length))), (1, .int (nI a)), (0, .ref 65)] [] _ _ (z, N, I1, L, R)
    obtain ⟨p, rfl⟩ : ∃ p, q = p + 1 := ⟨q - 1, by omega⟩
    rw [prI_c hi] at hW
    exact l_X12_joins24 (d := d) hb hA hB hF hi (fun C' I' k1 k2 k3 k4 k5 k6 => ih p rfl (i + 1) C' I' (by omega) k1 k2 k3 k4 k5 k6) B.length 0 C I1 (Nat.zero_add _) hf h15 hC hs hsp hW
theorem c_X12_joins {d z : Nat} {N : Nat → Nat} {I : Nat → Nat → Int32} {L : Nat → Nat → Int64} {R : Nat → Nat → Option Nat} {Q : qP} {a : Nat} {A B : List Nat} (hb : a + A.length + B.length + 202 < 4000) (hA : segR I a A) (hB : segR I (a + A.length) B) (h15 : I 65 15 = nI (a + A.length + B.length)) (hsp : I 65 21 = 0) (h0 : addI apF 200 (prI A B) [] = none → ∀ I', frJ I I' a → I' 65 15 = nI a → I' 65 21 = 1 → Q none (z, N, I', L, R)) (h1 : ∀ C I', addI apF 200 (prI A B) [] = some C → frJ I I' a → I' 65 15 = nI (a + C.length) → I' 65 21 = 0 → segR I' a C → Q none (z, N, I', L, R)) : qWP (d + 7) 190 [.ref 65, .int (nI a), .int (nI (a + A.length))] (z, N, I, L, R) Q := by
  refine qWP_of m_X12_joins rfl rfl [(0, .ref 65), (1, .int (nI a)), (2, .int (nI (a + A.length)))] rfl ?_
  refine qJ_run (qWP_mono _) [8] 400 ?_
  refine qJ_nm (qWP_mono _) [] [(4, .int (nI a)), (3, .int (I 65 15)), (2, .int (nI (a + A.length))), (1, .int (nI a)), (0, .ref 65)] rfl rfl rfl ?_
  change qJ m_X12_joins (qWP _) Q 8 [(4, .int (nI a)), (3, .int (I 65 15)), (2, .int (nI (a + A.length))), (1, .int (nI a)), (0, .ref 65)] [] _ _ (z, N, I, L, R)
  rw [h15]
  exact l_X12_joins8 (d := d) hb hA hB (fun x C I2 k1 k2 k3 k4 k5 => l_X12_joinsF (d := d) hb h0 h1 x C I2 k1 k2 k3 k4 k5) A.length 0 [] I (Nat.zero_add _) frJ_r h15 (by decide) (fun i hi => absurd hi (by simp)) hsp rfl
