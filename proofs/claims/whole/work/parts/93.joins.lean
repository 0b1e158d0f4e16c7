/-! formulas: the reference's pairs -/
/-- how two texts lie one behind the other -/
def gpN (n1 n2 : Nat) : Nat := if 0 < n1 ∧ 0 < n2 then 1 else 0
theorem cat_c {K1 n1 K2 n2 : Nat} (h1 : vK K1 n1) (h2 : vK K2 n2) (hn : n1 + gpN n1 n2 + n2 ≤ 24) : ∃ K, cat K1 K2 = some K ∧ vK K (n1 + gpN n1 n2 + n2) ∧ (∀ j, j < n1 → dg K j = dg K1 j) ∧ (gpN n1 n2 = 1 → dg K n1 = 1) ∧ ∀ j, j < n2 → dg K (n1 + gpN n1 n2 + j) = dg K2 j := by
  unfold gpN at *
  by_cases a : n1 = 0
  · subst a
    rw [if_neg (by omega)] at hn ⊢
    refine ⟨K2, (cat_0 h1 h2).1 rfl, ?_, fun j hj => absurd hj (by omega), fun h => absurd h (by decide), fun j hj => ?_⟩
    · simpa using h2
    · simp
  · by_cases b : n2 = 0
    · subst b
      rw [if_neg (by omega)] at hn ⊢
      exact ⟨K1, (cat_0 h1 h2).2.1 a rfl, h1, fun j hj => rfl, fun h => absurd h (by decide), fun j hj => absurd hj (by omega)⟩
    · rw [if_pos ⟨by omega, by omega⟩] at hn ⊢
      have hD : ∀ k, k < 24 → dg (ofD 24 (catD K1 n1 K2)) k = catD K1 n1 K2 k := fun k hk => dg_ofD (fun _ => catD_lt) hk
      have hc := cat_dg h1 h2 a b hn (ofD_lt (fun _ => catD_lt) 24) hD
      have hv := (cat_v h1 h2 hc).1
      unfold catN at hv
      rw [if_neg a, if_neg b] at hv
      refine ⟨_, hc, hv, fun j hj => ?_, fun _ => ?_, fun j hj => ?_⟩
      · rw [hD j (by omega)]; unfold catD; rw [if_pos hj]
      · rw [hD n1 (by omega)]; unfold catD; rw [if_neg (by omega), if_pos rfl]
      · rw [hD _ (by omega)]; unfold catD; rw [if_neg (by omega), if_neg (by omega), if_pos (by omega), show n1 + 1 + j - n1 - 1 = j by omega]
theorem cat_no {K1 n1 K2 n2 : Nat} (h1 : vK K1 n1) (h2 : vK K2 n2) (hn : 24 < n1 + gpN n1 n2 + n2) : cat K1 K2 = none := by
  have a := h1.1
  have b := h2.1
  unfold gpN at hn
  split at hn
  · exact (cat_0 h1 h2).2.2 (by omega) (by omega) (by omega)
  · rename_i h9
    omega
theorem frJ_m {I I' : Nat → Nat → Int32} {a a' : Nat} (h : frJ I I' a') (ha : a ≤ a') : frJ I I' a := ⟨h.1, h.2.1, fun y hy => h.2.2 y (by omega)⟩
theorem frJ_K {I I' : Nat → Nat → Int32} {a : Nat} (h : frK I I') : frJ I I' a := frK_J h
theorem l_X12_joinsF1 {d z : Nat} {N : Nat → Nat} {I : Nat → Nat → Int32} {L : Nat → Nat → Int64} {R : Nat → Nat → Option Nat} {Q : qP} {a : Nat} {A B : List Nat} {W : Option (List Nat)} (hb : a + A.length + B.length + 202 < 4000) (h0 : W = none → ∀ I', frJ I I' a → I' 65 15 = nI a → I' 65 21 = 1 → Q none (z, N, I', L, R)) (h1 : ∀ C I', W = some C → frJ I I' a → I' 65 15 = nI (a + C.length) → I' 65 21 = 0 → segR I' a C → Q none (z, N, I', L, R)) {C : List Nat} (hC : C.length ≤ 200) : ∀ (q k : Nat) (I2 : Nat → Nat → Int32), k + q = C.length → frJ I I2 a → ((I2 65 21 = 1 ∧ W = none) ∨ (I2 65 21 = 0 ∧ W = some C)) → (∀ i, i < k → enR I2 (a + i) (C.getD i 0)) → (∀ i, k ≤ i → i < C.length → enR I2 ((a + A.length + B.length) + i) (C.getD i 0)) → qJ m_X12_joins (qWP (d + 6)) Q 235 [(5, .int (nI k)), (4, .int (nI C.length)), (3, .int (nI (a + A.length + B.length))), (2, .int (nI (a + A.length))), (1, .int (nI a)), (0, .ref 65)] [] 0 0 (z, N, I2, L, R) := by
  refine nat_ind fun q ih => ?_
  intro k I2 hkq hf hsp hp hr
  refine qJ_run (qWP_mono _) [235] 400 ?_
  refine ⟨fun (c1 : (nI C.length) ≤ (nI k)) => ?_, fun (c1 : ¬ (nI C.length) ≤ (nI k)) => ?_⟩
  · have hk2 : ¬ k < C.length := fun h9 => by
      have c9 := c1
      rw [nI_leI (by omega) (by omega)] at c9
      omega
    refine ⟨fun (c2 : (I2 65 21) = 0) => ?_, fun (c2 : ¬ (I2 65 21) = 0) => ?_⟩
    · change Q none (z, N, q2 I2 65 15 ((nI a) + (nI C.length)), L, R)
      obtain rfl : k = C.length := by omega
      rcases hsp with ⟨s1, s2⟩ | ⟨s1, s2⟩
      · exact absurd (c2.symm.trans s1) (by decide)
      · refine h1 C _ s2 (frJ_t hf (frK_J (frK_s frK_r (by decide)) (a := a)) (Nat.le_refl _)) (by rw [q2_at, nI_add]) ?_ (fun i hi => enR_s (hp i hi) (frK_E (frK_s frK_r (by decide))))
        rw [q2_nj (by decide)]; exact s1
    · change Q none (z, N, q2 I2 65 15 (nI a), L, R)
      obtain rfl : k = C.length := by omega
      rcases hsp with ⟨s1, s2⟩ | ⟨s1, s2⟩
      · refine h0 s2 _ (frJ_t hf (frK_J (frK_s frK_r (by decide)) (a := a)) (Nat.le_refl _)) q2_at ?_
        rw [q2_nj (by decide)]; exact s1
      · exact absurd s1 c2
  · have hk2 : k < C.length := by
      refine Decidable.byContradiction fun h9 => c1 ?_
      exact nI_le (by omega) (by omega)
    refine ⟨⟨Nat.le_refl _, Nat.le_refl _⟩, ?_⟩
    refine qWP_as (as' := [.ref 65, .int (nI ((a + A.length + B.length) + k)), .int (nI (a + k))]) (show [Value.ref 65, .int (nI (a + A.length + B.length) + nI k), .int (nI a + nI k)] = _ by rw [nI_add, nI_add]) ?_
    refine c_X12_copies (d := d + 4) (by omega) (by omega) (hr k (Nat.le_refl _) hk2) fun I3 hf3 hK3 => ?_
    change qJ m_X12_joins (qWP _) Q 235 [(5, .int ((nI k) + 1)), (4, .int (nI C.length)), (3, .int (nI (a + A.length + B.length))), (2, .int (nI (a + A.length))), (1, .int (nI a)), (0, .ref 65)] [] _ _ (z, N, I3, L, R)
    obtain ⟨p, rfl⟩ : ∃ p, q = p + 1 := ⟨q - 1, by omega⟩
    rw [nI_1]
    have h65 : I3 65 = I2 65 := hf3.1 65 (by decide) (by decide)
    refine ih p rfl (k + 1) I3 (by omega) (frJ_t hf (cpF_J hf3 (show a ≤ a + k by omega)) (Nat.le_refl _)) (by rw [h65]; exact hsp) (fun i hi => ?_) (fun i hi hi2 => enR_s (hr i (by omega) hi2) (hf3.2 _ (by omega)))
    by_cases e : i = k
    · rw [e]; exact hK3
    · exact enR_s (hp i (by omega)) (hf3.2 _ (by omega))
theorem l_X12_joinsF {d z : Nat} {N : Nat → Nat} {I : Nat → Nat → Int32} {L : Nat → Nat → Int64} {R : Nat → Nat → Option Nat} {Q : qP} {a : Nat} {A B : List Nat} {W : Option (List Nat)} (hb : a + A.length + B.length + 202 < 4000) (h0 : W = none → ∀ I', frJ I I' a → I' 65 15 = nI a → I' 65 21 = 1 → Q none (z, N, I', L, R)) (h1 : ∀ C I', W = some C → frJ I I' a → I' 65 15 = nI (a + C.length) → I' 65 21 = 0 → segR I' a C → Q none (z, N, I', L, R)) : ∀ (x : Int32) (C : List Nat) (I2 : Nat → Nat → Int32), frJ I I2 (a + A.length + B.length) → I2 65 15 = nI ((a + A.length + B.length) + C.length) → C.length ≤ 200 → segR I2 (a + A.length + B.length) C → ((I2 65 21 = 1 ∧ W = none) ∨ (I2 65 21 = 0 ∧ W = some C)) → qJ m_X12_joins (qWP (d + 6)) Q 224 [(4, .int x), (3, .int (nI (a + A.length + B.length))), (2, .int (nI (a + A.length))), (1, .int (nI a)), (0, .ref 65)] [] 0 0 (z, N, I2, L, R) := by
  skip
  intro x C I2 hf h15 hC hs hsp
  refine qJ_run (qWP_mono _) [224, 235] 400 ?_
  change qJ m_X12_joins (qWP _) Q 235 [(5, .int 0), (4, .int ((I2 65 15) - (nI (a + A.length + B.length)))), (3, .int (nI (a + A.length + B.length))), (2, .int (nI (a + A.length))), (1, .int (nI a)), (0, .ref 65)] [] _ _ (z, N, I2, L, R)
  have e1 : I2 65 15 - nI (a + A.length + B.length) = nI C.length := by
    rw [h15]
    refine (pk_sub (a := (a + A.length + B.length) + C.length) (b := (a + A.length + B.length)) (by omega)).trans ?_
    congr 1
    omega
  rw [e1]
  exact l_X12_joinsF1 (d := d) hb h0 h1 hC C.length 0 I2 (by omega) (frJ_m hf (by omega)) hsp (fun i hi => absurd hi (by omega)) (fun i _ hi => hs i hi)
