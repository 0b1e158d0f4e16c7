/-! formulas: the class's walk over the tape -/
def bT (I : Nat → Nat → Int32) (p : Nat) : Int32 := I 10 p &&& 255
theorem c_byte {d z : Nat} {N : Nat → Nat} {I : Nat → Nat → Int32} {L : Nat → Nat → Int64} {R : Nat → Nat → Option Nat} {Q : qP} {n e : Nat} (hn : I 9 1 = nI n) (h200 : n ≤ 200) (he : e < n) (h : Q (some (.int (bT I e))) (z, N, I, L, R)) : qWP (d + 1) 98 [.ref 9, .int (nI e)] (z, N, I, L, R) Q := by
  refine c_X8_byteAt (by rw [hn]; exact ⟨nI_pos' (by omega), show nI n ≤ nI 200 from nI_le h200 (by omega)⟩) fun v hv => ?_
  rw [hn, if_pos ⟨nI_pos' (by omega), nI_lt he (by omega)⟩, nI_clamp (by omega)] at hv
  rw [hv]
  exact h
theorem l_X8_lettersFrom {d z : Nat} {N : Nat → Nat} {I : Nat → Nat → Int32} {L : Nat → Nat → Int64} {R : Nat → Nat → Option Nat} {Q : qP} {n : Nat} (hn : I 9 1 = nI n) (h200 : n ≤ 200) {p : Nat} (h : Q (some (.int (nI (letN n (bT I) p)))) (z, N, I, L, R)) : ∀ (q e : Nat), e + q = n → p ≤ e → letN n (bT I) p = (e - p) + letN n (bT I) e → qJ m_X8_lettersFrom (qWP (d + 2)) Q 2 [(2, .int (nI e)), (1, .int (nI p)), (0, .ref 9)] [] 0 0 (z, N, I, L, R) := by
  refine nat_ind fun q ih => ?_
  intro e heq hpe hle
  refine qJ_run (qWP_mono _) [2] 400 ?_
  refine ⟨fun (c1 : (I 9 1) ≤ (nI e)) => ?_, fun (c1 : ¬ (I 9 1) ≤ (nI e)) => ?_⟩
  · have hep : ¬ e < n := fun h9 => by
      have c9 := c1
      rw [hn, nI_leI (by omega) (by omega)] at c9
      omega
    change Q (some (.int ((nI e) - (nI p)))) (z, N, I, L, R)
    have e0 : letN n (bT I) e = 0 := let_off (by first | (intro h9; exact hep h9.1) | (intro h9; exact hlt h9.2))
    rw [hle, e0, Nat.add_zero] at h
    rw [pk_sub hpe]
    exact h
  · have hep : e < n := by
      refine Decidable.byContradiction fun h9 => c1 ?_
      rw [hn]
      exact nI_le (by omega) (by omega)
    refine ⟨⟨Nat.le_refl _, Nat.le_refl _⟩, ?_⟩
    refine c_byte (d := d + 1) hn h200 hep ?_
    refine ⟨⟨Nat.le_refl _, Nat.le_refl _⟩, ?_⟩
    refine c_X8_letterOf fun v2 hv2 => ?_
    have hlx : v2 = -1 ↔ ¬ isLt (bT I e) := by
      rw [hv2]
      by_cases h9 : 97 ≤ bT I e ∧ bT I e ≤ 122
      · rw [if_pos h9]; constructor
        · intro h8; clear ih h; grind
        · intro h8; exact absurd h9 h8
      · rw [if_neg h9]; exact ⟨fun _ => h9, fun _ => rfl⟩
    refine ⟨fun (c2 : v2 = (-1)) => ?_, fun (c2 : ¬ v2 = (-1)) => ?_⟩
    · have hlt : ¬ isLt (bT I e) := hlx.mp c2
      change Q (some (.int ((nI e) - (nI p)))) (z, N, I, L, R)
      have e0 : letN n (bT I) e = 0 := let_off (by first | (intro h9; exact hep h9.1) | (intro h9; exact hlt h9.2))
      rw [hle, e0, Nat.add_zero] at h
      rw [pk_sub hpe]
      exact h
    · have hlt : isLt (bT I e) := Decidable.not_not.mp fun h9 => c2 (hlx.mpr h9)
      obtain ⟨k, rfl⟩ : ∃ k, q = k + 1 := ⟨q - 1, by omega⟩
      have hq9 := ih k rfl (e + 1) (by omega) (by omega) (by rw [hle, let_on hep hlt]; omega)
      rw [← nI_1] at hq9
      exact hq9
theorem c_X8_lettersFrom {d z : Nat} {N : Nat → Nat} {I : Nat → Nat → Int32} {L : Nat → Nat → Int64} {R : Nat → Nat → Option Nat} {Q : qP} {n : Nat} (hn : I 9 1 = nI n) (h200 : n ≤ 200) {p : Nat} (hp : p ≤ n) (h : Q (some (.int (nI (letN n (bT I) p)))) (z, N, I, L, R)) : qWP (d + 3) 99 [.ref 9, .int (nI p)] (z, N, I, L, R) Q := by
  refine qWP_of m_X8_lettersFrom rfl rfl [(0, .ref 9), (1, .int (nI p))] rfl ?_
  refine qJ_run (qWP_mono _) [2] 400 ?_
  refine qJ_nm (qWP_mono _) [] [(2, .int (nI p)), (1, .int (nI p)), (0, .ref 9)] rfl rfl rfl ?_
  exact l_X8_lettersFrom (d := d) hn h200 h (n - p) p (by omega) (Nat.le_refl _) (by omega)
theorem ofD_z {f f' : Nat → Nat} {m : Nat} (h1 : ∀ k, k < m → f' k = f k) (h2 : ∀ k, m ≤ k → f' k = 0) : ∀ q, ofD (m + q) f' = ofD m f * 32 ^ q := by
  intro q
  induction q with
  | zero => rw [Nat.add_zero, Nat.pow_zero, Nat.mul_one]; exact ofD_congr m h1
  | succ q ih => rw [← Nat.add_assoc, ofD, ih, h2 (m + q) (by omega), Nat.pow_succ, Nat.mul_assoc, Nat.add_zero]
def wD (b : Nat → Int32) (p k : Nat) : Nat := min ((b (p + k)).toInt.toNat - 95) 31
theorem wKey_h {b : Nat → Int32} {p m : Nat} (hm : m ≤ 8) : wKey b p m / 2 ^ 60 = ofD m (wD b p) * 2 ^ (5 * (12 - m)) ∧ wKey b p m % 2 ^ 60 = 0 := by
  have h := ofD_z (f := wD b p) (f' := fun k => if k < m then min ((b (p + k)).toInt.toNat - 95) 31 else 0) (m := m) (fun k hk => if_pos hk) (fun k hk => if_neg (by omega)) (24 - m)
  rw [show m + (24 - m) = 24 by omega] at h
  unfold wKey
  rw [h, pw32, show 5 * (24 - m) = 5 * (12 - m) + 60 by omega, Nat.pow_add, ← Nat.mul_assoc]
  exact ⟨Nat.mul_div_cancel _ (by decide), Nat.mul_mod_left _ _⟩
theorem wStep {b : Nat → Int32} {p k : Nat} (hk : k < 12) (hl : isLt (b (p + k))) : ∃ j, j ≤ 25 ∧ b (p + k) - 97 = nI j ∧ lN (ofD k (wD b p) * 2 ^ (5 * (12 - k))) ||| lN (cdN j * 2 ^ (5 * (11 - k))) = lN (ofD (k + 1) (wD b p) * 2 ^ (5 * (12 - (k + 1)))) := by
  have g1 := Int32.le_iff_toInt_le.mp hl.1
  have g2 := Int32.le_iff_toInt_le.mp hl.2
  rw [show (97 : Int32).toInt = 97 from rfl] at g1
  rw [show (122 : Int32).toInt = 122 from rfl] at g2
  have e0 : (b (p + k) - 97).toInt = (b (p + k)).toInt - 97 := ti_sub (by rw [show (97 : Int32).toInt = 97 from rfl]; omega)
  refine ⟨(b (p + k)).toInt.toNat - 97, by omega, Int32.toInt_inj.mp (by rw [e0, nI_toInt (by omega)]; omega), ?_⟩
  have e1 : cdN ((b (p + k)).toInt.toNat - 97) = wD b p k := by
    unfold cdN wD
    rw [if_neg (by omega)]
    omega
  have hw : wD b p k < 32 := by unfold wD; omega
  rw [e1, show 5 * (12 - k) = 5 * (11 - k) + 5 by omega, show 12 - (k + 1) = 11 - k by omega, Nat.mul_comm (ofD k (wD b p)), wOrS _ (by rw [Nat.pow_add]; rw [Nat.mul_comm]; exact Nat.mul_lt_mul_of_pos_left hw (Nat.two_pow_pos _)), ofD]
  congr 1
  rw [Nat.pow_add, Nat.add_mul, Nat.mul_assoc, Nat.mul_comm (2 ^ 5), Nat.mul_comm (2 ^ (5 * (11 - k)))]
theorem l_X2_takeWord {d z : Nat} {N : Nat → Nat} {I : Nat → Nat → Int32} {L : Nat → Nat → Int64} {R : Nat → Nat → Option Nat} {Q : qP} {I0 : Nat → Nat → Int32} {L0 : Nat → Nat → Int64} {R0 : Nat → Nat → Option Nat} {g : Nat → Nat} {s : sg} (hN : mkN z N) (hst : qStat (z, N, I, L, R)) (hm : mkR I0 L0 R0 g s I L R) {n : Nat} (hn : I 9 1 = nI n) (h200 : n ≤ 200) {p m : Nat} (hpm : p + m ≤ n) (hm0 : 0 < m) (hl : ∀ k, k < m → isLt (bT I (p + k))) (hen : gEn s = false) (hm8 : m ≤ 8) (_h0 : gEn s = true ∨ 8 < m → Q (some (.int 0)) (z, N, I, L, R)) (h1 : gEn s = false → m ≤ 8 → ∀ I' L' R', pend z N I0 L0 R0 g (aPc [wKey (bT I) p m] s) I' L' R' → qStat (z, N, I', L', R') → Q (some (.int 1)) (z, N, I', L', R')) : ∀ (q k : Nat), k + q = m → qJ m_X2_takeWord (qWP (d + 4)) Q 21 [(6, .int (nI k)), (4, .long (lN (ofD k (wD (bT I) p) * 2 ^ (5 * (12 - k))))), (3, .int (nI m)), (2, .int (nI p)), (1, .ref 9), (0, .ref 11)] [] 0 0 (z, N, I, L, R) := by
  refine nat_ind fun q ih => ?_
  intro k hkq
  refine qJ_run (qWP_mono _) [21] 400 ?_
  refine ⟨fun (c1 : (nI m) ≤ (nI k)) => ?_, fun (c1 : ¬ (nI m) ≤ (nI k)) => ?_⟩
  · have hkm : ¬ k < m := fun h9 => by
      have c9 := c1
      rw [nI_leI (by omega) (by omega)] at c9
      omega
    refine ⟨⟨Nat.le_refl _, Nat.le_refl _⟩, ?_⟩
    refine c_X9_clear1 (d := d + 3) (h := 15) (mkN_w hN) fun I1 hf1 hc1 => ?_
    refine ⟨⟨Nat.le_refl _, Nat.le_refl _⟩, ?_⟩
    obtain rfl : k = m := by omega
    obtain ⟨w1, w2⟩ := wKey_h (b := bT I) (p := p) hm8
    have hwv := wKey_v (b := bT I) (p := p) (m := k) (by omega) hl
    refine qWP_as (as' := [.ref 15, .long (lN (wKey (bT I) p k / 2 ^ 60)), .long (lN (wKey (bT I) p k % 2 ^ 60))]) (show [Value.ref 15, .long (lN (ofD k (wD (bT I) p) * 2 ^ (5 * (12 - k)))), .long (0 : Int64)] = _ by rw [w1, w2]; rfl) ?_
    refine c_X9_addF (d := d + 1) (h := 15) (mkN_w hN) hc1 (by decide) (Nat.lt_of_lt_of_le hwv.2.1 (by decide)) (fun e9 => absurd (e9.symm.trans (addG_0 (by decide))) (by simp)) (fun l2 I2 L2 ea hf2 hg2 hc2 => ?_)
    refine ⟨?_, ?_⟩
    · exact Nat.lt_of_succ_lt (mkN_w hN).2.2.2.1
    refine ⟨by first | exact Or.inl rfl | exact Or.inr rfl | (clear ih h1 hm hF; grind), ?_⟩
    change Q (some (.int 1)) (z, N, I2, L2, q2 R 11 5 (some 15))
    have el : [wKey (bT I) p k] = l2 := Option.some.inj ((addG_0 (by decide)).symm.trans ea)
    rw [← el] at hc2
    have hF := hm.1
    have hg := hF.1
    have h4 := hF.2.1
    have hk15 : (15 : Nat) ∈ seK := by decide
    have hne : ∀ j, j ≤ gLv s → g j ≠ 15 ∧ 21 + 4 * j ≠ 15 := fun j hj => ⟨(rwK_n (hg.1 j (by omega))).2.1, by omega⟩
    have hm2 : mkR I0 L0 R0 g s I2 L2 R := ⟨mkF_set (mkF_set hF hk15 hf1 frL_id) hk15 hf2 hg2, fun hsp => mkC_free (mkC_free (hm.2 hsp) hf1 frL_id hne) hf2 hg2 hne⟩
    have ok1 : okS [wKey (bT I) p k] := ⟨by simp, fun i hi => by
      obtain rfl : i = 0 := by simpa using hi
      exact ⟨k, hwv⟩⟩
    exact h1 hen hm8 I2 L2 _ (Or.inl ⟨s, 15, 1, [wKey (bT I) p k], rfl, mkR_p hm2, q2_at, mkN_w hN, fun _ => ⟨hc2, ok1, by simp⟩, fun j hj e => (rwK_n (hg.1 j hj)).2.1 e.symm⟩) (st_p hst)
  · have hkm : k < m := by
      refine Decidable.byContradiction fun h9 => c1 ?_
      exact nI_le (by omega) (by omega)
    refine ⟨⟨Nat.le_refl _, Nat.le_refl _⟩, ?_⟩
    have ep : nI p + nI k = nI (p + k) := nI_add p k
    refine qWP_as (as' := [.ref 9, .int (nI (p + k))]) (show [Value.ref 9, .int (nI p + nI k)] = _ by rw [ep]) ?_
    refine c_byte (d := d + 3) hn h200 (show p + k < n by omega) ?_
    refine ⟨⟨Nat.le_refl _, Nat.le_refl _⟩, ?_⟩
    obtain ⟨j, hj, ej, eo⟩ := wStep (b := bT I) (p := p) (k := k) (by omega) (hl k hkm)
    refine c_X8_letterOf (d := d + 3) fun v2 hv2 => ?_
    rw [if_pos (hl k hkm), ej] at hv2
    subst hv2
    refine ⟨⟨Nat.le_refl _, Nat.le_refl _⟩, ?_⟩
    refine c_X9_codeAt (d := d + 3) (by omega) (by omega) ?_
    obtain ⟨k2, rfl⟩ : ∃ k2, q = k2 + 1 := ⟨q - 1, by omega⟩
    have hq9 := ih k2 rfl (k + 1) (by omega)
    rw [← nI_1, ← eo] at hq9
    exact hq9
theorem c_X2_takeWord {d z : Nat} {N : Nat → Nat} {I : Nat → Nat → Int32} {L : Nat → Nat → Int64} {R : Nat → Nat → Option Nat} {Q : qP} {I0 : Nat → Nat → Int32} {L0 : Nat → Nat → Int64} {R0 : Nat → Nat → Option Nat} {g : Nat → Nat} {s : sg} (hN : mkN z N) (hst : qStat (z, N, I, L, R)) (hm : mkR I0 L0 R0 g s I L R) {n : Nat} (hn : I 9 1 = nI n) (h200 : n ≤ 200) {p m : Nat} (hpm : p + m ≤ n) (hm0 : 0 < m) (hl : ∀ k, k < m → isLt (bT I (p + k))) (h0 : gEn s = true ∨ 8 < m → Q (some (.int 0)) (z, N, I, L, R)) (h1 : gEn s = false → m ≤ 8 → ∀ I' L' R', pend z N I0 L0 R0 g (aPc [wKey (bT I) p m] s) I' L' R' → qStat (z, N, I', L', R') → Q (some (.int 1)) (z, N, I', L', R')) : qWP (d + 5) 28 [.ref 11, .ref 9, .int (nI p), .int (nI m)] (z, N, I, L, R) Q := by
  have hF := hm.1
  have hg := hF.1
  have h4 := hF.2.1
  have hl6 : I 11 6 = nI (gLv s) := hF.2.2.2.2.1.1
  have hl7 : I 11 7 = bI (gBg s) := hF.2.2.2.2.1.2.1
  have hl8 : I 11 8 = bI (gEn s) := hF.2.2.2.2.1.2.2.1
  have hl9 : I 11 9 = bI (gSp s) := hF.2.2.2.2.1.2.2.2
  refine qWP_of m_X2_takeWord rfl rfl [(0, .ref 11), (1, .ref 9), (2, .int (nI p)), (3, .int (nI m))] rfl ?_
  refine qJ_run (qWP_mono _) [21] 400 ?_
  refine ⟨fun (c1 : ¬ (I 11 8) = 0) => ?_, fun (c1 : (I 11 8) = 0) => ?_⟩
  · have hen : gEn s = true := by
      have c9 := c1
      rw [hl8] at c9
      cases e : gEn s with
      | true => rfl
      | false => rw [e] at c9; exact absurd rfl c9
    refine ⟨by first | exact Or.inl rfl | exact Or.inr rfl | (clear h0 h1 hm hF; grind), ?_⟩
    change Q (some (.int 0)) (z, N, I, L, R)
    exact h0 (by first | exact Or.inl hen | exact Or.inr hm8)
  · have hen : gEn s = false := by
      have c9 := c1
      rw [hl8] at c9
      exact bI_1.mp c9
    refine ⟨fun (c2 : (nI m) ≤ 8) => ?_, fun (c2 : ¬ (nI m) ≤ 8) => ?_⟩
    · have hm8 : m ≤ 8 := (nI_leI (b := 8) (by omega) (by omega)).mp c2
      refine qJ_nm (qWP_mono _) [] [(6, .int 0), (4, .long 0), (3, .int (nI m)), (2, .int (nI p)), (1, .ref 9), (0, .ref 11)] rfl rfl rfl ?_
      have hq9 := l_X2_takeWord (d := d) hN hst hm hn h200 hpm hm0 hl hen hm8 h0 h1 m 0 (Nat.zero_add _)
      rw [show lN (ofD 0 (wD (bT I) p) * 2 ^ (5 * (12 - 0))) = 0 by rw [ofD, Nat.zero_mul]; rfl] at hq9
      exact hq9
    · have hm8 : 8 < m := Nat.not_le.mp fun h9 => c2 (nI_le (b := 8) h9 (by omega))
      refine ⟨by first | exact Or.inl rfl | exact Or.inr rfl | (clear h0 h1 hm hF; grind), ?_⟩
      change Q (some (.int 0)) (z, N, I, L, R)
      exact h0 (by first | exact Or.inl hen | exact Or.inr hm8)
