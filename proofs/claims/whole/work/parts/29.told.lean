/-! readings told -/
def pk (k y : Int32) : Int32 := ((k + 1) <<< (27 &&& 31)) ||| y
def fTd (k v : Int32) : Int32 := if k = 0 ∨ k = 1 ∨ k = 5 then (if 0 ≤ v ∧ v < 27 then pk k (1 <<< (v &&& 31)) else 0) else if k = 2 then (if 0 ≤ v ∧ v ≤ 134217727 ∧ 2 ≤ fBC v then pk k v else 0) else if k = 3 ∨ k = 4 then pk k 134217727 else 0
def fMv (k v : Int32) : Int32 := if k = 3 ∨ k = 4 then 134217727 else if k = 2 then v else 1 <<< (v &&& 31)
def okR (k v : Int32) : Prop := (0 ≤ k ∧ k < 6) ∧ (k = 2 → 0 ≤ v ∧ v ≤ 134217727 ∧ ¬ v &&& (v - 1) = 0) ∧ (k = 0 ∨ k = 1 ∨ k = 5 → 0 ≤ v ∧ v < 27)
theorem mul_add27 {k : Int32} (K : Nat) (hK : k = nI K) (h : K < 7) {y : Int32} (h0 : 0 ≤ y) (h1 : y ≤ 134217727) : (k * 134217728 + y).toInt = 2 ^ 27 * (K : Int) + y.toInt := by
  obtain ⟨y, hy, rfl⟩ := nI_ofL (x := y) (n := 134217728) (by decide) h0 (by show y < 134217728; grind)
  rw [hK, show (134217728 : Int32) = nI 134217728 from rfl, nI_mul, nI_add, nI_toInt (by omega), nI_toInt (by omega)]
  omega
theorem pkk_eq {k y : Int32} (hk : 0 ≤ k ∧ k ≤ 5) (h0 : 0 ≤ y) (h1 : y ≤ 134217727) : pk k y = (k + 1) * 134217728 + y := by
  obtain ⟨k, hk2, rfl⟩ := nI_ofL (x := k) (n := 6) (by decide) hk.1 (by show k < 6; grind)
  apply Int32.toInt_inj.mp
  rw [mul_add27 (k + 1) (nI_1 k) (by omega) h0 h1]
  unfold pk
  have hc : ∀ k < 6, ((nI k + 1) <<< (27 &&& 31)).toBitVec = BitVec.ofNat 32 (2 ^ 27 * (k + 1)) := by decide +kernel
  have hy := tN h0
  have hy1 := Int32.le_iff_toInt_le.mp h1
  have e1 : (134217727 : Int32).toInt = 134217727 := rfl
  have e : ((nI k + 1) <<< (27 &&& 31) ||| y).toBitVec.toNat = 2 ^ 27 * (k + 1) + y.toBitVec.toNat := by
    have : ((nI k + 1) <<< (27 &&& 31) ||| y).toBitVec = ((nI k + 1) <<< (27 &&& 31)).toBitVec ||| y.toBitVec := rfl
    rw [this, BitVec.toNat_or, hc k hk2, BitVec.toNat_ofNat, Nat.mod_eq_of_lt (by omega)]
    exact (Nat.two_pow_add_eq_or_of_lt (by omega) (k + 1)).symm
  have e2 : ((nI k + 1) <<< (27 &&& 31) ||| y).toInt = ((nI k + 1) <<< (27 &&& 31) ||| y).toBitVec.toInt := rfl
  rw [e2, BitVec.toInt_eq_toNat_cond, e, if_pos (by omega)]
  omega
theorem sh1 {v : Int32} (h : 0 ≤ v ∧ v < 27) : 0 ≤ (1 : Int32) <<< (v &&& 31) ∧ (1 : Int32) <<< (v &&& 31) ≤ 134217727 ∧ (1 : Int32) <<< (v &&& 31) = 1 <<< v ∧ 0 < (1 : Int32) <<< (v &&& 31) := by
  obtain ⟨v, hv, rfl⟩ := nI_ofL (x := v) (n := 27) (by decide) h.1 h.2
  have hc : ∀ v < 27, 0 ≤ (1 : Int32) <<< (nI v &&& 31) ∧ (1 : Int32) <<< (nI v &&& 31) ≤ 134217727 ∧ (1 : Int32) <<< (nI v &&& 31) = 1 <<< nI v ∧ 0 < (1 : Int32) <<< (nI v &&& 31) := by decide +kernel
  exact hc v hv
theorem pk_rd {k y : Int32} (hk : 0 ≤ k ∧ k ≤ 5) (h0 : 0 ≤ y) (h1 : y ≤ 134217727) (hv : k = 0 ∨ k = 1 ∨ k = 5 → ∃ v : Int32, 0 ≤ v ∧ v < 27 ∧ y = 1 <<< v) : rd1 (pk k y) (k + 1) y :=
  Or.inr ⟨by grind, by grind, h0, h1, pkk_eq hk h0 h1, fun h => hv (by grind)⟩
theorem rd1_nz {t k y : Int32} (h : rd1 t k y) (hk : 0 < k) : ¬ t = 0 := fun e => by
  have := (rd1_un h).1.mp e
  grind
theorem td_ok {k v : Int32} (h : okR k v) : rd1 (fTd k v) (k + 1) (fMv k v) ∧ ¬ fTd k v = 0 := by
  obtain ⟨h1, h2, h3⟩ := h
  have hr : rd1 (fTd k v) (k + 1) (fMv k v) := by
    unfold fTd fMv
    by_cases ha : k = 0 ∨ k = 1 ∨ k = 5
    · have h4 := h3 ha
      have h5 := sh1 h4
      rw [if_pos ha, if_pos h4, if_neg (by grind), if_neg (by grind)]
      exact pk_rd (by grind) h5.1 h5.2.1 fun _ => ⟨v, h4.1, h4.2, h5.2.2.1⟩
    · rw [if_neg ha]
      by_cases hb : k = 2
      · have h4 := h2 hb
        rw [if_pos hb, if_pos ⟨h4.1, h4.2.1, (fBC_two h4.1).mpr h4.2.2⟩, if_neg (by grind), if_pos hb]
        exact pk_rd (by grind) h4.1 h4.2.1 fun h => absurd h ha
      · rw [if_neg hb]
        have hc : k = 3 ∨ k = 4 := by grind
        rw [if_pos hc, if_pos hc]
        exact pk_rd (by grind) (by decide) (by decide) fun h => absurd h ha
  exact ⟨hr, rd1_nz hr (by grind)⟩
theorem td_bad {k v : Int32} (h : ¬ okR k v) : fTd k v = 0 := by
  unfold fTd
  by_cases ha : k = 0 ∨ k = 1 ∨ k = 5
  · rw [if_pos ha]
    by_cases h4 : 0 ≤ v ∧ v < 27
    · exact absurd ⟨by grind, fun h2 => by grind, fun _ => h4⟩ h
    · exact if_neg h4
  · rw [if_neg ha]
    by_cases hb : k = 2
    · rw [if_pos hb]
      by_cases h4 : 0 ≤ v ∧ v ≤ 134217727 ∧ 2 ≤ fBC v
      · exact absurd ⟨by grind, fun _ => ⟨h4.1, h4.2.1, (fBC_two h4.1).mp h4.2.2⟩, fun h5 => absurd h5 ha⟩ h
      · exact if_neg h4
    · rw [if_neg hb]
      by_cases hc : k = 3 ∨ k = 4
      · exact absurd ⟨by grind, fun h5 => absurd h5 hb, fun h5 => absurd h5 ha⟩ h
      · exact if_neg hc
theorem RTo_f1 {t k y : Nat → Int32} {j : Nat} (h : RTo t k y) : RTo (uI t j 0) (uI k j 0) y := by
  intro x hx
  by_cases e : x = j
  · subst e; rw [uI_at, uI_at]; exact Or.inl ⟨rfl, rfl⟩
  · rw [uI_nj e, uI_nj e]; exact h x hx
theorem RTo_f0 {t k y : Nat → Int32} {j : Nat} (h : RTo t k y) (hz : t j = 0) : RTo t (uI k j 0) y := by
  intro x hx
  by_cases e : x = j
  · subst e; rw [uI_at]; exact Or.inl ⟨hz, rfl⟩
  · rw [uI_nj e]; exact h x hx
theorem qKA_v {a : Int32} (h : 0 ≤ a ∧ a < 6) : (a = 0 → qKA a.toNatClampNeg = -1) ∧ (a = 4 → qKA a.toNatClampNeg = 3) ∧ (¬ a = 0 → ¬ a = 4 → qKA a.toNatClampNeg = 0) := by
  obtain ⟨a, ha, rfl⟩ := nI_ofL (x := a) (n := 6) (by decide) h.1 h.2
  have hc : ∀ a < 6, (nI a = 0 → qKA (nI a).toNatClampNeg = -1) ∧ (nI a = 4 → qKA (nI a).toNatClampNeg = 3) ∧ (¬ nI a = 0 → ¬ nI a = 4 → qKA (nI a).toNatClampNeg = 0) := by decide +kernel
  exact hc a ha
theorem c_J6_bitCount_0f7a4 {d z : Nat} {N : Nat → Nat} {I : Nat → Nat → Int32} {L : Nat → Nat → Int64} {R : Nat → Nat → Option Nat} {Q : qP} {x : Int32}  (h : ∀ v : Int32, v = fBC x → Q (some (.int v)) (z, N, I, L, R)) : qWP (d + 1) 246 [.int x] (z, N, I, L, R) Q := by
  refine qWP_of m_J6_bitCount_0f7a4 rfl rfl [(0, .int x)] rfl ?_
  refine qJ_run (qWP_mono _) [] 400 ?_
  change Q (some (.int ((((((((x - ((((x).toUInt32 >>> ((1 : Int32).toUInt32 &&& Int32.toUInt32 31)).toInt32) &&& 1431655765)) &&& 858993459) + ((((x - ((((x).toUInt32 >>> ((1 : Int32).toUInt32 &&& Int32.toUInt32 31)).toInt32) &&& 1431655765)).toUInt32 >>> ((2 : Int32).toUInt32 &&& Int32.toUInt32 31)).toInt32) &&& 858993459)) + (((((x - ((((x).toUInt32 >>> ((1 : Int32).toUInt32 &&& Int32.toUInt32 31)).toInt32) &&& 1431655765)) &&& 858993459) + ((((x - ((((x).toUInt32 >>> ((1 : Int32).toUInt32 &&& Int32.toUInt32 31)).toInt32) &&& 1431655765)).toUInt32 >>> ((2 : Int32).toUInt32 &&& Int32.toUInt32 31)).toInt32) &&& 858993459)).toUInt32 >>> ((4 : Int32).toUInt32 &&& Int32.toUInt32 31)).toInt32)) &&& 252645135) + (((((((x - ((((x).toUInt32 >>> ((1 : Int32).toUInt32 &&& Int32.toUInt32 31)).toInt32) &&& 1431655765)) &&& 858993459) + ((((x - ((((x).toUInt32 >>> ((1 : Int32).toUInt32 &&& Int32.toUInt32 31)).toInt32) &&& 1431655765)).toUInt32 >>> ((2 : Int32).toUInt32 &&& Int32.toUInt32 31)).toInt32) &&& 858993459)) + (((((x - ((((x).toUInt32 >>> ((1 : Int32).toUInt32 &&& Int32.toUInt32 31)).toInt32) &&& 1431655765)) &&& 858993459) + ((((x - ((((x).toUInt32 >>> ((1 : Int32).toUInt32 &&& Int32.toUInt32 31)).toInt32) &&& 1431655765)).toUInt32 >>> ((2 : Int32).toUInt32 &&& Int32.toUInt32 31)).toInt32) &&& 858993459)).toUInt32 >>> ((4 : Int32).toUInt32 &&& Int32.toUInt32 31)).toInt32)) &&& 252645135).toUInt32 >>> ((8 : Int32).toUInt32 &&& Int32.toUInt32 31)).toInt32)) + ((((((((x - ((((x).toUInt32 >>> ((1 : Int32).toUInt32 &&& Int32.toUInt32 31)).toInt32) &&& 1431655765)) &&& 858993459) + ((((x - ((((x).toUInt32 >>> ((1 : Int32).toUInt32 &&& Int32.toUInt32 31)).toInt32) &&& 1431655765)).toUInt32 >>> ((2 : Int32).toUInt32 &&& Int32.toUInt32 31)).toInt32) &&& 858993459)) + (((((x - ((((x).toUInt32 >>> ((1 : Int32).toUInt32 &&& Int32.toUInt32 31)).toInt32) &&& 1431655765)) &&& 858993459) + ((((x - ((((x).toUInt32 >>> ((1 : Int32).toUInt32 &&& Int32.toUInt32 31)).toInt32) &&& 1431655765)).toUInt32 >>> ((2 : Int32).toUInt32 &&& Int32.toUInt32 31)).toInt32) &&& 858993459)).toUInt32 >>> ((4 : Int32).toUInt32 &&& Int32.toUInt32 31)).toInt32)) &&& 252645135) + (((((((x - ((((x).toUInt32 >>> ((1 : Int32).toUInt32 &&& Int32.toUInt32 31)).toInt32) &&& 1431655765)) &&& 858993459) + ((((x - ((((x).toUInt32 >>> ((1 : Int32).toUInt32 &&& Int32.toUInt32 31)).toInt32) &&& 1431655765)).toUInt32 >>> ((2 : Int32).toUInt32 &&& Int32.toUInt32 31)).toInt32) &&& 858993459)) + (((((x - ((((x).toUInt32 >>> ((1 : Int32).toUInt32 &&& Int32.toUInt32 31)).toInt32) &&& 1431655765)) &&& 858993459) + ((((x - ((((x).toUInt32 >>> ((1 : Int32).toUInt32 &&& Int32.toUInt32 31)).toInt32) &&& 1431655765)).toUInt32 >>> ((2 : Int32).toUInt32 &&& Int32.toUInt32 31)).toInt32) &&& 858993459)).toUInt32 >>> ((4 : Int32).toUInt32 &&& Int32.toUInt32 31)).toInt32)) &&& 252645135).toUInt32 >>> ((8 : Int32).toUInt32 &&& Int32.toUInt32 31)).toInt32)).toUInt32 >>> ((16 : Int32).toUInt32 &&& Int32.toUInt32 31)).toInt32)) &&& 63))) (z, N, I, L, R)
  exact h _ rfl
theorem c_X5_packed {d z : Nat} {N : Nat → Nat} {I : Nat → Nat → Int32} {L : Nat → Nat → Int64} {R : Nat → Nat → Option Nat} {Q : qP} {k : Int32} {y : Int32}  (h : ∀ v : Int32, v = pk k y → Q (some (.int v)) (z, N, I, L, R)) : qWP (d + 1) 63 [.int k, .int y] (z, N, I, L, R) Q := by
  refine qWP_of m_X5_packed rfl rfl [(0, .int k), (1, .int y)] rfl ?_
  refine qJ_run (qWP_mono _) [] 400 ?_
  change Q (some (.int (((k + 1) <<< (27 &&& 31)) ||| y))) (z, N, I, L, R)
  exact h _ rfl
theorem c_X5_told {d z : Nat} {N : Nat → Nat} {I : Nat → Nat → Int32} {L : Nat → Nat → Int64} {R : Nat → Nat → Option Nat} {Q : qP} {k : Int32} {y : Int32} (hst : qStat (z, N, I, L, R)) (h : ∀ v : Int32, v = fTd k y → Q (some (.int v)) (z, N, I, L, R)) : qWP (d + 2) 62 [.int k, .int y] (z, N, I, L, R) Q := by
  refine qWP_of m_X5_told rfl rfl [(0, .int k), (1, .int y)] rfl ?_
  refine qJ_run (qWP_mono _) [] 400 ?_
  refine ⟨fun c1 => ?_, fun c1 => ?_, fun c1 => ?_, fun c1 => ?_, fun c1 => ?_, fun c1 => ?_, fun c1 => ?_, trivial⟩
  · replace c1 : k < 0 ∨ 5 < k := by rw [fa_lt, fa_lt]; exact c1
    change Q (some (.int 0)) (z, N, I, L, R)
    refine h _ ?_
    unfold fTd
    clear h
    grind
  · replace c1 : k = 0 := Int32.toInt_inj.mp c1
    refine ⟨fun (c2 : y < 0) => ?_, fun (c2 : ¬ y < 0) => ?_⟩
    · change Q (some (.int 0)) (z, N, I, L, R)
      refine h _ ?_
      unfold fTd
      clear h
      grind
    · refine ⟨fun (c3 : 27 ≤ y) => ?_, fun (c3 : ¬ 27 ≤ y) => ?_⟩
      · change Q (some (.int 0)) (z, N, I, L, R)
        refine h _ ?_
        unfold fTd
        clear h
        grind
      · refine ⟨⟨Nat.le_refl _, Nat.le_refl _⟩, ?_⟩
        refine c_X5_packed (d := d) fun v1 hv1 => ?_
        change Q (some (.int v1)) (z, N, I, L, R)
        refine h _ ?_
        subst hv1
        unfold fTd
        clear h
        grind
  · replace c1 : k = 1 := Int32.toInt_inj.mp c1
    refine ⟨fun (c4 : y < 0) => ?_, fun (c4 : ¬ y < 0) => ?_⟩
    · change Q (some (.int 0)) (z, N, I, L, R)
      refine h _ ?_
      unfold fTd
      clear h
      grind
    · refine ⟨fun (c5 : 27 ≤ y) => ?_, fun (c5 : ¬ 27 ≤ y) => ?_⟩
      · change Q (some (.int 0)) (z, N, I, L, R)
        refine h _ ?_
        unfold fTd
        clear h
        grind
      · refine ⟨⟨Nat.le_refl _, Nat.le_refl _⟩, ?_⟩
        refine c_X5_packed (d := d) fun v2 hv2 => ?_
        change Q (some (.int v2)) (z, N, I, L, R)
        refine h _ ?_
        subst hv2
        unfold fTd
        clear h
        grind
  · replace c1 : k = 2 := Int32.toInt_inj.mp c1
    refine ⟨fun (c6 : y < 0) => ?_, fun (c6 : ¬ y < 0) => ?_⟩
    · change Q (some (.int 0)) (z, N, I, L, R)
      refine h _ ?_
      unfold fTd
      clear h
      grind
    · refine ⟨fun (c7 : 134217727 < y) => ?_, fun (c7 : ¬ 134217727 < y) => ?_⟩
      · change Q (some (.int 0)) (z, N, I, L, R)
        refine h _ ?_
        unfold fTd
        clear h
        grind
      · refine ⟨⟨Nat.le_refl _, Nat.le_refl _⟩, ?_⟩
        refine c_J6_bitCount_0f7a4 (d := d) fun v3 hv3 => ⟨hst, ?_⟩
        refine ⟨fun (c8 : v3 < 2) => ?_, fun (c8 : ¬ v3 < 2) => ?_⟩
        · change Q (some (.int 0)) (z, N, I, L, R)
          refine h _ ?_
          unfold fTd
          clear h
          grind
        · refine ⟨⟨Nat.le_refl _, Nat.le_refl _⟩, ?_⟩
          refine c_X5_packed (d := d) fun v4 hv4 => ?_
          change Q (some (.int v4)) (z, N, I, L, R)
          refine h _ ?_
          subst hv4
          unfold fTd
          clear h
          grind
  · replace c1 : k = 3 := Int32.toInt_inj.mp c1
    refine ⟨⟨Nat.le_refl _, Nat.le_refl _⟩, ?_⟩
    refine c_X5_packed (d := d) fun v5 hv5 => ?_
    change Q (some (.int v5)) (z, N, I, L, R)
    refine h _ ?_
    subst hv5
    unfold fTd
    clear h
    grind
  · replace c1 : k = 4 := Int32.toInt_inj.mp c1
    refine ⟨⟨Nat.le_refl _, Nat.le_refl _⟩, ?_⟩
    refine c_X5_packed (d := d) fun v6 hv6 => ?_
    change Q (some (.int v6)) (z, N, I, L, R)
    refine h _ ?_
    subst hv6
    unfold fTd
    clear h
    grind
  · replace c1 : k = 5 := Int32.toInt_inj.mp c1
    refine ⟨fun (c9 : y < 0) => ?_, fun (c9 : ¬ y < 0) => ?_⟩
    · change Q (some (.int 0)) (z, N, I, L, R)
      refine h _ ?_
      unfold fTd
      clear h
      grind
    · refine ⟨fun (c10 : 27 ≤ y) => ?_, fun (c10 : ¬ 27 ≤ y) => ?_⟩
      · change Q (some (.int 0)) (z, N, I, L, R)
        refine h _ ?_
        unfold fTd
        clear h
        grind
      · refine ⟨⟨Nat.le_refl _, Nat.le_refl _⟩, ?_⟩
        refine c_X5_packed (d := d) fun v7 hv7 => ?_
        change Q (some (.int v7)) (z, N, I, L, R)
        refine h _ ?_
        subst hv7
        unfold fTd
        clear h
        grind
theorem l_X5_isUnder {d z : Nat} {N : Nat → Nat} {I : Nat → Nat → Int32} {L : Nat → Nat → Int64} {R : Nat → Nat → Option Nat} {Q : qP} {c w : Int32} (hKA : I 1 = qKA) : ∀ (k : Int32), ∀ a : Int32, 0 ≤ k → (a = -1 ∧ k ≤ 6) ∨ (a = 0 ∧ k ≤ 5) ∨ ((a = 1 ∨ a = 2 ∨ a = 3 ∨ a = 5) ∧ k ≤ 4) ∨ (a = 4 ∧ k ≤ 3) → Q (some (.int (if (0 ≤ a ∧ a < 6) ∧ (w = a ∨ w = 0 ∨ (a = 4 ∧ w = 3)) then 1 else 0))) (z, N, I, L, R) → qJ m_X5_isUnder (qWP (d + 0)) Q 4 [(3, .int k), (2, .int a), (1, .int w), (0, .int c)] [] 0 0 (z, N, I, L, R) := by
  refine up_ind (6) fun k ih => ?_
  intro a h0 ha hq
  refine qJ_run (qWP_mono _) [4] 400 ?_
  refine ⟨fun (c1 : 6 ≤ k) => ?_, fun (c1 : ¬ 6 ≤ k) => ?_⟩
  · refine ⟨by first | exact Or.inl rfl | exact Or.inr rfl | (clear ih hq; grind), ?_⟩
    change Q (some (.int 0)) (z, N, I, L, R)
    first | (rw [if_pos (by clear ih hq; grind)] at hq; exact hq) | (rw [if_neg (by clear ih hq; grind)] at hq; exact hq)
  · refine ⟨fun (c2 : a < 0) => ?_, fun (c2 : ¬ a < 0) => ?_⟩
    · refine ⟨by first | exact Or.inl rfl | exact Or.inr rfl | (clear ih hq; grind), ?_⟩
      change Q (some (.int 0)) (z, N, I, L, R)
      first | (rw [if_pos (by clear ih hq; grind)] at hq; exact hq) | (rw [if_neg (by clear ih hq; grind)] at hq; exact hq)
    · refine ⟨fun (c3 : 6 ≤ a) => ?_, fun (c3 : ¬ 6 ≤ a) => ?_⟩
      · refine ⟨by first | exact Or.inl rfl | exact Or.inr rfl | (clear ih hq; grind), ?_⟩
        change Q (some (.int 0)) (z, N, I, L, R)
        first | (rw [if_pos (by clear ih hq; grind)] at hq; exact hq) | (rw [if_neg (by clear ih hq; grind)] at hq; exact hq)
      · refine ⟨fun (c4 : ¬ a = w) => ?_, fun (c4 : a = w) => ?_⟩
        · refine ⟨?_, ?_⟩
          · exact vb (x := a) (N := 6) 6 (by decide) (by clear ih hq; grind) (by clear ih hq; grind)
          have hv := qKA_v (a := a) (by clear ih hq; grind)
          rw [← hKA] at hv
          refine ih (by clear ih hq; grind) _ (by clear ih hq; grind) (by clear ih hq; grind) ?_
          have e : ((0 ≤ I 1 a.toNatClampNeg ∧ I 1 a.toNatClampNeg < 6) ∧ (w = I 1 a.toNatClampNeg ∨ w = 0 ∨ (I 1 a.toNatClampNeg = 4 ∧ w = 3))) ↔ ((0 ≤ a ∧ a < 6) ∧ (w = a ∨ w = 0 ∨ (a = 4 ∧ w = 3))) := by clear ih hq; grind
          simp only [e]
          exact hq
        · refine ⟨by first | exact Or.inl rfl | exact Or.inr rfl | (clear ih hq; grind), ?_⟩
          change Q (some (.int 1)) (z, N, I, L, R)
          first | (rw [if_pos (by clear ih hq; grind)] at hq; exact hq) | (rw [if_neg (by clear ih hq; grind)] at hq; exact hq)
theorem c_X5_isUnder {d z : Nat} {N : Nat → Nat} {I : Nat → Nat → Int32} {L : Nat → Nat → Int64} {R : Nat → Nat → Option Nat} {Q : qP} {c : Int32} {w : Int32} (hKA : I 1 = qKA) (hc : 0 ≤ c ∧ c ≤ 5) (h : ∀ v : Int32, v = (if w = c ∨ w = 0 ∨ (c = 4 ∧ w = 3) then 1 else 0) → Q (some (.int v)) (z, N, I, L, R)) : qWP (d + 2) 66 [.int c, .int w] (z, N, I, L, R) Q := by
  refine qWP_of m_X5_isUnder rfl rfl [(0, .int c), (1, .int w)] rfl ?_
  refine qJ_run (qWP_mono _) [4] 400 ?_
  refine qJ_nm (qWP_mono _) [] [(3, .int 0), (2, .int c), (1, .int w), (0, .int c)] rfl rfl rfl ?_
  refine l_X5_isUnder (d := d + 1) hKA 0 c (by decide) (by clear h; grind) (h _ ?_)
  clear h
  grind
