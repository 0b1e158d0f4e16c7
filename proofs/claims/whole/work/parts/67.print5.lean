/-! printed lines: the letter alone -/
def own1 (y v : Int32) : Prop := (0 ≤ v ∧ v < 27) ∧ fBC (y - 1) = v ∧ (∀ j : Int32, 0 ≤ j → j < v → (y >>> (j &&& 31)) &&& 1 = 0) ∧ ¬ (y >>> (v &&& 31)) &&& 1 = 0
theorem own_bits : ∀ v : Nat, v < 27 → fBC (((1 : Int32) <<< nI v) - 1) = nI v ∧ (∀ j : Nat, j < v → (((1 : Int32) <<< nI v) >>> (nI j &&& 31)) &&& 1 = 0) ∧ ¬ (((1 : Int32) <<< nI v) >>> (nI v &&& 31)) &&& 1 = 0 := by decide +kernel
theorem own1_of {v : Int32} (h : 0 ≤ v ∧ v < 27) : own1 (1 <<< v) v := by
  obtain ⟨v, hv, rfl⟩ := nI_ofL (x := v) (n := 27) (by decide) h.1 h.2
  have g := own_bits v hv
  refine ⟨h, g.1, fun j j0 j1 => ?_, g.2.2⟩
  obtain ⟨j, hj, rfl⟩ := nI_ofL (x := j) (n := 27) (by decide) j0 (Int32.lt_trans j1 h.2)
  refine g.2.1 j ?_
  have h9 := Int32.lt_iff_toInt_lt.mp j1
  rw [nI_toInt (by omega), nI_toInt (by omega)] at h9
  omega
theorem l_X12_prints2 {d z : Nat} {N : Nat → Nat} {I : Nat → Nat → Int32} {L : Nat → Nat → Int64} {R : Nat → Nat → Option Nat} {Q : qP} {s l f p k y n v : Int32} {e : Nat → Int32} (hy : own1 y v) : ∀ j : Int32, 0 ≤ j → j ≤ v → qJ m_X12_prints (qWP (d + 5)) Q 87 [(8, .int v), (7, .int y), (6, .int k), (5, .int p), (4, .int n), (3, .int f), (2, .int l), (1, .int s), (0, .ref 65)] [] 0 0 (z, N, qRow I 91 e, L, R) → qJ m_X12_prints (qWP (d + 5)) Q 52 [(8, .int j), (7, .int y), (6, .int k), (5, .int p), (4, .int n), (3, .int f), (2, .int l), (1, .int s), (0, .ref 65)] [] 0 0 (z, N, qRow I 91 e, L, R) := by
  refine up_ind v fun j ih => ?_
  intro h0 h1 h
  refine qJ_run (qWP_mono _) [52, 87] 400 ?_
  refine ⟨fun (c1 : ¬ ((y >>> (j &&& 31)) &&& 1) = 0) => ?_, fun (c1 : ((y >>> (j &&& 31)) &&& 1) = 0) => ?_⟩
  · have e9 : j = v := by
      refine Decidable.byContradiction fun h9 => ?_
      exact absurd (hy.2.2.1 j h0 (by clear ih h hy; grind)) (by assumption)
    subst e9
    exact h
  · have hj : j < v := by
      refine Decidable.byContradiction fun h9 => ?_
      have e9 : j = v := by clear ih h hy; grind
      subst e9
      exact hy.2.2.2 (by assumption)
    exact ih hj (by have := hy.1; clear ih h hy; grind) (by clear ih h hy; grind) h
