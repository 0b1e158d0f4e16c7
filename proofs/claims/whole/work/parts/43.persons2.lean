theorem c_X4_sort {d z : Nat} {N : Nat → Nat} {I : Nat → Nat → Int32} {L : Nat → Nat → Int64} {R : Nat → Nat → Option Nat} {Q : qP} (hp : 0 ≤ I 54 5 ∧ I 54 5 ≤ 12) (hst_ : ∀ x : Int32, 0 ≤ x → x < I 54 5 → 0 ≤ I 57 x.toNatClampNeg ∧ I 57 x.toNatClampNeg < 12) (hb : okB 12 (I 51) (I 52) (I 53) (I 46 7)) (hyl : yL (I 47) (I 48)) (h : ∀ (v : Int32) (E U : Nat → Int32), yO 12 (I 47) (I 48) (I 51) (I 52) (I 53) (I 46 7) (1 <<< (I 46 7 &&& 31) - 1) 12 1 0 v E U → Q (some (.int (fSrt (decide (v = 1)) (pOne (L 55) (L 56) (I 57) E U) (I 54 5) (I 58)).2)) (z, N, qRow (qRow (qRow I 49 E) 50 U) 58 (fSrt (decide (v = 1)) (pOne (L 55) (L 56) (I 57) E U) (I 54 5) (I 58)).1, L, R)) : qWP (d + 5) 56 [.ref 54] (z, N, I, L, R) Q := by
  refine qWP_of m_X4_sort rfl rfl [(0, .ref 54)] rfl ?_
  refine qJ_run (qWP_mono _) [12] 400 ?_
  refine ⟨⟨Nat.le_refl _, Nat.le_refl _⟩, ?_⟩
  refine c_X0_settle (d := d + 1) hb hyl fun v1 E U hy1 => ?_
  refine qJ_M (M2 := (z, N, qRow (qRow (qRow I 49 E) 50 U) 58 (I 58), L, R)) (by (try dsimp only); rw [show I 58 = qRow (qRow I 49 E) 50 U 58 from by simp (decide := true) only [qRow_ne], qRow_self]) ?_
  have hw : (decide (v1 = 1) = true ∧ v1 = 1) ∨ (decide (v1 = 1) = false ∧ v1 = 0) := by
    rcases hy1 with ⟨e1, _⟩ | ⟨e1, _⟩
    · exact Or.inl ⟨decide_eq_true e1, e1⟩
    · exact Or.inr ⟨by rw [e1]; decide, e1⟩
  exact l_X4_sort (d := d + 1) (I := qRow (qRow I 49 E) 50 U) hp hst_ hw 0 (I 58) 0 (by decide) (by decide) (h v1 E U hy1)
theorem l_X4_fatherOf {d z : Nat} {N : Nat → Nat} {I : Nat → Nat → Int32} {L : Nat → Nat → Int64} {R : Nat → Nat → Option Nat} {Q : qP} {p : Int32} (hp : 0 ≤ I 54 5 ∧ I 54 5 ≤ 12) (hst_ : ∀ x : Int32, 0 ≤ x → x < I 54 5 → 0 ≤ I 57 x.toNatClampNeg ∧ I 57 x.toNatClampNeg < 12) (hpp : 0 ≤ p ∧ p < I 54 5) : ∀ (k : Int32), ∀ x : Int32, 0 ≤ k → x = -1 → Q (some (.int (upS (I 54 5) (gFa (L 55) (L 56) (I 57) (I 49) (I 50) p) id k x))) (z, N, I, L, R) → qJ m_X4_fatherOf (qWP (d + 2)) Q 12 [(2, .int k), (1, .int p), (0, .ref 54)] [] 0 0 (z, N, I, L, R) := by
  refine up_ind (I 54 5) fun k ih => ?_
  intro x h0 hx hq
  refine qJ_run (qWP_mono _) [12] 400 ?_
  refine ⟨fun (c1 : (I 54 5) ≤ k) => ?_, fun (c1 : ¬ (I 54 5) ≤ k) => ?_⟩
  · change Q (some (.int (-1))) (z, N, I, L, R)
    rw [upS_ge (by clear ih hq; grind)] at hq
    subst hx
    exact hq
  · refine ⟨fun (c2 : 12 ≤ k) => ?_, fun (c2 : ¬ 12 ≤ k) => ?_⟩
    · change Q (some (.int (-1))) (z, N, I, L, R)
      rw [upS_ge (by clear ih hq; grind)] at hq
      subst hx
      exact hq
    · refine ⟨fun (c3 : k = p) => ?_, fun (c3 : ¬ k = p) => ?_⟩
      · have hk : k < I 54 5 := by clear ih hq; grind
        (try simp only [lg_eq] at *)
        have e9 : gFa (L 55) (L 56) (I 57) (I 49) (I 50) p k x = .inl (-1) := if_neg (by clear ih hq; grind)
        rw [upS_on hk e9] at hq
        exact ih hk _ (by clear ih hq; grind) rfl hq
      · refine ⟨?_, ?_⟩
        · exact vb (x := k) (N := 12) 12 (by decide) (by clear ih hq; grind) (by clear ih hq; grind)
        refine ⟨?_, ?_⟩
        · exact vb (x := p) (N := 12) 12 (by decide) (by clear ih hq; grind) (by clear ih hq; grind)
        refine ⟨fun (c4 : ¬ (lg_cmp (L 55 ((k).toNatClampNeg)) (L 56 ((p).toNatClampNeg))) = 0) => ?_, fun (c4 : (lg_cmp (L 55 ((k).toNatClampNeg)) (L 56 ((p).toNatClampNeg))) = 0) => ?_⟩
        · have hk : k < I 54 5 := by clear ih hq; grind
          (try simp only [lg_eq] at *)
          have e9 : gFa (L 55) (L 56) (I 57) (I 49) (I 50) p k x = .inl (-1) := if_neg (by clear ih hq; grind)
          rw [upS_on hk e9] at hq
          exact ih hk _ (by clear ih hq; grind) rfl hq
        · refine ⟨⟨Nat.le_refl _, Nat.le_refl _⟩, ?_⟩
          refine c_X4_isAhead (d := d) hp hst_ ⟨by clear ih hq; grind, by clear ih hq; grind⟩ ⟨by clear ih hq; grind, by clear ih hq; grind⟩ fun v1 hv1 => ?_
          refine ⟨fun (c5 : v1 = 0) => ?_, fun (c5 : ¬ v1 = 0) => ?_⟩
          · have hk : k < I 54 5 := by clear ih hq; grind
            (try simp only [lg_eq] at *)
            have e9 : gFa (L 55) (L 56) (I 57) (I 49) (I 50) p k x = .inl (-1) := if_neg (by clear ih hq; grind)
            rw [upS_on hk e9] at hq
            exact ih hk _ (by clear ih hq; grind) rfl hq
          · change Q (some (.int k)) (z, N, I, L, R)
            have hk : k < I 54 5 := by clear ih hq; grind
            simp only [lg_eq] at *
            have e9 : gFa (L 55) (L 56) (I 57) (I 49) (I 50) p k x = .inr k := if_pos ⟨by assumption, by assumption, by clear ih hq; grind⟩
            rw [upS_out hk e9] at hq
            exact hq
theorem c_X4_fatherOf {d z : Nat} {N : Nat → Nat} {I : Nat → Nat → Int32} {L : Nat → Nat → Int64} {R : Nat → Nat → Option Nat} {Q : qP} {p : Int32} (hp : 0 ≤ I 54 5 ∧ I 54 5 ≤ 12) (hst_ : ∀ x : Int32, 0 ≤ x → x < I 54 5 → 0 ≤ I 57 x.toNatClampNeg ∧ I 57 x.toNatClampNeg < 12) (hpp : 0 ≤ p ∧ p < I 54 5) (h : ∀ v : Int32, v = fFa (L 55) (L 56) (I 57) (I 49) (I 50) (I 54 5) p → Q (some (.int v)) (z, N, I, L, R)) : qWP (d + 3) 59 [.ref 54, .int p] (z, N, I, L, R) Q := by
  refine qWP_of m_X4_fatherOf rfl rfl [(0, .ref 54), (1, .int p)] rfl ?_
  refine qJ_run (qWP_mono _) [12] 400 ?_
  refine ⟨⟨Nat.le_refl _, Nat.le_refl _⟩, ?_⟩
  refine c_X4_has hp fun v1 hv1 => ?_
  refine ⟨fun (c1 : ¬ v1 = 0) => ?_, fun (c1 : v1 = 0) => ?_⟩
  · refine qJ_nm (qWP_mono _) [] [(2, .int 0), (1, .int p), (0, .ref 54)] rfl rfl rfl ?_
    exact l_X4_fatherOf (d := d) hp hst_ hpp 0 (-1) (by decide) rfl (h _ rfl)
  · change Q (some (.int (-1))) (z, N, I, L, R)
    exact absurd hpp (by clear h; grind)
theorem c_X11_one {d z : Nat} {N : Nat → Nat} {I : Nat → Nat → Int32} {L : Nat → Nat → Int64} {R : Nat → Nat → Option Nat} {Q : qP} {a : Int32} {b : Int32} (hp : 0 ≤ I 54 5 ∧ I 54 5 ≤ 12) (hst_ : ∀ x : Int32, 0 ≤ x → x < I 54 5 → 0 ≤ I 57 x.toNatClampNeg ∧ I 57 x.toNatClampNeg < 12) (hb : okB 12 (I 51) (I 52) (I 53) (I 46 7)) (hyl : yL (I 47) (I 48)) (h0 : ¬ ((0 ≤ a ∧ a < I 54 5) ∧ (0 ≤ b ∧ b < I 54 5) ∧ ¬ a = b) → Q (some (.int (-2))) (z, N, I, L, R)) (h1 : (0 ≤ a ∧ a < I 54 5) ∧ (0 ≤ b ∧ b < I 54 5) ∧ ¬ a = b → ∀ (v : Int32) (E U : Nat → Int32), yO 12 (I 47) (I 48) (I 51) (I 52) (I 53) (I 46 7) (1 <<< (I 46 7 &&& 31) - 1) 12 1 0 v E U → Q (some (.int (if v = 1 ∧ pOne (L 55) (L 56) (I 57) E U a b = true then 1 else 0))) (z, N, qRow (qRow I 49 E) 50 U, L, R)) : qWP (d + 4) 153 [.ref 2, .int a, .int b] (z, N, I, L, R) Q := by
  refine qWP_of m_X11_one rfl rfl [(0, .ref 2), (1, .int a), (2, .int b)] rfl ?_
  refine qJ_run (qWP_mono _) [] 400 ?_
  refine ⟨⟨Nat.le_refl _, Nat.le_refl _⟩, ?_⟩
  refine c_X4_has hp fun v1 hv1 => ?_
  refine ⟨fun (c1 : v1 = 0) => ?_, fun (c1 : ¬ v1 = 0) => ?_⟩
  · change Q (some (.int (-2))) (z, N, I, L, R)
    exact h0 (by clear h0 h1; grind)
  · refine ⟨⟨Nat.le_refl _, Nat.le_refl _⟩, ?_⟩
    refine c_X4_has hp fun v2 hv2 => ?_
    refine ⟨fun (c2 : v2 = 0) => ?_, fun (c2 : ¬ v2 = 0) => ?_⟩
    · change Q (some (.int (-2))) (z, N, I, L, R)
      exact h0 (by clear h0 h1; grind)
    · refine ⟨fun (c3 : ¬ a = b) => ?_, fun (c3 : a = b) => ?_⟩
      · refine ⟨⟨Nat.le_refl _, Nat.le_refl _⟩, ?_⟩
        refine c_X0_settle (d := d) hb hyl fun v1 E U hy1 => ?_
        refine ⟨fun (c4 : v1 = 0) => ?_, fun (c4 : ¬ v1 = 0) => ?_⟩
        · change Q (some (.int 0)) (z, N, qRow (qRow I 49 E) 50 U, L, R)
          have hg : (0 ≤ a ∧ a < I 54 5) ∧ (0 ≤ b ∧ b < I 54 5) ∧ ¬ a = b := by clear h0 h1; grind
          have hh := h1 hg v1 E U hy1
          have h01 : v1 = 1 ∨ v1 = 0 := hy1.elim (fun h => Or.inl h.1) (fun h => Or.inr h.1)
          rw [if_neg (by clear h0 h1; grind)] at hh
          exact hh
        · refine ⟨⟨Nat.le_refl _, Nat.le_refl _⟩, ?_⟩
          have hg0 : (0 ≤ a ∧ a < I 54 5) ∧ (0 ≤ b ∧ b < I 54 5) ∧ ¬ a = b := by clear h0 h1; grind
          refine c_X4_mayBeOne (d := d + 1) (I := qRow (qRow I 49 E) 50 U) hp hst_ hg0.1 hg0.2.1 fun v4 hv4 => ?_
          replace hv4 : v4 = if pOne (L 55) (L 56) (I 57) E U a b = true then 1 else 0 := hv4
          refine ⟨fun (c5 : v4 = 0) => ?_, fun (c5 : ¬ v4 = 0) => ?_⟩
          · change Q (some (.int 0)) (z, N, qRow (qRow I 49 E) 50 U, L, R)
            have hg : (0 ≤ a ∧ a < I 54 5) ∧ (0 ≤ b ∧ b < I 54 5) ∧ ¬ a = b := by clear h0 h1; grind
            have hh := h1 hg v1 E U hy1
            have h01 : v1 = 1 ∨ v1 = 0 := hy1.elim (fun h => Or.inl h.1) (fun h => Or.inr h.1)
            rw [if_neg (by clear h0 h1; grind)] at hh
            exact hh
          · change Q (some (.int 1)) (z, N, qRow (qRow I 49 E) 50 U, L, R)
            have hg : (0 ≤ a ∧ a < I 54 5) ∧ (0 ≤ b ∧ b < I 54 5) ∧ ¬ a = b := by clear h0 h1; grind
            have hh := h1 hg v1 E U hy1
            have h01 : v1 = 1 ∨ v1 = 0 := hy1.elim (fun h => Or.inl h.1) (fun h => Or.inr h.1)
            rw [if_pos (by clear h0 h1; grind)] at hh
            exact hh
      · change Q (some (.int (-2))) (z, N, I, L, R)
        exact h0 (by clear h0 h1; grind)
theorem c_X11_group {d z : Nat} {N : Nat → Nat} {I : Nat → Nat → Int32} {L : Nat → Nat → Int64} {R : Nat → Nat → Option Nat} {Q : qP} {p : Int32} (hp : 0 ≤ I 54 5 ∧ I 54 5 ≤ 12) (hst_ : ∀ x : Int32, 0 ≤ x → x < I 54 5 → 0 ≤ I 57 x.toNatClampNeg ∧ I 57 x.toNatClampNeg < 12) (hb : okB 12 (I 51) (I 52) (I 53) (I 46 7)) (hyl : yL (I 47) (I 48)) (h0 : ¬ (0 ≤ p ∧ p < I 54 5) → Q (some (.int (-2))) (z, N, I, L, R)) (h1 : (0 ≤ p ∧ p < I 54 5) → ∀ (v : Int32) (E U : Nat → Int32), yO 12 (I 47) (I 48) (I 51) (I 52) (I 53) (I 46 7) (1 <<< (I 46 7 &&& 31) - 1) 12 1 0 v E U → Q (some (.int ((fSrt (decide (v = 1)) (pOne (L 55) (L 56) (I 57) E U) (I 54 5) (I 58)).1 p.toNatClampNeg))) (z, N, qRow (qRow (qRow I 49 E) 50 U) 58 (fSrt (decide (v = 1)) (pOne (L 55) (L 56) (I 57) E U) (I 54 5) (I 58)).1, L, R)) : qWP (d + 6) 154 [.ref 2, .int p] (z, N, I, L, R) Q := by
  refine qWP_of m_X11_group rfl rfl [(0, .ref 2), (1, .int p)] rfl ?_
  refine qJ_run (qWP_mono _) [] 400 ?_
  refine ⟨⟨Nat.le_refl _, Nat.le_refl _⟩, ?_⟩
  refine c_X4_has hp fun v1 hv1 => ?_
  refine ⟨fun (c1 : ¬ v1 = 0) => ?_, fun (c1 : v1 = 0) => ?_⟩
  · refine ⟨⟨Nat.le_refl _, Nat.le_refl _⟩, ?_⟩
    refine c_X4_sort (d := d) hp hst_ hb hyl fun v E U hy1 => ?_
    refine ⟨⟨Nat.le_refl _, Nat.le_refl _⟩, ?_⟩
    refine c_X4_groupOf (I := qRow (qRow (qRow I 49 E) 50 U) 58 (fSrt (decide (v = 1)) (pOne (L 55) (L 56) (I 57) E U) (I 54 5) (I 58)).1) hp fun v3 hv3 => ?_
    replace hv3 : v3 = if 0 ≤ p ∧ p < I 54 5 then (fSrt (decide (v = 1)) (pOne (L 55) (L 56) (I 57) E U) (I 54 5) (I 58)).1 p.toNatClampNeg else -1 := hv3
    change Q (some (.int v3)) (z, N, qRow (qRow (qRow I 49 E) 50 U) 58 ((fSrt (decide (v = 1)) (pOne (L 55) (L 56) (I 57) E U) (I 54 5) (I 58)).1), L, R)
    have hg : (0 ≤ p ∧ p < I 54 5) := by clear h0 h1; grind
    rw [if_pos hg] at hv3
    subst hv3
    exact h1 hg v E U hy1
  · change Q (some (.int (-2))) (z, N, I, L, R)
    exact h0 (by clear h0 h1; grind)
theorem c_X11_father {d z : Nat} {N : Nat → Nat} {I : Nat → Nat → Int32} {L : Nat → Nat → Int64} {R : Nat → Nat → Option Nat} {Q : qP} {p : Int32} (hp : 0 ≤ I 54 5 ∧ I 54 5 ≤ 12) (hst_ : ∀ x : Int32, 0 ≤ x → x < I 54 5 → 0 ≤ I 57 x.toNatClampNeg ∧ I 57 x.toNatClampNeg < 12) (hb : okB 12 (I 51) (I 52) (I 53) (I 46 7)) (hyl : yL (I 47) (I 48)) (h0 : ¬ (0 ≤ p ∧ p < I 54 5) → Q (some (.int (-2))) (z, N, I, L, R)) (h1 : (0 ≤ p ∧ p < I 54 5) → ∀ (v : Int32) (E U : Nat → Int32), yO 12 (I 47) (I 48) (I 51) (I 52) (I 53) (I 46 7) (1 <<< (I 46 7 &&& 31) - 1) 12 1 0 v E U → Q (some (.int (if v = 1 then fFa (L 55) (L 56) (I 57) E U (I 54 5) p else -1))) (z, N, qRow (qRow I 49 E) 50 U, L, R)) : qWP (d + 4) 155 [.ref 2, .int p] (z, N, I, L, R) Q := by
  refine qWP_of m_X11_father rfl rfl [(0, .ref 2), (1, .int p)] rfl ?_
  refine qJ_run (qWP_mono _) [] 400 ?_
  refine ⟨⟨Nat.le_refl _, Nat.le_refl _⟩, ?_⟩
  refine c_X4_has hp fun v1 hv1 => ?_
  refine ⟨fun (c1 : ¬ v1 = 0) => ?_, fun (c1 : v1 = 0) => ?_⟩
  · refine ⟨⟨Nat.le_refl _, Nat.le_refl _⟩, ?_⟩
    refine c_X0_settle (d := d) hb hyl fun v1 E U hy1 => ?_
    refine ⟨fun (c2 : v1 = 0) => ?_, fun (c2 : ¬ v1 = 0) => ?_⟩
    · change Q (some (.int (-1))) (z, N, qRow (qRow I 49 E) 50 U, L, R)
      have hg : (0 ≤ p ∧ p < I 54 5) := by clear h0 h1; grind
      have hh := h1 hg v1 E U hy1
      have h01 : v1 = 1 ∨ v1 = 0 := hy1.elim (fun h => Or.inl h.1) (fun h => Or.inr h.1)
      rw [if_neg (by clear h0 h1; grind)] at hh
      exact hh
    · refine ⟨⟨Nat.le_refl _, Nat.le_refl _⟩, ?_⟩
      have hg0 : (0 ≤ p ∧ p < I 54 5) := by clear h0 h1; grind
      refine c_X4_fatherOf (d := d) (I := qRow (qRow I 49 E) 50 U) hp hst_ hg0 fun v3 hv3 => ?_
      replace hv3 : v3 = fFa (L 55) (L 56) (I 57) E U (I 54 5) p := hv3
      change Q (some (.int v3)) (z, N, qRow (qRow I 49 E) 50 U, L, R)
      have hg : (0 ≤ p ∧ p < I 54 5) := by clear h0 h1; grind
      have hh := h1 hg v1 E U hy1
      have h01 : v1 = 1 ∨ v1 = 0 := hy1.elim (fun h => Or.inl h.1) (fun h => Or.inr h.1)
      rw [if_pos (by clear h0 h1; grind)] at hh
      subst hv3
      exact hh
  · change Q (some (.int (-2))) (z, N, I, L, R)
    exact h0 (by clear h0 h1; grind)
theorem l_X4_isWord {d z : Nat} {N : Nat → Nat} {I : Nat → Nat → Int32} {L : Nat → Nat → Int64} {R : Nat → Nat → Option Nat} {Q : qP} {v : Int64} : ∀ (k : Int32), ∀ w : Int64, 0 ≤ k → Q (some (.int (if wd (dn 7 k) w = true then 1 else 0))) (z, N, I, L, R) → qJ m_X4_isWord (qWP (d + 0)) Q 13 [(4, .int k), (2, .long w), (0, .long v)] [] 0 0 (z, N, I, L, R) := by
  refine up_ind (7) fun k ih => ?_
  intro w h0 hq
  refine qJ_run (qWP_mono _) [13] 400 ?_
  refine ⟨fun (c1 : 7 ≤ k) => ?_, fun (c1 : ¬ 7 ≤ k) => ?_⟩
  · refine ⟨fun (c2 : ¬ (lg_cmp w 0) = 0) => ?_, fun (c2 : (lg_cmp w 0) = 0) => ?_⟩
    · refine ⟨by first | exact Or.inl rfl | exact Or.inr rfl | (clear ih hq; grind), ?_⟩
      change Q (some (.int 0)) (z, N, I, L, R)
      simp only [lg_eq, lg_gt, lg_le] at *
      have e9 : wd (dn 7 k) w = false := by
        clear ih hq
        first
        | (rw [wd_np (show ¬ 0 < w by assumption)]; exact decide_eq_false (by assumption))
        | (rw [dn_0 (show ¬ k < 7 by grind)]; exact decide_eq_false (by assumption))
        | (rw [dn_s (show k < 7 by grind), wd_s, if_pos (show 0 < w from Classical.not_not.mp (by assumption)), if_pos (show w - w / 27 * 27 = 0 by assumption)])
      rw [e9] at hq
      exact hq
    · refine ⟨by first | exact Or.inl rfl | exact Or.inr rfl | (clear ih hq; grind), ?_⟩
      change Q (some (.int 1)) (z, N, I, L, R)
      simp only [lg_eq, lg_gt, lg_le] at *
      have e9 : wd (dn 7 k) w = true := by
        clear ih hq
        first
        | (rw [wd_np (show ¬ 0 < w by assumption)]; exact decide_eq_true (by assumption))
        | (rw [dn_0 (show ¬ k < 7 by grind)]; exact decide_eq_true (by assumption))
        | (rw [dn_s (show k < 7 by grind), wd_s, if_pos (show 0 < w from Classical.not_not.mp (by assumption)), if_pos (show w - w / 27 * 27 = 0 by assumption)])
      rw [e9] at hq
      exact hq
  · refine ⟨fun (c3 : (lg_cmp w 0) ≤ 0) => ?_, fun (c3 : ¬ (lg_cmp w 0) ≤ 0) => ?_⟩
    · refine ⟨fun (c4 : ¬ (lg_cmp w 0) = 0) => ?_, fun (c4 : (lg_cmp w 0) = 0) => ?_⟩
      · refine ⟨by first | exact Or.inl rfl | exact Or.inr rfl | (clear ih hq; grind), ?_⟩
        change Q (some (.int 0)) (z, N, I, L, R)
        simp only [lg_eq, lg_gt, lg_le] at *
        have e9 : wd (dn 7 k) w = false := by
          clear ih hq
          first
          | (rw [wd_np (show ¬ 0 < w by assumption)]; exact decide_eq_false (by assumption))
          | (rw [dn_0 (show ¬ k < 7 by grind)]; exact decide_eq_false (by assumption))
          | (rw [dn_s (show k < 7 by grind), wd_s, if_pos (show 0 < w from Classical.not_not.mp (by assumption)), if_pos (show w - w / 27 * 27 = 0 by assumption)])
        rw [e9] at hq
        exact hq
      · refine ⟨by first | exact Or.inl rfl | exact Or.inr rfl | (clear ih hq; grind), ?_⟩
        change Q (some (.int 1)) (z, N, I, L, R)
        simp only [lg_eq, lg_gt, lg_le] at *
        have e9 : wd (dn 7 k) w = true := by
          clear ih hq
          first
          | (rw [wd_np (show ¬ 0 < w by assumption)]; exact decide_eq_true (by assumption))
          | (rw [dn_0 (show ¬ k < 7 by grind)]; exact decide_eq_true (by assumption))
          | (rw [dn_s (show k < 7 by grind), wd_s, if_pos (show 0 < w from Classical.not_not.mp (by assumption)), if_pos (show w - w / 27 * 27 = 0 by assumption)])
        rw [e9] at hq
        exact hq
    · refine ⟨?_, ?_⟩
      · decide
      refine ⟨fun (c5 : ¬ (lg_cmp (w - w / 27 * 27) 0) = 0) => ?_, fun (c5 : (lg_cmp (w - w / 27 * 27) 0) = 0) => ?_⟩
      · refine ⟨?_, ?_⟩
        · decide
        have hk : k < 7 := by clear ih hq; grind
        simp only [lg_eq, lg_gt, lg_le] at *
        rw [dn_s hk, wd_s, if_pos (show 0 < w from Classical.not_not.mp (by assumption)), if_neg (show ¬ w - w / 27 * 27 = 0 by assumption)] at hq
        exact ih hk _ (by clear ih hq; grind) hq
      · refine ⟨by first | exact Or.inl rfl | exact Or.inr rfl | (clear ih hq; grind), ?_⟩
        change Q (some (.int 0)) (z, N, I, L, R)
        simp only [lg_eq, lg_gt, lg_le] at *
        have e9 : wd (dn 7 k) w = false := by
          clear ih hq
          first
          | (rw [wd_np (show ¬ 0 < w by assumption)]; exact decide_eq_false (by assumption))
          | (rw [dn_0 (show ¬ k < 7 by grind)]; exact decide_eq_false (by assumption))
          | (rw [dn_s (show k < 7 by grind), wd_s, if_pos (show 0 < w from Classical.not_not.mp (by assumption)), if_pos (show w - w / 27 * 27 = 0 by assumption)])
        rw [e9] at hq
        exact hq
theorem c_X4_isWord {d z : Nat} {N : Nat → Nat} {I : Nat → Nat → Int32} {L : Nat → Nat → Int64} {R : Nat → Nat → Option Nat} {Q : qP} {v : Int64}  (h : ∀ u : Int32, u = (if isW v = true then 1 else 0) → Q (some (.int u)) (z, N, I, L, R)) : qWP (d + 1) 51 [.long v] (z, N, I, L, R) Q := by
  refine qWP_of m_X4_isWord rfl rfl [(0, .long v)] rfl ?_
  refine qJ_run (qWP_mono _) [13] 400 ?_
  refine ⟨fun (c1 : 0 < (lg_cmp v 0)) => ?_, fun (c1 : ¬ 0 < (lg_cmp v 0)) => ?_⟩
  · simp only [lg_eq, lg_gt, lg_le] at *
    refine l_X4_isWord (d := d) 0 _ (by decide) (h _ ?_)
    unfold isW
    rw [if_pos (show 0 < v by assumption)]
    rfl
  · refine ⟨by first | exact Or.inl rfl | exact Or.inr rfl | (clear h; grind), ?_⟩
    change Q (some (.int 0)) (z, N, I, L, R)
    simp only [lg_eq, lg_gt, lg_le] at *
    refine h _ ?_
    unfold isW
    rw [if_neg (show ¬ 0 < v by assumption)]
    rfl
