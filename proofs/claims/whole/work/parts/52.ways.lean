/-! ways over a surface -/
def gWy (lt : Int32 → Int32 → Int32) (my : Nat → Int32) (i p _x : Int32) : Sum Int32 Int32 := if (my p.toNatClampNeg >>> (onL (lt i p) &&& 31)) &&& 1 = 0 then .inr 0 else .inl 1
def fWy (lt : Int32 → Int32 → Int32) (my : Nat → Int32) (w i : Int32) : Int32 := if w < 24 ∧ ¬ lt i w = -1 then 0 else upS w (gWy lt my i) id 0 1
def gCw (lt : Int32 → Int32 → Int32) (my : Nat → Int32) (w i c : Int32) : Int32 := if fWy lt my w i = 0 then c else c + 1
def gFw (lt : Int32 → Int32 → Int32) (my : Nat → Int32) (w t i c : Int32) : Sum Int32 Int32 := if fWy lt my w i = 0 then .inl c else if c = t then .inr i else .inl (c + 1)
def gCi (lt : Int32 → Int32 → Int32) (m i p : Int32) (e : Nat → Int32) : Nat → Int32 := uI e p.toNatClampNeg (if ¬ m = 0 ∨ e p.toNatClampNeg = onL (lt i p) then onL (lt i p) else -1)
def gCa (lt : Int32 → Int32 → Int32) (my : Nat → Int32) (w i : Int32) (S : Int32 × (Nat → Int32)) : Int32 × (Nat → Int32) := if fWy lt my w i = 0 then S else (0, upF w (gCi lt S.1 i) 0 S.2)
def fCa (lt : Int32 → Int32 → Int32) (my : Nat → Int32) (w n : Int32) (e : Nat → Int32) : Nat → Int32 := (upF n (gCa lt my w) 0 (1, e)).2
def gLb (mf : Int32 → Int32) (p : Int32) (S : Int32 × (Nat → Int32)) : Sum (Int32 × (Nat → Int32)) (Int32 × Int32 × (Nat → Int32)) := if S.1 = 24 then .inr (0, S) else .inl (S.1 + 1, uI S.2 S.1.toNatClampNeg (mf p))
def fLb (mf : Int32 → Int32) (n w : Int32) (e : Nat → Int32) : Int32 × Int32 × (Nat → Int32) := upS n (gLb mf) (fun S => (1, S)) 0 (w, e)
theorem fLb_0 {mf : Int32 → Int32} {n w : Int32} {e : Nat → Int32} (hn : 0 ≤ n ∧ n ≤ 24) (hw : 0 ≤ w ∧ w ≤ 24) (h : w + n ≤ 24) : (fLb mf n w e).1 = 1 ∧ (fLb mf n w e).2.1 = w + n ∧ (∀ p : Int32, 0 ≤ p → p < n → (fLb mf n w e).2.2 (w + p).toNatClampNeg = mf p) ∧ ∀ j : Int32, 0 ≤ j → j < w → (fLb mf n w e).2.2 j.toNatClampNeg = e j.toNatClampNeg := by
  refine upS_inv (fun k (S : Int32 × (Nat → Int32)) => S.1 = w + k ∧ (∀ p : Int32, 0 ≤ p → p < k → S.2 (w + p).toNatClampNeg = mf p) ∧ ∀ j : Int32, 0 ≤ j → j < w → S.2 j.toNatClampNeg = e j.toNatClampNeg) (fun (r : Int32 × Int32 × (Nat → Int32)) => r.1 = 1 ∧ r.2.1 = w + n ∧ (∀ p : Int32, 0 ≤ p → p < n → r.2.2 (w + p).toNatClampNeg = mf p) ∧ ∀ j : Int32, 0 ≤ j → j < w → r.2.2 j.toNatClampNeg = e j.toNatClampNeg) (fun S hS => ⟨rfl, hS.1, hS.2⟩) (fun k S k0 k1 hS => ?_) 0 (w, e) (by decide) hn.1 ⟨by dsimp only; grind, fun p p0 p1 => absurd p1 (by grind), fun j _ _ => rfl⟩
  obtain ⟨e1, e2, e3⟩ := hS
  unfold gLb
  rw [if_neg (by rw [e1]; grind)]
  refine Or.inl ⟨_, rfl, by dsimp only; rw [e1]; grind, fun p p0 p1 => ?_, fun j j0 j1 => ?_⟩
  · dsimp only
    rw [uI_t (by grind) (by rw [e1]; grind), e1]
    by_cases hp : p = k
    · rw [if_pos (by rw [hp]), hp]
    · rw [if_neg (by grind)]; exact e2 p p0 (by grind)
  · dsimp only
    rw [uI_t j0 (by rw [e1]; grind), e1, if_neg (by grind)]
    exact e3 j j0 j1
theorem fLb_f {mf : Int32 → Int32} {n w : Int32} {e : Nat → Int32} (hn : 0 ≤ n ∧ n ≤ 24) (hw : 0 ≤ w ∧ w ≤ 24) (h : 24 < w + n) : (fLb mf n w e).1 = 0 := by
  refine upS_inv (n := n) (fun k (S : Int32 × (Nat → Int32)) => S.1 = w + k ∧ S.1 ≤ 24) (fun (r : Int32 × Int32 × (Nat → Int32)) => r.1 = 0) (fun S hS => by exfalso; grind) (fun k S k0 k1 hS => ?_) 0 (w, e) (by decide) hn.1 ⟨by dsimp only; grind, hw.2⟩
  unfold gLb
  by_cases hc : S.1 = 24
  · rw [if_pos hc]; exact Or.inr ⟨_, rfl, rfl⟩
  · rw [if_neg hc]; exact Or.inl ⟨_, rfl, by dsimp only; grind, by dsimp only; grind⟩
theorem fLb_w {mf : Int32 → Int32} {n w : Int32} {e : Nat → Int32} (hn : 0 ≤ n ∧ n ≤ 24) (hw : 0 ≤ w ∧ w ≤ 24) : 0 ≤ (fLb mf n w e).2.1 ∧ (fLb mf n w e).2.1 ≤ 24 := by
  refine upS_inv (n := n) (fun k (S : Int32 × (Nat → Int32)) => 0 ≤ S.1 ∧ S.1 ≤ 24) (fun (r : Int32 × Int32 × (Nat → Int32)) => 0 ≤ r.2.1 ∧ r.2.1 ≤ 24) (fun S hS => hS) (fun k S k0 k1 hS => ?_) 0 (w, e) (by decide) hn.1 hw
  unfold gLb
  by_cases hc : S.1 = 24
  · rw [if_pos hc]; exact Or.inr ⟨_, rfl, hS⟩
  · rw [if_neg hc]; exact Or.inl ⟨_, rfl, by dsimp only; grind, by dsimp only; grind⟩
theorem fWy01 {lt : Int32 → Int32 → Int32} {my : Nat → Int32} {w i : Int32} (hw : 0 ≤ w) : fWy lt my w i = 0 ∨ fWy lt my w i = 1 := by
  unfold fWy
  split
  · exact Or.inl rfl
  · refine upS_inv (fun _ x => x = 1) (fun x => x = 0 ∨ x = 1) (fun x h => Or.inr h) (fun k x h0 h1 h => ?_) 0 1 (by decide) hw rfl
    unfold gWy
    split
    · exact Or.inr ⟨_, rfl, Or.inl rfl⟩
    · exact Or.inl ⟨_, rfl, rfl⟩
def okF (z : Nat) (N : Nat → Nat) (I : Nat → Nat → Int32) (h : Nat) : Prop := qK h = 9 ∧ qK (h + 1) = 15 ∧ qSz (h + 1) = none ∧ h + 1 < z + 2 ∧ (0 ≤ I h 1 ∧ I h 1 ≤ 200) ∧ (2 * (I h 1).toNatClampNeg ≤ N (h + 1) ∧ N (h + 1) ≤ 400)
theorem c_X7_letterOn {d z : Nat} {N : Nat → Nat} {I : Nat → Nat → Int32} {L : Nat → Nat → Int64} {R : Nat → Nat → Option Nat} {Q : qP} {h : Nat} {i : Int32} {p : Int32} (hk : qK h = 9) (hk1 : qK (h + 1) = 15) (hz : qSz (h + 1) = none) (hlt : h + 1 < z + 2) (hsz : 0 ≤ I h 1 ∧ I h 1 ≤ 200) (hN : 2 * (I h 1).toNatClampNeg ≤ N (h + 1) ∧ N (h + 1) ≤ 400) (h_ : ∀ v : Int32, v = onL ((sLt (I h 1) (L (h + 1))) i p) → Q (some (.int v)) (z, N, I, L, R)) : qWP (d + 3) 88 [.ref 40, .ref h, .int i, .int p] (z, N, I, L, R) Q := by
  refine qWP_of m_X7_letterOn rfl rfl [(0, .ref 40), (1, .ref h), (2, .int i), (3, .int p)] rfl ?_
  refine qJ_run (qWP_mono _) [3] 400 ?_
  change qJ m_X7_letterOn (qWP _) Q 3 [(0, .ref 40), (1, .ref h), (2, .int i), (3, .int p)] [.int p, .int i, .ref h] _ _ (z, N, I, L, R)
  refine qJ_run (qWP_mono _) [3] 400 ?_
  refine st_call rfl (fun _ h => h) hk rfl (Nat.lt_of_succ_lt hlt) ?_
  refine ⟨⟨Nat.le_refl _, Nat.le_refl _⟩, ?_⟩
  refine c_X9_letter (d := d) hk hk1 hz hlt hsz hN fun v1 hv1 => ?_
  refine ⟨fun (c1 : ¬ v1 = (-1)) => ?_, fun (c1 : v1 = (-1)) => ?_⟩
  · change Q (some (.int v1)) (z, N, I, L, R)
    refine h_ _ ?_
    unfold onL
    rw [← hv1]
    exact (if_neg (by assumption)).symm
  · change Q (some (.int 26)) (z, N, I, L, R)
    refine h_ _ ?_
    unfold onL
    rw [← hv1]
    exact (if_pos (by assumption)).symm
theorem l_X7_isWay {d z : Nat} {N : Nat → Nat} {I : Nat → Nat → Int32} {L : Nat → Nat → Int64} {R : Nat → Nat → Option Nat} {Q : qP} {h : Nat} {i : Int32} (hk : qK h = 9) (hk1 : qK (h + 1) = 15) (hz : qSz (h + 1) = none) (hlt : h + 1 < z + 2) (hsz : 0 ≤ I h 1 ∧ I h 1 ≤ 200) (hN : 2 * (I h 1).toNatClampNeg ≤ N (h + 1) ∧ N (h + 1) ≤ 400) (hw : 0 ≤ I 40 2 ∧ I 40 2 ≤ 24) : ∀ (p : Int32), ∀ x : Int32, 0 ≤ p → x = 1 → Q (some (.int (upS (I 40 2) (gWy (sLt (I h 1) (L (h + 1))) (I 41) i) id p x))) (z, N, I, L, R) → qJ m_X7_isWay (qWP (d + 3)) Q 26 [(3, .int p), (2, .int i), (1, .ref h), (0, .ref 40)] [] 0 0 (z, N, I, L, R) := by
  refine up_ind (I 40 2) fun p ih => ?_
  intro x h0 hx hq
  refine qJ_run (qWP_mono _) [26] 400 ?_
  refine ⟨fun (c1 : (I 40 2) ≤ p) => ?_, fun (c1 : ¬ (I 40 2) ≤ p) => ?_⟩
  · refine ⟨by first | exact Or.inl rfl | exact Or.inr rfl | (clear ih hq; grind), ?_⟩
    change Q (some (.int 1)) (z, N, I, L, R)
    rw [upS_ge (by clear ih hq hk hk1 hz hlt hN; grind)] at hq
    subst hx
    exact hq
  · refine ⟨fun (c2 : 24 ≤ p) => ?_, fun (c2 : ¬ 24 ≤ p) => ?_⟩
    · refine ⟨by first | exact Or.inl rfl | exact Or.inr rfl | (clear ih hq; grind), ?_⟩
      change Q (some (.int 1)) (z, N, I, L, R)
      rw [upS_ge (by clear ih hq hk hk1 hz hlt hN; grind)] at hq
      subst hx
      exact hq
    · refine ⟨?_, ?_⟩
      · exact vb (x := p) (N := 24) 24 (by decide) (by clear ih hq; grind) (by clear ih hq; grind)
      refine ⟨⟨Nat.le_refl _, Nat.le_refl _⟩, ?_⟩
      refine c_X7_letterOn (d := d) hk hk1 hz hlt hsz hN fun v1 hv1 => ?_
      refine ⟨fun (c3 : ¬ (((I 41 ((p).toNatClampNeg)) >>> (v1 &&& 31)) &&& 1) = 0) => ?_, fun (c3 : (((I 41 ((p).toNatClampNeg)) >>> (v1 &&& 31)) &&& 1) = 0) => ?_⟩
      · have hp : p < I 40 2 := Int32.not_le.mp c1
        have e9 : gWy (sLt (I h 1) (L (h + 1))) (I 41) i p x = .inl 1 := by
          unfold gWy
          rw [← hv1]
          exact if_neg (by assumption)
        rw [upS_on hp e9] at hq
        exact ih hp _ (by clear ih hq hk hk1 hz hlt hN; grind) rfl hq
      · refine ⟨by first | exact Or.inl rfl | exact Or.inr rfl | (clear ih hq; grind), ?_⟩
        change Q (some (.int 0)) (z, N, I, L, R)
        have hp : p < I 40 2 := Int32.not_le.mp c1
        have e9 : gWy (sLt (I h 1) (L (h + 1))) (I 41) i p x = .inr 0 := by
          unfold gWy
          rw [← hv1]
          exact if_pos (by assumption)
        rw [upS_out hp e9] at hq
        exact hq
theorem c_X7_isWay {d z : Nat} {N : Nat → Nat} {I : Nat → Nat → Int32} {L : Nat → Nat → Int64} {R : Nat → Nat → Option Nat} {Q : qP} {h : Nat} {i : Int32} (hk : qK h = 9) (hk1 : qK (h + 1) = 15) (hz : qSz (h + 1) = none) (hlt : h + 1 < z + 2) (hsz : 0 ≤ I h 1 ∧ I h 1 ≤ 200) (hN : 2 * (I h 1).toNatClampNeg ≤ N (h + 1) ∧ N (h + 1) ≤ 400) (hw : 0 ≤ I 40 2 ∧ I 40 2 ≤ 24) (h_ : ∀ v : Int32, v = fWy (sLt (I h 1) (L (h + 1))) (I 41) (I 40 2) i → Q (some (.int v)) (z, N, I, L, R)) : qWP (d + 4) 87 [.ref 40, .ref h, .int i] (z, N, I, L, R) Q := by
  refine qWP_of m_X7_isWay rfl rfl [(0, .ref 40), (1, .ref h), (2, .int i)] rfl ?_
  refine qJ_run (qWP_mono _) [15, 26] 400 ?_
  refine ⟨fun (c1 : 24 ≤ (I 40 2)) => ?_, fun (c1 : ¬ 24 ≤ (I 40 2)) => ?_⟩
  · refine qJ_nm (qWP_mono _) [] [(3, .int 0), (2, .int i), (1, .ref h), (0, .ref 40)] rfl rfl rfl ?_
    refine l_X7_isWay (d := d) hk hk1 hz hlt hsz hN hw 0 1 (by decide) rfl (h_ _ ?_)
    unfold fWy
    exact (if_neg (fun hh => absurd hh.1 (Int32.not_lt.mpr (by assumption)))).symm
  · change qJ m_X7_isWay (qWP _) Q 15 [(0, .ref 40), (1, .ref h), (2, .int i)] [.int (I 40 2), .int i, .ref h] _ _ (z, N, I, L, R)
    refine qJ_run (qWP_mono _) [15, 26] 400 ?_
    refine st_call rfl (fun _ h => h) hk rfl (Nat.lt_of_succ_lt hlt) ?_
    refine ⟨⟨Nat.le_refl _, Nat.le_refl _⟩, ?_⟩
    refine c_X9_letter (d := d + 1) hk hk1 hz hlt hsz hN fun v1 hv1 => ?_
    refine ⟨fun (c2 : v1 = (-1)) => ?_, fun (c2 : ¬ v1 = (-1)) => ?_⟩
    · refine qJ_nm (qWP_mono _) [] [(3, .int 0), (2, .int i), (1, .ref h), (0, .ref 40)] rfl rfl rfl ?_
      refine l_X7_isWay (d := d) hk hk1 hz hlt hsz hN hw 0 1 (by decide) rfl (h_ _ ?_)
      unfold fWy
      rw [← hv1]
      exact (if_neg (fun hh => hh.2 (by assumption))).symm
    · refine ⟨by first | exact Or.inl rfl | exact Or.inr rfl | (clear h_; grind), ?_⟩
      change Q (some (.int 0)) (z, N, I, L, R)
      refine h_ _ ?_
      unfold fWy
      rw [← hv1]
      exact (if_pos ⟨Int32.not_le.mp (by assumption), by assumption⟩).symm
theorem l_X7_countWays {d z : Nat} {N : Nat → Nat} {I : Nat → Nat → Int32} {L : Nat → Nat → Int64} {R : Nat → Nat → Option Nat} {Q : qP} {h : Nat} (hk : qK h = 9) (hk1 : qK (h + 1) = 15) (hz : qSz (h + 1) = none) (hlt : h + 1 < z + 2) (hsz : 0 ≤ I h 1 ∧ I h 1 ≤ 200) (hN : 2 * (I h 1).toNatClampNeg ≤ N (h + 1) ∧ N (h + 1) ≤ 400) (hw : 0 ≤ I 40 2 ∧ I 40 2 ≤ 24) : ∀ (k : Int32), ∀ c : Int32, 0 ≤ k → Q (some (.int (upF (I h 1) (gCw (sLt (I h 1) (L (h + 1))) (I 41) (I 40 2)) k c))) (z, N, I, L, R) → qJ m_X7_countWays (qWP (d + 4)) Q 4 [(3, .int k), (2, .int c), (1, .ref h), (0, .ref 40)] [] 0 0 (z, N, I, L, R) := by
  refine up_ind (I h 1) fun k ih => ?_
  intro c h0 hq
  refine qJ_run (qWP_mono _) [4, 6] 400 ?_
  change qJ m_X7_countWays (qWP _) Q 6 [(3, .int k), (2, .int c), (1, .ref h), (0, .ref 40)] [.ref h, .int k] _ _ (z, N, I, L, R)
  refine qJ_run (qWP_mono _) [4, 6] 400 ?_
  refine st_call rfl (fun _ h => h) hk rfl (Nat.lt_of_succ_lt hlt) ?_
  refine ⟨⟨Nat.le_refl _, Nat.le_refl _⟩, ?_⟩
  refine c_X9_size (d := d + 3) hk hk1 hz hlt hsz hN fun v1 hv1 => ?_
  obtain rfl : v1 = I h 1 := hv1
  refine ⟨fun (c1 : (I h 1) ≤ k) => ?_, fun (c1 : ¬ (I h 1) ≤ k) => ?_⟩
  · change Q (some (.int c)) (z, N, I, L, R)
    rw [upF_ge (Int32.not_lt.mpr c1)] at hq
    exact hq
  · refine ⟨⟨Nat.le_refl _, Nat.le_refl _⟩, ?_⟩
    refine c_X7_isWay (d := d) hk hk1 hz hlt hsz hN hw fun v2 hiw => ?_
    refine ⟨fun (c2 : v2 = 0) => ?_, fun (c2 : ¬ v2 = 0) => ?_⟩
    · have hkk : k < I h 1 := Int32.not_le.mp c1
      have e9 : gCw (sLt (I h 1) (L (h + 1))) (I 41) (I 40 2) k c = c := by
        unfold gCw
        rw [← hiw]
        first | exact if_pos (by assumption) | exact if_neg (by assumption)
      rw [upF_on hkk, e9] at hq
      exact ih hkk _ (by clear ih hq hk hk1 hz hlt hN; grind) hq
    · have hkk : k < I h 1 := Int32.not_le.mp c1
      have e9 : gCw (sLt (I h 1) (L (h + 1))) (I 41) (I 40 2) k c = (c + 1) := by
        unfold gCw
        rw [← hiw]
        first | exact if_pos (by assumption) | exact if_neg (by assumption)
      rw [upF_on hkk, e9] at hq
      exact ih hkk _ (by clear ih hq hk hk1 hz hlt hN; grind) hq
theorem c_X7_countWays {d z : Nat} {N : Nat → Nat} {I : Nat → Nat → Int32} {L : Nat → Nat → Int64} {R : Nat → Nat → Option Nat} {Q : qP} {h : Nat} (hk : qK h = 9) (hk1 : qK (h + 1) = 15) (hz : qSz (h + 1) = none) (hlt : h + 1 < z + 2) (hsz : 0 ≤ I h 1 ∧ I h 1 ≤ 200) (hN : 2 * (I h 1).toNatClampNeg ≤ N (h + 1) ∧ N (h + 1) ≤ 400) (hw : 0 ≤ I 40 2 ∧ I 40 2 ≤ 24) (h_ : ∀ v : Int32, v = upF (I h 1) (gCw (sLt (I h 1) (L (h + 1))) (I 41) (I 40 2)) 0 0 → Q (some (.int v)) (z, N, I, L, R)) : qWP (d + 5) 89 [.ref 40, .ref h] (z, N, I, L, R) Q := by
  refine qWP_of m_X7_countWays rfl rfl [(0, .ref 40), (1, .ref h)] rfl ?_
  refine qJ_run (qWP_mono _) [4] 400 ?_
  refine qJ_nm (qWP_mono _) [] [(3, .int 0), (2, .int 0), (1, .ref h), (0, .ref 40)] rfl rfl rfl ?_
  exact l_X7_countWays (d := d) hk hk1 hz hlt hsz hN hw 0 0 (by decide) (h_ _ rfl)
theorem l_X7_findWay {d z : Nat} {N : Nat → Nat} {I : Nat → Nat → Int32} {L : Nat → Nat → Int64} {R : Nat → Nat → Option Nat} {Q : qP} {h : Nat} {t : Int32} (hk : qK h = 9) (hk1 : qK (h + 1) = 15) (hz : qSz (h + 1) = none) (hlt : h + 1 < z + 2) (hsz : 0 ≤ I h 1 ∧ I h 1 ≤ 200) (hN : 2 * (I h 1).toNatClampNeg ≤ N (h + 1) ∧ N (h + 1) ≤ 400) (hw : 0 ≤ I 40 2 ∧ I 40 2 ≤ 24) : ∀ (k : Int32), ∀ c : Int32, 0 ≤ k → Q (some (.int (upS (I h 1) (gFw (sLt (I h 1) (L (h + 1))) (I 41) (I 40 2) t) (fun _ => -1) k c))) (z, N, I, L, R) → qJ m_X7_findWay (qWP (d + 4)) Q 5 [(4, .int k), (3, .int c), (2, .int t), (1, .ref h), (0, .ref 40)] [] 0 0 (z, N, I, L, R) := by
  refine up_ind (I h 1) fun k ih => ?_
  intro c h0 hq
  refine qJ_run (qWP_mono _) [5, 8] 400 ?_
  change qJ m_X7_findWay (qWP _) Q 8 [(4, .int k), (3, .int c), (2, .int t), (1, .ref h), (0, .ref 40)] [.ref h, .int k] _ _ (z, N, I, L, R)
  refine qJ_run (qWP_mono _) [5, 8] 400 ?_
  refine st_call rfl (fun _ h => h) hk rfl (Nat.lt_of_succ_lt hlt) ?_
  refine ⟨⟨Nat.le_refl _, Nat.le_refl _⟩, ?_⟩
  refine c_X9_size (d := d + 3) hk hk1 hz hlt hsz hN fun v1 hv1 => ?_
  obtain rfl : v1 = I h 1 := hv1
  refine ⟨fun (c1 : (I h 1) ≤ k) => ?_, fun (c1 : ¬ (I h 1) ≤ k) => ?_⟩
  · change Q (some (.int (-1))) (z, N, I, L, R)
    rw [upS_ge (Int32.not_lt.mpr c1)] at hq
    exact hq
  · refine ⟨⟨Nat.le_refl _, Nat.le_refl _⟩, ?_⟩
    refine c_X7_isWay (d := d) hk hk1 hz hlt hsz hN hw fun v2 hiw => ?_
    refine ⟨fun (c2 : v2 = 0) => ?_, fun (c2 : ¬ v2 = 0) => ?_⟩
    · have hkk : k < I h 1 := Int32.not_le.mp c1
      have e9 : gFw (sLt (I h 1) (L (h + 1))) (I 41) (I 40 2) t k c = .inl c := by
        unfold gFw
        rw [← hiw]
        exact if_pos (by assumption)
      rw [upS_on hkk e9] at hq
      exact ih hkk _ (by clear ih hq hk hk1 hz hlt hN; grind) hq
    · refine ⟨fun (c3 : ¬ c = t) => ?_, fun (c3 : c = t) => ?_⟩
      · have hkk : k < I h 1 := Int32.not_le.mp c1
        have e9 : gFw (sLt (I h 1) (L (h + 1))) (I 41) (I 40 2) t k c = .inl (c + 1) := by
          unfold gFw
          rw [← hiw]
          rw [if_neg (by assumption)]; exact if_neg (by assumption)
        rw [upS_on hkk e9] at hq
        exact ih hkk _ (by clear ih hq hk hk1 hz hlt hN; grind) hq
      · change Q (some (.int k)) (z, N, I, L, R)
        have hkk : k < I h 1 := Int32.not_le.mp c1
        have e9 : gFw (sLt (I h 1) (L (h + 1))) (I 41) (I 40 2) t k c = .inr k := by
          unfold gFw
          rw [← hiw, if_neg (by assumption)]
          exact if_pos (by assumption)
        rw [upS_out hkk e9] at hq
        exact hq
theorem c_X7_findWay {d z : Nat} {N : Nat → Nat} {I : Nat → Nat → Int32} {L : Nat → Nat → Int64} {R : Nat → Nat → Option Nat} {Q : qP} {h : Nat} {t : Int32} (hk : qK h = 9) (hk1 : qK (h + 1) = 15) (hz : qSz (h + 1) = none) (hlt : h + 1 < z + 2) (hsz : 0 ≤ I h 1 ∧ I h 1 ≤ 200) (hN : 2 * (I h 1).toNatClampNeg ≤ N (h + 1) ∧ N (h + 1) ≤ 400) (hw : 0 ≤ I 40 2 ∧ I 40 2 ≤ 24) (h_ : ∀ v : Int32, v = upS (I h 1) (gFw (sLt (I h 1) (L (h + 1))) (I 41) (I 40 2) t) (fun _ => -1) 0 0 → Q (some (.int v)) (z, N, I, L, R)) : qWP (d + 5) 90 [.ref 40, .ref h, .int t] (z, N, I, L, R) Q := by
  refine qWP_of m_X7_findWay rfl rfl [(0, .ref 40), (1, .ref h), (2, .int t)] rfl ?_
  refine qJ_run (qWP_mono _) [5] 400 ?_
  refine qJ_nm (qWP_mono _) [] [(4, .int 0), (3, .int 0), (2, .int t), (1, .ref h), (0, .ref 40)] rfl rfl rfl ?_
  exact l_X7_findWay (d := d) hk hk1 hz hlt hsz hN hw 0 0 (by decide) (h_ _ rfl)
theorem c_X7_carryNothing {d z : Nat} {N : Nat → Nat} {I : Nat → Nat → Int32} {L : Nat → Nat → Int64} {R : Nat → Nat → Option Nat} {Q : qP} (hst : qStat (z, N, I, L, R)) (h : Q none (z, N, qRow I 42 (fun i => if i < 24 then -1 else I 42 i), L, R)) : qWP (d + 2) 91 [.ref 40] (z, N, I, L, R) Q := by
  refine qWP_of m_X7_carryNothing rfl rfl [(0, .ref 40)] rfl ?_
  refine qJ_run (qWP_mono _) [] 400 ?_
  refine ⟨⟨Nat.le_refl _, Nat.le_refl _⟩, ?_⟩
  refine c_fill_42 (Nat.lt_of_lt_of_le (by decide) hst.1) ⟨hst, ?_⟩
  change Q none (z, N, qRow I 42 (fun i => if i < 24 then -1 else I 42 i), L, R)
  exact h
theorem l_X7_carry2 {d z : Nat} {N : Nat → Nat} {I : Nat → Nat → Int32} {L : Nat → Nat → Int64} {R : Nat → Nat → Option Nat} {Q : qP} {h : Nat} {i m : Int32} {e0 : Nat → Int32} (hk : qK h = 9) (hk1 : qK (h + 1) = 15) (hz : qSz (h + 1) = none) (hlt : h + 1 < z + 2) (hsz : 0 ≤ I h 1 ∧ I h 1 ≤ 200) (hN : 2 * (I h 1).toNatClampNeg ≤ N (h + 1) ∧ N (h + 1) ≤ 400) (hw : 0 ≤ I 40 2 ∧ I 40 2 ≤ 24) (hge : 96 ≤ h) (hout : qJ m_X7_carry (qWP (d + 4)) Q 8 [(3, .int (i + 1)), (2, .int 0), (1, .ref h), (0, .ref 40)] [] 0 0 (z, N, qRow I 42 (upF (I 40 2) (gCi (sLt (I h 1) (L (h + 1))) m i) 0 e0), L, R)) : ∀ (p : Int32), ∀ e : Nat → Int32, 0 ≤ p → upF (I 40 2) (gCi (sLt (I h 1) (L (h + 1))) m i) p e = upF (I 40 2) (gCi (sLt (I h 1) (L (h + 1))) m i) 0 e0 → qJ m_X7_carry (qWP (d + 4)) Q 28 [(4, .int p), (3, .int i), (2, .int m), (1, .ref h), (0, .ref 40)] [] 0 0 (z, N, qRow I 42 e, L, R) := by
  refine up_ind (I 40 2) fun p ih => ?_
  intro e h0 hq
  refine qJ_run (qWP_mono _) [8, 28, 95] 400 ?_
  refine ⟨fun (c1 : (I 40 2) ≤ p) => ?_, fun (c1 : ¬ (I 40 2) ≤ p) => ?_⟩
  · refine qJ_nm (qWP_mono _) [(4, _)] [(3, .int (i + 1)), (2, .int 0), (1, .ref h), (0, .ref 40)] rfl rfl rfl ?_
    have hp : ¬ p < I 40 2 := by clear ih hq hout hk hk1 hz hlt hN; grind
    rw [upF_ge hp] at hq
    rw [hq]
    exact hout
  · refine br_f (show ¬ 24 ≤ p from (by clear ih hq hout hk hk1 hz hlt hN; grind)) ?_
    refine ⟨⟨Nat.le_refl _, Nat.le_refl _⟩, ?_⟩
    refine c_X7_letterOn (d := d + 1) (I := qRow I 42 e) hk hk1 hz hlt (by rw [qRow_ne (by omega)]; exact hsz) (by rw [qRow_ne (by omega)]; exact hN) fun v1 hv1 => ?_
    rw [qRow_ne (by omega)] at hv1
    refine ⟨fun (c3 : ¬ m = 0) => ?_, fun (c3 : m = 0) => ?_⟩
    · refine ⟨fun h => absurd h (by decide), fun _ => ?_⟩
      refine ⟨?_, ?_⟩
      · exact vb (x := p) (N := 24) 24 (by decide) h0 (by clear ih hq hout hk hk1 hz hlt hN; grind)
      refine qJ_M (M2 := (z, N, qRow I 42 (uI e ((p).toNatClampNeg) v1), L, R)) (by (try dsimp only); (simp (decide := true) only [q2_qRow, q2_qRow2, q2_qRow3]) <;> rfl) ?_
      change qJ m_X7_carry (qWP _) Q 95 [(6, .int 1), (5, .int v1), (4, .int p), (3, .int i), (2, .int m), (1, .ref h), (0, .ref 40)] [] _ _ (z, N, qRow I 42 (uI e ((p).toNatClampNeg) v1), L, R)
      refine qJ_run (qWP_mono _) [8, 28, 95] 400 ?_
      refine qJ_nm (qWP_mono _) [(6, _), (5, _)] [(4, .int (p + 1)), (3, .int i), (2, .int m), (1, .ref h), (0, .ref 40)] rfl rfl rfl ?_
      have hp : p < I 40 2 := Int32.not_le.mp c1
      have e9 : gCi (sLt (I h 1) (L (h + 1))) m i p e = uI e ((p).toNatClampNeg) v1 := by
        unfold gCi
        rw [← hv1]
        congr 1
        first | exact if_pos (by clear ih hq hout hk hk1 hz hlt hN; grind) | exact if_neg (by clear ih hq hout hk hk1 hz hlt hN; grind)
      rw [upF_on hp, e9] at hq
      exact ih hp _ (by clear ih hq hout hk hk1 hz hlt hN; grind) hq
    · refine ⟨?_, ?_⟩
      · exact vb (x := p) (N := 24) 24 (by decide) h0 (by clear ih hq hout hk hk1 hz hlt hN; grind)
      refine ⟨fun (c4 : ¬ (e ((p).toNatClampNeg)) = v1) => ?_, fun (c4 : (e ((p).toNatClampNeg)) = v1) => ?_⟩
      · refine ⟨fun _ => ?_, fun h => absurd h (by decide)⟩
        refine ⟨?_, ?_⟩
        · exact vb (x := p) (N := 24) 24 (by decide) h0 (by clear ih hq hout hk hk1 hz hlt hN; grind)
        refine qJ_M (M2 := (z, N, qRow I 42 (uI e ((p).toNatClampNeg) (-1)), L, R)) (by (try dsimp only); (simp (decide := true) only [q2_qRow, q2_qRow2, q2_qRow3]) <;> rfl) ?_
        change qJ m_X7_carry (qWP _) Q 95 [(6, .int 0), (5, .int v1), (4, .int p), (3, .int i), (2, .int m), (1, .ref h), (0, .ref 40)] [] _ _ (z, N, qRow I 42 (uI e ((p).toNatClampNeg) (-1)), L, R)
        refine qJ_run (qWP_mono _) [8, 28, 95] 400 ?_
        refine qJ_nm (qWP_mono _) [(6, _), (5, _)] [(4, .int (p + 1)), (3, .int i), (2, .int m), (1, .ref h), (0, .ref 40)] rfl rfl rfl ?_
        have hp : p < I 40 2 := Int32.not_le.mp c1
        have e9 : gCi (sLt (I h 1) (L (h + 1))) m i p e = uI e ((p).toNatClampNeg) (-1) := by
          unfold gCi
          rw [← hv1]
          congr 1
          first | exact if_pos (by clear ih hq hout hk hk1 hz hlt hN; grind) | exact if_neg (by clear ih hq hout hk hk1 hz hlt hN; grind)
        rw [upF_on hp, e9] at hq
        exact ih hp _ (by clear ih hq hout hk hk1 hz hlt hN; grind) hq
      · refine ⟨fun h => absurd h (by decide), fun _ => ?_⟩
        refine ⟨?_, ?_⟩
        · exact vb (x := p) (N := 24) 24 (by decide) h0 (by clear ih hq hout hk hk1 hz hlt hN; grind)
        refine qJ_M (M2 := (z, N, qRow I 42 (uI e ((p).toNatClampNeg) v1), L, R)) (by (try dsimp only); (simp (decide := true) only [q2_qRow, q2_qRow2, q2_qRow3]) <;> rfl) ?_
        change qJ m_X7_carry (qWP _) Q 95 [(6, .int 1), (5, .int v1), (4, .int p), (3, .int i), (2, .int m), (1, .ref h), (0, .ref 40)] [] _ _ (z, N, qRow I 42 (uI e ((p).toNatClampNeg) v1), L, R)
        refine qJ_run (qWP_mono _) [8, 28, 95] 400 ?_
        refine qJ_nm (qWP_mono _) [(6, _), (5, _)] [(4, .int (p + 1)), (3, .int i), (2, .int m), (1, .ref h), (0, .ref 40)] rfl rfl rfl ?_
        have hp : p < I 40 2 := Int32.not_le.mp c1
        have e9 : gCi (sLt (I h 1) (L (h + 1))) m i p e = uI e ((p).toNatClampNeg) v1 := by
          unfold gCi
          rw [← hv1]
          congr 1
          first | exact if_pos (by clear ih hq hout hk hk1 hz hlt hN; grind) | exact if_neg (by clear ih hq hout hk hk1 hz hlt hN; grind)
        rw [upF_on hp, e9] at hq
        exact ih hp _ (by clear ih hq hout hk hk1 hz hlt hN; grind) hq
theorem l_X7_carry {d z : Nat} {N : Nat → Nat} {I : Nat → Nat → Int32} {L : Nat → Nat → Int64} {R : Nat → Nat → Option Nat} {Q : qP} {h : Nat} (hk : qK h = 9) (hk1 : qK (h + 1) = 15) (hz : qSz (h + 1) = none) (hlt : h + 1 < z + 2) (hsz : 0 ≤ I h 1 ∧ I h 1 ≤ 200) (hN : 2 * (I h 1).toNatClampNeg ≤ N (h + 1) ∧ N (h + 1) ≤ 400) (hw : 0 ≤ I 40 2 ∧ I 40 2 ≤ 24) (hge : 96 ≤ h) : ∀ (i : Int32), ∀ (m : Int32) (e : Nat → Int32), 0 ≤ i → Q none (z, N, qRow I 42 (upF (I h 1) (gCa (sLt (I h 1) (L (h + 1))) (I 41) (I 40 2)) i (m, e)).2, L, R) → qJ m_X7_carry (qWP (d + 4)) Q 8 [(3, .int i), (2, .int m), (1, .ref h), (0, .ref 40)] [] 0 0 (z, N, qRow I 42 e, L, R) := by
  refine up_ind (I h 1) fun i ih => ?_
  intro m e h0 hq
  refine qJ_run (qWP_mono _) [8, 10, 28] 400 ?_
  change qJ m_X7_carry (qWP _) Q 10 [(3, .int i), (2, .int m), (1, .ref h), (0, .ref 40)] [.ref h, .int i] _ _ (z, N, qRow I 42 e, L, R)
  refine qJ_run (qWP_mono _) [8, 10, 28] 400 ?_
  refine st_call rfl (fun _ h => h) hk rfl (Nat.lt_of_succ_lt hlt) ?_
  refine ⟨⟨Nat.le_refl _, Nat.le_refl _⟩, ?_⟩
  refine c_X9_size (d := d + 3) (I := qRow I 42 e) hk hk1 hz hlt (by rw [qRow_ne (by omega)]; exact hsz) (by rw [qRow_ne (by omega)]; exact hN) fun v1 hv1 => ?_
  rw [qRow_ne (by omega)] at hv1
  subst hv1
  refine ⟨fun (c1 : (I h 1) ≤ i) => ?_, fun (c1 : ¬ (I h 1) ≤ i) => ?_⟩
  · change Q none (z, N, qRow I 42 e, L, R)
    rw [upF_ge (Int32.not_lt.mpr c1)] at hq
    exact hq
  · refine ⟨⟨Nat.le_refl _, Nat.le_refl _⟩, ?_⟩
    refine c_X7_isWay (d := d) (I := qRow I 42 e) hk hk1 hz hlt (by rw [qRow_ne (by omega)]; exact hsz) (by rw [qRow_ne (by omega)]; exact hN) (by simp (decide := true) only [qRow_ne]; exact hw) fun v2 hiw => ?_
    rw [qRow_ne (by omega), qRow_ne (by decide), qRow_ne (by decide)] at hiw
    refine ⟨fun (c2 : v2 = 0) => ?_, fun (c2 : ¬ v2 = 0) => ?_⟩
    · have hii : i < I h 1 := Int32.not_le.mp c1
      have e9 : gCa (sLt (I h 1) (L (h + 1))) (I 41) (I 40 2) i (m, e) = (m, e) := by
        unfold gCa
        rw [← hiw]
        exact if_pos (by assumption)
      rw [upF_on hii, e9] at hq
      exact ih hii _ _ (by clear ih hq hk hk1 hz hlt hN; grind) hq
    · have hii : i < I h 1 := Int32.not_le.mp c1
      have e9 : gCa (sLt (I h 1) (L (h + 1))) (I 41) (I 40 2) i (m, e) = (0, upF (I 40 2) (gCi (sLt (I h 1) (L (h + 1))) m i) 0 e) := by
        unfold gCa
        rw [← hiw]
        exact if_neg (by assumption)
      rw [upF_on hii, e9] at hq
      exact l_X7_carry2 (d := d) hk hk1 hz hlt hsz hN hw hge (ih hii _ _ (by clear ih hq hk hk1 hz hlt hN; grind) hq) 0 e (by decide) rfl
theorem c_X7_carry {d z : Nat} {N : Nat → Nat} {I : Nat → Nat → Int32} {L : Nat → Nat → Int64} {R : Nat → Nat → Option Nat} {Q : qP} {h : Nat} (hk : qK h = 9) (hk1 : qK (h + 1) = 15) (hz : qSz (h + 1) = none) (hlt : h + 1 < z + 2) (hsz : 0 ≤ I h 1 ∧ I h 1 ≤ 200) (hN : 2 * (I h 1).toNatClampNeg ≤ N (h + 1) ∧ N (h + 1) ≤ 400) (hw : 0 ≤ I 40 2 ∧ I 40 2 ≤ 24) (hge : 96 ≤ h) (hst : qStat (z, N, I, L, R)) (h_ : Q none (z, N, qRow I 42 (fCa (sLt (I h 1) (L (h + 1))) (I 41) (I 40 2) (I h 1) (fun i => if i < 24 then -1 else I 42 i)), L, R)) : qWP (d + 5) 92 [.ref 40, .ref h] (z, N, I, L, R) Q := by
  refine qWP_of m_X7_carry rfl rfl [(0, .ref 40), (1, .ref h)] rfl ?_
  refine qJ_run (qWP_mono _) [8] 400 ?_
  refine ⟨⟨Nat.le_refl _, Nat.le_refl _⟩, ?_⟩
  refine c_X7_carryNothing (d := d + 2) hst ?_
  refine qJ_nm (qWP_mono _) [] [(3, .int 0), (2, .int 1), (1, .ref h), (0, .ref 40)] rfl rfl rfl ?_
  exact l_X7_carry (d := d) hk hk1 hz hlt hsz hN hw hge 0 1 _ (by decide) h_
