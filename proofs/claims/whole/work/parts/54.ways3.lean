def gFt (I : Nat → Nat → Int32) (L : Nat → Nat → Int64) (my : Nat → Int32) (w f _x : Int32) : Sum Int32 Int32 := if upS (I (96 + 2 * f.toNatClampNeg) 1) (gFw (sLt (I (96 + 2 * f.toNatClampNeg) 1) (L (96 + 2 * f.toNatClampNeg + 1))) my w 0) (fun _ => -1) 0 0 = -1 then .inl (-1) else .inr f
theorem l_X11_fits {d z : Nat} {N : Nat → Nat} {I : Nat → Nat → Int32} {L : Nat → Nat → Int64} {R : Nat → Nat → Option Nat} {Q : qP} {s l : Int32} (hc : 0 ≤ I 2 5 ∧ I 2 5 ≤ 8) (hR : ∀ f : Int32, 0 ≤ f → f < I 2 5 → R 39 f.toNatClampNeg = some (96 + 2 * f.toNatClampNeg)) (hF : ∀ f : Int32, 0 ≤ f → f < I 2 5 → okF z N I (96 + 2 * f.toNatClampNeg)) (hw : 0 ≤ I 40 2 ∧ I 40 2 ≤ 24) : ∀ (f : Int32), ∀ (y : Nat) (x : Int32), 0 ≤ f → x = -1 → Q (some (.int (upS (I 2 5) (gFt I L (I 41) (I 40 2)) id f x))) (z, N, I, L, R) → qJ m_X11_fits (qWP (d + 6)) Q 23 [(4, .ref y), (3, .int f), (2, .int l), (1, .int s), (0, .ref 2)] [] 0 0 (z, N, I, L, R) := by
  refine up_ind (I 2 5) fun f ih => ?_
  intro y x h0 hx hq
  refine qJ_run (qWP_mono _) [23] 400 ?_
  refine ⟨fun (c1 : (I 2 5) ≤ f) => ?_, fun (c1 : ¬ (I 2 5) ≤ f) => ?_⟩
  · change Q (some (.int (-1))) (z, N, I, L, R)
    rw [upS_ge (Int32.not_lt.mpr c1)] at hq
    subst hx
    exact hq
  · refine ⟨⟨Nat.le_refl _, Nat.le_refl _⟩, ?_⟩
    refine c_X11_textsOf hc hR (fun e => ?_) (fun e1 e2 => ?_)
    · refine qJ_nm (qWP_mono _) [] [(4, .null), (3, .int (f + 1)), (2, .int l), (1, .int s), (0, .ref 2)] rfl rfl rfl ?_
      have hff : f < I 2 5 := Int32.not_le.mp c1
      exact absurd ⟨h0, hff⟩ e
    · obtain ⟨hk, hk1, hz, hlt, hsz, hN⟩ := hF f e1 e2
      refine ⟨⟨Nat.le_refl _, Nat.le_refl _⟩, ?_⟩
      refine c_X7_findWay (h := 96 + 2 * f.toNatClampNeg) (d := d + 1) hk hk1 hz hlt hsz hN hw fun v2 hfw => ?_
      replace hfw : v2 = upS (I (96 + 2 * f.toNatClampNeg) 1) (gFw (sLt (I (96 + 2 * f.toNatClampNeg) 1) (L (96 + 2 * f.toNatClampNeg + 1))) (I 41) (I 40 2) 0) (fun _ => -1) 0 0 := hfw
      refine ⟨fun (c2 : v2 = (-1)) => ?_, fun (c2 : ¬ v2 = (-1)) => ?_⟩
      · refine qJ_nm (qWP_mono _) [] [(4, .ref (96 + 2 * f.toNatClampNeg)), (3, .int (f + 1)), (2, .int l), (1, .int s), (0, .ref 2)] rfl rfl rfl ?_
        have hff : f < I 2 5 := Int32.not_le.mp c1
        have e9 : gFt I L (I 41) (I 40 2) f x = .inl (-1) := by
          unfold gFt
          rw [← hfw]
          exact if_pos (by assumption)
        rw [upS_on hff e9] at hq
        exact ih hff _ _ (by clear ih hq hN hz hk hk1 hlt; grind) rfl hq
      · change Q (some (.int f)) (z, N, I, L, R)
        have hff : f < I 2 5 := Int32.not_le.mp c1
        have e9 : gFt I L (I 41) (I 40 2) f x = .inr f := by
          unfold gFt
          rw [← hfw]
          exact if_neg (by assumption)
        rw [upS_out hff e9] at hq
        exact hq
theorem gFt_eq {I : Nat → Nat → Int32} {L : Nat → Nat → Int64} {e : Nat → Int32} {n w : Int32} : gFt (q2 (qRow I 41 e) 40 2 n) L e w = gFt I L e w := by
  funext f x
  unfold gFt
  rw [mlb_h (show 96 ≤ 96 + 2 * f.toNatClampNeg by omega)]
theorem c_X11_fits {d z : Nat} {N : Nat → Nat} {I : Nat → Nat → Int32} {L : Nat → Nat → Int64} {R : Nat → Nat → Option Nat} {Q : qP} {s : Int32} {l : Int32} (hs : 0 ≤ I 3 2 ∧ I 3 2 ≤ 12) (hh : 0 ≤ I 6 2 ∧ I 6 2 ≤ 6) (hl : ∀ x : Int32, 0 ≤ x → x < I 3 2 → 1 ≤ I 5 x.toNatClampNeg ∧ I 5 x.toNatClampNeg ≤ 24) (hc : 0 ≤ I 2 5 ∧ I 2 5 ≤ 8) (hR : ∀ f : Int32, 0 ≤ f → f < I 2 5 → R 39 f.toNatClampNeg = some (96 + 2 * f.toNatClampNeg)) (hF : ∀ f : Int32, 0 ≤ f → f < I 2 5 → okF z N I (96 + 2 * f.toNatClampNeg)) (h0 : ¬ ((0 ≤ s ∧ s < I 3 2) ∧ 0 ≤ l ∧ l < I 4 s.toNatClampNeg) → Q (some (.int (-2))) (z, N, I, L, R)) (h1 : ((0 ≤ s ∧ s < I 3 2) ∧ 0 ≤ l ∧ l < I 4 s.toNatClampNeg) → ∀ e : Nat → Int32, (∀ p : Int32, 0 ≤ p → p < I 5 s.toNatClampNeg → e p.toNatClampNeg = fMy (tLd (I 8) (I 7) (I 6 2) s l p)) → Q (some (.int (upS (I 2 5) (gFt I L e (I 5 s.toNatClampNeg)) id 0 (-1)))) (z, N, q2 (qRow I 41 e) 40 2 (I 5 s.toNatClampNeg), L, R)) : qWP (d + 7) 134 [.ref 2, .int s, .int l] (z, N, I, L, R) Q := by
  refine qWP_of m_X11_fits rfl rfl [(0, .ref 2), (1, .int s), (2, .int l)] rfl ?_
  refine qJ_run (qWP_mono _) [23] 400 ?_
  refine ⟨⟨Nat.le_refl _, Nat.le_refl _⟩, ?_⟩
  refine c_X6_hasLine hs fun v1 hv1 => ?_
  refine ⟨fun (c1 : ¬ v1 = 0) => ?_, fun (c1 : v1 = 0) => ?_⟩
  · refine ⟨⟨Nat.le_refl _, Nat.le_refl _⟩, ?_⟩
    have hg : ((0 ≤ s ∧ s < I 3 2) ∧ 0 ≤ l ∧ l < I 4 s.toNatClampNeg) := by clear h0 h1; grind
    refine c_X11_layBare (d := d) hs hh hg.1 (hl s hg.1.1 hg.1.2) fun e he => ?_
    change qJ m_X11_fits (qWP _) Q 23 [(3, .int 0), (0, .ref 2), (1, .int s), (2, .int l)] [] _ _ (z, N, q2 (qRow I 41 e) 40 2 (I 5 s.toNatClampNeg), L, R)
    refine qJ_run (qWP_mono _) [23] 400 ?_
    refine ⟨fun (c2 : (q2 (qRow I 41 e) 40 2 (I 5 s.toNatClampNeg) 2 5) ≤ 0) => ?_, fun (c2 : ¬ (q2 (qRow I 41 e) 40 2 (I 5 s.toNatClampNeg) 2 5) ≤ 0) => ?_⟩
    · change Q (some (.int (-1))) (z, N, q2 (qRow I 41 e) 40 2 (I 5 s.toNatClampNeg), L, R)
      have hff : ¬ 0 < I 2 5 := Int32.not_lt.mpr c2
      have hh9 := h1 hg e he
      rw [upS_ge hff] at hh9
      exact hh9
    · refine ⟨⟨Nat.le_refl _, Nat.le_refl _⟩, ?_⟩
      refine c_X11_textsOf (I := q2 (qRow I 41 e) 40 2 (I 5 s.toNatClampNeg)) (f := 0) (by simp (decide := true) only [q2_ne, qRow_ne]; exact hc) (by simp (decide := true) only [q2_ne, qRow_ne]; exact hR) (fun e => ?_) (fun e1 (e2 : 0 < I 2 5) => ?_)
      · refine qJ_nm (qWP_mono _) [] [(4, .null), (3, .int (0 + 1)), (2, .int l), (1, .int s), (0, .ref 2)] rfl rfl rfl ?_
        have hff : 0 < I 2 5 := by
          have c9 : ¬ I 2 5 ≤ 0 := c2
          exact Int32.not_le.mp c9
        exact absurd ⟨by decide, hff⟩ e
      · obtain ⟨hk, hk1, hz, hlt, hsz, hN⟩ := hF 0 e1 e2
        have hge : 96 ≤ 96 + 2 * (0 : Int32).toNatClampNeg := by decide
        refine ⟨⟨Nat.le_refl _, Nat.le_refl _⟩, ?_⟩
        refine c_X7_findWay (d := d + 1) (I := q2 (qRow I 41 e) 40 2 (I 5 s.toNatClampNeg)) (h := 96 + 2 * (0 : Int32).toNatClampNeg) hk hk1 hz hlt (by rw [mlb_h hge]; exact hsz) (by rw [mlb_h hge]; exact hN) (by simp (decide := true) only [q2_at]; have := hl s hg.1.1 hg.1.2; clear h0 h1; grind) fun v4 hfw => ?_
        rw [mlb_h hge, q2_at, show (q2 (qRow I 41 e) 40 2 (I 5 s.toNatClampNeg)) 41 = e from by simp (decide := true) only [q2_ne, qRow_at]] at hfw
        refine ⟨fun (c3 : v4 = (-1)) => ?_, fun (c3 : ¬ v4 = (-1)) => ?_⟩
        · refine qJ_nm (qWP_mono _) [] [(4, .ref (96 + 2 * (0 : Int32).toNatClampNeg)), (3, .int (0 + 1)), (2, .int l), (1, .int s), (0, .ref 2)] rfl rfl rfl ?_
          have hff : 0 < I 2 5 := by
            have c9 : ¬ I 2 5 ≤ 0 := c2
            exact Int32.not_le.mp c9
          refine l_X11_fits (d := d) (I := q2 (qRow I 41 e) 40 2 (I 5 s.toNatClampNeg)) (by simp (decide := true) only [q2_ne, qRow_ne]; exact hc) (by simp (decide := true) only [q2_ne, qRow_ne]; exact hR) (fun f f0 f1 => ?_) (by simp (decide := true) only [q2_at]; have := hl s hg.1.1 hg.1.2; clear h0 h1 hN hz hk hk1 hlt; grind) (0 + 1) _ (-1) (by decide) rfl ?_
          · obtain ⟨p1, p2, p3, p4, p5, p6⟩ := hF f f0 (by simp (decide := true) only [q2_ne, qRow_ne] at f1; exact f1)
            refine ⟨p1, p2, p3, p4, ?_, ?_⟩
            · rw [mlb_h (by omega)]; exact p5
            · rw [mlb_h (by omega)]; exact p6
          · rw [q2_at, show (q2 (qRow I 41 e) 40 2 (I 5 s.toNatClampNeg)) 41 = e from by simp (decide := true) only [q2_ne, qRow_at], gFt_eq, show (q2 (qRow I 41 e) 40 2 (I 5 s.toNatClampNeg)) 2 5 = I 2 5 from by simp (decide := true) only [q2_ne, qRow_ne]]
            have hh9 := h1 hg e he
            have e9 : gFt I L e (I 5 s.toNatClampNeg) 0 (-1) = .inl (-1) := by
              unfold gFt
              rw [if_pos]
              exact hfw.symm.trans (by assumption)
            rw [upS_on hff e9] at hh9
            exact hh9
        · change Q (some (.int 0)) (z, N, q2 (qRow I 41 e) 40 2 (I 5 s.toNatClampNeg), L, R)
          have hh9 := h1 hg e he
          have e9 : gFt I L e (I 5 s.toNatClampNeg) 0 (-1) = .inr 0 := by
            unfold gFt
            rw [if_neg]
            intro h9
            exact absurd (hfw.trans h9) (by assumption)
          rw [upS_out e2 e9] at hh9
          exact hh9
  · change Q (some (.int (-2))) (z, N, I, L, R)
    exact h0 (by clear h0 h1; grind)
/-! the reference: texts by their places -/
theorem tix {f i : Int32} (hf : 0 ≤ f ∧ f < 8) (hi : 0 ≤ i ∧ i < 200) : (0 ≤ 200 * f + i ∧ 200 * f + i < 1600) ∧ (200 * f + i).toNatClampNeg = 200 * f.toNatClampNeg + i.toNatClampNeg := by
  obtain ⟨f, hf2, rfl⟩ := nI_ofL (x := f) (n := 8) (by decide) hf.1 hf.2
  obtain ⟨i, hi2, rfl⟩ := nI_ofL (x := i) (n := 200) (by decide) hi.1 hi.2
  rw [show (200 : Int32) = nI 200 from rfl, nI_mul, nI_add, nI_clamp (by omega), nI_clamp (by omega), nI_clamp (by omega)]
  refine ⟨⟨nI_pos' (by omega), ?_⟩, rfl⟩
  show _ < nI 1600
  exact (nI_ltI (by omega) (by decide)).mpr (by omega)
theorem tix2 {t k : Int32} (ht : 0 ≤ t ∧ t < 1600) (hk : 0 ≤ k ∧ k < 24) : (0 ≤ 24 * t + k ∧ 24 * t + k < 38400) ∧ (24 * t + k).toNatClampNeg = 24 * t.toNatClampNeg + k.toNatClampNeg := by
  obtain ⟨t, ht2, rfl⟩ := nI_ofL (x := t) (n := 1600) (by decide) ht.1 ht.2
  obtain ⟨k, hk2, rfl⟩ := nI_ofL (x := k) (n := 24) (by decide) hk.1 hk.2
  rw [show (24 : Int32) = nI 24 from rfl, nI_mul, nI_add, nI_clamp (by omega), nI_clamp (by omega), nI_clamp (by omega)]
  refine ⟨⟨nI_pos' (by omega), ?_⟩, rfl⟩
  show _ < nI 38400
  exact (nI_ltI (by omega) (by decide)).mpr (by omega)
def laR (sz le : Nat → Int32) (t k : Int32) : Int32 := if k < sz t.toNatClampNeg then (if le (24 * t + k).toNatClampNeg = 0 then 26 else le (24 * t + k).toNatClampNeg - 1) else 26
def gGo (mf la : Int32 → Int32) (p _x : Int32) : Sum Int32 Int32 := if (mf p >>> (la p &&& 31)) &&& 1 = 0 then .inr 0 else .inl 1
def fGo (mf la : Int32 → Int32) (sz n : Int32) : Int32 := upS n (gGo mf la) (fun _ => if sz ≤ n then 1 else 0) 0 1
theorem fGo01 {mf la : Int32 → Int32} {sz n : Int32} (hn : 0 ≤ n) : fGo mf la sz n = 0 ∨ fGo mf la sz n = 1 := by
  refine upS_inv (fun _ _ => True) (fun x => x = 0 ∨ x = 1) (fun x h => ?_) (fun k x h0 h1 h => ?_) 0 1 (by decide) hn trivial
  · split
    · exact Or.inr rfl
    · exact Or.inl rfl
  · unfold gGo
    split
    · exact Or.inr ⟨_, rfl, Or.inl rfl⟩
    · exact Or.inl ⟨_, rfl, trivial⟩
theorem c_X12_texts {d z : Nat} {N : Nat → Nat} {I : Nat → Nat → Int32} {L : Nat → Nat → Int64} {R : Nat → Nat → Option Nat} {Q : qP} {f : Int32} (hc : 0 ≤ I 65 2 ∧ I 65 2 ≤ 8) (hm : ∀ f : Int32, 0 ≤ f → f < I 65 2 → 0 ≤ I 76 f.toNatClampNeg ∧ I 76 f.toNatClampNeg ≤ 200) (hz : ∀ f i : Int32, 0 ≤ f → f < I 65 2 → 0 ≤ i → i < I 76 f.toNatClampNeg → 0 ≤ I 75 (200 * f + i).toNatClampNeg ∧ I 75 (200 * f + i).toNatClampNeg ≤ 24) (h : ∀ v : Int32, v = (if 0 ≤ f ∧ f < I 65 2 then I 76 f.toNatClampNeg else -2) → Q (some (.int v)) (z, N, I, L, R)) : qWP (d + 3) 195 [.ref 65, .int f] (z, N, I, L, R) Q := by
  refine qWP_of m_X12_texts rfl rfl [(0, .ref 65), (1, .int f)] rfl ?_
  refine qJ_run (qWP_mono _) [] 400 ?_
  refine ⟨⟨Nat.le_refl _, Nat.le_refl _⟩, ?_⟩
  refine c_X12_isFormula fun v1 hv1 => ?_
  refine ⟨fun (c1 : v1 = 0) => ?_, fun (c1 : ¬ v1 = 0) => ?_⟩
  · change Q (some (.int (-2))) (z, N, I, L, R)
    exact h _ (if_neg (by clear h hm hz; grind)).symm
  · refine ⟨?_, ?_⟩
    · exact vb (x := f) (N := 8) 8 (by decide) (by clear h hm hz; grind) (by clear h hm hz; grind)
    change Q (some (.int (I 76 ((f).toNatClampNeg)))) (z, N, I, L, R)
    exact h _ (if_pos (by clear h hm hz; grind)).symm
theorem c_X12_text {d z : Nat} {N : Nat → Nat} {I : Nat → Nat → Int32} {L : Nat → Nat → Int64} {R : Nat → Nat → Option Nat} {Q : qP} {f : Int32} {i : Int32} {k : Int32} (hc : 0 ≤ I 65 2 ∧ I 65 2 ≤ 8) (hm : ∀ f : Int32, 0 ≤ f → f < I 65 2 → 0 ≤ I 76 f.toNatClampNeg ∧ I 76 f.toNatClampNeg ≤ 200) (hz : ∀ f i : Int32, 0 ≤ f → f < I 65 2 → 0 ≤ i → i < I 76 f.toNatClampNeg → 0 ≤ I 75 (200 * f + i).toNatClampNeg ∧ I 75 (200 * f + i).toNatClampNeg ≤ 24) (h : ∀ v : Int32, v = (if 0 ≤ f ∧ f < I 65 2 then (if (0 ≤ i ∧ i < I 76 f.toNatClampNeg) ∧ 0 ≤ k ∧ k < I 75 (200 * f + i).toNatClampNeg then (if I 74 (24 * (200 * f + i) + k).toNatClampNeg = 0 then 26 else I 74 (24 * (200 * f + i) + k).toNatClampNeg - 1) else -1) else -2) → Q (some (.int v)) (z, N, I, L, R)) : qWP (d + 3) 197 [.ref 65, .int f, .int i, .int k] (z, N, I, L, R) Q := by
  refine qWP_of m_X12_text rfl rfl [(0, .ref 65), (1, .int f), (2, .int i), (3, .int k)] rfl ?_
  refine qJ_run (qWP_mono _) [] 400 ?_
  refine ⟨⟨Nat.le_refl _, Nat.le_refl _⟩, ?_⟩
  refine c_X12_isFormula fun v1 hv1 => ?_
  refine ⟨fun (c1 : ¬ v1 = 0) => ?_, fun (c1 : v1 = 0) => ?_⟩
  · refine ⟨?_, ?_⟩
    · exact vb (x := f) (N := 8) 8 (by decide) (by clear h hm hz; grind) (by clear h hm hz; grind)
    refine ⟨⟨Nat.le_refl _, Nat.le_refl _⟩, ?_⟩
    refine c_X12_isIn fun v2 hv2 => ?_
    refine ⟨fun (c2 : v2 = 0) => ?_, fun (c2 : ¬ v2 = 0) => ?_⟩
    · change Q (some (.int (-1))) (z, N, I, L, R)
      exact h _ ((if_pos (show 0 ≤ f ∧ f < I 65 2 by clear h hm hz; grind)).trans (if_neg (by clear h hm hz; grind))).symm
    · refine ⟨?_, ?_⟩
      · have hf : 0 ≤ f ∧ f < I 65 2 := by clear h hm hz; grind
        have hm9 := hm f hf.1 hf.2
        have hi : 0 ≤ i ∧ i < I 76 f.toNatClampNeg := by clear h hm hz; grind
        have hz9 := hz f i hf.1 hf.2 hi.1 hi.2
        have hx := tix (f := f) (i := i) ⟨hf.1, by clear h hm hz; grind⟩ ⟨hi.1, by clear h hm hz; grind⟩
        exact vb (N := 1600) 1600 (by decide) hx.1.1 hx.1.2
      refine ⟨⟨Nat.le_refl _, Nat.le_refl _⟩, ?_⟩
      refine c_X12_isIn fun v3 hv3 => ?_
      refine ⟨fun (c3 : ¬ v3 = 0) => ?_, fun (c3 : v3 = 0) => ?_⟩
      · refine ⟨?_, ?_⟩
        · have hf : 0 ≤ f ∧ f < I 65 2 := by clear h hm hz; grind
          have hm9 := hm f hf.1 hf.2
          have hi : 0 ≤ i ∧ i < I 76 f.toNatClampNeg := by clear h hm hz; grind
          have hz9 := hz f i hf.1 hf.2 hi.1 hi.2
          have hx := tix (f := f) (i := i) ⟨hf.1, by clear h hm hz; grind⟩ ⟨hi.1, by clear h hm hz; grind⟩
          have hy := tix2 (t := 200 * f + i) (k := k) hx.1 (by clear h hm hz; grind)
          exact vb (N := 38400) 38400 (by decide) hy.1.1 hy.1.2
        refine ⟨⟨Nat.le_refl _, Nat.le_refl _⟩, ?_⟩
        refine c_X12_told fun v4 hv4 => ?_
        replace hv4 : v4 = if I 74 (24 * (200 * f + i) + k).toNatClampNeg = 0 then 26 else I 74 (24 * (200 * f + i) + k).toNatClampNeg - 1 := hv4
        change Q (some (.int v4)) (z, N, I, L, R)
        refine h _ ?_
        rw [if_pos (show 0 ≤ f ∧ f < I 65 2 by clear h hm hz; grind), if_pos (show (0 ≤ i ∧ i < I 76 f.toNatClampNeg) ∧ 0 ≤ k ∧ k < I 75 (200 * f + i).toNatClampNeg by clear h hm hz; grind)]
        exact hv4
      · change Q (some (.int (-1))) (z, N, I, L, R)
        exact h _ ((if_pos (show 0 ≤ f ∧ f < I 65 2 by clear h hm hz; grind)).trans (if_neg (by clear h hm hz; grind))).symm
  · change Q (some (.int (-2))) (z, N, I, L, R)
    exact h _ (if_neg (by clear h hm hz; grind)).symm
theorem c_X12_letterAt {d z : Nat} {N : Nat → Nat} {I : Nat → Nat → Int32} {L : Nat → Nat → Int64} {R : Nat → Nat → Option Nat} {Q : qP} {t : Int32} {k : Int32} (ht : 0 ≤ t ∧ t < 1600) (hs75 : 0 ≤ I 75 t.toNatClampNeg ∧ I 75 t.toNatClampNeg ≤ 24) (hk : 0 ≤ k) (h : ∀ v : Int32, v = laR (I 75) (I 74) t k → Q (some (.int v)) (z, N, I, L, R)) : qWP (d + 2) 198 [.ref 65, .int t, .int k] (z, N, I, L, R) Q := by
  refine qWP_of m_X12_letterAt rfl rfl [(0, .ref 65), (1, .int t), (2, .int k)] rfl ?_
  refine qJ_run (qWP_mono _) [] 400 ?_
  refine ⟨?_, ?_⟩
  · exact vb (N := 1600) 1600 (by decide) ht.1 ht.2
  refine ⟨fun (c1 : (I 75 ((t).toNatClampNeg)) ≤ k) => ?_, fun (c1 : ¬ (I 75 ((t).toNatClampNeg)) ≤ k) => ?_⟩
  · change Q (some (.int 26)) (z, N, I, L, R)
    refine h _ ?_
    unfold laR
    exact (if_neg (Int32.not_lt.mpr (by assumption))).symm
  · refine ⟨?_, ?_⟩
    · have hy := tix2 (t := t) (k := k) ht ⟨hk, by clear h; grind⟩
      exact vb (N := 38400) 38400 (by decide) hy.1.1 hy.1.2
    refine ⟨⟨Nat.le_refl _, Nat.le_refl _⟩, ?_⟩
    refine c_X12_told fun v1 hv1 => ?_
    replace hv1 : v1 = if I 74 (24 * t + k).toNatClampNeg = 0 then 26 else I 74 (24 * t + k).toNatClampNeg - 1 := hv1
    change Q (some (.int v1)) (z, N, I, L, R)
    refine h _ ?_
    unfold laR
    rw [if_pos (Int32.not_le.mp (by assumption))]
    exact hv1
theorem l_X12_goes0 {d z : Nat} {N : Nat → Nat} {I : Nat → Nat → Int32} {L : Nat → Nat → Int64} {R : Nat → Nat → Option Nat} {Q : qP} {t s l : Int32} (hHa : RHa (I 6 2) (I 65 1) (I 7) (I 68)) (hTo : RTo (I 8) (I 70) (I 71)) (hs : 0 ≤ s ∧ s < 12) (hl : 0 ≤ l ∧ l < 4) (hn : 1 ≤ I 67 s.toNatClampNeg ∧ I 67 s.toNatClampNeg ≤ 24) (ht : 0 ≤ t ∧ t < 1600) (hs75 : 0 ≤ I 75 t.toNatClampNeg ∧ I 75 t.toNatClampNeg ≤ 24) : ∀ (p : Int32), ∀ x : Int32, 0 ≤ p → p ≤ (I 67 s.toNatClampNeg) → Q (some (.int (upS (I 67 s.toNatClampNeg) (gGo (fun p => fMy (tLd (I 8) (I 7) (I 6 2) s l p)) (laR (I 75) (I 74) t)) (fun _ => if I 75 t.toNatClampNeg ≤ (I 67 s.toNatClampNeg) then 1 else 0) p x))) (z, N, I, L, R) → qJ m_X12_goes (qWP (d + 3)) Q 14 [(7, .int p), (6, .int s), (5, .int p), (4, .int 0), (3, .int l), (2, .int s), (1, .int t), (0, .ref 65)] [] 0 0 (z, N, I, L, R) := by
  refine up_ind ((I 67 s.toNatClampNeg)) fun p ih => ?_
  intro x h0 h1 hq
  refine qJ_run (qWP_mono _) [14] 400 ?_
  refine ⟨?_, ?_⟩
  · exact vb (N := 12) 12 (by decide) hs.1 hs.2
  refine ⟨fun (c1 : (I 67 ((s).toNatClampNeg)) ≤ p) => ?_, fun (c1 : ¬ (I 67 ((s).toNatClampNeg)) ≤ p) => ?_⟩
  · refine ⟨fun _ => ?_, fun h => absurd h (by decide)⟩
    refine ⟨fun _ => ?_, fun h => absurd h (by decide)⟩
    refine ⟨?_, ?_⟩
    · exact vb (N := 1600) 1600 (by decide) ht.1 ht.2
    refine ⟨fun (c2 : p < (I 75 ((t).toNatClampNeg))) => ?_, fun (c2 : ¬ p < (I 75 ((t).toNatClampNeg))) => ?_⟩
    · refine ⟨by first | exact Or.inl rfl | exact Or.inr rfl | (clear ih hq; grind), ?_⟩
      change Q (some (.int 0)) (z, N, I, L, R)
      rw [upS_ge (Int32.not_lt.mpr c1)] at hq
      rw [if_neg (show ¬ I 75 t.toNatClampNeg ≤ I 67 s.toNatClampNeg by clear ih hq hHa hTo; grind)] at hq
      exact hq
    · refine ⟨by first | exact Or.inl rfl | exact Or.inr rfl | (clear ih hq; grind), ?_⟩
      change Q (some (.int 1)) (z, N, I, L, R)
      rw [upS_ge (Int32.not_lt.mpr c1)] at hq
      rw [if_pos (show I 75 t.toNatClampNeg ≤ I 67 s.toNatClampNeg by clear ih hq hHa hTo; grind)] at hq
      exact hq
  · refine ⟨⟨Nat.le_refl _, Nat.le_refl _⟩, ?_⟩
    refine c_X12_mayOf (d := d) hHa hTo ⟨hs, hl, h0, by clear ih hq hHa hTo; grind⟩ fun v1 hmv => ?_
    refine ⟨⟨Nat.le_refl _, Nat.le_refl _⟩, ?_⟩
    refine c_X12_letterAt (d := d + 1) ht hs75 h0 fun v2 hla => ?_
    refine ⟨fun (c3 : ¬ ((v1 >>> (v2 &&& 31)) &&& 1) = 0) => ?_, fun (c3 : ((v1 >>> (v2 &&& 31)) &&& 1) = 0) => ?_⟩
    · refine qJ_nm (qWP_mono _) [] [(7, .int (p + 1)), (6, .int s), (5, .int (p + 1)), (4, .int 0), (3, .int l), (2, .int s), (1, .int t), (0, .ref 65)] rfl rfl rfl ?_
      have hp : p < (I 67 s.toNatClampNeg) := Int32.not_le.mp c1
      have e9 : gGo (fun p => fMy (tLd (I 8) (I 7) (I 6 2) s l p)) (laR (I 75) (I 74) t) p x = .inl 1 := by
        subst hmv hla
        unfold gGo
        exact if_neg (by assumption)
      rw [upS_on hp e9] at hq
      exact ih hp _ (by clear ih hq hHa hTo; grind) (by clear ih hq hHa hTo; grind) hq
    · refine ⟨by first | exact Or.inl rfl | exact Or.inr rfl | (clear ih hq; grind), ?_⟩
      change Q (some (.int 0)) (z, N, I, L, R)
      have hp : p < (I 67 s.toNatClampNeg) := Int32.not_le.mp c1
      have e9 : gGo (fun p => fMy (tLd (I 8) (I 7) (I 6 2) s l p)) (laR (I 75) (I 74) t) p x = .inr 0 := by
        subst hmv hla
        unfold gGo
        exact if_pos (by assumption)
      rw [upS_out hp e9] at hq
      exact hq
theorem c_X12_goes {d z : Nat} {N : Nat → Nat} {I : Nat → Nat → Int32} {L : Nat → Nat → Int64} {R : Nat → Nat → Option Nat} {Q : qP} {t : Int32} {s : Int32} {l : Int32} (hHa : RHa (I 6 2) (I 65 1) (I 7) (I 68)) (hTo : RTo (I 8) (I 70) (I 71)) (hs : 0 ≤ s ∧ s < 12) (hl : 0 ≤ l ∧ l < 4) (hn : 1 ≤ I 67 s.toNatClampNeg ∧ I 67 s.toNatClampNeg ≤ 24) (ht : 0 ≤ t ∧ t < 1600) (hs75 : 0 ≤ I 75 t.toNatClampNeg ∧ I 75 t.toNatClampNeg ≤ 24) (h : ∀ v : Int32, v = (fGo (fun p => fMy (tLd (I 8) (I 7) (I 6 2) s l p)) (laR (I 75) (I 74) t) (I 75 t.toNatClampNeg) (I 67 s.toNatClampNeg)) → Q (some (.int v)) (z, N, I, L, R)) : qWP (d + 4) 199 [.ref 65, .int t, .int s, .int l, .int 0] (z, N, I, L, R) Q := by
  refine qWP_of m_X12_goes rfl rfl [(0, .ref 65), (1, .int t), (2, .int s), (3, .int l), (4, .int 0)] rfl ?_
  refine qJ_run (qWP_mono _) [14] 400 ?_
  refine ⟨fun (c1 : s < 0) => ?_, fun (c1 : ¬ s < 0) => ?_⟩
  · refine ⟨?_, ?_⟩
    · exact vb (x := t) (N := 1600) 1600 (by decide) (by clear h; grind) (by clear h; grind)
    refine ⟨fun (c2 : 0 < (I 75 ((t).toNatClampNeg))) => ?_, fun (c2 : ¬ 0 < (I 75 ((t).toNatClampNeg))) => ?_⟩
    · refine ⟨by first | exact Or.inl rfl | exact Or.inr rfl | (clear h; grind), ?_⟩
      change Q (some (.int 0)) (z, N, I, L, R)
      exact absurd hs.1 (by first | assumption | exact Int32.not_le.mpr (by assumption))
    · refine ⟨by first | exact Or.inl rfl | exact Or.inr rfl | (clear h; grind), ?_⟩
      change Q (some (.int 1)) (z, N, I, L, R)
      exact absurd hs.1 (by first | assumption | exact Int32.not_le.mpr (by assumption))
  · refine qJ_nm (qWP_mono _) [] [(7, .int 0), (6, .int s), (5, .int 0), (4, .int 0), (3, .int l), (2, .int s), (1, .int t), (0, .ref 65)] rfl rfl rfl ?_
    exact l_X12_goes0 (d := d) hHa hTo hs hl hn ht hs75 0 1 (by decide) (by clear h hHa hTo; grind) (h _ rfl)
