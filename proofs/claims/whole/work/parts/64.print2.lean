/-! printed lines: the class's operations -/
theorem c_X11_setPage0 {d z : Nat} {N : Nat → Nat} {I : Nat → Nat → Int32} {L : Nat → Nat → Int64} {R : Nat → Nat → Option Nat} {Q : qP} {s l f : Int32} {row : Nat → Int32} {e : Nat → Int32} (hs : 0 ≤ I 3 2 ∧ I 3 2 ≤ 12) (hh : 0 ≤ I 6 2 ∧ I 6 2 ≤ 6) (hst : qStat (z, N, I, L, R)) (hn : 1 ≤ I 5 s.toNatClampNeg ∧ I 5 s.toNatClampNeg ≤ 24)
    (h : Q none (z, N, mP (qRow (q2 (qRow I 41 e) 40 2 (I 5 s.toNatClampNeg)) 42 row) (upF (I 5 s.toNatClampNeg) (gPg (fun p => tLd (I 8) (I 7) (I 6 2) s l p) (fun p => row p.toNatClampNeg)) 0 (0, I 60)), L, R)) : qJ m_X11_setPage (qWP (d + 5)) Q 65 [(6, .int 0), (5, .int (I 5 s.toNatClampNeg)), (4, .null), (3, .int f), (2, .int l), (1, .int s), (0, .ref 2)] [] 0 0 (z, N, q2 (qRow (q2 (qRow I 41 e) 40 2 (I 5 s.toNatClampNeg)) 42 row) 59 2 0, L, R) := by
  refine qJ_M (M2 := (z, N, mP (qRow (q2 (qRow I 41 e) 40 2 (I 5 s.toNatClampNeg)) 42 row) (0, I 60), L, R)) ?_ ?_
  · have e9 : qRow (qRow (q2 (qRow I 41 e) 40 2 (I 5 s.toNatClampNeg)) 42 row) 60 (I 60) = qRow (q2 (qRow I 41 e) 40 2 (I 5 s.toNatClampNeg)) 42 row := by
      rw [show I 60 = (qRow (q2 (qRow I 41 e) 40 2 (I 5 s.toNatClampNeg)) 42 row) 60 from by simp (decide := true) only [q2_ne, qRow_ne]]
      exact qRow_self
    unfold mP
    rw [e9]
  · refine l_X11_setPage (d := d) (I := qRow (q2 (qRow I 41 e) 40 2 (I 5 s.toNatClampNeg)) 42 row) (n := I 5 s.toNatClampNeg) (cv := fun p => row p.toNatClampNeg) (by simp (decide := true) only [q2_ne, qRow_ne]; exact hh) hst ⟨Int32.le_trans (by decide) hn.1, hn.2⟩ (by simp (decide := true) only [q2_at, qRow_ne]) (fun p _ _ => by rw [qRow_at]) 0 (0, I 60) (by decide) (show (0 : Int32) ≤ 0 ∧ (0 : Int32) ≤ 3 * 0 by decide) ?_
    rw [show (qRow (q2 (qRow I 41 e) 40 2 (I 5 s.toNatClampNeg)) 42 row) 8 = I 8 from by simp (decide := true) only [q2_ne, qRow_ne], show (qRow (q2 (qRow I 41 e) 40 2 (I 5 s.toNatClampNeg)) 42 row) 7 = I 7 from by simp (decide := true) only [q2_ne, qRow_ne], show (qRow (q2 (qRow I 41 e) 40 2 (I 5 s.toNatClampNeg)) 42 row) 6 = I 6 from by simp (decide := true) only [q2_ne, qRow_ne]]
    exact h
theorem c_X11_setPage0R {d z : Nat} {N : Nat → Nat} {I : Nat → Nat → Int32} {L : Nat → Nat → Int64} {R : Nat → Nat → Option Nat} {Q : qP} {y : Nat} {s l f : Int32} {row : Nat → Int32} {e : Nat → Int32} (hs : 0 ≤ I 3 2 ∧ I 3 2 ≤ 12) (hh : 0 ≤ I 6 2 ∧ I 6 2 ≤ 6) (hst : qStat (z, N, I, L, R)) (hn : 1 ≤ I 5 s.toNatClampNeg ∧ I 5 s.toNatClampNeg ≤ 24)
    (h : Q none (z, N, mP (qRow (q2 (qRow I 41 e) 40 2 (I 5 s.toNatClampNeg)) 42 row) (upF (I 5 s.toNatClampNeg) (gPg (fun p => tLd (I 8) (I 7) (I 6 2) s l p) (fun p => row p.toNatClampNeg)) 0 (0, I 60)), L, R)) : qJ m_X11_setPage (qWP (d + 5)) Q 65 [(6, .int 0), (5, .int (I 5 s.toNatClampNeg)), (4, .ref y), (3, .int f), (2, .int l), (1, .int s), (0, .ref 2)] [] 0 0 (z, N, q2 (qRow (q2 (qRow I 41 e) 40 2 (I 5 s.toNatClampNeg)) 42 row) 59 2 0, L, R) := by
  refine qJ_M (M2 := (z, N, mP (qRow (q2 (qRow I 41 e) 40 2 (I 5 s.toNatClampNeg)) 42 row) (0, I 60), L, R)) ?_ ?_
  · have e9 : qRow (qRow (q2 (qRow I 41 e) 40 2 (I 5 s.toNatClampNeg)) 42 row) 60 (I 60) = qRow (q2 (qRow I 41 e) 40 2 (I 5 s.toNatClampNeg)) 42 row := by
      rw [show I 60 = (qRow (q2 (qRow I 41 e) 40 2 (I 5 s.toNatClampNeg)) 42 row) 60 from by simp (decide := true) only [q2_ne, qRow_ne]]
      exact qRow_self
    unfold mP
    rw [e9]
  · refine l_X11_setPageR (d := d) (I := qRow (q2 (qRow I 41 e) 40 2 (I 5 s.toNatClampNeg)) 42 row) (n := I 5 s.toNatClampNeg) (cv := fun p => row p.toNatClampNeg) (by simp (decide := true) only [q2_ne, qRow_ne]; exact hh) hst ⟨Int32.le_trans (by decide) hn.1, hn.2⟩ (by simp (decide := true) only [q2_at, qRow_ne]) (fun p _ _ => by rw [qRow_at]) 0 (0, I 60) (by decide) (show (0 : Int32) ≤ 0 ∧ (0 : Int32) ≤ 3 * 0 by decide) ?_
    rw [show (qRow (q2 (qRow I 41 e) 40 2 (I 5 s.toNatClampNeg)) 42 row) 8 = I 8 from by simp (decide := true) only [q2_ne, qRow_ne], show (qRow (q2 (qRow I 41 e) 40 2 (I 5 s.toNatClampNeg)) 42 row) 7 = I 7 from by simp (decide := true) only [q2_ne, qRow_ne], show (qRow (q2 (qRow I 41 e) 40 2 (I 5 s.toNatClampNeg)) 42 row) 6 = I 6 from by simp (decide := true) only [q2_ne, qRow_ne]]
    exact h
theorem c_X11_layBareMore0 {d z : Nat} {N : Nat → Nat} {I : Nat → Nat → Int32} {L : Nat → Nat → Int64} {R : Nat → Nat → Option Nat} {Q : qP} {s l : Int32} (hs : 0 ≤ I 3 2 ∧ I 3 2 ≤ 12) (hh : 0 ≤ I 6 2 ∧ I 6 2 ≤ 6) (hss : 0 ≤ s ∧ s < I 3 2) (hn : 1 ≤ I 5 s.toNatClampNeg ∧ I 5 s.toNatClampNeg ≤ 24) (h : ∀ (v : Int32) (e : Nat → Int32), (∀ p : Int32, 0 ≤ p → p < I 5 s.toNatClampNeg → e p.toNatClampNeg = fMy (tLd (I 8) (I 7) (I 6 2) s l p)) → Q (some (.int v)) (z, N, q2 (qRow I 41 e) 40 2 (I 5 s.toNatClampNeg), L, R)) : qWP (d + 5) 137 [.ref 2, .int s, .int l] (z, N, q2 I 40 2 0, L, R) Q := by
  obtain ⟨g1, g2, g3, _⟩ := fLb_0 (mf := (fun p => fMy (tLd (I 8) (I 7) (I 6 2) s l p))) (n := I 5 s.toNatClampNeg) (w := 0) (e := I 41) ⟨Int32.le_trans (by decide) hn.1, hn.2⟩ (by decide) (by rw [Int32.zero_add]; exact hn.2)
  refine c_X11_layBareMore (d := d) (I := q2 I 40 2 0) hs hh (by simp (decide := true) only [q2_at]) hss hn fun v _ => ?_
  rw [show (q2 I 40 2 0) 41 = I 41 from q2_ne (by decide), show q2 I 40 2 0 40 2 = 0 from q2_at]
  change Q (some (.int v)) (z, N, q2 (qRow (q2 I 40 2 0) 41 (fLb (fun p => fMy (tLd (I 8) (I 7) (I 6 2) s l p)) (I 5 s.toNatClampNeg) 0 (I 41)).2.2) 40 2 (fLb (fun p => fMy (tLd (I 8) (I 7) (I 6 2) s l p)) (I 5 s.toNatClampNeg) 0 (I 41)).2.1, L, R)
  have hh9 := h v _ (fun p p0 p1 => by have := g3 p p0 p1; rw [Int32.zero_add] at this; exact this)
  rw [g2, Int32.zero_add, q2_row_q2 (by decide)]
  exact hh9
theorem c_X11_setPage {d z : Nat} {N : Nat → Nat} {I : Nat → Nat → Int32} {L : Nat → Nat → Int64} {R : Nat → Nat → Option Nat} {Q : qP} {s : Int32} {l : Int32} {f : Int32} (hs : 0 ≤ I 3 2 ∧ I 3 2 ≤ 12) (hh : 0 ≤ I 6 2 ∧ I 6 2 ≤ 6) (hl : ∀ x : Int32, 0 ≤ x → x < I 3 2 → 1 ≤ I 5 x.toNatClampNeg ∧ I 5 x.toNatClampNeg ≤ 24) (hc : 0 ≤ I 2 5 ∧ I 2 5 ≤ 8) (hR : ∀ f : Int32, 0 ≤ f → f < I 2 5 → R 39 f.toNatClampNeg = some (96 + 2 * f.toNatClampNeg)) (hF : ∀ f : Int32, 0 ≤ f → f < I 2 5 → okF z N I (96 + 2 * f.toNatClampNeg)) (hst : qStat (z, N, I, L, R)) (hss : 0 ≤ s ∧ s < I 3 2) (h0 : ¬ (0 ≤ f ∧ f < I 2 5) → ∀ e : Nat → Int32, (∀ p : Int32, 0 ≤ p → p < I 5 s.toNatClampNeg → e p.toNatClampNeg = fMy (tLd (I 8) (I 7) (I 6 2) s l p)) → Q none (z, N, mP (qRow (q2 (qRow I 41 e) 40 2 (I 5 s.toNatClampNeg)) 42 (fun i => if i < 24 then -1 else I 42 i)) (upF (I 5 s.toNatClampNeg) (gPg (fun p => tLd (I 8) (I 7) (I 6 2) s l p) (fun p => (fun i => if i < 24 then -1 else I 42 i) p.toNatClampNeg)) 0 (0, I 60)), L, R)) (h1 : 0 ≤ f ∧ f < I 2 5 → ∀ e : Nat → Int32, (∀ p : Int32, 0 ≤ p → p < I 5 s.toNatClampNeg → e p.toNatClampNeg = fMy (tLd (I 8) (I 7) (I 6 2) s l p)) → Q none (z, N, mP (qRow (q2 (qRow I 41 e) 40 2 (I 5 s.toNatClampNeg)) 42 (fCa (sLt (I (96 + 2 * f.toNatClampNeg) 1) (L (96 + 2 * f.toNatClampNeg + 1))) e (I 5 s.toNatClampNeg) (I (96 + 2 * f.toNatClampNeg) 1) (fun i => if i < 24 then -1 else I 42 i))) (upF (I 5 s.toNatClampNeg) (gPg (fun p => tLd (I 8) (I 7) (I 6 2) s l p) (fun p => (fCa (sLt (I (96 + 2 * f.toNatClampNeg) 1) (L (96 + 2 * f.toNatClampNeg + 1))) e (I 5 s.toNatClampNeg) (I (96 + 2 * f.toNatClampNeg) 1) (fun i => if i < 24 then -1 else I 42 i)) p.toNatClampNeg)) 0 (0, I 60)), L, R)) : qWP (d + 6) 161 [.ref 2, .int s, .int l, .int f] (z, N, I, L, R) Q := by
  refine qWP_of m_X11_setPage rfl rfl [(0, .ref 2), (1, .int s), (2, .int l), (3, .int f)] rfl ?_
  refine qJ_run (qWP_mono _) [65] 400 ?_
  refine ⟨⟨Nat.le_refl _, Nat.le_refl _⟩, ?_⟩
  refine c_X11_textsOf hc hR (fun e => ?_) (fun e1 e2 => ?_)
  · refine ⟨⟨Nat.le_refl _, Nat.le_refl _⟩, ?_⟩
    refine c_X7_clear ?_
    refine ⟨⟨Nat.le_refl _, Nat.le_refl _⟩, ?_⟩
    have hn := hl s hss.1 hss.2
    refine c_X11_layBareMore0 (d := d) hs hh hss hn fun v3 e0 he => ?_
    refine ⟨⟨Nat.le_refl _, Nat.le_refl _⟩, ?_⟩
    refine c_X7_carryNothing (d := d + 3) (I := q2 (qRow I 41 e0) 40 2 (I 5 s.toNatClampNeg)) hst ?_
    refine ⟨⟨Nat.le_refl _, Nat.le_refl _⟩, ?_⟩
    refine c_X3_clear ?_
    refine ⟨⟨Nat.le_refl _, Nat.le_refl _⟩, ?_⟩
    refine c_X6_placesOf (by simp (decide := true) only [q2_ne, qRow_ne]; exact hs) fun v6 h9 => ?_
    replace h9 : v6 = (if 0 ≤ s ∧ s < I 3 2 then I 5 s.toNatClampNeg else 0) := by simp (decide := true) only [q2_ne, qRow_ne] at h9; exact h9
    obtain rfl : v6 = I 5 s.toNatClampNeg := h9.trans (if_pos hss)
    refine qJ_nm (qWP_mono _) [] [(6, .int 0), (5, .int (I 5 s.toNatClampNeg)), (4, .null), (3, .int f), (2, .int l), (1, .int s), (0, .ref 2)] rfl rfl rfl ?_
    first | exact c_X11_setPage0 (d := d) hs hh hst hn (h0 e e0 he) | exact c_X11_setPage0R (d := d) hs hh hst hn (h1 ⟨e1, e2⟩ e0 he)
  · obtain ⟨hk, hk1, hz, hlt, hsz, hN⟩ := hF f e1 e2
    have hge : 96 ≤ 96 + 2 * f.toNatClampNeg := by omega
    refine ⟨⟨Nat.le_refl _, Nat.le_refl _⟩, ?_⟩
    refine c_X7_clear ?_
    refine ⟨⟨Nat.le_refl _, Nat.le_refl _⟩, ?_⟩
    have hn := hl s hss.1 hss.2
    refine c_X11_layBareMore0 (d := d) hs hh hss hn fun v8 e0 he => ?_
    refine ⟨⟨Nat.le_refl _, Nat.le_refl _⟩, ?_⟩
    refine c_X7_carry (d := d) (I := q2 (qRow I 41 e0) 40 2 (I 5 s.toNatClampNeg)) hk hk1 hz hlt (by rw [mlb_h hge]; exact hsz) (by rw [mlb_h hge]; exact hN) (by simp (decide := true) only [q2_at]; exact ⟨Int32.le_trans (by decide) hn.1, hn.2⟩) hge hst ?_
    rw [mlb_h hge, q2_at, show (q2 (qRow I 41 e0) 40 2 (I 5 s.toNatClampNeg)) 41 = e0 from by simp (decide := true) only [q2_ne, qRow_at]]
    refine ⟨⟨Nat.le_refl _, Nat.le_refl _⟩, ?_⟩
    refine c_X3_clear ?_
    refine ⟨⟨Nat.le_refl _, Nat.le_refl _⟩, ?_⟩
    refine c_X6_placesOf (by simp (decide := true) only [q2_ne, qRow_ne]; exact hs) fun v11 h9 => ?_
    replace h9 : v11 = (if 0 ≤ s ∧ s < I 3 2 then I 5 s.toNatClampNeg else 0) := by simp (decide := true) only [q2_ne, qRow_ne] at h9; exact h9
    obtain rfl : v11 = I 5 s.toNatClampNeg := h9.trans (if_pos hss)
    refine qJ_nm (qWP_mono _) [] [(6, .int 0), (5, .int (I 5 s.toNatClampNeg)), (4, .ref (96 + 2 * f.toNatClampNeg)), (3, .int f), (2, .int l), (1, .int s), (0, .ref 2)] rfl rfl rfl ?_
    first | exact c_X11_setPage0 (d := d) hs hh hst hn (h0 e e0 he) | exact c_X11_setPage0R (d := d) hs hh hst hn (h1 ⟨e1, e2⟩ e0 he)
