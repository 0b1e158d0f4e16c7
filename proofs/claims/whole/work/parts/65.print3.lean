/-! printed lines: the class's operations -/
theorem c_X11_isFormulaOrNone {d z : Nat} {N : Nat → Nat} {I : Nat → Nat → Int32} {L : Nat → Nat → Int64} {R : Nat → Nat → Option Nat} {Q : qP} {f : Int32} (hc : 0 ≤ I 2 5 ∧ I 2 5 ≤ 8) (hR : ∀ f : Int32, 0 ≤ f → f < I 2 5 → R 39 f.toNatClampNeg = some (96 + 2 * f.toNatClampNeg)) (h : ∀ v : Int32, v = (if f = -1 ∨ (0 ≤ f ∧ f < I 2 5) then 1 else 0) → Q (some (.int v)) (z, N, I, L, R)) : qWP (d + 2) 160 [.ref 2, .int f] (z, N, I, L, R) Q := by
  refine qWP_of m_X11_isFormulaOrNone rfl rfl [(0, .ref 2), (1, .int f)] rfl ?_
  refine qJ_run (qWP_mono _) [] 400 ?_
  refine ⟨fun (c1 : f = (-1)) => ?_, fun (c1 : ¬ f = (-1)) => ?_⟩
  · refine ⟨by first | exact Or.inl rfl | exact Or.inr rfl | (clear h; grind), ?_⟩
    change Q (some (.int 1)) (z, N, I, L, R)
    refine h _ ?_
    clear h hR
    grind
  · refine ⟨⟨Nat.le_refl _, Nat.le_refl _⟩, ?_⟩
    refine c_X11_textsOf hc hR (fun e => ?_) (fun e1 e2 => ?_)
    · refine ⟨by first | exact Or.inl rfl | exact Or.inr rfl | (clear h; grind), ?_⟩
      change Q (some (.int 0)) (z, N, I, L, R)
      refine h _ ?_
      clear h hR
      grind
    · refine ⟨by first | exact Or.inl rfl | exact Or.inr rfl | (clear h; grind), ?_⟩
      change Q (some (.int 1)) (z, N, I, L, R)
      refine h _ ?_
      clear h hR
      grind
theorem c_X11_print {d z : Nat} {N : Nat → Nat} {I : Nat → Nat → Int32} {L : Nat → Nat → Int64} {R : Nat → Nat → Option Nat} {Q : qP} {s : Int32} {l : Int32} {f : Int32} (hs : 0 ≤ I 3 2 ∧ I 3 2 ≤ 12) (hh : 0 ≤ I 6 2 ∧ I 6 2 ≤ 6) (hl : ∀ x : Int32, 0 ≤ x → x < I 3 2 → 1 ≤ I 5 x.toNatClampNeg ∧ I 5 x.toNatClampNeg ≤ 24) (hc : 0 ≤ I 2 5 ∧ I 2 5 ≤ 8) (hR : ∀ f : Int32, 0 ≤ f → f < I 2 5 → R 39 f.toNatClampNeg = some (96 + 2 * f.toNatClampNeg)) (hF : ∀ f : Int32, 0 ≤ f → f < I 2 5 → okF z N I (96 + 2 * f.toNatClampNeg)) (hst : qStat (z, N, I, L, R)) (h0 : ¬ (((0 ≤ s ∧ s < I 3 2) ∧ 0 ≤ l ∧ l < I 4 s.toNatClampNeg) ∧ (f = -1 ∨ (0 ≤ f ∧ f < I 2 5))) → Q (some (.int (-2))) (z, N, I, L, R)) (h1 : (((0 ≤ s ∧ s < I 3 2) ∧ 0 ≤ l ∧ l < I 4 s.toNatClampNeg) ∧ (f = -1 ∨ (0 ≤ f ∧ f < I 2 5))) → f = -1 → ∀ e : Nat → Int32, (∀ p : Int32, 0 ≤ p → p < I 5 s.toNatClampNeg → e p.toNatClampNeg = fMy (tLd (I 8) (I 7) (I 6 2) s l p)) → Q (some (.int (upF (I 5 s.toNatClampNeg) (gPg (fun p => tLd (I 8) (I 7) (I 6 2) s l p) (fun p => (fun i => if i < 24 then -1 else I 42 i) p.toNatClampNeg)) 0 (0, I 60)).1)) (z, N, mP (qRow (q2 (qRow I 41 e) 40 2 (I 5 s.toNatClampNeg)) 42 (fun i => if i < 24 then -1 else I 42 i)) (upF (I 5 s.toNatClampNeg) (gPg (fun p => tLd (I 8) (I 7) (I 6 2) s l p) (fun p => (fun i => if i < 24 then -1 else I 42 i) p.toNatClampNeg)) 0 (0, I 60)), L, R)) (h2 : (((0 ≤ s ∧ s < I 3 2) ∧ 0 ≤ l ∧ l < I 4 s.toNatClampNeg) ∧ (f = -1 ∨ (0 ≤ f ∧ f < I 2 5))) → (0 ≤ f ∧ f < I 2 5) → ∀ e : Nat → Int32, (∀ p : Int32, 0 ≤ p → p < I 5 s.toNatClampNeg → e p.toNatClampNeg = fMy (tLd (I 8) (I 7) (I 6 2) s l p)) → Q (some (.int (upF (I 5 s.toNatClampNeg) (gPg (fun p => tLd (I 8) (I 7) (I 6 2) s l p) (fun p => (fCa (sLt (I (96 + 2 * f.toNatClampNeg) 1) (L (96 + 2 * f.toNatClampNeg + 1))) e (I 5 s.toNatClampNeg) (I (96 + 2 * f.toNatClampNeg) 1) (fun i => if i < 24 then -1 else I 42 i)) p.toNatClampNeg)) 0 (0, I 60)).1)) (z, N, mP (qRow (q2 (qRow I 41 e) 40 2 (I 5 s.toNatClampNeg)) 42 (fCa (sLt (I (96 + 2 * f.toNatClampNeg) 1) (L (96 + 2 * f.toNatClampNeg + 1))) e (I 5 s.toNatClampNeg) (I (96 + 2 * f.toNatClampNeg) 1) (fun i => if i < 24 then -1 else I 42 i))) (upF (I 5 s.toNatClampNeg) (gPg (fun p => tLd (I 8) (I 7) (I 6 2) s l p) (fun p => (fCa (sLt (I (96 + 2 * f.toNatClampNeg) 1) (L (96 + 2 * f.toNatClampNeg + 1))) e (I 5 s.toNatClampNeg) (I (96 + 2 * f.toNatClampNeg) 1) (fun i => if i < 24 then -1 else I 42 i)) p.toNatClampNeg)) 0 (0, I 60)), L, R)) : qWP (d + 7) 156 [.ref 2, .int s, .int l, .int f] (z, N, I, L, R) Q := by
  refine qWP_of m_X11_print rfl rfl [(0, .ref 2), (1, .int s), (2, .int l), (3, .int f)] rfl ?_
  refine qJ_run (qWP_mono _) [] 400 ?_
  refine ⟨⟨Nat.le_refl _, Nat.le_refl _⟩, ?_⟩
  refine c_X6_hasLine hs fun v1 hv1 => ?_
  refine ⟨fun (c1 : v1 = 0) => ?_, fun (c1 : ¬ v1 = 0) => ?_⟩
  · change Q (some (.int (-2))) (z, N, I, L, R)
    exact h0 (by clear h0 h1 h2 hl hF hR; grind)
  · refine ⟨⟨Nat.le_refl _, Nat.le_refl _⟩, ?_⟩
    refine c_X11_isFormulaOrNone hc hR fun v2 hv2 => ?_
    refine ⟨fun (c2 : ¬ v2 = 0) => ?_, fun (c2 : v2 = 0) => ?_⟩
    · refine ⟨⟨Nat.le_refl _, Nat.le_refl _⟩, ?_⟩
      have hg : (((0 ≤ s ∧ s < I 3 2) ∧ 0 ≤ l ∧ l < I 4 s.toNatClampNeg) ∧ (f = -1 ∨ (0 ≤ f ∧ f < I 2 5))) := by clear h0 h1 h2 hl hF hR; grind
      refine c_X11_setPage (d := d) hs hh hl hc hR hF hst hg.1.1 (fun hf0 e1 he => ?_) (fun hf0 e1 he => ?_)
      · refine ⟨⟨Nat.le_refl _, Nat.le_refl _⟩, ?_⟩
        refine c_X3_size fun v4 hv4 => ?_
        rw [mP_n] at hv4
        subst hv4
        change Q (some (.int ((upF (I 5 s.toNatClampNeg) (gPg (fun p => tLd (I 8) (I 7) (I 6 2) s l p) (fun p => (fun i => if i < 24 then -1 else I 42 i) p.toNatClampNeg)) 0 (0, I 60)).1))) (z, N, mP (qRow (q2 (qRow I 41 e1) 40 2 (I 5 s.toNatClampNeg)) 42 (fun i => if i < 24 then -1 else I 42 i)) (upF (I 5 s.toNatClampNeg) (gPg (fun p => tLd (I 8) (I 7) (I 6 2) s l p) (fun p => (fun i => if i < 24 then -1 else I 42 i) p.toNatClampNeg)) 0 (0, I 60)), L, R)
        exact h1 hg (hg.2.resolve_right hf0) e1 he
      · refine ⟨⟨Nat.le_refl _, Nat.le_refl _⟩, ?_⟩
        refine c_X3_size fun v5 hv5 => ?_
        rw [mP_n] at hv5
        subst hv5
        change Q (some (.int ((upF (I 5 s.toNatClampNeg) (gPg (fun p => tLd (I 8) (I 7) (I 6 2) s l p) (fun p => (fCa (sLt (I (96 + 2 * f.toNatClampNeg) 1) (L (96 + 2 * f.toNatClampNeg + 1))) e1 (I 5 s.toNatClampNeg) (I (96 + 2 * f.toNatClampNeg) 1) (fun i => if i < 24 then -1 else I 42 i)) p.toNatClampNeg)) 0 (0, I 60)).1))) (z, N, mP (qRow (q2 (qRow I 41 e1) 40 2 (I 5 s.toNatClampNeg)) 42 (fCa (sLt (I (96 + 2 * f.toNatClampNeg) 1) (L (96 + 2 * f.toNatClampNeg + 1))) e1 (I 5 s.toNatClampNeg) (I (96 + 2 * f.toNatClampNeg) 1) (fun i => if i < 24 then -1 else I 42 i))) (upF (I 5 s.toNatClampNeg) (gPg (fun p => tLd (I 8) (I 7) (I 6 2) s l p) (fun p => (fCa (sLt (I (96 + 2 * f.toNatClampNeg) 1) (L (96 + 2 * f.toNatClampNeg + 1))) e1 (I 5 s.toNatClampNeg) (I (96 + 2 * f.toNatClampNeg) 1) (fun i => if i < 24 then -1 else I 42 i)) p.toNatClampNeg)) 0 (0, I 60)), L, R)
        exact h2 hg hf0 e1 he
    · change Q (some (.int (-2))) (z, N, I, L, R)
      exact h0 (by clear h0 h1 h2 hl hF hR; grind)
theorem up_pg {n : Int32} {t cv : Int32 → Int32} {e : Nat → Int32} (hn : 0 ≤ n ∧ n ≤ 24) : 0 ≤ (upF n (gPg t cv) 0 (0, e)).1 ∧ (upF n (gPg t cv) 0 (0, e)).1 ≤ 72 := by
  have h9 := upF_inv (n := n) (g := gPg t cv) (fun k (S : Int32 × (Nat → Int32)) => 0 ≤ S.1 ∧ S.1 ≤ 3 * k) (fun k S h0 h1 hS => by
    have hb := wr_n (k := fKd (t k)) (o := fBC (fMy (t k) - 1)) (cv := cv k) (S := S) (by grind)
    show 0 ≤ (wr (fKd (t k)) (fBC (fMy (t k) - 1)) (cv k) S).1 ∧ (wr (fKd (t k)) (fBC (fMy (t k) - 1)) (cv k) S).1 ≤ 3 * (k + 1)
    generalize (wr (fKd (t k)) (fBC (fMy (t k) - 1)) (cv k) S).1 = w at *
    grind) 0 (0, e) (by decide) hn.1 ⟨Int32.le_refl _, Int32.le_refl _⟩
  generalize (upF n (gPg t cv) 0 (0, e)).1 = w at *
  grind
theorem c_X11_printed {d z : Nat} {N : Nat → Nat} {I : Nat → Nat → Int32} {L : Nat → Nat → Int64} {R : Nat → Nat → Option Nat} {Q : qP} {s : Int32} {l : Int32} {f : Int32} {i : Int32} (hs : 0 ≤ I 3 2 ∧ I 3 2 ≤ 12) (hh : 0 ≤ I 6 2 ∧ I 6 2 ≤ 6) (hl : ∀ x : Int32, 0 ≤ x → x < I 3 2 → 1 ≤ I 5 x.toNatClampNeg ∧ I 5 x.toNatClampNeg ≤ 24) (hc : 0 ≤ I 2 5 ∧ I 2 5 ≤ 8) (hR : ∀ f : Int32, 0 ≤ f → f < I 2 5 → R 39 f.toNatClampNeg = some (96 + 2 * f.toNatClampNeg)) (hF : ∀ f : Int32, 0 ≤ f → f < I 2 5 → okF z N I (96 + 2 * f.toNatClampNeg)) (hst : qStat (z, N, I, L, R)) (h0 : ¬ (((0 ≤ s ∧ s < I 3 2) ∧ 0 ≤ l ∧ l < I 4 s.toNatClampNeg) ∧ (f = -1 ∨ (0 ≤ f ∧ f < I 2 5))) → Q (some (.int (-2))) (z, N, I, L, R)) (h1 : (((0 ≤ s ∧ s < I 3 2) ∧ 0 ≤ l ∧ l < I 4 s.toNatClampNeg) ∧ (f = -1 ∨ (0 ≤ f ∧ f < I 2 5))) → f = -1 → ∀ e : Nat → Int32, (∀ p : Int32, 0 ≤ p → p < I 5 s.toNatClampNeg → e p.toNatClampNeg = fMy (tLd (I 8) (I 7) (I 6 2) s l p)) → Q (some (.int (if 0 ≤ i ∧ i < (upF (I 5 s.toNatClampNeg) (gPg (fun p => tLd (I 8) (I 7) (I 6 2) s l p) (fun p => (fun i => if i < 24 then -1 else I 42 i) p.toNatClampNeg)) 0 (0, I 60)).1 then (upF (I 5 s.toNatClampNeg) (gPg (fun p => tLd (I 8) (I 7) (I 6 2) s l p) (fun p => (fun i => if i < 24 then -1 else I 42 i) p.toNatClampNeg)) 0 (0, I 60)).2 i.toNatClampNeg else -1))) (z, N, mP (qRow (q2 (qRow I 41 e) 40 2 (I 5 s.toNatClampNeg)) 42 (fun i => if i < 24 then -1 else I 42 i)) (upF (I 5 s.toNatClampNeg) (gPg (fun p => tLd (I 8) (I 7) (I 6 2) s l p) (fun p => (fun i => if i < 24 then -1 else I 42 i) p.toNatClampNeg)) 0 (0, I 60)), L, R)) (h2 : (((0 ≤ s ∧ s < I 3 2) ∧ 0 ≤ l ∧ l < I 4 s.toNatClampNeg) ∧ (f = -1 ∨ (0 ≤ f ∧ f < I 2 5))) → (0 ≤ f ∧ f < I 2 5) → ∀ e : Nat → Int32, (∀ p : Int32, 0 ≤ p → p < I 5 s.toNatClampNeg → e p.toNatClampNeg = fMy (tLd (I 8) (I 7) (I 6 2) s l p)) → Q (some (.int (if 0 ≤ i ∧ i < (upF (I 5 s.toNatClampNeg) (gPg (fun p => tLd (I 8) (I 7) (I 6 2) s l p) (fun p => (fCa (sLt (I (96 + 2 * f.toNatClampNeg) 1) (L (96 + 2 * f.toNatClampNeg + 1))) e (I 5 s.toNatClampNeg) (I (96 + 2 * f.toNatClampNeg) 1) (fun i => if i < 24 then -1 else I 42 i)) p.toNatClampNeg)) 0 (0, I 60)).1 then (upF (I 5 s.toNatClampNeg) (gPg (fun p => tLd (I 8) (I 7) (I 6 2) s l p) (fun p => (fCa (sLt (I (96 + 2 * f.toNatClampNeg) 1) (L (96 + 2 * f.toNatClampNeg + 1))) e (I 5 s.toNatClampNeg) (I (96 + 2 * f.toNatClampNeg) 1) (fun i => if i < 24 then -1 else I 42 i)) p.toNatClampNeg)) 0 (0, I 60)).2 i.toNatClampNeg else -1))) (z, N, mP (qRow (q2 (qRow I 41 e) 40 2 (I 5 s.toNatClampNeg)) 42 (fCa (sLt (I (96 + 2 * f.toNatClampNeg) 1) (L (96 + 2 * f.toNatClampNeg + 1))) e (I 5 s.toNatClampNeg) (I (96 + 2 * f.toNatClampNeg) 1) (fun i => if i < 24 then -1 else I 42 i))) (upF (I 5 s.toNatClampNeg) (gPg (fun p => tLd (I 8) (I 7) (I 6 2) s l p) (fun p => (fCa (sLt (I (96 + 2 * f.toNatClampNeg) 1) (L (96 + 2 * f.toNatClampNeg + 1))) e (I 5 s.toNatClampNeg) (I (96 + 2 * f.toNatClampNeg) 1) (fun i => if i < 24 then -1 else I 42 i)) p.toNatClampNeg)) 0 (0, I 60)), L, R)) : qWP (d + 7) 157 [.ref 2, .int s, .int l, .int f, .int i] (z, N, I, L, R) Q := by
  refine qWP_of m_X11_printed rfl rfl [(0, .ref 2), (1, .int s), (2, .int l), (3, .int f), (4, .int i)] rfl ?_
  refine qJ_run (qWP_mono _) [] 400 ?_
  refine ⟨⟨Nat.le_refl _, Nat.le_refl _⟩, ?_⟩
  refine c_X6_hasLine hs fun v1 hv1 => ?_
  refine ⟨fun (c1 : v1 = 0) => ?_, fun (c1 : ¬ v1 = 0) => ?_⟩
  · change Q (some (.int (-2))) (z, N, I, L, R)
    exact h0 (by clear h0 h1 h2 hl hF hR; grind)
  · refine ⟨⟨Nat.le_refl _, Nat.le_refl _⟩, ?_⟩
    refine c_X11_isFormulaOrNone hc hR fun v2 hv2 => ?_
    refine ⟨fun (c2 : ¬ v2 = 0) => ?_, fun (c2 : v2 = 0) => ?_⟩
    · refine ⟨⟨Nat.le_refl _, Nat.le_refl _⟩, ?_⟩
      have hg : (((0 ≤ s ∧ s < I 3 2) ∧ 0 ≤ l ∧ l < I 4 s.toNatClampNeg) ∧ (f = -1 ∨ (0 ≤ f ∧ f < I 2 5))) := by clear h0 h1 h2 hl hF hR; grind
      refine c_X11_setPage (d := d) hs hh hl hc hR hF hst hg.1.1 (fun hf0 e1 he => ?_) (fun hf0 e1 he => ?_)
      · refine ⟨⟨Nat.le_refl _, Nat.le_refl _⟩, ?_⟩
        have hn5 := hl s hg.1.1.1 hg.1.1.2
        refine c_X3_byteAt (by rw [mP_n]; exact up_pg ⟨Int32.le_trans (by decide) hn5.1, hn5.2⟩) fun v4 hv4 => ?_
        rw [mP_n, mP_60] at hv4
        subst hv4
        change Q (some (.int (if 0 ≤ i ∧ i < (upF (I 5 s.toNatClampNeg) (gPg (fun p => tLd (I 8) (I 7) (I 6 2) s l p) (fun p => (fun i => if i < 24 then -1 else I 42 i) p.toNatClampNeg)) 0 (0, I 60)).1 then (upF (I 5 s.toNatClampNeg) (gPg (fun p => tLd (I 8) (I 7) (I 6 2) s l p) (fun p => (fun i => if i < 24 then -1 else I 42 i) p.toNatClampNeg)) 0 (0, I 60)).2 i.toNatClampNeg else -1))) (z, N, mP (qRow (q2 (qRow I 41 e1) 40 2 (I 5 s.toNatClampNeg)) 42 (fun i => if i < 24 then -1 else I 42 i)) (upF (I 5 s.toNatClampNeg) (gPg (fun p => tLd (I 8) (I 7) (I 6 2) s l p) (fun p => (fun i => if i < 24 then -1 else I 42 i) p.toNatClampNeg)) 0 (0, I 60)), L, R)
        exact h1 hg (hg.2.resolve_right hf0) e1 he
      · refine ⟨⟨Nat.le_refl _, Nat.le_refl _⟩, ?_⟩
        have hn5 := hl s hg.1.1.1 hg.1.1.2
        refine c_X3_byteAt (by rw [mP_n]; exact up_pg ⟨Int32.le_trans (by decide) hn5.1, hn5.2⟩) fun v5 hv5 => ?_
        rw [mP_n, mP_60] at hv5
        subst hv5
        change Q (some (.int (if 0 ≤ i ∧ i < (upF (I 5 s.toNatClampNeg) (gPg (fun p => tLd (I 8) (I 7) (I 6 2) s l p) (fun p => (fCa (sLt (I (96 + 2 * f.toNatClampNeg) 1) (L (96 + 2 * f.toNatClampNeg + 1))) e1 (I 5 s.toNatClampNeg) (I (96 + 2 * f.toNatClampNeg) 1) (fun i => if i < 24 then -1 else I 42 i)) p.toNatClampNeg)) 0 (0, I 60)).1 then (upF (I 5 s.toNatClampNeg) (gPg (fun p => tLd (I 8) (I 7) (I 6 2) s l p) (fun p => (fCa (sLt (I (96 + 2 * f.toNatClampNeg) 1) (L (96 + 2 * f.toNatClampNeg + 1))) e1 (I 5 s.toNatClampNeg) (I (96 + 2 * f.toNatClampNeg) 1) (fun i => if i < 24 then -1 else I 42 i)) p.toNatClampNeg)) 0 (0, I 60)).2 i.toNatClampNeg else -1))) (z, N, mP (qRow (q2 (qRow I 41 e1) 40 2 (I 5 s.toNatClampNeg)) 42 (fCa (sLt (I (96 + 2 * f.toNatClampNeg) 1) (L (96 + 2 * f.toNatClampNeg + 1))) e1 (I 5 s.toNatClampNeg) (I (96 + 2 * f.toNatClampNeg) 1) (fun i => if i < 24 then -1 else I 42 i))) (upF (I 5 s.toNatClampNeg) (gPg (fun p => tLd (I 8) (I 7) (I 6 2) s l p) (fun p => (fCa (sLt (I (96 + 2 * f.toNatClampNeg) 1) (L (96 + 2 * f.toNatClampNeg + 1))) e1 (I 5 s.toNatClampNeg) (I (96 + 2 * f.toNatClampNeg) 1) (fun i => if i < 24 then -1 else I 42 i)) p.toNatClampNeg)) 0 (0, I 60)), L, R)
        exact h2 hg hf0 e1 he
    · change Q (some (.int (-2))) (z, N, I, L, R)
      exact h0 (by clear h0 h1 h2 hl hF hR; grind)
