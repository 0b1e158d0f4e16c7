theorem c_X11_textsOf {d z : Nat} {N : Nat → Nat} {I : Nat → Nat → Int32} {L : Nat → Nat → Int64} {R : Nat → Nat → Option Nat} {Q : qP} {f : Int32} (hc : 0 ≤ I 2 5 ∧ I 2 5 ≤ 8) (hR : ∀ f : Int32, 0 ≤ f → f < I 2 5 → R 39 f.toNatClampNeg = some (96 + 2 * f.toNatClampNeg)) (h0 : ¬ (0 ≤ f ∧ f < I 2 5) → Q (some .null) (z, N, I, L, R)) (h1 : 0 ≤ f → f < I 2 5 → Q (some (.ref (96 + 2 * f.toNatClampNeg))) (z, N, I, L, R)) : qWP (d + 1) 135 [.ref 2, .int f] (z, N, I, L, R) Q := by
  refine qWP_of m_X11_textsOf rfl rfl [(0, .ref 2), (1, .int f)] rfl ?_
  refine qJ_run (qWP_mono _) [] 400 ?_
  refine ⟨fun (c1 : f < 0) => ?_, fun (c1 : ¬ f < 0) => ?_⟩
  · refine ⟨fun _ => ?_, fun h => absurd h (by decide)⟩
    change Q (some (.null)) (z, N, I, L, R)
    exact h0 (by clear h0 h1; grind)
  · refine ⟨fun (c2 : (I 2 5) ≤ f) => ?_, fun (c2 : ¬ (I 2 5) ≤ f) => ?_⟩
    · refine ⟨fun _ => ?_, fun h => absurd h (by decide)⟩
      change Q (some (.null)) (z, N, I, L, R)
      exact h0 (by clear h0 h1; grind)
    · refine ⟨fun (c3 : 8 ≤ f) => ?_, fun (c3 : ¬ 8 ≤ f) => ?_⟩
      · refine ⟨fun _ => ?_, fun h => absurd h (by decide)⟩
        change Q (some (.null)) (z, N, I, L, R)
        exact h0 (by clear h0 h1; grind)
      · refine ⟨fun h => absurd h (by decide), fun _ => ?_⟩
        refine ⟨?_, ?_⟩
        · exact vb (x := f) (N := 8) 8 (by decide) (by clear h0 h1; grind) (by clear h0 h1; grind)
        refine ⟨some (96 + 2 * f.toNatClampNeg), hR f (by clear h0 h1; grind) (by clear h0 h1; grind), ?_⟩
        change Q (some (.ref (96 + 2 * f.toNatClampNeg))) (z, N, I, L, R)
        exact h1 (by clear h0 h1; grind) (by clear h0 h1; grind)
theorem c_X11_texts {d z : Nat} {N : Nat → Nat} {I : Nat → Nat → Int32} {L : Nat → Nat → Int64} {R : Nat → Nat → Option Nat} {Q : qP} {f : Int32} (hc : 0 ≤ I 2 5 ∧ I 2 5 ≤ 8) (hR : ∀ f : Int32, 0 ≤ f → f < I 2 5 → R 39 f.toNatClampNeg = some (96 + 2 * f.toNatClampNeg)) (hF : ∀ f : Int32, 0 ≤ f → f < I 2 5 → okF z N I (96 + 2 * f.toNatClampNeg)) (h_ : ∀ v : Int32, v = (if 0 ≤ f ∧ f < I 2 5 then I (96 + 2 * f.toNatClampNeg) 1 else -2) → Q (some (.int v)) (z, N, I, L, R)) : qWP (d + 2) 129 [.ref 2, .int f] (z, N, I, L, R) Q := by
  refine qWP_of m_X11_texts rfl rfl [(0, .ref 2), (1, .int f)] rfl ?_
  refine qJ_run (qWP_mono _) [16] 400 ?_
  refine ⟨⟨Nat.le_refl _, Nat.le_refl _⟩, ?_⟩
  refine c_X11_textsOf hc hR (fun e => ?_) (fun e1 e2 => ?_)
  · change Q (some (.int (-2))) (z, N, I, L, R)
    exact h_ _ (if_neg e).symm
  · obtain ⟨hk, hk1, hz, hlt, hsz, hN⟩ := hF f e1 e2
    have hge : 96 ≤ 96 + 2 * f.toNatClampNeg := by omega
    change qJ m_X11_texts (qWP _) Q 16 [(2, .ref (96 + 2 * f.toNatClampNeg)), (0, .ref 2), (1, .int f)] [.ref (96 + 2 * f.toNatClampNeg)] _ _ (z, N, I, L, R)
    refine qJ_run (qWP_mono _) [16] 400 ?_
    refine st_call rfl (fun _ h => h) hk rfl (Nat.lt_of_succ_lt hlt) ?_
    refine ⟨⟨Nat.le_refl _, Nat.le_refl _⟩, ?_⟩
    refine c_X9_size (h := 96 + 2 * f.toNatClampNeg) hk hk1 hz hlt hsz hN fun v2 hv2 => ?_
    obtain rfl : v2 = I (96 + 2 * f.toNatClampNeg) 1 := hv2
    change Q (some (.int (I (96 + 2 * f.toNatClampNeg) 1))) (z, N, I, L, R)
    exact h_ _ (if_pos ⟨e1, e2⟩).symm
theorem c_X11_text {d z : Nat} {N : Nat → Nat} {I : Nat → Nat → Int32} {L : Nat → Nat → Int64} {R : Nat → Nat → Option Nat} {Q : qP} {f : Int32} {i : Int32} {k : Int32} (hc : 0 ≤ I 2 5 ∧ I 2 5 ≤ 8) (hR : ∀ f : Int32, 0 ≤ f → f < I 2 5 → R 39 f.toNatClampNeg = some (96 + 2 * f.toNatClampNeg)) (hF : ∀ f : Int32, 0 ≤ f → f < I 2 5 → okF z N I (96 + 2 * f.toNatClampNeg)) (h_ : ∀ v : Int32, v = (if 0 ≤ f ∧ f < I 2 5 then (sLt (I (96 + 2 * f.toNatClampNeg) 1) (L ((96 + 2 * f.toNatClampNeg) + 1))) i k else -2) → Q (some (.int v)) (z, N, I, L, R)) : qWP (d + 3) 130 [.ref 2, .int f, .int i, .int k] (z, N, I, L, R) Q := by
  refine qWP_of m_X11_text rfl rfl [(0, .ref 2), (1, .int f), (2, .int i), (3, .int k)] rfl ?_
  refine qJ_run (qWP_mono _) [21] 400 ?_
  refine ⟨⟨Nat.le_refl _, Nat.le_refl _⟩, ?_⟩
  refine c_X11_textsOf hc hR (fun e => ?_) (fun e1 e2 => ?_)
  · change Q (some (.int (-2))) (z, N, I, L, R)
    exact h_ _ (if_neg e).symm
  · obtain ⟨hk, hk1, hz, hlt, hsz, hN⟩ := hF f e1 e2
    have hge : 96 ≤ 96 + 2 * f.toNatClampNeg := by omega
    change qJ m_X11_text (qWP _) Q 21 [(4, .ref (96 + 2 * f.toNatClampNeg)), (0, .ref 2), (1, .int f), (2, .int i), (3, .int k)] [.int k, .int i, .ref (96 + 2 * f.toNatClampNeg)] _ _ (z, N, I, L, R)
    refine qJ_run (qWP_mono _) [21] 400 ?_
    refine st_call rfl (fun _ h => h) hk rfl (Nat.lt_of_succ_lt hlt) ?_
    refine ⟨⟨Nat.le_refl _, Nat.le_refl _⟩, ?_⟩
    refine c_X9_letter (h := 96 + 2 * f.toNatClampNeg) (d := d) hk hk1 hz hlt hsz hN fun v2 hv2 => ?_
    change Q (some (.int v2)) (z, N, I, L, R)
    exact h_ _ (hv2.trans (if_pos ⟨e1, e2⟩).symm)
theorem l_X11_layBareMore {d z : Nat} {N : Nat → Nat} {I : Nat → Nat → Int32} {L : Nat → Nat → Int64} {R : Nat → Nat → Option Nat} {Q : qP} {s l n : Int32} (hh : 0 ≤ I 6 2 ∧ I 6 2 ≤ 6) : ∀ (p : Int32), ∀ (w : Int32) (e : Nat → Int32), 0 ≤ p → (0 ≤ w ∧ w ≤ 24) → Q (some (.int (upS n (gLb (fun p => fMy (tLd (I 8) (I 7) (I 6 2) s l p))) (fun S => (1, S)) p (w, e)).1)) (z, N, q2 (qRow I 41 (upS n (gLb (fun p => fMy (tLd (I 8) (I 7) (I 6 2) s l p))) (fun S => (1, S)) p (w, e)).2.2) 40 2 (upS n (gLb (fun p => fMy (tLd (I 8) (I 7) (I 6 2) s l p))) (fun S => (1, S)) p (w, e)).2.1, L, R) → qJ m_X11_layBareMore (qWP (d + 4)) Q 12 [(4, .int p), (3, .int n), (2, .int l), (1, .int s), (0, .ref 2)] [] 0 0 (z, N, q2 (qRow I 41 e) 40 2 w, L, R) := by
  refine up_ind (n) fun p ih => ?_
  intro w e h0 hw hq
  refine qJ_run (qWP_mono _) [12] 400 ?_
  refine ⟨fun (c1 : n ≤ p) => ?_, fun (c1 : ¬ n ≤ p) => ?_⟩
  · refine ⟨by first | exact Or.inl rfl | exact Or.inr rfl | (clear ih hq; grind), ?_⟩
    change Q (some (.int 1)) (z, N, q2 (qRow I 41 e) 40 2 w, L, R)
    rw [upS_ge (Int32.not_lt.mpr c1)] at hq
    exact hq
  · refine ⟨⟨Nat.le_refl _, Nat.le_refl _⟩, ?_⟩
    refine c_X5_leading (d := d) (I := q2 (qRow I 41 e) 40 2 w) hh fun t1 ht1 => ?_
    replace ht1 : t1 = tLd (I 8) (I 7) (I 6 2) s l p := ht1
    refine ⟨⟨Nat.le_refl _, Nat.le_refl _⟩, ?_⟩
    refine c_X5_mayOf fun v2 hv2 => ?_
    refine ⟨⟨Nat.le_refl _, Nat.le_refl _⟩, ?_⟩
    refine c_X7_add (I := q2 (qRow I 41 e) 40 2 w) hw (fun (ew : w = 24) => ?_) (fun (ew : w < 24) => ?_)
    · refine ⟨fun h => absurd h (by decide), fun _ => ?_⟩
      refine ⟨by first | exact Or.inl rfl | exact Or.inr rfl | (clear ih hq; grind), ?_⟩
      change Q (some (.int 0)) (z, N, q2 (qRow I 41 e) 40 2 w, L, R)
      have hp : p < n := Int32.not_le.mp c1
      have e9 : gLb (fun p => fMy (tLd (I 8) (I 7) (I 6 2) s l p)) p (w, e) = .inr (0, (w, e)) := if_pos ew
      rw [upS_out hp e9] at hq
      exact hq
    · refine ⟨fun _ => ?_, fun h => absurd h (by decide)⟩
      refine qJ_nm (qWP_mono _) [(5, _)] [(4, .int (p + 1)), (3, .int n), (2, .int l), (1, .int s), (0, .ref 2)] rfl rfl rfl ?_
      have hp : p < n := Int32.not_le.mp c1
      have e9 : gLb (fun p => fMy (tLd (I 8) (I 7) (I 6 2) s l p)) p (w, e) = .inl (w + 1, uI e w.toNatClampNeg v2) := by
        unfold gLb
        rw [hv2, ht1]
        exact if_neg (by clear ih hq; intro h9; dsimp only at h9; grind)
      rw [upS_on hp e9] at hq
      refine qJ_M (M2 := (z, N, q2 (qRow I 41 (uI e w.toNatClampNeg v2)) 40 2 (w + 1), L, R)) (by show (z, N, q2 (q2 (q2 (qRow I 41 e) 40 2 w) 41 w.toNatClampNeg v2) 40 2 (w + 1), L, R) = _; rw [q2_loop (by decide)]) ?_
      exact ih hp _ _ (by clear ih hq; grind) (by clear ih hq; grind) hq
theorem c_X11_layBareMore {d z : Nat} {N : Nat → Nat} {I : Nat → Nat → Int32} {L : Nat → Nat → Int64} {R : Nat → Nat → Option Nat} {Q : qP} {s l : Int32} (hs : 0 ≤ I 3 2 ∧ I 3 2 ≤ 12) (hh : 0 ≤ I 6 2 ∧ I 6 2 ≤ 6) (hw : 0 ≤ I 40 2 ∧ I 40 2 ≤ 24) (hss : 0 ≤ s ∧ s < I 3 2) (hn : 1 ≤ I 5 s.toNatClampNeg ∧ I 5 s.toNatClampNeg ≤ 24) (h : ∀ v : Int32, v = (fLb (fun p => fMy (tLd (I 8) (I 7) (I 6 2) s l p)) (I 5 s.toNatClampNeg) (I 40 2) (I 41)).1 → Q (some (.int v)) (z, N, q2 (qRow I 41 (fLb (fun p => fMy (tLd (I 8) (I 7) (I 6 2) s l p)) (I 5 s.toNatClampNeg) (I 40 2) (I 41)).2.2) 40 2 (fLb (fun p => fMy (tLd (I 8) (I 7) (I 6 2) s l p)) (I 5 s.toNatClampNeg) (I 40 2) (I 41)).2.1, L, R)) : qWP (d + 5) 137 [.ref 2, .int s, .int l] (z, N, I, L, R) Q := by
  refine qWP_of m_X11_layBareMore rfl rfl [(0, .ref 2), (1, .int s), (2, .int l)] rfl ?_
  refine qJ_run (qWP_mono _) [12] 400 ?_
  refine ⟨⟨Nat.le_refl _, Nat.le_refl _⟩, ?_⟩
  refine c_X6_placesOf hs fun v1 hv1 => ?_
  obtain rfl : v1 = I 5 s.toNatClampNeg := hv1.trans (if_pos hss)
  refine qJ_nm (qWP_mono _) [] [(4, .int 0), (3, .int (I 5 s.toNatClampNeg)), (2, .int l), (1, .int s), (0, .ref 2)] rfl rfl rfl ?_
  refine qJ_M (M2 := (z, N, q2 (qRow I 41 (I 41)) 40 2 (I 40 2), L, R)) (by rw [qRow_self, q2_self]) ?_
  exact l_X11_layBareMore (d := d) hh 0 _ _ (by decide) hw (h _ rfl)
theorem q2_row_q2 {f : Nat → Nat → Int32} {a b j : Nat} {e : Nat → Int32} {v w : Int32} (h : a ≠ b) : q2 (qRow (q2 f b j v) a e) b j w = q2 (qRow f a e) b j w := by
  funext c k
  by_cases hb : c = b
  · subst hb; by_cases hk : k = j <;> simp [q2, qRow, hk, Ne.symm h]
  · by_cases ha : c = a
    · subst ha; simp [q2, qRow, h]
    · simp [q2, qRow, ha, hb]
theorem mlb_h {I : Nat → Nat → Int32} {e : Nat → Int32} {n : Int32} {h : Nat} (hge : 96 ≤ h) : (q2 (qRow I 41 e) 40 2 n) h = I h := by rw [q2_ne (by omega), qRow_ne (by omega)]
theorem c_X11_layBare {d z : Nat} {N : Nat → Nat} {I : Nat → Nat → Int32} {L : Nat → Nat → Int64} {R : Nat → Nat → Option Nat} {Q : qP} {s l : Int32} (hs : 0 ≤ I 3 2 ∧ I 3 2 ≤ 12) (hh : 0 ≤ I 6 2 ∧ I 6 2 ≤ 6) (hss : 0 ≤ s ∧ s < I 3 2) (hn : 1 ≤ I 5 s.toNatClampNeg ∧ I 5 s.toNatClampNeg ≤ 24) (h : ∀ e : Nat → Int32, (∀ p : Int32, 0 ≤ p → p < I 5 s.toNatClampNeg → e p.toNatClampNeg = fMy (tLd (I 8) (I 7) (I 6 2) s l p)) → Q none (z, N, q2 (qRow I 41 e) 40 2 (I 5 s.toNatClampNeg), L, R)) : qWP (d + 6) 136 [.ref 2, .int s, .int l] (z, N, I, L, R) Q := by
  refine qWP_of m_X11_layBare rfl rfl [(0, .ref 2), (1, .int s), (2, .int l)] rfl ?_
  refine qJ_run (qWP_mono _) [] 400 ?_
  refine ⟨⟨Nat.le_refl _, Nat.le_refl _⟩, ?_⟩
  refine c_X7_clear ?_
  refine ⟨⟨Nat.le_refl _, Nat.le_refl _⟩, ?_⟩
  have g9 := fLb_0 (mf := (fun p => fMy (tLd (I 8) (I 7) (I 6 2) s l p))) (n := I 5 s.toNatClampNeg) (w := 0) (e := I 41) ⟨by clear h; grind, hn.2⟩ (by decide) (by clear h; grind)
  refine c_X11_layBareMore (d := d) (I := q2 I 40 2 0) hs hh (by simp (decide := true) only [q2_at]) hss hn fun v2 _ => ?_
  rw [show (q2 I 40 2 0) 41 = I 41 from q2_ne (by decide), show q2 I 40 2 0 40 2 = 0 from q2_at]
  change Q none (z, N, q2 (qRow (q2 I 40 2 0) 41 (fLb (fun p => fMy (tLd (I 8) (I 7) (I 6 2) s l p)) (I 5 s.toNatClampNeg) 0 (I 41)).2.2) 40 2 (fLb (fun p => fMy (tLd (I 8) (I 7) (I 6 2) s l p)) (I 5 s.toNatClampNeg) 0 (I 41)).2.1, L, R)
  obtain ⟨g1, g2, g3, _⟩ := g9
  have hh9 := h _ (fun p p0 p1 => by have := g3 p p0 p1; rw [show (0 : Int32) + p = p from by grind] at this; exact this)
  rw [g2, show (0 : Int32) + I 5 s.toNatClampNeg = I 5 s.toNatClampNeg from by grind]
  rw [q2_row_q2 (by decide)]
  exact hh9
theorem c_X11_ways {d z : Nat} {N : Nat → Nat} {I : Nat → Nat → Int32} {L : Nat → Nat → Int64} {R : Nat → Nat → Option Nat} {Q : qP} {s : Int32} {l : Int32} {f : Int32} (hs : 0 ≤ I 3 2 ∧ I 3 2 ≤ 12) (hh : 0 ≤ I 6 2 ∧ I 6 2 ≤ 6) (hl : ∀ x : Int32, 0 ≤ x → x < I 3 2 → 1 ≤ I 5 x.toNatClampNeg ∧ I 5 x.toNatClampNeg ≤ 24) (hc : 0 ≤ I 2 5 ∧ I 2 5 ≤ 8) (hR : ∀ f : Int32, 0 ≤ f → f < I 2 5 → R 39 f.toNatClampNeg = some (96 + 2 * f.toNatClampNeg)) (hF : ∀ f : Int32, 0 ≤ f → f < I 2 5 → okF z N I (96 + 2 * f.toNatClampNeg)) (h0 : ¬ ((0 ≤ f ∧ f < I 2 5) ∧ (0 ≤ s ∧ s < I 3 2) ∧ 0 ≤ l ∧ l < I 4 s.toNatClampNeg) → Q (some (.int (-2))) (z, N, I, L, R)) (h1 : ((0 ≤ f ∧ f < I 2 5) ∧ (0 ≤ s ∧ s < I 3 2) ∧ 0 ≤ l ∧ l < I 4 s.toNatClampNeg) → ∀ e : Nat → Int32, (∀ p : Int32, 0 ≤ p → p < I 5 s.toNatClampNeg → e p.toNatClampNeg = fMy (tLd (I 8) (I 7) (I 6 2) s l p)) → Q (some (.int (upF (I (96 + 2 * f.toNatClampNeg) 1) (gCw (sLt (I (96 + 2 * f.toNatClampNeg) 1) (L ((96 + 2 * f.toNatClampNeg) + 1))) e (I 5 s.toNatClampNeg)) 0 0))) (z, N, q2 (qRow I 41 e) 40 2 (I 5 s.toNatClampNeg), L, R)) : qWP (d + 7) 131 [.ref 2, .int s, .int l, .int f] (z, N, I, L, R) Q := by
  refine qWP_of m_X11_ways rfl rfl [(0, .ref 2), (1, .int s), (2, .int l), (3, .int f)] rfl ?_
  refine qJ_run (qWP_mono _) [] 400 ?_
  refine ⟨⟨Nat.le_refl _, Nat.le_refl _⟩, ?_⟩
  refine c_X11_textsOf hc hR (fun e => ?_) (fun e1 e2 => ?_)
  · change Q (some (.int (-2))) (z, N, I, L, R)
    exact h0 (by clear h0 h1; grind)
  · obtain ⟨hk, hk1, hz, hlt, hsz, hN⟩ := hF f e1 e2
    have hge : 96 ≤ 96 + 2 * f.toNatClampNeg := by omega
    refine ⟨⟨Nat.le_refl _, Nat.le_refl _⟩, ?_⟩
    refine c_X6_hasLine hs fun v2 hv2 => ?_
    refine ⟨fun (c1 : ¬ v2 = 0) => ?_, fun (c1 : v2 = 0) => ?_⟩
    · refine ⟨⟨Nat.le_refl _, Nat.le_refl _⟩, ?_⟩
      have hg : ((0 ≤ f ∧ f < I 2 5) ∧ (0 ≤ s ∧ s < I 3 2) ∧ 0 ≤ l ∧ l < I 4 s.toNatClampNeg) := by clear h0 h1; grind
      refine c_X11_layBare (d := d) hs hh hg.2.1 (hl s hg.2.1.1 hg.2.1.2) fun e he => ?_
      refine ⟨⟨Nat.le_refl _, Nat.le_refl _⟩, ?_⟩
      refine c_X7_countWays (d := d + 1) (I := q2 (qRow I 41 e) 40 2 (I 5 s.toNatClampNeg)) hk hk1 hz hlt (by rw [mlb_h hge]; exact hsz) (by rw [mlb_h hge]; exact hN) (by simp (decide := true) only [q2_at]; have := hl s hg.2.1.1 hg.2.1.2; clear h0 h1; grind) fun v4 hv4 => ?_
      rw [mlb_h hge, q2_at, show (q2 (qRow I 41 e) 40 2 (I 5 s.toNatClampNeg)) 41 = e from by simp (decide := true) only [q2_ne, qRow_at]] at hv4
      change Q (some (.int v4)) (z, N, q2 (qRow I 41 e) 40 2 (I 5 s.toNatClampNeg), L, R)
      rw [hv4]
      exact h1 hg e he
    · change Q (some (.int (-2))) (z, N, I, L, R)
      exact h0 (by clear h0 h1; grind)
theorem c_X11_way {d z : Nat} {N : Nat → Nat} {I : Nat → Nat → Int32} {L : Nat → Nat → Int64} {R : Nat → Nat → Option Nat} {Q : qP} {s : Int32} {l : Int32} {f : Int32} {i : Int32} (hs : 0 ≤ I 3 2 ∧ I 3 2 ≤ 12) (hh : 0 ≤ I 6 2 ∧ I 6 2 ≤ 6) (hl : ∀ x : Int32, 0 ≤ x → x < I 3 2 → 1 ≤ I 5 x.toNatClampNeg ∧ I 5 x.toNatClampNeg ≤ 24) (hc : 0 ≤ I 2 5 ∧ I 2 5 ≤ 8) (hR : ∀ f : Int32, 0 ≤ f → f < I 2 5 → R 39 f.toNatClampNeg = some (96 + 2 * f.toNatClampNeg)) (hF : ∀ f : Int32, 0 ≤ f → f < I 2 5 → okF z N I (96 + 2 * f.toNatClampNeg)) (h0 : ¬ ((0 ≤ f ∧ f < I 2 5) ∧ (0 ≤ s ∧ s < I 3 2) ∧ 0 ≤ l ∧ l < I 4 s.toNatClampNeg) → Q (some (.int (-2))) (z, N, I, L, R)) (h1 : ((0 ≤ f ∧ f < I 2 5) ∧ (0 ≤ s ∧ s < I 3 2) ∧ 0 ≤ l ∧ l < I 4 s.toNatClampNeg) → ∀ e : Nat → Int32, (∀ p : Int32, 0 ≤ p → p < I 5 s.toNatClampNeg → e p.toNatClampNeg = fMy (tLd (I 8) (I 7) (I 6 2) s l p)) → Q (some (.int (upS (I (96 + 2 * f.toNatClampNeg) 1) (gFw (sLt (I (96 + 2 * f.toNatClampNeg) 1) (L ((96 + 2 * f.toNatClampNeg) + 1))) e (I 5 s.toNatClampNeg) i) (fun _ => -1) 0 0))) (z, N, q2 (qRow I 41 e) 40 2 (I 5 s.toNatClampNeg), L, R)) : qWP (d + 7) 132 [.ref 2, .int s, .int l, .int f, .int i] (z, N, I, L, R) Q := by
  refine qWP_of m_X11_way rfl rfl [(0, .ref 2), (1, .int s), (2, .int l), (3, .int f), (4, .int i)] rfl ?_
  refine qJ_run (qWP_mono _) [] 400 ?_
  refine ⟨⟨Nat.le_refl _, Nat.le_refl _⟩, ?_⟩
  refine c_X11_textsOf hc hR (fun e => ?_) (fun e1 e2 => ?_)
  · change Q (some (.int (-2))) (z, N, I, L, R)
    exact h0 (by clear h0 h1; grind)
  · obtain ⟨hk, hk1, hz, hlt, hsz, hN⟩ := hF f e1 e2
    have hge : 96 ≤ 96 + 2 * f.toNatClampNeg := by omega
    refine ⟨⟨Nat.le_refl _, Nat.le_refl _⟩, ?_⟩
    refine c_X6_hasLine hs fun v2 hv2 => ?_
    refine ⟨fun (c1 : ¬ v2 = 0) => ?_, fun (c1 : v2 = 0) => ?_⟩
    · refine ⟨⟨Nat.le_refl _, Nat.le_refl _⟩, ?_⟩
      have hg : ((0 ≤ f ∧ f < I 2 5) ∧ (0 ≤ s ∧ s < I 3 2) ∧ 0 ≤ l ∧ l < I 4 s.toNatClampNeg) := by clear h0 h1; grind
      refine c_X11_layBare (d := d) hs hh hg.2.1 (hl s hg.2.1.1 hg.2.1.2) fun e he => ?_
      refine ⟨⟨Nat.le_refl _, Nat.le_refl _⟩, ?_⟩
      refine c_X7_findWay (d := d + 1) (I := q2 (qRow I 41 e) 40 2 (I 5 s.toNatClampNeg)) hk hk1 hz hlt (by rw [mlb_h hge]; exact hsz) (by rw [mlb_h hge]; exact hN) (by simp (decide := true) only [q2_at]; have := hl s hg.2.1.1 hg.2.1.2; clear h0 h1; grind) fun v4 hv4 => ?_
      rw [mlb_h hge, q2_at, show (q2 (qRow I 41 e) 40 2 (I 5 s.toNatClampNeg)) 41 = e from by simp (decide := true) only [q2_ne, qRow_at]] at hv4
      change Q (some (.int v4)) (z, N, q2 (qRow I 41 e) 40 2 (I 5 s.toNatClampNeg), L, R)
      rw [hv4]
      exact h1 hg e he
    · change Q (some (.int (-2))) (z, N, I, L, R)
      exact h0 (by clear h0 h1; grind)
theorem c_X11_carried {d z : Nat} {N : Nat → Nat} {I : Nat → Nat → Int32} {L : Nat → Nat → Int64} {R : Nat → Nat → Option Nat} {Q : qP} {s : Int32} {l : Int32} {p : Int32} {f : Int32} (hs : 0 ≤ I 3 2 ∧ I 3 2 ≤ 12) (hh : 0 ≤ I 6 2 ∧ I 6 2 ≤ 6) (hl : ∀ x : Int32, 0 ≤ x → x < I 3 2 → 1 ≤ I 5 x.toNatClampNeg ∧ I 5 x.toNatClampNeg ≤ 24) (hc : 0 ≤ I 2 5 ∧ I 2 5 ≤ 8) (hR : ∀ f : Int32, 0 ≤ f → f < I 2 5 → R 39 f.toNatClampNeg = some (96 + 2 * f.toNatClampNeg)) (hF : ∀ f : Int32, 0 ≤ f → f < I 2 5 → okF z N I (96 + 2 * f.toNatClampNeg)) (hst : qStat (z, N, I, L, R)) (h0 : ¬ ((0 ≤ f ∧ f < I 2 5) ∧ ((0 ≤ s ∧ s < I 3 2) ∧ 0 ≤ l ∧ l < I 4 s.toNatClampNeg) ∧ 0 ≤ p ∧ p < I 5 s.toNatClampNeg) → Q (some (.int (-2))) (z, N, I, L, R)) (h1 : ((0 ≤ f ∧ f < I 2 5) ∧ ((0 ≤ s ∧ s < I 3 2) ∧ 0 ≤ l ∧ l < I 4 s.toNatClampNeg) ∧ 0 ≤ p ∧ p < I 5 s.toNatClampNeg) → ∀ e : Nat → Int32, (∀ p : Int32, 0 ≤ p → p < I 5 s.toNatClampNeg → e p.toNatClampNeg = fMy (tLd (I 8) (I 7) (I 6 2) s l p)) → Q (some (.int ((fCa (sLt (I (96 + 2 * f.toNatClampNeg) 1) (L ((96 + 2 * f.toNatClampNeg) + 1))) e (I 5 s.toNatClampNeg) (I (96 + 2 * f.toNatClampNeg) 1) (fun i => if i < 24 then -1 else I 42 i)) p.toNatClampNeg))) (z, N, qRow (q2 (qRow I 41 e) 40 2 (I 5 s.toNatClampNeg)) 42 (fCa (sLt (I (96 + 2 * f.toNatClampNeg) 1) (L ((96 + 2 * f.toNatClampNeg) + 1))) e (I 5 s.toNatClampNeg) (I (96 + 2 * f.toNatClampNeg) 1) (fun i => if i < 24 then -1 else I 42 i)), L, R)) : qWP (d + 7) 133 [.ref 2, .int s, .int l, .int p, .int f] (z, N, I, L, R) Q := by
  refine qWP_of m_X11_carried rfl rfl [(0, .ref 2), (1, .int s), (2, .int l), (3, .int p), (4, .int f)] rfl ?_
  refine qJ_run (qWP_mono _) [] 400 ?_
  refine ⟨⟨Nat.le_refl _, Nat.le_refl _⟩, ?_⟩
  refine c_X11_textsOf hc hR (fun e => ?_) (fun e1 e2 => ?_)
  · change Q (some (.int (-2))) (z, N, I, L, R)
    exact h0 (by clear h0 h1; grind)
  · obtain ⟨hk, hk1, hz, hlt, hsz, hN⟩ := hF f e1 e2
    have hge : 96 ≤ 96 + 2 * f.toNatClampNeg := by omega
    refine ⟨⟨Nat.le_refl _, Nat.le_refl _⟩, ?_⟩
    refine c_X6_hasPlace hs fun v2 hv2 => ?_
    refine ⟨fun (c1 : ¬ v2 = 0) => ?_, fun (c1 : v2 = 0) => ?_⟩
    · refine ⟨⟨Nat.le_refl _, Nat.le_refl _⟩, ?_⟩
      have hg : ((0 ≤ f ∧ f < I 2 5) ∧ (0 ≤ s ∧ s < I 3 2) ∧ 0 ≤ l ∧ l < I 4 s.toNatClampNeg) := by clear h0 h1; grind
      refine c_X11_layBare (d := d) hs hh hg.2.1 (hl s hg.2.1.1 hg.2.1.2) fun e he => ?_
      refine ⟨⟨Nat.le_refl _, Nat.le_refl _⟩, ?_⟩
      refine c_X7_carry (d := d + 1) (I := q2 (qRow I 41 e) 40 2 (I 5 s.toNatClampNeg)) hk hk1 hz hlt (by rw [mlb_h hge]; exact hsz) (by rw [mlb_h hge]; exact hN) (by simp (decide := true) only [q2_at]; have := hl s hg.2.1.1 hg.2.1.2; clear h0 h1; grind) hge hst ?_
      rw [mlb_h hge, q2_at, show (q2 (qRow I 41 e) 40 2 (I 5 s.toNatClampNeg)) 41 = e from by simp (decide := true) only [q2_ne, qRow_at], show (q2 (qRow I 41 e) 40 2 (I 5 s.toNatClampNeg)) 42 = I 42 from by simp (decide := true) only [q2_ne, qRow_ne]]
      refine ⟨⟨Nat.le_refl _, Nat.le_refl _⟩, ?_⟩
      refine c_X7_carriedAt (I := qRow (q2 (qRow I 41 e) 40 2 (I 5 s.toNatClampNeg)) 42 (fCa (sLt (I (96 + 2 * f.toNatClampNeg) 1) (L ((96 + 2 * f.toNatClampNeg) + 1))) e (I 5 s.toNatClampNeg) (I (96 + 2 * f.toNatClampNeg) 1) (fun i => if i < 24 then -1 else I 42 i))) (by simp (decide := true) only [qRow_ne, q2_at]; have := hl s hg.2.1.1 hg.2.1.2; clear h0 h1; grind) fun v5 hv5 => ?_
      replace hv5 : v5 = if 0 ≤ p ∧ p < I 5 s.toNatClampNeg ∧ p < 24 then (fCa (sLt (I (96 + 2 * f.toNatClampNeg) 1) (L ((96 + 2 * f.toNatClampNeg) + 1))) e (I 5 s.toNatClampNeg) (I (96 + 2 * f.toNatClampNeg) 1) (fun i => if i < 24 then -1 else I 42 i)) p.toNatClampNeg else -1 := by
        rw [hv5]
        simp (decide := true) only [qRow_ne, qRow_at, q2_at]
      change Q (some (.int v5)) (z, N, qRow (q2 (qRow I 41 e) 40 2 (I 5 s.toNatClampNeg)) 42 (fCa (sLt (I (96 + 2 * f.toNatClampNeg) 1) (L ((96 + 2 * f.toNatClampNeg) + 1))) e (I 5 s.toNatClampNeg) (I (96 + 2 * f.toNatClampNeg) 1) (fun i => if i < 24 then -1 else I 42 i)), L, R)
      have hp9 : 0 ≤ p ∧ p < I 5 s.toNatClampNeg ∧ p < 24 := by have := hl s hg.2.1.1 hg.2.1.2; clear h0 h1; grind
      obtain rfl : v5 = (fCa (sLt (I (96 + 2 * f.toNatClampNeg) 1) (L ((96 + 2 * f.toNatClampNeg) + 1))) e (I 5 s.toNatClampNeg) (I (96 + 2 * f.toNatClampNeg) 1) (fun i => if i < 24 then -1 else I 42 i)) p.toNatClampNeg := hv5.trans (if_pos hp9)
      exact h1 ⟨hg.1, hg.2, hp9.1, hp9.2.1⟩ e he
    · change Q (some (.int (-2))) (z, N, I, L, R)
      exact h0 (by clear h0 h1; grind)
