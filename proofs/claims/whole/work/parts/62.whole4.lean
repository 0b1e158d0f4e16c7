theorem q2_row_row {f : Nat → Nat → Int32} {a b j : Nat} {e e' : Nat → Int32} {v w : Int32} (h : a ≠ b) : q2 (qRow (q2 (qRow f a e) b j v) a e') b j w = q2 (qRow f a e') b j w := by
  rw [q2_row_q2 h]
  congr 1
  funext c k
  by_cases ha : c = a
  · subst ha; simp [qRow]
  · simp [qRow, ha]
theorem l_X11_whole {d z : Nat} {N : Nat → Nat} {I : Nat → Nat → Int32} {L : Nat → Nat → Int64} {R : Nat → Nat → Option Nat} {Q : qP} {s l f : Int32} (hs : 0 ≤ I 3 2 ∧ I 3 2 ≤ 12) (hh : 0 ≤ I 6 2 ∧ I 6 2 ≤ 6) (hl : ∀ x : Int32, 0 ≤ x → x < I 3 2 → 1 ≤ I 5 x.toNatClampNeg ∧ I 5 x.toNatClampNeg ≤ 24) (hc : 0 ≤ I 2 5 ∧ I 2 5 ≤ 8) (hR : ∀ f : Int32, 0 ≤ f → f < I 2 5 → R 39 f.toNatClampNeg = some (96 + 2 * f.toNatClampNeg)) (hF : ∀ f : Int32, 0 ≤ f → f < I 2 5 → okF z N I (96 + 2 * f.toNatClampNeg)) {rt : Nat → Int32} {r : Nat → Nat} (hr : ∀ x : Int32, 0 ≤ x → x < I 3 2 → 0 ≤ rt x.toNatClampNeg → rt x.toNatClampNeg < I 3 2 ∧ r x.toNatClampNeg = r (rt x.toNatClampNeg).toNatClampNeg + 1) (hr12 : ∀ x : Int32, 0 ≤ x → x < I 3 2 → r x.toNatClampNeg < 12) (hnb : ∀ x : Int32, 0 ≤ x → x < I 3 2 → I 45 (nX x 1) = rt x.toNatClampNeg ∧ -1 ≤ rt x.toNatClampNeg) {T : Int32 → Int32} {M : Int32 → Int32 → Int32} (hch : chP (I 3 2) rt (I 5) (fun s k => fMy (tLd (I 8) (I 7) (I 6 2) s l k)) T M) (hss : 0 ≤ s ∧ s < I 3 2) (hff : 0 ≤ f ∧ f < I 2 5) (h3 : 24 < T s → ∀ (e : Nat → Int32) (w : Int32), Q (some (.int 0)) (z, N, q2 (qRow I 41 e) 40 2 w, L, R)) (h4 : T s ≤ 24 → ∀ e : Nat → Int32, (∀ k : Int32, 0 ≤ k → k < T s → e k.toNatClampNeg = M s k) → Q (some (.int (upF (I (96 + 2 * f.toNatClampNeg) 1) (gCw (sLt (I (96 + 2 * f.toNatClampNeg) 1) (L (96 + 2 * f.toNatClampNeg + 1))) e (T s)) 0 0))) (z, N, q2 (qRow I 41 e) 40 2 (T s), L, R)) : ∀ (m : Nat) (c i w : Int32) (e : Nat → Int32), (c = -1 ∨ (0 ≤ c ∧ c < I 3 2 ∧ r c.toNatClampNeg < m)) → 0 ≤ i → i.toInt + m ≤ 12 → (0 ≤ w ∧ w ≤ 24) → w + T c = T s → (∀ k : Int32, 0 ≤ k → k < w → e k.toNatClampNeg = M s k) → (∀ k : Int32, 0 ≤ k → k < T c → M s (w + k) = M c k) → qJ m_X11_whole (qWP (d + 6)) Q 56 [(6, .int i), (5, .int c), (4, .ref (96 + 2 * f.toNatClampNeg)), (3, .int f), (2, .int l), (1, .int s), (0, .ref 2)] [] 0 0 (z, N, q2 (qRow I 41 e) 40 2 w, L, R) := by
  refine nat_ind fun m ih => ?_
  intro c i w e hcc hi hi2 hw hT he hM
  refine qJ_run (qWP_mono _) [56] 400 ?_
  refine ⟨fun (c1 : 12 ≤ i) => ?_, fun (c1 : ¬ 12 ≤ i) => ?_⟩
  · refine ⟨⟨Nat.le_refl _, Nat.le_refl _⟩, ?_⟩
    obtain ⟨hk, hk1, hz, hlt, hsz, hN⟩ := hF f hff.1 hff.2
    have hge : 96 ≤ (96 + 2 * f.toNatClampNeg) := by omega
    refine c_X7_countWays (d := d + 1) (I := q2 (qRow I 41 e) 40 2 w) hk hk1 hz hlt (by rw [mlb_h hge]; exact hsz) (by rw [mlb_h hge]; exact hN) (by simp (decide := true) only [q2_at]; exact hw) fun v1 hwv => ?_
    rw [mlb_h hge, q2_at, show (q2 (qRow I 41 e) 40 2 w) 41 = e from by simp (decide := true) only [q2_ne, qRow_at]] at hwv
    change Q (some (.int v1)) (z, N, q2 (qRow I 41 e) 40 2 w, L, R)
    have e0 : c = -1 := by
      refine Decidable.byContradiction fun h9 => ?_
      have hc2 := hcc.resolve_left h9
      have c12 : ¬ i < 12 ∨ c = -1 := by first | exact Or.inr (by assumption) | exact Or.inl (Int32.not_lt.mpr (by assumption))
      rcases c12 with c12 | c12
      · have := Int32.le_iff_toInt_le.mp (Int32.not_lt.mp c12)
        rw [show (12 : Int32).toInt = 12 from rfl] at this
        have := hc2.2.2
        omega
      · exact h9 c12
    rw [e0, hch.1 (-1) (by decide), Int32.add_zero] at hT
    subst hT
    rw [hwv]
    exact h4 hw.2 e he
  · refine ⟨fun (c2 : c = (-1)) => ?_, fun (c2 : ¬ c = (-1)) => ?_⟩
    · refine ⟨⟨Nat.le_refl _, Nat.le_refl _⟩, ?_⟩
      obtain ⟨hk, hk1, hz, hlt, hsz, hN⟩ := hF f hff.1 hff.2
      have hge : 96 ≤ (96 + 2 * f.toNatClampNeg) := by omega
      refine c_X7_countWays (d := d + 1) (I := q2 (qRow I 41 e) 40 2 w) hk hk1 hz hlt (by rw [mlb_h hge]; exact hsz) (by rw [mlb_h hge]; exact hN) (by simp (decide := true) only [q2_at]; exact hw) fun v2 hwv => ?_
      rw [mlb_h hge, q2_at, show (q2 (qRow I 41 e) 40 2 w) 41 = e from by simp (decide := true) only [q2_ne, qRow_at]] at hwv
      change Q (some (.int v2)) (z, N, q2 (qRow I 41 e) 40 2 w, L, R)
      have e0 : c = -1 := by
        refine Decidable.byContradiction fun h9 => ?_
        have hc2 := hcc.resolve_left h9
        have c12 : ¬ i < 12 ∨ c = -1 := by first | exact Or.inr (by assumption) | exact Or.inl (Int32.not_lt.mpr (by assumption))
        rcases c12 with c12 | c12
        · have := Int32.le_iff_toInt_le.mp (Int32.not_lt.mp c12)
          rw [show (12 : Int32).toInt = 12 from rfl] at this
          have := hc2.2.2
          omega
        · exact h9 c12
      rw [e0, hch.1 (-1) (by decide), Int32.add_zero] at hT
      subst hT
      rw [hwv]
      exact h4 hw.2 e he
    · refine ⟨⟨Nat.le_refl _, Nat.le_refl _⟩, ?_⟩
      have hc2 : 0 ≤ c ∧ c < I 3 2 ∧ r c.toNatClampNeg < m := hcc.resolve_left (by assumption)
      refine c_X11_layBareMore (d := d + 1) (I := q2 (qRow I 41 e) 40 2 w) hs hh (by simp (decide := true) only [q2_at]; exact hw) ⟨hc2.1, hc2.2.1⟩ (hl c hc2.1 hc2.2.1) fun v3 hb => ?_
      rw [show (q2 (qRow I 41 e) 40 2 w) 41 = e from by simp (decide := true) only [q2_ne, qRow_at], q2_at] at *
      simp (decide := true) only [q2_ne, qRow_ne] at hb
      rw [q2_row_row (by decide)]
      refine ⟨fun (c3 : ¬ v3 = 0) => ?_, fun (c3 : v3 = 0) => ?_⟩
      · refine ⟨⟨Nat.le_refl _, Nat.le_refl _⟩, ?_⟩
        have hc3 : 0 ≤ c ∧ c < 12 := ⟨hc2.1, Int32.lt_of_lt_of_le hc2.2.1 hs.2⟩
        refine c_X1_neighbour (I := q2 (qRow I 41 (fLb (fun p => fMy (tLd (I 8) (I 7) (I 6 2) c l p)) (I 5 c.toNatClampNeg) w e).2.2) 40 2 (fLb (fun p => fMy (tLd (I 8) (I 7) (I 6 2) c l p)) (I 5 c.toNatClampNeg) w e).2.1) fun v4 hv9 => ?_
        replace hv9 : v4 = rt c.toNatClampNeg := hv9.trans ((if_pos (nX_n hc3 (Or.inr rfl)).2.1).trans (by simp (decide := true) only [q2_ne, qRow_ne]; exact (hnb c hc2.1 hc2.2.1).1))
        obtain ⟨q, rfl⟩ : ∃ q, m = q + 1 := ⟨m - 1, by omega⟩
        have g := hch.2.1 c hc2.1 hc2.2.1
        have gm := fun k => hch.2.2 c k hc2.1 hc2.2.1
        have hnn := hl c hc2.1 hc2.2.1
        have hn9 : 0 ≤ I 5 c.toNatClampNeg ∧ I 5 c.toNatClampNeg ≤ 24 := ⟨Int32.le_trans (by decide) hnn.1, hnn.2⟩
        have h24 : w + I 5 c.toNatClampNeg ≤ 24 := by
          refine Decidable.byContradiction fun h9 => ?_
          exact absurd (hb.trans (fLb_f hn9 hw (Int32.not_le.mp h9))) (by assumption)
        obtain ⟨f1, f2, f3, f4⟩ := fLb_0 (mf := (fun p => fMy (tLd (I 8) (I 7) (I 6 2) c l p))) (e := e) hn9 hw h24
        have hr9 := hnb c hc2.1 hc2.2.1
        rw [f2, hv9]
        have i12 : i < 12 := Int32.not_le.mp (by assumption)
        have i13 : (i + 1).toInt = i.toInt + 1 := by
          have a0 := i0 hi
          rw [ti_add (by rw [show (1 : Int32).toInt = 1 from rfl]; omega)]; rfl
        have hrt : rt c.toNatClampNeg = -1 ∨ (0 ≤ rt c.toNatClampNeg ∧ rt c.toNatClampNeg < I 3 2 ∧ r (rt c.toNatClampNeg).toNatClampNeg < q) := by
          by_cases h9 : 0 ≤ rt c.toNatClampNeg
          · exact Or.inr ⟨h9, (hr c hc2.1 hc2.2.1 h9).1, by have := (hr c hc2.1 hc2.2.1 h9).2; have := hc2.2.2; omega⟩
          · exact Or.inl (by have := hr9.2; clear ih h3 h4 hch hr hr12 hnb hl hF hR he hM f3 f4 hb gm; grind)
        clear hb
        generalize (fLb (fun p => fMy (tLd (I 8) (I 7) (I 6 2) c l p)) (I 5 c.toNatClampNeg) w e) = F at *
        generalize rt c.toNatClampNeg = x at *
        refine ih q rfl x (i + 1) _ F.2.2 hrt (by clear ih h3 h4 hch hr hr12 hnb hl hF hR he hM f3 f4 gm; grind) (by rw [i13]; omega) (by clear ih h3 h4 hch hr hr12 hnb hl hF hR he hM f3 f4 gm; grind) (by rw [← hT, g.1, Int32.add_assoc]) (fun k k0 k1 => ?_) (fun k k0 k1 => ?_)
        · by_cases h9 : k < w
          · rw [f4 k k0 h9, he k k0 h9]
          · have e1 : w + (k - w) = k := by clear ih h3 h4 hch hr hr12 hnb hl hF hR he hM f3 f4 gm; grind
            have e2 : 0 ≤ k - w ∧ k - w < I 5 c.toNatClampNeg := by clear ih h3 h4 hch hr hr12 hnb hl hF hR he hM f3 f4 gm; grind
            have h8 := f3 (k - w) e2.1 e2.2
            have h7 := hM (k - w) e2.1 (by rw [g.1]; clear ih h3 h4 hch hr hr12 hnb hl hF hR he hM f3 f4 gm; grind)
            rw [e1] at h8 h7
            rw [h8, h7, (gm (k - w)).1 e2.2]
        · have h7 := hM (I 5 c.toNatClampNeg + k) (by clear ih h3 h4 hch hr hr12 hnb hl hF hR he hM f3 f4 gm; grind) (by rw [g.1]; clear ih h3 h4 hch hr hr12 hnb hl hF hR he hM f3 f4 gm; grind)
          rw [← Int32.add_assoc] at h7
          rw [h7, (gm (I 5 c.toNatClampNeg + k)).2 (by clear ih h3 h4 hch hr hr12 hnb hl hF hR he hM f3 f4 gm; grind)]
          congr 1
          clear ih h3 h4 hch hr hr12 hnb hl hF hR he hM f3 f4 gm; grind
      · change Q (some (.int 0)) (z, N, q2 (qRow I 41 (fLb (fun p => fMy (tLd (I 8) (I 7) (I 6 2) c l p)) (I 5 c.toNatClampNeg) w e).2.2) 40 2 (fLb (fun p => fMy (tLd (I 8) (I 7) (I 6 2) c l p)) (I 5 c.toNatClampNeg) w e).2.1, L, R)
        have hc2 : 0 ≤ c ∧ c < I 3 2 ∧ r c.toNatClampNeg < m := hcc.resolve_left (by assumption)
        have g := hch.2.1 c hc2.1 hc2.2.1
        have h24 : 24 < T s := by
          rw [← hT, g.1]
          have h8 : 24 < w + I 5 c.toNatClampNeg := by
            refine Decidable.byContradiction fun h9 => ?_
            have h7 := (fLb_0 (mf := (fun p => fMy (tLd (I 8) (I 7) (I 6 2) c l p))) (e := e) ⟨by have := hl c hc2.1 hc2.2.1; clear ih h3 h4 hch hr hr12 hnb hl hF hR; grind, (hl c hc2.1 hc2.2.1).2⟩ hw (Int32.not_lt.mp h9)).1
            have h6 : (fLb (fun p => fMy (tLd (I 8) (I 7) (I 6 2) c l p)) (I 5 c.toNatClampNeg) w e).1 = 0 := hb.symm.trans (by assumption)
            exact absurd (h7.symm.trans h6) (by decide)
          have := hl c hc2.1 hc2.2.1
          clear ih h3 h4 hch hr hr12 hnb hl hF hR; grind
        exact h3 h24 _ _
