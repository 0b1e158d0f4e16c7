theorem q2_row_row {f : Nat → Nat → Int32} {a b j : Nat} {e e' : Nat → Int32} {v w : Int32} (h : a ≠ b) : q2 (qRow (q2 (qRow f a e) b j v) a e') b j w = q2 (qRow f a e') b j w := by
  rw [q2_row_q2 h]
  congr 1
  funext c k
  by_cases ha : c = a
  · subst ha; simp [qRow]
  · simp [qRow, ha]
theorem l_X11_whole {d z : Nat} {N : Nat → Nat} {I : Nat → Nat → Int32} {L : Nat → Nat → Int64} {R : Nat → Nat → Option Nat} {Q : qP} {s l f : Int32} (hs : 0 ≤ I 3 2 ∧ I 3 2 ≤ 12) (hh : 0 ≤ I 6 2 ∧ I 6 2 ≤ 6) (hl : ∀ x : Int32, 0 ≤ x → x < I 3 2 → 1 ≤ I 5 x.toNatClampNeg ∧ I 5 x.toNatClampNeg ≤ 24) (hc : 0 ≤ I 2 5 ∧ I 2 5 ≤ 8) (hR : ∀ f : Int32, 0 ≤ f → f < I 2 5 → R 39 f.toNatClampNeg = some (96 + 2 * f.toNatClampNeg)) (hF : ∀ f : Int32, 0 ≤ f → f < I 2 5 → okF z N I (96 + 2 * f.toNatClampNeg)) {rt : Nat → Int32} {r : Nat → Nat} (hr : ∀ x : Int32, 0 ≤ x → x < I 3 2 → 0 ≤ rt x.toNatClampNeg → rt x.toNatClampNeg < I 3 2 ∧ r x.toNatClampNeg = r (rt x.toNatClampNeg).toNatClampNeg + 1) (hr12 : ∀ x : Int32, 0 ≤ x → x < I 3 2 → r x.toNatClampNeg < 12) (hnb : ∀ x : Int32, 0 ≤ x → x < I 3 2 → I 45 (nX x 1) = rt x.toNatClampNeg ∧ -1 ≤ rt x.toNatClampNeg) {T : Int32 → Int32} {M : Int32 → Int32 → Int32} (hch : chP (I 3 2) rt (I 5) (fun s k => fMy (tLd (I 8) (I 7) (I 6 2) s l k)) T M) (hss : 0 ≤ s ∧ s < I 3 2) (hff : 0 ≤ f ∧ f < I 2 5) (h3 : 24 < T s → ∀ (e : Nat → Int32) (w : Int32), Q (some (.int 0)) (z, N, q2 (qRow I 41 e) 40 2 w, L, R)) (h4 : T s ≤ 24 → ∀ e : Nat → Int32, (∀ k : Int32, 0 ≤ k → k < T s → e k.toNatClampNeg = M s k) → Q (some (.int (upF (I (96 + 2 * f.toNatClampNeg) 1) (gCw (sLt (I (96 + 2 * f.toNatClampNeg) 1) (L (96 + 2 * f.toNatClampNeg + 1))) e (T s)) 0 0))) (z, N, q2 (qRow I 41 e) 40 2 (T s), L, R)) : ∀ (m : Nat) (c i w : Int32) (e : Nat → Int32), (c = -1 ∨ (0 ≤ c ∧ c < I 3 2 ∧ r c.toNatClampNeg < m)) → 0 ≤ i → i.toInt + m ≤ 12 → (0 ≤ w ∧ w ≤ 24) → w + T c = T s → (∀ k : Int32, 0 ≤ k → k < w → e k.toNatClampNeg = M s k) → (∀ k : Int32, 0 ≤ k → k < T c → M s (w + k) = M c k) → qJ m_X11_whole (qWP (d + 6)) Q 56 [(6, .int i), (5, .int c), (4, .ref (96 + 2 * f.toNatClampNeg)), (3, .int f), (2, .int l), (1, .int s), (0, .ref 2)] [] 0 0 (z, N, q2 (qRow I 41 e) 40 2 w, L, R) := by
  refine nat_ind fun m ih => ?_
  intro c i w e hcc hi hi2 hw hT he hM
  refine qJ_run (qWP_mono _) [56] 400 ?_
  refine ⟨fun (c1 : 12 ≤ i) => ?_, fun (c1 : ¬ 12 ≤ i) => ?_⟩
  · refine ⟨⟨Nat.le_refl _, Nat.le_refl _⟩, ?_⟩
    obtain ⟨hk, hk1, hz, hlt, hsz, hN⟩ := hF f hff.1 hff.2
    have hge : 96 ≤ (96 + 2 * f.toNatClampNeg) := by omega
    refine c_X7_countWays (d := d + 1) (I := q2 (qRow I 41 e) 40 2 w) hk hk1 hz hlt (by rw [mlb_h hge]; exact hsz) (by rw [mlb_h hge]; exact hN) (by simp (decide := true) only [q2_at]; exact hw) fun v1 hwv => ?_
    rw [mlb_h hge, q2_at, show (q2 (qRow I 41 e) 40 2 w) 41 = e from by simp (decide := true) only [q2_ne, qRow_at]] at hwv
    change Q (some (.int v1)) (z, N, q2 (qRow I 41 e) 40 2 w, L, R)
    have e0 : c = -1 := by
      refine Decidable.byContradiction fun h9 => ?_
      have hc2 := hcc.resolve_left h9
      have c12 : ¬ i < 12 ∨ c = -1 := by first | exact Or.inr (by assumption) | exact Or.inl (Int32.not_lt.mpr (by assumption))
      rcases c12 with c12 | c12
      · have := Int32.le_iff_toInt_le.mp (Int32.not_lt.mp c12)
        rw [show (12 : Int32).toInt = 12 from rfl] at this
        have := hc2.2.2
        omega
      · exact h9 c12
    rw [e0, hch.1 (-1) (by decide), Int32.add_zero] at hT
    subst hT
    rw [hwv]
    exact h4 hw.2 e he
  · refine ⟨fun (c2 : c = (-1)) => ?_, fun (c2 : ¬ c = (-1)) => ?_⟩
    · refine ⟨⟨Nat.le_refl _, Nat.le_refl _⟩, ?_⟩
      obtain ⟨hk, hk1, hz, hlt, hsz, hN⟩ := hF f hff.1 hff.2
      have hge : 96 ≤ (96 + 2 * f.toNatClampNeg) := by omega
      refine c_X7_countWays (d := d + 1) (I := q2 (qRow I 41 e) 40 2 w) hk hk1 hz hlt (by rw [mlb_h hge]; exact hsz) (by rw [mlb_h hge]; exact hN) (by simp (decide := true) only [q2_at]; exact hw) fun v2 hwv => ?_
      rw [mlb_h hge, q2_at, show (q2 (qRow I 41 e) 40 2 w) 41 = e from by simp (decide := true) only [q2_ne, qRow_at]] at hwv
      change Q (some (.int v2)) (z, N, q2 (qRow I 41 e) 40 2 w, L, R)
      have e0 : c = -1 := by
        refine Decidable.byContradiction fun h9 => ?_
        have hc2 := hcc.resolve_left h9
        have c12 : ¬ i < 12 ∨ c = -1 := by first | exact Or.inr (by assumption) | exact Or.inl (Int32.not_lt.mpr (by assumption))
        rcases c12 with c12 | c12
        · have := Int32.le_iff_toInt_le.mp (Int32.not_lt.mp c12)
          rw [show (12 : Int32).toInt = 12 from rfl] at this
          have := hc2.2.2
          omega
        · exact h9 c12
      rw [e0, hch.1 (-1) (by decide), Int32.add_zero] at hT
      subst hT
      rw [hwv]
      exact h4 hw.2 e he
    · refine ⟨⟨Nat.le_refl _, Nat.le_refl _⟩, ?_⟩
      have hc2 : 0 ≤ c ∧ c < I 3 2 ∧ r c.toNatClampNeg < m := hcc.resolve_left (by assumption)
      refine c_X11_layBareMore (d := d + 1) (I := q2 (qRow I 41 e) 40 2 w) hs hh (by simp (decide := true) only [q2_at]; exact hw) ⟨hc2.1, hc2.2.1⟩ (hl c hc2.1 hc2.2.1) fun v3 hb => ?_
      rw [show (q2 (qRow I 41 e) 40 2 w) 41 = e from by simp (decide := true) only [q2_ne, qRow_at], q2_at] at *
      simp (decide := true) only [q2_ne, qRow_ne] at hb
      rw [q2_row_row (by decide)]
      refine ⟨fun (c3 : ¬ v3 = 0) => ?_, fun (c3 : v3 = 0) => ?_⟩
      · refine ⟨⟨Nat.le_refl _, Nat.le_refl _⟩, ?_⟩
        have hc3 : 0 ≤ c ∧ c < 12 := ⟨hc2.1, Int32.lt_of_lt_of_le hc2.2.1 hs.2⟩
        refine c_X1_neighbour (I := q2 (qRow I 41 (fLb (fun p => fMy (tLd (I 8) (I 7) (I 6 2) c l p)) (I 5 c.toNatClampNeg) w e).2.2) 40 2 (fLb (fun p => fMy (tLd (I 8) (I 7) (I 6 2) c l p)) (I 5 c.toNatClampNeg) w e).2.1) fun v4 hv9 => ?_
        replace hv9 : v4 = rt c.toNatClampNeg := hv9.trans ((if_pos (nX_n hc3 (Or.inr rfl)).2.1).trans (by simp (decide := true) only [q2_ne, qRow_ne]; exact (hnb c hc2.1 hc2.2.1).1))
        obtain ⟨q, rfl⟩ : ∃ q, m = q + 1 := ⟨m - 1, by omega⟩
        have g := hch.2.1 c hc2.1 hc2.2.1
        have gm := fun k => hch.2.2 c k hc2.1 hc2.2.1
        have hnn := hl c hc2.1 hc2.2.1
        have hn9 : 0 ≤ I 5 c.toNatClampNeg ∧ I 5 c.toNatClampNeg ≤ 24 := ⟨Int32.le_trans (by decide) hnn.1, hnn.2⟩
        have h24 : w + I 5 c.toNatClampNeg ≤ 24 := by
          refine Decidable.byContradiction fun h9 => ?_
          exact absurd (hb.trans (fLb_f hn9 hw (Int32.not_le.mp h9))) (by assumption)
        obtain ⟨f1, f2, f3, f4⟩ := fLb_0 (mf := (fun p => fMy (tLd (I 8) (I 7) (I 6 2) c l p))) (e := e) hn9 hw h24
        have hr9 := hnb c hc2.1 hc2.2.1
        rw [f2, hv9]
        have i12 : i < 12 := Int32.not_le.mp (by assumption)
        have i13 : (i + 1).toInt = i.toInt + 1 := by
          have a0 := i0 hi
          rw [ti_add (by rw [show (1 : Int32).toInt = 1 from rfl]; omega)]; rfl
        have hrt : rt c.toNatClampNeg = -1 ∨ (0 ≤ rt c.toNatClampNeg ∧ rt c.toNatClampNeg < I 3 2 ∧ r (rt c.toNatClampNeg).toNatClampNeg < q) := by
          by_cases h9 : 0 ≤ rt c.toNatClampNeg
          · exact Or.inr ⟨h9, (hr c hc2.1 hc2.2.1 h9).1, by have := (hr c hc2.1 hc2.2.1 h9).2; have := hc2.2.2; omega⟩
          · exact Or.inl (by have := hr9.2; clear ih h3 h4 hch hr hr12 hnb hl hF hR he hM f3 f4 hb gm; grind)
        clear hb
        generalize (fLb (fun p => fMy (tLd (I 8) (I 7) (I 6 2) c l p)) (I 5 c.toNatClampNeg) w e) = F at *
        generalize rt c.toNatClampNeg = x at *
        refine ih q rfl x (i + 1) _ F.2.2 hrt (by clear ih h3 h4 hch hr hr12 hnb hl hF hR he hM f3 f4 gm; grind) (by rw [i13]; omega) (by clear ih h3 h4 hch hr hr12 hnb hl hF hR he hM f3 f4 gm; grind) (by rw [← hT, g.1, Int32.add_assoc]) (fun k k0 k1 => ?_) (fun k k0 k1 => ?_)
        · by_cases h9 : k < w
          · rw [f4 k k0 h9, he k k0 h9]
          · have e1 : w + (k - w) = k := by clear ih h3 h4 hch hr hr12 hnb hl hF hR he hM f3 f4 gm; grind
            have e2 : 0 ≤ k - w ∧ k - w < I 5 c.toNatClampNeg := by clear ih h3 h4 hch hr hr12 hnb hl hF hR he hM f3 f4 gm; grind
            have h8 := f3 (k - w) e2.1 e2.2
            have h7 := hM (k - w) e2.1 (by rw [g.1]; clear ih h3 h4 hch hr hr12 hnb hl hF hR he hM f3 f4 gm; grind)
            rw [e1] at h8 h7
            rw [h8, h7, (gm (k - w)).1 e2.2]
        · have h7 := hM (I 5 c.toNatClampNeg + k) (by clear ih h3 h4 hch hr hr12 hnb hl hF hR he hM f3 f4 gm; grind) (by rw [g.1]; clear ih h3 h4 hch hr hr12 hnb hl hF hR he hM f3 f4 gm; grind)
          rw [← Int32.add_assoc] at h7
          rw [h7, (gm (I 5 c.toNatClampNeg + k)).2 (by clear ih h3 h4 hch hr hr12 hnb hl hF hR he hM f3 f4 gm; grind)]
          congr 1
          clear ih h3 h4 hch hr hr12 hnb hl hF hR he hM f3 f4 gm; grind
      · change Q (some (.int 0)) (z, N, q2 (qRow I 41 (fLb (fun p => fMy (tLd (I 8) (I 7) (I 6 2) c l p)) (I 5 c.toNatClampNeg) w e).2.2) 40 2 (fLb (fun p => fMy (tLd (I 8) (I 7) (I 6 2) c l p)) (I 5 c.toNatClampNeg) w e).2.1, L, R)
        have hc2 : 0 ≤ c ∧ c < I 3 2 ∧ r c.toNatClampNeg < m := hcc.resolve_left (by assumption)
        have g := hch.2.1 c hc2.1 hc2.2.1
        have h24 : 24 < T s := by
          rw [← hT, g.1]
          have h8 : 24 < w + I 5 c.toNatClampNeg := by
            refine Decidable.byContradiction fun h9 => ?_
            have h7 := (fLb_0 (mf := (fun p => fMy (tLd (I 8) (I 7) (I 6 2) c l p))) (e := e) ⟨by have := hl c hc2.1 hc2.2.1; clear ih h3 h4 hch hr hr12 hnb hl hF hR; grind, (hl c hc2.1 hc2.2.1).2⟩ hw (Int32.not_lt.mp h9)).1
            have h6 : (fLb (fun p => fMy (tLd (I 8) (I 7) (I 6 2) c l p)) (I 5 c.toNatClampNeg) w e).1 = 0 := hb.symm.trans (by assumption)
            exact absurd (h7.symm.trans h6) (by decide)
          have := hl c hc2.1 hc2.2.1
          clear ih h3 h4 hch hr hr12 hnb hl hF hR; grind
        exact h3 h24 _ _
theorem c_X11_whole {d z : Nat} {N : Nat → Nat} {I : Nat → Nat → Int32} {L : Nat → Nat → Int64} {R : Nat → Nat → Option Nat} {Q : qP} {s : Int32} {l : Int32} {f : Int32} (hs : 0 ≤ I 3 2 ∧ I 3 2 ≤ 12) (hh : 0 ≤ I 6 2 ∧ I 6 2 ≤ 6) (hl : ∀ x : Int32, 0 ≤ x → x < I 3 2 → 1 ≤ I 5 x.toNatClampNeg ∧ I 5 x.toNatClampNeg ≤ 24) (hc : 0 ≤ I 2 5 ∧ I 2 5 ≤ 8) (hR : ∀ f : Int32, 0 ≤ f → f < I 2 5 → R 39 f.toNatClampNeg = some (96 + 2 * f.toNatClampNeg)) (hF : ∀ f : Int32, 0 ≤ f → f < I 2 5 → okF z N I (96 + 2 * f.toNatClampNeg)) {rt : Nat → Int32} {r : Nat → Nat} (hr : ∀ x : Int32, 0 ≤ x → x < I 3 2 → 0 ≤ rt x.toNatClampNeg → rt x.toNatClampNeg < I 3 2 ∧ r x.toNatClampNeg = r (rt x.toNatClampNeg).toNatClampNeg + 1) (hr12 : ∀ x : Int32, 0 ≤ x → x < I 3 2 → r x.toNatClampNeg < 12) (hnb : ∀ x : Int32, 0 ≤ x → x < I 3 2 → I 45 (nX x 1) = rt x.toNatClampNeg ∧ -1 ≤ rt x.toNatClampNeg) {T : Int32 → Int32} {M : Int32 → Int32 → Int32} (hch : chP (I 3 2) rt (I 5) (fun s k => fMy (tLd (I 8) (I 7) (I 6 2) s l k)) T M) (h1 : ¬ ((0 ≤ f ∧ f < I 2 5) ∧ (0 ≤ s ∧ s < I 3 2) ∧ 0 ≤ l ∧ l < I 4 s.toNatClampNeg) → Q (some (.int (-2))) (z, N, I, L, R)) (h2 : ((0 ≤ f ∧ f < I 2 5) ∧ (0 ≤ s ∧ s < I 3 2) ∧ 0 ≤ l ∧ l < I 4 s.toNatClampNeg) → ¬ (I 45 (nX s 0)) = -1 → Q (some (.int (-3))) (z, N, I, L, R)) (h3 : ((0 ≤ f ∧ f < I 2 5) ∧ (0 ≤ s ∧ s < I 3 2) ∧ 0 ≤ l ∧ l < I 4 s.toNatClampNeg) → (I 45 (nX s 0)) = -1 → 24 < T s → ∀ (e : Nat → Int32) (w : Int32), Q (some (.int 0)) (z, N, q2 (qRow I 41 e) 40 2 w, L, R)) (h4 : ((0 ≤ f ∧ f < I 2 5) ∧ (0 ≤ s ∧ s < I 3 2) ∧ 0 ≤ l ∧ l < I 4 s.toNatClampNeg) → (I 45 (nX s 0)) = -1 → T s ≤ 24 → ∀ e : Nat → Int32, (∀ k : Int32, 0 ≤ k → k < T s → e k.toNatClampNeg = M s k) → Q (some (.int (upF (I (96 + 2 * f.toNatClampNeg) 1) (gCw (sLt (I (96 + 2 * f.toNatClampNeg) 1) (L (96 + 2 * f.toNatClampNeg + 1))) e (T s)) 0 0))) (z, N, q2 (qRow I 41 e) 40 2 (T s), L, R)) : qWP (d + 7) 145 [.ref 2, .int s, .int l, .int f] (z, N, I, L, R) Q := by
  refine qWP_of m_X11_whole rfl rfl [(0, .ref 2), (1, .int s), (2, .int l), (3, .int f)] rfl ?_
  refine qJ_run (qWP_mono _) [56] 400 ?_
  refine ⟨⟨Nat.le_refl _, Nat.le_refl _⟩, ?_⟩
  refine c_X11_textsOf hc hR (fun e => ?_) (fun e1 e2 => ?_)
  · change Q (some (.int (-2))) (z, N, I, L, R)
    exact h1 (by clear h1 h2 h3 h4 hch hr hr12 hnb hl hF hR; grind)
  · obtain ⟨hk, hk1, hz, hlt, hsz, hN⟩ := hF f e1 e2
    have hge : 96 ≤ 96 + 2 * f.toNatClampNeg := by omega
    refine ⟨⟨Nat.le_refl _, Nat.le_refl _⟩, ?_⟩
    refine c_X6_hasLine hs fun v2 hv2 => ?_
    refine ⟨fun (c1 : ¬ v2 = 0) => ?_, fun (c1 : v2 = 0) => ?_⟩
    · refine ⟨⟨Nat.le_refl _, Nat.le_refl _⟩, ?_⟩
      have hs12 : 0 ≤ s ∧ s < 12 := by clear h1 h2 h3 h4 hch hr hr12 hnb hl hF hR; grind
      refine c_X1_neighbour fun v3 hv9 => ?_
      replace hv9 : v3 = (I 45 (nX s 0)) := hv9.trans (if_pos (nX_n hs12 (Or.inl rfl)).2.1)
      refine ⟨fun (c2 : v3 = (-1)) => ?_, fun (c2 : ¬ v3 = (-1)) => ?_⟩
      · refine ⟨⟨Nat.le_refl _, Nat.le_refl _⟩, ?_⟩
        refine c_X7_clear ?_
        refine qJ_nm (qWP_mono _) [] [(6, .int 0), (5, .int s), (4, .ref (96 + 2 * f.toNatClampNeg)), (3, .int f), (2, .int l), (1, .int s), (0, .ref 2)] rfl rfl rfl ?_
        have hg : ((0 ≤ f ∧ f < I 2 5) ∧ (0 ≤ s ∧ s < I 3 2) ∧ 0 ≤ l ∧ l < I 4 s.toNatClampNeg) := by clear h1 h2 h3 h4 hch hr hr12 hnb hl hF hR; grind
        have hn1 : (I 45 (nX s 0)) = -1 := by clear h1 h2 h3 h4 hch hr hr12 hnb hl hF hR; grind
        refine qJ_M (M2 := (z, N, q2 (qRow I 41 (I 41)) 40 2 0, L, R)) (by rw [qRow_self]) ?_
        refine l_X11_whole (d := d) hs hh hl hc hR hF hr hr12 hnb hch hg.2.1 hg.1 (h3 hg hn1) (h4 hg hn1) 12 s 0 0 (I 41) (Or.inr ⟨hg.2.1.1, hg.2.1.2, hr12 s hg.2.1.1 hg.2.1.2⟩) (by decide) (by decide) (by decide) (Int32.zero_add _) (fun k k0 k1 => absurd k0 (Int32.not_le.mpr k1)) (fun k k0 k1 => by rw [Int32.zero_add])
      · change Q (some (.int (-3))) (z, N, I, L, R)
        exact h2 (by clear h1 h2 h3 h4 hch hr hr12 hnb hl hF hR; grind) (by clear h1 h2 h3 h4 hch hr hr12 hnb hl hF hR; grind)
    · change Q (some (.int (-2))) (z, N, I, L, R)
      exact h1 (by clear h1 h2 h3 h4 hch hr hr12 hnb hl hF hR; grind)
theorem op_whole {M : qM} (hI : qInv M) (s : Int32) (l : Int32) (f : Int32) : qOp 145 217 [.int s, .int l, .int f] M := by
  obtain ⟨z, N, I, L, R⟩ := M
  obtain ⟨hst, hSt, hHa, hTo, hTp, hEd, hDa, hPe, hTr, hTx, hMk, hKA⟩ := hI
  dsimp only at hst hSt hHa hTo hTp hEd hDa hPe hTr hTx hMk hKA
  have hs : 0 ≤ I 3 2 ∧ I 3 2 ≤ 12 := ⟨hSt.2.1, hSt.2.2.1⟩
  have hs2 : 0 ≤ I 65 0 ∧ I 65 0 ≤ 12 := by rw [hSt.1]; exact hs
  have hn : 0 ≤ I 9 1 ∧ I 9 1 ≤ 200 := ⟨hTp.2.1, hTp.2.2.1⟩
  have hn2 : 0 ≤ I 65 6 ∧ I 65 6 ≤ 200 := by rw [hTp.1]; exact hn
  have hh : 0 ≤ I 6 2 ∧ I 6 2 ≤ 6 := ⟨hHa.2.1, hHa.2.2.1⟩
  have hh2 : 0 ≤ I 65 1 ∧ I 65 1 ≤ 6 := by rw [hHa.1]; exact hh
  have hl3 : ∀ x : Int32, 0 ≤ x → x < I 3 2 → (1 ≤ I 4 x.toNatClampNeg ∧ I 4 x.toNatClampNeg ≤ 4) ∧ 1 ≤ I 5 x.toNatClampNeg ∧ I 5 x.toNatClampNeg ≤ 24 := fun x a b => ⟨⟨(hSt.2.2.2 x a b).2.1, (hSt.2.2.2 x a b).2.2.1⟩, (hSt.2.2.2 x a b).2.2.2.2.1, (hSt.2.2.2 x a b).2.2.2.2.2⟩
  have hl4 : ∀ x : Int32, 0 ≤ x → x < I 65 0 → (1 ≤ I 66 x.toNatClampNeg ∧ I 66 x.toNatClampNeg ≤ 4) ∧ 1 ≤ I 67 x.toNatClampNeg ∧ I 67 x.toNatClampNeg ≤ 24 := fun x a b => by
    rw [hSt.1] at b
    rw [(hSt.2.2.2 x a b).1, (hSt.2.2.2 x a b).2.2.2.1]
    exact hl3 x a b
  have e2 : I 65 2 = I 2 5 := hTx.1
  obtain ⟨hc, hR, hF, hm1, ht1⟩ := rtx_F hTx
  have hc2 : 0 ≤ I 65 2 ∧ I 65 2 ≤ 8 := by rw [e2]; exact hc
  have hm : ∀ f : Int32, 0 ≤ f → f < I 65 2 → 0 ≤ I 76 f.toNatClampNeg ∧ I 76 f.toNatClampNeg ≤ 200 := fun f a b => (hm1 f a (by rw [← e2]; exact b)).2
  have hz : ∀ f i : Int32, 0 ≤ f → f < I 65 2 → 0 ≤ i → i < I 76 f.toNatClampNeg → 0 ≤ I 75 (200 * f + i).toNatClampNeg ∧ I 75 (200 * f + i).toNatClampNeg ≤ 24 := fun f i a b c d => txt_sz (ht1 f i a (by rw [← e2]; exact b) c d)
  have hl5 : ∀ x : Int32, 0 ≤ x → x < I 3 2 → 1 ≤ I 5 x.toNatClampNeg ∧ I 5 x.toNatClampNeg ≤ 24 := fun x a b => (hl3 x a b).2
  have hGL := line_eq hSt (s := s) (k := l)
  have hGR : (((0 ≤ s ∧ s < I 65 0) ∧ 0 ≤ l ∧ l < I 66 s.toNatClampNeg) ∧ 0 ≤ f ∧ f < I 65 2) ↔ ((0 ≤ f ∧ f < I 2 5) ∧ (0 ≤ s ∧ s < I 3 2) ∧ 0 ≤ l ∧ l < I 4 s.toNatClampNeg) := by
    rw [e2]
    constructor
    · rintro ⟨p2, p1⟩; exact ⟨p1, (hGL.mp p2).1, (hGL.mp p2).2⟩
    · rintro ⟨p1, p2, p3⟩; exact ⟨hGL.mpr ⟨p2, p3⟩, p1⟩
  obtain ⟨r, hr0⟩ := chain12 hEd hs
  have hnb : ∀ x : Int32, 0 ≤ x → x < I 3 2 → I 45 (nX x 1) = I 78 x.toNatClampNeg ∧ -1 ≤ I 78 x.toNatClampNeg := fun x a b => ⟨(ed_nb hEd hs.2 a b).2, (hEd.2.2.2.2.1 x a b).2.2.2.2.1⟩
  have hr12 : ∀ x : Int32, 0 ≤ x → x < I 3 2 → r x.toNatClampNeg < 12 := fun x a b => (hr0 x a b).1
  have hr : ∀ x : Int32, 0 ≤ x → x < I 3 2 → 0 ≤ I 78 x.toNatClampNeg → I 78 x.toNatClampNeg < I 3 2 ∧ r x.toNatClampNeg = r (I 78 x.toNatClampNeg).toNatClampNeg + 1 := fun x a b c => ⟨(hEd.2.2.2.2.1 x a b).2.2.2.2.2.1, (hr0 x a b).2 c⟩
  obtain ⟨T, M, hch⟩ := chTM (n := I 5) (fun s k => fMy (tLd (I 8) (I 7) (I 6 2) s l k)) hr hr12 hl5
  replace hch : chP (I 3 2) (I 78) (I 5) (fun s k => fMy (tLd (I 8) (I 7) (I 6 2) s l k)) T M := hch
  have hr12R : ∀ x : Int32, 0 ≤ x → x < I 65 0 → r x.toNatClampNeg < 12 := by rw [hSt.1]; exact hr12
  have hrR : ∀ x : Int32, 0 ≤ x → x < I 65 0 → 0 ≤ I 78 x.toNatClampNeg → I 78 x.toNatClampNeg < I 65 0 ∧ r x.toNatClampNeg = r (I 78 x.toNatClampNeg).toNatClampNeg + 1 := by rw [hSt.1]; exact hr
  have h66 : ∀ x : Int32, 0 ≤ x → x < I 65 0 → 1 ≤ I 66 x.toNatClampNeg ∧ I 66 x.toNatClampNeg ≤ 4 := fun x a b => (hl4 x a b).1
  have h67 : ∀ x : Int32, 0 ≤ x → x < I 65 0 → 1 ≤ I 67 x.toNatClampNeg ∧ I 67 x.toNatClampNeg ≤ 24 := fun x a b => (hl4 x a b).2
  have hchR : chP (I 65 0) (I 78) (I 67) (fun s k => fMy (tLd (I 8) (I 7) (I 6 2) s l k)) T M := by
    rw [hSt.1]
    refine ⟨hch.1, fun x a b => ?_, fun x k a b => ?_⟩
    · rw [(hSt.2.2.2 x a b).2.2.2.1]; exact hch.2.1 x a b
    · rw [(hSt.2.2.2 x a b).2.2.2.1]; exact hch.2.2 x k a b
  have hLF : ((0 ≤ f ∧ f < I 2 5) ∧ (0 ≤ s ∧ s < I 3 2) ∧ 0 ≤ l ∧ l < I 4 s.toNatClampNeg) → (I 79 s.toNatClampNeg < 0 ↔ (I 45 (nX s 0)) = -1) := fun hg => by
    have h9 := (ed_nb hEd hs.2 hg.2.1.1 hg.2.1.2).1
    have h8 := (hEd.2.2.2.2.1 s hg.2.1.1 hg.2.1.2).2.2.1
    rw [h9]
    clear hchR hch hr hrR hr12 hr12R hnb h66 h67 hGR hGL hz hm hm1 ht1 hF hR hl3 hl4 hl5 h9 hEd hst hSt hHa hTo hTp hDa hPe hTr hTx hMk hKA
    constructor <;> intro h <;> grind
  refine c_X11_whole (rt := I 78) (r := r) (T := T) (M := M) hs hh hl5 hc hR hF hr hr12 hnb hch (fun a0 => ?_) (fun a0 a1 => ?_) (fun a0 a1 a2 e w => ?_) (fun a0 a1 a2 e he => ?_)
  · refine ⟨_, rfl, ⟨rfl, rfl, hst⟩, ?_⟩
    refine c_X12_whole (r := r) (T := T) (M := M) (by first | exact hHa | (simp (decide := true) only [q2_ne, q2_r1, uI_at, uI_nj, qRow_ne, qRow_at]; exact hHa)) (by first | exact hTo | (simp (decide := true) only [q2_ne, q2_r1, uI_at, uI_nj, qRow_ne, qRow_at]; exact hTo)) (by first | exact hs2 | (simp (decide := true) only [q2_ne, q2_r1, uI_at, uI_nj, qRow_ne, qRow_at]; exact hs2)) (by first | exact h66 | (simp (decide := true) only [q2_ne, q2_r1, uI_at, uI_nj, qRow_ne, qRow_at]; exact h66)) (by first | exact hrR | (simp (decide := true) only [q2_ne, q2_r1, uI_at, uI_nj, qRow_ne, qRow_at]; exact hrR)) (by first | exact hr12R | (simp (decide := true) only [q2_ne, q2_r1, uI_at, uI_nj, qRow_ne, qRow_at]; exact hr12R)) (by first | exact h67 | (simp (decide := true) only [q2_ne, q2_r1, uI_at, uI_nj, qRow_ne, qRow_at]; exact h67)) (by first | exact hchR | (simp (decide := true) only [q2_ne, q2_r1, uI_at, uI_nj, qRow_ne, qRow_at]; exact hchR)) (by first | exact hc2 | (simp (decide := true) only [q2_ne, q2_r1, uI_at, uI_nj, qRow_ne, qRow_at]; exact hc2)) (by first | exact hm | (simp (decide := true) only [q2_ne, q2_r1, uI_at, uI_nj, qRow_ne, qRow_at]; exact hm)) (by first | exact hz | (simp (decide := true) only [q2_ne, q2_r1, uI_at, uI_nj, qRow_ne, qRow_at]; exact hz)) (fun b0 => ?_) (fun b0 b1 => ?_) (fun b0 b1 => ?_) (fun b0 b1 => ?_)
    · exact ⟨rfl, ⟨by first | rfl | (simp (decide := true) only [q2_ne, q2_r1, uI_at, uI_nj, qRow_ne, qRow_at]), rfl⟩, ⟨hst, (by first | exact hSt | (simp (decide := true) only [q2_ne, q2_r1, uI_at, uI_nj, qRow_ne, qRow_at]; exact hSt)), (by first | exact hHa | (simp (decide := true) only [q2_ne, q2_r1, uI_at, uI_nj, qRow_ne, qRow_at]; exact hHa)), (by first | exact hTo | (simp (decide := true) only [q2_ne, q2_r1, uI_at, uI_nj, qRow_ne, qRow_at]; exact hTo)), (by first | exact hTp | (simp (decide := true) only [q2_ne, q2_r1, uI_at, uI_nj, qRow_ne, qRow_at]; exact hTp)), (by first | exact hEd | (simp (decide := true) only [q2_ne, q2_r1, uI_at, uI_nj, qRow_ne, qRow_at]; exact hEd)), (by first | exact hDa | (simp (decide := true) only [q2_ne, q2_r1, uI_at, uI_nj, qRow_ne, qRow_at]; exact hDa)), (by first | exact hPe | (simp (decide := true) only [q2_ne, q2_r1, uI_at, uI_nj, qRow_ne, qRow_at]; exact hPe)), (by first | exact hTr | (simp (decide := true) only [q2_ne, q2_r1, uI_at, uI_nj, qRow_ne, qRow_at]; exact hTr)), (RTx_of hTx (by simp (decide := true) only [q2_ne, q2_r1, uI_at, uI_nj, qRow_ne, qRow_at]) (by simp (decide := true) only [q2_ne, q2_r1, uI_at, uI_nj, qRow_ne, qRow_at]) (by simp (decide := true) only [q2_ne, q2_r1, uI_at, uI_nj, qRow_ne, qRow_at]) (by simp (decide := true) only [q2_ne, q2_r1, uI_at, uI_nj, qRow_ne, qRow_at]) (by simp (decide := true) only [q2_ne, q2_r1, uI_at, uI_nj, qRow_ne, qRow_at]) (fun k hk => by (try dsimp only); repeat first | rfl | rw [q2_ne (by omega)] | rw [qRow_ne (by omega)]) (fun k hk => by (try dsimp only); repeat first | rfl | rw [q2_ne (by omega)] | rw [qRow_ne (by omega)])), (by first | exact hMk | (simp (decide := true) only [q2_ne, q2_r1, uI_at, uI_nj, qRow_ne, qRow_at]; exact hMk)), (by first | exact hKA | (simp (decide := true) only [q2_ne, q2_r1, uI_at, uI_nj, qRow_ne, qRow_at]; exact hKA))⟩⟩
    · (try simp (decide := true) only [q2_ne, q2_r1, uI_at, uI_nj, qRow_ne, qRow_at] at b0)
      exact absurd (hGR.mp b0) a0
    · (try simp (decide := true) only [q2_ne, q2_r1, uI_at, uI_nj, qRow_ne, qRow_at] at b0)
      exact absurd (hGR.mp b0.1) a0
    · (try simp (decide := true) only [q2_ne, q2_r1, uI_at, uI_nj, qRow_ne, qRow_at] at b0)
      exact absurd (hGR.mp b0.1) a0
  · refine ⟨_, rfl, ⟨rfl, rfl, hst⟩, ?_⟩
    refine c_X12_whole (r := r) (T := T) (M := M) (by first | exact hHa | (simp (decide := true) only [q2_ne, q2_r1, uI_at, uI_nj, qRow_ne, qRow_at]; exact hHa)) (by first | exact hTo | (simp (decide := true) only [q2_ne, q2_r1, uI_at, uI_nj, qRow_ne, qRow_at]; exact hTo)) (by first | exact hs2 | (simp (decide := true) only [q2_ne, q2_r1, uI_at, uI_nj, qRow_ne, qRow_at]; exact hs2)) (by first | exact h66 | (simp (decide := true) only [q2_ne, q2_r1, uI_at, uI_nj, qRow_ne, qRow_at]; exact h66)) (by first | exact hrR | (simp (decide := true) only [q2_ne, q2_r1, uI_at, uI_nj, qRow_ne, qRow_at]; exact hrR)) (by first | exact hr12R | (simp (decide := true) only [q2_ne, q2_r1, uI_at, uI_nj, qRow_ne, qRow_at]; exact hr12R)) (by first | exact h67 | (simp (decide := true) only [q2_ne, q2_r1, uI_at, uI_nj, qRow_ne, qRow_at]; exact h67)) (by first | exact hchR | (simp (decide := true) only [q2_ne, q2_r1, uI_at, uI_nj, qRow_ne, qRow_at]; exact hchR)) (by first | exact hc2 | (simp (decide := true) only [q2_ne, q2_r1, uI_at, uI_nj, qRow_ne, qRow_at]; exact hc2)) (by first | exact hm | (simp (decide := true) only [q2_ne, q2_r1, uI_at, uI_nj, qRow_ne, qRow_at]; exact hm)) (by first | exact hz | (simp (decide := true) only [q2_ne, q2_r1, uI_at, uI_nj, qRow_ne, qRow_at]; exact hz)) (fun b0 => ?_) (fun b0 b1 => ?_) (fun b0 b1 => ?_) (fun b0 b1 => ?_)
    · (try simp (decide := true) only [q2_ne, q2_r1, uI_at, uI_nj, qRow_ne, qRow_at] at b0)
      exact absurd (hGR.mpr a0) b0
    · exact ⟨rfl, ⟨by first | rfl | (simp (decide := true) only [q2_ne, q2_r1, uI_at, uI_nj, qRow_ne, qRow_at]), rfl⟩, ⟨hst, (by first | exact hSt | (simp (decide := true) only [q2_ne, q2_r1, uI_at, uI_nj, qRow_ne, qRow_at]; exact hSt)), (by first | exact hHa | (simp (decide := true) only [q2_ne, q2_r1, uI_at, uI_nj, qRow_ne, qRow_at]; exact hHa)), (by first | exact hTo | (simp (decide := true) only [q2_ne, q2_r1, uI_at, uI_nj, qRow_ne, qRow_at]; exact hTo)), (by first | exact hTp | (simp (decide := true) only [q2_ne, q2_r1, uI_at, uI_nj, qRow_ne, qRow_at]; exact hTp)), (by first | exact hEd | (simp (decide := true) only [q2_ne, q2_r1, uI_at, uI_nj, qRow_ne, qRow_at]; exact hEd)), (by first | exact hDa | (simp (decide := true) only [q2_ne, q2_r1, uI_at, uI_nj, qRow_ne, qRow_at]; exact hDa)), (by first | exact hPe | (simp (decide := true) only [q2_ne, q2_r1, uI_at, uI_nj, qRow_ne, qRow_at]; exact hPe)), (by first | exact hTr | (simp (decide := true) only [q2_ne, q2_r1, uI_at, uI_nj, qRow_ne, qRow_at]; exact hTr)), (RTx_of hTx (by simp (decide := true) only [q2_ne, q2_r1, uI_at, uI_nj, qRow_ne, qRow_at]) (by simp (decide := true) only [q2_ne, q2_r1, uI_at, uI_nj, qRow_ne, qRow_at]) (by simp (decide := true) only [q2_ne, q2_r1, uI_at, uI_nj, qRow_ne, qRow_at]) (by simp (decide := true) only [q2_ne, q2_r1, uI_at, uI_nj, qRow_ne, qRow_at]) (by simp (decide := true) only [q2_ne, q2_r1, uI_at, uI_nj, qRow_ne, qRow_at]) (fun k hk => by (try dsimp only); repeat first | rfl | rw [q2_ne (by omega)] | rw [qRow_ne (by omega)]) (fun k hk => by (try dsimp only); repeat first | rfl | rw [q2_ne (by omega)] | rw [qRow_ne (by omega)])), (by first | exact hMk | (simp (decide := true) only [q2_ne, q2_r1, uI_at, uI_nj, qRow_ne, qRow_at]; exact hMk)), (by first | exact hKA | (simp (decide := true) only [q2_ne, q2_r1, uI_at, uI_nj, qRow_ne, qRow_at]; exact hKA))⟩⟩
    · (try simp (decide := true) only [q2_ne, q2_r1, uI_at, uI_nj, qRow_ne, qRow_at] at b0)
      exact absurd ((hLF a0).mp b0.2) a1
    · (try simp (decide := true) only [q2_ne, q2_r1, uI_at, uI_nj, qRow_ne, qRow_at] at b0)
      exact absurd ((hLF a0).mp b0.2) a1
  · refine ⟨_, rfl, ⟨by simp (decide := true) only [q2_ne, q2_r1, uI_at, uI_nj, qRow_ne, qRow_at], rfl, hst⟩, ?_⟩
    refine c_X12_whole (r := r) (T := T) (M := M) (by first | exact hHa | (simp (decide := true) only [q2_ne, q2_r1, uI_at, uI_nj, qRow_ne, qRow_at]; exact hHa)) (by first | exact hTo | (simp (decide := true) only [q2_ne, q2_r1, uI_at, uI_nj, qRow_ne, qRow_at]; exact hTo)) (by first | exact hs2 | (simp (decide := true) only [q2_ne, q2_r1, uI_at, uI_nj, qRow_ne, qRow_at]; exact hs2)) (by first | exact h66 | (simp (decide := true) only [q2_ne, q2_r1, uI_at, uI_nj, qRow_ne, qRow_at]; exact h66)) (by first | exact hrR | (simp (decide := true) only [q2_ne, q2_r1, uI_at, uI_nj, qRow_ne, qRow_at]; exact hrR)) (by first | exact hr12R | (simp (decide := true) only [q2_ne, q2_r1, uI_at, uI_nj, qRow_ne, qRow_at]; exact hr12R)) (by first | exact h67 | (simp (decide := true) only [q2_ne, q2_r1, uI_at, uI_nj, qRow_ne, qRow_at]; exact h67)) (by first | exact hchR | (simp (decide := true) only [q2_ne, q2_r1, uI_at, uI_nj, qRow_ne, qRow_at]; exact hchR)) (by first | exact hc2 | (simp (decide := true) only [q2_ne, q2_r1, uI_at, uI_nj, qRow_ne, qRow_at]; exact hc2)) (by first | exact hm | (simp (decide := true) only [q2_ne, q2_r1, uI_at, uI_nj, qRow_ne, qRow_at]; exact hm)) (by first | exact hz | (simp (decide := true) only [q2_ne, q2_r1, uI_at, uI_nj, qRow_ne, qRow_at]; exact hz)) (fun b0 => ?_) (fun b0 b1 => ?_) (fun b0 b1 => ?_) (fun b0 b1 => ?_)
    · (try simp (decide := true) only [q2_ne, q2_r1, uI_at, uI_nj, qRow_ne, qRow_at] at b0)
      exact absurd (hGR.mpr a0) b0
    · (try simp (decide := true) only [q2_ne, q2_r1, uI_at, uI_nj, qRow_ne, qRow_at] at b1)
      exact absurd ((hLF a0).mpr a1) b1
    · exact ⟨rfl, ⟨by first | rfl | (simp (decide := true) only [q2_ne, q2_r1, uI_at, uI_nj, qRow_ne, qRow_at]), rfl⟩, ⟨hst, (by first | exact hSt | (simp (decide := true) only [q2_ne, q2_r1, uI_at, uI_nj, qRow_ne, qRow_at]; exact hSt)), (by first | exact hHa | (simp (decide := true) only [q2_ne, q2_r1, uI_at, uI_nj, qRow_ne, qRow_at]; exact hHa)), (by first | exact hTo | (simp (decide := true) only [q2_ne, q2_r1, uI_at, uI_nj, qRow_ne, qRow_at]; exact hTo)), (by first | exact hTp | (simp (decide := true) only [q2_ne, q2_r1, uI_at, uI_nj, qRow_ne, qRow_at]; exact hTp)), (by first | exact hEd | (simp (decide := true) only [q2_ne, q2_r1, uI_at, uI_nj, qRow_ne, qRow_at]; exact hEd)), (by first | exact hDa | (simp (decide := true) only [q2_ne, q2_r1, uI_at, uI_nj, qRow_ne, qRow_at]; exact hDa)), (by first | exact hPe | (simp (decide := true) only [q2_ne, q2_r1, uI_at, uI_nj, qRow_ne, qRow_at]; exact hPe)), (by first | exact hTr | (simp (decide := true) only [q2_ne, q2_r1, uI_at, uI_nj, qRow_ne, qRow_at]; exact hTr)), (RTx_of hTx (by simp (decide := true) only [q2_ne, q2_r1, uI_at, uI_nj, qRow_ne, qRow_at]) (by simp (decide := true) only [q2_ne, q2_r1, uI_at, uI_nj, qRow_ne, qRow_at]) (by simp (decide := true) only [q2_ne, q2_r1, uI_at, uI_nj, qRow_ne, qRow_at]) (by simp (decide := true) only [q2_ne, q2_r1, uI_at, uI_nj, qRow_ne, qRow_at]) (by simp (decide := true) only [q2_ne, q2_r1, uI_at, uI_nj, qRow_ne, qRow_at]) (fun k hk => by (try dsimp only); repeat first | rfl | rw [q2_ne (by omega)] | rw [qRow_ne (by omega)]) (fun k hk => by (try dsimp only); repeat first | rfl | rw [q2_ne (by omega)] | rw [qRow_ne (by omega)])), (by first | exact hMk | (simp (decide := true) only [q2_ne, q2_r1, uI_at, uI_nj, qRow_ne, qRow_at]; exact hMk)), (by first | exact hKA | (simp (decide := true) only [q2_ne, q2_r1, uI_at, uI_nj, qRow_ne, qRow_at]; exact hKA))⟩⟩
    · exact absurd a2 (Int32.not_lt.mpr b1)
  · refine ⟨_, rfl, ⟨by simp (decide := true) only [q2_ne, q2_r1, uI_at, uI_nj, qRow_ne, qRow_at], rfl, hst⟩, ?_⟩
    refine c_X12_whole (r := r) (T := T) (M := M) (by first | exact hHa | (simp (decide := true) only [q2_ne, q2_r1, uI_at, uI_nj, qRow_ne, qRow_at]; exact hHa)) (by first | exact hTo | (simp (decide := true) only [q2_ne, q2_r1, uI_at, uI_nj, qRow_ne, qRow_at]; exact hTo)) (by first | exact hs2 | (simp (decide := true) only [q2_ne, q2_r1, uI_at, uI_nj, qRow_ne, qRow_at]; exact hs2)) (by first | exact h66 | (simp (decide := true) only [q2_ne, q2_r1, uI_at, uI_nj, qRow_ne, qRow_at]; exact h66)) (by first | exact hrR | (simp (decide := true) only [q2_ne, q2_r1, uI_at, uI_nj, qRow_ne, qRow_at]; exact hrR)) (by first | exact hr12R | (simp (decide := true) only [q2_ne, q2_r1, uI_at, uI_nj, qRow_ne, qRow_at]; exact hr12R)) (by first | exact h67 | (simp (decide := true) only [q2_ne, q2_r1, uI_at, uI_nj, qRow_ne, qRow_at]; exact h67)) (by first | exact hchR | (simp (decide := true) only [q2_ne, q2_r1, uI_at, uI_nj, qRow_ne, qRow_at]; exact hchR)) (by first | exact hc2 | (simp (decide := true) only [q2_ne, q2_r1, uI_at, uI_nj, qRow_ne, qRow_at]; exact hc2)) (by first | exact hm | (simp (decide := true) only [q2_ne, q2_r1, uI_at, uI_nj, qRow_ne, qRow_at]; exact hm)) (by first | exact hz | (simp (decide := true) only [q2_ne, q2_r1, uI_at, uI_nj, qRow_ne, qRow_at]; exact hz)) (fun b0 => ?_) (fun b0 b1 => ?_) (fun b0 b1 => ?_) (fun b0 b1 => ?_)
    · (try simp (decide := true) only [q2_ne, q2_r1, uI_at, uI_nj, qRow_ne, qRow_at] at b0)
      exact absurd (hGR.mpr a0) b0
    · (try simp (decide := true) only [q2_ne, q2_r1, uI_at, uI_nj, qRow_ne, qRow_at] at b1)
      exact absurd ((hLF a0).mpr a1) b1
    · exact absurd b1 (Int32.not_lt.mpr a2)
    · have hmm := hm1 f a0.1.1 a0.1.2
      have gT := hch.2.1 s a0.2.1.1 a0.2.1.2
      have gN := hl5 s a0.2.1.1 a0.2.1.2
      have hT1 : 1 ≤ T s := by
        clear hchR hch hr hrR hr12 hr12R hnb h66 h67 hGR hGL hz hm hm1 ht1 hF hR hl3 hl4 hl5 hEd hst hSt hHa hTo hTp hDa hPe hTr hTx hMk hKA hLF he
        grind
      have h8 := cw_eq (my := e) (lt := (sLt (I (96 + 2 * f.toNatClampNeg) 1) (L (96 + 2 * f.toNatClampNeg + 1)))) (go := (fun i => fGo (M s) (laR (I 75) (I 74) (200 * f + i)) (I 75 ((200 * f + i)).toNatClampNeg) (T s))) (w := T s) hmm.2.1 (fun i i0 i1 => go_rel hTx a0.1 ⟨i0, i1⟩ ⟨hT1, a2⟩ he)
      rw [hmm.1] at h8
      exact ⟨by simp (decide := true) only [q2_ne, q2_r1, uI_at, uI_nj, qRow_ne, qRow_at]; rw [hmm.1]; rw [h8], ⟨by first | rfl | (simp (decide := true) only [q2_ne, q2_r1, uI_at, uI_nj, qRow_ne, qRow_at]), rfl⟩, ⟨hst, (by first | exact hSt | (simp (decide := true) only [q2_ne, q2_r1, uI_at, uI_nj, qRow_ne, qRow_at]; exact hSt)), (by first | exact hHa | (simp (decide := true) only [q2_ne, q2_r1, uI_at, uI_nj, qRow_ne, qRow_at]; exact hHa)), (by first | exact hTo | (simp (decide := true) only [q2_ne, q2_r1, uI_at, uI_nj, qRow_ne, qRow_at]; exact hTo)), (by first | exact hTp | (simp (decide := true) only [q2_ne, q2_r1, uI_at, uI_nj, qRow_ne, qRow_at]; exact hTp)), (by first | exact hEd | (simp (decide := true) only [q2_ne, q2_r1, uI_at, uI_nj, qRow_ne, qRow_at]; exact hEd)), (by first | exact hDa | (simp (decide := true) only [q2_ne, q2_r1, uI_at, uI_nj, qRow_ne, qRow_at]; exact hDa)), (by first | exact hPe | (simp (decide := true) only [q2_ne, q2_r1, uI_at, uI_nj, qRow_ne, qRow_at]; exact hPe)), (by first | exact hTr | (simp (decide := true) only [q2_ne, q2_r1, uI_at, uI_nj, qRow_ne, qRow_at]; exact hTr)), (RTx_of hTx (by simp (decide := true) only [q2_ne, q2_r1, uI_at, uI_nj, qRow_ne, qRow_at]) (by simp (decide := true) only [q2_ne, q2_r1, uI_at, uI_nj, qRow_ne, qRow_at]) (by simp (decide := true) only [q2_ne, q2_r1, uI_at, uI_nj, qRow_ne, qRow_at]) (by simp (decide := true) only [q2_ne, q2_r1, uI_at, uI_nj, qRow_ne, qRow_at]) (by simp (decide := true) only [q2_ne, q2_r1, uI_at, uI_nj, qRow_ne, qRow_at]) (fun k hk => by (try dsimp only); repeat first | rfl | rw [q2_ne (by omega)] | rw [qRow_ne (by omega)]) (fun k hk => by (try dsimp only); repeat first | rfl | rw [q2_ne (by omega)] | rw [qRow_ne (by omega)])), (by first | exact hMk | (simp (decide := true) only [q2_ne, q2_r1, uI_at, uI_nj, qRow_ne, qRow_at]; exact hMk)), (by first | exact hKA | (simp (decide := true) only [q2_ne, q2_r1, uI_at, uI_nj, qRow_ne, qRow_at]; exact hKA))⟩⟩

