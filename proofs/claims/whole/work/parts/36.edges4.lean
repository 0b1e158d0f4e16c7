def gTol (k : Int32) (p : (Nat → Int32) × (Nat → Int32)) : (Nat → Int32) × (Nat → Int32) := (uRt p.1 k, uLf p.1 p.2 k)
theorem tol_rel {n tl tl' : Int32} {l mk mk' nb rt lf : Nat → Int32} (h : REd n l tl tl' mk mk' nb rt lf) (hn : 0 ≤ n ∧ n ≤ 12) : (∃ nb', REd n l tl tl' mk mk' nb' (upF n gTol 0 (rt, lf)).1 (upF n gTol 0 (rt, lf)).2) ∧ ∀ x : Int32, 0 ≤ x → x < n → (upF n gTol 0 (rt, lf)).1 x.toNatClampNeg = -1 := by
  refine upF_inv (fun k p => (∃ nb', REd n l tl tl' mk mk' nb' p.1 p.2) ∧ ∀ x : Int32, 0 ≤ x → x < k → p.1 x.toNatClampNeg = -1) (fun k p h0 hk hp => ?_) 0 (rt, lf) (by decide) hn.1 ⟨⟨nb, h⟩, fun x h0 hx => absurd hx (by grind)⟩
  obtain ⟨⟨nb', hE⟩, hx⟩ := hp
  refine ⟨⟨_, REd_untie hE hn.2 hk⟩, fun x hx0 hxk => ?_⟩
  have g := (hE.2.2.2.2.1 k h0 hk).2.2.2.2.1
  show uRt p.1 k x.toNatClampNeg = -1
  unfold uRt
  by_cases hc : k < 0 ∨ p.1 k.toNatClampNeg < 0
  · rw [if_pos hc]
    by_cases e : x = k
    · subst e; grind
    · exact hx x hx0 (by grind)
  · rw [if_neg hc, uI_t hx0 h0]
    by_cases e : x = k
    · rw [if_pos e]
    · rw [if_neg e]; exact hx x hx0 (by grind)
theorem leadR_s {rt : Nat → Int32} {to : Int32} (m : Nat) (x : Int32) : leadR rt to (m + 1) x = if x < 0 then false else if x = to then true else leadR rt to m (rt x.toNatClampNeg) := rfl
theorem leadR_neg {rt : Nat → Int32} {to : Int32} (m : Nat) {x : Int32} (h : x < 0) : leadR rt to m x = false := by
  cases m with
  | zero => rfl
  | succ m => rw [leadR_s, if_pos h]
theorem best_lines {l mk nb : Nat → Int32} {tl n s b : Int32} (hn : 0 ≤ n) (h : fBest l mk nb tl n s 1 = b) (hb : 0 ≤ b ∧ b < n) : l s.toNatClampNeg = l b.toNatClampNeg := by
  unfold fBest at h
  by_cases hc : ¬ nb (nX s 1) = -1
  · rw [if_pos hc] at h
    rw [← h] at hb
    exact absurd hb.1 (by decide)
  · rw [if_neg hc] at h
    have hr := upF_inv (n := n) (g := gBest l mk nb tl s 1) (fun _ b => b.1 = -1 ∨ l s.toNatClampNeg = l b.1.toNatClampNeg) (fun k b h0 hk hb => ?_) 0 (-1, -1) (by decide) hn (Or.inl rfl)
    · rw [h] at hr
      rcases hr with hr | hr
      · rw [hr] at hb; exact absurd hb.1 (by decide)
      · exact hr
    · unfold gBest
      by_cases hq : nb (nX k (1 - 1)) = -1 ∧ ¬ vBest l mk tl s 1 k = -1 ∧ (b.1 = -1 ∨ vBest l mk tl s 1 k < b.2)
      · rw [if_pos hq]
        refine Or.inr ?_
        have h2 := hq.2.1
        unfold vBest fRoom at h2
        rw [if_pos rfl] at h2
        rcases Classical.em (s = k ∨ ¬ l s.toNatClampNeg = l k.toNatClampNeg) with h3 | h3
        · rw [if_pos h3] at h2; exact absurd rfl h2
        · exact Classical.byContradiction fun h4 => h3 (Or.inr h4)
      · rw [if_neg hq]; exact hb
theorem l_X12_tolerance {d z : Nat} {N : Nat → Nat} {I : Nat → Nat → Int32} {L : Nat → Nat → Int64} {R : Nat → Nat → Option Nat} {Q : qP} {t w : Int32} (hs : 0 ≤ I 65 0 ∧ I 65 0 ≤ 12) : ∀ (k : Int32), ∀ rt lf : Nat → Int32, 0 ≤ k → (∀ x : Int32, 0 ≤ x → x < I 65 0 → rt x.toNatClampNeg < 12) → Q (some (.int w)) (z, N, qRow (qRow I 78 (upF (I 65 0) gTol k (rt, lf)).1) 79 (upF (I 65 0) gTol k (rt, lf)).2, L, R) → qJ m_X12_tolerance (qWP (d + 1)) Q 23 [(3, .int k), (2, .int w), (1, .int t), (0, .ref 65)] [] 0 0 (z, N, qRow (qRow I 78 rt) 79 lf, L, R) := by
  refine up_ind (I 65 0) fun k ih => ?_
  intro rt lf h0 hr hq
  refine qJ_run (qWP_mono _) [23] 400 ?_
  refine ⟨fun (c1 : (I 65 0) ≤ k) => ?_, fun (c1 : ¬ (I 65 0) ≤ k) => ?_⟩
  · change Q (some (.int w)) (z, N, qRow (qRow I 78 rt) 79 lf, L, R)
    rw [upF_ge (by clear ih hq; grind)] at hq
    exact hq
  · refine ⟨⟨Nat.le_refl _, Nat.le_refl _⟩, ?_⟩
    refine c_X12_parts (d := d) (by clear ih hq; grind) (fun h9 => by simp (decide := true) only [qRow_ne, qRow_at]; exact hr k h9 (by clear ih hq; grind)) ?_
    simp (decide := true) only [qRow_ne, qRow_at]
    rw [qRow_2]
    have hk : k < I 65 0 := by clear ih hq; grind
    rw [upF_on hk] at hq
    exact ih hk _ _ (by clear ih hq; grind) (uRt_r hr) hq
theorem c_X12_tolerance {d z : Nat} {N : Nat → Nat} {I : Nat → Nat → Int32} {L : Nat → Nat → Int64} {R : Nat → Nat → Option Nat} {Q : qP} {t : Int32} (hs : 0 ≤ I 65 0 ∧ I 65 0 ≤ 12) (hr : ∀ x : Int32, 0 ≤ x → x < I 65 0 → I 78 x.toNatClampNeg < 12) (h0 : ¬ (0 ≤ t ∧ t ≤ 3) → Q (some (.int (-2))) (z, N, I, L, R)) (h1 : 0 ≤ t ∧ t ≤ 3 → Q (some (.int (I 65 5))) (z, N, qRow (qRow (q2 I 65 5 t) 78 (upF (I 65 0) gTol 0 (I 78, I 79)).1) 79 (upF (I 65 0) gTol 0 (I 78, I 79)).2, L, R)) : qWP (d + 2) 209 [.ref 65, .int t] (z, N, I, L, R) Q := by
  refine qWP_of m_X12_tolerance rfl rfl [(0, .ref 65), (1, .int t)] rfl ?_
  refine qJ_run (qWP_mono _) [23] 400 ?_
  refine ⟨⟨Nat.le_refl _, Nat.le_refl _⟩, ?_⟩
  refine c_X12_isIn fun v1 hv1 => ?_
  refine ⟨fun (c1 : ¬ v1 = 0) => ?_, fun (c1 : v1 = 0) => ?_⟩
  · refine qJ_nm (qWP_mono _) [] [(3, .int 0), (2, .int (I 65 5)), (1, .int t), (0, .ref 65)] rfl rfl rfl ?_
    refine qJ_M (M2 := (z, N, qRow (qRow (q2 I 65 5 t) 78 (I 78)) 79 (I 79), L, R)) (by dsimp only; rw [show I 78 = q2 I 65 5 t 78 from (q2_ne (by decide)).symm, qRow_self, show I 79 = q2 I 65 5 t 79 from (q2_ne (by decide)).symm, qRow_self]) ?_
    refine l_X12_tolerance (d := d) (by simp (decide := true) only [q2_nj]; exact hs) 0 _ _ (by decide) (by simp (decide := true) only [q2_nj]; exact hr) ?_
    simp (decide := true) only [q2_nj]
    exact h1 (by clear h0 h1; grind)
  · change Q (some (.int (-2))) (z, N, I, L, R)
    exact h0 (by clear h0 h1; grind)
theorem c_X12_room {d z : Nat} {N : Nat → Nat} {I : Nat → Nat → Int32} {L : Nat → Nat → Int64} {R : Nat → Nat → Option Nat} {Q : qP} {a : Int32} {b : Int32} (hs : 0 ≤ I 65 0 ∧ I 65 0 ≤ 12) (hl : ∀ x : Int32, 0 ≤ x → x < I 65 0 → 1 ≤ I 66 x.toNatClampNeg ∧ I 66 x.toNatClampNeg ≤ 4) (h : ∀ v : Int32, v = (if (0 ≤ a ∧ a < I 65 0) ∧ 0 ≤ b ∧ b < I 65 0 then fRoom (I 66) (I 77) (I 65 5) a b else -2) → Q (some (.int v)) (z, N, I, L, R)) : qWP (d + 3) 211 [.ref 65, .int a, .int b] (z, N, I, L, R) Q := by
  refine qWP_of m_X12_room rfl rfl [(0, .ref 65), (1, .int a), (2, .int b)] rfl ?_
  refine qJ_run (qWP_mono _) [] 400 ?_
  refine ⟨⟨Nat.le_refl _, Nat.le_refl _⟩, ?_⟩
  refine c_X12_isStone fun v1 hv1 => ?_
  refine ⟨fun (c1 : v1 = 0) => ?_, fun (c1 : ¬ v1 = 0) => ?_⟩
  · change Q (some (.int (-2))) (z, N, I, L, R)
    exact h _ (if_neg (by clear h; grind)).symm
  · refine ⟨⟨Nat.le_refl _, Nat.le_refl _⟩, ?_⟩
    refine c_X12_isStone fun v2 hv2 => ?_
    refine ⟨fun (c2 : v2 = 0) => ?_, fun (c2 : ¬ v2 = 0) => ?_⟩
    · change Q (some (.int (-2))) (z, N, I, L, R)
      exact h _ (if_neg (by clear h; grind)).symm
    · refine ⟨⟨Nat.le_refl _, Nat.le_refl _⟩, ?_⟩
      refine c_X12_roomOf (d := d) hs (by clear h; grind) (by clear h; grind) (hl a (by clear h; grind) (by clear h; grind)) fun v3 hv3 => ?_
      change Q (some (.int v3)) (z, N, I, L, R)
      exact h _ (hv3.trans (if_pos (by clear h; grind)).symm)
theorem c_X12_best {d z : Nat} {N : Nat → Nat} {I : Nat → Nat → Int32} {L : Nat → Nat → Int64} {R : Nat → Nat → Option Nat} {Q : qP} {s : Int32} {e : Int32} (hs : 0 ≤ I 65 0 ∧ I 65 0 ≤ 12) (hl : ∀ x : Int32, 0 ≤ x → x < I 65 0 → 1 ≤ I 66 x.toNatClampNeg ∧ I 66 x.toNatClampNeg ≤ 4) (h : ∀ v : Int32, v = (if (0 ≤ s ∧ s < I 65 0) ∧ (e = 0 ∨ e = 1) then fBestR (I 66) (I 77) (I 78) (I 79) (I 65 5) (I 65 0) s e else -2) → Q (some (.int v)) (z, N, I, L, R)) : qWP (d + 4) 213 [.ref 65, .int s, .int e] (z, N, I, L, R) Q := by
  refine qWP_of m_X12_best rfl rfl [(0, .ref 65), (1, .int s), (2, .int e)] rfl ?_
  refine qJ_run (qWP_mono _) [] 400 ?_
  refine ⟨⟨Nat.le_refl _, Nat.le_refl _⟩, ?_⟩
  refine c_X12_isStone fun v1 hv1 => ?_
  refine ⟨fun (c1 : v1 = 0) => ?_, fun (c1 : ¬ v1 = 0) => ?_⟩
  · change Q (some (.int (-2))) (z, N, I, L, R)
    exact h _ (if_neg (by clear h; grind)).symm
  · refine ⟨⟨Nat.le_refl _, Nat.le_refl _⟩, ?_⟩
    refine c_X12_isIn fun v2 hv2 => ?_
    refine ⟨fun (c2 : v2 = 0) => ?_, fun (c2 : ¬ v2 = 0) => ?_⟩
    · change Q (some (.int (-2))) (z, N, I, L, R)
      exact h _ (if_neg (by clear h; grind)).symm
    · refine ⟨⟨Nat.le_refl _, Nat.le_refl _⟩, ?_⟩
      refine c_X12_bestOf (d := d) hs (by clear h; grind) (by clear h; grind) hl fun v3 hv3 => ?_
      change Q (some (.int v3)) (z, N, I, L, R)
      exact h _ (hv3.trans (if_pos (by clear h; grind)).symm)
theorem c_X12_joined {d z : Nat} {N : Nat → Nat} {I : Nat → Nat → Int32} {L : Nat → Nat → Int64} {R : Nat → Nat → Option Nat} {Q : qP} {s : Int32} {e : Int32} (hs : 0 ≤ I 65 0 ∧ I 65 0 ≤ 12) (h : ∀ v : Int32, v = (if (0 ≤ s ∧ s < I 65 0) ∧ (e = 0 ∨ e = 1) then (if e = 1 then I 78 s.toNatClampNeg else I 79 s.toNatClampNeg) else -2) → Q (some (.int v)) (z, N, I, L, R)) : qWP (d + 3) 216 [.ref 65, .int s, .int e] (z, N, I, L, R) Q := by
  refine qWP_of m_X12_joined rfl rfl [(0, .ref 65), (1, .int s), (2, .int e)] rfl ?_
  refine qJ_run (qWP_mono _) [] 400 ?_
  refine ⟨⟨Nat.le_refl _, Nat.le_refl _⟩, ?_⟩
  refine c_X12_isStone fun v1 hv1 => ?_
  refine ⟨fun (c1 : v1 = 0) => ?_, fun (c1 : ¬ v1 = 0) => ?_⟩
  · change Q (some (.int (-2))) (z, N, I, L, R)
    exact h _ (by clear h; grind)
  · refine ⟨⟨Nat.le_refl _, Nat.le_refl _⟩, ?_⟩
    refine c_X12_isIn fun v2 hv2 => ?_
    refine ⟨fun (c2 : v2 = 0) => ?_, fun (c2 : ¬ v2 = 0) => ?_⟩
    · change Q (some (.int (-2))) (z, N, I, L, R)
      exact h _ (by clear h; grind)
    · refine ⟨fun (c3 : ¬ e = 1) => ?_, fun (c3 : e = 1) => ?_⟩
      · refine ⟨?_, ?_⟩
        · exact vb (x := s) (N := 12) 12 (by decide) (by clear h; grind) (by clear h; grind)
        change Q (some (.int (I 79 ((s).toNatClampNeg)))) (z, N, I, L, R)
        exact h _ (by clear h; grind)
      · refine ⟨?_, ?_⟩
        · exact vb (x := s) (N := 12) 12 (by decide) (by clear h; grind) (by clear h; grind)
        change Q (some (.int (I 78 ((s).toNatClampNeg)))) (z, N, I, L, R)
        exact h _ (by clear h; grind)
theorem l_X12_join {d z : Nat} {N : Nat → Nat} {I : Nat → Nat → Int32} {L : Nat → Nat → Int64} {R : Nat → Nat → Option Nat} {Q : qP} {a b : Int32} (hs : 0 ≤ I 65 0 ∧ I 65 0 ≤ 12) (ha : 0 ≤ a ∧ a < I 65 0) (hb : 0 ≤ b ∧ b < I 65 0) {r : Nat → Nat} (hr : ∀ x : Int32, 0 ≤ x → x < I 65 0 → 0 ≤ I 78 x.toNatClampNeg → I 78 x.toNatClampNeg < I 65 0 ∧ r x.toNatClampNeg = r (I 78 x.toNatClampNeg).toNatClampNeg + 1) : ∀ (m : Nat) (x : Int32), (x < 0 ∨ (0 ≤ x ∧ x < I 65 0 ∧ r x.toNatClampNeg < m)) → (leadR (I 78) a m x = true → Q (some (.int (-3))) (z, N, I, L, R)) ∧ (leadR (I 78) a m x = false → Q (some (.int 1)) (z, N, q2 (q2 I 78 a.toNatClampNeg b) 79 b.toNatClampNeg a, L, R)) → qJ m_X12_join (qWP (d + 3)) Q 44 [(3, .int x), (2, .int b), (1, .int a), (0, .ref 65)] [] 0 0 (z, N, I, L, R) := by
  refine nat_ind fun m ih => ?_
  intro x hx hq
  refine qJ_run (qWP_mono _) [44] 400 ?_
  refine ⟨fun (c1 : x < 0) => ?_, fun (c1 : ¬ x < 0) => ?_⟩
  · refine ⟨?_, ?_⟩
    · exact vb (x := a) (N := 12) 12 (by decide) (by clear ih hq; grind) (by clear ih hq; grind)
    refine ⟨?_, ?_⟩
    · exact vb (x := b) (N := 12) 12 (by decide) (by clear ih hq; grind) (by clear ih hq; grind)
    change Q (some (.int 1)) (z, N, q2 (q2 I 78 ((a).toNatClampNeg) b) 79 ((b).toNatClampNeg) a, L, R)
    exact hq.2 (leadR_neg m (by clear ih hq; grind))
  · refine ⟨fun (c2 : ¬ x = a) => ?_, fun (c2 : x = a) => ?_⟩
    · refine ⟨?_, ?_⟩
      · exact vb (x := x) (N := 12) 12 (by decide) (by clear ih hq; grind) (by clear ih hq; grind)
      have hx2 : 0 ≤ x ∧ x < I 65 0 ∧ r x.toNatClampNeg < m := by clear ih hq; grind
      obtain ⟨k, rfl⟩ : ∃ k, m = k + 1 := ⟨m - 1, by omega⟩
      rw [leadR_s, if_neg (by clear ih hq; grind), if_neg (by clear ih hq; grind)] at hq
      refine ih k rfl _ ?_ hq
      have h9 := hr x hx2.1 hx2.2.1
      by_cases h0 : 0 ≤ I 78 x.toNatClampNeg
      · exact Or.inr ⟨h0, (h9 h0).1, show r (I 78 x.toNatClampNeg).toNatClampNeg < k by have := (h9 h0).2; omega⟩
      · exact Or.inl (by clear ih hq; grind)
    · change Q (some (.int (-3))) (z, N, I, L, R)
      have hx2 : 0 ≤ x ∧ x < I 65 0 ∧ r x.toNatClampNeg < m := by clear ih hq; grind
      obtain ⟨k, rfl⟩ : ∃ k, m = k + 1 := ⟨m - 1, by omega⟩
      exact hq.1 (by rw [leadR_s, if_neg (by clear ih hq; grind), if_pos (by clear ih hq; grind)])
theorem c_X12_join {d z : Nat} {N : Nat → Nat} {I : Nat → Nat → Int32} {L : Nat → Nat → Int64} {R : Nat → Nat → Option Nat} {Q : qP} {a : Int32} {b : Int32} (hs : 0 ≤ I 65 0 ∧ I 65 0 ≤ 12) (hl : ∀ x : Int32, 0 ≤ x → x < I 65 0 → 1 ≤ I 66 x.toNatClampNeg ∧ I 66 x.toNatClampNeg ≤ 4) {r : Nat → Nat} (hr : ∀ x : Int32, 0 ≤ x → x < I 65 0 → 0 ≤ I 78 x.toNatClampNeg → I 78 x.toNatClampNeg < I 65 0 ∧ r x.toNatClampNeg = r (I 78 x.toNatClampNeg).toNatClampNeg + 1) (hr12 : ∀ x : Int32, 0 ≤ x → x < I 65 0 → r x.toNatClampNeg < 12) (h0 : ¬ ((0 ≤ a ∧ a < I 65 0) ∧ 0 ≤ b ∧ b < I 65 0) → Q (some (.int (-2))) (z, N, I, L, R)) (h1 : (0 ≤ a ∧ a < I 65 0) ∧ 0 ≤ b ∧ b < I 65 0 → ¬ (fBestR (I 66) (I 77) (I 78) (I 79) (I 65 5) (I 65 0) a 1 = b ∧ fBestR (I 66) (I 77) (I 78) (I 79) (I 65 5) (I 65 0) b 0 = a ∧ leadR (I 78) a 12 b = false) → Q (some (.int (-3))) (z, N, I, L, R)) (h2 : (0 ≤ a ∧ a < I 65 0) ∧ 0 ≤ b ∧ b < I 65 0 → (fBestR (I 66) (I 77) (I 78) (I 79) (I 65 5) (I 65 0) a 1 = b ∧ fBestR (I 66) (I 77) (I 78) (I 79) (I 65 5) (I 65 0) b 0 = a ∧ leadR (I 78) a 12 b = false) → Q (some (.int 1)) (z, N, q2 (q2 I 78 a.toNatClampNeg b) 79 b.toNatClampNeg a, L, R)) : qWP (d + 4) 214 [.ref 65, .int a, .int b] (z, N, I, L, R) Q := by
  refine qWP_of m_X12_join rfl rfl [(0, .ref 65), (1, .int a), (2, .int b)] rfl ?_
  refine qJ_run (qWP_mono _) [44] 400 ?_
  refine ⟨⟨Nat.le_refl _, Nat.le_refl _⟩, ?_⟩
  refine c_X12_isStone fun v1 hv1 => ?_
  refine ⟨fun (c1 : v1 = 0) => ?_, fun (c1 : ¬ v1 = 0) => ?_⟩
  · change Q (some (.int (-2))) (z, N, I, L, R)
    exact h0 (by clear h0 h1 h2; grind)
  · refine ⟨⟨Nat.le_refl _, Nat.le_refl _⟩, ?_⟩
    refine c_X12_isStone fun v2 hv2 => ?_
    refine ⟨fun (c2 : ¬ v2 = 0) => ?_, fun (c2 : v2 = 0) => ?_⟩
    · refine ⟨⟨Nat.le_refl _, Nat.le_refl _⟩, ?_⟩
      refine c_X12_bestOf (d := d) hs (by clear h0 h1 h2; grind) (by decide) hl fun v3 hv3 => ?_
      refine ⟨fun (c3 : ¬ v3 = b) => ?_, fun (c3 : v3 = b) => ?_⟩
      · change Q (some (.int (-3))) (z, N, I, L, R)
        exact h1 (by clear h0 h1 h2; grind) (by clear h0 h1 h2; grind)
      · refine ⟨⟨Nat.le_refl _, Nat.le_refl _⟩, ?_⟩
        refine c_X12_bestOf (d := d) hs (by clear h0 h1 h2; grind) (by decide) hl fun v4 hv4 => ?_
        refine ⟨fun (c4 : v4 = a) => ?_, fun (c4 : ¬ v4 = a) => ?_⟩
        · refine qJ_nm (qWP_mono _) [] [(3, .int b), (2, .int b), (1, .int a), (0, .ref 65)] rfl rfl rfl ?_
          have hg : (0 ≤ a ∧ a < I 65 0) ∧ 0 ≤ b ∧ b < I 65 0 := by clear h0 h1 h2; grind
          refine l_X12_join (d := d) hs hg.1 hg.2 hr 12 b (Or.inr ⟨hg.2.1, hg.2.2, hr12 b hg.2.1 hg.2.2⟩) ⟨fun hx => h1 hg (fun hy => by rw [hy.2.2] at hx; exact absurd hx (by decide)), fun hx => h2 hg ⟨by clear h0 h1 h2; grind, by clear h0 h1 h2; grind, hx⟩⟩
        · change Q (some (.int (-3))) (z, N, I, L, R)
          exact h1 (by clear h0 h1 h2; grind) (by clear h0 h1 h2; grind)
    · change Q (some (.int (-2))) (z, N, I, L, R)
      exact h0 (by clear h0 h1 h2; grind)
theorem c_X12_part {d z : Nat} {N : Nat → Nat} {I : Nat → Nat → Int32} {L : Nat → Nat → Int64} {R : Nat → Nat → Option Nat} {Q : qP} {s : Int32} (hs : 0 ≤ I 65 0 ∧ I 65 0 ≤ 12) (hr : ∀ x : Int32, 0 ≤ x → x < I 65 0 → I 78 x.toNatClampNeg < 12) (h0 : ¬ (0 ≤ s ∧ s < I 65 0) → Q (some (.int (-2))) (z, N, I, L, R)) (h1 : 0 ≤ s ∧ s < I 65 0 → I 78 s.toNatClampNeg < 0 → Q (some (.int (-3))) (z, N, I, L, R)) (h2 : 0 ≤ s ∧ s < I 65 0 → ¬ I 78 s.toNatClampNeg < 0 → Q (some (.int 1)) (z, N, qRow (qRow I 78 (uRt (I 78) s)) 79 (uLf (I 78) (I 79) s), L, R)) : qWP (d + 3) 215 [.ref 65, .int s] (z, N, I, L, R) Q := by
  refine qWP_of m_X12_part rfl rfl [(0, .ref 65), (1, .int s)] rfl ?_
  refine qJ_run (qWP_mono _) [] 400 ?_
  refine ⟨⟨Nat.le_refl _, Nat.le_refl _⟩, ?_⟩
  refine c_X12_isStone fun v1 hv1 => ?_
  refine ⟨fun (c1 : ¬ v1 = 0) => ?_, fun (c1 : v1 = 0) => ?_⟩
  · refine ⟨?_, ?_⟩
    · exact vb (x := s) (N := 12) 12 (by decide) (by clear h0 h1 h2; grind) (by clear h0 h1 h2; grind)
    refine ⟨fun (c2 : 0 ≤ (I 78 ((s).toNatClampNeg))) => ?_, fun (c2 : ¬ 0 ≤ (I 78 ((s).toNatClampNeg))) => ?_⟩
    · refine ⟨⟨Nat.le_refl _, Nat.le_refl _⟩, ?_⟩
      refine c_X12_parts (d := d + 1) (by clear h0 h1 h2; grind) (fun h9 => hr s h9 (by clear h0 h1 h2; grind)) ?_
      change Q (some (.int 1)) (z, N, qRow (qRow I 78 (uRt (I 78) s)) 79 (uLf (I 78) (I 79) s), L, R)
      exact h2 (by clear h0 h1 h2; grind) (by clear h0 h1 h2; grind)
    · change Q (some (.int (-3))) (z, N, I, L, R)
      exact h1 (by clear h0 h1 h2; grind) (by clear h0 h1 h2; grind)
  · change Q (some (.int (-2))) (z, N, I, L, R)
    exact h0 (by clear h0 h1 h2; grind)
theorem ed_hnb {n tl tl' : Int32} {l mk mk' nb rt lf : Nat → Int32} (h : REd n l tl tl' mk mk' nb rt lf) (hn : n ≤ 12) : ∀ x : Int32, 0 ≤ x → x < 12 → -1 ≤ nb (nX x 1) ∧ nb (nX x 1) < 12 := fun x h0 hx => by
  by_cases hc : x < n
  · rw [(ed_nb h hn h0 hc).2]
    have g := h.2.2.2.2.1 x h0 hc
    exact ⟨g.2.2.2.2.1, Int32.lt_of_lt_of_le g.2.2.2.2.2.1 hn⟩
  · rw [(REd_6 h x (by grind) hx).2]
    decide
theorem op_room {M : qM} (hI : qInv M) (a : Int32) (b : Int32) : qOp 140 211 [.int a, .int b] M := by
  obtain ⟨z, N, I, L, R⟩ := M
  obtain ⟨hst, hSt, hHa, hTo, hTp, hEd, hDa, hPe, hTr, hTx, hMk, hKA⟩ := hI
  dsimp only at hst hSt hHa hTo hTp hEd hDa hPe hTr hTx hMk hKA
  have hs : 0 ≤ I 3 2 ∧ I 3 2 ≤ 12 := ⟨hSt.2.1, hSt.2.2.1⟩
  have hs2 : 0 ≤ I 65 0 ∧ I 65 0 ≤ 12 := by rw [hSt.1]; exact hs
  have hl : ∀ x : Int32, 0 ≤ x → x < I 3 2 → 1 ≤ I 4 x.toNatClampNeg ∧ I 4 x.toNatClampNeg ≤ 4 := fun x a b => ⟨(hSt.2.2.2 x a b).2.1, (hSt.2.2.2 x a b).2.2.1⟩
  have hl2 : ∀ x : Int32, 0 ≤ x → x < I 65 0 → 1 ≤ I 66 x.toNatClampNeg ∧ I 66 x.toNatClampNeg ≤ 4 := fun x a b => by
    rw [hSt.1] at b
    rw [(hSt.2.2.2 x a b).1]
    exact hl x a b
  have hnb : ∀ x : Int32, 0 ≤ x → x < 12 → -1 ≤ I 45 (nX x 1) ∧ I 45 (nX x 1) < 12 := ed_hnb hEd hs.2
  have hr2 : ∀ x : Int32, 0 ≤ x → x < I 65 0 → I 78 x.toNatClampNeg < I 65 0 ∧ I 79 x.toNatClampNeg < I 65 0 := fun x a b => by
    rw [hSt.1] at b ⊢
    exact ⟨(hEd.2.2.2.2.1 x a b).2.2.2.2.2.1, (hEd.2.2.2.2.1 x a b).2.2.2.1⟩
  have hr12 : ∀ x : Int32, 0 ≤ x → x < I 65 0 → I 78 x.toNatClampNeg < 12 := fun x a b => Int32.lt_of_lt_of_le (hr2 x a b).1 hs2.2
  refine c_X11_room hs hl fun v hv => ?_
  refine ⟨_, rfl, ⟨rfl, rfl, hst⟩, ?_⟩
  refine c_X12_room hs2 hl2 fun w hw => ?_
  have e : w = v := by
    rw [hv, hw]
    rw [hSt.1]
    by_cases hc : (0 ≤ a ∧ a < I 3 2) ∧ 0 ≤ b ∧ b < I 3 2
    · rw [if_pos hc, if_pos hc, hEd.1]
      have ha := hl a hc.1.1 hc.1.2
      exact fRoom_eq (fun j hj => (hEd.2.2.2.1 j hj).1) ⟨hc.1.1, Int32.lt_of_lt_of_le hc.1.2 hs.2⟩ ⟨hc.2.1, Int32.lt_of_lt_of_le hc.2.2 hs.2⟩ (hSt.2.2.2 a hc.1.1 hc.1.2).1 (hSt.2.2.2 b hc.2.1 hc.2.2).1 ⟨Int32.le_trans (by decide) ha.1, ha.2⟩
    · rw [if_neg hc, if_neg hc]
  subst e
  exact ⟨rfl, ⟨by first | rfl | (simp (decide := true) only [q2_ne, q2_r1, uI_at, uI_nj, qRow_ne, qRow_at]), rfl⟩, ⟨hst, (by first | exact hSt | (simp (decide := true) only [q2_ne, q2_r1, uI_at, uI_nj, qRow_ne, qRow_at]; exact hSt)), (by first | exact hHa | (simp (decide := true) only [q2_ne, q2_r1, uI_at, uI_nj, qRow_ne, qRow_at]; exact hHa)), (by first | exact hTo | (simp (decide := true) only [q2_ne, q2_r1, uI_at, uI_nj, qRow_ne, qRow_at]; exact hTo)), (by first | exact hTp | (simp (decide := true) only [q2_ne, q2_r1, uI_at, uI_nj, qRow_ne, qRow_at]; exact hTp)), (by first | exact hEd | (simp (decide := true) only [q2_ne, q2_r1, uI_at, uI_nj, qRow_ne, qRow_at]; exact hEd)), (by first | exact hDa | (simp (decide := true) only [q2_ne, q2_r1, uI_at, uI_nj, qRow_ne, qRow_at]; exact hDa)), (by first | exact hPe | (simp (decide := true) only [q2_ne, q2_r1, uI_at, uI_nj, qRow_ne, qRow_at]; exact hPe)), (by first | exact hTr | (simp (decide := true) only [q2_ne, q2_r1, uI_at, uI_nj, qRow_ne, qRow_at]; exact hTr)), (RTx_of hTx (by simp (decide := true) only [q2_ne, q2_r1, uI_at, uI_nj, qRow_ne, qRow_at]) (by simp (decide := true) only [q2_ne, q2_r1, uI_at, uI_nj, qRow_ne, qRow_at]) (by simp (decide := true) only [q2_ne, q2_r1, uI_at, uI_nj, qRow_ne, qRow_at]) (by simp (decide := true) only [q2_ne, q2_r1, uI_at, uI_nj, qRow_ne, qRow_at]) (by simp (decide := true) only [q2_ne, q2_r1, uI_at, uI_nj, qRow_ne, qRow_at]) (fun k hk => by (try dsimp only); repeat first | rfl | rw [q2_ne (by omega)] | rw [qRow_ne (by omega)]) (fun k hk => by (try dsimp only); repeat first | rfl | rw [q2_ne (by omega)] | rw [qRow_ne (by omega)])), (by first | exact hMk | (simp (decide := true) only [q2_ne, q2_r1, uI_at, uI_nj, qRow_ne, qRow_at]; exact hMk)), (by first | exact hKA | (simp (decide := true) only [q2_ne, q2_r1, uI_at, uI_nj, qRow_ne, qRow_at]; exact hKA))⟩⟩
theorem op_best {M : qM} (hI : qInv M) (s : Int32) (e : Int32) : qOp 141 213 [.int s, .int e] M := by
  obtain ⟨z, N, I, L, R⟩ := M
  obtain ⟨hst, hSt, hHa, hTo, hTp, hEd, hDa, hPe, hTr, hTx, hMk, hKA⟩ := hI
  dsimp only at hst hSt hHa hTo hTp hEd hDa hPe hTr hTx hMk hKA
  have hs : 0 ≤ I 3 2 ∧ I 3 2 ≤ 12 := ⟨hSt.2.1, hSt.2.2.1⟩
  have hs2 : 0 ≤ I 65 0 ∧ I 65 0 ≤ 12 := by rw [hSt.1]; exact hs
  have hl : ∀ x : Int32, 0 ≤ x → x < I 3 2 → 1 ≤ I 4 x.toNatClampNeg ∧ I 4 x.toNatClampNeg ≤ 4 := fun x a b => ⟨(hSt.2.2.2 x a b).2.1, (hSt.2.2.2 x a b).2.2.1⟩
  have hl2 : ∀ x : Int32, 0 ≤ x → x < I 65 0 → 1 ≤ I 66 x.toNatClampNeg ∧ I 66 x.toNatClampNeg ≤ 4 := fun x a b => by
    rw [hSt.1] at b
    rw [(hSt.2.2.2 x a b).1]
    exact hl x a b
  have hnb : ∀ x : Int32, 0 ≤ x → x < 12 → -1 ≤ I 45 (nX x 1) ∧ I 45 (nX x 1) < 12 := ed_hnb hEd hs.2
  have hr2 : ∀ x : Int32, 0 ≤ x → x < I 65 0 → I 78 x.toNatClampNeg < I 65 0 ∧ I 79 x.toNatClampNeg < I 65 0 := fun x a b => by
    rw [hSt.1] at b ⊢
    exact ⟨(hEd.2.2.2.2.1 x a b).2.2.2.2.2.1, (hEd.2.2.2.2.1 x a b).2.2.2.1⟩
  have hr12 : ∀ x : Int32, 0 ≤ x → x < I 65 0 → I 78 x.toNatClampNeg < 12 := fun x a b => Int32.lt_of_lt_of_le (hr2 x a b).1 hs2.2
  refine c_X11_best hs hl fun v hv => ?_
  refine ⟨_, rfl, ⟨rfl, rfl, hst⟩, ?_⟩
  refine c_X12_best hs2 hl2 fun w hw => ?_
  have e9 : w = v := by
    rw [hv, hw]
    by_cases hc : (0 ≤ s ∧ s < I 3 2) ∧ (e = 0 ∨ e = 1)
    · rw [if_pos hc, if_pos (by rw [hSt.1]; exact hc)]
      exact best_rel hSt hEd hc.1 hc.2
    · rw [if_neg hc, if_neg (by rw [hSt.1]; exact hc)]
  subst e9
  exact ⟨rfl, ⟨by first | rfl | (simp (decide := true) only [q2_ne, q2_r1, uI_at, uI_nj, qRow_ne, qRow_at]), rfl⟩, ⟨hst, (by first | exact hSt | (simp (decide := true) only [q2_ne, q2_r1, uI_at, uI_nj, qRow_ne, qRow_at]; exact hSt)), (by first | exact hHa | (simp (decide := true) only [q2_ne, q2_r1, uI_at, uI_nj, qRow_ne, qRow_at]; exact hHa)), (by first | exact hTo | (simp (decide := true) only [q2_ne, q2_r1, uI_at, uI_nj, qRow_ne, qRow_at]; exact hTo)), (by first | exact hTp | (simp (decide := true) only [q2_ne, q2_r1, uI_at, uI_nj, qRow_ne, qRow_at]; exact hTp)), (by first | exact hEd | (simp (decide := true) only [q2_ne, q2_r1, uI_at, uI_nj, qRow_ne, qRow_at]; exact hEd)), (by first | exact hDa | (simp (decide := true) only [q2_ne, q2_r1, uI_at, uI_nj, qRow_ne, qRow_at]; exact hDa)), (by first | exact hPe | (simp (decide := true) only [q2_ne, q2_r1, uI_at, uI_nj, qRow_ne, qRow_at]; exact hPe)), (by first | exact hTr | (simp (decide := true) only [q2_ne, q2_r1, uI_at, uI_nj, qRow_ne, qRow_at]; exact hTr)), (RTx_of hTx (by simp (decide := true) only [q2_ne, q2_r1, uI_at, uI_nj, qRow_ne, qRow_at]) (by simp (decide := true) only [q2_ne, q2_r1, uI_at, uI_nj, qRow_ne, qRow_at]) (by simp (decide := true) only [q2_ne, q2_r1, uI_at, uI_nj, qRow_ne, qRow_at]) (by simp (decide := true) only [q2_ne, q2_r1, uI_at, uI_nj, qRow_ne, qRow_at]) (by simp (decide := true) only [q2_ne, q2_r1, uI_at, uI_nj, qRow_ne, qRow_at]) (fun k hk => by (try dsimp only); repeat first | rfl | rw [q2_ne (by omega)] | rw [qRow_ne (by omega)]) (fun k hk => by (try dsimp only); repeat first | rfl | rw [q2_ne (by omega)] | rw [qRow_ne (by omega)])), (by first | exact hMk | (simp (decide := true) only [q2_ne, q2_r1, uI_at, uI_nj, qRow_ne, qRow_at]; exact hMk)), (by first | exact hKA | (simp (decide := true) only [q2_ne, q2_r1, uI_at, uI_nj, qRow_ne, qRow_at]; exact hKA))⟩⟩
theorem op_joined {M : qM} (hI : qInv M) (s : Int32) (e : Int32) : qOp 144 216 [.int s, .int e] M := by
  obtain ⟨z, N, I, L, R⟩ := M
  obtain ⟨hst, hSt, hHa, hTo, hTp, hEd, hDa, hPe, hTr, hTx, hMk, hKA⟩ := hI
  dsimp only at hst hSt hHa hTo hTp hEd hDa hPe hTr hTx hMk hKA
  have hs : 0 ≤ I 3 2 ∧ I 3 2 ≤ 12 := ⟨hSt.2.1, hSt.2.2.1⟩
  have hs2 : 0 ≤ I 65 0 ∧ I 65 0 ≤ 12 := by rw [hSt.1]; exact hs
  have hl : ∀ x : Int32, 0 ≤ x → x < I 3 2 → 1 ≤ I 4 x.toNatClampNeg ∧ I 4 x.toNatClampNeg ≤ 4 := fun x a b => ⟨(hSt.2.2.2 x a b).2.1, (hSt.2.2.2 x a b).2.2.1⟩
  have hl2 : ∀ x : Int32, 0 ≤ x → x < I 65 0 → 1 ≤ I 66 x.toNatClampNeg ∧ I 66 x.toNatClampNeg ≤ 4 := fun x a b => by
    rw [hSt.1] at b
    rw [(hSt.2.2.2 x a b).1]
    exact hl x a b
  have hnb : ∀ x : Int32, 0 ≤ x → x < 12 → -1 ≤ I 45 (nX x 1) ∧ I 45 (nX x 1) < 12 := ed_hnb hEd hs.2
  have hr2 : ∀ x : Int32, 0 ≤ x → x < I 65 0 → I 78 x.toNatClampNeg < I 65 0 ∧ I 79 x.toNatClampNeg < I 65 0 := fun x a b => by
    rw [hSt.1] at b ⊢
    exact ⟨(hEd.2.2.2.2.1 x a b).2.2.2.2.2.1, (hEd.2.2.2.2.1 x a b).2.2.2.1⟩
  have hr12 : ∀ x : Int32, 0 ≤ x → x < I 65 0 → I 78 x.toNatClampNeg < 12 := fun x a b => Int32.lt_of_lt_of_le (hr2 x a b).1 hs2.2
  refine c_X11_joined hs fun v hv => ?_
  refine ⟨_, rfl, ⟨rfl, rfl, hst⟩, ?_⟩
  refine c_X12_joined hs2 fun w hw => ?_
  have e9 : w = v := by
    rw [hv, hw]
    by_cases hc : (0 ≤ s ∧ s < I 3 2) ∧ (e = 0 ∨ e = 1)
    · rw [if_pos hc, if_pos (by rw [hSt.1]; exact hc)]
      have g := ed_nb hEd hs.2 hc.1.1 hc.1.2
      rcases hc.2 with rfl | rfl
      · rw [if_neg (by decide), g.1]
      · rw [if_pos rfl, g.2]
    · rw [if_neg hc, if_neg (by rw [hSt.1]; exact hc)]
  subst e9
  exact ⟨rfl, ⟨by first | rfl | (simp (decide := true) only [q2_ne, q2_r1, uI_at, uI_nj, qRow_ne, qRow_at]), rfl⟩, ⟨hst, (by first | exact hSt | (simp (decide := true) only [q2_ne, q2_r1, uI_at, uI_nj, qRow_ne, qRow_at]; exact hSt)), (by first | exact hHa | (simp (decide := true) only [q2_ne, q2_r1, uI_at, uI_nj, qRow_ne, qRow_at]; exact hHa)), (by first | exact hTo | (simp (decide := true) only [q2_ne, q2_r1, uI_at, uI_nj, qRow_ne, qRow_at]; exact hTo)), (by first | exact hTp | (simp (decide := true) only [q2_ne, q2_r1, uI_at, uI_nj, qRow_ne, qRow_at]; exact hTp)), (by first | exact hEd | (simp (decide := true) only [q2_ne, q2_r1, uI_at, uI_nj, qRow_ne, qRow_at]; exact hEd)), (by first | exact hDa | (simp (decide := true) only [q2_ne, q2_r1, uI_at, uI_nj, qRow_ne, qRow_at]; exact hDa)), (by first | exact hPe | (simp (decide := true) only [q2_ne, q2_r1, uI_at, uI_nj, qRow_ne, qRow_at]; exact hPe)), (by first | exact hTr | (simp (decide := true) only [q2_ne, q2_r1, uI_at, uI_nj, qRow_ne, qRow_at]; exact hTr)), (RTx_of hTx (by simp (decide := true) only [q2_ne, q2_r1, uI_at, uI_nj, qRow_ne, qRow_at]) (by simp (decide := true) only [q2_ne, q2_r1, uI_at, uI_nj, qRow_ne, qRow_at]) (by simp (decide := true) only [q2_ne, q2_r1, uI_at, uI_nj, qRow_ne, qRow_at]) (by simp (decide := true) only [q2_ne, q2_r1, uI_at, uI_nj, qRow_ne, qRow_at]) (by simp (decide := true) only [q2_ne, q2_r1, uI_at, uI_nj, qRow_ne, qRow_at]) (fun k hk => by (try dsimp only); repeat first | rfl | rw [q2_ne (by omega)] | rw [qRow_ne (by omega)]) (fun k hk => by (try dsimp only); repeat first | rfl | rw [q2_ne (by omega)] | rw [qRow_ne (by omega)])), (by first | exact hMk | (simp (decide := true) only [q2_ne, q2_r1, uI_at, uI_nj, qRow_ne, qRow_at]; exact hMk)), (by first | exact hKA | (simp (decide := true) only [q2_ne, q2_r1, uI_at, uI_nj, qRow_ne, qRow_at]; exact hKA))⟩⟩
theorem op_edge {M : qM} (hI : qInv M) (s : Int32) (e : Int32) (l : Int32) (y : Int32) : qOp 138 208 [.int s, .int e, .int l, .int y] M := by
  obtain ⟨z, N, I, L, R⟩ := M
  obtain ⟨hst, hSt, hHa, hTo, hTp, hEd, hDa, hPe, hTr, hTx, hMk, hKA⟩ := hI
  dsimp only at hst hSt hHa hTo hTp hEd hDa hPe hTr hTx hMk hKA
  have hs : 0 ≤ I 3 2 ∧ I 3 2 ≤ 12 := ⟨hSt.2.1, hSt.2.2.1⟩
  have hs2 : 0 ≤ I 65 0 ∧ I 65 0 ≤ 12 := by rw [hSt.1]; exact hs
  have hl : ∀ x : Int32, 0 ≤ x → x < I 3 2 → 1 ≤ I 4 x.toNatClampNeg ∧ I 4 x.toNatClampNeg ≤ 4 := fun x a b => ⟨(hSt.2.2.2 x a b).2.1, (hSt.2.2.2 x a b).2.2.1⟩
  have hl2 : ∀ x : Int32, 0 ≤ x → x < I 65 0 → 1 ≤ I 66 x.toNatClampNeg ∧ I 66 x.toNatClampNeg ≤ 4 := fun x a b => by
    rw [hSt.1] at b
    rw [(hSt.2.2.2 x a b).1]
    exact hl x a b
  have hnb : ∀ x : Int32, 0 ≤ x → x < 12 → -1 ≤ I 45 (nX x 1) ∧ I 45 (nX x 1) < 12 := ed_hnb hEd hs.2
  have hr2 : ∀ x : Int32, 0 ≤ x → x < I 65 0 → I 78 x.toNatClampNeg < I 65 0 ∧ I 79 x.toNatClampNeg < I 65 0 := fun x a b => by
    rw [hSt.1] at b ⊢
    exact ⟨(hEd.2.2.2.2.1 x a b).2.2.2.2.2.1, (hEd.2.2.2.2.1 x a b).2.2.2.1⟩
  have hr12 : ∀ x : Int32, 0 ≤ x → x < I 65 0 → I 78 x.toNatClampNeg < 12 := fun x a b => Int32.lt_of_lt_of_le (hr2 x a b).1 hs2.2
  refine c_X11_edge hs hl hnb (fun a0 => ?_) (fun a0 => ?_)
  · refine ⟨_, rfl, ⟨rfl, rfl, hst⟩, ?_⟩
    refine c_X12_edge (by first | exact hs2 | (simp (decide := true) only [q2_ne, q2_r1, uI_at, uI_nj, qRow_ne, qRow_at]; exact hs2)) (by first | exact hl2 | (simp (decide := true) only [q2_ne, q2_r1, uI_at, uI_nj, qRow_ne, qRow_at]; exact hl2)) (by first | exact hr2 | (simp (decide := true) only [q2_ne, q2_r1, uI_at, uI_nj, qRow_ne, qRow_at]; exact hr2)) (fun b0 => ?_) (fun b0 => ?_)
    · exact ⟨rfl, ⟨by first | rfl | (simp (decide := true) only [q2_ne, q2_r1, uI_at, uI_nj, qRow_ne, qRow_at]), rfl⟩, ⟨hst, (by first | exact hSt | (simp (decide := true) only [q2_ne, q2_r1, uI_at, uI_nj, qRow_ne, qRow_at]; exact hSt)), (by first | exact hHa | (simp (decide := true) only [q2_ne, q2_r1, uI_at, uI_nj, qRow_ne, qRow_at]; exact hHa)), (by first | exact hTo | (simp (decide := true) only [q2_ne, q2_r1, uI_at, uI_nj, qRow_ne, qRow_at]; exact hTo)), (by first | exact hTp | (simp (decide := true) only [q2_ne, q2_r1, uI_at, uI_nj, qRow_ne, qRow_at]; exact hTp)), (by first | exact hEd | (simp (decide := true) only [q2_ne, q2_r1, uI_at, uI_nj, qRow_ne, qRow_at]; exact hEd)), (by first | exact hDa | (simp (decide := true) only [q2_ne, q2_r1, uI_at, uI_nj, qRow_ne, qRow_at]; exact hDa)), (by first | exact hPe | (simp (decide := true) only [q2_ne, q2_r1, uI_at, uI_nj, qRow_ne, qRow_at]; exact hPe)), (by first | exact hTr | (simp (decide := true) only [q2_ne, q2_r1, uI_at, uI_nj, qRow_ne, qRow_at]; exact hTr)), (RTx_of hTx (by simp (decide := true) only [q2_ne, q2_r1, uI_at, uI_nj, qRow_ne, qRow_at]) (by simp (decide := true) only [q2_ne, q2_r1, uI_at, uI_nj, qRow_ne, qRow_at]) (by simp (decide := true) only [q2_ne, q2_r1, uI_at, uI_nj, qRow_ne, qRow_at]) (by simp (decide := true) only [q2_ne, q2_r1, uI_at, uI_nj, qRow_ne, qRow_at]) (by simp (decide := true) only [q2_ne, q2_r1, uI_at, uI_nj, qRow_ne, qRow_at]) (fun k hk => by (try dsimp only); repeat first | rfl | rw [q2_ne (by omega)] | rw [qRow_ne (by omega)]) (fun k hk => by (try dsimp only); repeat first | rfl | rw [q2_ne (by omega)] | rw [qRow_ne (by omega)])), (by first | exact hMk | (simp (decide := true) only [q2_ne, q2_r1, uI_at, uI_nj, qRow_ne, qRow_at]; exact hMk)), (by first | exact hKA | (simp (decide := true) only [q2_ne, q2_r1, uI_at, uI_nj, qRow_ne, qRow_at]; exact hKA))⟩⟩
    · exact absurd ⟨(line_eq hSt).mp b0.1, b0.2⟩ a0
  · refine ⟨_, rfl, ⟨by simp (decide := true) only [q2_ne, q2_r1, uI_at, uI_nj, qRow_ne, qRow_at], rfl, hst⟩, ?_⟩
    refine c_X12_edge (by first | exact hs2 | (simp (decide := true) only [q2_ne, q2_r1, uI_at, uI_nj, qRow_ne, qRow_at]; exact hs2)) (by first | exact hl2 | (simp (decide := true) only [q2_ne, q2_r1, uI_at, uI_nj, qRow_ne, qRow_at]; exact hl2)) (by first | exact hr2 | (simp (decide := true) only [q2_ne, q2_r1, uI_at, uI_nj, qRow_ne, qRow_at]; exact hr2)) (fun b0 => ?_) (fun b0 => ?_)
    · (try simp (decide := true) only [q2_ne, q2_r1, uI_at, uI_nj, qRow_ne, qRow_at] at b0)
      exact absurd ⟨(line_eq hSt).mpr a0.1, a0.2⟩ b0
    · have E1 := REd_untie (REd_mark (j := mX s e l) hEd a0.2.2) hs.2 a0.1.1.2
      have e1 := (ed_nb E1 hs.2 a0.1.1.1 a0.1.1.2).1
      have E2 := REd_untie E1 hs.2 (E1.2.2.2.2.1 s a0.1.1.1 a0.1.1.2).2.2.2.1
      have hm := (hEd.2.2.2.1 _ (mX_n (s := s) (e := e) (l := l) ⟨a0.1.1.1, Int32.lt_of_lt_of_le a0.1.1.2 hs.2⟩ a0.2.1 ⟨a0.1.2.1, Int32.lt_of_lt_of_le a0.1.2.2 (hl s a0.1.1.1 a0.1.1.2).2⟩).2.1).1
      exact ⟨by simp (decide := true) only [q2_ne, q2_r1, uI_at, uI_nj, qRow_ne, qRow_at]; rw [hm], ⟨by first | rfl | (simp (decide := true) only [q2_ne, q2_r1, uI_at, uI_nj, qRow_ne, qRow_at]), rfl⟩, ⟨hst, (by first | exact hSt | (simp (decide := true) only [q2_ne, q2_r1, uI_at, uI_nj, qRow_ne, qRow_at]; exact hSt)), (by first | exact hHa | (simp (decide := true) only [q2_ne, q2_r1, uI_at, uI_nj, qRow_ne, qRow_at]; exact hHa)), (by first | exact hTo | (simp (decide := true) only [q2_ne, q2_r1, uI_at, uI_nj, qRow_ne, qRow_at]; exact hTo)), (by first | exact hTp | (simp (decide := true) only [q2_ne, q2_r1, uI_at, uI_nj, qRow_ne, qRow_at]; exact hTp)), (by simp (decide := true) only [q2_ne, q2_r1, uI_at, uI_nj, qRow_ne, qRow_at]; rw [e1]; exact E2), (by first | exact hDa | (simp (decide := true) only [q2_ne, q2_r1, uI_at, uI_nj, qRow_ne, qRow_at]; exact hDa)), (by first | exact hPe | (simp (decide := true) only [q2_ne, q2_r1, uI_at, uI_nj, qRow_ne, qRow_at]; exact hPe)), (by first | exact hTr | (simp (decide := true) only [q2_ne, q2_r1, uI_at, uI_nj, qRow_ne, qRow_at]; exact hTr)), (RTx_of hTx (by simp (decide := true) only [q2_ne, q2_r1, uI_at, uI_nj, qRow_ne, qRow_at]) (by simp (decide := true) only [q2_ne, q2_r1, uI_at, uI_nj, qRow_ne, qRow_at]) (by simp (decide := true) only [q2_ne, q2_r1, uI_at, uI_nj, qRow_ne, qRow_at]) (by simp (decide := true) only [q2_ne, q2_r1, uI_at, uI_nj, qRow_ne, qRow_at]) (by simp (decide := true) only [q2_ne, q2_r1, uI_at, uI_nj, qRow_ne, qRow_at]) (fun k hk => by (try dsimp only); repeat first | rfl | rw [q2_ne (by omega)] | rw [qRow_ne (by omega)]) (fun k hk => by (try dsimp only); repeat first | rfl | rw [q2_ne (by omega)] | rw [qRow_ne (by omega)])), (by first | exact hMk | (simp (decide := true) only [q2_ne, q2_r1, uI_at, uI_nj, qRow_ne, qRow_at]; exact hMk)), (by first | exact hKA | (simp (decide := true) only [q2_ne, q2_r1, uI_at, uI_nj, qRow_ne, qRow_at]; exact hKA))⟩⟩

theorem op_tolerance {M : qM} (hI : qInv M) (t : Int32) : qOp 139 209 [.int t] M := by
  obtain ⟨z, N, I, L, R⟩ := M
  obtain ⟨hst, hSt, hHa, hTo, hTp, hEd, hDa, hPe, hTr, hTx, hMk, hKA⟩ := hI
  dsimp only at hst hSt hHa hTo hTp hEd hDa hPe hTr hTx hMk hKA
  have hs : 0 ≤ I 3 2 ∧ I 3 2 ≤ 12 := ⟨hSt.2.1, hSt.2.2.1⟩
  have hs2 : 0 ≤ I 65 0 ∧ I 65 0 ≤ 12 := by rw [hSt.1]; exact hs
  have hl : ∀ x : Int32, 0 ≤ x → x < I 3 2 → 1 ≤ I 4 x.toNatClampNeg ∧ I 4 x.toNatClampNeg ≤ 4 := fun x a b => ⟨(hSt.2.2.2 x a b).2.1, (hSt.2.2.2 x a b).2.2.1⟩
  have hl2 : ∀ x : Int32, 0 ≤ x → x < I 65 0 → 1 ≤ I 66 x.toNatClampNeg ∧ I 66 x.toNatClampNeg ≤ 4 := fun x a b => by
    rw [hSt.1] at b
    rw [(hSt.2.2.2 x a b).1]
    exact hl x a b
  have hnb : ∀ x : Int32, 0 ≤ x → x < 12 → -1 ≤ I 45 (nX x 1) ∧ I 45 (nX x 1) < 12 := ed_hnb hEd hs.2
  have hr2 : ∀ x : Int32, 0 ≤ x → x < I 65 0 → I 78 x.toNatClampNeg < I 65 0 ∧ I 79 x.toNatClampNeg < I 65 0 := fun x a b => by
    rw [hSt.1] at b ⊢
    exact ⟨(hEd.2.2.2.2.1 x a b).2.2.2.2.2.1, (hEd.2.2.2.2.1 x a b).2.2.2.1⟩
  have hr12 : ∀ x : Int32, 0 ≤ x → x < I 65 0 → I 78 x.toNatClampNeg < 12 := fun x a b => Int32.lt_of_lt_of_le (hr2 x a b).1 hs2.2
  refine c_X11_tolerance hst (fun a0 => ?_) (fun a0 => ?_)
  · refine ⟨_, rfl, ⟨rfl, rfl, hst⟩, ?_⟩
    refine c_X12_tolerance (by first | exact hs2 | (simp (decide := true) only [q2_ne, q2_r1, uI_at, uI_nj, qRow_ne, qRow_at]; exact hs2)) (by first | exact hr12 | (simp (decide := true) only [q2_ne, q2_r1, uI_at, uI_nj, qRow_ne, qRow_at]; exact hr12)) (fun b0 => ?_) (fun b0 => ?_)
    · exact ⟨rfl, ⟨by first | rfl | (simp (decide := true) only [q2_ne, q2_r1, uI_at, uI_nj, qRow_ne, qRow_at]), rfl⟩, ⟨hst, (by first | exact hSt | (simp (decide := true) only [q2_ne, q2_r1, uI_at, uI_nj, qRow_ne, qRow_at]; exact hSt)), (by first | exact hHa | (simp (decide := true) only [q2_ne, q2_r1, uI_at, uI_nj, qRow_ne, qRow_at]; exact hHa)), (by first | exact hTo | (simp (decide := true) only [q2_ne, q2_r1, uI_at, uI_nj, qRow_ne, qRow_at]; exact hTo)), (by first | exact hTp | (simp (decide := true) only [q2_ne, q2_r1, uI_at, uI_nj, qRow_ne, qRow_at]; exact hTp)), (by first | exact hEd | (simp (decide := true) only [q2_ne, q2_r1, uI_at, uI_nj, qRow_ne, qRow_at]; exact hEd)), (by first | exact hDa | (simp (decide := true) only [q2_ne, q2_r1, uI_at, uI_nj, qRow_ne, qRow_at]; exact hDa)), (by first | exact hPe | (simp (decide := true) only [q2_ne, q2_r1, uI_at, uI_nj, qRow_ne, qRow_at]; exact hPe)), (by first | exact hTr | (simp (decide := true) only [q2_ne, q2_r1, uI_at, uI_nj, qRow_ne, qRow_at]; exact hTr)), (RTx_of hTx (by simp (decide := true) only [q2_ne, q2_r1, uI_at, uI_nj, qRow_ne, qRow_at]) (by simp (decide := true) only [q2_ne, q2_r1, uI_at, uI_nj, qRow_ne, qRow_at]) (by simp (decide := true) only [q2_ne, q2_r1, uI_at, uI_nj, qRow_ne, qRow_at]) (by simp (decide := true) only [q2_ne, q2_r1, uI_at, uI_nj, qRow_ne, qRow_at]) (by simp (decide := true) only [q2_ne, q2_r1, uI_at, uI_nj, qRow_ne, qRow_at]) (fun k hk => by (try dsimp only); repeat first | rfl | rw [q2_ne (by omega)] | rw [qRow_ne (by omega)]) (fun k hk => by (try dsimp only); repeat first | rfl | rw [q2_ne (by omega)] | rw [qRow_ne (by omega)])), (by first | exact hMk | (simp (decide := true) only [q2_ne, q2_r1, uI_at, uI_nj, qRow_ne, qRow_at]; exact hMk)), (by first | exact hKA | (simp (decide := true) only [q2_ne, q2_r1, uI_at, uI_nj, qRow_ne, qRow_at]; exact hKA))⟩⟩
    · exact absurd b0 a0
  · refine ⟨_, rfl, ⟨by simp (decide := true) only [q2_ne, q2_r1, uI_at, uI_nj, qRow_ne, qRow_at], rfl, hst⟩, ?_⟩
    refine c_X12_tolerance (by first | exact hs2 | (simp (decide := true) only [q2_ne, q2_r1, uI_at, uI_nj, qRow_ne, qRow_at]; exact hs2)) (by first | exact hr12 | (simp (decide := true) only [q2_ne, q2_r1, uI_at, uI_nj, qRow_ne, qRow_at]; exact hr12)) (fun b0 => ?_) (fun b0 => ?_)
    · exact absurd a0 b0
    · obtain ⟨⟨nb', E1⟩, E2⟩ := tol_rel hEd hs
      have E3 := REd_all (tl2 := t) (nb' := fun i => if i < 24 then -1 else I 45 i) E1 hs E2 (fun j hj => if_pos hj) a0
      exact ⟨by simp (decide := true) only [q2_ne, q2_r1, uI_at, uI_nj, qRow_ne, qRow_at]; rw [hEd.1], ⟨by first | rfl | (simp (decide := true) only [q2_ne, q2_r1, uI_at, uI_nj, qRow_ne, qRow_at]), rfl⟩, ⟨hst, (by first | exact hSt | (simp (decide := true) only [q2_ne, q2_r1, uI_at, uI_nj, qRow_ne, qRow_at]; exact hSt)), (by first | exact hHa | (simp (decide := true) only [q2_ne, q2_r1, uI_at, uI_nj, qRow_ne, qRow_at]; exact hHa)), (by first | exact hTo | (simp (decide := true) only [q2_ne, q2_r1, uI_at, uI_nj, qRow_ne, qRow_at]; exact hTo)), (by first | exact hTp | (simp (decide := true) only [q2_ne, q2_r1, uI_at, uI_nj, qRow_ne, qRow_at]; exact hTp)), (by simp (decide := true) only [q2_ne, q2_r1, uI_at, uI_nj, qRow_ne, qRow_at]; rw [hSt.1]; exact E3), (by first | exact hDa | (simp (decide := true) only [q2_ne, q2_r1, uI_at, uI_nj, qRow_ne, qRow_at]; exact hDa)), (by first | exact hPe | (simp (decide := true) only [q2_ne, q2_r1, uI_at, uI_nj, qRow_ne, qRow_at]; exact hPe)), (by first | exact hTr | (simp (decide := true) only [q2_ne, q2_r1, uI_at, uI_nj, qRow_ne, qRow_at]; exact hTr)), (RTx_of hTx (by simp (decide := true) only [q2_ne, q2_r1, uI_at, uI_nj, qRow_ne, qRow_at]) (by simp (decide := true) only [q2_ne, q2_r1, uI_at, uI_nj, qRow_ne, qRow_at]) (by simp (decide := true) only [q2_ne, q2_r1, uI_at, uI_nj, qRow_ne, qRow_at]) (by simp (decide := true) only [q2_ne, q2_r1, uI_at, uI_nj, qRow_ne, qRow_at]) (by simp (decide := true) only [q2_ne, q2_r1, uI_at, uI_nj, qRow_ne, qRow_at]) (fun k hk => by (try dsimp only); repeat first | rfl | rw [q2_ne (by omega)] | rw [qRow_ne (by omega)]) (fun k hk => by (try dsimp only); repeat first | rfl | rw [q2_ne (by omega)] | rw [qRow_ne (by omega)])), (by first | exact hMk | (simp (decide := true) only [q2_ne, q2_r1, uI_at, uI_nj, qRow_ne, qRow_at]; exact hMk)), (by first | exact hKA | (simp (decide := true) only [q2_ne, q2_r1, uI_at, uI_nj, qRow_ne, qRow_at]; exact hKA))⟩⟩

theorem op_join {M : qM} (hI : qInv M) (a : Int32) (b : Int32) : qOp 142 214 [.int a, .int b] M := by
  obtain ⟨z, N, I, L, R⟩ := M
  obtain ⟨hst, hSt, hHa, hTo, hTp, hEd, hDa, hPe, hTr, hTx, hMk, hKA⟩ := hI
  dsimp only at hst hSt hHa hTo hTp hEd hDa hPe hTr hTx hMk hKA
  have hs : 0 ≤ I 3 2 ∧ I 3 2 ≤ 12 := ⟨hSt.2.1, hSt.2.2.1⟩
  have hs2 : 0 ≤ I 65 0 ∧ I 65 0 ≤ 12 := by rw [hSt.1]; exact hs
  have hl : ∀ x : Int32, 0 ≤ x → x < I 3 2 → 1 ≤ I 4 x.toNatClampNeg ∧ I 4 x.toNatClampNeg ≤ 4 := fun x a b => ⟨(hSt.2.2.2 x a b).2.1, (hSt.2.2.2 x a b).2.2.1⟩
  have hl2 : ∀ x : Int32, 0 ≤ x → x < I 65 0 → 1 ≤ I 66 x.toNatClampNeg ∧ I 66 x.toNatClampNeg ≤ 4 := fun x a b => by
    rw [hSt.1] at b
    rw [(hSt.2.2.2 x a b).1]
    exact hl x a b
  have hnb : ∀ x : Int32, 0 ≤ x → x < 12 → -1 ≤ I 45 (nX x 1) ∧ I 45 (nX x 1) < 12 := ed_hnb hEd hs.2
  have hr2 : ∀ x : Int32, 0 ≤ x → x < I 65 0 → I 78 x.toNatClampNeg < I 65 0 ∧ I 79 x.toNatClampNeg < I 65 0 := fun x a b => by
    rw [hSt.1] at b ⊢
    exact ⟨(hEd.2.2.2.2.1 x a b).2.2.2.2.2.1, (hEd.2.2.2.2.1 x a b).2.2.2.1⟩
  have hr12 : ∀ x : Int32, 0 ≤ x → x < I 65 0 → I 78 x.toNatClampNeg < 12 := fun x a b => Int32.lt_of_lt_of_le (hr2 x a b).1 hs2.2
  obtain ⟨r, hr0⟩ := chain12 hEd hs
  have hrr : ∀ x : Int32, 0 ≤ x → x < I 65 0 → 0 ≤ I 78 x.toNatClampNeg → I 78 x.toNatClampNeg < I 65 0 ∧ r x.toNatClampNeg = r (I 78 x.toNatClampNeg).toNatClampNeg + 1 := fun x h0 hx hp => ⟨(hr2 x h0 hx).1, (hr0 x h0 (by rw [← hSt.1]; exact hx)).2 hp⟩
  have hrr12 : ∀ x : Int32, 0 ≤ x → x < I 65 0 → r x.toNatClampNeg < 12 := fun x h0 hx => (hr0 x h0 (by rw [← hSt.1]; exact hx)).1
  refine c_X11_join hs hl hnb (fun a0 => ?_) (fun a0 a1 => ?_) (fun a0 a1 => ?_)
  · refine ⟨_, rfl, ⟨rfl, rfl, hst⟩, ?_⟩
    refine c_X12_join (by first | exact hs2 | (simp (decide := true) only [q2_ne, q2_r1, uI_at, uI_nj, qRow_ne, qRow_at]; exact hs2)) (by first | exact hl2 | (simp (decide := true) only [q2_ne, q2_r1, uI_at, uI_nj, qRow_ne, qRow_at]; exact hl2)) (by first | exact hrr | (simp (decide := true) only [q2_ne, q2_r1, uI_at, uI_nj, qRow_ne, qRow_at]; exact hrr)) (by first | exact hrr12 | (simp (decide := true) only [q2_ne, q2_r1, uI_at, uI_nj, qRow_ne, qRow_at]; exact hrr12)) (fun b0 => ?_) (fun b0 b1 => ?_) (fun b0 b1 => ?_)
    · exact ⟨rfl, ⟨by first | rfl | (simp (decide := true) only [q2_ne, q2_r1, uI_at, uI_nj, qRow_ne, qRow_at]), rfl⟩, ⟨hst, (by first | exact hSt | (simp (decide := true) only [q2_ne, q2_r1, uI_at, uI_nj, qRow_ne, qRow_at]; exact hSt)), (by first | exact hHa | (simp (decide := true) only [q2_ne, q2_r1, uI_at, uI_nj, qRow_ne, qRow_at]; exact hHa)), (by first | exact hTo | (simp (decide := true) only [q2_ne, q2_r1, uI_at, uI_nj, qRow_ne, qRow_at]; exact hTo)), (by first | exact hTp | (simp (decide := true) only [q2_ne, q2_r1, uI_at, uI_nj, qRow_ne, qRow_at]; exact hTp)), (by first | exact hEd | (simp (decide := true) only [q2_ne, q2_r1, uI_at, uI_nj, qRow_ne, qRow_at]; exact hEd)), (by first | exact hDa | (simp (decide := true) only [q2_ne, q2_r1, uI_at, uI_nj, qRow_ne, qRow_at]; exact hDa)), (by first | exact hPe | (simp (decide := true) only [q2_ne, q2_r1, uI_at, uI_nj, qRow_ne, qRow_at]; exact hPe)), (by first | exact hTr | (simp (decide := true) only [q2_ne, q2_r1, uI_at, uI_nj, qRow_ne, qRow_at]; exact hTr)), (RTx_of hTx (by simp (decide := true) only [q2_ne, q2_r1, uI_at, uI_nj, qRow_ne, qRow_at]) (by simp (decide := true) only [q2_ne, q2_r1, uI_at, uI_nj, qRow_ne, qRow_at]) (by simp (decide := true) only [q2_ne, q2_r1, uI_at, uI_nj, qRow_ne, qRow_at]) (by simp (decide := true) only [q2_ne, q2_r1, uI_at, uI_nj, qRow_ne, qRow_at]) (by simp (decide := true) only [q2_ne, q2_r1, uI_at, uI_nj, qRow_ne, qRow_at]) (fun k hk => by (try dsimp only); repeat first | rfl | rw [q2_ne (by omega)] | rw [qRow_ne (by omega)]) (fun k hk => by (try dsimp only); repeat first | rfl | rw [q2_ne (by omega)] | rw [qRow_ne (by omega)])), (by first | exact hMk | (simp (decide := true) only [q2_ne, q2_r1, uI_at, uI_nj, qRow_ne, qRow_at]; exact hMk)), (by first | exact hKA | (simp (decide := true) only [q2_ne, q2_r1, uI_at, uI_nj, qRow_ne, qRow_at]; exact hKA))⟩⟩
    · exact absurd (by rw [hSt.1] at b0; exact b0) a0
    · exact absurd (by rw [hSt.1] at b0; exact b0) a0
  · have hOK1 := best_rel hSt hEd a0.1 (e := 1) (Or.inr rfl)
    have hOK2 := best_rel hSt hEd a0.2 (e := 0) (Or.inl rfl)
    have hOK3 := lead_rel (to := a) hEd hs.2 12 b (Or.inr a0.2)
    refine ⟨_, rfl, ⟨rfl, rfl, hst⟩, ?_⟩
    refine c_X12_join (by first | exact hs2 | (simp (decide := true) only [q2_ne, q2_r1, uI_at, uI_nj, qRow_ne, qRow_at]; exact hs2)) (by first | exact hl2 | (simp (decide := true) only [q2_ne, q2_r1, uI_at, uI_nj, qRow_ne, qRow_at]; exact hl2)) (by first | exact hrr | (simp (decide := true) only [q2_ne, q2_r1, uI_at, uI_nj, qRow_ne, qRow_at]; exact hrr)) (by first | exact hrr12 | (simp (decide := true) only [q2_ne, q2_r1, uI_at, uI_nj, qRow_ne, qRow_at]; exact hrr12)) (fun b0 => ?_) (fun b0 b1 => ?_) (fun b0 b1 => ?_)
    · exact absurd (by rw [hSt.1]; exact a0) b0
    · exact ⟨rfl, ⟨by first | rfl | (simp (decide := true) only [q2_ne, q2_r1, uI_at, uI_nj, qRow_ne, qRow_at]), rfl⟩, ⟨hst, (by first | exact hSt | (simp (decide := true) only [q2_ne, q2_r1, uI_at, uI_nj, qRow_ne, qRow_at]; exact hSt)), (by first | exact hHa | (simp (decide := true) only [q2_ne, q2_r1, uI_at, uI_nj, qRow_ne, qRow_at]; exact hHa)), (by first | exact hTo | (simp (decide := true) only [q2_ne, q2_r1, uI_at, uI_nj, qRow_ne, qRow_at]; exact hTo)), (by first | exact hTp | (simp (decide := true) only [q2_ne, q2_r1, uI_at, uI_nj, qRow_ne, qRow_at]; exact hTp)), (by first | exact hEd | (simp (decide := true) only [q2_ne, q2_r1, uI_at, uI_nj, qRow_ne, qRow_at]; exact hEd)), (by first | exact hDa | (simp (decide := true) only [q2_ne, q2_r1, uI_at, uI_nj, qRow_ne, qRow_at]; exact hDa)), (by first | exact hPe | (simp (decide := true) only [q2_ne, q2_r1, uI_at, uI_nj, qRow_ne, qRow_at]; exact hPe)), (by first | exact hTr | (simp (decide := true) only [q2_ne, q2_r1, uI_at, uI_nj, qRow_ne, qRow_at]; exact hTr)), (RTx_of hTx (by simp (decide := true) only [q2_ne, q2_r1, uI_at, uI_nj, qRow_ne, qRow_at]) (by simp (decide := true) only [q2_ne, q2_r1, uI_at, uI_nj, qRow_ne, qRow_at]) (by simp (decide := true) only [q2_ne, q2_r1, uI_at, uI_nj, qRow_ne, qRow_at]) (by simp (decide := true) only [q2_ne, q2_r1, uI_at, uI_nj, qRow_ne, qRow_at]) (by simp (decide := true) only [q2_ne, q2_r1, uI_at, uI_nj, qRow_ne, qRow_at]) (fun k hk => by (try dsimp only); repeat first | rfl | rw [q2_ne (by omega)] | rw [qRow_ne (by omega)]) (fun k hk => by (try dsimp only); repeat first | rfl | rw [q2_ne (by omega)] | rw [qRow_ne (by omega)])), (by first | exact hMk | (simp (decide := true) only [q2_ne, q2_r1, uI_at, uI_nj, qRow_ne, qRow_at]; exact hMk)), (by first | exact hKA | (simp (decide := true) only [q2_ne, q2_r1, uI_at, uI_nj, qRow_ne, qRow_at]; exact hKA))⟩⟩
    · rw [hOK1, hOK2, ← hOK3] at b1
      exact absurd b1 a1
  · have hOK1 := best_rel hSt hEd a0.1 (e := 1) (Or.inr rfl)
    have hOK2 := best_rel hSt hEd a0.2 (e := 0) (Or.inl rfl)
    have hOK3 := lead_rel (to := a) hEd hs.2 12 b (Or.inr a0.2)
    refine ⟨_, rfl, ⟨by simp (decide := true) only [q2_ne, q2_r1, uI_at, uI_nj, qRow_ne, qRow_at], rfl, hst⟩, ?_⟩
    refine c_X12_join (by first | exact hs2 | (simp (decide := true) only [q2_ne, q2_r1, uI_at, uI_nj, qRow_ne, qRow_at]; exact hs2)) (by first | exact hl2 | (simp (decide := true) only [q2_ne, q2_r1, uI_at, uI_nj, qRow_ne, qRow_at]; exact hl2)) (by first | exact hrr | (simp (decide := true) only [q2_ne, q2_r1, uI_at, uI_nj, qRow_ne, qRow_at]; exact hrr)) (by first | exact hrr12 | (simp (decide := true) only [q2_ne, q2_r1, uI_at, uI_nj, qRow_ne, qRow_at]; exact hrr12)) (fun b0 => ?_) (fun b0 b1 => ?_) (fun b0 b1 => ?_)
    · (try simp (decide := true) only [q2_ne, q2_r1, uI_at, uI_nj, qRow_ne, qRow_at] at b0)
      exact absurd (by rw [hSt.1]; exact a0) b0
    · (try simp (decide := true) only [q2_ne, q2_r1, uI_at, uI_nj, qRow_ne, qRow_at] at b1)
      rw [hOK1, hOK2, ← hOK3] at b1
      exact absurd a1 b1
    · have hra : I 78 a.toNatClampNeg = -1 := by
        have g := (ed_nb hEd hs.2 a0.1.1 a0.1.2).2
        have h9 := a1.1
        unfold fBest at h9
        rcases Classical.em (I 45 (nX a 1) = -1) with hq | hq
        · rw [← g]; exact hq
        · rw [if_pos hq] at h9
          have := a0.2.1
          rw [← h9] at this
          exact absurd this (by decide)
      have hlb : I 79 b.toNatClampNeg = -1 := by
        have g := (ed_nb hEd hs.2 a0.2.1 a0.2.2).1
        have h9 := a1.2.1
        unfold fBest at h9
        rcases Classical.em (I 45 (nX b 0) = -1) with hq | hq
        · rw [← g]; exact hq
        · rw [if_pos hq] at h9
          have := a0.1.1
          rw [← h9] at this
          exact absurd this (by decide)
      have E1 := REd_join hEd hs a0.1 a0.2 hra hlb (best_lines hs.1 a1.1 a0.2).symm a1.2.2
      exact ⟨rfl, ⟨by first | rfl | (simp (decide := true) only [q2_ne, q2_r1, uI_at, uI_nj, qRow_ne, qRow_at]), rfl⟩, ⟨hst, (by first | exact hSt | (simp (decide := true) only [q2_ne, q2_r1, uI_at, uI_nj, qRow_ne, qRow_at]; exact hSt)), (by first | exact hHa | (simp (decide := true) only [q2_ne, q2_r1, uI_at, uI_nj, qRow_ne, qRow_at]; exact hHa)), (by first | exact hTo | (simp (decide := true) only [q2_ne, q2_r1, uI_at, uI_nj, qRow_ne, qRow_at]; exact hTo)), (by first | exact hTp | (simp (decide := true) only [q2_ne, q2_r1, uI_at, uI_nj, qRow_ne, qRow_at]; exact hTp)), (by simp (decide := true) only [q2_ne, q2_r1, uI_at, uI_nj, qRow_ne, qRow_at]; exact E1), (by first | exact hDa | (simp (decide := true) only [q2_ne, q2_r1, uI_at, uI_nj, qRow_ne, qRow_at]; exact hDa)), (by first | exact hPe | (simp (decide := true) only [q2_ne, q2_r1, uI_at, uI_nj, qRow_ne, qRow_at]; exact hPe)), (by first | exact hTr | (simp (decide := true) only [q2_ne, q2_r1, uI_at, uI_nj, qRow_ne, qRow_at]; exact hTr)), (RTx_of hTx (by simp (decide := true) only [q2_ne, q2_r1, uI_at, uI_nj, qRow_ne, qRow_at]) (by simp (decide := true) only [q2_ne, q2_r1, uI_at, uI_nj, qRow_ne, qRow_at]) (by simp (decide := true) only [q2_ne, q2_r1, uI_at, uI_nj, qRow_ne, qRow_at]) (by simp (decide := true) only [q2_ne, q2_r1, uI_at, uI_nj, qRow_ne, qRow_at]) (by simp (decide := true) only [q2_ne, q2_r1, uI_at, uI_nj, qRow_ne, qRow_at]) (fun k hk => by (try dsimp only); repeat first | rfl | rw [q2_ne (by omega)] | rw [qRow_ne (by omega)]) (fun k hk => by (try dsimp only); repeat first | rfl | rw [q2_ne (by omega)] | rw [qRow_ne (by omega)])), (by first | exact hMk | (simp (decide := true) only [q2_ne, q2_r1, uI_at, uI_nj, qRow_ne, qRow_at]; exact hMk)), (by first | exact hKA | (simp (decide := true) only [q2_ne, q2_r1, uI_at, uI_nj, qRow_ne, qRow_at]; exact hKA))⟩⟩

theorem op_part {M : qM} (hI : qInv M) (s : Int32) : qOp 143 215 [.int s] M := by
  obtain ⟨z, N, I, L, R⟩ := M
  obtain ⟨hst, hSt, hHa, hTo, hTp, hEd, hDa, hPe, hTr, hTx, hMk, hKA⟩ := hI
  dsimp only at hst hSt hHa hTo hTp hEd hDa hPe hTr hTx hMk hKA
  have hs : 0 ≤ I 3 2 ∧ I 3 2 ≤ 12 := ⟨hSt.2.1, hSt.2.2.1⟩
  have hs2 : 0 ≤ I 65 0 ∧ I 65 0 ≤ 12 := by rw [hSt.1]; exact hs
  have hl : ∀ x : Int32, 0 ≤ x → x < I 3 2 → 1 ≤ I 4 x.toNatClampNeg ∧ I 4 x.toNatClampNeg ≤ 4 := fun x a b => ⟨(hSt.2.2.2 x a b).2.1, (hSt.2.2.2 x a b).2.2.1⟩
  have hl2 : ∀ x : Int32, 0 ≤ x → x < I 65 0 → 1 ≤ I 66 x.toNatClampNeg ∧ I 66 x.toNatClampNeg ≤ 4 := fun x a b => by
    rw [hSt.1] at b
    rw [(hSt.2.2.2 x a b).1]
    exact hl x a b
  have hnb : ∀ x : Int32, 0 ≤ x → x < 12 → -1 ≤ I 45 (nX x 1) ∧ I 45 (nX x 1) < 12 := ed_hnb hEd hs.2
  have hr2 : ∀ x : Int32, 0 ≤ x → x < I 65 0 → I 78 x.toNatClampNeg < I 65 0 ∧ I 79 x.toNatClampNeg < I 65 0 := fun x a b => by
    rw [hSt.1] at b ⊢
    exact ⟨(hEd.2.2.2.2.1 x a b).2.2.2.2.2.1, (hEd.2.2.2.2.1 x a b).2.2.2.1⟩
  have hr12 : ∀ x : Int32, 0 ≤ x → x < I 65 0 → I 78 x.toNatClampNeg < 12 := fun x a b => Int32.lt_of_lt_of_le (hr2 x a b).1 hs2.2
  refine c_X11_part hs hnb (fun a0 => ?_) (fun a0 a1 => ?_) (fun a0 a1 => ?_)
  · refine ⟨_, rfl, ⟨rfl, rfl, hst⟩, ?_⟩
    refine c_X12_part (by first | exact hs2 | (simp (decide := true) only [q2_ne, q2_r1, uI_at, uI_nj, qRow_ne, qRow_at]; exact hs2)) (by first | exact hr12 | (simp (decide := true) only [q2_ne, q2_r1, uI_at, uI_nj, qRow_ne, qRow_at]; exact hr12)) (fun b0 => ?_) (fun b0 b1 => ?_) (fun b0 b1 => ?_)
    · exact ⟨rfl, ⟨by first | rfl | (simp (decide := true) only [q2_ne, q2_r1, uI_at, uI_nj, qRow_ne, qRow_at]), rfl⟩, ⟨hst, (by first | exact hSt | (simp (decide := true) only [q2_ne, q2_r1, uI_at, uI_nj, qRow_ne, qRow_at]; exact hSt)), (by first | exact hHa | (simp (decide := true) only [q2_ne, q2_r1, uI_at, uI_nj, qRow_ne, qRow_at]; exact hHa)), (by first | exact hTo | (simp (decide := true) only [q2_ne, q2_r1, uI_at, uI_nj, qRow_ne, qRow_at]; exact hTo)), (by first | exact hTp | (simp (decide := true) only [q2_ne, q2_r1, uI_at, uI_nj, qRow_ne, qRow_at]; exact hTp)), (by first | exact hEd | (simp (decide := true) only [q2_ne, q2_r1, uI_at, uI_nj, qRow_ne, qRow_at]; exact hEd)), (by first | exact hDa | (simp (decide := true) only [q2_ne, q2_r1, uI_at, uI_nj, qRow_ne, qRow_at]; exact hDa)), (by first | exact hPe | (simp (decide := true) only [q2_ne, q2_r1, uI_at, uI_nj, qRow_ne, qRow_at]; exact hPe)), (by first | exact hTr | (simp (decide := true) only [q2_ne, q2_r1, uI_at, uI_nj, qRow_ne, qRow_at]; exact hTr)), (RTx_of hTx (by simp (decide := true) only [q2_ne, q2_r1, uI_at, uI_nj, qRow_ne, qRow_at]) (by simp (decide := true) only [q2_ne, q2_r1, uI_at, uI_nj, qRow_ne, qRow_at]) (by simp (decide := true) only [q2_ne, q2_r1, uI_at, uI_nj, qRow_ne, qRow_at]) (by simp (decide := true) only [q2_ne, q2_r1, uI_at, uI_nj, qRow_ne, qRow_at]) (by simp (decide := true) only [q2_ne, q2_r1, uI_at, uI_nj, qRow_ne, qRow_at]) (fun k hk => by (try dsimp only); repeat first | rfl | rw [q2_ne (by omega)] | rw [qRow_ne (by omega)]) (fun k hk => by (try dsimp only); repeat first | rfl | rw [q2_ne (by omega)] | rw [qRow_ne (by omega)])), (by first | exact hMk | (simp (decide := true) only [q2_ne, q2_r1, uI_at, uI_nj, qRow_ne, qRow_at]; exact hMk)), (by first | exact hKA | (simp (decide := true) only [q2_ne, q2_r1, uI_at, uI_nj, qRow_ne, qRow_at]; exact hKA))⟩⟩
    · exact absurd (by rw [hSt.1] at b0; exact b0) a0
    · exact absurd (by rw [hSt.1] at b0; exact b0) a0
  · have g0 := ed_nb hEd hs.2 a0.1 a0.2
    have g1 := (hEd.2.2.2.2.1 s a0.1 a0.2).2.2.2.2.1
    refine ⟨_, rfl, ⟨rfl, rfl, hst⟩, ?_⟩
    refine c_X12_part (by first | exact hs2 | (simp (decide := true) only [q2_ne, q2_r1, uI_at, uI_nj, qRow_ne, qRow_at]; exact hs2)) (by first | exact hr12 | (simp (decide := true) only [q2_ne, q2_r1, uI_at, uI_nj, qRow_ne, qRow_at]; exact hr12)) (fun b0 => ?_) (fun b0 b1 => ?_) (fun b0 b1 => ?_)
    · exact absurd (by rw [hSt.1]; exact a0) b0
    · exact ⟨rfl, ⟨by first | rfl | (simp (decide := true) only [q2_ne, q2_r1, uI_at, uI_nj, qRow_ne, qRow_at]), rfl⟩, ⟨hst, (by first | exact hSt | (simp (decide := true) only [q2_ne, q2_r1, uI_at, uI_nj, qRow_ne, qRow_at]; exact hSt)), (by first | exact hHa | (simp (decide := true) only [q2_ne, q2_r1, uI_at, uI_nj, qRow_ne, qRow_at]; exact hHa)), (by first | exact hTo | (simp (decide := true) only [q2_ne, q2_r1, uI_at, uI_nj, qRow_ne, qRow_at]; exact hTo)), (by first | exact hTp | (simp (decide := true) only [q2_ne, q2_r1, uI_at, uI_nj, qRow_ne, qRow_at]; exact hTp)), (by first | exact hEd | (simp (decide := true) only [q2_ne, q2_r1, uI_at, uI_nj, qRow_ne, qRow_at]; exact hEd)), (by first | exact hDa | (simp (decide := true) only [q2_ne, q2_r1, uI_at, uI_nj, qRow_ne, qRow_at]; exact hDa)), (by first | exact hPe | (simp (decide := true) only [q2_ne, q2_r1, uI_at, uI_nj, qRow_ne, qRow_at]; exact hPe)), (by first | exact hTr | (simp (decide := true) only [q2_ne, q2_r1, uI_at, uI_nj, qRow_ne, qRow_at]; exact hTr)), (RTx_of hTx (by simp (decide := true) only [q2_ne, q2_r1, uI_at, uI_nj, qRow_ne, qRow_at]) (by simp (decide := true) only [q2_ne, q2_r1, uI_at, uI_nj, qRow_ne, qRow_at]) (by simp (decide := true) only [q2_ne, q2_r1, uI_at, uI_nj, qRow_ne, qRow_at]) (by simp (decide := true) only [q2_ne, q2_r1, uI_at, uI_nj, qRow_ne, qRow_at]) (by simp (decide := true) only [q2_ne, q2_r1, uI_at, uI_nj, qRow_ne, qRow_at]) (fun k hk => by (try dsimp only); repeat first | rfl | rw [q2_ne (by omega)] | rw [qRow_ne (by omega)]) (fun k hk => by (try dsimp only); repeat first | rfl | rw [q2_ne (by omega)] | rw [qRow_ne (by omega)])), (by first | exact hMk | (simp (decide := true) only [q2_ne, q2_r1, uI_at, uI_nj, qRow_ne, qRow_at]; exact hMk)), (by first | exact hKA | (simp (decide := true) only [q2_ne, q2_r1, uI_at, uI_nj, qRow_ne, qRow_at]; exact hKA))⟩⟩
    · exact absurd (show I 78 s.toNatClampNeg < 0 by rw [← g0.2, a1]; decide) b1
  · have g0 := ed_nb hEd hs.2 a0.1 a0.2
    have g1 := (hEd.2.2.2.2.1 s a0.1 a0.2).2.2.2.2.1
    refine ⟨_, rfl, ⟨by simp (decide := true) only [q2_ne, q2_r1, uI_at, uI_nj, qRow_ne, qRow_at], rfl, hst⟩, ?_⟩
    refine c_X12_part (by first | exact hs2 | (simp (decide := true) only [q2_ne, q2_r1, uI_at, uI_nj, qRow_ne, qRow_at]; exact hs2)) (by first | exact hr12 | (simp (decide := true) only [q2_ne, q2_r1, uI_at, uI_nj, qRow_ne, qRow_at]; exact hr12)) (fun b0 => ?_) (fun b0 b1 => ?_) (fun b0 b1 => ?_)
    · (try simp (decide := true) only [q2_ne, q2_r1, uI_at, uI_nj, qRow_ne, qRow_at] at b0)
      exact absurd (by rw [hSt.1]; exact a0) b0
    · (try simp (decide := true) only [q2_ne, q2_r1, uI_at, uI_nj, qRow_ne, qRow_at] at b1)
      exact absurd (show I 45 (nX s 1) = -1 by rw [g0.2]; clear hEd; grind) a1
    · have E1 := REd_untie hEd hs.2 a0.2
      exact ⟨rfl, ⟨by first | rfl | (simp (decide := true) only [q2_ne, q2_r1, uI_at, uI_nj, qRow_ne, qRow_at]), rfl⟩, ⟨hst, (by first | exact hSt | (simp (decide := true) only [q2_ne, q2_r1, uI_at, uI_nj, qRow_ne, qRow_at]; exact hSt)), (by first | exact hHa | (simp (decide := true) only [q2_ne, q2_r1, uI_at, uI_nj, qRow_ne, qRow_at]; exact hHa)), (by first | exact hTo | (simp (decide := true) only [q2_ne, q2_r1, uI_at, uI_nj, qRow_ne, qRow_at]; exact hTo)), (by first | exact hTp | (simp (decide := true) only [q2_ne, q2_r1, uI_at, uI_nj, qRow_ne, qRow_at]; exact hTp)), (by simp (decide := true) only [q2_ne, q2_r1, uI_at, uI_nj, qRow_ne, qRow_at]; exact E1), (by first | exact hDa | (simp (decide := true) only [q2_ne, q2_r1, uI_at, uI_nj, qRow_ne, qRow_at]; exact hDa)), (by first | exact hPe | (simp (decide := true) only [q2_ne, q2_r1, uI_at, uI_nj, qRow_ne, qRow_at]; exact hPe)), (by first | exact hTr | (simp (decide := true) only [q2_ne, q2_r1, uI_at, uI_nj, qRow_ne, qRow_at]; exact hTr)), (RTx_of hTx (by simp (decide := true) only [q2_ne, q2_r1, uI_at, uI_nj, qRow_ne, qRow_at]) (by simp (decide := true) only [q2_ne, q2_r1, uI_at, uI_nj, qRow_ne, qRow_at]) (by simp (decide := true) only [q2_ne, q2_r1, uI_at, uI_nj, qRow_ne, qRow_at]) (by simp (decide := true) only [q2_ne, q2_r1, uI_at, uI_nj, qRow_ne, qRow_at]) (by simp (decide := true) only [q2_ne, q2_r1, uI_at, uI_nj, qRow_ne, qRow_at]) (fun k hk => by (try dsimp only); repeat first | rfl | rw [q2_ne (by omega)] | rw [qRow_ne (by omega)]) (fun k hk => by (try dsimp only); repeat first | rfl | rw [q2_ne (by omega)] | rw [qRow_ne (by omega)])), (by first | exact hMk | (simp (decide := true) only [q2_ne, q2_r1, uI_at, uI_nj, qRow_ne, qRow_at]; exact hMk)), (by first | exact hKA | (simp (decide := true) only [q2_ne, q2_r1, uI_at, uI_nj, qRow_ne, qRow_at]; exact hKA))⟩⟩

