theorem uRt_r {rt : Nat → Int32} {n k : Int32} (hr : ∀ x : Int32, 0 ≤ x → x < n → rt x.toNatClampNeg < 12) : ∀ x : Int32, 0 ≤ x → x < n → uRt rt k x.toNatClampNeg < 12 := fun x h0 hx => by
  have := hr x h0 hx
  unfold uRt
  split
  · exact this
  · unfold uI
    split
    · decide
    · exact this
theorem qRow_2 {α : Type} {f : Nat → Nat → α} {a b : Nat} {g g' h h' : Nat → α} : qRow (qRow (qRow (qRow f a g) b g') a h) b h' = qRow (qRow f a h) b h' := by
  funext c i
  by_cases hb : c = b <;> by_cases ha : c = a <;> simp [qRow, ha, hb]
theorem c_X1_untieRight {d z : Nat} {N : Nat → Nat} {I : Nat → Nat → Int32} {L : Nat → Nat → Int64} {R : Nat → Nat → Option Nat} {Q : qP} {s : Int32} (hs : 0 ≤ I 3 2 ∧ I 3 2 ≤ 12) (hnb : ∀ x : Int32, 0 ≤ x → x < 12 → -1 ≤ I 45 (nX x 1) ∧ I 45 (nX x 1) < 12) (h : ∀ v : Int32, v = (if (0 ≤ s ∧ s < I 3 2) ∧ ¬ I 45 (nX s 1) = -1 then 1 else 0) → Q (some (.int v)) (z, N, qRow I 45 (uC (I 3 2) (I 45) s), L, R)) : qWP (d + 2) 22 [.ref 43, .int s] (z, N, I, L, R) Q := by
  refine qWP_of m_X1_untieRight rfl rfl [(0, .ref 43), (1, .int s)] rfl ?_
  refine qJ_run (qWP_mono _) [] 400 ?_
  refine ⟨⟨Nat.le_refl _, Nat.le_refl _⟩, ?_⟩
  refine c_X6_has hs fun v1 hv1 => ?_
  refine ⟨fun (c1 : ¬ v1 = 0) => ?_, fun (c1 : v1 = 0) => ?_⟩
  · refine ⟨⟨Nat.le_refl _, Nat.le_refl _⟩, ?_⟩
    refine c_X1_neighbour fun v2 hv2 => ?_
    replace hv2 : v2 = I 45 (nX s 1) := hv2.trans (if_pos (nX_n ⟨by clear h; grind, by clear h; grind⟩ (Or.inr rfl)).2.1)
    refine ⟨fun (c2 : ¬ v2 = (-1)) => ?_, fun (c2 : v2 = (-1)) => ?_⟩
    · refine ⟨⟨Nat.le_refl _, Nat.le_refl _⟩, ?_⟩
      refine c_X1_setNeighbour (fun _ _ => ?_) (fun e => absurd (nX_n ⟨by clear h; grind, by clear h; grind⟩ (Or.inr rfl)).2.1 e)
      refine ⟨⟨Nat.le_refl _, Nat.le_refl _⟩, ?_⟩
      have hb2 := hnb s (by clear h; grind) (by clear h; grind)
      refine c_X1_setNeighbour (fun _ _ => ?_) (fun e => absurd (nX_n ⟨by clear h; grind, by clear h; grind⟩ (Or.inl rfl)).2.1 e)
      refine ⟨by first | exact Or.inl rfl | exact Or.inr rfl | (clear h; grind), ?_⟩
      change Q (some (.int 1)) (z, N, q2 (q2 I 45 (nX s 1) (-1)) 45 (nX v2 0) (-1), L, R)
      have hc : (0 ≤ s ∧ s < I 3 2) ∧ ¬ I 45 (nX s 1) = -1 := by clear h; grind
      have hh := h 1 (if_pos hc).symm
      unfold uC at hh
      rw [if_pos hc] at hh
      rw [q2_q2, q2_q2, qRow_qRow, qRow_at, hv2]
      exact hh
    · refine ⟨by first | exact Or.inl rfl | exact Or.inr rfl | (clear h; grind), ?_⟩
      change Q (some (.int 0)) (z, N, I, L, R)
      have hc : ¬ ((0 ≤ s ∧ s < I 3 2) ∧ ¬ I 45 (nX s 1) = -1) := by clear h; grind
      have hh := h 0 (if_neg hc).symm
      unfold uC at hh
      rw [if_neg hc, qRow_self] at hh
      exact hh
  · refine ⟨by first | exact Or.inl rfl | exact Or.inr rfl | (clear h; grind), ?_⟩
    change Q (some (.int 0)) (z, N, I, L, R)
    have hc : ¬ ((0 ≤ s ∧ s < I 3 2) ∧ ¬ I 45 (nX s 1) = -1) := by clear h; grind
    have hh := h 0 (if_neg hc).symm
    unfold uC at hh
    rw [if_neg hc, qRow_self] at hh
    exact hh
theorem c_X1_tie {d z : Nat} {N : Nat → Nat} {I : Nat → Nat → Int32} {L : Nat → Nat → Int64} {R : Nat → Nat → Option Nat} {Q : qP} {a b : Int32} (hs : 0 ≤ I 3 2 ∧ I 3 2 ≤ 12) (ha : 0 ≤ a ∧ a < I 3 2) (hb : 0 ≤ b ∧ b < I 3 2) (hl : ∀ x : Int32, 0 ≤ x → x < I 3 2 → 1 ≤ I 4 x.toNatClampNeg ∧ I 4 x.toNatClampNeg ≤ 4) (hnb : ∀ x : Int32, 0 ≤ x → x < 12 → -1 ≤ I 45 (nX x 1) ∧ I 45 (nX x 1) < 12) (h0 : ¬ (fBest (I 4) (I 44) (I 45) (I 43 3) (I 3 2) a 1 = b ∧ fBest (I 4) (I 44) (I 45) (I 43 3) (I 3 2) b 0 = a ∧ leads (I 45) a 12 b = false) → Q (some (.int 0)) (z, N, I, L, R)) (h1 : (fBest (I 4) (I 44) (I 45) (I 43 3) (I 3 2) a 1 = b ∧ fBest (I 4) (I 44) (I 45) (I 43 3) (I 3 2) b 0 = a ∧ leads (I 45) a 12 b = false) → Q (some (.int 1)) (z, N, q2 (q2 I 45 (nX a 1) b) 45 (nX b 0) a, L, R)) : qWP (d + 5) 20 [.ref 43, .int a, .int b] (z, N, I, L, R) Q := by
  refine qWP_of m_X1_tie rfl rfl [(0, .ref 43), (1, .int a), (2, .int b)] rfl ?_
  refine qJ_run (qWP_mono _) [] 400 ?_
  refine ⟨⟨Nat.le_refl _, Nat.le_refl _⟩, ?_⟩
  refine c_X1_bestOf (d := d) hs ⟨by clear h0 h1; grind, by clear h0 h1; grind⟩ (by decide) hl fun v1 hv1 => ?_
  refine ⟨fun (c1 : ¬ v1 = b) => ?_, fun (c1 : v1 = b) => ?_⟩
  · refine ⟨by first | exact Or.inl rfl | exact Or.inr rfl | (clear h0 h1; grind), ?_⟩
    change Q (some (.int 0)) (z, N, I, L, R)
    exact h0 (by clear h0 h1; grind)
  · refine ⟨⟨Nat.le_refl _, Nat.le_refl _⟩, ?_⟩
    refine c_X1_bestOf (d := d) hs ⟨by clear h0 h1; grind, by clear h0 h1; grind⟩ (by decide) hl fun v2 hv2 => ?_
    refine ⟨fun (c2 : ¬ v2 = a) => ?_, fun (c2 : v2 = a) => ?_⟩
    · refine ⟨by first | exact Or.inl rfl | exact Or.inr rfl | (clear h0 h1; grind), ?_⟩
      change Q (some (.int 0)) (z, N, I, L, R)
      exact h0 (by clear h0 h1; grind)
    · refine ⟨⟨Nat.le_refl _, Nat.le_refl _⟩, ?_⟩
      refine c_X1_leadsTo (d := d + 1) hnb ⟨by clear h0 h1; grind, by clear h0 h1; grind⟩ fun v3 hv3 => ?_
      refine ⟨fun (c3 : v3 = 0) => ?_, fun (c3 : ¬ v3 = 0) => ?_⟩
      · refine ⟨⟨Nat.le_refl _, Nat.le_refl _⟩, ?_⟩
        refine c_X1_setNeighbour (fun _ _ => ?_) (fun e => absurd (nX_n ⟨by clear h0 h1; grind, by clear h0 h1; grind⟩ (Or.inr rfl)).2.1 e)
        refine ⟨⟨Nat.le_refl _, Nat.le_refl _⟩, ?_⟩
        refine c_X1_setNeighbour (fun _ _ => ?_) (fun e => absurd (nX_n ⟨by clear h0 h1; grind, by clear h0 h1; grind⟩ (Or.inl rfl)).2.1 e)
        refine ⟨by first | exact Or.inl rfl | exact Or.inr rfl | (clear h0 h1; grind), ?_⟩
        change Q (some (.int 1)) (z, N, q2 (q2 I 45 (nX a 1) b) 45 (nX b 0) a, L, R)
        exact h1 ⟨by clear h0 h1; grind, by clear h0 h1; grind, by clear h0 h1; grind⟩
      · refine ⟨by first | exact Or.inl rfl | exact Or.inr rfl | (clear h0 h1; grind), ?_⟩
        change Q (some (.int 0)) (z, N, I, L, R)
        exact h0 (by clear h0 h1; grind)
theorem uC_r {n s : Int32} {nb : Nat → Int32} (hn : n ≤ 12) (hnb : ∀ x : Int32, 0 ≤ x → x < 12 → -1 ≤ nb (nX x 1) ∧ nb (nX x 1) < 12) : ∀ x : Int32, 0 ≤ x → x < 12 → -1 ≤ uC n nb s (nX x 1) ∧ uC n nb s (nX x 1) < 12 := fun x h0 hx => by
  have i0 : (0 : Int32) = 0 ∨ (0 : Int32) = 1 := Or.inl rfl
  have i1 : (1 : Int32) = 0 ∨ (1 : Int32) = 1 := Or.inr rfl
  unfold uC
  by_cases h : (0 ≤ s ∧ s < n) ∧ ¬ nb (nX s 1) = -1
  · rw [if_pos h]
    have hs := hnb s h.1.1 (by grind)
    have hs12 : 0 ≤ s ∧ s < 12 := by grind
    rw [nb_u ⟨h0, hx⟩ i1 (by grind) i0, nb_u ⟨h0, hx⟩ i1 hs12 i1]
    have := hnb x h0 hx
    split
    · decide
    · split
      · decide
      · exact this
  · rw [if_neg h]; exact hnb x h0 hx
theorem c_X1_tell {d z : Nat} {N : Nat → Nat} {I : Nat → Nat → Int32} {L : Nat → Nat → Int64} {R : Nat → Nat → Option Nat} {Q : qP} {s e l y : Int32} (hs : 0 ≤ I 3 2 ∧ I 3 2 ≤ 12) (hse : 0 ≤ s ∧ s < I 3 2) (he : e = 0 ∨ e = 1) (hl : 0 ≤ l ∧ l < 4) (hnb : ∀ x : Int32, 0 ≤ x → x < 12 → -1 ≤ I 45 (nX x 1) ∧ I 45 (nX x 1) < 12) (h : ∀ v : Int32, v = I 44 (mX s e l) → Q (some (.int v)) (z, N, qRow (q2 I 44 (mX s e l) y) 45 (uC (I 3 2) (uC (I 3 2) (I 45) s) (uC (I 3 2) (I 45) s (nX s 0))), L, R)) : qWP (d + 3) 16 [.ref 43, .int s, .int e, .int l, .int y] (z, N, I, L, R) Q := by
  refine qWP_of m_X1_tell rfl rfl [(0, .ref 43), (1, .int s), (2, .int e), (3, .int l), (4, .int y)] rfl ?_
  refine qJ_run (qWP_mono _) [] 400 ?_
  refine ⟨⟨Nat.le_refl _, Nat.le_refl _⟩, ?_⟩
  refine c_X1_mark fun v1 hv1 => ?_
  replace hv1 : v1 = I 44 (mX s e l) := hv1.trans (if_pos (mX_n ⟨by clear h; grind, by clear h; grind⟩ he ⟨by clear h; grind, by clear h; grind⟩).1)
  refine br_f (show ¬ ((((s * 2) + e) * 4) + l) < 0 from by clear h; have := (mX_n (s := s) (e := e) (l := l) ⟨by grind, by grind⟩ he hl).1; grind) ?_
  refine br_f (show ¬ 96 ≤ ((((s * 2) + e) * 4) + l) from by clear h; have := (mX_n (s := s) (e := e) (l := l) ⟨by grind, by grind⟩ he hl).1; grind) ?_
  refine ⟨?_, ?_⟩
  · exact vb (N := 96) 96 (by decide) (mX_n ⟨by clear h; grind, by clear h; grind⟩ he hl).1.1 (mX_n ⟨by clear h; grind, by clear h; grind⟩ he hl).1.2
  refine ⟨⟨Nat.le_refl _, Nat.le_refl _⟩, ?_⟩
  refine c_X1_untieRight (d := d) (by simp (decide := true) only [q2_ne]; exact hs) (by simp (decide := true) only [q2_ne]; exact hnb) fun v2 _ => ?_
  simp (decide := true) only [q2_ne, q2_r1, qRow_ne, qRow_at, qRow_qRow]
  refine ⟨⟨Nat.le_refl _, Nat.le_refl _⟩, ?_⟩
  have hsr : 0 ≤ s ∧ s < 12 := by clear h; grind
  refine c_X1_neighbour fun v3 hv3 => ?_
  replace hv3 : v3 = uC (I 3 2) (I 45) s (nX s 0) := hv3.trans ((if_pos (nX_n hsr (Or.inl rfl)).2.1).trans (congrFun qRow_at _))
  refine ⟨⟨Nat.le_refl _, Nat.le_refl _⟩, ?_⟩
  refine c_X1_untieRight (d := d) (by simp (decide := true) only [q2_ne, qRow_ne]; exact hs) (by simp (decide := true) only [qRow_at]; exact uC_r hs.2 hnb) fun v4 _ => ?_
  simp (decide := true) only [q2_ne, q2_r1, qRow_ne, qRow_at, qRow_qRow]
  rw [hv3]
  change Q (some (.int v1)) (z, N, qRow (q2 I 44 (mX s e l) y) 45 (uC (I 3 2) (uC (I 3 2) (I 45) s) (uC (I 3 2) (I 45) s (nX s 0))), L, R)
  exact h _ hv1
theorem c_X1_tellTolerance {d z : Nat} {N : Nat → Nat} {I : Nat → Nat → Int32} {L : Nat → Nat → Int64} {R : Nat → Nat → Option Nat} {Q : qP} {t : Int32} (hst : qStat (z, N, I, L, R)) (h : ∀ v : Int32, v = I 43 3 → Q (some (.int v)) (z, N, qRow (q2 I 43 3 t) 45 (fun i => if i < 24 then -1 else I 45 i), L, R)) : qWP (d + 2) 17 [.ref 43, .int t] (z, N, I, L, R) Q := by
  refine qWP_of m_X1_tellTolerance rfl rfl [(0, .ref 43), (1, .int t)] rfl ?_
  refine qJ_run (qWP_mono _) [] 400 ?_
  refine ⟨⟨Nat.le_refl _, Nat.le_refl _⟩, ?_⟩
  refine c_fill_45 (Nat.lt_of_lt_of_le (by decide) hst.1) ⟨hst, ?_⟩
  change Q (some (.int (I 43 3))) (z, N, qRow (q2 I 43 3 t) 45 (fun i => if i < 24 then -1 else I 45 i), L, R)
  exact h _ rfl
theorem c_X11_isSide {d z : Nat} {N : Nat → Nat} {I : Nat → Nat → Int32} {L : Nat → Nat → Int64} {R : Nat → Nat → Option Nat} {Q : qP} {e : Int32}  (h : ∀ v : Int32, v = (if e = 0 ∨ e = 1 then 1 else 0) → Q (some (.int v)) (z, N, I, L, R)) : qWP (d + 1) 146 [.int e] (z, N, I, L, R) Q := by
  refine qWP_of m_X11_isSide rfl rfl [(0, .int e)] rfl ?_
  refine qJ_run (qWP_mono _) [] 400 ?_
  refine ⟨fun (c1 : e = 0) => ?_, fun (c1 : ¬ e = 0) => ?_⟩
  · refine ⟨by first | exact Or.inl rfl | exact Or.inr rfl | (clear h; grind), ?_⟩
    change Q (some (.int 1)) (z, N, I, L, R)
    exact h _ (by clear h; grind)
  · refine ⟨fun (c2 : ¬ e = 1) => ?_, fun (c2 : e = 1) => ?_⟩
    · refine ⟨by first | exact Or.inl rfl | exact Or.inr rfl | (clear h; grind), ?_⟩
      change Q (some (.int 0)) (z, N, I, L, R)
      exact h _ (by clear h; grind)
    · refine ⟨by first | exact Or.inl rfl | exact Or.inr rfl | (clear h; grind), ?_⟩
      change Q (some (.int 1)) (z, N, I, L, R)
      exact h _ (by clear h; grind)
theorem c_X11_edge {d z : Nat} {N : Nat → Nat} {I : Nat → Nat → Int32} {L : Nat → Nat → Int64} {R : Nat → Nat → Option Nat} {Q : qP} {s : Int32} {e : Int32} {l : Int32} {y : Int32} (hs : 0 ≤ I 3 2 ∧ I 3 2 ≤ 12) (hl : ∀ x : Int32, 0 ≤ x → x < I 3 2 → 1 ≤ I 4 x.toNatClampNeg ∧ I 4 x.toNatClampNeg ≤ 4) (hnb : ∀ x : Int32, 0 ≤ x → x < 12 → -1 ≤ I 45 (nX x 1) ∧ I 45 (nX x 1) < 12) (h0 : ¬ (((0 ≤ s ∧ s < I 3 2) ∧ 0 ≤ l ∧ l < I 4 s.toNatClampNeg) ∧ (e = 0 ∨ e = 1) ∧ 0 ≤ y ∧ y ≤ 9) → Q (some (.int (-2))) (z, N, I, L, R)) (h1 : ((0 ≤ s ∧ s < I 3 2) ∧ 0 ≤ l ∧ l < I 4 s.toNatClampNeg) ∧ (e = 0 ∨ e = 1) ∧ 0 ≤ y ∧ y ≤ 9 → Q (some (.int (I 44 (mX s e l)))) (z, N, qRow (q2 I 44 (mX s e l) y) 45 (uC (I 3 2) (uC (I 3 2) (I 45) s) (uC (I 3 2) (I 45) s (nX s 0))), L, R)) : qWP (d + 4) 138 [.ref 2, .int s, .int e, .int l, .int y] (z, N, I, L, R) Q := by
  refine qWP_of m_X11_edge rfl rfl [(0, .ref 2), (1, .int s), (2, .int e), (3, .int l), (4, .int y)] rfl ?_
  refine qJ_run (qWP_mono _) [] 400 ?_
  refine ⟨⟨Nat.le_refl _, Nat.le_refl _⟩, ?_⟩
  refine c_X6_hasLine hs fun v1 hv1 => ?_
  refine ⟨fun (c1 : v1 = 0) => ?_, fun (c1 : ¬ v1 = 0) => ?_⟩
  · change Q (some (.int (-2))) (z, N, I, L, R)
    exact h0 (by clear h0 h1; grind)
  · refine ⟨⟨Nat.le_refl _, Nat.le_refl _⟩, ?_⟩
    refine c_X11_isSide fun v2 hv2 => ?_
    refine ⟨fun (c2 : v2 = 0) => ?_, fun (c2 : ¬ v2 = 0) => ?_⟩
    · change Q (some (.int (-2))) (z, N, I, L, R)
      exact h0 (by clear h0 h1; grind)
    · refine ⟨fun (c3 : y < 0) => ?_, fun (c3 : ¬ y < 0) => ?_⟩
      · change Q (some (.int (-2))) (z, N, I, L, R)
        exact h0 (by clear h0 h1; grind)
      · refine ⟨fun (c4 : y ≤ 9) => ?_, fun (c4 : ¬ y ≤ 9) => ?_⟩
        · refine ⟨⟨Nat.le_refl _, Nat.le_refl _⟩, ?_⟩
          have hls := hl s (by clear h0 h1; grind) (by clear h0 h1; grind)
          refine c_X1_tell (d := d) hs (by clear h0 h1; grind) (by clear h0 h1; grind) (by clear h0 h1; grind) hnb fun v3 hv3 => ?_
          change Q (some (.int v3)) (z, N, qRow (q2 I 44 (mX s e l) y) 45 (uC (I 3 2) (uC (I 3 2) (I 45) s) (uC (I 3 2) (I 45) s (nX s 0))), L, R)
          have hg : ((0 ≤ s ∧ s < I 3 2) ∧ 0 ≤ l ∧ l < I 4 s.toNatClampNeg) ∧ (e = 0 ∨ e = 1) ∧ 0 ≤ y ∧ y ≤ 9 := by clear h0 h1; grind
          subst hv3
          exact h1 hg
        · change Q (some (.int (-2))) (z, N, I, L, R)
          exact h0 (by clear h0 h1; grind)
theorem c_X11_tolerance {d z : Nat} {N : Nat → Nat} {I : Nat → Nat → Int32} {L : Nat → Nat → Int64} {R : Nat → Nat → Option Nat} {Q : qP} {t : Int32} (hst : qStat (z, N, I, L, R)) (h0 : ¬ (0 ≤ t ∧ t ≤ 3) → Q (some (.int (-2))) (z, N, I, L, R)) (h1 : 0 ≤ t ∧ t ≤ 3 → Q (some (.int (I 43 3))) (z, N, qRow (q2 I 43 3 t) 45 (fun i => if i < 24 then -1 else I 45 i), L, R)) : qWP (d + 3) 139 [.ref 2, .int t] (z, N, I, L, R) Q := by
  refine qWP_of m_X11_tolerance rfl rfl [(0, .ref 2), (1, .int t)] rfl ?_
  refine qJ_run (qWP_mono _) [] 400 ?_
  refine ⟨fun (c1 : t < 0) => ?_, fun (c1 : ¬ t < 0) => ?_⟩
  · change Q (some (.int (-2))) (z, N, I, L, R)
    exact h0 (by clear h0 h1; grind)
  · refine ⟨fun (c2 : t ≤ 3) => ?_, fun (c2 : ¬ t ≤ 3) => ?_⟩
    · refine ⟨⟨Nat.le_refl _, Nat.le_refl _⟩, ?_⟩
      refine c_X1_tellTolerance (d := d) hst fun v1 hv1 => ?_
      change Q (some (.int v1)) (z, N, qRow (q2 I 43 3 t) 45 (fun i => if i < 24 then -1 else I 45 i), L, R)
      subst hv1
      exact h1 (by clear h0 h1; grind)
    · change Q (some (.int (-2))) (z, N, I, L, R)
      exact h0 (by clear h0 h1; grind)
theorem c_X11_room {d z : Nat} {N : Nat → Nat} {I : Nat → Nat → Int32} {L : Nat → Nat → Int64} {R : Nat → Nat → Option Nat} {Q : qP} {a : Int32} {b : Int32} (hs : 0 ≤ I 3 2 ∧ I 3 2 ≤ 12) (hl : ∀ x : Int32, 0 ≤ x → x < I 3 2 → 1 ≤ I 4 x.toNatClampNeg ∧ I 4 x.toNatClampNeg ≤ 4) (h : ∀ v : Int32, v = (if (0 ≤ a ∧ a < I 3 2) ∧ 0 ≤ b ∧ b < I 3 2 then fRoom (I 4) (I 44) (I 43 3) a b else -2) → Q (some (.int v)) (z, N, I, L, R)) : qWP (d + 4) 140 [.ref 2, .int a, .int b] (z, N, I, L, R) Q := by
  refine qWP_of m_X11_room rfl rfl [(0, .ref 2), (1, .int a), (2, .int b)] rfl ?_
  refine qJ_run (qWP_mono _) [] 400 ?_
  refine ⟨⟨Nat.le_refl _, Nat.le_refl _⟩, ?_⟩
  refine c_X6_has hs fun v1 hv1 => ?_
  refine ⟨fun (c1 : v1 = 0) => ?_, fun (c1 : ¬ v1 = 0) => ?_⟩
  · change Q (some (.int (-2))) (z, N, I, L, R)
    exact h _ (if_neg (by clear h; grind)).symm
  · refine ⟨⟨Nat.le_refl _, Nat.le_refl _⟩, ?_⟩
    refine c_X6_has hs fun v2 hv2 => ?_
    refine ⟨fun (c2 : ¬ v2 = 0) => ?_, fun (c2 : v2 = 0) => ?_⟩
    · refine ⟨⟨Nat.le_refl _, Nat.le_refl _⟩, ?_⟩
      refine c_X1_sum (d := d) hs (by clear h; grind) (by clear h; grind) (hl a (by clear h; grind) (by clear h; grind)) fun v3 hv3 => ?_
      change Q (some (.int v3)) (z, N, I, L, R)
      exact h _ (hv3.trans (if_pos (by clear h; grind)).symm)
    · change Q (some (.int (-2))) (z, N, I, L, R)
      exact h _ (if_neg (by clear h; grind)).symm
theorem c_X11_best {d z : Nat} {N : Nat → Nat} {I : Nat → Nat → Int32} {L : Nat → Nat → Int64} {R : Nat → Nat → Option Nat} {Q : qP} {s : Int32} {e : Int32} (hs : 0 ≤ I 3 2 ∧ I 3 2 ≤ 12) (hl : ∀ x : Int32, 0 ≤ x → x < I 3 2 → 1 ≤ I 4 x.toNatClampNeg ∧ I 4 x.toNatClampNeg ≤ 4) (h : ∀ v : Int32, v = (if (0 ≤ s ∧ s < I 3 2) ∧ (e = 0 ∨ e = 1) then fBest (I 4) (I 44) (I 45) (I 43 3) (I 3 2) s e else -2) → Q (some (.int v)) (z, N, I, L, R)) : qWP (d + 5) 141 [.ref 2, .int s, .int e] (z, N, I, L, R) Q := by
  refine qWP_of m_X11_best rfl rfl [(0, .ref 2), (1, .int s), (2, .int e)] rfl ?_
  refine qJ_run (qWP_mono _) [] 400 ?_
  refine ⟨⟨Nat.le_refl _, Nat.le_refl _⟩, ?_⟩
  refine c_X6_has hs fun v1 hv1 => ?_
  refine ⟨fun (c1 : v1 = 0) => ?_, fun (c1 : ¬ v1 = 0) => ?_⟩
  · change Q (some (.int (-2))) (z, N, I, L, R)
    exact h _ (if_neg (by clear h; grind)).symm
  · refine ⟨⟨Nat.le_refl _, Nat.le_refl _⟩, ?_⟩
    refine c_X11_isSide fun v2 hv2 => ?_
    refine ⟨fun (c2 : ¬ v2 = 0) => ?_, fun (c2 : v2 = 0) => ?_⟩
    · refine ⟨⟨Nat.le_refl _, Nat.le_refl _⟩, ?_⟩
      refine c_X1_bestOf (d := d) hs (by clear h; grind) (by clear h; grind) hl fun v3 hv3 => ?_
      change Q (some (.int v3)) (z, N, I, L, R)
      exact h _ (hv3.trans (if_pos (by clear h; grind)).symm)
    · change Q (some (.int (-2))) (z, N, I, L, R)
      exact h _ (if_neg (by clear h; grind)).symm
theorem c_X11_joined {d z : Nat} {N : Nat → Nat} {I : Nat → Nat → Int32} {L : Nat → Nat → Int64} {R : Nat → Nat → Option Nat} {Q : qP} {s : Int32} {e : Int32} (hs : 0 ≤ I 3 2 ∧ I 3 2 ≤ 12) (h : ∀ v : Int32, v = (if (0 ≤ s ∧ s < I 3 2) ∧ (e = 0 ∨ e = 1) then I 45 (nX s e) else -2) → Q (some (.int v)) (z, N, I, L, R)) : qWP (d + 2) 144 [.ref 2, .int s, .int e] (z, N, I, L, R) Q := by
  refine qWP_of m_X11_joined rfl rfl [(0, .ref 2), (1, .int s), (2, .int e)] rfl ?_
  refine qJ_run (qWP_mono _) [] 400 ?_
  refine ⟨⟨Nat.le_refl _, Nat.le_refl _⟩, ?_⟩
  refine c_X6_has hs fun v1 hv1 => ?_
  refine ⟨fun (c1 : v1 = 0) => ?_, fun (c1 : ¬ v1 = 0) => ?_⟩
  · change Q (some (.int (-2))) (z, N, I, L, R)
    exact h _ (if_neg (by clear h; grind)).symm
  · refine ⟨⟨Nat.le_refl _, Nat.le_refl _⟩, ?_⟩
    refine c_X11_isSide fun v2 hv2 => ?_
    refine ⟨fun (c2 : ¬ v2 = 0) => ?_, fun (c2 : v2 = 0) => ?_⟩
    · refine ⟨⟨Nat.le_refl _, Nat.le_refl _⟩, ?_⟩
      have he : e = 0 ∨ e = 1 := by clear h; grind
      refine c_X1_neighbour fun v3 hv3 => ?_
      replace hv3 : v3 = I 45 (nX s e) := hv3.trans (if_pos (nX_n ⟨by clear h; grind, by clear h; grind⟩ he).2.1)
      change Q (some (.int v3)) (z, N, I, L, R)
      exact h _ (hv3.trans (if_pos (by clear h; grind)).symm)
    · change Q (some (.int (-2))) (z, N, I, L, R)
      exact h _ (if_neg (by clear h; grind)).symm
theorem c_X11_join {d z : Nat} {N : Nat → Nat} {I : Nat → Nat → Int32} {L : Nat → Nat → Int64} {R : Nat → Nat → Option Nat} {Q : qP} {a : Int32} {b : Int32} (hs : 0 ≤ I 3 2 ∧ I 3 2 ≤ 12) (hl : ∀ x : Int32, 0 ≤ x → x < I 3 2 → 1 ≤ I 4 x.toNatClampNeg ∧ I 4 x.toNatClampNeg ≤ 4) (hnb : ∀ x : Int32, 0 ≤ x → x < 12 → -1 ≤ I 45 (nX x 1) ∧ I 45 (nX x 1) < 12) (h0 : ¬ ((0 ≤ a ∧ a < I 3 2) ∧ 0 ≤ b ∧ b < I 3 2) → Q (some (.int (-2))) (z, N, I, L, R)) (h1 : (0 ≤ a ∧ a < I 3 2) ∧ 0 ≤ b ∧ b < I 3 2 → ¬ (fBest (I 4) (I 44) (I 45) (I 43 3) (I 3 2) a 1 = b ∧ fBest (I 4) (I 44) (I 45) (I 43 3) (I 3 2) b 0 = a ∧ leads (I 45) a 12 b = false) → Q (some (.int (-3))) (z, N, I, L, R)) (h2 : (0 ≤ a ∧ a < I 3 2) ∧ 0 ≤ b ∧ b < I 3 2 → (fBest (I 4) (I 44) (I 45) (I 43 3) (I 3 2) a 1 = b ∧ fBest (I 4) (I 44) (I 45) (I 43 3) (I 3 2) b 0 = a ∧ leads (I 45) a 12 b = false) → Q (some (.int 1)) (z, N, q2 (q2 I 45 (nX a 1) b) 45 (nX b 0) a, L, R)) : qWP (d + 6) 142 [.ref 2, .int a, .int b] (z, N, I, L, R) Q := by
  refine qWP_of m_X11_join rfl rfl [(0, .ref 2), (1, .int a), (2, .int b)] rfl ?_
  refine qJ_run (qWP_mono _) [] 400 ?_
  refine ⟨⟨Nat.le_refl _, Nat.le_refl _⟩, ?_⟩
  refine c_X6_has hs fun v1 hv1 => ?_
  refine ⟨fun (c1 : v1 = 0) => ?_, fun (c1 : ¬ v1 = 0) => ?_⟩
  · change Q (some (.int (-2))) (z, N, I, L, R)
    exact h0 (by clear h0 h1 h2; grind)
  · refine ⟨⟨Nat.le_refl _, Nat.le_refl _⟩, ?_⟩
    refine c_X6_has hs fun v2 hv2 => ?_
    refine ⟨fun (c2 : ¬ v2 = 0) => ?_, fun (c2 : v2 = 0) => ?_⟩
    · refine ⟨⟨Nat.le_refl _, Nat.le_refl _⟩, ?_⟩
      refine c_X1_tie (d := d) hs (by clear h0 h1 h2; grind) (by clear h0 h1 h2; grind) hl hnb (fun ex => ?_) (fun ex => ?_)
      · refine ⟨fun _ => ?_, fun h => absurd h (by decide)⟩
        change Q (some (.int (-3))) (z, N, I, L, R)
        exact h1 (by clear h0 h1 h2; grind) ex
      · refine ⟨fun h => absurd h (by decide), fun _ => ?_⟩
        change Q (some (.int 1)) (z, N, q2 (q2 I 45 (nX a 1) b) 45 (nX b 0) a, L, R)
        exact h2 (by clear h0 h1 h2; grind) ex
    · change Q (some (.int (-2))) (z, N, I, L, R)
      exact h0 (by clear h0 h1 h2; grind)
theorem c_X11_part {d z : Nat} {N : Nat → Nat} {I : Nat → Nat → Int32} {L : Nat → Nat → Int64} {R : Nat → Nat → Option Nat} {Q : qP} {s : Int32} (hs : 0 ≤ I 3 2 ∧ I 3 2 ≤ 12) (hnb : ∀ x : Int32, 0 ≤ x → x < 12 → -1 ≤ I 45 (nX x 1) ∧ I 45 (nX x 1) < 12) (h0 : ¬ (0 ≤ s ∧ s < I 3 2) → Q (some (.int (-2))) (z, N, I, L, R)) (h1 : 0 ≤ s ∧ s < I 3 2 → I 45 (nX s 1) = -1 → Q (some (.int (-3))) (z, N, I, L, R)) (h2 : 0 ≤ s ∧ s < I 3 2 → ¬ I 45 (nX s 1) = -1 → Q (some (.int 1)) (z, N, qRow I 45 (uC (I 3 2) (I 45) s), L, R)) : qWP (d + 3) 143 [.ref 2, .int s] (z, N, I, L, R) Q := by
  refine qWP_of m_X11_part rfl rfl [(0, .ref 2), (1, .int s)] rfl ?_
  refine qJ_run (qWP_mono _) [] 400 ?_
  refine ⟨⟨Nat.le_refl _, Nat.le_refl _⟩, ?_⟩
  refine c_X6_has hs fun v1 hv1 => ?_
  refine ⟨fun (c1 : ¬ v1 = 0) => ?_, fun (c1 : v1 = 0) => ?_⟩
  · refine ⟨⟨Nat.le_refl _, Nat.le_refl _⟩, ?_⟩
    refine c_X1_untieRight (d := d) hs hnb fun v2 hv2 => ?_
    refine ⟨fun (c2 : v2 = 0) => ?_, fun (c2 : ¬ v2 = 0) => ?_⟩
    · change Q (some (.int (-3))) (z, N, qRow I 45 (uC (I 3 2) (I 45) s), L, R)
      have hc : I 45 (nX s 1) = -1 := by clear h0 h1 h2; grind
      have hu : uC (I 3 2) (I 45) s = I 45 := if_neg (fun hh => hh.2 hc)
      rw [hu, qRow_self]
      exact h1 (by clear h0 h1 h2; grind) hc
    · change Q (some (.int 1)) (z, N, qRow I 45 (uC (I 3 2) (I 45) s), L, R)
      exact h2 (by clear h0 h1 h2; grind) (by clear h0 h1 h2; grind)
  · change Q (some (.int (-2))) (z, N, I, L, R)
    exact h0 (by clear h0 h1 h2; grind)
theorem c_X12_parts {d z : Nat} {N : Nat → Nat} {I : Nat → Nat → Int32} {L : Nat → Nat → Int64} {R : Nat → Nat → Option Nat} {Q : qP} {s : Int32} (hs : s < 12) (hr : 0 ≤ s → I 78 s.toNatClampNeg < 12) (h : Q none (z, N, qRow (qRow I 78 (uRt (I 78) s)) 79 (uLf (I 78) (I 79) s), L, R)) : qWP (d + 1) 207 [.ref 65, .int s] (z, N, I, L, R) Q := by
  refine qWP_of m_X12_parts rfl rfl [(0, .ref 65), (1, .int s)] rfl ?_
  refine qJ_run (qWP_mono _) [] 400 ?_
  refine ⟨fun (c1 : s < 0) => ?_, fun (c1 : ¬ s < 0) => ?_⟩
  · change Q none (z, N, I, L, R)
    have hc : s < 0 ∨ I 78 s.toNatClampNeg < 0 := by clear h; grind
    unfold uRt uLf at h
    rw [if_pos hc, if_pos hc, qRow_self, qRow_self] at h
    exact h
  · refine ⟨?_, ?_⟩
    · exact vb (x := s) (N := 12) 12 (by decide) (by clear h; grind) (by clear h; grind)
    refine ⟨fun (c2 : 0 ≤ (I 78 ((s).toNatClampNeg))) => ?_, fun (c2 : ¬ 0 ≤ (I 78 ((s).toNatClampNeg))) => ?_⟩
    · refine ⟨?_, ?_⟩
      · exact vb (x := s) (N := 12) 12 (by decide) (by clear h; grind) (by clear h; grind)
      refine ⟨?_, ?_⟩
      · exact vb (x := I 78 ((s).toNatClampNeg)) (N := 12) 12 (by decide) (by clear h; grind) (by clear h; grind)
      refine ⟨?_, ?_⟩
      · exact vb (x := s) (N := 12) 12 (by decide) (by clear h; grind) (by clear h; grind)
      change Q none (z, N, q2 (q2 I 79 ((I 78 ((s).toNatClampNeg)).toNatClampNeg) (-1)) 78 ((s).toNatClampNeg) (-1), L, R)
      have hc : ¬ (s < 0 ∨ I 78 s.toNatClampNeg < 0) := by clear h; grind
      unfold uRt uLf at h
      rw [if_neg hc, if_neg hc] at h
      rw [q2_both (by decide)]
      exact h
    · change Q none (z, N, I, L, R)
      have hc : s < 0 ∨ I 78 s.toNatClampNeg < 0 := by clear h; grind
      unfold uRt uLf at h
      rw [if_pos hc, if_pos hc, qRow_self, qRow_self] at h
      exact h
theorem l_X12_roomOf {d z : Nat} {N : Nat → Nat} {I : Nat → Nat → Int32} {L : Nat → Nat → Int64} {R : Nat → Nat → Option Nat} {Q : qP} {a b : Int32} (hs : 0 ≤ I 65 0 ∧ I 65 0 ≤ 12) (ha : 0 ≤ a ∧ a < I 65 0) (hb : 0 ≤ b ∧ b < I 65 0) (hl : 1 ≤ I 66 a.toNatClampNeg ∧ I 66 a.toNatClampNeg ≤ 4) : ∀ (k : Int32), ∀ s : Int32, 0 ≤ k → Q (some (.int (upS (I 66 a.toNatClampNeg) (gSum (I 77) (I 65 5) a b) id k s))) (z, N, I, L, R) → qJ m_X12_roomOf (qWP (d + 1)) Q 27 [(4, .int k), (3, .int s), (2, .int b), (1, .int a), (0, .ref 65)] [] 0 0 (z, N, I, L, R) := by
  refine up_ind ((I 66 a.toNatClampNeg)) fun k ih => ?_
  intro s h0 hq
  refine qJ_run (qWP_mono _) [27] 400 ?_
  refine ⟨?_, ?_⟩
  · exact vb (x := a) (N := 12) 12 (by decide) (by clear ih hq; grind) (by clear ih hq; grind)
  refine ⟨fun (c1 : (I 66 ((a).toNatClampNeg)) ≤ k) => ?_, fun (c1 : ¬ (I 66 ((a).toNatClampNeg)) ≤ k) => ?_⟩
  · change Q (some (.int s)) (z, N, I, L, R)
    rw [upS_ge (by clear ih hq; grind)] at hq
    exact hq
  · refine ⟨⟨Nat.le_refl _, Nat.le_refl _⟩, ?_⟩
    refine c_X12_edgeAt fun v1 hv1 => ?_
    have hxv1 := mX_n (s := a) (e := 1) (l := k) ⟨by clear ih hq; grind, by clear ih hq; grind⟩ (Or.inr rfl) ⟨by clear ih hq; grind, by clear ih hq; grind⟩
    obtain rfl : v1 = (a * 2 + 1) * 4 + k := hv1.trans hxv1.2.2
    refine ⟨?_, ?_⟩
    · exact vb (N := 96) 96 (by decide) (mX_n ⟨by clear ih hq; grind, by clear ih hq; grind⟩ (Or.inr rfl) ⟨h0, by clear ih hq; grind⟩).1.1 (mX_n ⟨by clear ih hq; grind, by clear ih hq; grind⟩ (Or.inr rfl) ⟨h0, by clear ih hq; grind⟩).1.2
    refine ⟨⟨Nat.le_refl _, Nat.le_refl _⟩, ?_⟩
    refine c_X12_edgeAt fun v2 hv2 => ?_
    have hxv2 := mX_n (s := b) (e := 0) (l := k) ⟨by clear ih hq; grind, by clear ih hq; grind⟩ (Or.inl rfl) ⟨by clear ih hq; grind, by clear ih hq; grind⟩
    obtain rfl : v2 = (b * 2 + 0) * 4 + k := hv2.trans hxv2.2.2
    refine ⟨?_, ?_⟩
    · exact vb (N := 96) 96 (by decide) (mX_n ⟨by clear ih hq; grind, by clear ih hq; grind⟩ (Or.inl rfl) ⟨h0, by clear ih hq; grind⟩).1.1 (mX_n ⟨by clear ih hq; grind, by clear ih hq; grind⟩ (Or.inl rfl) ⟨h0, by clear ih hq; grind⟩).1.2
    refine ⟨fun (c2 : (if 0 ≤ ((I 77 (((a * 2 + 1) * 4 + k).toNatClampNeg)) - (I 77 (((b * 2 + 0) * 4 + k).toNatClampNeg))) then ((I 77 (((a * 2 + 1) * 4 + k).toNatClampNeg)) - (I 77 (((b * 2 + 0) * 4 + k).toNatClampNeg))) else 0 - ((I 77 (((a * 2 + 1) * 4 + k).toNatClampNeg)) - (I 77 (((b * 2 + 0) * 4 + k).toNatClampNeg)))) ≤ (I 65 5)) => ?_, fun (c2 : ¬ (if 0 ≤ ((I 77 (((a * 2 + 1) * 4 + k).toNatClampNeg)) - (I 77 (((b * 2 + 0) * 4 + k).toNatClampNeg))) then ((I 77 (((a * 2 + 1) * 4 + k).toNatClampNeg)) - (I 77 (((b * 2 + 0) * 4 + k).toNatClampNeg))) else 0 - ((I 77 (((a * 2 + 1) * 4 + k).toNatClampNeg)) - (I 77 (((b * 2 + 0) * 4 + k).toNatClampNeg)))) ≤ (I 65 5)) => ?_⟩
    · refine qJ_nm (qWP_mono _) [(5, _)] [(4, .int (k + 1)), (3, .int (s + (if 0 ≤ ((I 77 (((a * 2 + 1) * 4 + k).toNatClampNeg)) - (I 77 (((b * 2 + 0) * 4 + k).toNatClampNeg))) then ((I 77 (((a * 2 + 1) * 4 + k).toNatClampNeg)) - (I 77 (((b * 2 + 0) * 4 + k).toNatClampNeg))) else 0 - ((I 77 (((a * 2 + 1) * 4 + k).toNatClampNeg)) - (I 77 (((b * 2 + 0) * 4 + k).toNatClampNeg)))))), (2, .int b), (1, .int a), (0, .ref 65)] rfl rfl rfl ?_
      have hk : k < (I 66 a.toNatClampNeg) := by clear ih hq; grind
      have e : gSum (I 77) (I 65 5) a b k s = .inl (s + (if 0 ≤ ((I 77 (((a * 2 + 1) * 4 + k).toNatClampNeg)) - (I 77 (((b * 2 + 0) * 4 + k).toNatClampNeg))) then ((I 77 (((a * 2 + 1) * 4 + k).toNatClampNeg)) - (I 77 (((b * 2 + 0) * 4 + k).toNatClampNeg))) else 0 - ((I 77 (((a * 2 + 1) * 4 + k).toNatClampNeg)) - (I 77 (((b * 2 + 0) * 4 + k).toNatClampNeg))))) := by
        unfold gSum dAb
        exact if_neg (Int32.not_lt.mpr (by assumption))
      rw [upS_on hk e] at hq
      exact ih hk _ (by clear ih hq; grind) hq
    · change Q (some (.int (-1))) (z, N, I, L, R)
      have hk : k < (I 66 a.toNatClampNeg) := by clear ih hq; grind
      have e : gSum (I 77) (I 65 5) a b k s = .inr (-1) := by
        unfold gSum dAb
        exact if_pos (Int32.not_le.mp (by assumption))
      rw [upS_out hk e] at hq
      exact hq
theorem c_X12_roomOf {d z : Nat} {N : Nat → Nat} {I : Nat → Nat → Int32} {L : Nat → Nat → Int64} {R : Nat → Nat → Option Nat} {Q : qP} {a : Int32} {b : Int32} (hs : 0 ≤ I 65 0 ∧ I 65 0 ≤ 12) (ha : 0 ≤ a ∧ a < I 65 0) (hb : 0 ≤ b ∧ b < I 65 0) (hl : 1 ≤ I 66 a.toNatClampNeg ∧ I 66 a.toNatClampNeg ≤ 4) (h : ∀ v : Int32, v = fRoom (I 66) (I 77) (I 65 5) a b → Q (some (.int v)) (z, N, I, L, R)) : qWP (d + 2) 210 [.ref 65, .int a, .int b] (z, N, I, L, R) Q := by
  refine qWP_of m_X12_roomOf rfl rfl [(0, .ref 65), (1, .int a), (2, .int b)] rfl ?_
  refine qJ_run (qWP_mono _) [27] 400 ?_
  refine ⟨fun (c1 : a = b) => ?_, fun (c1 : ¬ a = b) => ?_⟩
  · change Q (some (.int (-1))) (z, N, I, L, R)
    refine h _ ?_
    unfold fRoom
    exact (if_pos (by clear h; grind)).symm
  · refine ⟨?_, ?_⟩
    · exact vb (x := a) (N := 12) 12 (by decide) (by clear h; grind) (by clear h; grind)
    refine ⟨?_, ?_⟩
    · exact vb (x := b) (N := 12) 12 (by decide) (by clear h; grind) (by clear h; grind)
    refine ⟨fun (c2 : (I 66 ((a).toNatClampNeg)) = (I 66 ((b).toNatClampNeg))) => ?_, fun (c2 : ¬ (I 66 ((a).toNatClampNeg)) = (I 66 ((b).toNatClampNeg))) => ?_⟩
    · refine qJ_nm (qWP_mono _) [] [(4, .int 0), (3, .int 0), (2, .int b), (1, .int a), (0, .ref 65)] rfl rfl rfl ?_
      refine l_X12_roomOf (d := d) hs ha hb hl 0 0 (by decide) (h _ ?_)
      unfold fRoom
      exact (if_neg (by clear h; grind)).symm
    · change Q (some (.int (-1))) (z, N, I, L, R)
      refine h _ ?_
      unfold fRoom
      exact (if_pos (by clear h; grind)).symm
theorem l_X12_bestOf {d z : Nat} {N : Nat → Nat} {I : Nat → Nat → Int32} {L : Nat → Nat → Int64} {R : Nat → Nat → Option Nat} {Q : qP} {s e : Int32} (hs : 0 ≤ I 65 0 ∧ I 65 0 ≤ 12) (hse : 0 ≤ s ∧ s < I 65 0) (he : e = 0 ∨ e = 1) (hl : ∀ x : Int32, 0 ≤ x → x < I 65 0 → 1 ≤ I 66 x.toNatClampNeg ∧ I 66 x.toNatClampNeg ≤ 4) : ∀ (k : Int32), ∀ b t : Int32, 0 ≤ k → Q (some (.int ((upF (I 65 0) (gBestR (I 66) (I 77) (I 78) (I 79) (I 65 5) s e) k (b, t)).1))) (z, N, I, L, R) → qJ m_X12_bestOf (qWP (d + 2)) Q 33 [(5, .int k), (4, .int t), (3, .int b), (2, .int e), (1, .int s), (0, .ref 65)] [] 0 0 (z, N, I, L, R) := by
  refine up_ind (I 65 0) fun k ih => ?_
  intro b t h0 hq
  refine qJ_run (qWP_mono _) [33] 400 ?_
  refine ⟨fun (c1 : (I 65 0) ≤ k) => ?_, fun (c1 : ¬ (I 65 0) ≤ k) => ?_⟩
  · change Q (some (.int b)) (z, N, I, L, R)
    rw [upF_ge (by clear ih hq; grind)] at hq
    exact hq
  · refine ⟨fun (c2 : ¬ e = 1) => ?_, fun (c2 : e = 1) => ?_⟩
    · refine ⟨?_, ?_⟩
      · exact vb (x := k) (N := 12) 12 (by decide) (by clear ih hq; grind) (by clear ih hq; grind)
      refine ⟨fun (c3 : (I 78 ((k).toNatClampNeg)) < 0) => ?_, fun (c3 : ¬ (I 78 ((k).toNatClampNeg)) < 0) => ?_⟩
      · refine ⟨fun (c4 : ¬ e = 1) => ?_, fun (c4 : e = 1) => ?_⟩
        · refine ⟨⟨Nat.le_refl _, Nat.le_refl _⟩, ?_⟩
          refine c_X12_roomOf (d := d) hs ⟨by clear ih hq; grind, by clear ih hq; grind⟩ ⟨by clear ih hq; grind, by clear ih hq; grind⟩ (hl _ (by clear ih hq; grind) (by clear ih hq; grind)) fun v1 hv1 => ?_
          refine ⟨fun (c5 : v1 < 0) => ?_, fun (c5 : ¬ v1 < 0) => ?_⟩
          · refine qJ_nm (qWP_mono _) [(6, _)] [(5, .int (k + 1)), (4, .int t), (3, .int b), (2, .int e), (1, .int s), (0, .ref 65)] rfl rfl rfl ?_
            have hk : k < I 65 0 := by clear ih hq; grind
            have e9 : gBestR (I 66) (I 77) (I 78) (I 79) (I 65 5) s e k (b, t) = (b, t) := by
              unfold gBestR
              have hv : vBest (I 66) (I 77) (I 65 5) s e k = v1 := by
                unfold vBest
                first | exact (if_pos (by assumption)).trans (by symm; assumption) | exact (if_neg (by assumption)).trans (by symm; assumption)
              rw [hv]
              clear ih hq
              first | exact if_pos (by grind) | exact if_neg (by grind)
            rw [upF_on hk, e9] at hq
            exact ih hk _ _ (by clear ih hq; grind) hq
          · refine ⟨fun (c6 : b < 0) => ?_, fun (c6 : ¬ b < 0) => ?_⟩
            · refine qJ_nm (qWP_mono _) [(6, _)] [(5, .int (k + 1)), (4, .int v1), (3, .int k), (2, .int e), (1, .int s), (0, .ref 65)] rfl rfl rfl ?_
              have hk : k < I 65 0 := by clear ih hq; grind
              have e9 : gBestR (I 66) (I 77) (I 78) (I 79) (I 65 5) s e k (b, t) = (k, v1) := by
                unfold gBestR
                have hv : vBest (I 66) (I 77) (I 65 5) s e k = v1 := by
                  unfold vBest
                  first | exact (if_pos (by assumption)).trans (by symm; assumption) | exact (if_neg (by assumption)).trans (by symm; assumption)
                rw [hv]
                clear ih hq
                first | exact if_pos (by grind) | exact if_neg (by grind)
              rw [upF_on hk, e9] at hq
              exact ih hk _ _ (by clear ih hq; grind) hq
            · refine ⟨fun (c7 : v1 < t) => ?_, fun (c7 : ¬ v1 < t) => ?_⟩
              · refine qJ_nm (qWP_mono _) [(6, _)] [(5, .int (k + 1)), (4, .int v1), (3, .int k), (2, .int e), (1, .int s), (0, .ref 65)] rfl rfl rfl ?_
                have hk : k < I 65 0 := by clear ih hq; grind
                have e9 : gBestR (I 66) (I 77) (I 78) (I 79) (I 65 5) s e k (b, t) = (k, v1) := by
                  unfold gBestR
                  have hv : vBest (I 66) (I 77) (I 65 5) s e k = v1 := by
                    unfold vBest
                    first | exact (if_pos (by assumption)).trans (by symm; assumption) | exact (if_neg (by assumption)).trans (by symm; assumption)
                  rw [hv]
                  clear ih hq
                  first | exact if_pos (by grind) | exact if_neg (by grind)
                rw [upF_on hk, e9] at hq
                exact ih hk _ _ (by clear ih hq; grind) hq
              · refine qJ_nm (qWP_mono _) [(6, _)] [(5, .int (k + 1)), (4, .int t), (3, .int b), (2, .int e), (1, .int s), (0, .ref 65)] rfl rfl rfl ?_
                have hk : k < I 65 0 := by clear ih hq; grind
                have e9 : gBestR (I 66) (I 77) (I 78) (I 79) (I 65 5) s e k (b, t) = (b, t) := by
                  unfold gBestR
                  have hv : vBest (I 66) (I 77) (I 65 5) s e k = v1 := by
                    unfold vBest
                    first | exact (if_pos (by assumption)).trans (by symm; assumption) | exact (if_neg (by assumption)).trans (by symm; assumption)
                  rw [hv]
                  clear ih hq
                  first | exact if_pos (by grind) | exact if_neg (by grind)
                rw [upF_on hk, e9] at hq
                exact ih hk _ _ (by clear ih hq; grind) hq
        · refine ⟨⟨Nat.le_refl _, Nat.le_refl _⟩, ?_⟩
          refine c_X12_roomOf (d := d) hs ⟨by clear ih hq; grind, by clear ih hq; grind⟩ ⟨by clear ih hq; grind, by clear ih hq; grind⟩ (hl _ (by clear ih hq; grind) (by clear ih hq; grind)) fun v2 hv2 => ?_
          refine ⟨fun (c8 : v2 < 0) => ?_, fun (c8 : ¬ v2 < 0) => ?_⟩
          · refine qJ_nm (qWP_mono _) [(6, _)] [(5, .int (k + 1)), (4, .int t), (3, .int b), (2, .int e), (1, .int s), (0, .ref 65)] rfl rfl rfl ?_
            have hk : k < I 65 0 := by clear ih hq; grind
            have e9 : gBestR (I 66) (I 77) (I 78) (I 79) (I 65 5) s e k (b, t) = (b, t) := by
              unfold gBestR
              have hv : vBest (I 66) (I 77) (I 65 5) s e k = v2 := by
                unfold vBest
                first | exact (if_pos (by assumption)).trans (by symm; assumption) | exact (if_neg (by assumption)).trans (by symm; assumption)
              rw [hv]
              clear ih hq
              first | exact if_pos (by grind) | exact if_neg (by grind)
            rw [upF_on hk, e9] at hq
            exact ih hk _ _ (by clear ih hq; grind) hq
          · refine ⟨fun (c9 : b < 0) => ?_, fun (c9 : ¬ b < 0) => ?_⟩
            · refine qJ_nm (qWP_mono _) [(6, _)] [(5, .int (k + 1)), (4, .int v2), (3, .int k), (2, .int e), (1, .int s), (0, .ref 65)] rfl rfl rfl ?_
              have hk : k < I 65 0 := by clear ih hq; grind
              have e9 : gBestR (I 66) (I 77) (I 78) (I 79) (I 65 5) s e k (b, t) = (k, v2) := by
                unfold gBestR
                have hv : vBest (I 66) (I 77) (I 65 5) s e k = v2 := by
                  unfold vBest
                  first | exact (if_pos (by assumption)).trans (by symm; assumption) | exact (if_neg (by assumption)).trans (by symm; assumption)
                rw [hv]
                clear ih hq
                first | exact if_pos (by grind) | exact if_neg (by grind)
              rw [upF_on hk, e9] at hq
              exact ih hk _ _ (by clear ih hq; grind) hq
            · refine ⟨fun (c10 : v2 < t) => ?_, fun (c10 : ¬ v2 < t) => ?_⟩
              · refine qJ_nm (qWP_mono _) [(6, _)] [(5, .int (k + 1)), (4, .int v2), (3, .int k), (2, .int e), (1, .int s), (0, .ref 65)] rfl rfl rfl ?_
                have hk : k < I 65 0 := by clear ih hq; grind
                have e9 : gBestR (I 66) (I 77) (I 78) (I 79) (I 65 5) s e k (b, t) = (k, v2) := by
                  unfold gBestR
                  have hv : vBest (I 66) (I 77) (I 65 5) s e k = v2 := by
                    unfold vBest
                    first | exact (if_pos (by assumption)).trans (by symm; assumption) | exact (if_neg (by assumption)).trans (by symm; assumption)
                  rw [hv]
                  clear ih hq
                  first | exact if_pos (by grind) | exact if_neg (by grind)
                rw [upF_on hk, e9] at hq
                exact ih hk _ _ (by clear ih hq; grind) hq
              · refine qJ_nm (qWP_mono _) [(6, _)] [(5, .int (k + 1)), (4, .int t), (3, .int b), (2, .int e), (1, .int s), (0, .ref 65)] rfl rfl rfl ?_
                have hk : k < I 65 0 := by clear ih hq; grind
                have e9 : gBestR (I 66) (I 77) (I 78) (I 79) (I 65 5) s e k (b, t) = (b, t) := by
                  unfold gBestR
                  have hv : vBest (I 66) (I 77) (I 65 5) s e k = v2 := by
                    unfold vBest
                    first | exact (if_pos (by assumption)).trans (by symm; assumption) | exact (if_neg (by assumption)).trans (by symm; assumption)
                  rw [hv]
                  clear ih hq
                  first | exact if_pos (by grind) | exact if_neg (by grind)
                rw [upF_on hk, e9] at hq
                exact ih hk _ _ (by clear ih hq; grind) hq
      · have hk : k < I 65 0 := by clear ih hq; grind
        have e9 : gBestR (I 66) (I 77) (I 78) (I 79) (I 65 5) s e k (b, t) = (b, t) := by
          unfold gBestR
          clear ih hq
          first | exact if_pos (by grind) | exact if_neg (by grind)
        rw [upF_on hk, e9] at hq
        exact ih hk _ _ (by clear ih hq; grind) hq
    · refine ⟨?_, ?_⟩
      · exact vb (x := k) (N := 12) 12 (by decide) (by clear ih hq; grind) (by clear ih hq; grind)
      refine ⟨fun (c11 : (I 79 ((k).toNatClampNeg)) < 0) => ?_, fun (c11 : ¬ (I 79 ((k).toNatClampNeg)) < 0) => ?_⟩
      · refine ⟨fun (c12 : ¬ e = 1) => ?_, fun (c12 : e = 1) => ?_⟩
        · refine ⟨⟨Nat.le_refl _, Nat.le_refl _⟩, ?_⟩
          refine c_X12_roomOf (d := d) hs ⟨by clear ih hq; grind, by clear ih hq; grind⟩ ⟨by clear ih hq; grind, by clear ih hq; grind⟩ (hl _ (by clear ih hq; grind) (by clear ih hq; grind)) fun v3 hv3 => ?_
          refine ⟨fun (c13 : v3 < 0) => ?_, fun (c13 : ¬ v3 < 0) => ?_⟩
          · refine qJ_nm (qWP_mono _) [(6, _)] [(5, .int (k + 1)), (4, .int t), (3, .int b), (2, .int e), (1, .int s), (0, .ref 65)] rfl rfl rfl ?_
            have hk : k < I 65 0 := by clear ih hq; grind
            have e9 : gBestR (I 66) (I 77) (I 78) (I 79) (I 65 5) s e k (b, t) = (b, t) := by
              unfold gBestR
              have hv : vBest (I 66) (I 77) (I 65 5) s e k = v3 := by
                unfold vBest
                first | exact (if_pos (by assumption)).trans (by symm; assumption) | exact (if_neg (by assumption)).trans (by symm; assumption)
              rw [hv]
              clear ih hq
              first | exact if_pos (by grind) | exact if_neg (by grind)
            rw [upF_on hk, e9] at hq
            exact ih hk _ _ (by clear ih hq; grind) hq
          · refine ⟨fun (c14 : b < 0) => ?_, fun (c14 : ¬ b < 0) => ?_⟩
            · refine qJ_nm (qWP_mono _) [(6, _)] [(5, .int (k + 1)), (4, .int v3), (3, .int k), (2, .int e), (1, .int s), (0, .ref 65)] rfl rfl rfl ?_
              have hk : k < I 65 0 := by clear ih hq; grind
              have e9 : gBestR (I 66) (I 77) (I 78) (I 79) (I 65 5) s e k (b, t) = (k, v3) := by
                unfold gBestR
                have hv : vBest (I 66) (I 77) (I 65 5) s e k = v3 := by
                  unfold vBest
                  first | exact (if_pos (by assumption)).trans (by symm; assumption) | exact (if_neg (by assumption)).trans (by symm; assumption)
                rw [hv]
                clear ih hq
                first | exact if_pos (by grind) | exact if_neg (by grind)
              rw [upF_on hk, e9] at hq
              exact ih hk _ _ (by clear ih hq; grind) hq
            · refine ⟨fun (c15 : v3 < t) => ?_, fun (c15 : ¬ v3 < t) => ?_⟩
              · refine qJ_nm (qWP_mono _) [(6, _)] [(5, .int (k + 1)), (4, .int v3), (3, .int k), (2, .int e), (1, .int s), (0, .ref 65)] rfl rfl rfl ?_
                have hk : k < I 65 0 := by clear ih hq; grind
                have e9 : gBestR (I 66) (I 77) (I 78) (I 79) (I 65 5) s e k (b, t) = (k, v3) := by
                  unfold gBestR
                  have hv : vBest (I 66) (I 77) (I 65 5) s e k = v3 := by
                    unfold vBest
                    first | exact (if_pos (by assumption)).trans (by symm; assumption) | exact (if_neg (by assumption)).trans (by symm; assumption)
                  rw [hv]
                  clear ih hq
                  first | exact if_pos (by grind) | exact if_neg (by grind)
                rw [upF_on hk, e9] at hq
                exact ih hk _ _ (by clear ih hq; grind) hq
              · refine qJ_nm (qWP_mono _) [(6, _)] [(5, .int (k + 1)), (4, .int t), (3, .int b), (2, .int e), (1, .int s), (0, .ref 65)] rfl rfl rfl ?_
                have hk : k < I 65 0 := by clear ih hq; grind
                have e9 : gBestR (I 66) (I 77) (I 78) (I 79) (I 65 5) s e k (b, t) = (b, t) := by
                  unfold gBestR
                  have hv : vBest (I 66) (I 77) (I 65 5) s e k = v3 := by
                    unfold vBest
                    first | exact (if_pos (by assumption)).trans (by symm; assumption) | exact (if_neg (by assumption)).trans (by symm; assumption)
                  rw [hv]
                  clear ih hq
                  first | exact if_pos (by grind) | exact if_neg (by grind)
                rw [upF_on hk, e9] at hq
                exact ih hk _ _ (by clear ih hq; grind) hq
        · refine ⟨⟨Nat.le_refl _, Nat.le_refl _⟩, ?_⟩
          refine c_X12_roomOf (d := d) hs ⟨by clear ih hq; grind, by clear ih hq; grind⟩ ⟨by clear ih hq; grind, by clear ih hq; grind⟩ (hl _ (by clear ih hq; grind) (by clear ih hq; grind)) fun v4 hv4 => ?_
          refine ⟨fun (c16 : v4 < 0) => ?_, fun (c16 : ¬ v4 < 0) => ?_⟩
          · refine qJ_nm (qWP_mono _) [(6, _)] [(5, .int (k + 1)), (4, .int t), (3, .int b), (2, .int e), (1, .int s), (0, .ref 65)] rfl rfl rfl ?_
            have hk : k < I 65 0 := by clear ih hq; grind
            have e9 : gBestR (I 66) (I 77) (I 78) (I 79) (I 65 5) s e k (b, t) = (b, t) := by
              unfold gBestR
              have hv : vBest (I 66) (I 77) (I 65 5) s e k = v4 := by
                unfold vBest
                first | exact (if_pos (by assumption)).trans (by symm; assumption) | exact (if_neg (by assumption)).trans (by symm; assumption)
              rw [hv]
              clear ih hq
              first | exact if_pos (by grind) | exact if_neg (by grind)
            rw [upF_on hk, e9] at hq
            exact ih hk _ _ (by clear ih hq; grind) hq
          · refine ⟨fun (c17 : b < 0) => ?_, fun (c17 : ¬ b < 0) => ?_⟩
            · refine qJ_nm (qWP_mono _) [(6, _)] [(5, .int (k + 1)), (4, .int v4), (3, .int k), (2, .int e), (1, .int s), (0, .ref 65)] rfl rfl rfl ?_
              have hk : k < I 65 0 := by clear ih hq; grind
              have e9 : gBestR (I 66) (I 77) (I 78) (I 79) (I 65 5) s e k (b, t) = (k, v4) := by
                unfold gBestR
                have hv : vBest (I 66) (I 77) (I 65 5) s e k = v4 := by
                  unfold vBest
                  first | exact (if_pos (by assumption)).trans (by symm; assumption) | exact (if_neg (by assumption)).trans (by symm; assumption)
                rw [hv]
                clear ih hq
                first | exact if_pos (by grind) | exact if_neg (by grind)
              rw [upF_on hk, e9] at hq
              exact ih hk _ _ (by clear ih hq; grind) hq
            · refine ⟨fun (c18 : v4 < t) => ?_, fun (c18 : ¬ v4 < t) => ?_⟩
              · refine qJ_nm (qWP_mono _) [(6, _)] [(5, .int (k + 1)), (4, .int v4), (3, .int k), (2, .int e), (1, .int s), (0, .ref 65)] rfl rfl rfl ?_
                have hk : k < I 65 0 := by clear ih hq; grind
                have e9 : gBestR (I 66) (I 77) (I 78) (I 79) (I 65 5) s e k (b, t) = (k, v4) := by
                  unfold gBestR
                  have hv : vBest (I 66) (I 77) (I 65 5) s e k = v4 := by
                    unfold vBest
                    first | exact (if_pos (by assumption)).trans (by symm; assumption) | exact (if_neg (by assumption)).trans (by symm; assumption)
                  rw [hv]
                  clear ih hq
                  first | exact if_pos (by grind) | exact if_neg (by grind)
                rw [upF_on hk, e9] at hq
                exact ih hk _ _ (by clear ih hq; grind) hq
              · refine qJ_nm (qWP_mono _) [(6, _)] [(5, .int (k + 1)), (4, .int t), (3, .int b), (2, .int e), (1, .int s), (0, .ref 65)] rfl rfl rfl ?_
                have hk : k < I 65 0 := by clear ih hq; grind
                have e9 : gBestR (I 66) (I 77) (I 78) (I 79) (I 65 5) s e k (b, t) = (b, t) := by
                  unfold gBestR
                  have hv : vBest (I 66) (I 77) (I 65 5) s e k = v4 := by
                    unfold vBest
                    first | exact (if_pos (by assumption)).trans (by symm; assumption) | exact (if_neg (by assumption)).trans (by symm; assumption)
                  rw [hv]
                  clear ih hq
                  first | exact if_pos (by grind) | exact if_neg (by grind)
                rw [upF_on hk, e9] at hq
                exact ih hk _ _ (by clear ih hq; grind) hq
      · have hk : k < I 65 0 := by clear ih hq; grind
        have e9 : gBestR (I 66) (I 77) (I 78) (I 79) (I 65 5) s e k (b, t) = (b, t) := by
          unfold gBestR
          clear ih hq
          first | exact if_pos (by grind) | exact if_neg (by grind)
        rw [upF_on hk, e9] at hq
        exact ih hk _ _ (by clear ih hq; grind) hq
theorem c_X12_bestOf {d z : Nat} {N : Nat → Nat} {I : Nat → Nat → Int32} {L : Nat → Nat → Int64} {R : Nat → Nat → Option Nat} {Q : qP} {s : Int32} {e : Int32} (hs : 0 ≤ I 65 0 ∧ I 65 0 ≤ 12) (hse : 0 ≤ s ∧ s < I 65 0) (he : e = 0 ∨ e = 1) (hl : ∀ x : Int32, 0 ≤ x → x < I 65 0 → 1 ≤ I 66 x.toNatClampNeg ∧ I 66 x.toNatClampNeg ≤ 4) (h : ∀ v : Int32, v = fBestR (I 66) (I 77) (I 78) (I 79) (I 65 5) (I 65 0) s e → Q (some (.int v)) (z, N, I, L, R)) : qWP (d + 3) 212 [.ref 65, .int s, .int e] (z, N, I, L, R) Q := by
  refine qWP_of m_X12_bestOf rfl rfl [(0, .ref 65), (1, .int s), (2, .int e)] rfl ?_
  refine qJ_run (qWP_mono _) [33] 400 ?_
  refine ⟨fun (c1 : ¬ e = 1) => ?_, fun (c1 : e = 1) => ?_⟩
  · refine ⟨?_, ?_⟩
    · exact vb (x := s) (N := 12) 12 (by decide) (by clear h; grind) (by clear h; grind)
    refine ⟨fun (c2 : (I 79 ((s).toNatClampNeg)) < 0) => ?_, fun (c2 : ¬ (I 79 ((s).toNatClampNeg)) < 0) => ?_⟩
    · refine qJ_nm (qWP_mono _) [] [(5, .int 0), (4, .int 0), (3, .int (-1)), (2, .int e), (1, .int s), (0, .ref 65)] rfl rfl rfl ?_
      refine l_X12_bestOf (d := d) hs hse he hl 0 (-1) 0 (by decide) (h _ ?_)
      unfold fBestR
      exact (if_neg (by clear h; grind)).symm
    · change Q (some (.int (-1))) (z, N, I, L, R)
      refine h _ ?_
      unfold fBestR
      exact (if_pos (by clear h; grind)).symm
  · refine ⟨?_, ?_⟩
    · exact vb (x := s) (N := 12) 12 (by decide) (by clear h; grind) (by clear h; grind)
    refine ⟨fun (c3 : (I 78 ((s).toNatClampNeg)) < 0) => ?_, fun (c3 : ¬ (I 78 ((s).toNatClampNeg)) < 0) => ?_⟩
    · refine qJ_nm (qWP_mono _) [] [(5, .int 0), (4, .int 0), (3, .int (-1)), (2, .int e), (1, .int s), (0, .ref 65)] rfl rfl rfl ?_
      refine l_X12_bestOf (d := d) hs hse he hl 0 (-1) 0 (by decide) (h _ ?_)
      unfold fBestR
      exact (if_neg (by clear h; grind)).symm
    · change Q (some (.int (-1))) (z, N, I, L, R)
      refine h _ ?_
      unfold fBestR
      exact (if_pos (by clear h; grind)).symm
theorem c_X12_edge {d z : Nat} {N : Nat → Nat} {I : Nat → Nat → Int32} {L : Nat → Nat → Int64} {R : Nat → Nat → Option Nat} {Q : qP} {s : Int32} {e : Int32} {l : Int32} {y : Int32} (hs : 0 ≤ I 65 0 ∧ I 65 0 ≤ 12) (hl : ∀ x : Int32, 0 ≤ x → x < I 65 0 → 1 ≤ I 66 x.toNatClampNeg ∧ I 66 x.toNatClampNeg ≤ 4) (hr : ∀ x : Int32, 0 ≤ x → x < I 65 0 → I 78 x.toNatClampNeg < I 65 0 ∧ I 79 x.toNatClampNeg < I 65 0) (h0 : ¬ (((0 ≤ s ∧ s < I 65 0) ∧ 0 ≤ l ∧ l < I 66 s.toNatClampNeg) ∧ (e = 0 ∨ e = 1) ∧ 0 ≤ y ∧ y ≤ 9) → Q (some (.int (-2))) (z, N, I, L, R)) (h1 : ((0 ≤ s ∧ s < I 65 0) ∧ 0 ≤ l ∧ l < I 66 s.toNatClampNeg) ∧ (e = 0 ∨ e = 1) ∧ 0 ≤ y ∧ y ≤ 9 → Q (some (.int (I 77 (mX s e l)))) (z, N, qRow (qRow (q2 I 77 (mX s e l) y) 78 (uRt (uRt (I 78) s) (uLf (I 78) (I 79) s s.toNatClampNeg))) 79 (uLf (uRt (I 78) s) (uLf (I 78) (I 79) s) (uLf (I 78) (I 79) s s.toNatClampNeg)), L, R)) : qWP (d + 4) 208 [.ref 65, .int s, .int e, .int l, .int y] (z, N, I, L, R) Q := by
  refine qWP_of m_X12_edge rfl rfl [(0, .ref 65), (1, .int s), (2, .int e), (3, .int l), (4, .int y)] rfl ?_
  refine qJ_run (qWP_mono _) [] 400 ?_
  refine ⟨⟨Nat.le_refl _, Nat.le_refl _⟩, ?_⟩
  refine c_X12_isLine hs fun v1 hv1 => ?_
  refine ⟨fun (c1 : v1 = 0) => ?_, fun (c1 : ¬ v1 = 0) => ?_⟩
  · change Q (some (.int (-2))) (z, N, I, L, R)
    exact h0 (by clear h0 h1; grind)
  · refine ⟨⟨Nat.le_refl _, Nat.le_refl _⟩, ?_⟩
    refine c_X12_isIn fun v2 hv2 => ?_
    refine ⟨fun (c2 : v2 = 0) => ?_, fun (c2 : ¬ v2 = 0) => ?_⟩
    · change Q (some (.int (-2))) (z, N, I, L, R)
      exact h0 (by clear h0 h1; grind)
    · refine ⟨⟨Nat.le_refl _, Nat.le_refl _⟩, ?_⟩
      refine c_X12_isIn fun v3 hv3 => ?_
      refine ⟨fun (c3 : ¬ v3 = 0) => ?_, fun (c3 : v3 = 0) => ?_⟩
      · refine ⟨⟨Nat.le_refl _, Nat.le_refl _⟩, ?_⟩
        have hg : ((0 ≤ s ∧ s < I 65 0) ∧ 0 ≤ l ∧ l < I 66 s.toNatClampNeg) ∧ (e = 0 ∨ e = 1) ∧ 0 ≤ y ∧ y ≤ 9 := by clear h0 h1; grind
        have he := hg.2.1
        have hls := hl s hg.1.1.1 hg.1.1.2
        have hgx := mX_n (s := s) (e := e) (l := l) ⟨by clear h0 h1; grind, by clear h0 h1; grind⟩ he ⟨by clear h0 h1; grind, by clear h0 h1; grind⟩
        refine c_X12_edgeAt fun v4 hv4 => ?_
        rw [hgx.2.2] at hv4
        subst hv4
        refine ⟨?_, ?_⟩
        · exact vb (N := 96) 96 (by decide) hgx.1.1 hgx.1.2
        refine ⟨⟨Nat.le_refl _, Nat.le_refl _⟩, ?_⟩
        refine c_X12_edgeAt fun v5 hv5 => ?_
        rw [hgx.2.2] at hv5
        subst hv5
        refine ⟨?_, ?_⟩
        · exact vb (N := 96) 96 (by decide) hgx.1.1 hgx.1.2
        refine ⟨⟨Nat.le_refl _, Nat.le_refl _⟩, ?_⟩
        refine c_X12_parts (d := d + 2) (by clear h0 h1; grind) (fun _ => by simp (decide := true) only [q2_ne]; have := hr s hg.1.1.1 hg.1.1.2; clear h0 h1; grind) ?_
        simp (decide := true) only [q2_ne]
        refine ⟨?_, ?_⟩
        · exact vb (x := s) (N := 12) 12 (by decide) (by clear h0 h1; grind) (by clear h0 h1; grind)
        refine ⟨⟨Nat.le_refl _, Nat.le_refl _⟩, ?_⟩
        have h7 := hr s hg.1.1.1 hg.1.1.2
        have h8 : uLf (I 78) (I 79) s s.toNatClampNeg < I 65 0 := by
          unfold uLf
          split
          · exact h7.2
          · unfold uI
            split
            · clear h0 h1; grind
            · exact h7.2
        refine c_X12_parts (d := d + 2) (show uLf (I 78) (I 79) s s.toNatClampNeg < 12 from Int32.lt_of_lt_of_le h8 hs.2) (fun (h9 : 0 ≤ uLf (I 78) (I 79) s s.toNatClampNeg) => show uRt (I 78) s (uLf (I 78) (I 79) s s.toNatClampNeg).toNatClampNeg < 12 from uRt_r (n := I 65 0) (fun x a b => Int32.lt_of_lt_of_le (hr x a b).1 hs.2) _ h9 h8) ?_
        simp (decide := true) only [qRow_ne, qRow_at]
        rw [qRow_2]
        change Q (some (.int (I 77 (((s * 2 + e) * 4 + l).toNatClampNeg)))) (z, N, qRow (qRow (q2 I 77 (mX s e l) y) 78 (uRt (uRt (I 78) s) (uLf (I 78) (I 79) s s.toNatClampNeg))) 79 (uLf (uRt (I 78) s) (uLf (I 78) (I 79) s) (uLf (I 78) (I 79) s s.toNatClampNeg)), L, R)
        exact h1 (by clear h0 h1; grind)
      · change Q (some (.int (-2))) (z, N, I, L, R)
        exact h0 (by clear h0 h1; grind)
