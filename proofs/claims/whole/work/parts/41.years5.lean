/-! years: the two sides -/
theorem nI_below {n : Int32} {v : Nat} (hn : n ≤ 12) (hv : v < n.toNatClampNeg) : 0 ≤ nI v ∧ nI v < n ∧ (nI v).toNatClampNeg = v ∧ v < 12 := by
  have h1 : n.toInt ≤ 12 := Int32.le_iff_toInt_le.mp hn
  rw [tcn] at hv
  have h2 : v < 2 ^ 31 := by omega
  refine ⟨nI_pos' h2, ?_, nI_clamp h2, by omega⟩
  rw [Int32.lt_iff_toInt_lt, nI_toInt h2]
  omega
theorem below12 {v : Nat} (hv : v < 12) : 0 ≤ nI v ∧ nI v < 12 ∧ (nI v).toNatClampNeg = v := by
  have h2 : v < 2 ^ 31 := by omega
  refine ⟨nI_pos' h2, ?_, nI_clamp h2⟩
  rw [Int32.lt_iff_toInt_lt, nI_toInt h2]
  show (v : Int) < 12
  omega
theorem BE_tr {n b b' : Int32} {ls ms ls' ms' ba bb bd ba' bb' bd' : Nat → Int32} (h : RDa n b b' ls ms ls' ms' ba bb bd ba' bb' bd') (bits : Int32) (x y : Nat) (d : Int) : BE ba' bb' bd' bits b' x y d ↔ BE ba bb bd bits b x y d := by
  obtain ⟨h1, h2, h3, h4, h5, h6⟩ := h
  unfold BE
  constructor
  · rintro ⟨i, a0, a1, a2, a3, a4, a5⟩
    rw [h1] at a1
    have g := h6 i a0 a1
    exact ⟨i, a0, a1, a2, by rw [a3, g.1], by rw [a4, g.2.1], by rw [a5, g.2.2.1]⟩
  · rintro ⟨i, a0, a1, a2, a3, a4, a5⟩
    have g := h6 i a0 a1
    exact ⟨i, a0, by rw [h1]; exact a1, a2, by rw [a3, g.1], by rw [a4, g.2.1], by rw [a5, g.2.2.1]⟩
theorem yr_ok {n b b' : Int32} {ls ms ls' ms' ba bb bd ba' bb' bd' : Nat → Int32} (hn : 0 ≤ n ∧ n ≤ 12) (h : RDa n b b' ls ms ls' ms' ba bb bd ba' bb' bd') : okB 12 ba bb bd b ∧ yL ls ms ∧ okB n ba' bb' bd' b' ∧ yLn n.toNatClampNeg ls' ms' := by
  obtain ⟨h1, h2, h3, h4, h5, h6⟩ := h
  refine ⟨⟨⟨h2, h3⟩, fun i a0 a1 => ?_⟩, fun v hv => ?_, ⟨⟨by rw [h1]; exact h2, by rw [h1]; exact h3⟩, fun i a0 a1 => ?_⟩, fun v hv => ?_⟩
  · have g := h6 i a0 a1
    exact ⟨⟨g.2.2.2.1, Int32.lt_of_lt_of_le g.2.2.2.2.1 hn.2⟩, ⟨g.2.2.2.2.2.1, Int32.lt_of_lt_of_le g.2.2.2.2.2.2.1 hn.2⟩, g.2.2.2.2.2.2.2.1, g.2.2.2.2.2.2.2.2⟩
  · obtain ⟨a0, a1, a2⟩ := below12 hv
    by_cases hc : nI v < n
    · have g := h4 _ a0 hc
      rw [a2] at g
      exact ⟨Int32.le_iff_toInt_le.mp g.2.2.1, Int32.le_iff_toInt_le.mp g.2.2.2.1, Int32.le_iff_toInt_le.mp g.2.2.2.2⟩
    · have g := h5 _ (Int32.not_lt.mp hc) a1
      rw [a2] at g
      rw [g.1, g.2]
      decide
  · rw [h1] at a1
    have g := h6 i a0 a1
    rw [g.1, g.2.1, g.2.2.1]
    exact ⟨⟨g.2.2.2.1, g.2.2.2.2.1⟩, ⟨g.2.2.2.2.2.1, g.2.2.2.2.2.2.1⟩, g.2.2.2.2.2.2.2.1, g.2.2.2.2.2.2.2.2⟩
  · obtain ⟨a0, a1, a2, _⟩ := nI_below hn.2 hv
    have g := h4 _ a0 a1
    rw [a2] at g
    rw [g.1, g.2.1]
    exact ⟨Int32.le_iff_toInt_le.mp g.2.2.1, Int32.le_iff_toInt_le.mp g.2.2.2.1, Int32.le_iff_toInt_le.mp g.2.2.2.2⟩
theorem Sol_dn {n b b' bits : Int32} {ls ms ls' ms' ba bb bd ba' bb' bd' : Nat → Int32} (hn : 0 ≤ n ∧ n ≤ 12) (h : RDa n b b' ls ms ls' ms' ba bb bd ba' bb' bd') (x : Nat → Int) (hx : Sol 12 ls ms ba bb bd b bits x) : Sol n.toNatClampNeg ls' ms' ba' bb' bd' b' bits x := by
  refine ⟨fun v hv => ?_, fun p q d hb => hx.2 p q d ((BE_tr h bits p q d).mp hb)⟩
  obtain ⟨a0, a1, a2, a3⟩ := nI_below hn.2 hv
  have g := h.2.2.2.1 _ a0 a1
  rw [a2] at g
  rw [g.1, g.2.1]
  exact hx.1 v a3
theorem Sol_up {n b b' bits : Int32} {ls ms ls' ms' ba bb bd ba' bb' bd' : Nat → Int32} (hn : 0 ≤ n ∧ n ≤ 12) (h : RDa n b b' ls ms ls' ms' ba bb bd ba' bb' bd') (x : Nat → Int) (hx : Sol n.toNatClampNeg ls' ms' ba' bb' bd' b' bits x) : Sol 12 ls ms ba bb bd b bits (fun v => if v < n.toNatClampNeg then x v else -999) := by
  refine ⟨fun v hv => ?_, fun p q d hb => ?_⟩
  · obtain ⟨a0, a1, a2⟩ := below12 hv
    dsimp only
    by_cases hc : nI v < n
    · have hv2 : v < n.toNatClampNeg := by rw [← a2]; exact clampN ⟨a0, hc⟩
      have g := h.2.2.2.1 _ a0 hc
      rw [a2] at g
      rw [if_pos hv2, ← g.1, ← g.2.1]
      exact hx.1 v hv2
    · have hv2 : ¬ v < n.toNatClampNeg := fun h2 => hc (nI_below hn.2 h2).2.1
      have g := h.2.2.2.2.1 _ (Int32.not_lt.mp hc) a1
      rw [a2] at g
      rw [if_neg hv2, g.1, g.2]
      decide
  · have hb' := (BE_tr h bits p q d).mpr hb
    have hlt := BE_lt (yr_ok hn h).2.2.1 hb'
    dsimp only
    rw [if_pos hlt.1, if_pos hlt.2]
    exact hx.2 p q d hb'
theorem F_eq {n b b' bits : Int32} {ls ms ls' ms' ba bb bd ba' bb' bd' : Nat → Int32} (hn : 0 ≤ n ∧ n ≤ 12) (h : RDa n b b' ls ms ls' ms' ba bb bd ba' bb' bd') : (∃ x, Sol n.toNatClampNeg ls' ms' ba' bb' bd' b' bits x) ↔ ∃ x, Sol 12 ls ms ba bb bd b bits x :=
  ⟨fun ⟨x, hx⟩ => ⟨_, Sol_up hn h x hx⟩, fun ⟨x, hx⟩ => ⟨_, Sol_dn hn h x hx⟩⟩
def eqS (n : Int32) (E U E' U' : Nat → Int32) : Prop := ∀ s : Int32, 0 ≤ s → s < n → (E' s.toNatClampNeg = E s.toNatClampNeg ∧ U' s.toNatClampNeg = U s.toNatClampNeg) ∧ -999 ≤ E s.toNatClampNeg ∧ E s.toNatClampNeg ≤ U s.toNatClampNeg ∧ U s.toNatClampNeg ≤ 999
theorem yO_rel {n b b' bits v w : Int32} {ls ms ls' ms' ba bb bd ba' bb' bd' E U E' U' : Nat → Int32} (hn : 0 ≤ n ∧ n ≤ 12) (h : RDa n b b' ls ms ls' ms' ba bb bd ba' bb' bd') (h1 : yO 12 ls ms ba bb bd b bits 12 1 0 v E U) (h2 : yO n.toNatClampNeg ls' ms' ba' bb' bd' b' bits n 0 1 w E' U') : (v = 1 ∧ w = 0 ∧ eqS n E U E' U') ∨ (v = 0 ∧ w = 1) := by
  rcases h1 with ⟨e1, f1, s1⟩ | ⟨e1, f1⟩
  · rcases h2 with ⟨e2, f2, s2⟩ | ⟨e2, f2⟩
    · refine Or.inl ⟨e1, e2, fun s h0 hs => ?_⟩
      obtain ⟨a0, a1, ⟨x, hx, ex⟩, y, hy, ey⟩ := s1 s h0 (Int32.lt_of_lt_of_le hs hn.2)
      obtain ⟨-, b1, ⟨x', hx', ex'⟩, y', hy', ey'⟩ := s2 s h0 hs
      have hlt := clampN ⟨h0, hs⟩
      have c1 := (a1 _ (Sol_up hn h x' hx')).1
      have c2 := (b1 x (Sol_dn hn h x hx)).1
      have c3 := (a1 _ (Sol_up hn h y' hy')).2
      have c4 := (b1 y (Sol_dn hn h y hy)).2
      try dsimp only at c1 c3
      rw [if_pos hlt] at c1 c3
      exact ⟨⟨Int32.toInt_inj.mp (by omega), Int32.toInt_inj.mp (by omega)⟩, a0⟩
    · exact absurd ((F_eq hn h).mpr f1) f2
  · rcases h2 with ⟨e2, f2, s2⟩ | ⟨e2, f2⟩
    · exact absurd ((F_eq hn h).mp f2) f1
    · exact Or.inr ⟨e1, e2⟩
/-- leaving bounds out, from the last to the first -/
noncomputable def gCl (F : Int32 → Prop) (i b : Int32) : Int32 := @ite _ (F (b &&& ((1 <<< (i &&& 31)) ^^^ (-1)))) (Classical.propDecidable _) b (b &&& ((1 <<< (i &&& 31)) ^^^ (-1)))
noncomputable def clR (F : Int32 → Prop) : Nat → Int32 → Int32
  | 0, b => b
  | m + 1, b => clR F m (gCl F (nI m) b)
theorem gCl_p {F : Int32 → Prop} {i b : Int32} (h : F (b &&& ((1 <<< (i &&& 31)) ^^^ (-1)))) : gCl F i b = b := by unfold gCl; rw [if_pos h]
theorem gCl_n {F : Int32 → Prop} {i b : Int32} (h : ¬ F (b &&& ((1 <<< (i &&& 31)) ^^^ (-1)))) : gCl F i b = b &&& ((1 <<< (i &&& 31)) ^^^ (-1)) := by unfold gCl; rw [if_neg h]
theorem c_X11_span {d z : Nat} {N : Nat → Nat} {I : Nat → Nat → Int32} {L : Nat → Nat → Int64} {R : Nat → Nat → Option Nat} {Q : qP} {s : Int32} {w : Int32} (hs : 0 ≤ I 3 2 ∧ I 3 2 ≤ 12) (hb : okB 12 (I 51) (I 52) (I 53) (I 46 7)) (hyl : yL (I 47) (I 48)) (h0 : ¬ ((0 ≤ s ∧ s < I 3 2) ∧ 0 ≤ w ∧ w ≤ 1) → Q (some (.int (-2))) (z, N, I, L, R)) (h1 : (0 ≤ s ∧ s < I 3 2) ∧ 0 ≤ w ∧ w ≤ 1 → ∀ (v : Int32) (E U : Nat → Int32), yO 12 (I 47) (I 48) (I 51) (I 52) (I 53) (I 46 7) (1 <<< (I 46 7 &&& 31) - 1) 12 1 0 v E U → Q (some (.int (if v = 1 then (if w = 0 then E s.toNatClampNeg else U s.toNatClampNeg) else -100000))) (z, N, qRow (qRow I 49 E) 50 U, L, R)) : qWP (d + 4) 150 [.ref 2, .int s, .int w] (z, N, I, L, R) Q := by
  refine qWP_of m_X11_span rfl rfl [(0, .ref 2), (1, .int s), (2, .int w)] rfl ?_
  refine qJ_run (qWP_mono _) [] 400 ?_
  refine ⟨⟨Nat.le_refl _, Nat.le_refl _⟩, ?_⟩
  refine c_X6_has hs fun v1 hv1 => ?_
  refine ⟨fun (c1 : v1 = 0) => ?_, fun (c1 : ¬ v1 = 0) => ?_⟩
  · change Q (some (.int (-2))) (z, N, I, L, R)
    exact h0 (by clear h0 h1; grind)
  · refine ⟨fun (c2 : w < 0) => ?_, fun (c2 : ¬ w < 0) => ?_⟩
    · change Q (some (.int (-2))) (z, N, I, L, R)
      exact h0 (by clear h0 h1; grind)
    · refine ⟨fun (c3 : w ≤ 1) => ?_, fun (c3 : ¬ w ≤ 1) => ?_⟩
      · refine ⟨⟨Nat.le_refl _, Nat.le_refl _⟩, ?_⟩
        refine c_X0_settle (d := d) hb hyl fun v1 E U hy1 => ?_
        refine ⟨fun (c4 : ¬ v1 = 0) => ?_, fun (c4 : v1 = 0) => ?_⟩
        · refine ⟨fun (c5 : ¬ w = 0) => ?_, fun (c5 : w = 0) => ?_⟩
          · refine ⟨⟨Nat.le_refl _, Nat.le_refl _⟩, ?_⟩
            refine c_X0_latest fun v3 hv3 => ?_
            simp (decide := true) only [qRow_ne, qRow_at] at hv3
            change Q (some (.int v3)) (z, N, qRow (qRow I 49 E) 50 U, L, R)
            have hg : (0 ≤ s ∧ s < I 3 2) ∧ 0 ≤ w ∧ w ≤ 1 := by clear h0 h1; grind
            have hs12 : 0 ≤ s ∧ s < 12 := by clear h0 h1; grind
            have hh := h1 hg v1 E U hy1
            have hv1 : v1 = 1 := by
              rcases hy1 with h9 | h9
              · exact h9.1
              · exact absurd h9.1 (by assumption)
            rw [if_pos hv1] at hh
            rw [if_neg (show ¬ w = 0 by assumption)] at hh
            rw [if_pos hs12] at hv3
            rw [hv3]
            exact hh
          · refine ⟨⟨Nat.le_refl _, Nat.le_refl _⟩, ?_⟩
            refine c_X0_earliest fun v4 hv4 => ?_
            simp (decide := true) only [qRow_ne, qRow_at] at hv4
            change Q (some (.int v4)) (z, N, qRow (qRow I 49 E) 50 U, L, R)
            have hg : (0 ≤ s ∧ s < I 3 2) ∧ 0 ≤ w ∧ w ≤ 1 := by clear h0 h1; grind
            have hs12 : 0 ≤ s ∧ s < 12 := by clear h0 h1; grind
            have hh := h1 hg v1 E U hy1
            have hv1 : v1 = 1 := by
              rcases hy1 with h9 | h9
              · exact h9.1
              · exact absurd h9.1 (by assumption)
            rw [if_pos hv1] at hh
            rw [if_pos (show w = 0 by assumption)] at hh
            rw [if_pos hs12] at hv4
            rw [hv4]
            exact hh
        · change Q (some (.int 4294867296)) (z, N, qRow (qRow I 49 E) 50 U, L, R)
          have hg : (0 ≤ s ∧ s < I 3 2) ∧ 0 ≤ w ∧ w ≤ 1 := by clear h0 h1; grind
          have hs12 : 0 ≤ s ∧ s < 12 := by clear h0 h1; grind
          have hh := h1 hg v1 E U hy1
          rw [if_neg (show ¬ v1 = 1 from fun e => by rw [e] at c4; exact absurd c4 (by decide))] at hh
          exact hh
      · change Q (some (.int (-2))) (z, N, I, L, R)
        exact h0 (by clear h0 h1; grind)
theorem c_X12_span {d z : Nat} {N : Nat → Nat} {I : Nat → Nat → Int32} {L : Nat → Nat → Int64} {R : Nat → Nat → Option Nat} {Q : qP} {s : Int32} {w : Int32} (hs : 0 ≤ I 65 0 ∧ I 65 0 ≤ 12) (hb : okB (I 65 0) (I 84) (I 85) (I 86) (I 65 4)) (hyl : yLn (I 65 0).toNatClampNeg (I 80) (I 81)) (h0 : ¬ ((0 ≤ s ∧ s < I 65 0) ∧ 0 ≤ w ∧ w ≤ 1) → Q (some (.int (-2))) (z, N, I, L, R)) (h1 : (0 ≤ s ∧ s < I 65 0) ∧ 0 ≤ w ∧ w ≤ 1 → ∀ (v : Int32) (E U : Nat → Int32), yO (I 65 0).toNatClampNeg (I 80) (I 81) (I 84) (I 85) (I 86) (I 65 4) (1 <<< (I 65 4 &&& 31) - 1) (I 65 0) 0 1 v E U → Q (some (.int (if v = 0 then (if w = 0 then E s.toNatClampNeg else U s.toNatClampNeg) else -100000))) (z, N, qRow (qRow I 82 E) 83 U, L, R)) : qWP (d + 3) 223 [.ref 65, .int s, .int w] (z, N, I, L, R) Q := by
  refine qWP_of m_X12_span rfl rfl [(0, .ref 65), (1, .int s), (2, .int w)] rfl ?_
  refine qJ_run (qWP_mono _) [] 400 ?_
  refine ⟨⟨Nat.le_refl _, Nat.le_refl _⟩, ?_⟩
  refine c_X12_isStone fun v1 hv1 => ?_
  refine ⟨fun (c1 : v1 = 0) => ?_, fun (c1 : ¬ v1 = 0) => ?_⟩
  · change Q (some (.int (-2))) (z, N, I, L, R)
    exact h0 (by clear h0 h1; grind)
  · refine ⟨⟨Nat.le_refl _, Nat.le_refl _⟩, ?_⟩
    refine c_X12_isIn fun v2 hv2 => ?_
    refine ⟨fun (c2 : ¬ v2 = 0) => ?_, fun (c2 : v2 = 0) => ?_⟩
    · refine ⟨⟨Nat.le_refl _, Nat.le_refl _⟩, ?_⟩
      refine c_X12_clashAll (d := d) hs hb hyl fun v1 E U hy1 hw1 => ?_
      refine ⟨fun (c3 : v1 = 0) => ?_, fun (c3 : ¬ v1 = 0) => ?_⟩
      · refine ⟨fun (c4 : ¬ w = 0) => ?_, fun (c4 : w = 0) => ?_⟩
        · refine ⟨?_, ?_⟩
          · exact vb (x := s) (N := 12) 12 (by decide) (by clear h0 h1; grind) (by clear h0 h1; grind)
          change Q (some (.int (U ((s).toNatClampNeg)))) (z, N, qRow (qRow I 82 E) 83 U, L, R)
          have hg : (0 ≤ s ∧ s < I 65 0) ∧ 0 ≤ w ∧ w ≤ 1 := by clear h0 h1; grind
          have hh := h1 hg v1 E U hy1
          rw [if_pos (show v1 = 0 by clear h0 h1; grind)] at hh
          rw [if_neg (show ¬ w = 0 by assumption)] at hh
          exact hh
        · refine ⟨?_, ?_⟩
          · exact vb (x := s) (N := 12) 12 (by decide) (by clear h0 h1; grind) (by clear h0 h1; grind)
          change Q (some (.int (E ((s).toNatClampNeg)))) (z, N, qRow (qRow I 82 E) 83 U, L, R)
          have hg : (0 ≤ s ∧ s < I 65 0) ∧ 0 ≤ w ∧ w ≤ 1 := by clear h0 h1; grind
          have hh := h1 hg v1 E U hy1
          rw [if_pos (show v1 = 0 by clear h0 h1; grind)] at hh
          rw [if_pos (show w = 0 by assumption)] at hh
          exact hh
      · change Q (some (.int 4294867296)) (z, N, qRow (qRow I 82 E) 83 U, L, R)
        have hg : (0 ≤ s ∧ s < I 65 0) ∧ 0 ≤ w ∧ w ≤ 1 := by clear h0 h1; grind
        have hh := h1 hg v1 E U hy1
        rw [if_neg (show ¬ v1 = 0 by assumption)] at hh
        exact hh
    · change Q (some (.int (-2))) (z, N, I, L, R)
      exact h0 (by clear h0 h1; grind)
theorem l_X0_clashing {d z : Nat} {N : Nat → Nat} {I : Nat → Nat → Int32} {L : Nat → Nat → Int64} {R : Nat → Nat → Option Nat} {Q : qP} (hb : okB 12 (I 51) (I 52) (I 53) (I 46 7)) (hyl : yL (I 47) (I 48)) : ∀ (m : Nat) (i b : Int32) (E U : Nat → Int32), m ≤ 20 → i + 1 = nI m → (∀ E U : Nat → Int32, Q (some (.int (clR (fun g => ∃ x, Sol 12 (I 47) (I 48) (I 51) (I 52) (I 53) (I 46 7) g x) m b))) (z, N, qRow (qRow I 49 E) 50 U, L, R)) → qJ m_X0_clashing (qWP (d + 2)) Q 26 [(2, .int i), (1, .int b), (0, .ref 46)] [] 0 0 (z, N, qRow (qRow I 49 E) 50 U, L, R) := by
  refine nat_ind fun m ih => ?_
  intro i b E U hm hi hq
  refine qJ_run (qWP_mono _) [26] 400 ?_
  refine ⟨fun (c1 : i < 0) => ?_, fun (c1 : ¬ i < 0) => ?_⟩
  · change Q (some (.int b)) (z, N, qRow (qRow I 49 E) 50 U, L, R)
    have hm0 : m = 0 := by
      rcases Nat.eq_zero_or_pos m with h9 | h9
      · exact h9
      · exfalso
        have h8 : (nI m).toInt = (m : Int) := nI_toInt (by omega)
        rw [← hi] at h8
        have hin : i < 0 := by assumption
        have h7 := Int32.lt_iff_toInt_lt.mp hin
        rw [s1 (show i < 0 from hin)] at h8
        rw [show (0 : Int32).toInt = 0 from rfl] at h7
        omega
    subst hm0
    exact hq E U
  · refine ⟨⟨Nat.le_refl _, Nat.le_refl _⟩, ?_⟩
    refine c_X0_settleBy (d := d) (g := b &&& ((1 <<< (i &&& 31)) ^^^ (-1))) hb hyl fun v1 E2 U2 hy1 => ?_
    rw [qRow_2]
    refine ⟨fun (c2 : ¬ v1 = 0) => ?_, fun (c2 : v1 = 0) => ?_⟩
    · refine qJ_nm (qWP_mono _) [(3, _)] [(2, .int (i + (-1))), (1, .int b), (0, .ref 46)] rfl rfl rfl ?_
      have hm0 : ¬ m = 0 := fun e => by
        subst e
        have e9 : i = -1 := by clear ih hq; rw [nI_0] at hi; grind
        rw [e9] at c1
        exact c1 (by decide)
      obtain ⟨k, rfl⟩ : ∃ k, m = k + 1 := ⟨m - 1, by omega⟩
      have hik : i = nI k := by
        rw [nI_succ] at hi
        clear ih hq; grind
      have ib : b = gCl (fun g => ∃ x, Sol 12 (I 47) (I 48) (I 51) (I 52) (I 53) (I 46 7) g x) (nI k) b := by
        rw [← hik]
        symm
        rcases hy1 with ⟨e1, f1, _⟩ | ⟨e1, f1⟩
        · first | exact gCl_p f1 | (exfalso; clear ih hq; grind; done)
        · first | exact gCl_n f1 | (exfalso; clear ih hq; grind; done)
      refine ih k rfl _ b _ _ (by omega) (by rw [hik]; clear ih hq; grind) (fun E U => ?_)
      rw [ib]
      exact hq E U
    · refine qJ_nm (qWP_mono _) [(3, _)] [(2, .int (i + (-1))), (1, .int (b &&& (((1 : Int32) <<< (i &&& 31)) ^^^ (-1)))), (0, .ref 46)] rfl rfl rfl ?_
      have hm0 : ¬ m = 0 := fun e => by
        subst e
        have e9 : i = -1 := by clear ih hq; rw [nI_0] at hi; grind
        rw [e9] at c1
        exact c1 (by decide)
      obtain ⟨k, rfl⟩ : ∃ k, m = k + 1 := ⟨m - 1, by omega⟩
      have hik : i = nI k := by
        rw [nI_succ] at hi
        clear ih hq; grind
      have ib : (b &&& (((1 : Int32) <<< (i &&& 31)) ^^^ (-1))) = gCl (fun g => ∃ x, Sol 12 (I 47) (I 48) (I 51) (I 52) (I 53) (I 46 7) g x) (nI k) b := by
        rw [← hik]
        symm
        rcases hy1 with ⟨e1, f1, _⟩ | ⟨e1, f1⟩
        · first | exact gCl_p f1 | (exfalso; clear ih hq; grind; done)
        · first | exact gCl_n f1 | (exfalso; clear ih hq; grind; done)
      refine ih k rfl _ (b &&& (((1 : Int32) <<< (i &&& 31)) ^^^ (-1))) _ _ (by omega) (by rw [hik]; clear ih hq; grind) (fun E U => ?_)
      rw [ib]
      exact hq E U
theorem c_X0_clashing {d z : Nat} {N : Nat → Nat} {I : Nat → Nat → Int32} {L : Nat → Nat → Int64} {R : Nat → Nat → Option Nat} {Q : qP} (hb : okB 12 (I 51) (I 52) (I 53) (I 46 7)) (hyl : yL (I 47) (I 48)) (h0 : (fun g => ∃ x, Sol 12 (I 47) (I 48) (I 51) (I 52) (I 53) (I 46 7) g x) (1 <<< (I 46 7 &&& 31) - 1) → ∀ E U : Nat → Int32, Q (some (.int (-1))) (z, N, qRow (qRow I 49 E) 50 U, L, R)) (h1 : ¬ (fun g => ∃ x, Sol 12 (I 47) (I 48) (I 51) (I 52) (I 53) (I 46 7) g x) (1 <<< (I 46 7 &&& 31) - 1) → ∀ E U : Nat → Int32, Q (some (.int (clR (fun g => ∃ x, Sol 12 (I 47) (I 48) (I 51) (I 52) (I 53) (I 46 7) g x) (I 46 7).toNatClampNeg (1 <<< (I 46 7 &&& 31) - 1)))) (z, N, qRow (qRow I 49 E) 50 U, L, R)) : qWP (d + 3) 10 [.ref 46] (z, N, I, L, R) Q := by
  refine qWP_of m_X0_clashing rfl rfl [(0, .ref 46)] rfl ?_
  refine qJ_run (qWP_mono _) [26] 400 ?_
  refine ⟨⟨Nat.le_refl _, Nat.le_refl _⟩, ?_⟩
  refine c_X0_settleBy (d := d) hb hyl fun v1 E U hy1 => ?_
  refine ⟨fun (c1 : v1 = 0) => ?_, fun (c1 : ¬ v1 = 0) => ?_⟩
  · have hz := hb.1
    have hF : ¬ ∃ x, Sol 12 (I 47) (I 48) (I 51) (I 52) (I 53) (I 46 7) (1 <<< (I 46 7 &&& 31) - 1) x := by
      rcases hy1 with ⟨e1, f1, _⟩ | ⟨e1, f1⟩
      · rw [e1] at c1; exact absurd c1 (by decide)
      · exact f1
    refine l_X0_clashing (d := d) hb hyl (I 46 7).toNatClampNeg _ _ E U ?_ ?_ (h1 hF)
    · have := Int32.le_iff_toInt_le.mp hz.2
      rw [show (20 : Int32).toInt = 20 from rfl] at this
      rw [tcn]
      omega
    · rw [nI_t hz.1]; show I 46 7 - 1 + 1 = I 46 7; clear h0 h1; grind
  · change Q (some (.int (-1))) (z, N, qRow (qRow I 49 E) 50 U, L, R)
    rcases hy1 with ⟨e1, f1, _⟩ | ⟨e1, f1⟩
    · exact h0 f1 E U
    · exact absurd e1 (by assumption)
theorem c_X11_clash {d z : Nat} {N : Nat → Nat} {I : Nat → Nat → Int32} {L : Nat → Nat → Int64} {R : Nat → Nat → Option Nat} {Q : qP}  (hb : okB 12 (I 51) (I 52) (I 53) (I 46 7)) (hyl : yL (I 47) (I 48)) (h0 : (fun g => ∃ x, Sol 12 (I 47) (I 48) (I 51) (I 52) (I 53) (I 46 7) g x) (1 <<< (I 46 7 &&& 31) - 1) → ∀ E U : Nat → Int32, Q (some (.int (-1))) (z, N, qRow (qRow I 49 E) 50 U, L, R)) (h1 : ¬ (fun g => ∃ x, Sol 12 (I 47) (I 48) (I 51) (I 52) (I 53) (I 46 7) g x) (1 <<< (I 46 7 &&& 31) - 1) → ∀ E U : Nat → Int32, Q (some (.int (clR (fun g => ∃ x, Sol 12 (I 47) (I 48) (I 51) (I 52) (I 53) (I 46 7) g x) (I 46 7).toNatClampNeg (1 <<< (I 46 7 &&& 31) - 1)))) (z, N, qRow (qRow I 49 E) 50 U, L, R)) : qWP (d + 4) 151 [.ref 2] (z, N, I, L, R) Q := by
  refine qWP_of m_X11_clash rfl rfl [(0, .ref 2)] rfl ?_
  refine qJ_run (qWP_mono _) [] 400 ?_
  refine ⟨⟨Nat.le_refl _, Nat.le_refl _⟩, ?_⟩
  refine c_X0_clashing (d := d) hb hyl (fun hF E U => ?_) (fun hF E U => ?_)
  · change Q (some (.int (-1))) (z, N, qRow (qRow I 49 E) 50 U, L, R)
    exact h0 hF E U
  · change Q (some (.int (clR (fun g => ∃ x, Sol 12 (I 47) (I 48) (I 51) (I 52) (I 53) (I 46 7) g x) (I 46 7).toNatClampNeg (1 <<< (I 46 7 &&& 31) - 1)))) (z, N, qRow (qRow I 49 E) 50 U, L, R)
    exact h1 hF E U
theorem l_X12_clash {d z : Nat} {N : Nat → Nat} {I : Nat → Nat → Int32} {L : Nat → Nat → Int64} {R : Nat → Nat → Option Nat} {Q : qP} (hs : 0 ≤ I 65 0 ∧ I 65 0 ≤ 12) (hb : okB (I 65 0) (I 84) (I 85) (I 86) (I 65 4)) (hyl : yLn (I 65 0).toNatClampNeg (I 80) (I 81)) : ∀ (m : Nat) (i b : Int32) (E U : Nat → Int32), m ≤ 20 → i + 1 = nI m → (∀ E U : Nat → Int32, Q (some (.int (clR (fun g => ∃ x, Sol (I 65 0).toNatClampNeg (I 80) (I 81) (I 84) (I 85) (I 86) (I 65 4) g x) m b))) (z, N, qRow (qRow I 82 E) 83 U, L, R)) → qJ m_X12_clash (qWP (d + 1)) Q 25 [(2, .int i), (1, .int b), (0, .ref 65)] [] 0 0 (z, N, qRow (qRow I 82 E) 83 U, L, R) := by
  refine nat_ind fun m ih => ?_
  intro i b E U hm hi hq
  refine qJ_run (qWP_mono _) [25] 400 ?_
  refine ⟨fun (c1 : i < 0) => ?_, fun (c1 : ¬ i < 0) => ?_⟩
  · change Q (some (.int b)) (z, N, qRow (qRow I 82 E) 83 U, L, R)
    have hm0 : m = 0 := by
      rcases Nat.eq_zero_or_pos m with h9 | h9
      · exact h9
      · exfalso
        have h8 : (nI m).toInt = (m : Int) := nI_toInt (by omega)
        rw [← hi] at h8
        have hin : i < 0 := by assumption
        have h7 := Int32.lt_iff_toInt_lt.mp hin
        rw [s1 (show i < 0 from hin)] at h8
        rw [show (0 : Int32).toInt = 0 from rfl] at h7
        omega
    subst hm0
    exact hq E U
  · refine ⟨⟨Nat.le_refl _, Nat.le_refl _⟩, ?_⟩
    refine c_X12_clashes (d := d) (g := b &&& ((1 <<< (i &&& 31)) ^^^ (-1))) hs hb hyl fun v1 E2 U2 hy1 hw1 => ?_
    rw [qRow_2]
    refine ⟨fun (c2 : v1 = 0) => ?_, fun (c2 : ¬ v1 = 0) => ?_⟩
    · have hm0 : ¬ m = 0 := fun e => by
        subst e
        have e9 : i = -1 := by clear ih hq; rw [nI_0] at hi; grind
        rw [e9] at c1
        exact c1 (by decide)
      obtain ⟨k, rfl⟩ : ∃ k, m = k + 1 := ⟨m - 1, by omega⟩
      have hik : i = nI k := by
        rw [nI_succ] at hi
        clear ih hq; grind
      have ib : b = gCl (fun g => ∃ x, Sol (I 65 0).toNatClampNeg (I 80) (I 81) (I 84) (I 85) (I 86) (I 65 4) g x) (nI k) b := by
        rw [← hik]
        symm
        rcases hy1 with ⟨e1, f1, _⟩ | ⟨e1, f1⟩
        · first | exact gCl_p f1 | (exfalso; clear ih hq; grind; done)
        · first | exact gCl_n f1 | (exfalso; clear ih hq; grind; done)
      refine ih k rfl _ b _ _ (by omega) (by rw [hik]; clear ih hq; grind) (fun E U => ?_)
      rw [ib]
      exact hq E U
    · have hm0 : ¬ m = 0 := fun e => by
        subst e
        have e9 : i = -1 := by clear ih hq; rw [nI_0] at hi; grind
        rw [e9] at c1
        exact c1 (by decide)
      obtain ⟨k, rfl⟩ : ∃ k, m = k + 1 := ⟨m - 1, by omega⟩
      have hik : i = nI k := by
        rw [nI_succ] at hi
        clear ih hq; grind
      have ib : (b &&& (((1 : Int32) <<< (i &&& 31)) ^^^ (-1))) = gCl (fun g => ∃ x, Sol (I 65 0).toNatClampNeg (I 80) (I 81) (I 84) (I 85) (I 86) (I 65 4) g x) (nI k) b := by
        rw [← hik]
        symm
        rcases hy1 with ⟨e1, f1, _⟩ | ⟨e1, f1⟩
        · first | exact gCl_p f1 | (exfalso; clear ih hq; grind; done)
        · first | exact gCl_n f1 | (exfalso; clear ih hq; grind; done)
      refine ih k rfl _ (b &&& (((1 : Int32) <<< (i &&& 31)) ^^^ (-1))) _ _ (by omega) (by rw [hik]; clear ih hq; grind) (fun E U => ?_)
      rw [ib]
      exact hq E U
theorem c_X12_clash {d z : Nat} {N : Nat → Nat} {I : Nat → Nat → Int32} {L : Nat → Nat → Int64} {R : Nat → Nat → Option Nat} {Q : qP}  (hs : 0 ≤ I 65 0 ∧ I 65 0 ≤ 12) (hb : okB (I 65 0) (I 84) (I 85) (I 86) (I 65 4)) (hyl : yLn (I 65 0).toNatClampNeg (I 80) (I 81)) (h0 : (fun g => ∃ x, Sol (I 65 0).toNatClampNeg (I 80) (I 81) (I 84) (I 85) (I 86) (I 65 4) g x) (1 <<< (I 65 4 &&& 31) - 1) → ∀ E U : Nat → Int32, Q (some (.int (-1))) (z, N, qRow (qRow I 82 E) 83 U, L, R)) (h1 : ¬ (fun g => ∃ x, Sol (I 65 0).toNatClampNeg (I 80) (I 81) (I 84) (I 85) (I 86) (I 65 4) g x) (1 <<< (I 65 4 &&& 31) - 1) → ∀ E U : Nat → Int32, Q (some (.int (clR (fun g => ∃ x, Sol (I 65 0).toNatClampNeg (I 80) (I 81) (I 84) (I 85) (I 86) (I 65 4) g x) (I 65 4).toNatClampNeg (1 <<< (I 65 4 &&& 31) - 1)))) (z, N, qRow (qRow I 82 E) 83 U, L, R)) : qWP (d + 3) 224 [.ref 65] (z, N, I, L, R) Q := by
  refine qWP_of m_X12_clash rfl rfl [(0, .ref 65)] rfl ?_
  refine qJ_run (qWP_mono _) [25] 400 ?_
  refine ⟨⟨Nat.le_refl _, Nat.le_refl _⟩, ?_⟩
  refine c_X12_clashAll (d := d) hs hb hyl fun v1 E U hy1 hw1 => ?_
  refine ⟨fun (c1 : ¬ v1 = 0) => ?_, fun (c1 : v1 = 0) => ?_⟩
  · have hz := hb.1
    have hF : ¬ ∃ x, Sol (I 65 0).toNatClampNeg (I 80) (I 81) (I 84) (I 85) (I 86) (I 65 4) (1 <<< (I 65 4 &&& 31) - 1) x := by
      rcases hy1 with ⟨e1, f1, _⟩ | ⟨e1, f1⟩
      · exact absurd e1 (by assumption)
      · exact f1
    refine l_X12_clash (d := d + 1) hs hb hyl (I 65 4).toNatClampNeg _ _ E U ?_ ?_ (h1 hF)
    · have := Int32.le_iff_toInt_le.mp hz.2
      rw [show (20 : Int32).toInt = 20 from rfl] at this
      rw [tcn]
      omega
    · rw [nI_t hz.1]; show I 65 4 - 1 + 1 = I 65 4; clear h0 h1; grind
  · change Q (some (.int (-1))) (z, N, qRow (qRow I 82 E) 83 U, L, R)
    rcases hy1 with ⟨e1, f1, _⟩ | ⟨e1, f1⟩
    · exact h0 f1 E U
    · exfalso; clear h0 h1; grind
theorem op_span {M : qM} (hI : qInv M) (s : Int32) (w : Int32) : qOp 150 223 [.int s, .int w] M := by
  obtain ⟨z, N, I, L, R⟩ := M
  obtain ⟨hst, hSt, hHa, hTo, hTp, hEd, hDa, hPe, hTr, hTx, hMk, hKA⟩ := hI
  dsimp only at hst hSt hHa hTo hTp hEd hDa hPe hTr hTx hMk hKA
  have hs : 0 ≤ I 3 2 ∧ I 3 2 ≤ 12 := ⟨hSt.2.1, hSt.2.2.1⟩
  have hs2 : 0 ≤ I 65 0 ∧ I 65 0 ≤ 12 := by rw [hSt.1]; exact hs
  obtain ⟨hb, hyl, hb3, hyl3⟩ := yr_ok hs hDa
  have hb2 : okB (I 65 0) (I 84) (I 85) (I 86) (I 65 4) := by rw [hSt.1]; exact hb3
  have hyl2 : yLn (I 65 0).toNatClampNeg (I 80) (I 81) := by rw [hSt.1]; exact hyl3
  refine c_X11_span hs hb hyl (fun a0 => ?_) (fun a0 v E U hy1 => ?_)
  · refine ⟨_, rfl, ⟨rfl, rfl, hst⟩, ?_⟩
    refine c_X12_span (by first | exact hs2 | (simp (decide := true) only [q2_ne, q2_r1, uI_at, uI_nj, qRow_ne, qRow_at]; exact hs2)) (by first | exact hb2 | (simp (decide := true) only [q2_ne, q2_r1, uI_at, uI_nj, qRow_ne, qRow_at]; exact hb2)) (by first | exact hyl2 | (simp (decide := true) only [q2_ne, q2_r1, uI_at, uI_nj, qRow_ne, qRow_at]; exact hyl2)) (fun b0 => ?_) (fun b0 => ?_)
    · exact ⟨rfl, ⟨by first | rfl | (simp (decide := true) only [q2_ne, q2_r1, uI_at, uI_nj, qRow_ne, qRow_at]), rfl⟩, ⟨hst, (by first | exact hSt | (simp (decide := true) only [q2_ne, q2_r1, uI_at, uI_nj, qRow_ne, qRow_at]; exact hSt)), (by first | exact hHa | (simp (decide := true) only [q2_ne, q2_r1, uI_at, uI_nj, qRow_ne, qRow_at]; exact hHa)), (by first | exact hTo | (simp (decide := true) only [q2_ne, q2_r1, uI_at, uI_nj, qRow_ne, qRow_at]; exact hTo)), (by first | exact hTp | (simp (decide := true) only [q2_ne, q2_r1, uI_at, uI_nj, qRow_ne, qRow_at]; exact hTp)), (by first | exact hEd | (simp (decide := true) only [q2_ne, q2_r1, uI_at, uI_nj, qRow_ne, qRow_at]; exact hEd)), (by first | exact hDa | (simp (decide := true) only [q2_ne, q2_r1, uI_at, uI_nj, qRow_ne, qRow_at]; exact hDa)), (by first | exact hPe | (simp (decide := true) only [q2_ne, q2_r1, uI_at, uI_nj, qRow_ne, qRow_at]; exact hPe)), (by first | exact hTr | (simp (decide := true) only [q2_ne, q2_r1, uI_at, uI_nj, qRow_ne, qRow_at]; exact hTr)), (RTx_of hTx (by simp (decide := true) only [q2_ne, q2_r1, uI_at, uI_nj, qRow_ne, qRow_at]) (by simp (decide := true) only [q2_ne, q2_r1, uI_at, uI_nj, qRow_ne, qRow_at]) (by simp (decide := true) only [q2_ne, q2_r1, uI_at, uI_nj, qRow_ne, qRow_at]) (by simp (decide := true) only [q2_ne, q2_r1, uI_at, uI_nj, qRow_ne, qRow_at]) (by simp (decide := true) only [q2_ne, q2_r1, uI_at, uI_nj, qRow_ne, qRow_at]) (fun k hk => by (try dsimp only); repeat first | rfl | rw [q2_ne (by omega)] | rw [qRow_ne (by omega)]) (fun k hk => by (try dsimp only); repeat first | rfl | rw [q2_ne (by omega)] | rw [qRow_ne (by omega)])), (by first | exact hMk | (simp (decide := true) only [q2_ne, q2_r1, uI_at, uI_nj, qRow_ne, qRow_at]; exact hMk)), (by first | exact hKA | (simp (decide := true) only [q2_ne, q2_r1, uI_at, uI_nj, qRow_ne, qRow_at]; exact hKA))⟩⟩
    · exact absurd (by rw [hSt.1] at b0; exact b0) a0
  · refine ⟨_, rfl, ⟨by simp (decide := true) only [q2_ne, q2_r1, uI_at, uI_nj, qRow_ne, qRow_at], rfl, hst⟩, ?_⟩
    refine c_X12_span (by first | exact hs2 | (simp (decide := true) only [q2_ne, q2_r1, uI_at, uI_nj, qRow_ne, qRow_at]; exact hs2)) (by first | exact hb2 | (simp (decide := true) only [q2_ne, q2_r1, uI_at, uI_nj, qRow_ne, qRow_at]; exact hb2)) (by first | exact hyl2 | (simp (decide := true) only [q2_ne, q2_r1, uI_at, uI_nj, qRow_ne, qRow_at]; exact hyl2)) (fun b0 => ?_) (fun b0 v2 E2 U2 hy2 => ?_)
    · (try simp (decide := true) only [q2_ne, q2_r1, uI_at, uI_nj, qRow_ne, qRow_at] at b0)
      exact absurd (by rw [hSt.1]; exact a0) b0
    · (try simp (decide := true) only [q2_ne, q2_r1, uI_at, uI_nj, qRow_ne, qRow_at] at hy2)
      rw [hSt.1, hDa.1] at hy2
      have hr := yO_rel hs hDa hy1 (by rw [hDa.1]; exact hy2)
      have e9 : (if v2 = 0 then (if w = 0 then E2 s.toNatClampNeg else U2 s.toNatClampNeg) else -100000) = (if v = 1 then (if w = 0 then E s.toNatClampNeg else U s.toNatClampNeg) else -100000) := by
        rcases hr with ⟨rfl, rfl, h9⟩ | ⟨rfl, rfl⟩
        · have h8 := (h9 s a0.1.1 a0.1.2).1
          rw [if_pos rfl, if_pos rfl, h8.1, h8.2]
        · rfl
      rw [e9]
      exact ⟨rfl, ⟨by first | rfl | (simp (decide := true) only [q2_ne, q2_r1, uI_at, uI_nj, qRow_ne, qRow_at]), rfl⟩, ⟨hst, (by first | exact hSt | (simp (decide := true) only [q2_ne, q2_r1, uI_at, uI_nj, qRow_ne, qRow_at]; exact hSt)), (by first | exact hHa | (simp (decide := true) only [q2_ne, q2_r1, uI_at, uI_nj, qRow_ne, qRow_at]; exact hHa)), (by first | exact hTo | (simp (decide := true) only [q2_ne, q2_r1, uI_at, uI_nj, qRow_ne, qRow_at]; exact hTo)), (by first | exact hTp | (simp (decide := true) only [q2_ne, q2_r1, uI_at, uI_nj, qRow_ne, qRow_at]; exact hTp)), (by first | exact hEd | (simp (decide := true) only [q2_ne, q2_r1, uI_at, uI_nj, qRow_ne, qRow_at]; exact hEd)), (by first | exact hDa | (simp (decide := true) only [q2_ne, q2_r1, uI_at, uI_nj, qRow_ne, qRow_at]; exact hDa)), (by first | exact hPe | (simp (decide := true) only [q2_ne, q2_r1, uI_at, uI_nj, qRow_ne, qRow_at]; exact hPe)), (by first | exact hTr | (simp (decide := true) only [q2_ne, q2_r1, uI_at, uI_nj, qRow_ne, qRow_at]; exact hTr)), (RTx_of hTx (by simp (decide := true) only [q2_ne, q2_r1, uI_at, uI_nj, qRow_ne, qRow_at]) (by simp (decide := true) only [q2_ne, q2_r1, uI_at, uI_nj, qRow_ne, qRow_at]) (by simp (decide := true) only [q2_ne, q2_r1, uI_at, uI_nj, qRow_ne, qRow_at]) (by simp (decide := true) only [q2_ne, q2_r1, uI_at, uI_nj, qRow_ne, qRow_at]) (by simp (decide := true) only [q2_ne, q2_r1, uI_at, uI_nj, qRow_ne, qRow_at]) (fun k hk => by (try dsimp only); repeat first | rfl | rw [q2_ne (by omega)] | rw [qRow_ne (by omega)]) (fun k hk => by (try dsimp only); repeat first | rfl | rw [q2_ne (by omega)] | rw [qRow_ne (by omega)])), (by first | exact hMk | (simp (decide := true) only [q2_ne, q2_r1, uI_at, uI_nj, qRow_ne, qRow_at]; exact hMk)), (by first | exact hKA | (simp (decide := true) only [q2_ne, q2_r1, uI_at, uI_nj, qRow_ne, qRow_at]; exact hKA))⟩⟩
theorem op_clash {M : qM} (hI : qInv M)  : qOp 151 224 [] M := by
  obtain ⟨z, N, I, L, R⟩ := M
  obtain ⟨hst, hSt, hHa, hTo, hTp, hEd, hDa, hPe, hTr, hTx, hMk, hKA⟩ := hI
  dsimp only at hst hSt hHa hTo hTp hEd hDa hPe hTr hTx hMk hKA
  have hs : 0 ≤ I 3 2 ∧ I 3 2 ≤ 12 := ⟨hSt.2.1, hSt.2.2.1⟩
  have hs2 : 0 ≤ I 65 0 ∧ I 65 0 ≤ 12 := by rw [hSt.1]; exact hs
  obtain ⟨hb, hyl, hb3, hyl3⟩ := yr_ok hs hDa
  have hb2 : okB (I 65 0) (I 84) (I 85) (I 86) (I 65 4) := by rw [hSt.1]; exact hb3
  have hyl2 : yLn (I 65 0).toNatClampNeg (I 80) (I 81) := by rw [hSt.1]; exact hyl3
  have hF : (fun g => ∃ x, Sol (I 65 0).toNatClampNeg (I 80) (I 81) (I 84) (I 85) (I 86) (I 65 4) g x) = (fun g => ∃ x, Sol 12 (I 47) (I 48) (I 51) (I 52) (I 53) (I 46 7) g x) := by
    funext g
    rw [hSt.1]
    exact propext (F_eq hs hDa)
  refine c_X11_clash hb hyl (fun a0 E U => ?_) (fun a0 E U => ?_)
  · refine ⟨_, rfl, ⟨by simp (decide := true) only [q2_ne, q2_r1, uI_at, uI_nj, qRow_ne, qRow_at], rfl, hst⟩, ?_⟩
    refine c_X12_clash (by first | exact hs2 | (simp (decide := true) only [q2_ne, q2_r1, uI_at, uI_nj, qRow_ne, qRow_at]; exact hs2)) (by first | exact hb2 | (simp (decide := true) only [q2_ne, q2_r1, uI_at, uI_nj, qRow_ne, qRow_at]; exact hb2)) (by first | exact hyl2 | (simp (decide := true) only [q2_ne, q2_r1, uI_at, uI_nj, qRow_ne, qRow_at]; exact hyl2)) (fun b0 E2 U2 => ?_) (fun b0 E2 U2 => ?_)
    · exact ⟨rfl, ⟨by first | rfl | (simp (decide := true) only [q2_ne, q2_r1, uI_at, uI_nj, qRow_ne, qRow_at]), rfl⟩, ⟨hst, (by first | exact hSt | (simp (decide := true) only [q2_ne, q2_r1, uI_at, uI_nj, qRow_ne, qRow_at]; exact hSt)), (by first | exact hHa | (simp (decide := true) only [q2_ne, q2_r1, uI_at, uI_nj, qRow_ne, qRow_at]; exact hHa)), (by first | exact hTo | (simp (decide := true) only [q2_ne, q2_r1, uI_at, uI_nj, qRow_ne, qRow_at]; exact hTo)), (by first | exact hTp | (simp (decide := true) only [q2_ne, q2_r1, uI_at, uI_nj, qRow_ne, qRow_at]; exact hTp)), (by first | exact hEd | (simp (decide := true) only [q2_ne, q2_r1, uI_at, uI_nj, qRow_ne, qRow_at]; exact hEd)), (by first | exact hDa | (simp (decide := true) only [q2_ne, q2_r1, uI_at, uI_nj, qRow_ne, qRow_at]; exact hDa)), (by first | exact hPe | (simp (decide := true) only [q2_ne, q2_r1, uI_at, uI_nj, qRow_ne, qRow_at]; exact hPe)), (by first | exact hTr | (simp (decide := true) only [q2_ne, q2_r1, uI_at, uI_nj, qRow_ne, qRow_at]; exact hTr)), (RTx_of hTx (by simp (decide := true) only [q2_ne, q2_r1, uI_at, uI_nj, qRow_ne, qRow_at]) (by simp (decide := true) only [q2_ne, q2_r1, uI_at, uI_nj, qRow_ne, qRow_at]) (by simp (decide := true) only [q2_ne, q2_r1, uI_at, uI_nj, qRow_ne, qRow_at]) (by simp (decide := true) only [q2_ne, q2_r1, uI_at, uI_nj, qRow_ne, qRow_at]) (by simp (decide := true) only [q2_ne, q2_r1, uI_at, uI_nj, qRow_ne, qRow_at]) (fun k hk => by (try dsimp only); repeat first | rfl | rw [q2_ne (by omega)] | rw [qRow_ne (by omega)]) (fun k hk => by (try dsimp only); repeat first | rfl | rw [q2_ne (by omega)] | rw [qRow_ne (by omega)])), (by first | exact hMk | (simp (decide := true) only [q2_ne, q2_r1, uI_at, uI_nj, qRow_ne, qRow_at]; exact hMk)), (by first | exact hKA | (simp (decide := true) only [q2_ne, q2_r1, uI_at, uI_nj, qRow_ne, qRow_at]; exact hKA))⟩⟩
    · (try simp (decide := true) only [q2_ne, q2_r1, uI_at, uI_nj, qRow_ne, qRow_at] at b0)
      rw [hDa.1] at b0
      exact absurd ((F_eq hs hDa (bits := (1 <<< (I 46 7 &&& 31) - 1))).mpr a0) (by rw [hDa.1, ← hSt.1]; exact b0)
  · refine ⟨_, rfl, ⟨by simp (decide := true) only [q2_ne, q2_r1, uI_at, uI_nj, qRow_ne, qRow_at], rfl, hst⟩, ?_⟩
    refine c_X12_clash (by first | exact hs2 | (simp (decide := true) only [q2_ne, q2_r1, uI_at, uI_nj, qRow_ne, qRow_at]; exact hs2)) (by first | exact hb2 | (simp (decide := true) only [q2_ne, q2_r1, uI_at, uI_nj, qRow_ne, qRow_at]; exact hb2)) (by first | exact hyl2 | (simp (decide := true) only [q2_ne, q2_r1, uI_at, uI_nj, qRow_ne, qRow_at]; exact hyl2)) (fun b0 E2 U2 => ?_) (fun b0 E2 U2 => ?_)
    · (try simp (decide := true) only [q2_ne, q2_r1, uI_at, uI_nj, qRow_ne, qRow_at] at b0)
      rw [hDa.1] at b0
      refine absurd ((F_eq hs hDa (bits := (1 <<< (I 46 7 &&& 31) - 1))).mp ?_) a0
      rw [hDa.1, ← hSt.1]; exact b0
    · exact ⟨by simp (decide := true) only [q2_ne, q2_r1, uI_at, uI_nj, qRow_ne, qRow_at]; rw [hF, hDa.1], ⟨by first | rfl | (simp (decide := true) only [q2_ne, q2_r1, uI_at, uI_nj, qRow_ne, qRow_at]), rfl⟩, ⟨hst, (by first | exact hSt | (simp (decide := true) only [q2_ne, q2_r1, uI_at, uI_nj, qRow_ne, qRow_at]; exact hSt)), (by first | exact hHa | (simp (decide := true) only [q2_ne, q2_r1, uI_at, uI_nj, qRow_ne, qRow_at]; exact hHa)), (by first | exact hTo | (simp (decide := true) only [q2_ne, q2_r1, uI_at, uI_nj, qRow_ne, qRow_at]; exact hTo)), (by first | exact hTp | (simp (decide := true) only [q2_ne, q2_r1, uI_at, uI_nj, qRow_ne, qRow_at]; exact hTp)), (by first | exact hEd | (simp (decide := true) only [q2_ne, q2_r1, uI_at, uI_nj, qRow_ne, qRow_at]; exact hEd)), (by first | exact hDa | (simp (decide := true) only [q2_ne, q2_r1, uI_at, uI_nj, qRow_ne, qRow_at]; exact hDa)), (by first | exact hPe | (simp (decide := true) only [q2_ne, q2_r1, uI_at, uI_nj, qRow_ne, qRow_at]; exact hPe)), (by first | exact hTr | (simp (decide := true) only [q2_ne, q2_r1, uI_at, uI_nj, qRow_ne, qRow_at]; exact hTr)), (RTx_of hTx (by simp (decide := true) only [q2_ne, q2_r1, uI_at, uI_nj, qRow_ne, qRow_at]) (by simp (decide := true) only [q2_ne, q2_r1, uI_at, uI_nj, qRow_ne, qRow_at]) (by simp (decide := true) only [q2_ne, q2_r1, uI_at, uI_nj, qRow_ne, qRow_at]) (by simp (decide := true) only [q2_ne, q2_r1, uI_at, uI_nj, qRow_ne, qRow_at]) (by simp (decide := true) only [q2_ne, q2_r1, uI_at, uI_nj, qRow_ne, qRow_at]) (fun k hk => by (try dsimp only); repeat first | rfl | rw [q2_ne (by omega)] | rw [qRow_ne (by omega)]) (fun k hk => by (try dsimp only); repeat first | rfl | rw [q2_ne (by omega)] | rw [qRow_ne (by omega)])), (by first | exact hMk | (simp (decide := true) only [q2_ne, q2_r1, uI_at, uI_nj, qRow_ne, qRow_at]; exact hMk)), (by first | exact hKA | (simp (decide := true) only [q2_ne, q2_r1, uI_at, uI_nj, qRow_ne, qRow_at]; exact hKA))⟩⟩
