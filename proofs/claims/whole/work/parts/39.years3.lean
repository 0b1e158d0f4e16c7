/-! years: passes of the reference -/
def mJ (nn : Nat) (ls ms ba bb bd : Nat → Int32) (bits sz : Int32) (E U : Nat → Int32) (m : Int32) : Prop :=
  (∀ v, v < nn → (ls v).toInt ≤ (E v).toInt ∧ (E v).toInt ≤ (U v).toInt ∧ (U v).toInt ≤ (ms v).toInt) ∧
  (∀ x, Sol nn ls ms ba bb bd sz bits x → ∀ v, v < nn → (E v).toInt ≤ x v ∧ x v ≤ (U v).toInt) ∧
  (m = 0 → solB (BE ba bb bd bits sz) (vI E) ∧ solB (BE ba bb bd bits sz) (vI U))
def mM (nn : Nat) (E U : Nat → Int32) : Nat := (smI (vI U) nn - smI (vI E) nn).toNat
def yLn (nn : Nat) (ls ms : Nat → Int32) : Prop := ∀ v, v < nn → -999 ≤ (ls v).toInt ∧ (ls v).toInt ≤ (ms v).toInt ∧ (ms v).toInt ≤ 999
theorem mJ_end {nn : Nat} {ls ms ba bb bd E U : Nat → Int32} {bits sz n a b : Int32} (hn : n.toNatClampNeg = nn) (hl : yLn nn ls ms) (h : mJ nn ls ms ba bb bd bits sz E U 0) : yO nn ls ms ba bb bd sz bits n a b a E U := by
  obtain ⟨g1, g2, g3⟩ := h
  have gg := g3 rfl
  have sE : Sol nn ls ms ba bb bd sz bits (vI E) := ⟨fun v hv => ⟨(g1 v hv).1, by have := g1 v hv; show (E v).toInt ≤ _; omega⟩, gg.1⟩
  have sU : Sol nn ls ms ba bb bd sz bits (vI U) := ⟨fun v hv => ⟨by have := g1 v hv; show _ ≤ (U v).toInt; omega, (g1 v hv).2.2⟩, gg.2⟩
  refine Or.inl ⟨rfl, ⟨_, sE⟩, fun s h0 hs => ?_⟩
  have hv : s.toNatClampNeg < nn := by rw [← hn]; exact clampN ⟨h0, hs⟩
  have a1 := g1 _ hv
  have a3 := hl _ hv
  exact ⟨i999 (by omega), fun x hx => g2 x hx _ hv, ⟨_, sE, rfl⟩, ⟨_, sU, rfl⟩⟩
theorem mJ_pass {ls ms ba bb bd E0 U0 E U : Nat → Int32} {bits sz n m m0 : Int32} (h0 : mJ n.toNatClampNeg ls ms ba bb bd bits sz E0 U0 m0) (h : tP n.toNatClampNeg ba bb bd bits sz E0 U0 999 sz (E, U, m)) (hEU : ∀ v, v < n.toNatClampNeg → (E v).toInt ≤ (U v).toInt) : mJ n.toNatClampNeg ls ms ba bb bd bits sz E U m ∧ (m = 0 ∨ (m = 1 ∧ mM n.toNatClampNeg E U < mM n.toNatClampNeg E0 U0)) := by
  obtain ⟨g1, g2, g3⟩ := h0
  obtain ⟨t1, t2, t3, t4, t5, t6⟩ := h
  dsimp only at t1 t2 t3 t4 t5 t6
  refine ⟨⟨fun v hv => ?_, fun x hx v hv => ?_, fun hm => ?_⟩, ?_⟩
  · have := g1 v hv; have := t1 v hv; have := hEU v hv; omega
  · exact ⟨(t3 x hx.2).1 (fun v hv => (g2 x hx v hv).1) v hv, (t3 x hx.2).2 (fun v hv => (g2 x hx v hv).2) v hv⟩
  · obtain ⟨e1, e2⟩ := t4 hm
    refine ⟨fun a b d hab => ?_, fun a b d hab => ?_⟩
    · have := (t2 a b d hab).1
      rw [← e1] at this
      exact this
    · have := (t2 a b d hab).2
      rw [← e2] at this
      show (U a).toInt + d ≤ (U b).toInt
      omega
  · rcases t5 with h | ⟨h, hlt⟩
    · exact Or.inl h
    · refine Or.inr ⟨h, ?_⟩
      have := smI_le (f := vI E) (g := vI U) n.toNatClampNeg hEU
      have := smI_le (f := vI E0) (g := vI U0) n.toNatClampNeg (fun v hv => (g1 v hv).2.1)
      unfold mM
      omega
theorem mJ_out {ls ms ba bb bd E0 U0 : Nat → Int32} {bits sz n m0 k a b : Int32} {S : yS} {E U : Nat → Int32} (h0 : mJ n.toNatClampNeg ls ms ba bb bd bits sz E0 U0 m0) (h : tP n.toNatClampNeg ba bb bd bits sz E0 U0 999 k S) {v : Nat} (hv : v < n.toNatClampNeg) (hc : S.2.1 v < S.1 v) : yO n.toNatClampNeg ls ms ba bb bd sz bits n a b b E U := by
  refine Or.inr ⟨rfl, ?_⟩
  rintro ⟨x, hx⟩
  have h1 := (h.2.2.1 x hx.2).1 (fun v hv => (h0.2.1 x hx v hv).1) v hv
  have h2 := (h.2.2.1 x hx.2).2 (fun v hv => (h0.2.1 x hx v hv).2) v hv
  have h3 := Int32.lt_iff_toInt_lt.mp hc
  omega
theorem gTi_le {ba bb bd : Nat → Int32} {bits k : Int32} {nn : Nat} {S : yS} (hd : -200 ≤ (bd k.toNatClampNeg).toInt ∧ (bd k.toNatClampNeg).toInt ≤ 200) (hbnd : (-1000000 ≤ (S.1 (ba k.toNatClampNeg).toNatClampNeg).toInt ∧ (S.1 (ba k.toNatClampNeg).toNatClampNeg).toInt ≤ 1000000) ∧ -1000000 ≤ (S.2.1 (bb k.toNatClampNeg).toNatClampNeg).toInt ∧ (S.2.1 (bb k.toNatClampNeg).toNatClampNeg).toInt ≤ 1000000)
    (hEU : ∀ v, v < nn → (S.1 v).toInt ≤ (S.2.1 v).toInt) (ha : ¬ (gTi ba bb bd bits k S).2.1 (ba k.toNatClampNeg).toNatClampNeg < (gTi ba bb bd bits k S).1 (ba k.toNatClampNeg).toNatClampNeg) (hb : ¬ (gTi ba bb bd bits k S).2.1 (bb k.toNatClampNeg).toNatClampNeg < (gTi ba bb bd bits k S).1 (bb k.toNatClampNeg).toNatClampNeg) : ∀ v, v < nn → ((gTi ba bb bd bits k S).1 v).toInt ≤ ((gTi ba bb bd bits k S).2.1 v).toInt := by
  intro v hv
  have ha2 : ¬ _ < _ := fun h => ha (Int32.lt_iff_toInt_lt.mpr h)
  have hb2 : ¬ _ < _ := fun h => hb (Int32.lt_iff_toInt_lt.mpr h)
  unfold gTi at *
  by_cases hbit : (bits >>> (k &&& 31)) &&& 1 = 1
  · rw [if_pos hbit] at *
    unfold gT1 at *
    dsimp only at *
    generalize (ba k.toNatClampNeg).toNatClampNeg = a at *
    generalize (bb k.toNatClampNeg).toNatClampNeg = b at *
    obtain ⟨p1, p2, p3, p4, p5⟩ := stE_s (E := S.1) (a := a) (b := b) hd hbnd.1
    obtain ⟨q1, q2, q3, q4, q5⟩ := stU_s (U := S.2.1) (a := a) (b := b) hd hbnd.2
    have := hEU v hv
    rcases p3 v with h1 | ⟨h1, h1'⟩
    · rcases q3 v with h2 | ⟨h2, h2'⟩
      · omega
      · subst h2; omega
    · subst h1; omega
  · rw [if_neg hbit] at *
    exact hEU v hv
theorem rd01 {ba bb bd : Nat → Int32} {bits sz : Int32} {S : yS} (h0 : 0 ≤ sz) : (rdF ba bb bd bits sz S).2.2 = 0 ∨ (rdF ba bb bd bits sz S).2.2 = 1 := by
  refine upF_inv (fun _ (S : yS) => S.2.2 = 0 ∨ S.2.2 = 1) (fun k S _ _ h => ?_) 0 (S.1, S.2.1, 0) (by decide) h0 (Or.inl rfl)
  unfold gTi
  split
  · unfold gT1
    dsimp only
    split
    · exact Or.inr rfl
    · exact h
  · exact h
theorem Sol_congr {nn : Nat} {ls ms ls' ms' ba bb bd : Nat → Int32} {sz bits : Int32} (h : ∀ v, v < nn → ls' v = ls v ∧ ms' v = ms v) (x : Nat → Int) : Sol nn ls' ms' ba bb bd sz bits x ↔ Sol nn ls ms ba bb bd sz bits x := by
  unfold Sol
  constructor
  · rintro ⟨h1, h2⟩; exact ⟨fun v hv => by have := h v hv; rw [← this.1, ← this.2]; exact h1 v hv, h2⟩
  · rintro ⟨h1, h2⟩; exact ⟨fun v hv => by have := h v hv; rw [this.1, this.2]; exact h1 v hv, h2⟩
theorem yO_congr {nn : Nat} {ls ms ls' ms' ba bb bd E U : Nat → Int32} {sz bits n a b v : Int32} (h : ∀ v, v < nn → ls' v = ls v ∧ ms' v = ms v) (hy : yO nn ls' ms' ba bb bd sz bits n a b v E U) : yO nn ls ms ba bb bd sz bits n a b v E U := by
  unfold yO spO at *
  simp only [Sol_congr h] at hy
  exact hy
theorem yO_val {nn : Nat} {ls ms ba bb bd E U : Nat → Int32} {sz bits n a b v a' b' v' : Int32} (h : yO nn ls ms ba bb bd sz bits n a b v E U) (ha : v = a → v' = a') (hb : v = b → v' = b') : yO nn ls ms ba bb bd sz bits n a' b' v' E U := by
  rcases h with ⟨h1, h2⟩ | ⟨h1, h2⟩
  · exact Or.inl ⟨ha h1, h2⟩
  · exact Or.inr ⟨hb h1, h2⟩
theorem l_X0_tighten {d z : Nat} {N : Nat → Nat} {I : Nat → Nat → Int32} {L : Nat → Nat → Int64} {R : Nat → Nat → Option Nat} {Q : qP} {g : Int32} (hb : okB 12 (I 51) (I 52) (I 53) (I 46 7)) : ∀ (k : Int32), ∀ (E U : Nat → Int32) (m : Int32), 0 ≤ k → (m = 0 ∨ m = 1) → Q (some (.int (upF (I 46 7) (gTi (I 51) (I 52) (I 53) g) k (E, U, m)).2.2)) (z, N, qRow (qRow I 49 (upF (I 46 7) (gTi (I 51) (I 52) (I 53) g) k (E, U, m)).1) 50 (upF (I 46 7) (gTi (I 51) (I 52) (I 53) g) k (E, U, m)).2.1, L, R) → qJ m_X0_tighten (qWP (d + 0)) Q 4 [(3, .int k), (2, .int m), (1, .int g), (0, .ref 46)] [] 0 0 (z, N, qRow (qRow I 49 E) 50 U, L, R) := by
  refine up_ind (I 46 7) fun k ih => ?_
  intro E U m h0 hm hq
  refine qJ_run (qWP_mono _) [4, 124, 171] 400 ?_
  refine ⟨fun (c1 : (I 46 7) ≤ k) => ?_, fun (c1 : ¬ (I 46 7) ≤ k) => ?_⟩
  · refine ⟨by first | exact Or.inl rfl | exact Or.inr rfl | (clear ih hq; grind), ?_⟩
    change Q (some (.int m)) (z, N, qRow (qRow I 49 E) 50 U, L, R)
    rw [upF_ge (by clear ih hq; grind)] at hq
    exact hq
  · refine br_f (show ¬ 20 ≤ k from (by have h9 := hb.2 k h0 (by clear ih hq; grind); have h8 := hb.1; clear ih hq; grind)) ?_
    refine ⟨?_, ?_⟩
    · exact vb (x := k) (N := 20) 20 (by decide) (by have h9 := hb.2 k h0 (by clear ih hq; grind); have h8 := hb.1; clear ih hq; grind) (by have h9 := hb.2 k h0 (by clear ih hq; grind); have h8 := hb.1; clear ih hq; grind)
    refine ⟨?_, ?_⟩
    · exact vb (x := k) (N := 20) 20 (by decide) (by have h9 := hb.2 k h0 (by clear ih hq; grind); have h8 := hb.1; clear ih hq; grind) (by have h9 := hb.2 k h0 (by clear ih hq; grind); have h8 := hb.1; clear ih hq; grind)
    refine br_f (show ¬ (I 51 ((k).toNatClampNeg)) < 0 from (by have h9 := hb.2 k h0 (by clear ih hq; grind); have h8 := hb.1; clear ih hq; grind)) ?_
    refine br_f (show ¬ 12 ≤ (I 51 ((k).toNatClampNeg)) from (by have h9 := hb.2 k h0 (by clear ih hq; grind); have h8 := hb.1; clear ih hq; grind)) ?_
    refine br_f (show ¬ (I 52 ((k).toNatClampNeg)) < 0 from (by have h9 := hb.2 k h0 (by clear ih hq; grind); have h8 := hb.1; clear ih hq; grind)) ?_
    refine br_f (show ¬ 12 ≤ (I 52 ((k).toNatClampNeg)) from (by have h9 := hb.2 k h0 (by clear ih hq; grind); have h8 := hb.1; clear ih hq; grind)) ?_
    refine ⟨fun h => absurd h (by decide), fun _ => ?_⟩
    refine ⟨fun (c7 : ¬ ((g >>> (k &&& 31)) &&& 1) = 1) => ?_, fun (c7 : ((g >>> (k &&& 31)) &&& 1) = 1) => ?_⟩
    · refine qJ_nm (qWP_mono _) [(6, _), (5, _), (4, _)] [(3, .int (k + 1)), (2, .int m), (1, .int g), (0, .ref 46)] rfl rfl rfl ?_
      have hk : k < I 46 7 := by clear ih hq; grind
      have e9 : gTi (I 51) (I 52) (I 53) g k (E, U, m) = (E, U, m) := by
        unfold gTi
        exact if_neg (c7)
      rw [upF_on hk, e9] at hq
      exact ih hk _ _ _ (by clear ih hq; grind) (by first | exact hm | exact Or.inr rfl) hq
    · refine ⟨?_, ?_⟩
      · exact vb (x := I 52 ((k).toNatClampNeg)) (N := 12) 12 (by decide) (by have h9 := hb.2 k h0 (by clear ih hq; grind); have h8 := hb.1; clear ih hq; grind) (by have h9 := hb.2 k h0 (by clear ih hq; grind); have h8 := hb.1; clear ih hq; grind)
      refine ⟨?_, ?_⟩
      · exact vb (x := I 51 ((k).toNatClampNeg)) (N := 12) 12 (by decide) (by have h9 := hb.2 k h0 (by clear ih hq; grind); have h8 := hb.1; clear ih hq; grind) (by have h9 := hb.2 k h0 (by clear ih hq; grind); have h8 := hb.1; clear ih hq; grind)
      refine ⟨?_, ?_⟩
      · exact vb (x := k) (N := 20) 20 (by decide) (by have h9 := hb.2 k h0 (by clear ih hq; grind); have h8 := hb.1; clear ih hq; grind) (by have h9 := hb.2 k h0 (by clear ih hq; grind); have h8 := hb.1; clear ih hq; grind)
      refine ⟨fun (c8 : ((E ((I 51 ((k).toNatClampNeg)).toNatClampNeg)) + (I 53 ((k).toNatClampNeg))) ≤ (E ((I 52 ((k).toNatClampNeg)).toNatClampNeg))) => ?_, fun (c8 : ¬ ((E ((I 51 ((k).toNatClampNeg)).toNatClampNeg)) + (I 53 ((k).toNatClampNeg))) ≤ (E ((I 52 ((k).toNatClampNeg)).toNatClampNeg))) => ?_⟩
      · refine ⟨?_, ?_⟩
        · exact vb (x := I 51 ((k).toNatClampNeg)) (N := 12) 12 (by decide) (by have h9 := hb.2 k h0 (by clear ih hq; grind); have h8 := hb.1; clear ih hq; grind) (by have h9 := hb.2 k h0 (by clear ih hq; grind); have h8 := hb.1; clear ih hq; grind)
        refine ⟨?_, ?_⟩
        · exact vb (x := I 52 ((k).toNatClampNeg)) (N := 12) 12 (by decide) (by have h9 := hb.2 k h0 (by clear ih hq; grind); have h8 := hb.1; clear ih hq; grind) (by have h9 := hb.2 k h0 (by clear ih hq; grind); have h8 := hb.1; clear ih hq; grind)
        refine ⟨?_, ?_⟩
        · exact vb (x := k) (N := 20) 20 (by decide) (by have h9 := hb.2 k h0 (by clear ih hq; grind); have h8 := hb.1; clear ih hq; grind) (by have h9 := hb.2 k h0 (by clear ih hq; grind); have h8 := hb.1; clear ih hq; grind)
        refine ⟨fun (c9 : (U ((I 51 ((k).toNatClampNeg)).toNatClampNeg)) ≤ ((U ((I 52 ((k).toNatClampNeg)).toNatClampNeg)) - (I 53 ((k).toNatClampNeg)))) => ?_, fun (c9 : ¬ (U ((I 51 ((k).toNatClampNeg)).toNatClampNeg)) ≤ ((U ((I 52 ((k).toNatClampNeg)).toNatClampNeg)) - (I 53 ((k).toNatClampNeg)))) => ?_⟩
        · refine qJ_nm (qWP_mono _) [(6, _), (5, _), (4, _)] [(3, .int (k + 1)), (2, .int m), (1, .int g), (0, .ref 46)] rfl rfl rfl ?_
          have hk : k < I 46 7 := by clear ih hq; grind
          have e9 : gTi (I 51) (I 52) (I 53) g k (E, U, m) = (E, U, m) := by
            unfold gTi
            rw [if_pos (c7)]
            unfold gT1 stE stU
            dsimp only
            have x1 : ¬ (E (I 52 (k).toNatClampNeg).toNatClampNeg < E (I 51 (k).toNatClampNeg).toNatClampNeg + I 53 (k).toNatClampNeg) := Int32.not_lt.mpr c8
            have x2 : ¬ (U (I 52 (k).toNatClampNeg).toNatClampNeg - I 53 (k).toNatClampNeg < U (I 51 (k).toNatClampNeg).toNatClampNeg) := Int32.not_lt.mpr c9
            rw [if_neg x1, if_neg x2, if_neg (fun h => h.elim x1 x2)]
          rw [upF_on hk, e9] at hq
          exact ih hk _ _ _ (by clear ih hq; grind) (by first | exact hm | exact Or.inr rfl) hq
        · refine ⟨?_, ?_⟩
          · exact vb (x := I 52 ((k).toNatClampNeg)) (N := 12) 12 (by decide) (by have h9 := hb.2 k h0 (by clear ih hq; grind); have h8 := hb.1; clear ih hq; grind) (by have h9 := hb.2 k h0 (by clear ih hq; grind); have h8 := hb.1; clear ih hq; grind)
          refine ⟨?_, ?_⟩
          · exact vb (x := k) (N := 20) 20 (by decide) (by have h9 := hb.2 k h0 (by clear ih hq; grind); have h8 := hb.1; clear ih hq; grind) (by have h9 := hb.2 k h0 (by clear ih hq; grind); have h8 := hb.1; clear ih hq; grind)
          refine ⟨?_, ?_⟩
          · exact vb (x := I 51 ((k).toNatClampNeg)) (N := 12) 12 (by decide) (by have h9 := hb.2 k h0 (by clear ih hq; grind); have h8 := hb.1; clear ih hq; grind) (by have h9 := hb.2 k h0 (by clear ih hq; grind); have h8 := hb.1; clear ih hq; grind)
          refine qJ_M (M2 := (z, N, qRow (qRow I 49 E) 50 (uI U ((I 51 ((k).toNatClampNeg)).toNatClampNeg) ((U ((I 52 ((k).toNatClampNeg)).toNatClampNeg)) - (I 53 ((k).toNatClampNeg)))), L, R)) (by (try dsimp only); (simp (decide := true) only [q2_qRow, q2_qRow2, q2_qRow3]) <;> rfl) ?_
          change qJ m_X0_tighten (qWP _) Q 171 [(6, .int 1), (5, .int (I 52 ((k).toNatClampNeg))), (4, .int (I 51 ((k).toNatClampNeg))), (3, .int k), (2, .int m), (1, .int g), (0, .ref 46)] [] _ _ (z, N, qRow (qRow I 49 E) 50 (uI U ((I 51 ((k).toNatClampNeg)).toNatClampNeg) ((U ((I 52 ((k).toNatClampNeg)).toNatClampNeg)) - (I 53 ((k).toNatClampNeg)))), L, R)
          refine qJ_run (qWP_mono _) [4, 124, 171] 400 ?_
          refine qJ_nm (qWP_mono _) [(6, _), (5, _), (4, _)] [(3, .int (k + 1)), (2, .int 1), (1, .int g), (0, .ref 46)] rfl rfl rfl ?_
          have hk : k < I 46 7 := by clear ih hq; grind
          have e9 : gTi (I 51) (I 52) (I 53) g k (E, U, m) = (E, uI U ((I 51 ((k).toNatClampNeg)).toNatClampNeg) ((U ((I 52 ((k).toNatClampNeg)).toNatClampNeg)) - (I 53 ((k).toNatClampNeg))), 1) := by
            unfold gTi
            rw [if_pos (c7)]
            unfold gT1 stE stU
            dsimp only
            have x1 : ¬ (E (I 52 (k).toNatClampNeg).toNatClampNeg < E (I 51 (k).toNatClampNeg).toNatClampNeg + I 53 (k).toNatClampNeg) := Int32.not_lt.mpr c8
            have x2 : (U (I 52 (k).toNatClampNeg).toNatClampNeg - I 53 (k).toNatClampNeg < U (I 51 (k).toNatClampNeg).toNatClampNeg) := Int32.not_le.mp c9
            rw [if_neg x1, if_pos x2, if_pos (Or.inr x2)]
          rw [upF_on hk, e9] at hq
          exact ih hk _ _ _ (by clear ih hq; grind) (by first | exact hm | exact Or.inr rfl) hq
      · refine ⟨?_, ?_⟩
        · exact vb (x := I 51 ((k).toNatClampNeg)) (N := 12) 12 (by decide) (by have h9 := hb.2 k h0 (by clear ih hq; grind); have h8 := hb.1; clear ih hq; grind) (by have h9 := hb.2 k h0 (by clear ih hq; grind); have h8 := hb.1; clear ih hq; grind)
        refine ⟨?_, ?_⟩
        · exact vb (x := k) (N := 20) 20 (by decide) (by have h9 := hb.2 k h0 (by clear ih hq; grind); have h8 := hb.1; clear ih hq; grind) (by have h9 := hb.2 k h0 (by clear ih hq; grind); have h8 := hb.1; clear ih hq; grind)
        refine ⟨?_, ?_⟩
        · exact vb (x := I 52 ((k).toNatClampNeg)) (N := 12) 12 (by decide) (by have h9 := hb.2 k h0 (by clear ih hq; grind); have h8 := hb.1; clear ih hq; grind) (by have h9 := hb.2 k h0 (by clear ih hq; grind); have h8 := hb.1; clear ih hq; grind)
        refine qJ_M (M2 := (z, N, qRow (qRow I 49 (uI E ((I 52 ((k).toNatClampNeg)).toNatClampNeg) ((E ((I 51 ((k).toNatClampNeg)).toNatClampNeg)) + (I 53 ((k).toNatClampNeg))))) 50 U, L, R)) (by (try dsimp only); (simp (decide := true) only [q2_qRow, q2_qRow2, q2_qRow3]) <;> rfl) ?_
        change qJ m_X0_tighten (qWP _) Q 124 [(6, .int 1), (5, .int (I 52 ((k).toNatClampNeg))), (4, .int (I 51 ((k).toNatClampNeg))), (3, .int k), (2, .int m), (1, .int g), (0, .ref 46)] [] _ _ (z, N, qRow (qRow I 49 (uI E ((I 52 ((k).toNatClampNeg)).toNatClampNeg) ((E ((I 51 ((k).toNatClampNeg)).toNatClampNeg)) + (I 53 ((k).toNatClampNeg))))) 50 U, L, R)
        refine qJ_run (qWP_mono _) [4, 124, 171] 400 ?_
        refine ⟨?_, ?_⟩
        · exact vb (x := I 51 ((k).toNatClampNeg)) (N := 12) 12 (by decide) (by have h9 := hb.2 k h0 (by clear ih hq; grind); have h8 := hb.1; clear ih hq; grind) (by have h9 := hb.2 k h0 (by clear ih hq; grind); have h8 := hb.1; clear ih hq; grind)
        refine ⟨?_, ?_⟩
        · exact vb (x := I 52 ((k).toNatClampNeg)) (N := 12) 12 (by decide) (by have h9 := hb.2 k h0 (by clear ih hq; grind); have h8 := hb.1; clear ih hq; grind) (by have h9 := hb.2 k h0 (by clear ih hq; grind); have h8 := hb.1; clear ih hq; grind)
        refine ⟨?_, ?_⟩
        · exact vb (x := k) (N := 20) 20 (by decide) (by have h9 := hb.2 k h0 (by clear ih hq; grind); have h8 := hb.1; clear ih hq; grind) (by have h9 := hb.2 k h0 (by clear ih hq; grind); have h8 := hb.1; clear ih hq; grind)
        refine ⟨fun (c10 : (U ((I 51 ((k).toNatClampNeg)).toNatClampNeg)) ≤ ((U ((I 52 ((k).toNatClampNeg)).toNatClampNeg)) - (I 53 ((k).toNatClampNeg)))) => ?_, fun (c10 : ¬ (U ((I 51 ((k).toNatClampNeg)).toNatClampNeg)) ≤ ((U ((I 52 ((k).toNatClampNeg)).toNatClampNeg)) - (I 53 ((k).toNatClampNeg)))) => ?_⟩
        · refine qJ_nm (qWP_mono _) [(6, _), (5, _), (4, _)] [(3, .int (k + 1)), (2, .int 1), (1, .int g), (0, .ref 46)] rfl rfl rfl ?_
          have hk : k < I 46 7 := by clear ih hq; grind
          have e9 : gTi (I 51) (I 52) (I 53) g k (E, U, m) = (uI E ((I 52 ((k).toNatClampNeg)).toNatClampNeg) ((E ((I 51 ((k).toNatClampNeg)).toNatClampNeg)) + (I 53 ((k).toNatClampNeg))), U, 1) := by
            unfold gTi
            rw [if_pos (c7)]
            unfold gT1 stE stU
            dsimp only
            have x1 : (E (I 52 (k).toNatClampNeg).toNatClampNeg < E (I 51 (k).toNatClampNeg).toNatClampNeg + I 53 (k).toNatClampNeg) := Int32.not_le.mp c8
            have x2 : ¬ (U (I 52 (k).toNatClampNeg).toNatClampNeg - I 53 (k).toNatClampNeg < U (I 51 (k).toNatClampNeg).toNatClampNeg) := Int32.not_lt.mpr c10
            rw [if_pos x1, if_neg x2, if_pos (Or.inl x1)]
          rw [upF_on hk, e9] at hq
          exact ih hk _ _ _ (by clear ih hq; grind) (by first | exact hm | exact Or.inr rfl) hq
        · refine ⟨?_, ?_⟩
          · exact vb (x := I 52 ((k).toNatClampNeg)) (N := 12) 12 (by decide) (by have h9 := hb.2 k h0 (by clear ih hq; grind); have h8 := hb.1; clear ih hq; grind) (by have h9 := hb.2 k h0 (by clear ih hq; grind); have h8 := hb.1; clear ih hq; grind)
          refine ⟨?_, ?_⟩
          · exact vb (x := k) (N := 20) 20 (by decide) (by have h9 := hb.2 k h0 (by clear ih hq; grind); have h8 := hb.1; clear ih hq; grind) (by have h9 := hb.2 k h0 (by clear ih hq; grind); have h8 := hb.1; clear ih hq; grind)
          refine ⟨?_, ?_⟩
          · exact vb (x := I 51 ((k).toNatClampNeg)) (N := 12) 12 (by decide) (by have h9 := hb.2 k h0 (by clear ih hq; grind); have h8 := hb.1; clear ih hq; grind) (by have h9 := hb.2 k h0 (by clear ih hq; grind); have h8 := hb.1; clear ih hq; grind)
          refine qJ_M (M2 := (z, N, qRow (qRow I 49 (uI E ((I 52 ((k).toNatClampNeg)).toNatClampNeg) ((E ((I 51 ((k).toNatClampNeg)).toNatClampNeg)) + (I 53 ((k).toNatClampNeg))))) 50 (uI U ((I 51 ((k).toNatClampNeg)).toNatClampNeg) ((U ((I 52 ((k).toNatClampNeg)).toNatClampNeg)) - (I 53 ((k).toNatClampNeg)))), L, R)) (by (try dsimp only); (simp (decide := true) only [q2_qRow, q2_qRow2, q2_qRow3]) <;> rfl) ?_
          change qJ m_X0_tighten (qWP _) Q 171 [(2, .int 1), (6, .int 1), (5, .int (I 52 ((k).toNatClampNeg))), (4, .int (I 51 ((k).toNatClampNeg))), (3, .int k), (1, .int g), (0, .ref 46)] [] _ _ (z, N, qRow (qRow I 49 (uI E ((I 52 ((k).toNatClampNeg)).toNatClampNeg) ((E ((I 51 ((k).toNatClampNeg)).toNatClampNeg)) + (I 53 ((k).toNatClampNeg))))) 50 (uI U ((I 51 ((k).toNatClampNeg)).toNatClampNeg) ((U ((I 52 ((k).toNatClampNeg)).toNatClampNeg)) - (I 53 ((k).toNatClampNeg)))), L, R)
          refine qJ_run (qWP_mono _) [4, 124, 171] 400 ?_
          refine qJ_nm (qWP_mono _) [(6, _), (5, _), (4, _)] [(3, .int (k + 1)), (2, .int 1), (1, .int g), (0, .ref 46)] rfl rfl rfl ?_
          have hk : k < I 46 7 := by clear ih hq; grind
          have e9 : gTi (I 51) (I 52) (I 53) g k (E, U, m) = (uI E ((I 52 ((k).toNatClampNeg)).toNatClampNeg) ((E ((I 51 ((k).toNatClampNeg)).toNatClampNeg)) + (I 53 ((k).toNatClampNeg))), uI U ((I 51 ((k).toNatClampNeg)).toNatClampNeg) ((U ((I 52 ((k).toNatClampNeg)).toNatClampNeg)) - (I 53 ((k).toNatClampNeg))), 1) := by
            unfold gTi
            rw [if_pos (c7)]
            unfold gT1 stE stU
            dsimp only
            have x1 : (E (I 52 (k).toNatClampNeg).toNatClampNeg < E (I 51 (k).toNatClampNeg).toNatClampNeg + I 53 (k).toNatClampNeg) := Int32.not_le.mp c8
            have x2 : (U (I 52 (k).toNatClampNeg).toNatClampNeg - I 53 (k).toNatClampNeg < U (I 51 (k).toNatClampNeg).toNatClampNeg) := Int32.not_le.mp c10
            rw [if_pos x1, if_pos x2, if_pos (Or.inl x1)]
          rw [upF_on hk, e9] at hq
          exact ih hk _ _ _ (by clear ih hq; grind) (by first | exact hm | exact Or.inr rfl) hq
theorem c_X0_tighten {d z : Nat} {N : Nat → Nat} {I : Nat → Nat → Int32} {L : Nat → Nat → Int64} {R : Nat → Nat → Option Nat} {Q : qP} {g : Int32} (hb : okB 12 (I 51) (I 52) (I 53) (I 46 7)) (E U : Nat → Int32) (m : Int32) (h : ∀ v : Int32, v = (rdF (I 51) (I 52) (I 53) g (I 46 7) (E, U, m)).2.2 → (v = 0 ∨ v = 1) → Q (some (.int v)) (z, N, qRow (qRow I 49 (rdF (I 51) (I 52) (I 53) g (I 46 7) (E, U, m)).1) 50 (rdF (I 51) (I 52) (I 53) g (I 46 7) (E, U, m)).2.1, L, R)) : qWP (d + 1) 7 [.ref 46, .int g] (z, N, qRow (qRow I 49 E) 50 U, L, R) Q := by
  refine qWP_of m_X0_tighten rfl rfl [(0, .ref 46), (1, .int g)] rfl ?_
  refine qJ_run (qWP_mono _) [4] 400 ?_
  refine qJ_nm (qWP_mono _) [] [(3, .int 0), (2, .int 0), (1, .int g), (0, .ref 46)] rfl rfl rfl ?_
  exact l_X0_tighten (d := d) hb 0 _ _ _ (by decide) (Or.inl rfl) (h _ rfl (rd01 (S := (E, U, m)) hb.1.1))
theorem l_X0_settle3 {d z : Nat} {N : Nat → Nat} {I : Nat → Nat → Int32} {L : Nat → Nat → Int64} {R : Nat → Nat → Option Nat} {Q : qP} {g : Int32} {E U : Nat → Int32} : ∀ (k : Int32), ∀ m : Int32, 0 ≤ k → (m = 0 ∨ m = 1) → Q (some (.int (if upS 12 (gFin E U) id k m = 0 then 1 else 0))) (z, N, qRow (qRow I 49 E) 50 U, L, R) → qJ m_X0_settleBy (qWP (d + 1)) Q 66 [(3, .int k), (2, .int m), (1, .int g), (0, .ref 46)] [] 0 0 (z, N, qRow (qRow I 49 E) 50 U, L, R) := by
  refine up_ind (12) fun k ih => ?_
  intro m h0 hm hq
  refine qJ_run (qWP_mono _) [66] 400 ?_
  refine ⟨fun (c1 : 12 ≤ k) => ?_, fun (c1 : ¬ 12 ≤ k) => ?_⟩
  · refine ⟨fun (c2 : ¬ m = 0) => ?_, fun (c2 : m = 0) => ?_⟩
    · refine ⟨by first | exact Or.inl rfl | exact Or.inr rfl | (clear ih hq; grind), ?_⟩
      change Q (some (.int 0)) (z, N, qRow (qRow I 49 E) 50 U, L, R)
      first
      | (exfalso; clear ih hq; grind; done)
      | (rw [upS_ge (show ¬ k < 12 by clear ih hq; grind)] at hq
         first
         | (rw [if_pos (show id m = 0 by assumption)] at hq; exact hq)
         | (rw [if_neg (show ¬ id m = 0 by assumption)] at hq; exact hq))
      | (have hk : k < 12 := by clear ih hq; grind
         have hz : ¬ m = 0 := by clear ih hq; grind
         rw [upS_out hk (show gFin E U k m = .inr m from if_neg hz), if_neg hz] at hq
         exact hq)
    · refine ⟨by first | exact Or.inl rfl | exact Or.inr rfl | (clear ih hq; grind), ?_⟩
      change Q (some (.int 1)) (z, N, qRow (qRow I 49 E) 50 U, L, R)
      first
      | (exfalso; clear ih hq; grind; done)
      | (rw [upS_ge (show ¬ k < 12 by clear ih hq; grind)] at hq
         first
         | (rw [if_pos (show id m = 0 by assumption)] at hq; exact hq)
         | (rw [if_neg (show ¬ id m = 0 by assumption)] at hq; exact hq))
      | (have hk : k < 12 := by clear ih hq; grind
         have hz : ¬ m = 0 := by clear ih hq; grind
         rw [upS_out hk (show gFin E U k m = .inr m from if_neg hz), if_neg hz] at hq
         exact hq)
  · refine ⟨fun (c3 : ¬ m = 0) => ?_, fun (c3 : m = 0) => ?_⟩
    · refine ⟨fun (c4 : ¬ m = 0) => ?_, fun (c4 : m = 0) => ?_⟩
      · refine ⟨by first | exact Or.inl rfl | exact Or.inr rfl | (clear ih hq; grind), ?_⟩
        change Q (some (.int 0)) (z, N, qRow (qRow I 49 E) 50 U, L, R)
        first
        | (exfalso; clear ih hq; grind; done)
        | (rw [upS_ge (show ¬ k < 12 by clear ih hq; grind)] at hq
           first
           | (rw [if_pos (show id m = 0 by assumption)] at hq; exact hq)
           | (rw [if_neg (show ¬ id m = 0 by assumption)] at hq; exact hq))
        | (have hk : k < 12 := by clear ih hq; grind
           have hz : ¬ m = 0 := by clear ih hq; grind
           rw [upS_out hk (show gFin E U k m = .inr m from if_neg hz), if_neg hz] at hq
           exact hq)
      · refine ⟨by first | exact Or.inl rfl | exact Or.inr rfl | (clear ih hq; grind), ?_⟩
        change Q (some (.int 1)) (z, N, qRow (qRow I 49 E) 50 U, L, R)
        first
        | (exfalso; clear ih hq; grind; done)
        | (rw [upS_ge (show ¬ k < 12 by clear ih hq; grind)] at hq
           first
           | (rw [if_pos (show id m = 0 by assumption)] at hq; exact hq)
           | (rw [if_neg (show ¬ id m = 0 by assumption)] at hq; exact hq))
        | (have hk : k < 12 := by clear ih hq; grind
           have hz : ¬ m = 0 := by clear ih hq; grind
           rw [upS_out hk (show gFin E U k m = .inr m from if_neg hz), if_neg hz] at hq
           exact hq)
    · refine ⟨?_, ?_⟩
      · exact vb (x := k) (N := 12) 12 (by decide) (by clear ih hq; grind) (by clear ih hq; grind)
      refine ⟨?_, ?_⟩
      · exact vb (x := k) (N := 12) 12 (by decide) (by clear ih hq; grind) (by clear ih hq; grind)
      refine ⟨fun (c5 : (E ((k).toNatClampNeg)) ≤ (U ((k).toNatClampNeg))) => ?_, fun (c5 : ¬ (E ((k).toNatClampNeg)) ≤ (U ((k).toNatClampNeg))) => ?_⟩
      · have hk : k < 12 := by clear ih hq; grind
        have e9 : gFin E U k m = .inl 0 := by
          unfold gFin
          rw [if_pos (show m = 0 by clear ih hq; grind)]
          first | rw [if_pos (by clear ih hq; grind)] | rw [if_neg (by clear ih hq; grind)]
        rw [upS_on hk e9] at hq
        exact ih hk _ (by clear ih hq; grind) (by decide) hq
      · have hk : k < 12 := by clear ih hq; grind
        have e9 : gFin E U k m = .inl 1 := by
          unfold gFin
          rw [if_pos (show m = 0 by clear ih hq; grind)]
          first | rw [if_pos (by clear ih hq; grind)] | rw [if_neg (by clear ih hq; grind)]
        rw [upS_on hk e9] at hq
        exact ih hk _ (by clear ih hq; grind) (by decide) hq
theorem l_X0_settle2 {d z : Nat} {N : Nat → Nat} {I : Nat → Nat → Int32} {L : Nat → Nat → Int64} {R : Nat → Nat → Option Nat} {Q : qP} {g : Int32} (hb : okB 12 (I 51) (I 52) (I 53) (I 46 7)) : ∀ (k : Int32), ∀ (E U : Nat → Int32) (m : Int32), 0 ≤ k → k ≤ 13 → (m = 0 ∨ m = 1) → (((upS 13 (gSet (I 51) (I 52) (I 53) g (I 46 7)) id k (E, U, m)).2.2 = 0 ∨ (upS 13 (gSet (I 51) (I 52) (I 53) g (I 46 7)) id k (E, U, m)).2.2 = 1) → Q (some (.int (if fFin (upS 13 (gSet (I 51) (I 52) (I 53) g (I 46 7)) id k (E, U, m)) = 0 then 1 else 0))) (z, N, qRow (qRow I 49 (upS 13 (gSet (I 51) (I 52) (I 53) g (I 46 7)) id k (E, U, m)).1) 50 (upS 13 (gSet (I 51) (I 52) (I 53) g (I 46 7)) id k (E, U, m)).2.1, L, R)) → qJ m_X0_settleBy (qWP (d + 1)) Q 42 [(3, .int k), (2, .int m), (1, .int g), (0, .ref 46)] [] 0 0 (z, N, qRow (qRow I 49 E) 50 U, L, R) := by
  refine up_ind (13) fun k ih => ?_
  intro E U m h0 h1 hm hq
  refine qJ_run (qWP_mono _) [42, 66] 400 ?_
  refine ⟨fun (c1 : 12 < k) => ?_, fun (c1 : ¬ 12 < k) => ?_⟩
  · have e9 : (upS 13 (gSet (I 51) (I 52) (I 53) g (I 46 7)) id k (E, U, m)) = (E, U, m) := by
      first
      | exact upS_ge (show ¬ k < 13 by clear ih hq; grind)
      | exact upS_out (show k < 13 by clear ih hq; grind) (if_pos (show m = 0 by assumption))
    rw [e9] at hq
    exact l_X0_settle3 (d := d) 0 m (by decide) hm (hq hm)
  · refine ⟨fun (c2 : m = 0) => ?_, fun (c2 : ¬ m = 0) => ?_⟩
    · have e9 : (upS 13 (gSet (I 51) (I 52) (I 53) g (I 46 7)) id k (E, U, m)) = (E, U, m) := by
        first
        | exact upS_ge (show ¬ k < 13 by clear ih hq; grind)
        | exact upS_out (show k < 13 by clear ih hq; grind) (if_pos (show m = 0 by assumption))
      rw [e9] at hq
      exact l_X0_settle3 (d := d) 0 m (by decide) hm (hq hm)
    · refine ⟨⟨Nat.le_refl _, Nat.le_refl _⟩, ?_⟩
      refine c_X0_tighten (d := d) hb E U m fun v1 hv1 hw1 => ?_
      have hk : k < 13 := by clear ih hq; grind
      have hz : ¬ m = 0 := by clear ih hq; grind
      have e9 : gSet (I 51) (I 52) (I 53) g (I 46 7) k (E, U, m) = .inl (rdF (I 51) (I 52) (I 53) g (I 46 7) (E, U, m)) := if_neg hz
      rw [upS_on hk e9] at hq
      subst hv1
      exact ih hk _ _ _ (by clear ih hq; grind) (by clear ih hq; grind) hw1 hq
theorem l_X0_settle1 {d z : Nat} {N : Nat → Nat} {I : Nat → Nat → Int32} {L : Nat → Nat → Int64} {R : Nat → Nat → Option Nat} {Q : qP} {g : Int32} (hb : okB 12 (I 51) (I 52) (I 53) (I 46 7)) : ∀ (k : Int32), ∀ E U : Nat → Int32, 0 ≤ k → k ≤ 12 → (∀ v, v < k.toNatClampNeg → E v = I 47 v ∧ U v = I 48 v) → (∀ E2 U2 : Nat → Int32, (∀ v, v < 12 → E2 v = I 47 v ∧ U2 v = I 48 v) → ((fSet E2 U2 (I 51) (I 52) (I 53) g (I 46 7)).2.2 = 0 ∨ (fSet E2 U2 (I 51) (I 52) (I 53) g (I 46 7)).2.2 = 1) → Q (some (.int (if fFin (fSet E2 U2 (I 51) (I 52) (I 53) g (I 46 7)) = 0 then 1 else 0))) (z, N, qRow (qRow I 49 (fSet E2 U2 (I 51) (I 52) (I 53) g (I 46 7)).1) 50 (fSet E2 U2 (I 51) (I 52) (I 53) g (I 46 7)).2.1, L, R)) → qJ m_X0_settleBy (qWP (d + 1)) Q 2 [(2, .int k), (1, .int g), (0, .ref 46)] [] 0 0 (z, N, qRow (qRow I 49 E) 50 U, L, R) := by
  refine up_ind (12) fun k ih => ?_
  intro E U h0 h1 hE hq
  refine qJ_run (qWP_mono _) [2, 20, 32, 42] 400 ?_
  refine ⟨fun (c1 : 12 ≤ k) => ?_, fun (c1 : ¬ 12 ≤ k) => ?_⟩
  · have hk : k = 12 := by clear ih hq; grind
    subst hk
    exact l_X0_settle2 (d := d) hb 0 E U 1 (by decide) (by decide) (Or.inr rfl) (hq E U hE)
  · refine ⟨?_, ?_⟩
    · exact vb (x := k) (N := 12) 12 (by decide) (by clear ih hq; grind) (by clear ih hq; grind)
    refine ⟨?_, ?_⟩
    · exact vb (x := k) (N := 12) 12 (by decide) (by clear ih hq; grind) (by clear ih hq; grind)
    refine qJ_M (M2 := (z, N, qRow (qRow I 49 (uI E ((k).toNatClampNeg) (I 47 ((k).toNatClampNeg)))) 50 U, L, R)) (by (try dsimp only); (simp (decide := true) only [q2_qRow, q2_qRow2, q2_qRow3]) <;> rfl) ?_
    change qJ m_X0_settleBy (qWP _) Q 20 [(2, .int k), (1, .int g), (0, .ref 46)] [] _ _ (z, N, qRow (qRow I 49 (uI E ((k).toNatClampNeg) (I 47 ((k).toNatClampNeg)))) 50 U, L, R)
    refine qJ_run (qWP_mono _) [2, 20, 32, 42] 400 ?_
    refine ⟨?_, ?_⟩
    · exact vb (x := k) (N := 12) 12 (by decide) (by clear ih hq; grind) (by clear ih hq; grind)
    refine ⟨?_, ?_⟩
    · exact vb (x := k) (N := 12) 12 (by decide) (by clear ih hq; grind) (by clear ih hq; grind)
    refine qJ_M (M2 := (z, N, qRow (qRow I 49 (uI E ((k).toNatClampNeg) (I 47 ((k).toNatClampNeg)))) 50 (uI U ((k).toNatClampNeg) (I 48 ((k).toNatClampNeg))), L, R)) (by (try dsimp only); (simp (decide := true) only [q2_qRow, q2_qRow2, q2_qRow3]) <;> rfl) ?_
    change qJ m_X0_settleBy (qWP _) Q 32 [(2, .int k), (1, .int g), (0, .ref 46)] [] _ _ (z, N, qRow (qRow I 49 (uI E ((k).toNatClampNeg) (I 47 ((k).toNatClampNeg)))) 50 (uI U ((k).toNatClampNeg) (I 48 ((k).toNatClampNeg))), L, R)
    refine qJ_run (qWP_mono _) [2, 20, 32, 42] 400 ?_
    have hk : k < 12 := by clear ih hq; grind
    refine ih hk _ _ (by clear ih hq; grind) (by clear ih hq; grind) (fun v hv => ?_) hq
    rw [tn1 h0 (by clear ih hq; grind)] at hv
    by_cases e : v = k.toNatClampNeg
    · subst e; rw [uI_at, uI_at]; exact ⟨rfl, rfl⟩
    · rw [uI_nj e, uI_nj e]; exact hE v (by omega)
theorem c_X0_settleBy {d z : Nat} {N : Nat → Nat} {I : Nat → Nat → Int32} {L : Nat → Nat → Int64} {R : Nat → Nat → Option Nat} {Q : qP} {g : Int32} (hb : okB 12 (I 51) (I 52) (I 53) (I 46 7)) (hl : yL (I 47) (I 48)) (h : ∀ (v : Int32) (E U : Nat → Int32), yO 12 (I 47) (I 48) (I 51) (I 52) (I 53) (I 46 7) g 12 1 0 v E U → Q (some (.int v)) (z, N, qRow (qRow I 49 E) 50 U, L, R)) : qWP (d + 2) 6 [.ref 46, .int g] (z, N, I, L, R) Q := by
  refine qWP_of m_X0_settleBy rfl rfl [(0, .ref 46), (1, .int g)] rfl ?_
  refine qJ_run (qWP_mono _) [2] 400 ?_
  refine qJ_nm (qWP_mono _) [] [(2, .int 0), (1, .int g), (0, .ref 46)] rfl rfl rfl ?_
  refine qJ_M (M2 := (z, N, qRow (qRow I 49 (I 49)) 50 (I 50), L, R)) (by rw [qRow_self, qRow_self]) ?_
  refine l_X0_settle1 (d := d) hb 0 _ _ (by decide) (by decide) (fun v hv => absurd hv (Nat.not_lt_zero v)) (fun E2 U2 hE hm => ?_)
  refine h _ _ _ (yO_val (yO_congr hE (set_spec (bits := g) hb (fun v hv => ?_))) (fun e => ?_) (fun e => ?_))
  · rw [(hE v hv).1, (hE v hv).2]; exact hl v hv
  · rw [e]; rfl
  · rw [e]; rfl
theorem c_X0_settle {d z : Nat} {N : Nat → Nat} {I : Nat → Nat → Int32} {L : Nat → Nat → Int64} {R : Nat → Nat → Option Nat} {Q : qP} (hb : okB 12 (I 51) (I 52) (I 53) (I 46 7)) (hl : yL (I 47) (I 48)) (h : ∀ (v : Int32) (E U : Nat → Int32), yO 12 (I 47) (I 48) (I 51) (I 52) (I 53) (I 46 7) (1 <<< (I 46 7 &&& 31) - 1) 12 1 0 v E U → Q (some (.int v)) (z, N, qRow (qRow I 49 E) 50 U, L, R)) : qWP (d + 3) 5 [.ref 46] (z, N, I, L, R) Q := by
  refine qWP_of m_X0_settle rfl rfl [(0, .ref 46)] rfl ?_
  refine qJ_run (qWP_mono _) [] 400 ?_
  refine ⟨⟨Nat.le_refl _, Nat.le_refl _⟩, ?_⟩
  refine c_X0_settleBy (d := d) hb hl fun v1 E U hy1 => ?_
  refine ⟨by first | exact Or.inl rfl | exact Or.inr rfl | (clear h; (rcases hy1 with h9 | h9 <;> simp [h9.1])), ?_⟩
  change Q (some (.int v1)) (z, N, qRow (qRow I 49 E) 50 U, L, R)
  exact h _ _ _ hy1
