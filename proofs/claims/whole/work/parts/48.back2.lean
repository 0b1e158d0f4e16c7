theorem c_X3_bareReading {d z : Nat} {N : Nat → Nat} {I : Nat → Nat → Int32} {L : Nat → Nat → Int64} {R : Nat → Nat → Option Nat} {Q : qP} {b : Int32} (hst : qStat (z, N, I, L, R)) (h : ∀ v : Int32, v = bare b → Q (some (.int v)) (z, N, I, L, R)) : qWP (d + 3) 49 [.int b] (z, N, I, L, R) Q := by
  refine qWP_of m_X3_bareReading rfl rfl [(0, .int b)] rfl ?_
  refine qJ_run (qWP_mono _) [] 400 ?_
  refine ⟨fun (c1 : b = 63) => ?_, fun (c1 : ¬ b = 63) => ?_⟩
  · refine ⟨⟨Nat.le_refl _, Nat.le_refl _⟩, ?_⟩
    refine c_X5_told (d := d) hst fun v1 hv1 => ?_
    change Q (some (.int v1)) (z, N, I, L, R)
    refine h _ ?_
    subst hv1
    unfold bare
    clear h
    (try unfold shL at *)
    grind
  · refine ⟨fun (c2 : ¬ b = 45) => ?_, fun (c2 : b = 45) => ?_⟩
    · refine ⟨fun (c3 : ¬ b = 35) => ?_, fun (c3 : b = 35) => ?_⟩
      · refine ⟨⟨Nat.le_refl _, Nat.le_refl _⟩, ?_⟩
        refine c_X3_letterShown (d := d) fun v2 hv2 => ?_
        replace hv2 : v2 = shL b := hv2
        refine ⟨fun (c4 : ¬ v2 = (-1)) => ?_, fun (c4 : v2 = (-1)) => ?_⟩
        · refine ⟨⟨Nat.le_refl _, Nat.le_refl _⟩, ?_⟩
          refine c_X5_told (d := d) hst fun v3 hv3 => ?_
          change Q (some (.int v3)) (z, N, I, L, R)
          refine h _ ?_
          subst hv3
          unfold bare
          clear h
          (try unfold shL at *)
          grind
        · change Q (some (.int 0)) (z, N, I, L, R)
          refine h _ ?_
          unfold bare
          clear h
          (try unfold shL at *)
          grind
      · refine ⟨⟨Nat.le_refl _, Nat.le_refl _⟩, ?_⟩
        refine c_X5_told (d := d) hst fun v4 hv4 => ?_
        change Q (some (.int v4)) (z, N, I, L, R)
        refine h _ ?_
        subst hv4
        unfold bare
        clear h
        (try unfold shL at *)
        grind
    · refine ⟨⟨Nat.le_refl _, Nat.le_refl _⟩, ?_⟩
      refine c_X5_told (d := d) hst fun v5 hv5 => ?_
      change Q (some (.int v5)) (z, N, I, L, R)
      refine h _ ?_
      subst hv5
      unfold bare
      clear h
      (try unfold shL at *)
      grind
theorem l_X3_parse {d z : Nat} {N : Nat → Nat} {I : Nat → Nat → Int32} {L : Nat → Nat → Int64} {R : Nat → Nat → Option Nat} {Q : qP} {n : Int32} (hn : 0 ≤ I 9 1 ∧ I 9 1 ≤ 200) (hnn : 0 ≤ n ∧ n ≤ 24) (hst : qStat (z, N, I, L, R)) : ∀ (p : Int32), ∀ (y : Int32) (e : Nat → Int32), 0 ≤ p → p ≤ n → Q (some (.int (upS n (gPc (tpA (I 10) (I 9 1))) (ePc (I 9 1)) p (y, e)).1)) (z, N, qRow I 61 (upS n (gPc (tpA (I 10) (I 9 1))) (ePc (I 9 1)) p (y, e)).2, L, R) → qJ m_X3_parse (qWP (d + 3)) Q 5 [(4, .int p), (3, .int y), (2, .int n), (1, .ref 9), (0, .ref 59)] [] 0 0 (z, N, qRow I 61 e, L, R) := by
  refine up_ind (n) fun p ih => ?_
  intro y e h0 h1 hq
  refine qJ_run (qWP_mono _) [5, 73, 157] 400 ?_
  refine ⟨fun (c1 : n ≤ p) => ?_, fun (c1 : ¬ n ≤ p) => ?_⟩
  · refine ⟨⟨Nat.le_refl _, Nat.le_refl _⟩, ?_⟩
    refine c_X8_size fun v1 hv1 => ?_
    replace hv1 : v1 = I 9 1 := hv1
    refine ⟨fun (c2 : v1 ≤ y) => ?_, fun (c2 : ¬ v1 ≤ y) => ?_⟩
    · change Q (some (.int (-1))) (z, N, qRow I 61 e, L, R)
      rw [upS_ge (by clear ih hq; grind)] at hq
      unfold ePc at hq
      dsimp only at hq
      rw [if_neg (show ¬ y < I 9 1 by clear ih hq; grind)] at hq
      exact hq
    · change Q (some (.int y)) (z, N, qRow I 61 e, L, R)
      rw [upS_ge (by clear ih hq; grind)] at hq
      unfold ePc at hq
      dsimp only at hq
      rw [if_pos (show y < I 9 1 by clear ih hq; grind)] at hq
      exact hq
  · refine br_f (show ¬ 24 ≤ p from (by clear ih hq; grind)) ?_
    refine ⟨⟨Nat.le_refl _, Nat.le_refl _⟩, ?_⟩
    refine c_X8_byteAt hn fun v2 hv2 => ?_
    have t0 : v2 = tpA (I 10) (I 9 1) y := hv2
    refine ⟨fun (c4 : ¬ v2 = 60) => ?_, fun (c4 : v2 = 60) => ?_⟩
    · refine ⟨fun (c5 : ¬ v2 = 91) => ?_, fun (c5 : v2 = 91) => ?_⟩
      · refine ⟨fun h => absurd h (by decide), fun _ => ?_⟩
        refine ⟨⟨Nat.le_refl _, Nat.le_refl _⟩, ?_⟩
        refine c_X3_bareReading (d := d) hst fun v3 hv3 => ?_
        have tb : v3 = bare v2 := hv3
        refine ⟨?_, ?_⟩
        · exact vb (x := p) (N := 24) 24 (by decide) (by clear ih hq; grind) (by clear ih hq; grind)
        refine qJ_M (M2 := (z, N, qRow I 61 (uI e ((p).toNatClampNeg) v3), L, R)) (by (try dsimp only); (simp (decide := true) only [q2_qRow, q2_qRow2, q2_qRow3]) <;> rfl) ?_
        change qJ m_X3_parse (qWP _) Q 73 [(6, .int (-1)), (5, .int v2), (4, .int p), (3, .int y), (2, .int n), (1, .ref 9), (0, .ref 59)] [] _ _ (z, N, qRow I 61 (uI e ((p).toNatClampNeg) v3), L, R)
        refine qJ_run (qWP_mono _) [5, 73, 157] 400 ?_
        refine ⟨?_, ?_⟩
        · exact vb (x := p) (N := 24) 24 (by decide) (by clear ih hq; grind) (by clear ih hq; grind)
        refine ⟨fun (c6 : ¬ ((uI e ((p).toNatClampNeg) v3) ((p).toNatClampNeg)) = 0) => ?_, fun (c6 : ((uI e ((p).toNatClampNeg) v3) ((p).toNatClampNeg)) = 0) => ?_⟩
        · refine qJ_nm (qWP_mono _) [(6, _), (5, _)] [(4, .int (p + 1)), (3, .int (y + 1)), (2, .int n), (1, .ref 9), (0, .ref 59)] rfl rfl rfl ?_
          have tz : ¬ v3 = 0 := by have := c6; rw [uI_at] at this; exact this
          have hk : p < n := by clear ih hq; grind
          have e9 : gPc (tpA (I 10) (I 9 1)) p (y, e) = .inl (y + 1, uI e ((p).toNatClampNeg) v3) := by
            unfold gPc
            dsimp only
            rw [← t0, if_neg (show ¬ v2 = 60 by assumption), if_neg (show ¬ v2 = 91 by assumption), ← tb]
            exact if_neg tz
          rw [upS_on hk e9] at hq
          exact ih hk _ _ (by clear ih hq; grind) (by clear ih hq; grind) hq
        · change Q (some (.int y)) (z, N, qRow I 61 (uI e ((p).toNatClampNeg) v3), L, R)
          have tz : v3 = 0 := by have := c6; rw [uI_at] at this; exact this
          have hk : p < n := by clear ih hq; grind
          have e9 : gPc (tpA (I 10) (I 9 1)) p (y, e) = .inr (y, uI e ((p).toNatClampNeg) v3) := by
            unfold gPc
            dsimp only
            rw [← t0, if_neg (show ¬ v2 = 60 by assumption), if_neg (show ¬ v2 = 91 by assumption), ← tb]
            exact if_pos tz
          rw [upS_out hk e9] at hq
          exact hq
      · refine ⟨fun _ => ?_, fun h => absurd h (by decide)⟩
        refine ⟨⟨Nat.le_refl _, Nat.le_refl _⟩, ?_⟩
        refine c_X8_byteAt hn fun v4 hv4 => ?_
        have t1 : v4 = tpA (I 10) (I 9 1) (y + 1) := hv4
        refine ⟨⟨Nat.le_refl _, Nat.le_refl _⟩, ?_⟩
        refine c_X3_letterShown fun v5 hv5 => ?_
        have t2 : v5 = shL v4 := hv5
        refine ⟨fun (c7 : ¬ v5 = (-1)) => ?_, fun (c7 : v5 = (-1)) => ?_⟩
        · refine ⟨⟨Nat.le_refl _, Nat.le_refl _⟩, ?_⟩
          refine c_X8_byteAt hn fun v6 hv6 => ?_
          have t3 : v6 = tpA (I 10) (I 9 1) (y + 2) := hv6
          refine ⟨fun (c8 : v6 = 93) => ?_, fun (c8 : ¬ v6 = 93) => ?_⟩
          · refine ⟨fun _ => ?_, fun hx => absurd hx (show ¬ v2 = 60 from (by assumption))⟩
            refine ⟨⟨Nat.le_refl _, Nat.le_refl _⟩, ?_⟩
            refine c_X5_told (d := d + 1) hst fun v7 hv7 => ?_
            have tt : v7 = fTd 3 0 := hv7
            refine ⟨?_, ?_⟩
            · exact vb (x := p) (N := 24) 24 (by decide) (by clear ih hq; grind) (by clear ih hq; grind)
            refine qJ_M (M2 := (z, N, qRow I 61 (uI e ((p).toNatClampNeg) v7), L, R)) (by (try dsimp only); (simp (decide := true) only [q2_qRow, q2_qRow2, q2_qRow3]) <;> rfl) ?_
            change qJ m_X3_parse (qWP _) Q 157 [(7, .int v5), (6, .int 93), (5, .int v2), (4, .int p), (3, .int y), (2, .int n), (1, .ref 9), (0, .ref 59)] [] _ _ (z, N, qRow I 61 (uI e ((p).toNatClampNeg) v7), L, R)
            refine qJ_run (qWP_mono _) [5, 73, 157] 400 ?_
            refine qJ_nm (qWP_mono _) [(7, _), (6, _), (5, _)] [(4, .int (p + 1)), (3, .int (y + 3)), (2, .int n), (1, .ref 9), (0, .ref 59)] rfl rfl rfl ?_
            have hk : p < n := by clear ih hq; grind
            have e9 : gPc (tpA (I 10) (I 9 1)) p (y, e) = .inl (y + 3, uI e ((p).toNatClampNeg) v7) := by
              unfold gPc
              dsimp only
              rw [← t0, if_neg (show ¬ v2 = 60 by assumption), if_pos (show v2 = 91 by assumption), ← t1, ← t2]
              rw [if_neg (show ¬ v5 = -1 by assumption), ← t3]
              rw [if_neg (fun h => h (by assumption))]
              rw [← tt]
            rw [upS_on hk e9] at hq
            exact ih hk _ _ (by clear ih hq; grind) (by clear ih hq; grind) hq
          · change Q (some (.int (y + 2))) (z, N, qRow I 61 e, L, R)
            have hk : p < n := by clear ih hq; grind
            have e9 : gPc (tpA (I 10) (I 9 1)) p (y, e) = .inr (y + 2, e) := by
              unfold gPc
              dsimp only
              rw [← t0, if_neg (show ¬ v2 = 60 by assumption), if_pos (show v2 = 91 by assumption), ← t1, ← t2]
              rw [if_neg (show ¬ v5 = -1 by assumption), ← t3]
              exact if_pos (by assumption)
            rw [upS_out hk e9] at hq
            exact hq
        · change Q (some (.int (y + 1))) (z, N, qRow I 61 e, L, R)
          have hk : p < n := by clear ih hq; grind
          have e9 : gPc (tpA (I 10) (I 9 1)) p (y, e) = .inr (y + 1, e) := by
            unfold gPc
            dsimp only
            rw [← t0, if_neg (show ¬ v2 = 60 by assumption), if_pos (show v2 = 91 by assumption), ← t1, ← t2]
            exact if_pos (show v5 = -1 by assumption)
          rw [upS_out hk e9] at hq
          exact hq
    · refine ⟨fun _ => ?_, fun h => absurd h (by decide)⟩
      refine ⟨⟨Nat.le_refl _, Nat.le_refl _⟩, ?_⟩
      refine c_X8_byteAt hn fun v8 hv8 => ?_
      have t1 : v8 = tpA (I 10) (I 9 1) (y + 1) := hv8
      refine ⟨⟨Nat.le_refl _, Nat.le_refl _⟩, ?_⟩
      refine c_X3_letterShown fun v9 hv9 => ?_
      have t2 : v9 = shL v8 := hv9
      refine ⟨fun (c10 : ¬ v9 = (-1)) => ?_, fun (c10 : v9 = (-1)) => ?_⟩
      · refine ⟨⟨Nat.le_refl _, Nat.le_refl _⟩, ?_⟩
        refine c_X8_byteAt hn fun v10 hv10 => ?_
        have t3 : v10 = tpA (I 10) (I 9 1) (y + 2) := hv10
        refine ⟨fun (c11 : v10 = 62) => ?_, fun (c11 : ¬ v10 = 62) => ?_⟩
        · refine ⟨fun hx => absurd (show v2 = 60 from (by assumption)) hx, fun _ => ?_⟩
          refine ⟨⟨Nat.le_refl _, Nat.le_refl _⟩, ?_⟩
          refine c_X5_told (d := d + 1) hst fun v11 hv11 => ?_
          have tt : v11 = fTd 5 v9 := hv11
          refine ⟨?_, ?_⟩
          · exact vb (x := p) (N := 24) 24 (by decide) (by clear ih hq; grind) (by clear ih hq; grind)
          refine qJ_M (M2 := (z, N, qRow I 61 (uI e ((p).toNatClampNeg) v11), L, R)) (by (try dsimp only); (simp (decide := true) only [q2_qRow, q2_qRow2, q2_qRow3]) <;> rfl) ?_
          change qJ m_X3_parse (qWP _) Q 157 [(7, .int v9), (6, .int 62), (5, .int v2), (4, .int p), (3, .int y), (2, .int n), (1, .ref 9), (0, .ref 59)] [] _ _ (z, N, qRow I 61 (uI e ((p).toNatClampNeg) v11), L, R)
          refine qJ_run (qWP_mono _) [5, 73, 157] 400 ?_
          refine qJ_nm (qWP_mono _) [(7, _), (6, _), (5, _)] [(4, .int (p + 1)), (3, .int (y + 3)), (2, .int n), (1, .ref 9), (0, .ref 59)] rfl rfl rfl ?_
          have hk : p < n := by clear ih hq; grind
          have e9 : gPc (tpA (I 10) (I 9 1)) p (y, e) = .inl (y + 3, uI e ((p).toNatClampNeg) v11) := by
            unfold gPc
            dsimp only
            rw [← t0, if_pos (show v2 = 60 by assumption), ← t1, ← t2]
            rw [if_neg (show ¬ v9 = -1 by assumption), ← t3]
            rw [if_neg (fun h => h (by assumption))]
            rw [← tt]
          rw [upS_on hk e9] at hq
          exact ih hk _ _ (by clear ih hq; grind) (by clear ih hq; grind) hq
        · change Q (some (.int (y + 2))) (z, N, qRow I 61 e, L, R)
          have hk : p < n := by clear ih hq; grind
          have e9 : gPc (tpA (I 10) (I 9 1)) p (y, e) = .inr (y + 2, e) := by
            unfold gPc
            dsimp only
            rw [← t0, if_pos (show v2 = 60 by assumption), ← t1, ← t2]
            rw [if_neg (show ¬ v9 = -1 by assumption), ← t3]
            exact if_pos (by assumption)
          rw [upS_out hk e9] at hq
          exact hq
      · change Q (some (.int (y + 1))) (z, N, qRow I 61 e, L, R)
        have hk : p < n := by clear ih hq; grind
        have e9 : gPc (tpA (I 10) (I 9 1)) p (y, e) = .inr (y + 1, e) := by
          unfold gPc
          dsimp only
          rw [← t0, if_pos (show v2 = 60 by assumption), ← t1, ← t2]
          exact if_pos (show v9 = -1 by assumption)
        rw [upS_out hk e9] at hq
        exact hq
theorem c_X3_parse {d z : Nat} {N : Nat → Nat} {I : Nat → Nat → Int32} {L : Nat → Nat → Int64} {R : Nat → Nat → Option Nat} {Q : qP} {n : Int32} (hn : 0 ≤ I 9 1 ∧ I 9 1 ≤ 200) (hnn : 0 ≤ n ∧ n ≤ 24) (hst : qStat (z, N, I, L, R)) (h : ∀ v : Int32, v = (fPc (tpA (I 10) (I 9 1)) (I 9 1) n (I 61)).1 → Q (some (.int v)) (z, N, qRow I 61 (fPc (tpA (I 10) (I 9 1)) (I 9 1) n (I 61)).2, L, R)) : qWP (d + 4) 48 [.ref 59, .ref 9, .int n] (z, N, I, L, R) Q := by
  refine qWP_of m_X3_parse rfl rfl [(0, .ref 59), (1, .ref 9), (2, .int n)] rfl ?_
  refine qJ_run (qWP_mono _) [5] 400 ?_
  refine qJ_nm (qWP_mono _) [] [(4, .int 0), (3, .int 0), (2, .int n), (1, .ref 9), (0, .ref 59)] rfl rfl rfl ?_
  refine qJ_M (M2 := (z, N, qRow I 61 (I 61), L, R)) (by rw [qRow_self]) ?_
  exact l_X3_parse (d := d) hn hnn hst 0 0 _ (by decide) hnn.1 (h _ rfl)
def gBk (pr : Nat → Int32) (a s l k : Int32) (t : Nat → Int32) : Nat → Int32 := uI t (tIx a s l k).toNatClampNeg (pr k.toNatClampNeg)
def gBr (bk bm : Nat → Int32) (a s l k : Int32) (S : (Nat → Int32) × (Nat → Int32)) : (Nat → Int32) × (Nat → Int32) := (uI S.1 (tIx a s l k).toNatClampNeg (bk k.toNatClampNeg + 1), uI S.2 (tIx a s l k).toNatClampNeg (bm k.toNatClampNeg))
theorem back_rel {a s l n : Int32} {t kd my pr bk bm : Nat → Int32} (hn : 0 ≤ n) (h : RTo t kd my) (hr : okRow n pr bk bm) : RTo (upF n (gBk pr a s l) 0 t) (upF n (gBr bk bm a s l) 0 (kd, my)).1 (upF n (gBr bk bm a s l) 0 (kd, my)).2 :=
  upF_rel (fun _ (t : Nat → Int32) (S : (Nat → Int32) × (Nat → Int32)) => RTo t S.1 S.2) (fun k t S h0 h1 h => RTo_put h (hr k h0 h1).1) 0 t (kd, my) (by decide) hn h
theorem l_X11_back {d z : Nat} {N : Nat → Nat} {I : Nat → Nat → Int32} {L : Nat → Nat → Int64} {R : Nat → Nat → Option Nat} {Q : qP} {a s l n f : Int32} (ha : 0 ≤ a ∧ a < 6) (hs : 0 ≤ s ∧ s < 12) (hl : 0 ≤ l ∧ l < 4) (hn : 0 ≤ n ∧ n ≤ 24) : ∀ (k : Int32), ∀ t : Nat → Int32, 0 ≤ k → k ≤ n → Q (some (.int n)) (z, N, qRow I 8 (upF n (gBk (I 61) a s l) k t), L, R) → qJ m_X11_back (qWP (d + 2)) Q 73 [(6, .int k), (5, .int f), (4, .int n), (3, .int l), (2, .int s), (1, .int a), (0, .ref 2)] [] 0 0 (z, N, qRow I 8 t, L, R) := by
  refine up_ind (n) fun k ih => ?_
  intro t h0 h1 hq
  refine qJ_run (qWP_mono _) [73] 400 ?_
  refine ⟨fun (c1 : n ≤ k) => ?_, fun (c1 : ¬ n ≤ k) => ?_⟩
  · change Q (some (.int n)) (z, N, qRow I 8 t, L, R)
    rw [upF_ge (by clear ih hq; grind)] at hq
    exact hq
  · refine ⟨⟨Nat.le_refl _, Nat.le_refl _⟩, ?_⟩
    refine c_X3_parsedAt fun v1 hv1 => ?_
    obtain rfl : v1 = I 61 k.toNatClampNeg := hv1.trans (if_pos ⟨h0, by clear ih hq; grind⟩)
    refine ⟨⟨Nat.le_refl _, Nat.le_refl _⟩, ?_⟩
    refine c_X5_put (fun e1 e2 => ?_) (fun e => absurd (ix_rng ha ⟨hs, hl, h0, by clear ih hq; grind⟩) e)
    clear e1 e2
    rw [q2_qRow]
    have hk : k < n := by clear ih hq; grind
    rw [upF_on hk] at hq
    exact ih hk _ (by clear ih hq; grind) (by clear ih hq; grind) hq
theorem c_X11_back {d z : Nat} {N : Nat → Nat} {I : Nat → Nat → Int32} {L : Nat → Nat → Int64} {R : Nat → Nat → Option Nat} {Q : qP} {a : Int32} {s : Int32} {l : Int32} (hs : 0 ≤ I 3 2 ∧ I 3 2 ≤ 12) (hh : 0 ≤ I 6 2 ∧ I 6 2 ≤ 6) (hn : 0 ≤ I 9 1 ∧ I 9 1 ≤ 200) (hl : ∀ x : Int32, 0 ≤ x → x < I 3 2 → (1 ≤ I 4 x.toNatClampNeg ∧ I 4 x.toNatClampNeg ≤ 4) ∧ 1 ≤ I 5 x.toNatClampNeg ∧ I 5 x.toNatClampNeg ≤ 24) (hst : qStat (z, N, I, L, R)) (h0 : ¬ ((0 ≤ a ∧ a < I 6 2) ∧ (0 ≤ s ∧ s < I 3 2) ∧ 0 ≤ l ∧ l < I 4 s.toNatClampNeg) → Q (some (.int (-2))) (z, N, I, L, R)) (h1 : ((0 ≤ a ∧ a < I 6 2) ∧ (0 ≤ s ∧ s < I 3 2) ∧ 0 ≤ l ∧ l < I 4 s.toNatClampNeg) → ¬ (fPc (tpA (I 10) (I 9 1)) (I 9 1) (I 5 s.toNatClampNeg) (I 61)).1 = -1 → Q (some (.int (-20 - (fPc (tpA (I 10) (I 9 1)) (I 9 1) (I 5 s.toNatClampNeg) (I 61)).1))) (z, N, q2 (qRow I 61 (fPc (tpA (I 10) (I 9 1)) (I 9 1) (I 5 s.toNatClampNeg) (I 61)).2) 9 1 0, L, R)) (h2 : ((0 ≤ a ∧ a < I 6 2) ∧ (0 ≤ s ∧ s < I 3 2) ∧ 0 ≤ l ∧ l < I 4 s.toNatClampNeg) → (fPc (tpA (I 10) (I 9 1)) (I 9 1) (I 5 s.toNatClampNeg) (I 61)).1 = -1 → Q (some (.int (I 5 s.toNatClampNeg))) (z, N, qRow (q2 (qRow I 61 (fPc (tpA (I 10) (I 9 1)) (I 9 1) (I 5 s.toNatClampNeg) (I 61)).2) 9 1 0) 8 (upF (I 5 s.toNatClampNeg) (gBk (fPc (tpA (I 10) (I 9 1)) (I 9 1) (I 5 s.toNatClampNeg) (I 61)).2 a s l) 0 (I 8)), L, R)) : qWP (d + 5) 158 [.ref 2, .int a, .int s, .int l] (z, N, I, L, R) Q := by
  refine qWP_of m_X11_back rfl rfl [(0, .ref 2), (1, .int a), (2, .int s), (3, .int l)] rfl ?_
  refine qJ_run (qWP_mono _) [73] 400 ?_
  refine ⟨⟨Nat.le_refl _, Nat.le_refl _⟩, ?_⟩
  refine c_X5_hasHand hh fun v1 hv1 => ?_
  refine ⟨fun (c1 : v1 = 0) => ?_, fun (c1 : ¬ v1 = 0) => ?_⟩
  · change Q (some (.int (-2))) (z, N, I, L, R)
    exact h0 (by clear h0 h1 h2; grind)
  · refine ⟨⟨Nat.le_refl _, Nat.le_refl _⟩, ?_⟩
    refine c_X6_hasLine hs fun v2 hv2 => ?_
    refine ⟨fun (c2 : ¬ v2 = 0) => ?_, fun (c2 : v2 = 0) => ?_⟩
    · refine ⟨⟨Nat.le_refl _, Nat.le_refl _⟩, ?_⟩
      have hg : ((0 ≤ a ∧ a < I 6 2) ∧ (0 ≤ s ∧ s < I 3 2) ∧ 0 ≤ l ∧ l < I 4 s.toNatClampNeg) := by clear h0 h1 h2; grind
      have hls := hl s hg.2.1.1 hg.2.1.2
      refine c_X6_placesOf hs fun v3 hv3 => ?_
      obtain rfl : v3 = I 5 s.toNatClampNeg := hv3.trans (if_pos hg.2.1)
      refine ⟨⟨Nat.le_refl _, Nat.le_refl _⟩, ?_⟩
      refine c_X3_parse (d := d) hn ⟨by clear h0 h1 h2; grind, hls.2.2⟩ hst fun p1 hp1 => ?_
      refine ⟨⟨Nat.le_refl _, Nat.le_refl _⟩, ?_⟩
      refine c_X8_clear ?_
      refine ⟨fun (c3 : p1 = (-1)) => ?_, fun (c3 : ¬ p1 = (-1)) => ?_⟩
      · refine qJ_nm (qWP_mono _) [] [(6, .int 0), (5, .int p1), (4, .int (I 5 s.toNatClampNeg)), (3, .int l), (2, .int s), (1, .int a), (0, .ref 2)] rfl rfl rfl ?_
        refine qJ_M (M2 := (z, N, qRow (q2 (qRow I 61 (fPc (tpA (I 10) (I 9 1)) (I 9 1) (I 5 s.toNatClampNeg) (I 61)).2) 9 1 0) 8 (I 8), L, R)) (by (try dsimp only); rw [show I 8 = (q2 (qRow I 61 (fPc (tpA (I 10) (I 9 1)) (I 9 1) (I 5 s.toNatClampNeg) (I 61)).2) 9 1 0) 8 from by simp (decide := true) only [q2_ne, qRow_ne], qRow_self]) ?_
        have hh2 := h2 hg (by rw [← hp1]; assumption)
        refine l_X11_back (d := d + 2) (I := q2 (qRow I 61 (fPc (tpA (I 10) (I 9 1)) (I 9 1) (I 5 s.toNatClampNeg) (I 61)).2) 9 1 0) ⟨hg.1.1, by clear h0 h1 h2; grind⟩ ⟨hg.2.1.1, by clear h0 h1 h2; grind⟩ ⟨hg.2.2.1, by clear h0 h1 h2; grind⟩ ⟨by clear h0 h1 h2; grind, hls.2.2⟩ 0 _ (by decide) (by clear h0 h1 h2; grind) ?_
        have e8 : (q2 (qRow I 61 (fPc (tpA (I 10) (I 9 1)) (I 9 1) (I 5 s.toNatClampNeg) (I 61)).2) 9 1 0) 61 = (fPc (tpA (I 10) (I 9 1)) (I 9 1) (I 5 s.toNatClampNeg) (I 61)).2 := by simp (decide := true) only [q2_ne, qRow_at]
        rw [e8]
        exact hh2
      · change Q (some (.int ((-20) - p1))) (z, N, q2 (qRow I 61 ((fPc (tpA (I 10) (I 9 1)) (I 9 1) (I 5 s.toNatClampNeg) (I 61)).2)) 9 1 0, L, R)
        subst hp1
        exact h1 hg (by assumption)
    · change Q (some (.int (-2))) (z, N, I, L, R)
      exact h0 (by clear h0 h1 h2; grind)
theorem c_X12_bitOf {d z : Nat} {N : Nat → Nat} {I : Nat → Nat → Int32} {L : Nat → Nat → Int64} {R : Nat → Nat → Option Nat} {Q : qP} {b : Int32}  (h : ∀ v : Int32, v = bitO b → Q (some (.int v)) (z, N, I, L, R)) : qWP (d + 1) 238 [.int b] (z, N, I, L, R) Q := by
  refine qWP_of m_X12_bitOf rfl rfl [(0, .int b)] rfl ?_
  refine qJ_run (qWP_mono _) [] 400 ?_
  refine ⟨fun (c1 : ¬ b = 95) => ?_, fun (c1 : b = 95) => ?_⟩
  · change Q (some (.int ((1 : Int32) <<< ((b - 97) &&& 31)))) (z, N, I, L, R)
    refine h _ ?_
    unfold bitO
    first | rw [if_pos (by assumption)] | rw [if_neg (by assumption)]
  · change Q (some (.int ((1 : Int32) <<< (26 &&& 31)))) (z, N, I, L, R)
    refine h _ ?_
    unfold bitO
    first | rw [if_pos (by assumption)] | rw [if_neg (by assumption)]
theorem stp {y s : Int32} (hs : s ≤ 200) (h : 0 ≤ y ∧ y ≤ s) (hne : ¬ y = s) : 0 ≤ y + 1 ∧ y + 1 ≤ s := by
  have : y < s := by grind
  grind
theorem stl {y s : Int32} (hs : s ≤ 200) (h : 0 ≤ y ∧ y ≤ s) (hne : ¬ y = s) : y < 200 := by grind
set_option maxHeartbeats 16000000 in
theorem l_X12_backs {d z : Nat} {N : Nat → Nat} {I : Nat → Nat → Int32} {L : Nat → Nat → Int64} {R : Nat → Nat → Option Nat} {Q : qP} {n : Int32} (hn : 0 ≤ I 65 6 ∧ I 65 6 ≤ 200) (hnn : 0 ≤ n ∧ n ≤ 24) : ∀ (p : Int32), ∀ (y : Int32) (bk bm : Nat → Int32), 0 ≤ p → p ≤ n → (0 ≤ y ∧ y ≤ I 65 6) → Q (some (.int (upS n (gPr (I 69) (I 65 6)) (ePr (I 65 6) n) p (y, bk, bm)).1)) (z, N, qRow (qRow I 92 (upS n (gPr (I 69) (I 65 6)) (ePr (I 65 6) n) p (y, bk, bm)).2.1) 93 (upS n (gPr (I 69) (I 65 6)) (ePr (I 65 6) n) p (y, bk, bm)).2.2, L, R) → qJ m_X12_backs (qWP (d + 2)) Q 4 [(3, .int p), (2, .int y), (1, .int n), (0, .ref 65)] [] 0 0 (z, N, qRow (qRow I 92 bk) 93 bm, L, R) := by
  refine up_ind (n) fun p ih => ?_
  intro y bk bm h0 h1 hy hq
  refine qJ_run (qWP_mono _) [4, 134, 158, 216] 400 ?_
  refine ⟨fun (c1 : n ≤ p) => ?_, fun (c1 : ¬ n ≤ p) => ?_⟩
  · refine ⟨fun (c2 : (I 65 6) ≤ y) => ?_, fun (c2 : ¬ (I 65 6) ≤ y) => ?_⟩
    · change Q (some (.int n)) (z, N, qRow (qRow I 92 bk) 93 bm, L, R)
      rw [upS_ge (Int32.not_lt.mpr c1)] at hq
      unfold ePr at hq
      dsimp only at hq
      rw [if_neg (show ¬ y < I 65 6 from Int32.not_lt.mpr c2)] at hq
      exact hq
    · change Q (some (.int ((-20) - y))) (z, N, qRow (qRow I 92 bk) 93 bm, L, R)
      rw [upS_ge (Int32.not_lt.mpr c1)] at hq
      unfold ePr at hq
      dsimp only at hq
      rw [if_pos (show y < I 65 6 from Int32.not_le.mp c2)] at hq
      exact hq
  · refine ⟨fun (c3 : ¬ y = (I 65 6)) => ?_, fun (c3 : y = (I 65 6)) => ?_⟩
    · refine ⟨?_, ?_⟩
      · exact vb (N := 200) 200 (by decide) hy.1 (stl hn.2 hy c3)
      refine ⟨fun (c4 : (I 69 ((y).toNatClampNeg)) = 60) => ?_, fun (c4 : ¬ (I 69 ((y).toNatClampNeg)) = 60) => ?_⟩
      · refine ⟨⟨Nat.le_refl _, Nat.le_refl _⟩, ?_⟩
        refine c_X12_isSign fun v1 hv1 => ?_
        replace hv1 : v1 = if ((97 ≤ (I 69 ((y).toNatClampNeg)) ∧ (I 69 ((y).toNatClampNeg)) ≤ 122) ∨ (I 69 ((y).toNatClampNeg)) = 95) then 1 else 0 := hv1
        refine ⟨fun hx => absurd (show v1 = 0 from (by clear ih hq h0 h1 hy hn hnn c1 c3; grind)) hx, fun _ => ?_⟩
        refine ⟨fun _ => ?_, fun h => absurd h (by decide)⟩
        refine ⟨⟨Nat.le_refl _, Nat.le_refl _⟩, ?_⟩
        refine c_X12_isSign fun v2 hv2 => ?_
        replace hv2 : v2 = if ((97 ≤ (I 69 ((y).toNatClampNeg)) ∧ (I 69 ((y).toNatClampNeg)) ≤ 122) ∨ (I 69 ((y).toNatClampNeg)) = 95) then 1 else 0 := hv2
        refine br_t (show v2 = 0 from (by clear ih hq h0 h1 hy hn hnn c1 c3; grind)) ?_
        refine ⟨fun hx => absurd (show (I 69 ((y).toNatClampNeg)) = 60 from (by clear ih hq h0 h1 hy hn hnn c1 c3; grind)) hx, fun _ => ?_⟩
        refine ⟨?_, ?_⟩
        · exact vb (N := 24) 24 (by decide) h0 (Int32.lt_of_lt_of_le (Int32.not_le.mp c1) hnn.2)
        refine qJ_M (M2 := (z, N, qRow (qRow I 92 (uI bk ((p).toNatClampNeg) 5)) 93 bm, L, R)) (by (try dsimp only); (simp (decide := true) only [q2_qRow, q2_qRow2, q2_qRow3]) <;> rfl) ?_
        change qJ m_X12_backs (qWP _) Q 134 [(5, .int 1), (4, .int (I 69 ((y).toNatClampNeg))), (3, .int p), (2, .int y), (1, .int n), (0, .ref 65)] [] _ _ (z, N, qRow (qRow I 92 (uI bk ((p).toNatClampNeg) 5)) 93 bm, L, R)
        refine qJ_run (qWP_mono _) [4, 134, 158, 216] 400 ?_
        refine ⟨⟨Nat.le_refl _, Nat.le_refl _⟩, ?_⟩
        refine c_X12_isSign fun v3 hv3 => ?_
        replace hv3 : v3 = if ((97 ≤ (I 69 ((y).toNatClampNeg)) ∧ (I 69 ((y).toNatClampNeg)) ≤ 122) ∨ (I 69 ((y).toNatClampNeg)) = 95) then 1 else 0 := hv3
        refine br_t (show v3 = 0 from (by clear ih hq h0 h1 hy hn hnn c1 c3; grind)) ?_
        refine ⟨?_, ?_⟩
        · exact vb (N := 24) 24 (by decide) h0 (Int32.lt_of_lt_of_le (Int32.not_le.mp c1) hnn.2)
        refine qJ_M (M2 := (z, N, qRow (qRow I 92 (uI bk ((p).toNatClampNeg) 5)) 93 (uI bm ((p).toNatClampNeg) 134217727), L, R)) (by (try dsimp only); (simp (decide := true) only [q2_qRow, q2_qRow2, q2_qRow3]) <;> rfl) ?_
        change qJ m_X12_backs (qWP _) Q 158 [(5, .int 1), (4, .int (I 69 ((y).toNatClampNeg))), (3, .int p), (2, .int y), (1, .int n), (0, .ref 65)] [] _ _ (z, N, qRow (qRow I 92 (uI bk ((p).toNatClampNeg) 5)) 93 (uI bm ((p).toNatClampNeg) 134217727), L, R)
        refine qJ_run (qWP_mono _) [4, 134, 158, 216] 400 ?_
        refine ⟨fun _ => ?_, fun h => absurd h (by decide)⟩
        refine ⟨fun (c9 : (y + 1) = (I 65 6)) => ?_, fun (c9 : ¬ (y + 1) = (I 65 6)) => ?_⟩
        · change Q (some (.int ((-20) - (y + 1)))) (z, N, qRow (qRow I 92 (uI bk ((p).toNatClampNeg) 5)) 93 (uI bm ((p).toNatClampNeg) 134217727), L, R)
          have hk : p < n := Int32.not_le.mp c1
          have e9 : gPr (I 69) (I 65 6) p (y, bk, bm) = .inr ((-20) - (y + 1), uI bk ((p).toNatClampNeg) 5, uI bm ((p).toNatClampNeg) 134217727) := by
            unfold gPr
            dsimp only
            rw [if_neg (show ¬ y = I 65 6 from c3), if_neg (show ¬ ((97 ≤ I 69 y.toNatClampNeg ∧ I 69 y.toNatClampNeg ≤ 122) ∨ I 69 y.toNatClampNeg = 95) by clear ih hq h0 h1 hy hn hnn c1 c3 c9; grind), if_neg (show ¬ (I 69 y.toNatClampNeg = 63 ∨ I 69 y.toNatClampNeg = 45) by clear ih hq h0 h1 hy hn hnn c1 c3 c9; grind), if_neg (show ¬ I 69 y.toNatClampNeg = 35 by clear ih hq h0 h1 hy hn hnn c1 c3 c9; grind), if_pos (show I 69 y.toNatClampNeg = 60 by clear ih hq h0 h1 hy hn hnn c1 c3 c9; grind), if_pos (show y + 1 = I 65 6 ∨ ¬ ((97 ≤ I 69 (y + 1).toNatClampNeg ∧ I 69 (y + 1).toNatClampNeg ≤ 122) ∨ I 69 (y + 1).toNatClampNeg = 95) from Or.inl c9)]
          rw [upS_out hk e9] at hq
          exact hq
        · refine ⟨?_, ?_⟩
          · exact vb (N := 200) 200 (by decide) (stp hn.2 hy c3).1 (stl hn.2 (stp hn.2 hy c3) c9)
          refine ⟨⟨Nat.le_refl _, Nat.le_refl _⟩, ?_⟩
          refine c_X12_isSign fun v4 hv4 => ?_
          replace hv4 : v4 = if ((97 ≤ (I 69 ((y + 1).toNatClampNeg)) ∧ (I 69 ((y + 1).toNatClampNeg)) ≤ 122) ∨ (I 69 ((y + 1).toNatClampNeg)) = 95) then 1 else 0 := hv4
          refine ⟨fun (c10 : ¬ v4 = 0) => ?_, fun (c10 : v4 = 0) => ?_⟩
          · refine ⟨fun hx => absurd (show (I 69 ((y).toNatClampNeg)) = 60 from (by clear ih hq h0 h1 hy hn hnn c1 c3 c9; grind)) hx, fun _ => ?_⟩
            refine ⟨?_, ?_⟩
            · exact vb (N := 200) 200 (by decide) (stp hn.2 hy c3).1 (stl hn.2 (stp hn.2 hy c3) c9)
            refine ⟨⟨Nat.le_refl _, Nat.le_refl _⟩, ?_⟩
            refine c_X12_bitOf fun v5 hv5 => ?_
            obtain rfl : v5 = bitO (I 69 ((y + 1).toNatClampNeg)) := hv5
            refine ⟨?_, ?_⟩
            · exact vb (N := 24) 24 (by decide) h0 (Int32.lt_of_lt_of_le (Int32.not_le.mp c1) hnn.2)
            refine qJ_M (M2 := (z, N, qRow (qRow I 92 (uI bk ((p).toNatClampNeg) 5)) 93 (uI (uI bm ((p).toNatClampNeg) 134217727) ((p).toNatClampNeg) (bitO (I 69 ((y + 1).toNatClampNeg)))), L, R)) (by (try dsimp only); (simp (decide := true) only [q2_qRow, q2_qRow2, q2_qRow3]) <;> rfl) ?_
            change qJ m_X12_backs (qWP _) Q 216 [(2, .int (y + 1)), (5, .int 1), (4, .int (I 69 ((y).toNatClampNeg))), (3, .int p), (1, .int n), (0, .ref 65)] [] _ _ (z, N, qRow (qRow I 92 (uI bk ((p).toNatClampNeg) 5)) 93 (uI (uI bm ((p).toNatClampNeg) 134217727) ((p).toNatClampNeg) (bitO (I 69 ((y + 1).toNatClampNeg)))), L, R)
            refine qJ_run (qWP_mono _) [4, 134, 158, 216] 400 ?_
            refine ⟨fun (c12 : ((y + 1) + 1) = (I 65 6)) => ?_, fun (c12 : ¬ ((y + 1) + 1) = (I 65 6)) => ?_⟩
            · change Q (some (.int ((-20) - ((y + 1) + 1)))) (z, N, qRow (qRow I 92 (uI bk ((p).toNatClampNeg) 5)) 93 (uI (uI bm ((p).toNatClampNeg) 134217727) ((p).toNatClampNeg) (bitO (I 69 ((y + 1).toNatClampNeg)))), L, R)
              have hk : p < n := Int32.not_le.mp c1
              have e9 : gPr (I 69) (I 65 6) p (y, bk, bm) = .inr ((-20) - ((y + 1) + 1), uI bk ((p).toNatClampNeg) 5, uI (uI bm ((p).toNatClampNeg) 134217727) ((p).toNatClampNeg) (bitO (I 69 ((y + 1).toNatClampNeg)))) := by
                unfold gPr
                dsimp only
                rw [if_neg (show ¬ y = I 65 6 from c3), if_neg (show ¬ ((97 ≤ I 69 y.toNatClampNeg ∧ I 69 y.toNatClampNeg ≤ 122) ∨ I 69 y.toNatClampNeg = 95) by clear ih hq h0 h1 hy hn hnn c1 c3 c9 c12; grind), if_neg (show ¬ (I 69 y.toNatClampNeg = 63 ∨ I 69 y.toNatClampNeg = 45) by clear ih hq h0 h1 hy hn hnn c1 c3 c9 c12; grind), if_neg (show ¬ I 69 y.toNatClampNeg = 35 by clear ih hq h0 h1 hy hn hnn c1 c3 c9 c12; grind), if_pos (show I 69 y.toNatClampNeg = 60 by clear ih hq h0 h1 hy hn hnn c1 c3 c9 c12; grind), if_neg (show ¬ (y + 1 = I 65 6 ∨ ¬ ((97 ≤ I 69 (y + 1).toNatClampNeg ∧ I 69 (y + 1).toNatClampNeg ≤ 122) ∨ I 69 (y + 1).toNatClampNeg = 95)) from fun h => h.elim c9 (fun h2 => h2 (by clear ih hq h0 h1 hy hn hnn c1 c3 c9 c12; grind))), if_pos (show y + 1 + 1 = I 65 6 ∨ ¬ I 69 (y + 1 + 1).toNatClampNeg = 62 from Or.inl c12)]
              rw [upS_out hk e9] at hq
              exact hq
            · refine ⟨?_, ?_⟩
              · exact vb (N := 200) 200 (by decide) (stp hn.2 (stp hn.2 hy c3) c9).1 (stl hn.2 (stp hn.2 (stp hn.2 hy c3) c9) c12)
              refine ⟨fun hx => absurd (show (I 69 ((y).toNatClampNeg)) = 60 from (by clear ih hq h0 h1 hy hn hnn c1 c3 c9 c12; grind)) hx, fun _ => ?_⟩
              refine ⟨fun (c14 : (I 69 (((y + 1) + 1).toNatClampNeg)) = 62) => ?_, fun (c14 : ¬ (I 69 (((y + 1) + 1).toNatClampNeg)) = 62) => ?_⟩
              · refine qJ_nm (qWP_mono _) [(5, _), (4, _)] [(3, .int (p + 1)), (2, .int (((y + 1) + 1) + 1)), (1, .int n), (0, .ref 65)] rfl rfl rfl ?_
                have hk : p < n := Int32.not_le.mp c1
                have e9 : gPr (I 69) (I 65 6) p (y, bk, bm) = .inl (((y + 1) + 1) + 1, uI bk ((p).toNatClampNeg) 5, uI (uI bm ((p).toNatClampNeg) 134217727) ((p).toNatClampNeg) (bitO (I 69 ((y + 1).toNatClampNeg)))) := by
                  unfold gPr
                  dsimp only
                  rw [if_neg (show ¬ y = I 65 6 from c3), if_neg (show ¬ ((97 ≤ I 69 y.toNatClampNeg ∧ I 69 y.toNatClampNeg ≤ 122) ∨ I 69 y.toNatClampNeg = 95) by clear ih hq h0 h1 hy hn hnn c1 c3 c9 c12; grind), if_neg (show ¬ (I 69 y.toNatClampNeg = 63 ∨ I 69 y.toNatClampNeg = 45) by clear ih hq h0 h1 hy hn hnn c1 c3 c9 c12; grind), if_neg (show ¬ I 69 y.toNatClampNeg = 35 by clear ih hq h0 h1 hy hn hnn c1 c3 c9 c12; grind), if_pos (show I 69 y.toNatClampNeg = 60 by clear ih hq h0 h1 hy hn hnn c1 c3 c9 c12; grind), if_neg (show ¬ (y + 1 = I 65 6 ∨ ¬ ((97 ≤ I 69 (y + 1).toNatClampNeg ∧ I 69 (y + 1).toNatClampNeg ≤ 122) ∨ I 69 (y + 1).toNatClampNeg = 95)) from fun h => h.elim c9 (fun h2 => h2 (by clear ih hq h0 h1 hy hn hnn c1 c3 c9 c12; grind))), if_neg (show ¬ (y + 1 + 1 = I 65 6 ∨ ¬ I 69 (y + 1 + 1).toNatClampNeg = 62) from fun h => h.elim c12 (fun h2 => h2 c14))]
                rw [upS_on hk e9] at hq
                exact ih hk _ _ _ (by clear ih hq hy; grind) (by clear ih hq hy; grind) (stp hn.2 (stp hn.2 (stp hn.2 hy c3) c9) c12) hq
              · change Q (some (.int ((-20) - ((y + 1) + 1)))) (z, N, qRow (qRow I 92 (uI bk ((p).toNatClampNeg) 5)) 93 (uI (uI bm ((p).toNatClampNeg) 134217727) ((p).toNatClampNeg) (bitO (I 69 ((y + 1).toNatClampNeg)))), L, R)
                have hk : p < n := Int32.not_le.mp c1
                have e9 : gPr (I 69) (I 65 6) p (y, bk, bm) = .inr ((-20) - ((y + 1) + 1), uI bk ((p).toNatClampNeg) 5, uI (uI bm ((p).toNatClampNeg) 134217727) ((p).toNatClampNeg) (bitO (I 69 ((y + 1).toNatClampNeg)))) := by
                  unfold gPr
                  dsimp only
                  rw [if_neg (show ¬ y = I 65 6 from c3), if_neg (show ¬ ((97 ≤ I 69 y.toNatClampNeg ∧ I 69 y.toNatClampNeg ≤ 122) ∨ I 69 y.toNatClampNeg = 95) by clear ih hq h0 h1 hy hn hnn c1 c3 c9 c12; grind), if_neg (show ¬ (I 69 y.toNatClampNeg = 63 ∨ I 69 y.toNatClampNeg = 45) by clear ih hq h0 h1 hy hn hnn c1 c3 c9 c12; grind), if_neg (show ¬ I 69 y.toNatClampNeg = 35 by clear ih hq h0 h1 hy hn hnn c1 c3 c9 c12; grind), if_pos (show I 69 y.toNatClampNeg = 60 by clear ih hq h0 h1 hy hn hnn c1 c3 c9 c12; grind), if_neg (show ¬ (y + 1 = I 65 6 ∨ ¬ ((97 ≤ I 69 (y + 1).toNatClampNeg ∧ I 69 (y + 1).toNatClampNeg ≤ 122) ∨ I 69 (y + 1).toNatClampNeg = 95)) from fun h => h.elim c9 (fun h2 => h2 (by clear ih hq h0 h1 hy hn hnn c1 c3 c9 c12; grind))), if_pos (show y + 1 + 1 = I 65 6 ∨ ¬ I 69 (y + 1 + 1).toNatClampNeg = 62 from Or.inr c14)]
                rw [upS_out hk e9] at hq
                exact hq
          · change Q (some (.int ((-20) - (y + 1)))) (z, N, qRow (qRow I 92 (uI bk ((p).toNatClampNeg) 5)) 93 (uI bm ((p).toNatClampNeg) 134217727), L, R)
            have hk : p < n := Int32.not_le.mp c1
            have e9 : gPr (I 69) (I 65 6) p (y, bk, bm) = .inr ((-20) - (y + 1), uI bk ((p).toNatClampNeg) 5, uI bm ((p).toNatClampNeg) 134217727) := by
              unfold gPr
              dsimp only
              rw [if_neg (show ¬ y = I 65 6 from c3), if_neg (show ¬ ((97 ≤ I 69 y.toNatClampNeg ∧ I 69 y.toNatClampNeg ≤ 122) ∨ I 69 y.toNatClampNeg = 95) by clear ih hq h0 h1 hy hn hnn c1 c3 c9; grind), if_neg (show ¬ (I 69 y.toNatClampNeg = 63 ∨ I 69 y.toNatClampNeg = 45) by clear ih hq h0 h1 hy hn hnn c1 c3 c9; grind), if_neg (show ¬ I 69 y.toNatClampNeg = 35 by clear ih hq h0 h1 hy hn hnn c1 c3 c9; grind), if_pos (show I 69 y.toNatClampNeg = 60 by clear ih hq h0 h1 hy hn hnn c1 c3 c9; grind), if_pos (show y + 1 = I 65 6 ∨ ¬ ((97 ≤ I 69 (y + 1).toNatClampNeg ∧ I 69 (y + 1).toNatClampNeg ≤ 122) ∨ I 69 (y + 1).toNatClampNeg = 95) from Or.inr (by clear ih hq h0 h1 hy hn hnn c1 c3 c9; grind))]
            rw [upS_out hk e9] at hq
            exact hq
      · refine ⟨fun (c15 : ¬ (I 69 ((y).toNatClampNeg)) = 91) => ?_, fun (c15 : (I 69 ((y).toNatClampNeg)) = 91) => ?_⟩
        · refine ⟨⟨Nat.le_refl _, Nat.le_refl _⟩, ?_⟩
          refine c_X12_isSign fun v6 hv6 => ?_
          replace hv6 : v6 = if ((97 ≤ (I 69 ((y).toNatClampNeg)) ∧ (I 69 ((y).toNatClampNeg)) ≤ 122) ∨ (I 69 ((y).toNatClampNeg)) = 95) then 1 else 0 := hv6
          refine ⟨fun (c16 : ¬ v6 = 0) => ?_, fun (c16 : v6 = 0) => ?_⟩
          · refine ⟨⟨Nat.le_refl _, Nat.le_refl _⟩, ?_⟩
            refine c_X12_isSign fun v7 hv7 => ?_
            replace hv7 : v7 = if ((97 ≤ (I 69 ((y).toNatClampNeg)) ∧ (I 69 ((y).toNatClampNeg)) ≤ 122) ∨ (I 69 ((y).toNatClampNeg)) = 95) then 1 else 0 := hv7
            refine br_f (show ¬ v7 = 0 from (by clear ih hq h0 h1 hy hn hnn c1 c3; grind)) ?_
            refine ⟨?_, ?_⟩
            · exact vb (N := 24) 24 (by decide) h0 (Int32.lt_of_lt_of_le (Int32.not_le.mp c1) hnn.2)
            refine qJ_M (M2 := (z, N, qRow (qRow I 92 (uI bk ((p).toNatClampNeg) 0)) 93 bm, L, R)) (by (try dsimp only); (simp (decide := true) only [q2_qRow, q2_qRow2, q2_qRow3]) <;> rfl) ?_
            change qJ m_X12_backs (qWP _) Q 134 [(5, .int 0), (4, .int (I 69 ((y).toNatClampNeg))), (3, .int p), (2, .int y), (1, .int n), (0, .ref 65)] [] _ _ (z, N, qRow (qRow I 92 (uI bk ((p).toNatClampNeg) 0)) 93 bm, L, R)
            refine qJ_run (qWP_mono _) [4, 134, 158, 216] 400 ?_
            refine ⟨⟨Nat.le_refl _, Nat.le_refl _⟩, ?_⟩
            refine c_X12_isSign fun v8 hv8 => ?_
            replace hv8 : v8 = if ((97 ≤ (I 69 ((y).toNatClampNeg)) ∧ (I 69 ((y).toNatClampNeg)) ≤ 122) ∨ (I 69 ((y).toNatClampNeg)) = 95) then 1 else 0 := hv8
            refine br_f (show ¬ v8 = 0 from (by clear ih hq h0 h1 hy hn hnn c1 c3; grind)) ?_
            refine ⟨⟨Nat.le_refl _, Nat.le_refl _⟩, ?_⟩
            refine c_X12_bitOf fun v9 hv9 => ?_
            obtain rfl : v9 = bitO (I 69 ((y).toNatClampNeg)) := hv9
            refine ⟨?_, ?_⟩
            · exact vb (N := 24) 24 (by decide) h0 (Int32.lt_of_lt_of_le (Int32.not_le.mp c1) hnn.2)
            refine qJ_M (M2 := (z, N, qRow (qRow I 92 (uI bk ((p).toNatClampNeg) 0)) 93 (uI bm ((p).toNatClampNeg) (bitO (I 69 ((y).toNatClampNeg)))), L, R)) (by (try dsimp only); (simp (decide := true) only [q2_qRow, q2_qRow2, q2_qRow3]) <;> rfl) ?_
            change qJ m_X12_backs (qWP _) Q 158 [(5, .int 0), (4, .int (I 69 ((y).toNatClampNeg))), (3, .int p), (2, .int y), (1, .int n), (0, .ref 65)] [] _ _ (z, N, qRow (qRow I 92 (uI bk ((p).toNatClampNeg) 0)) 93 (uI bm ((p).toNatClampNeg) (bitO (I 69 ((y).toNatClampNeg)))), L, R)
            refine qJ_run (qWP_mono _) [4, 134, 158, 216] 400 ?_
            refine ⟨fun h => absurd h (by decide), fun _ => ?_⟩
            refine qJ_nm (qWP_mono _) [(5, _), (4, _)] [(3, .int (p + 1)), (2, .int (y + 1)), (1, .int n), (0, .ref 65)] rfl rfl rfl ?_
            have hk : p < n := Int32.not_le.mp c1
            have e9 : gPr (I 69) (I 65 6) p (y, bk, bm) = .inl (y + 1, uI bk ((p).toNatClampNeg) 0, uI bm ((p).toNatClampNeg) (bitO (I 69 ((y).toNatClampNeg)))) := by
              unfold gPr
              dsimp only
              rw [if_neg (show ¬ y = I 65 6 from c3), if_pos (show ((97 ≤ I 69 y.toNatClampNeg ∧ I 69 y.toNatClampNeg ≤ 122) ∨ I 69 y.toNatClampNeg = 95) by clear ih hq h0 h1 hy hn hnn c1 c3; grind)]
            rw [upS_on hk e9] at hq
            exact ih hk _ _ _ (by clear ih hq hy; grind) (by clear ih hq hy; grind) (stp hn.2 hy c3) hq
          · refine ⟨fun h => absurd h (by decide), fun _ => ?_⟩
            refine ⟨fun (c19 : (I 69 ((y).toNatClampNeg)) = 63) => ?_, fun (c19 : ¬ (I 69 ((y).toNatClampNeg)) = 63) => ?_⟩
            · refine ⟨⟨Nat.le_refl _, Nat.le_refl _⟩, ?_⟩
              refine c_X12_isSign fun v10 hv10 => ?_
              replace hv10 : v10 = if ((97 ≤ (I 69 ((y).toNatClampNeg)) ∧ (I 69 ((y).toNatClampNeg)) ≤ 122) ∨ (I 69 ((y).toNatClampNeg)) = 95) then 1 else 0 := hv10
              refine br_t (show v10 = 0 from (by clear ih hq h0 h1 hy hn hnn c1 c3; grind)) ?_
              refine ⟨fun _ => ?_, fun hx => absurd hx (show ¬ (I 69 ((y).toNatClampNeg)) = 60 from (by clear ih hq h0 h1 hy hn hnn c1 c3; grind))⟩
              refine ⟨fun _ => ?_, fun hx => absurd hx (show ¬ (I 69 ((y).toNatClampNeg)) = 35 from (by clear ih hq h0 h1 hy hn hnn c1 c3; grind))⟩
              refine ⟨?_, ?_⟩
              · exact vb (N := 24) 24 (by decide) h0 (Int32.lt_of_lt_of_le (Int32.not_le.mp c1) hnn.2)
              refine qJ_M (M2 := (z, N, qRow (qRow I 92 (uI bk ((p).toNatClampNeg) 3)) 93 bm, L, R)) (by (try dsimp only); (simp (decide := true) only [q2_qRow, q2_qRow2, q2_qRow3]) <;> rfl) ?_
              change qJ m_X12_backs (qWP _) Q 134 [(5, .int 0), (4, .int (I 69 ((y).toNatClampNeg))), (3, .int p), (2, .int y), (1, .int n), (0, .ref 65)] [] _ _ (z, N, qRow (qRow I 92 (uI bk ((p).toNatClampNeg) 3)) 93 bm, L, R)
              refine qJ_run (qWP_mono _) [4, 134, 158, 216] 400 ?_
              refine ⟨⟨Nat.le_refl _, Nat.le_refl _⟩, ?_⟩
              refine c_X12_isSign fun v11 hv11 => ?_
              replace hv11 : v11 = if ((97 ≤ (I 69 ((y).toNatClampNeg)) ∧ (I 69 ((y).toNatClampNeg)) ≤ 122) ∨ (I 69 ((y).toNatClampNeg)) = 95) then 1 else 0 := hv11
              refine br_t (show v11 = 0 from (by clear ih hq h0 h1 hy hn hnn c1 c3; grind)) ?_
              refine ⟨?_, ?_⟩
              · exact vb (N := 24) 24 (by decide) h0 (Int32.lt_of_lt_of_le (Int32.not_le.mp c1) hnn.2)
              refine qJ_M (M2 := (z, N, qRow (qRow I 92 (uI bk ((p).toNatClampNeg) 3)) 93 (uI bm ((p).toNatClampNeg) 134217727), L, R)) (by (try dsimp only); (simp (decide := true) only [q2_qRow, q2_qRow2, q2_qRow3]) <;> rfl) ?_
              change qJ m_X12_backs (qWP _) Q 158 [(5, .int 0), (4, .int (I 69 ((y).toNatClampNeg))), (3, .int p), (2, .int y), (1, .int n), (0, .ref 65)] [] _ _ (z, N, qRow (qRow I 92 (uI bk ((p).toNatClampNeg) 3)) 93 (uI bm ((p).toNatClampNeg) 134217727), L, R)
              refine qJ_run (qWP_mono _) [4, 134, 158, 216] 400 ?_
              refine ⟨fun h => absurd h (by decide), fun _ => ?_⟩
              refine qJ_nm (qWP_mono _) [(5, _), (4, _)] [(3, .int (p + 1)), (2, .int (y + 1)), (1, .int n), (0, .ref 65)] rfl rfl rfl ?_
              have hk : p < n := Int32.not_le.mp c1
              have e9 : gPr (I 69) (I 65 6) p (y, bk, bm) = .inl (y + 1, uI bk ((p).toNatClampNeg) 3, uI bm ((p).toNatClampNeg) 134217727) := by
                unfold gPr
                dsimp only
                rw [if_neg (show ¬ y = I 65 6 from c3), if_neg (show ¬ ((97 ≤ I 69 y.toNatClampNeg ∧ I 69 y.toNatClampNeg ≤ 122) ∨ I 69 y.toNatClampNeg = 95) by clear ih hq h0 h1 hy hn hnn c1 c3; grind), if_pos (show I 69 y.toNatClampNeg = 63 ∨ I 69 y.toNatClampNeg = 45 by clear ih hq h0 h1 hy hn hnn c1 c3; grind)]
              rw [upS_on hk e9] at hq
              exact ih hk _ _ _ (by clear ih hq hy; grind) (by clear ih hq hy; grind) (stp hn.2 hy c3) hq
            · refine ⟨fun (c24 : (I 69 ((y).toNatClampNeg)) = 45) => ?_, fun (c24 : ¬ (I 69 ((y).toNatClampNeg)) = 45) => ?_⟩
              · refine ⟨⟨Nat.le_refl _, Nat.le_refl _⟩, ?_⟩
                refine c_X12_isSign fun v12 hv12 => ?_
                replace hv12 : v12 = if ((97 ≤ (I 69 ((y).toNatClampNeg)) ∧ (I 69 ((y).toNatClampNeg)) ≤ 122) ∨ (I 69 ((y).toNatClampNeg)) = 95) then 1 else 0 := hv12
                refine br_t (show v12 = 0 from (by clear ih hq h0 h1 hy hn hnn c1 c3; grind)) ?_
                refine ⟨fun _ => ?_, fun hx => absurd hx (show ¬ (I 69 ((y).toNatClampNeg)) = 60 from (by clear ih hq h0 h1 hy hn hnn c1 c3; grind))⟩
                refine ⟨fun _ => ?_, fun hx => absurd hx (show ¬ (I 69 ((y).toNatClampNeg)) = 35 from (by clear ih hq h0 h1 hy hn hnn c1 c3; grind))⟩
                refine ⟨?_, ?_⟩
                · exact vb (N := 24) 24 (by decide) h0 (Int32.lt_of_lt_of_le (Int32.not_le.mp c1) hnn.2)
                refine qJ_M (M2 := (z, N, qRow (qRow I 92 (uI bk ((p).toNatClampNeg) 3)) 93 bm, L, R)) (by (try dsimp only); (simp (decide := true) only [q2_qRow, q2_qRow2, q2_qRow3]) <;> rfl) ?_
                change qJ m_X12_backs (qWP _) Q 134 [(5, .int 0), (4, .int (I 69 ((y).toNatClampNeg))), (3, .int p), (2, .int y), (1, .int n), (0, .ref 65)] [] _ _ (z, N, qRow (qRow I 92 (uI bk ((p).toNatClampNeg) 3)) 93 bm, L, R)
                refine qJ_run (qWP_mono _) [4, 134, 158, 216] 400 ?_
                refine ⟨⟨Nat.le_refl _, Nat.le_refl _⟩, ?_⟩
                refine c_X12_isSign fun v13 hv13 => ?_
                replace hv13 : v13 = if ((97 ≤ (I 69 ((y).toNatClampNeg)) ∧ (I 69 ((y).toNatClampNeg)) ≤ 122) ∨ (I 69 ((y).toNatClampNeg)) = 95) then 1 else 0 := hv13
                refine br_t (show v13 = 0 from (by clear ih hq h0 h1 hy hn hnn c1 c3; grind)) ?_
                refine ⟨?_, ?_⟩
                · exact vb (N := 24) 24 (by decide) h0 (Int32.lt_of_lt_of_le (Int32.not_le.mp c1) hnn.2)
                refine qJ_M (M2 := (z, N, qRow (qRow I 92 (uI bk ((p).toNatClampNeg) 3)) 93 (uI bm ((p).toNatClampNeg) 134217727), L, R)) (by (try dsimp only); (simp (decide := true) only [q2_qRow, q2_qRow2, q2_qRow3]) <;> rfl) ?_
                change qJ m_X12_backs (qWP _) Q 158 [(5, .int 0), (4, .int (I 69 ((y).toNatClampNeg))), (3, .int p), (2, .int y), (1, .int n), (0, .ref 65)] [] _ _ (z, N, qRow (qRow I 92 (uI bk ((p).toNatClampNeg) 3)) 93 (uI bm ((p).toNatClampNeg) 134217727), L, R)
                refine qJ_run (qWP_mono _) [4, 134, 158, 216] 400 ?_
                refine ⟨fun h => absurd h (by decide), fun _ => ?_⟩
                refine qJ_nm (qWP_mono _) [(5, _), (4, _)] [(3, .int (p + 1)), (2, .int (y + 1)), (1, .int n), (0, .ref 65)] rfl rfl rfl ?_
                have hk : p < n := Int32.not_le.mp c1
                have e9 : gPr (I 69) (I 65 6) p (y, bk, bm) = .inl (y + 1, uI bk ((p).toNatClampNeg) 3, uI bm ((p).toNatClampNeg) 134217727) := by
                  unfold gPr
                  dsimp only
                  rw [if_neg (show ¬ y = I 65 6 from c3), if_neg (show ¬ ((97 ≤ I 69 y.toNatClampNeg ∧ I 69 y.toNatClampNeg ≤ 122) ∨ I 69 y.toNatClampNeg = 95) by clear ih hq h0 h1 hy hn hnn c1 c3; grind), if_pos (show I 69 y.toNatClampNeg = 63 ∨ I 69 y.toNatClampNeg = 45 by clear ih hq h0 h1 hy hn hnn c1 c3; grind)]
                rw [upS_on hk e9] at hq
                exact ih hk _ _ _ (by clear ih hq hy; grind) (by clear ih hq hy; grind) (stp hn.2 hy c3) hq
              · refine ⟨fun (c29 : (I 69 ((y).toNatClampNeg)) = 35) => ?_, fun (c29 : ¬ (I 69 ((y).toNatClampNeg)) = 35) => ?_⟩
                · refine ⟨⟨Nat.le_refl _, Nat.le_refl _⟩, ?_⟩
                  refine c_X12_isSign fun v14 hv14 => ?_
                  replace hv14 : v14 = if ((97 ≤ (I 69 ((y).toNatClampNeg)) ∧ (I 69 ((y).toNatClampNeg)) ≤ 122) ∨ (I 69 ((y).toNatClampNeg)) = 95) then 1 else 0 := hv14
                  refine br_t (show v14 = 0 from (by clear ih hq h0 h1 hy hn hnn c1 c3; grind)) ?_
                  refine ⟨fun _ => ?_, fun hx => absurd hx (show ¬ (I 69 ((y).toNatClampNeg)) = 60 from (by clear ih hq h0 h1 hy hn hnn c1 c3; grind))⟩
                  refine ⟨fun hx => absurd (show (I 69 ((y).toNatClampNeg)) = 35 from (by clear ih hq h0 h1 hy hn hnn c1 c3; grind)) hx, fun _ => ?_⟩
                  refine ⟨?_, ?_⟩
                  · exact vb (N := 24) 24 (by decide) h0 (Int32.lt_of_lt_of_le (Int32.not_le.mp c1) hnn.2)
                  refine qJ_M (M2 := (z, N, qRow (qRow I 92 (uI bk ((p).toNatClampNeg) 4)) 93 bm, L, R)) (by (try dsimp only); (simp (decide := true) only [q2_qRow, q2_qRow2, q2_qRow3]) <;> rfl) ?_
                  change qJ m_X12_backs (qWP _) Q 134 [(5, .int 0), (4, .int (I 69 ((y).toNatClampNeg))), (3, .int p), (2, .int y), (1, .int n), (0, .ref 65)] [] _ _ (z, N, qRow (qRow I 92 (uI bk ((p).toNatClampNeg) 4)) 93 bm, L, R)
                  refine qJ_run (qWP_mono _) [4, 134, 158, 216] 400 ?_
                  refine ⟨⟨Nat.le_refl _, Nat.le_refl _⟩, ?_⟩
                  refine c_X12_isSign fun v15 hv15 => ?_
                  replace hv15 : v15 = if ((97 ≤ (I 69 ((y).toNatClampNeg)) ∧ (I 69 ((y).toNatClampNeg)) ≤ 122) ∨ (I 69 ((y).toNatClampNeg)) = 95) then 1 else 0 := hv15
                  refine br_t (show v15 = 0 from (by clear ih hq h0 h1 hy hn hnn c1 c3; grind)) ?_
                  refine ⟨?_, ?_⟩
                  · exact vb (N := 24) 24 (by decide) h0 (Int32.lt_of_lt_of_le (Int32.not_le.mp c1) hnn.2)
                  refine qJ_M (M2 := (z, N, qRow (qRow I 92 (uI bk ((p).toNatClampNeg) 4)) 93 (uI bm ((p).toNatClampNeg) 134217727), L, R)) (by (try dsimp only); (simp (decide := true) only [q2_qRow, q2_qRow2, q2_qRow3]) <;> rfl) ?_
                  change qJ m_X12_backs (qWP _) Q 158 [(5, .int 0), (4, .int (I 69 ((y).toNatClampNeg))), (3, .int p), (2, .int y), (1, .int n), (0, .ref 65)] [] _ _ (z, N, qRow (qRow I 92 (uI bk ((p).toNatClampNeg) 4)) 93 (uI bm ((p).toNatClampNeg) 134217727), L, R)
                  refine qJ_run (qWP_mono _) [4, 134, 158, 216] 400 ?_
                  refine ⟨fun h => absurd h (by decide), fun _ => ?_⟩
                  refine qJ_nm (qWP_mono _) [(5, _), (4, _)] [(3, .int (p + 1)), (2, .int (y + 1)), (1, .int n), (0, .ref 65)] rfl rfl rfl ?_
                  have hk : p < n := Int32.not_le.mp c1
                  have e9 : gPr (I 69) (I 65 6) p (y, bk, bm) = .inl (y + 1, uI bk ((p).toNatClampNeg) 4, uI bm ((p).toNatClampNeg) 134217727) := by
                    unfold gPr
                    dsimp only
                    rw [if_neg (show ¬ y = I 65 6 from c3), if_neg (show ¬ ((97 ≤ I 69 y.toNatClampNeg ∧ I 69 y.toNatClampNeg ≤ 122) ∨ I 69 y.toNatClampNeg = 95) by clear ih hq h0 h1 hy hn hnn c1 c3; grind), if_neg (show ¬ (I 69 y.toNatClampNeg = 63 ∨ I 69 y.toNatClampNeg = 45) by clear ih hq h0 h1 hy hn hnn c1 c3; grind), if_pos (show I 69 y.toNatClampNeg = 35 by clear ih hq h0 h1 hy hn hnn c1 c3; grind)]
                  rw [upS_on hk e9] at hq
                  exact ih hk _ _ _ (by clear ih hq hy; grind) (by clear ih hq hy; grind) (stp hn.2 hy c3) hq
                · change Q (some (.int ((-20) - y))) (z, N, qRow (qRow I 92 bk) 93 bm, L, R)
                  have hk : p < n := Int32.not_le.mp c1
                  have e9 : gPr (I 69) (I 65 6) p (y, bk, bm) = .inr ((-20) - y, bk, bm) := by
                    unfold gPr
                    dsimp only
                    rw [if_neg (show ¬ y = I 65 6 from c3), if_neg (show ¬ ((97 ≤ I 69 y.toNatClampNeg ∧ I 69 y.toNatClampNeg ≤ 122) ∨ I 69 y.toNatClampNeg = 95) by clear ih hq h0 h1 hy hn hnn c1 c3; grind), if_neg (show ¬ (I 69 y.toNatClampNeg = 63 ∨ I 69 y.toNatClampNeg = 45) by clear ih hq h0 h1 hy hn hnn c1 c3; grind), if_neg (show ¬ I 69 y.toNatClampNeg = 35 by clear ih hq h0 h1 hy hn hnn c1 c3; grind), if_neg (show ¬ I 69 y.toNatClampNeg = 60 by clear ih hq h0 h1 hy hn hnn c1 c3; grind), if_neg (show ¬ I 69 y.toNatClampNeg = 91 by clear ih hq h0 h1 hy hn hnn c1 c3; grind)]
                  rw [upS_out hk e9] at hq
                  exact hq
        · refine ⟨⟨Nat.le_refl _, Nat.le_refl _⟩, ?_⟩
          refine c_X12_isSign fun v16 hv16 => ?_
          replace hv16 : v16 = if ((97 ≤ (I 69 ((y).toNatClampNeg)) ∧ (I 69 ((y).toNatClampNeg)) ≤ 122) ∨ (I 69 ((y).toNatClampNeg)) = 95) then 1 else 0 := hv16
          refine ⟨fun hx => absurd (show v16 = 0 from (by clear ih hq h0 h1 hy hn hnn c1 c3; grind)) hx, fun _ => ?_⟩
          refine ⟨fun _ => ?_, fun h => absurd h (by decide)⟩
          refine ⟨⟨Nat.le_refl _, Nat.le_refl _⟩, ?_⟩
          refine c_X12_isSign fun v17 hv17 => ?_
          replace hv17 : v17 = if ((97 ≤ (I 69 ((y).toNatClampNeg)) ∧ (I 69 ((y).toNatClampNeg)) ≤ 122) ∨ (I 69 ((y).toNatClampNeg)) = 95) then 1 else 0 := hv17
          refine br_t (show v17 = 0 from (by clear ih hq h0 h1 hy hn hnn c1 c3; grind)) ?_
          refine ⟨fun _ => ?_, fun hx => absurd hx (show ¬ (I 69 ((y).toNatClampNeg)) = 60 from (by clear ih hq h0 h1 hy hn hnn c1 c3; grind))⟩
          refine ⟨fun _ => ?_, fun hx => absurd hx (show ¬ (I 69 ((y).toNatClampNeg)) = 35 from (by clear ih hq h0 h1 hy hn hnn c1 c3; grind))⟩
          refine ⟨?_, ?_⟩
          · exact vb (N := 24) 24 (by decide) h0 (Int32.lt_of_lt_of_le (Int32.not_le.mp c1) hnn.2)
          refine qJ_M (M2 := (z, N, qRow (qRow I 92 (uI bk ((p).toNatClampNeg) 3)) 93 bm, L, R)) (by (try dsimp only); (simp (decide := true) only [q2_qRow, q2_qRow2, q2_qRow3]) <;> rfl) ?_
          change qJ m_X12_backs (qWP _) Q 134 [(5, .int 1), (4, .int (I 69 ((y).toNatClampNeg))), (3, .int p), (2, .int y), (1, .int n), (0, .ref 65)] [] _ _ (z, N, qRow (qRow I 92 (uI bk ((p).toNatClampNeg) 3)) 93 bm, L, R)
          refine qJ_run (qWP_mono _) [4, 134, 158, 216] 400 ?_
          refine ⟨⟨Nat.le_refl _, Nat.le_refl _⟩, ?_⟩
          refine c_X12_isSign fun v18 hv18 => ?_
          replace hv18 : v18 = if ((97 ≤ (I 69 ((y).toNatClampNeg)) ∧ (I 69 ((y).toNatClampNeg)) ≤ 122) ∨ (I 69 ((y).toNatClampNeg)) = 95) then 1 else 0 := hv18
          refine br_t (show v18 = 0 from (by clear ih hq h0 h1 hy hn hnn c1 c3; grind)) ?_
          refine ⟨?_, ?_⟩
          · exact vb (N := 24) 24 (by decide) h0 (Int32.lt_of_lt_of_le (Int32.not_le.mp c1) hnn.2)
          refine qJ_M (M2 := (z, N, qRow (qRow I 92 (uI bk ((p).toNatClampNeg) 3)) 93 (uI bm ((p).toNatClampNeg) 134217727), L, R)) (by (try dsimp only); (simp (decide := true) only [q2_qRow, q2_qRow2, q2_qRow3]) <;> rfl) ?_
          change qJ m_X12_backs (qWP _) Q 158 [(5, .int 1), (4, .int (I 69 ((y).toNatClampNeg))), (3, .int p), (2, .int y), (1, .int n), (0, .ref 65)] [] _ _ (z, N, qRow (qRow I 92 (uI bk ((p).toNatClampNeg) 3)) 93 (uI bm ((p).toNatClampNeg) 134217727), L, R)
          refine qJ_run (qWP_mono _) [4, 134, 158, 216] 400 ?_
          refine ⟨fun _ => ?_, fun h => absurd h (by decide)⟩
          refine ⟨fun (c39 : (y + 1) = (I 65 6)) => ?_, fun (c39 : ¬ (y + 1) = (I 65 6)) => ?_⟩
          · change Q (some (.int ((-20) - (y + 1)))) (z, N, qRow (qRow I 92 (uI bk ((p).toNatClampNeg) 3)) 93 (uI bm ((p).toNatClampNeg) 134217727), L, R)
            have hk : p < n := Int32.not_le.mp c1
            have e9 : gPr (I 69) (I 65 6) p (y, bk, bm) = .inr ((-20) - (y + 1), uI bk ((p).toNatClampNeg) 3, uI bm ((p).toNatClampNeg) 134217727) := by
              unfold gPr
              dsimp only
              rw [if_neg (show ¬ y = I 65 6 from c3), if_neg (show ¬ ((97 ≤ I 69 y.toNatClampNeg ∧ I 69 y.toNatClampNeg ≤ 122) ∨ I 69 y.toNatClampNeg = 95) by clear ih hq h0 h1 hy hn hnn c1 c3 c39; grind), if_neg (show ¬ (I 69 y.toNatClampNeg = 63 ∨ I 69 y.toNatClampNeg = 45) by clear ih hq h0 h1 hy hn hnn c1 c3 c39; grind), if_neg (show ¬ I 69 y.toNatClampNeg = 35 by clear ih hq h0 h1 hy hn hnn c1 c3 c39; grind), if_neg (show ¬ I 69 y.toNatClampNeg = 60 by clear ih hq h0 h1 hy hn hnn c1 c3 c39; grind), if_pos (show I 69 y.toNatClampNeg = 91 by clear ih hq h0 h1 hy hn hnn c1 c3 c39; grind), if_pos (show y + 1 = I 65 6 ∨ ¬ ((97 ≤ I 69 (y + 1).toNatClampNeg ∧ I 69 (y + 1).toNatClampNeg ≤ 122) ∨ I 69 (y + 1).toNatClampNeg = 95) from Or.inl c39)]
            rw [upS_out hk e9] at hq
            exact hq
          · refine ⟨?_, ?_⟩
            · exact vb (N := 200) 200 (by decide) (stp hn.2 hy c3).1 (stl hn.2 (stp hn.2 hy c3) c39)
            refine ⟨⟨Nat.le_refl _, Nat.le_refl _⟩, ?_⟩
            refine c_X12_isSign fun v19 hv19 => ?_
            replace hv19 : v19 = if ((97 ≤ (I 69 ((y + 1).toNatClampNeg)) ∧ (I 69 ((y + 1).toNatClampNeg)) ≤ 122) ∨ (I 69 ((y + 1).toNatClampNeg)) = 95) then 1 else 0 := hv19
            refine ⟨fun (c40 : ¬ v19 = 0) => ?_, fun (c40 : v19 = 0) => ?_⟩
            · refine ⟨fun _ => ?_, fun hx => absurd hx (show ¬ (I 69 ((y).toNatClampNeg)) = 60 from (by clear ih hq h0 h1 hy hn hnn c1 c3 c39; grind))⟩
              change qJ m_X12_backs (qWP _) Q 216 [(2, .int (y + 1)), (5, .int 1), (4, .int (I 69 ((y).toNatClampNeg))), (3, .int p), (1, .int n), (0, .ref 65)] [] _ _ (z, N, qRow (qRow I 92 (uI bk ((p).toNatClampNeg) 3)) 93 (uI bm ((p).toNatClampNeg) 134217727), L, R)
              refine qJ_run (qWP_mono _) [4, 134, 158, 216] 400 ?_
              refine ⟨fun (c42 : ((y + 1) + 1) = (I 65 6)) => ?_, fun (c42 : ¬ ((y + 1) + 1) = (I 65 6)) => ?_⟩
              · change Q (some (.int ((-20) - ((y + 1) + 1)))) (z, N, qRow (qRow I 92 (uI bk ((p).toNatClampNeg) 3)) 93 (uI bm ((p).toNatClampNeg) 134217727), L, R)
                have hk : p < n := Int32.not_le.mp c1
                have e9 : gPr (I 69) (I 65 6) p (y, bk, bm) = .inr ((-20) - ((y + 1) + 1), uI bk ((p).toNatClampNeg) 3, uI bm ((p).toNatClampNeg) 134217727) := by
                  unfold gPr
                  dsimp only
                  rw [if_neg (show ¬ y = I 65 6 from c3), if_neg (show ¬ ((97 ≤ I 69 y.toNatClampNeg ∧ I 69 y.toNatClampNeg ≤ 122) ∨ I 69 y.toNatClampNeg = 95) by clear ih hq h0 h1 hy hn hnn c1 c3 c39 c42; grind), if_neg (show ¬ (I 69 y.toNatClampNeg = 63 ∨ I 69 y.toNatClampNeg = 45) by clear ih hq h0 h1 hy hn hnn c1 c3 c39 c42; grind), if_neg (show ¬ I 69 y.toNatClampNeg = 35 by clear ih hq h0 h1 hy hn hnn c1 c3 c39 c42; grind), if_neg (show ¬ I 69 y.toNatClampNeg = 60 by clear ih hq h0 h1 hy hn hnn c1 c3 c39 c42; grind), if_pos (show I 69 y.toNatClampNeg = 91 by clear ih hq h0 h1 hy hn hnn c1 c3 c39 c42; grind), if_neg (show ¬ (y + 1 = I 65 6 ∨ ¬ ((97 ≤ I 69 (y + 1).toNatClampNeg ∧ I 69 (y + 1).toNatClampNeg ≤ 122) ∨ I 69 (y + 1).toNatClampNeg = 95)) from fun h => h.elim c39 (fun h2 => h2 (by clear ih hq h0 h1 hy hn hnn c1 c3 c39 c42; grind))), if_pos (show y + 1 + 1 = I 65 6 ∨ ¬ I 69 (y + 1 + 1).toNatClampNeg = 93 from Or.inl c42)]
                rw [upS_out hk e9] at hq
                exact hq
              · refine ⟨?_, ?_⟩
                · exact vb (N := 200) 200 (by decide) (stp hn.2 (stp hn.2 hy c3) c39).1 (stl hn.2 (stp hn.2 (stp hn.2 hy c3) c39) c42)
                refine ⟨fun _ => ?_, fun hx => absurd hx (show ¬ (I 69 ((y).toNatClampNeg)) = 60 from (by clear ih hq h0 h1 hy hn hnn c1 c3 c39 c42; grind))⟩
                refine ⟨fun (c44 : (I 69 (((y + 1) + 1).toNatClampNeg)) = 93) => ?_, fun (c44 : ¬ (I 69 (((y + 1) + 1).toNatClampNeg)) = 93) => ?_⟩
                · refine qJ_nm (qWP_mono _) [(5, _), (4, _)] [(3, .int (p + 1)), (2, .int (((y + 1) + 1) + 1)), (1, .int n), (0, .ref 65)] rfl rfl rfl ?_
                  have hk : p < n := Int32.not_le.mp c1
                  have e9 : gPr (I 69) (I 65 6) p (y, bk, bm) = .inl (((y + 1) + 1) + 1, uI bk ((p).toNatClampNeg) 3, uI bm ((p).toNatClampNeg) 134217727) := by
                    unfold gPr
                    dsimp only
                    rw [if_neg (show ¬ y = I 65 6 from c3), if_neg (show ¬ ((97 ≤ I 69 y.toNatClampNeg ∧ I 69 y.toNatClampNeg ≤ 122) ∨ I 69 y.toNatClampNeg = 95) by clear ih hq h0 h1 hy hn hnn c1 c3 c39 c42; grind), if_neg (show ¬ (I 69 y.toNatClampNeg = 63 ∨ I 69 y.toNatClampNeg = 45) by clear ih hq h0 h1 hy hn hnn c1 c3 c39 c42; grind), if_neg (show ¬ I 69 y.toNatClampNeg = 35 by clear ih hq h0 h1 hy hn hnn c1 c3 c39 c42; grind), if_neg (show ¬ I 69 y.toNatClampNeg = 60 by clear ih hq h0 h1 hy hn hnn c1 c3 c39 c42; grind), if_pos (show I 69 y.toNatClampNeg = 91 by clear ih hq h0 h1 hy hn hnn c1 c3 c39 c42; grind), if_neg (show ¬ (y + 1 = I 65 6 ∨ ¬ ((97 ≤ I 69 (y + 1).toNatClampNeg ∧ I 69 (y + 1).toNatClampNeg ≤ 122) ∨ I 69 (y + 1).toNatClampNeg = 95)) from fun h => h.elim c39 (fun h2 => h2 (by clear ih hq h0 h1 hy hn hnn c1 c3 c39 c42; grind))), if_neg (show ¬ (y + 1 + 1 = I 65 6 ∨ ¬ I 69 (y + 1 + 1).toNatClampNeg = 93) from fun h => h.elim c42 (fun h2 => h2 c44))]
                  rw [upS_on hk e9] at hq
                  exact ih hk _ _ _ (by clear ih hq hy; grind) (by clear ih hq hy; grind) (stp hn.2 (stp hn.2 (stp hn.2 hy c3) c39) c42) hq
                · change Q (some (.int ((-20) - ((y + 1) + 1)))) (z, N, qRow (qRow I 92 (uI bk ((p).toNatClampNeg) 3)) 93 (uI bm ((p).toNatClampNeg) 134217727), L, R)
                  have hk : p < n := Int32.not_le.mp c1
                  have e9 : gPr (I 69) (I 65 6) p (y, bk, bm) = .inr ((-20) - ((y + 1) + 1), uI bk ((p).toNatClampNeg) 3, uI bm ((p).toNatClampNeg) 134217727) := by
                    unfold gPr
                    dsimp only
                    rw [if_neg (show ¬ y = I 65 6 from c3), if_neg (show ¬ ((97 ≤ I 69 y.toNatClampNeg ∧ I 69 y.toNatClampNeg ≤ 122) ∨ I 69 y.toNatClampNeg = 95) by clear ih hq h0 h1 hy hn hnn c1 c3 c39 c42; grind), if_neg (show ¬ (I 69 y.toNatClampNeg = 63 ∨ I 69 y.toNatClampNeg = 45) by clear ih hq h0 h1 hy hn hnn c1 c3 c39 c42; grind), if_neg (show ¬ I 69 y.toNatClampNeg = 35 by clear ih hq h0 h1 hy hn hnn c1 c3 c39 c42; grind), if_neg (show ¬ I 69 y.toNatClampNeg = 60 by clear ih hq h0 h1 hy hn hnn c1 c3 c39 c42; grind), if_pos (show I 69 y.toNatClampNeg = 91 by clear ih hq h0 h1 hy hn hnn c1 c3 c39 c42; grind), if_neg (show ¬ (y + 1 = I 65 6 ∨ ¬ ((97 ≤ I 69 (y + 1).toNatClampNeg ∧ I 69 (y + 1).toNatClampNeg ≤ 122) ∨ I 69 (y + 1).toNatClampNeg = 95)) from fun h => h.elim c39 (fun h2 => h2 (by clear ih hq h0 h1 hy hn hnn c1 c3 c39 c42; grind))), if_pos (show y + 1 + 1 = I 65 6 ∨ ¬ I 69 (y + 1 + 1).toNatClampNeg = 93 from Or.inr c44)]
                  rw [upS_out hk e9] at hq
                  exact hq
            · change Q (some (.int ((-20) - (y + 1)))) (z, N, qRow (qRow I 92 (uI bk ((p).toNatClampNeg) 3)) 93 (uI bm ((p).toNatClampNeg) 134217727), L, R)
              have hk : p < n := Int32.not_le.mp c1
              have e9 : gPr (I 69) (I 65 6) p (y, bk, bm) = .inr ((-20) - (y + 1), uI bk ((p).toNatClampNeg) 3, uI bm ((p).toNatClampNeg) 134217727) := by
                unfold gPr
                dsimp only
                rw [if_neg (show ¬ y = I 65 6 from c3), if_neg (show ¬ ((97 ≤ I 69 y.toNatClampNeg ∧ I 69 y.toNatClampNeg ≤ 122) ∨ I 69 y.toNatClampNeg = 95) by clear ih hq h0 h1 hy hn hnn c1 c3 c39; grind), if_neg (show ¬ (I 69 y.toNatClampNeg = 63 ∨ I 69 y.toNatClampNeg = 45) by clear ih hq h0 h1 hy hn hnn c1 c3 c39; grind), if_neg (show ¬ I 69 y.toNatClampNeg = 35 by clear ih hq h0 h1 hy hn hnn c1 c3 c39; grind), if_neg (show ¬ I 69 y.toNatClampNeg = 60 by clear ih hq h0 h1 hy hn hnn c1 c3 c39; grind), if_pos (show I 69 y.toNatClampNeg = 91 by clear ih hq h0 h1 hy hn hnn c1 c3 c39; grind), if_pos (show y + 1 = I 65 6 ∨ ¬ ((97 ≤ I 69 (y + 1).toNatClampNeg ∧ I 69 (y + 1).toNatClampNeg ≤ 122) ∨ I 69 (y + 1).toNatClampNeg = 95) from Or.inr (by clear ih hq h0 h1 hy hn hnn c1 c3 c39; grind))]
              rw [upS_out hk e9] at hq
              exact hq
    · change Q (some (.int ((-20) - (I 65 6)))) (z, N, qRow (qRow I 92 bk) 93 bm, L, R)
      have hk : p < n := Int32.not_le.mp c1
      have e9 : gPr (I 69) (I 65 6) p (y, bk, bm) = .inr ((-20) - (I 65 6), bk, bm) := by
        unfold gPr
        dsimp only
        rw [if_pos (show y = I 65 6 from c3)]
      rw [upS_out hk e9] at hq
      exact hq
theorem c_X12_backs {d z : Nat} {N : Nat → Nat} {I : Nat → Nat → Int32} {L : Nat → Nat → Int64} {R : Nat → Nat → Option Nat} {Q : qP} {n : Int32} (hn : 0 ≤ I 65 6 ∧ I 65 6 ≤ 200) (hnn : 0 ≤ n ∧ n ≤ 24) (h : ∀ v : Int32, v = (fPr (I 69) (I 65 6) n (I 92, I 93)).1 → Q (some (.int v)) (z, N, qRow (qRow I 92 (fPr (I 69) (I 65 6) n (I 92, I 93)).2.1) 93 (fPr (I 69) (I 65 6) n (I 92, I 93)).2.2, L, R)) : qWP (d + 3) 239 [.ref 65, .int n] (z, N, I, L, R) Q := by
  refine qWP_of m_X12_backs rfl rfl [(0, .ref 65), (1, .int n)] rfl ?_
  refine qJ_run (qWP_mono _) [4] 400 ?_
  refine qJ_nm (qWP_mono _) [] [(3, .int 0), (2, .int 0), (1, .int n), (0, .ref 65)] rfl rfl rfl ?_
  refine qJ_M (M2 := (z, N, qRow (qRow I 92 (I 92)) 93 (I 93), L, R)) (by rw [qRow_self, qRow_self]) ?_
  exact l_X12_backs (d := d) hn hnn 0 0 _ _ (by decide) hnn.1 ⟨by decide, hn.1⟩ (h _ rfl)
theorem l_X12_back {d z : Nat} {N : Nat → Nat} {I : Nat → Nat → Int32} {L : Nat → Nat → Int64} {R : Nat → Nat → Option Nat} {Q : qP} {a s l r : Int32} (ha : 0 ≤ a ∧ a < 6) (hs : 0 ≤ s ∧ s < 12) (hl : 0 ≤ l ∧ l < 4) (hn : r ≤ 24) : ∀ (k : Int32), ∀ kd my : Nat → Int32, 0 ≤ k → Q (some (.int r)) (z, N, qRow (qRow I 70 (upF r (gBr (I 92) (I 93) a s l) k (kd, my)).1) 71 (upF r (gBr (I 92) (I 93) a s l) k (kd, my)).2, L, R) → qJ m_X12_back (qWP (d + 2)) Q 43 [(5, .int k), (4, .int r), (3, .int l), (2, .int s), (1, .int a), (0, .ref 65)] [] 0 0 (z, N, qRow (qRow I 70 kd) 71 my, L, R) := by
  refine up_ind (r) fun k ih => ?_
  intro kd my h0 hq
  refine qJ_run (qWP_mono _) [43] 400 ?_
  refine ⟨fun (c1 : r ≤ k) => ?_, fun (c1 : ¬ r ≤ k) => ?_⟩
  · change Q (some (.int r)) (z, N, qRow (qRow I 70 kd) 71 my, L, R)
    rw [upF_ge (by clear ih hq; grind)] at hq
    exact hq
  · refine ⟨?_, ?_⟩
    · exact vb (x := k) (N := 24) 24 (by decide) (by clear ih hq; grind) (by clear ih hq; grind)
    refine ⟨?_, ?_⟩
    · exact vb (x := k) (N := 24) 24 (by decide) (by clear ih hq; grind) (by clear ih hq; grind)
    refine ⟨⟨Nat.le_refl _, Nat.le_refl _⟩, ?_⟩
    refine c_X12_reads (ix_rng ha ⟨hs, hl, h0, by clear ih hq; grind⟩) ?_
    rw [q2_qRow2 (by decide), q2_qRow]
    have hk : k < r := by clear ih hq; grind
    rw [upF_on hk] at hq
    exact ih hk _ _ (by clear ih hq; grind) hq
theorem c_X12_back {d z : Nat} {N : Nat → Nat} {I : Nat → Nat → Int32} {L : Nat → Nat → Int64} {R : Nat → Nat → Option Nat} {Q : qP} {a : Int32} {s : Int32} {l : Int32} (hs : 0 ≤ I 65 0 ∧ I 65 0 ≤ 12) (hh : 0 ≤ I 65 1 ∧ I 65 1 ≤ 6) (hn : 0 ≤ I 65 6 ∧ I 65 6 ≤ 200) (hl : ∀ x : Int32, 0 ≤ x → x < I 65 0 → (1 ≤ I 66 x.toNatClampNeg ∧ I 66 x.toNatClampNeg ≤ 4) ∧ 1 ≤ I 67 x.toNatClampNeg ∧ I 67 x.toNatClampNeg ≤ 24) (hr24 : ((0 ≤ a ∧ a < I 65 1) ∧ (0 ≤ s ∧ s < I 65 0) ∧ 0 ≤ l ∧ l < I 66 s.toNatClampNeg) → (fPr (I 69) (I 65 6) (I 67 s.toNatClampNeg) (I 92, I 93)).1 ≤ 24) (h0 : ¬ ((0 ≤ a ∧ a < I 65 1) ∧ (0 ≤ s ∧ s < I 65 0) ∧ 0 ≤ l ∧ l < I 66 s.toNatClampNeg) → Q (some (.int (-2))) (z, N, I, L, R)) (h1 : ((0 ≤ a ∧ a < I 65 1) ∧ (0 ≤ s ∧ s < I 65 0) ∧ 0 ≤ l ∧ l < I 66 s.toNatClampNeg) → Q (some (.int (fPr (I 69) (I 65 6) (I 67 s.toNatClampNeg) (I 92, I 93)).1)) (z, N, qRow (qRow (q2 (qRow (qRow I 92 (fPr (I 69) (I 65 6) (I 67 s.toNatClampNeg) (I 92, I 93)).2.1) 93 (fPr (I 69) (I 65 6) (I 67 s.toNatClampNeg) (I 92, I 93)).2.2) 65 6 0) 70 (upF (fPr (I 69) (I 65 6) (I 67 s.toNatClampNeg) (I 92, I 93)).1 (gBr (fPr (I 69) (I 65 6) (I 67 s.toNatClampNeg) (I 92, I 93)).2.1 (fPr (I 69) (I 65 6) (I 67 s.toNatClampNeg) (I 92, I 93)).2.2 a s l) 0 (I 70, I 71)).1) 71 (upF (fPr (I 69) (I 65 6) (I 67 s.toNatClampNeg) (I 92, I 93)).1 (gBr (fPr (I 69) (I 65 6) (I 67 s.toNatClampNeg) (I 92, I 93)).2.1 (fPr (I 69) (I 65 6) (I 67 s.toNatClampNeg) (I 92, I 93)).2.2 a s l) 0 (I 70, I 71)).2, L, R)) : qWP (d + 4) 240 [.ref 65, .int a, .int s, .int l] (z, N, I, L, R) Q := by
  refine qWP_of m_X12_back rfl rfl [(0, .ref 65), (1, .int a), (2, .int s), (3, .int l)] rfl ?_
  refine qJ_run (qWP_mono _) [43] 400 ?_
  refine ⟨⟨Nat.le_refl _, Nat.le_refl _⟩, ?_⟩
  refine c_X12_isIn fun v1 hv1 => ?_
  refine ⟨fun (c1 : v1 = 0) => ?_, fun (c1 : ¬ v1 = 0) => ?_⟩
  · change Q (some (.int (-2))) (z, N, I, L, R)
    exact h0 (by clear h0 h1; grind)
  · refine ⟨⟨Nat.le_refl _, Nat.le_refl _⟩, ?_⟩
    refine c_X12_isLine hs fun v2 hv2 => ?_
    refine ⟨fun (c2 : ¬ v2 = 0) => ?_, fun (c2 : v2 = 0) => ?_⟩
    · refine ⟨?_, ?_⟩
      · exact vb (x := s) (N := 12) 12 (by decide) (by clear h0 h1; grind) (by clear h0 h1; grind)
      refine ⟨⟨Nat.le_refl _, Nat.le_refl _⟩, ?_⟩
      have hg : ((0 ≤ a ∧ a < I 65 1) ∧ (0 ≤ s ∧ s < I 65 0) ∧ 0 ≤ l ∧ l < I 66 s.toNatClampNeg) := by clear h0 h1; grind
      have hls := hl s hg.2.1.1 hg.2.1.2
      refine c_X12_backs (d := d) hn ⟨by clear h0 h1; grind, hls.2.2⟩ fun p1 hp1 => ?_
      refine qJ_nm (qWP_mono _) [] [(5, .int 0), (4, .int p1), (3, .int l), (2, .int s), (1, .int a), (0, .ref 65)] rfl rfl rfl ?_
      subst hp1
      refine qJ_M (M2 := (z, N, qRow (qRow (q2 (qRow (qRow I 92 (fPr (I 69) (I 65 6) (I 67 s.toNatClampNeg) (I 92, I 93)).2.1) 93 (fPr (I 69) (I 65 6) (I 67 s.toNatClampNeg) (I 92, I 93)).2.2) 65 6 0) 70 (I 70)) 71 (I 71), L, R)) (by (try dsimp only); rw [show I 70 = (q2 (qRow (qRow I 92 (fPr (I 69) (I 65 6) (I 67 s.toNatClampNeg) (I 92, I 93)).2.1) 93 (fPr (I 69) (I 65 6) (I 67 s.toNatClampNeg) (I 92, I 93)).2.2) 65 6 0) 70 from by simp (decide := true) only [q2_ne, qRow_ne], qRow_self, show I 71 = (q2 (qRow (qRow I 92 (fPr (I 69) (I 65 6) (I 67 s.toNatClampNeg) (I 92, I 93)).2.1) 93 (fPr (I 69) (I 65 6) (I 67 s.toNatClampNeg) (I 92, I 93)).2.2) 65 6 0) 71 from by simp (decide := true) only [q2_ne, qRow_ne], qRow_self]; (try rfl)) ?_
      refine l_X12_back (d := d + 1) (I := q2 (qRow (qRow I 92 (fPr (I 69) (I 65 6) (I 67 s.toNatClampNeg) (I 92, I 93)).2.1) 93 (fPr (I 69) (I 65 6) (I 67 s.toNatClampNeg) (I 92, I 93)).2.2) 65 6 0) ⟨hg.1.1, by clear h0 h1; grind⟩ ⟨hg.2.1.1, by clear h0 h1; grind⟩ ⟨hg.2.2.1, by clear h0 h1; grind⟩ (hr24 hg) 0 _ _ (by decide) ?_
      have e8 : (q2 (qRow (qRow I 92 (fPr (I 69) (I 65 6) (I 67 s.toNatClampNeg) (I 92, I 93)).2.1) 93 (fPr (I 69) (I 65 6) (I 67 s.toNatClampNeg) (I 92, I 93)).2.2) 65 6 0) 92 = (fPr (I 69) (I 65 6) (I 67 s.toNatClampNeg) (I 92, I 93)).2.1 := by simp (decide := true) only [q2_ne, qRow_ne, qRow_at]
      have e7 : (q2 (qRow (qRow I 92 (fPr (I 69) (I 65 6) (I 67 s.toNatClampNeg) (I 92, I 93)).2.1) 93 (fPr (I 69) (I 65 6) (I 67 s.toNatClampNeg) (I 92, I 93)).2.2) 65 6 0) 93 = (fPr (I 69) (I 65 6) (I 67 s.toNatClampNeg) (I 92, I 93)).2.2 := by simp (decide := true) only [q2_ne, qRow_at]
      rw [e8, e7]
      exact h1 hg
    · change Q (some (.int (-2))) (z, N, I, L, R)
      exact h0 (by clear h0 h1; grind)
