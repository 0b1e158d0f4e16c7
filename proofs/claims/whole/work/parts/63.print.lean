/-! printed lines: the class -/
def pu (b : Int32) (S : Int32 × (Nat → Int32)) : Int32 × (Nat → Int32) := (S.1 + 1, uI S.2 S.1.toNatClampNeg b)
def mP (I : Nat → Nat → Int32) (S : Int32 × (Nat → Int32)) : Nat → Nat → Int32 := q2 (qRow I 60 S.2) 59 2 S.1
def shw (b : Int32) : Int32 := if b = 26 then 95 else 97 + b
def wr (k o cv : Int32) (S : Int32 × (Nat → Int32)) : Int32 × (Nat → Int32) := if k = 0 ∨ k = 1 then pu (shw o) S else if k = 5 then pu 62 (pu (shw o) (pu 60 S)) else if cv = -1 then pu (if k = 2 then 63 else if k = 4 then 35 else 45) S else pu 93 (pu (shw cv) (pu 91 S))
theorem mP_mP {I : Nat → Nat → Int32} {S T : Int32 × (Nat → Int32)} : mP (mP I S) T = mP I T := q2_row_row (by decide)
theorem mP_n {I : Nat → Nat → Int32} {S : Int32 × (Nat → Int32)} : mP I S 59 2 = S.1 := q2_at
theorem mP_60 {I : Nat → Nat → Int32} {S : Int32 × (Nat → Int32)} : mP I S 60 = S.2 := by
  unfold mP
  rw [q2_ne (by decide), qRow_at]
theorem mP_ne {I : Nat → Nat → Int32} {S : Int32 × (Nat → Int32)} {a : Nat} (h1 : a ≠ 59) (h2 : a ≠ 60) : mP I S a = I a := by
  unfold mP
  rw [q2_ne h1, qRow_ne h2]
theorem mP_self {I : Nat → Nat → Int32} : mP I (I 59 2, I 60) = I := by
  unfold mP
  rw [qRow_self, q2_self]
theorem mP_pu {I : Nat → Nat → Int32} {b : Int32} : mP I (pu b (I 59 2, I 60)) = q2 (q2 I 60 (I 59 2).toNatClampNeg b) 59 2 (I 59 2 + 1) := by
  unfold mP pu
  congr 1
  exact q2_q2.symm
theorem c_X3_put {d z : Nat} {N : Nat → Nat} {I : Nat → Nat → Int32} {L : Nat → Nat → Int64} {R : Nat → Nat → Option Nat} {Q : qP} {b : Int32} (hn : 0 ≤ I 59 2 ∧ I 59 2 < 72) (h : Q none (z, N, q2 (q2 I 60 (I 59 2).toNatClampNeg b) 59 2 (I 59 2 + 1), L, R)) : qWP (d + 1) 43 [.ref 59, .int b] (z, N, I, L, R) Q := by
  refine qWP_of m_X3_put rfl rfl [(0, .ref 59), (1, .int b)] rfl ?_
  refine qJ_run (qWP_mono _) [] 400 ?_
  refine ⟨fun (c1 : (I 59 2) < 0) => ?_, fun (c1 : ¬ (I 59 2) < 0) => ?_⟩
  · change Q none (z, N, I, L, R)
    first | exact h | exact absurd hn (by clear h; grind)
  · refine ⟨fun (c2 : 72 ≤ (I 59 2)) => ?_, fun (c2 : ¬ 72 ≤ (I 59 2)) => ?_⟩
    · change Q none (z, N, I, L, R)
      first | exact h | exact absurd hn (by clear h; grind)
    · refine ⟨?_, ?_⟩
      · exact vb (N := 72) 72 (by decide) hn.1 hn.2
      change Q none (z, N, q2 (q2 I 60 ((I 59 2).toNatClampNeg) b) 59 2 ((I 59 2) + 1), L, R)
      first | exact h | exact absurd hn (by clear h; grind)
theorem c_X3_putS {d z : Nat} {N : Nat → Nat} {I : Nat → Nat → Int32} {L : Nat → Nat → Int64} {R : Nat → Nat → Option Nat} {Q : qP} {b : Int32} {S : Int32 × (Nat → Int32)} (hn : 0 ≤ S.1 ∧ S.1 < 72) (h : Q none (z, N, mP I (pu b S), L, R)) : qWP (d + 1) 43 [.ref 59, .int b] (z, N, mP I S, L, R) Q := by
  refine c_X3_put (I := mP I S) (by rw [mP_n]; exact hn) ?_
  rw [← mP_pu, mP_mP, mP_n, mP_60]
  exact h
theorem l_X3_enclose {d z : Nat} {N : Nat → Nat} {I : Nat → Nat → Int32} {L : Nat → Nat → Int64} {R : Nat → Nat → Option Nat} {Q : qP} {a y c : Int32} {S : Int32 × (Nat → Int32)} (hn : 0 ≤ S.1 ∧ S.1 ≤ 69) : Q none (z, N, mP I (pu c (pu (shw y) (pu a S))), L, R) → qJ m_X3_enclose (qWP (d + 1)) Q 0 [(0, .ref 59), (1, .int a), (2, .int y), (3, .int c)] [] 0 0 (z, N, mP I S, L, R) := by
  skip
  intro h
  refine qJ_run (qWP_mono _) [0] 400 ?_
  refine ⟨⟨Nat.le_refl _, Nat.le_refl _⟩, ?_⟩
  refine c_X3_putS (S := S) (by (try simp only [pu]); clear h; grind) ?_
  refine ⟨⟨Nat.le_refl _, Nat.le_refl _⟩, ?_⟩
  refine c_X3_shown fun v2 hv2 => ?_
  obtain rfl : v2 = shw y := hv2
  refine ⟨⟨Nat.le_refl _, Nat.le_refl _⟩, ?_⟩
  refine c_X3_putS (S := (pu a S)) (by (try simp only [pu]); clear h; grind) ?_
  refine ⟨⟨Nat.le_refl _, Nat.le_refl _⟩, ?_⟩
  refine c_X3_putS (S := (pu (shw y) (pu a S))) (by (try simp only [pu]); clear h; grind) ?_
  change Q none (z, N, mP I (pu c (pu (shw y) (pu a S))), L, R)
  exact h
theorem c_X3_encloseS {d z : Nat} {N : Nat → Nat} {I : Nat → Nat → Int32} {L : Nat → Nat → Int64} {R : Nat → Nat → Option Nat} {Q : qP} {a y c : Int32} {S : Int32 × (Nat → Int32)} (hn : 0 ≤ S.1 ∧ S.1 ≤ 69) (h : Q none (z, N, mP I (pu c (pu (shw y) (pu a S))), L, R)) : qWP (d + 2) 45 [.ref 59, .int a, .int y, .int c] (z, N, mP I S, L, R) Q := by
  refine qWP_of m_X3_enclose rfl rfl [(0, .ref 59), (1, .int a), (2, .int y), (3, .int c)] rfl ?_
  exact l_X3_enclose (d := d) hn h
theorem l_X3_write {d z : Nat} {N : Nat → Nat} {I : Nat → Nat → Int32} {L : Nat → Nat → Int64} {R : Nat → Nat → Option Nat} {Q : qP} {t cv : Int32} {S : Int32 × (Nat → Int32)} (hst : qStat (z, N, I, L, R)) (hn : 0 ≤ S.1 ∧ S.1 ≤ 69) : Q none (z, N, mP I (wr (fKd t) (fBC (fMy t - 1)) cv S), L, R) → qJ m_X3_write (qWP (d + 2)) Q 0 [(0, .ref 59), (1, .int t), (2, .int cv)] [] 0 0 (z, N, mP I S, L, R) := by
  skip
  intro h
  refine qJ_run (qWP_mono _) [0] 400 ?_
  refine ⟨⟨Nat.le_refl _, Nat.le_refl _⟩, ?_⟩
  refine c_X5_kindOf fun v1 hv1 => ?_
  obtain rfl : v1 = fKd t := hv1
  refine ⟨⟨Nat.le_refl _, Nat.le_refl _⟩, ?_⟩
  refine c_X5_mayOf fun v2 hv2 => ?_
  obtain rfl : v2 = fMy t := hv2
  refine ⟨⟨Nat.le_refl _, Nat.le_refl _⟩, ?_⟩
  refine c_J6_bitCount_0f7a4 fun v3 hv3 => ⟨hst, ?_⟩
  obtain rfl : v3 = fBC (fMy t - 1) := hv3
  refine ⟨fun (c1 : (fKd t) = 0) => ?_, fun (c1 : ¬ (fKd t) = 0) => ?_⟩
  · refine ⟨⟨Nat.le_refl _, Nat.le_refl _⟩, ?_⟩
    refine c_X3_shown fun v4 hv4 => ?_
    obtain rfl : v4 = shw (fBC (fMy t - 1)) := hv4
    refine ⟨⟨Nat.le_refl _, Nat.le_refl _⟩, ?_⟩
    refine c_X3_putS (S := S) (by (try simp only [pu]); clear h; grind) ?_
    change Q none (z, N, mP I (pu (shw (fBC (fMy t - 1))) S), L, R)
    have e9 : (wr (fKd t) (fBC (fMy t - 1)) cv S) = (pu (shw (fBC (fMy t - 1))) S) := by
      clear h
      unfold wr
      first
      | (rw [if_pos (by grind)])
      | (rw [if_neg (by grind), if_pos (by grind)])
      | (rw [if_neg (by grind), if_neg (by grind), if_pos (by grind)]; first | rw [if_pos (by grind)] | rw [if_neg (by grind), if_pos (by grind)] | rw [if_neg (by grind), if_neg (by grind)])
      | (rw [if_neg (by grind), if_neg (by grind), if_neg (by grind)])
    rw [e9] at h
    exact h
  · refine ⟨fun (c2 : ¬ (fKd t) = 1) => ?_, fun (c2 : (fKd t) = 1) => ?_⟩
    · refine ⟨fun (c3 : ¬ (fKd t) = 5) => ?_, fun (c3 : (fKd t) = 5) => ?_⟩
      · refine ⟨fun (c4 : cv = (-1)) => ?_, fun (c4 : ¬ cv = (-1)) => ?_⟩
        · refine ⟨fun (c5 : ¬ (fKd t) = 2) => ?_, fun (c5 : (fKd t) = 2) => ?_⟩
          · refine ⟨fun (c6 : ¬ (fKd t) = 4) => ?_, fun (c6 : (fKd t) = 4) => ?_⟩
            · refine ⟨⟨Nat.le_refl _, Nat.le_refl _⟩, ?_⟩
              refine c_X3_putS (S := S) (by (try simp only [pu]); clear h; grind) ?_
              change Q none (z, N, mP I (pu 45 S), L, R)
              have e9 : (wr (fKd t) (fBC (fMy t - 1)) cv S) = (pu 45 S) := by
                clear h
                unfold wr
                first
                | (rw [if_pos (by grind)])
                | (rw [if_neg (by grind), if_pos (by grind)])
                | (rw [if_neg (by grind), if_neg (by grind), if_pos (by grind)]; first | rw [if_pos (by grind)] | rw [if_neg (by grind), if_pos (by grind)] | rw [if_neg (by grind), if_neg (by grind)])
                | (rw [if_neg (by grind), if_neg (by grind), if_neg (by grind)])
              rw [e9] at h
              exact h
            · refine ⟨⟨Nat.le_refl _, Nat.le_refl _⟩, ?_⟩
              refine c_X3_putS (S := S) (by (try simp only [pu]); clear h; grind) ?_
              change Q none (z, N, mP I (pu 35 S), L, R)
              have e9 : (wr (fKd t) (fBC (fMy t - 1)) cv S) = (pu 35 S) := by
                clear h
                unfold wr
                first
                | (rw [if_pos (by grind)])
                | (rw [if_neg (by grind), if_pos (by grind)])
                | (rw [if_neg (by grind), if_neg (by grind), if_pos (by grind)]; first | rw [if_pos (by grind)] | rw [if_neg (by grind), if_pos (by grind)] | rw [if_neg (by grind), if_neg (by grind)])
                | (rw [if_neg (by grind), if_neg (by grind), if_neg (by grind)])
              rw [e9] at h
              exact h
          · refine ⟨⟨Nat.le_refl _, Nat.le_refl _⟩, ?_⟩
            refine c_X3_putS (S := S) (by (try simp only [pu]); clear h; grind) ?_
            change Q none (z, N, mP I (pu 63 S), L, R)
            have e9 : (wr (fKd t) (fBC (fMy t - 1)) cv S) = (pu 63 S) := by
              clear h
              unfold wr
              first
              | (rw [if_pos (by grind)])
              | (rw [if_neg (by grind), if_pos (by grind)])
              | (rw [if_neg (by grind), if_neg (by grind), if_pos (by grind)]; first | rw [if_pos (by grind)] | rw [if_neg (by grind), if_pos (by grind)] | rw [if_neg (by grind), if_neg (by grind)])
              | (rw [if_neg (by grind), if_neg (by grind), if_neg (by grind)])
            rw [e9] at h
            exact h
        · refine ⟨⟨Nat.le_refl _, Nat.le_refl _⟩, ?_⟩
          refine c_X3_encloseS (d := d) (S := S) hn ?_
          change Q none (z, N, mP I (pu 93 (pu (shw cv) (pu 91 S))), L, R)
          have e9 : (wr (fKd t) (fBC (fMy t - 1)) cv S) = (pu 93 (pu (shw cv) (pu 91 S))) := by
            clear h
            unfold wr
            first
            | (rw [if_pos (by grind)])
            | (rw [if_neg (by grind), if_pos (by grind)])
            | (rw [if_neg (by grind), if_neg (by grind), if_pos (by grind)]; first | rw [if_pos (by grind)] | rw [if_neg (by grind), if_pos (by grind)] | rw [if_neg (by grind), if_neg (by grind)])
            | (rw [if_neg (by grind), if_neg (by grind), if_neg (by grind)])
          rw [e9] at h
          exact h
      · refine ⟨⟨Nat.le_refl _, Nat.le_refl _⟩, ?_⟩
        refine c_X3_encloseS (d := d) (S := S) hn ?_
        change Q none (z, N, mP I (pu 62 (pu (shw (fBC (fMy t - 1))) (pu 60 S))), L, R)
        have e9 : (wr (fKd t) (fBC (fMy t - 1)) cv S) = (pu 62 (pu (shw (fBC (fMy t - 1))) (pu 60 S))) := by
          clear h
          unfold wr
          first
          | (rw [if_pos (by grind)])
          | (rw [if_neg (by grind), if_pos (by grind)])
          | (rw [if_neg (by grind), if_neg (by grind), if_pos (by grind)]; first | rw [if_pos (by grind)] | rw [if_neg (by grind), if_pos (by grind)] | rw [if_neg (by grind), if_neg (by grind)])
          | (rw [if_neg (by grind), if_neg (by grind), if_neg (by grind)])
        rw [e9] at h
        exact h
    · refine ⟨⟨Nat.le_refl _, Nat.le_refl _⟩, ?_⟩
      refine c_X3_shown fun v11 hv11 => ?_
      obtain rfl : v11 = shw (fBC (fMy t - 1)) := hv11
      refine ⟨⟨Nat.le_refl _, Nat.le_refl _⟩, ?_⟩
      refine c_X3_putS (S := S) (by (try simp only [pu]); clear h; grind) ?_
      change Q none (z, N, mP I (pu (shw (fBC (fMy t - 1))) S), L, R)
      have e9 : (wr (fKd t) (fBC (fMy t - 1)) cv S) = (pu (shw (fBC (fMy t - 1))) S) := by
        clear h
        unfold wr
        first
        | (rw [if_pos (by grind)])
        | (rw [if_neg (by grind), if_pos (by grind)])
        | (rw [if_neg (by grind), if_neg (by grind), if_pos (by grind)]; first | rw [if_pos (by grind)] | rw [if_neg (by grind), if_pos (by grind)] | rw [if_neg (by grind), if_neg (by grind)])
        | (rw [if_neg (by grind), if_neg (by grind), if_neg (by grind)])
      rw [e9] at h
      exact h
theorem c_X3_writeS {d z : Nat} {N : Nat → Nat} {I : Nat → Nat → Int32} {L : Nat → Nat → Int64} {R : Nat → Nat → Option Nat} {Q : qP} {t cv : Int32} {S : Int32 × (Nat → Int32)} (hst : qStat (z, N, I, L, R)) (hn : 0 ≤ S.1 ∧ S.1 ≤ 69) (h : Q none (z, N, mP I (wr (fKd t) (fBC (fMy t - 1)) cv S), L, R)) : qWP (d + 3) 44 [.ref 59, .int t, .int cv] (z, N, mP I S, L, R) Q := by
  refine qWP_of m_X3_write rfl rfl [(0, .ref 59), (1, .int t), (2, .int cv)] rfl ?_
  exact l_X3_write (d := d) hst hn h
theorem wr_n {k o cv : Int32} {S : Int32 × (Nat → Int32)} (h : 0 ≤ S.1 ∧ S.1 ≤ 69) : S.1 ≤ (wr k o cv S).1 ∧ (wr k o cv S).1 ≤ S.1 + 3 := by
  unfold wr
  split
  · simp only [pu]; grind
  · split
    · simp only [pu]; grind
    · split <;> (simp only [pu]; grind)
def gPg (t cv : Int32 → Int32) (p : Int32) (S : Int32 × (Nat → Int32)) : Int32 × (Nat → Int32) := wr (fKd (t p)) (fBC (fMy (t p) - 1)) (cv p) S
theorem mP_st {z : Nat} {N : Nat → Nat} {I : Nat → Nat → Int32} {L : Nat → Nat → Int64} {R : Nat → Nat → Option Nat} (h : qStat (z, N, I, L, R)) {S : Int32 × (Nat → Int32)} : qStat (z, N, mP I S, L, R) := h
theorem l_X11_setPage {d z : Nat} {N : Nat → Nat} {I : Nat → Nat → Int32} {L : Nat → Nat → Int64} {R : Nat → Nat → Option Nat} {Q : qP} {s l f n : Int32} {cv : Int32 → Int32} (hh : 0 ≤ I 6 2 ∧ I 6 2 ≤ 6) (hst : qStat (z, N, I, L, R)) (hn : 0 ≤ n ∧ n ≤ 24) (hw : I 40 2 = n) (hcv : ∀ p : Int32, 0 ≤ p → p < n → I 42 p.toNatClampNeg = cv p) : ∀ (p : Int32), ∀ S : Int32 × (Nat → Int32), 0 ≤ p → (0 ≤ S.1 ∧ S.1 ≤ 3 * p) → Q none (z, N, mP I (upF n (gPg (fun p => tLd (I 8) (I 7) (I 6 2) s l p) cv) p S), L, R) → qJ m_X11_setPage (qWP (d + 5)) Q 65 [(6, .int p), (5, .int n), (4, .null), (3, .int f), (2, .int l), (1, .int s), (0, .ref 2)] [] 0 0 (z, N, mP I S, L, R) := by
  refine up_ind (n) fun p ih => ?_
  intro S h0 hS hq
  refine qJ_run (qWP_mono _) [65] 400 ?_
  refine ⟨fun (c1 : n ≤ p) => ?_, fun (c1 : ¬ n ≤ p) => ?_⟩
  · change Q none (z, N, mP I S, L, R)
    rw [upF_ge (Int32.not_lt.mpr c1)] at hq
    exact hq
  · refine ⟨⟨Nat.le_refl _, Nat.le_refl _⟩, ?_⟩
    refine c_X5_leading (d := d + 1) (I := mP I S) (by rw [mP_ne (by decide) (by decide)]; exact hh) fun v1 ht => ?_
    rw [mP_ne (by decide) (by decide), mP_ne (by decide) (by decide), mP_ne (by decide) (by decide)] at ht
    obtain rfl : v1 = tLd (I 8) (I 7) (I 6 2) s l p := ht
    refine ⟨⟨Nat.le_refl _, Nat.le_refl _⟩, ?_⟩
    have hp : p < n := Int32.not_le.mp (by assumption)
    refine c_X7_carriedAt (I := mP I S) (by rw [mP_ne (by decide) (by decide), hw]; exact hn) fun v2 hc9 => ?_
    rw [mP_ne (by decide) (by decide), mP_ne (by decide) (by decide), hw, if_pos ⟨h0, hp, Int32.lt_of_lt_of_le hp hn.2⟩, hcv p h0 hp] at hc9
    obtain rfl : v2 = cv p := hc9
    refine ⟨⟨Nat.le_refl _, Nat.le_refl _⟩, ?_⟩
    have hS69 : 0 ≤ S.1 ∧ S.1 ≤ 69 := by clear ih hq hcv; grind
    refine c_X3_writeS (d := d + 2) (S := S) (mP_st (S := S) hst) hS69 ?_
    have hp : p < n := Int32.not_le.mp c1
    rw [upF_on hp] at hq
    have hb9 := wr_n (k := fKd (tLd (I 8) (I 7) (I 6 2) s l p)) (o := fBC (fMy (tLd (I 8) (I 7) (I 6 2) s l p) - 1)) (cv := cv p) hS69
    refine ih hp _ (by clear ih hq hcv; grind) ?_ hq
    show 0 ≤ (wr (fKd (tLd (I 8) (I 7) (I 6 2) s l p)) (fBC (fMy (tLd (I 8) (I 7) (I 6 2) s l p) - 1)) (cv p) S).1 ∧ (wr (fKd (tLd (I 8) (I 7) (I 6 2) s l p)) (fBC (fMy (tLd (I 8) (I 7) (I 6 2) s l p) - 1)) (cv p) S).1 ≤ 3 * (p + 1)
    generalize (wr (fKd (tLd (I 8) (I 7) (I 6 2) s l p)) (fBC (fMy (tLd (I 8) (I 7) (I 6 2) s l p) - 1)) (cv p) S).1 = w at *
    clear ih hq hcv
    grind
theorem l_X11_setPageR {d z : Nat} {N : Nat → Nat} {I : Nat → Nat → Int32} {L : Nat → Nat → Int64} {R : Nat → Nat → Option Nat} {Q : qP} {y : Nat} {s l f n : Int32} {cv : Int32 → Int32} (hh : 0 ≤ I 6 2 ∧ I 6 2 ≤ 6) (hst : qStat (z, N, I, L, R)) (hn : 0 ≤ n ∧ n ≤ 24) (hw : I 40 2 = n) (hcv : ∀ p : Int32, 0 ≤ p → p < n → I 42 p.toNatClampNeg = cv p) : ∀ (p : Int32), ∀ S : Int32 × (Nat → Int32), 0 ≤ p → (0 ≤ S.1 ∧ S.1 ≤ 3 * p) → Q none (z, N, mP I (upF n (gPg (fun p => tLd (I 8) (I 7) (I 6 2) s l p) cv) p S), L, R) → qJ m_X11_setPage (qWP (d + 5)) Q 65 [(6, .int p), (5, .int n), (4, .ref y), (3, .int f), (2, .int l), (1, .int s), (0, .ref 2)] [] 0 0 (z, N, mP I S, L, R) := by
  refine up_ind (n) fun p ih => ?_
  intro S h0 hS hq
  refine qJ_run (qWP_mono _) [65] 400 ?_
  refine ⟨fun (c1 : n ≤ p) => ?_, fun (c1 : ¬ n ≤ p) => ?_⟩
  · change Q none (z, N, mP I S, L, R)
    rw [upF_ge (Int32.not_lt.mpr c1)] at hq
    exact hq
  · refine ⟨⟨Nat.le_refl _, Nat.le_refl _⟩, ?_⟩
    refine c_X5_leading (d := d + 1) (I := mP I S) (by rw [mP_ne (by decide) (by decide)]; exact hh) fun v1 ht => ?_
    rw [mP_ne (by decide) (by decide), mP_ne (by decide) (by decide), mP_ne (by decide) (by decide)] at ht
    obtain rfl : v1 = tLd (I 8) (I 7) (I 6 2) s l p := ht
    refine ⟨⟨Nat.le_refl _, Nat.le_refl _⟩, ?_⟩
    have hp : p < n := Int32.not_le.mp (by assumption)
    refine c_X7_carriedAt (I := mP I S) (by rw [mP_ne (by decide) (by decide), hw]; exact hn) fun v2 hc9 => ?_
    rw [mP_ne (by decide) (by decide), mP_ne (by decide) (by decide), hw, if_pos ⟨h0, hp, Int32.lt_of_lt_of_le hp hn.2⟩, hcv p h0 hp] at hc9
    obtain rfl : v2 = cv p := hc9
    refine ⟨⟨Nat.le_refl _, Nat.le_refl _⟩, ?_⟩
    have hS69 : 0 ≤ S.1 ∧ S.1 ≤ 69 := by clear ih hq hcv; grind
    refine c_X3_writeS (d := d + 2) (S := S) (mP_st (S := S) hst) hS69 ?_
    have hp : p < n := Int32.not_le.mp c1
    rw [upF_on hp] at hq
    have hb9 := wr_n (k := fKd (tLd (I 8) (I 7) (I 6 2) s l p)) (o := fBC (fMy (tLd (I 8) (I 7) (I 6 2) s l p) - 1)) (cv := cv p) hS69
    refine ih hp _ (by clear ih hq hcv; grind) ?_ hq
    show 0 ≤ (wr (fKd (tLd (I 8) (I 7) (I 6 2) s l p)) (fBC (fMy (tLd (I 8) (I 7) (I 6 2) s l p) - 1)) (cv p) S).1 ∧ (wr (fKd (tLd (I 8) (I 7) (I 6 2) s l p)) (fBC (fMy (tLd (I 8) (I 7) (I 6 2) s l p) - 1)) (cv p) S).1 ≤ 3 * (p + 1)
    generalize (wr (fKd (tLd (I 8) (I 7) (I 6 2) s l p)) (fBC (fMy (tLd (I 8) (I 7) (I 6 2) s l p) - 1)) (cv p) S).1 = w at *
    clear ih hq hcv
    grind
