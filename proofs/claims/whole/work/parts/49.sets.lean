/-! steps at a set of texts whose number is a variable -/
theorem qIs_i {a ci : Nat} {k : Prop} (h : qK a = ci) (hk : k) : qIs a ci k := by
  unfold qIs
  rw [h, show Nat.beq ci ci = true from Nat.beq_refl ci]
  exact hk
theorem qIn_i {ph : Bool} {a : Nat} {M : qM} {k : Prop} (h : a < M.1 + 2) (hk : k) : qIn ph a M k := by
  unfold qIn
  split
  · exact hk
  · exact ⟨h, hk⟩
theorem qG9 {h : Nat} (hk : qK h = 9) : qG h 0 = some (h + 1) := by
  unfold qG
  rw [hk]
  rfl
theorem blt2 {a : Nat} (hk : qK a = 15) : Nat.blt a 2 = false := by
  match a, hk with
  | 0, hk => exact absurd hk (by decide)
  | 1, hk => exact absurd hk (by decide)
  | a + 2, _ =>
    have : ¬ (Nat.blt (a + 2) 2 = true) := fun h => by have := Nat.blt_eq.mp h; omega
    match hb : Nat.blt (a + 2) 2 with
    | false => rfl
    | true => exact absurd hb this
theorem qLen_n {N : Nat → Nat} {a : Nat} (hz : qSz a = none) : qLen N a = N a := by
  unfold qLen
  rw [hz]
theorem st_get1 {T : qT} {cs : qC} {Q : qP} {X : qX} {pc l h : Nat} {ls : List (Nat × Value)} {r : List Value} {uc us : Nat} {M : qM} (hq : qFindB (qBl T) pc = some (.getfield 901, l)) (hk : qK h = 9) (hl : h < M.1 + 2) (hx : X (pc + l) ls (.int (M.2.2.1 h 1) :: r) uc us M) : qStep T cs Q X pc ls (.ref h :: r) uc us M := by
  unfold qStep
  rw [hq]
  exact qIs_i hk (qIn_i hl hx)
theorem st_get0 {T : qT} {cs : qC} {Q : qP} {X : qX} {pc l h : Nat} {ls : List (Nat × Value)} {r : List Value} {uc us : Nat} {M : qM} (hq : qFindB (qBl T) pc = some (.getfield 900, l)) (hph : qPh T = true) (hk : qK h = 9) (hl : h < M.1 + 2) (hx : X (pc + l) ls (.ref (h + 1) :: r) uc us M) : qStep T cs Q X pc ls (.ref h :: r) uc us M := by
  unfold qStep
  rw [hq]
  have e1 : qTf (900 / 100) (900 % 100) = 2 := by decide
  have e2 : (bif qPh T then qG h (900 % 100) else none) = some (h + 1) := by rw [hph]; exact qG9 hk
  dsimp only [qA1]
  rw [e1]
  (try dsimp only)
  rw [e2]
  exact qIs_i hk (qIn_i hl hx)
theorem st_put1 {T : qT} {cs : qC} {Q : qP} {X : qX} {pc l h : Nat} {ls : List (Nat × Value)} {x : Int32} {r : List Value} {uc us : Nat} {M : qM} (hq : qFindB (qBl T) pc = some (.putfield 901, l)) (hk : qK h = 9) (hl : h < M.1 + 2) (hx : X (pc + l) ls r uc us (M.1, M.2.1, q2 M.2.2.1 h 1 x, M.2.2.2.1, M.2.2.2.2)) : qStep T cs Q X pc ls (.int x :: .ref h :: r) uc us M := by
  unfold qStep
  rw [hq]
  exact qIs_i hk (qIn_i hl hx)
theorem st_len {T : qT} {cs : qC} {Q : qP} {X : qX} {pc l a : Nat} {ls : List (Nat × Value)} {r : List Value} {uc us : Nat} {M : qM} (hq : qFindB (qBl T) pc = some (.arraylength, l)) (hk : qK a = 15) (hz : qSz a = none) (hl : a < M.1 + 2) (hx : X (pc + l) ls (.int (Int32.ofNat (M.2.1 a)) :: r) uc us M) : qStep T cs Q X pc ls (.ref a :: r) uc us M := by
  unfold qStep
  rw [hq]
  dsimp only [qA1]
  rw [blt2 hk, hk, qLen_n hz]
  exact qIn_i hl hx
theorem st_lald {T : qT} {cs : qC} {Q : qP} {X : qX} {pc l a : Nat} {ls : List (Nat × Value)} {i : Int32} {r : List Value} {uc us : Nat} {M : qM} (hq : qFindB (qBl T) pc = some (.laload, l)) (hk : qK a = 15) (hz : qSz a = none) (hl : a < M.1 + 2) (hi : vp_in i (M.2.1 a)) (hx : X (pc + l) ls (.long (M.2.2.2.1 a i.toNatClampNeg) :: r) uc us M) : qStep T cs Q X pc ls (.int i :: .ref a :: r) uc us M := by
  unfold qStep
  rw [hq]
  refine qIs_i hk (qIn_i hl ⟨?_, hx⟩)
  rw [qLen_n hz]
  exact hi
theorem st_last {T : qT} {cs : qC} {Q : qP} {X : qX} {pc l a : Nat} {ls : List (Nat × Value)} {i : Int32} {x : Int64} {r : List Value} {uc us : Nat} {M : qM} (hq : qFindB (qBl T) pc = some (.lastore, l)) (hk : qK a = 15) (hz : qSz a = none) (hl : a < M.1 + 2) (hi : vp_in i (M.2.1 a)) (hx : X (pc + l) ls r uc us (M.1, M.2.1, M.2.2.1, q2 M.2.2.2.1 a i.toNatClampNeg x, M.2.2.2.2)) : qStep T cs Q X pc ls (.long x :: .int i :: .ref a :: r) uc us M := by
  unfold qStep
  rw [hq]
  refine qIs_i hk (qIn_i hl ⟨?_, hx⟩)
  rw [qLen_n hz]
  exact hi
theorem st_call {T : qT} {cs : qC} {Q : qP} {X : qX} {pc l j h : Nat} {ls : List (Nat × Value)} {st as rest : List Value} {uc us : Nat} {M : qM} (hq : qFindB (qBl T) pc = some (.invokevirtual j, l)) (ht : ∀ k : List Value → List Value → Prop, k as (.ref h :: rest) → qTake (qNa (qTab j)) [] st k) (hk : qK h = 9) (ho : qOc (qTab j) = 9) (hl : h < M.1 + 2) (hx : qCall T cs j (.ref h :: as) ls rest M uc us fun st'' uc' us' M' => X (pc + l) ls st'' uc' us' M') : qStep T cs Q X pc ls st uc us M := by
  unfold qStep
  rw [hq]
  exact ht _ (qIs_i (hk.trans ho.symm) (qIn_i hl hx))
/-! what a set holds -/
def sHd (n : Int32) (hl : Nat → Int64) (i : Int32) : Int64 := if 0 ≤ i ∧ i < n then hl (2 * i).toNatClampNeg else 0
def sTl (n : Int32) (hl : Nat → Int64) (i : Int32) : Int64 := if 0 ≤ i ∧ i < n then hl (2 * i + 1).toNatClampNeg else 0
theorem ofN {n : Nat} (h : n ≤ 400) : (Int32.ofNat n).toInt = (n : Int) := nI_toInt (by omega)
theorem set_ix {s i : Int32} {n : Nat} (hs : 0 ≤ s ∧ s ≤ 200) (hn : 2 * s.toNatClampNeg ≤ n ∧ n ≤ 400) (hi : 0 ≤ i ∧ i < s) : (2 * i < Int32.ofNat n ∧ 2 * i + 1 < Int32.ofNat n) ∧ (vp_in (2 * i) n ∧ vp_in (2 * i + 1) n) ∧ (2 * i).toNatClampNeg = 2 * i.toNatClampNeg ∧ (2 * i + 1).toNatClampNeg = 2 * i.toNatClampNeg + 1 := by
  have h1 := i0 hi.1
  have h2 := Int32.lt_iff_toInt_lt.mp hi.2
  have h3 : s.toInt ≤ 200 := Int32.le_iff_toInt_le.mp hs.2
  have h4 := hn.1
  rw [tcn] at h4
  have e2 : (2 * i).toInt = 2 * i.toInt := by
    have e : 2 * i = i + i := by grind
    rw [e, ti_add (by omega)]
    omega
  have e3 : (2 * i + 1).toInt = 2 * i.toInt + 1 := by
    rw [ti_add (by rw [e2, show (1 : Int32).toInt = 1 from rfl]; omega), e2]
    rfl
  have e4 := ofN hn.2
  refine ⟨⟨?_, ?_⟩, ⟨?_, ?_⟩, ?_, ?_⟩
  · rw [fa_lt, e2, e4]; omega
  · rw [fa_lt, e3, e4]; omega
  · rw [vp_in_iff, e2]; omega
  · rw [vp_in_iff, e3]; omega
  · rw [tcn, tcn, e2]; omega
  · rw [tcn, tcn, e3]; omega
def dc5 (x : Int64) (b : Int32) : Int32 := if Int64.toInt32 ((x >>> (Int32.toInt64 (b * 5) &&& 63)) &&& 31) = 0 then -1 else if Int64.toInt32 ((x >>> (Int32.toInt64 (b * 5) &&& 63)) &&& 31) = 1 then 26 else Int64.toInt32 ((x >>> (Int32.toInt64 (b * 5) &&& 63)) &&& 31) - 2
def cLt (hd tl : Int64) (k : Int32) : Int32 := if k < 0 ∨ 24 ≤ k then -1 else if k < 12 then dc5 hd (11 - k) else dc5 tl (11 - (k - 12))
def sLt (n : Int32) (hl : Nat → Int64) (i k : Int32) : Int32 := cLt (sHd n hl i) (sTl n hl i) k
def onL (x : Int32) : Int32 := if x = -1 then 26 else x
theorem c_X9_size {d z : Nat} {N : Nat → Nat} {I : Nat → Nat → Int32} {L : Nat → Nat → Int64} {R : Nat → Nat → Option Nat} {Q : qP}  {h : Nat} (hk : qK h = 9) (hk1 : qK (h + 1) = 15) (hz : qSz (h + 1) = none) (hlt : h + 1 < z + 2) (hsz : 0 ≤ I h 1 ∧ I h 1 ≤ 200) (hN : 2 * (I h 1).toNatClampNeg ≤ N (h + 1) ∧ N (h + 1) ≤ 400) (h_ : ∀ v : Int32, v = I h 1 → Q (some (.int v)) (z, N, I, L, R)) : qWP (d + 1) 103 [.ref h] (z, N, I, L, R) Q := by
  refine qWP_of m_X9_size rfl rfl [(0, .ref h)] rfl ?_
  refine qJ_run (qWP_mono _) [1] 400 ?_
  change qJ m_X9_size (qWP _) Q 1 [(0, .ref h)] [.ref h] _ _ (z, N, I, L, R)
  refine qJ_run (qWP_mono _) [1] 400 ?_
  refine st_get1 rfl hk (Nat.lt_of_succ_lt hlt) ?_
  change Q (some (.int (I h 1))) (z, N, I, L, R)
  exact h_ _ rfl
theorem c_X9_head {d z : Nat} {N : Nat → Nat} {I : Nat → Nat → Int32} {L : Nat → Nat → Int64} {R : Nat → Nat → Option Nat} {Q : qP} {i : Int32} {h : Nat} (hk : qK h = 9) (hk1 : qK (h + 1) = 15) (hz : qSz (h + 1) = none) (hlt : h + 1 < z + 2) (hsz : 0 ≤ I h 1 ∧ I h 1 ≤ 200) (hN : 2 * (I h 1).toNatClampNeg ≤ N (h + 1) ∧ N (h + 1) ≤ 400) (h_ : ∀ v : Int64, v = sHd (I h 1) (L (h + 1)) i → Q (some (.long v)) (z, N, I, L, R)) : qWP (d + 1) 104 [.ref h, .int i] (z, N, I, L, R) Q := by
  refine qWP_of m_X9_head rfl rfl [(0, .ref h), (1, .int i)] rfl ?_
  refine qJ_run (qWP_mono _) [6, 16, 19, 24, 30] 400 ?_
  refine ⟨fun (c1 : i < 0) => ?_, fun (c1 : ¬ i < 0) => ?_⟩
  · change Q (some (.long 0)) (z, N, I, L, R)
    refine h_ _ ?_
    unfold sHd
    by_cases hi : 0 ≤ i ∧ i < I h 1
    · have h9 := set_ix hsz hN hi
      rw [if_pos hi]
      all_goals first | rfl | (exfalso; have h8 := h9.1; clear h_; grind)
    · rw [if_neg hi]
      all_goals first | rfl | (exfalso; clear h_; grind)
  · change qJ m_X9_head (qWP _) Q 6 [(0, .ref h), (1, .int i)] [.ref h, .int i] _ _ (z, N, I, L, R)
    refine qJ_run (qWP_mono _) [6, 16, 19, 24, 30] 400 ?_
    refine st_get1 rfl hk (Nat.lt_of_succ_lt hlt) ?_
    refine ⟨fun (c2 : (I h 1) ≤ i) => ?_, fun (c2 : ¬ (I h 1) ≤ i) => ?_⟩
    · change Q (some (.long 0)) (z, N, I, L, R)
      refine h_ _ ?_
      unfold sHd
      by_cases hi : 0 ≤ i ∧ i < I h 1
      · have h9 := set_ix hsz hN hi
        rw [if_pos hi]
        all_goals first | rfl | (exfalso; have h8 := h9.1; clear h_; grind)
      · rw [if_neg hi]
        all_goals first | rfl | (exfalso; clear h_; grind)
    · change qJ m_X9_head (qWP _) Q 16 [(0, .ref h), (1, .int i)] [.ref h, .int (2 * i)] _ _ (z, N, I, L, R)
      refine qJ_run (qWP_mono _) [6, 16, 19, 24, 30] 400 ?_
      refine st_get0 rfl rfl hk (Nat.lt_of_succ_lt hlt) ?_
      change qJ m_X9_head (qWP _) Q 19 [(0, .ref h), (1, .int i)] [.ref (h + 1), .int (2 * i)] _ _ (z, N, I, L, R)
      refine qJ_run (qWP_mono _) [6, 16, 19, 24, 30] 400 ?_
      refine st_len rfl hk1 hz hlt ?_
      refine ⟨fun (c3 : (Int32.ofNat (N (h + 1))) ≤ (2 * i)) => ?_, fun (c3 : ¬ (Int32.ofNat (N (h + 1))) ≤ (2 * i)) => ?_⟩
      · change Q (some (.long 0)) (z, N, I, L, R)
        refine h_ _ ?_
        unfold sHd
        by_cases hi : 0 ≤ i ∧ i < I h 1
        · have h9 := set_ix hsz hN hi
          rw [if_pos hi]
          all_goals first | rfl | (exfalso; have h8 := h9.1; clear h_; grind)
        · rw [if_neg hi]
          all_goals first | rfl | (exfalso; clear h_; grind)
      · change qJ m_X9_head (qWP _) Q 24 [(0, .ref h), (1, .int i)] [.ref h] _ _ (z, N, I, L, R)
        refine qJ_run (qWP_mono _) [6, 16, 19, 24, 30] 400 ?_
        refine st_get0 rfl rfl hk (Nat.lt_of_succ_lt hlt) ?_
        change qJ m_X9_head (qWP _) Q 30 [(0, .ref h), (1, .int i)] [.int (2 * i), .ref (h + 1)] _ _ (z, N, I, L, R)
        refine qJ_run (qWP_mono _) [6, 16, 19, 24, 30] 400 ?_
        refine st_lald rfl hk1 hz hlt ?_ ?_
        · have h9 := (set_ix hsz hN (i := i) (by clear h_; grind)).2.1
          first | exact h9.1 | exact h9.2
        change Q (some (.long (L (h + 1) ((2 * i).toNatClampNeg)))) (z, N, I, L, R)
        refine h_ _ ?_
        unfold sHd
        by_cases hi : 0 ≤ i ∧ i < I h 1
        · have h9 := set_ix hsz hN hi
          rw [if_pos hi]
          all_goals first | rfl | (exfalso; have h8 := h9.1; clear h_; grind)
        · rw [if_neg hi]
          all_goals first | rfl | (exfalso; clear h_; grind)
theorem c_X9_tail {d z : Nat} {N : Nat → Nat} {I : Nat → Nat → Int32} {L : Nat → Nat → Int64} {R : Nat → Nat → Option Nat} {Q : qP} {i : Int32} {h : Nat} (hk : qK h = 9) (hk1 : qK (h + 1) = 15) (hz : qSz (h + 1) = none) (hlt : h + 1 < z + 2) (hsz : 0 ≤ I h 1 ∧ I h 1 ≤ 200) (hN : 2 * (I h 1).toNatClampNeg ≤ N (h + 1) ∧ N (h + 1) ≤ 400) (h_ : ∀ v : Int64, v = sTl (I h 1) (L (h + 1)) i → Q (some (.long v)) (z, N, I, L, R)) : qWP (d + 1) 105 [.ref h, .int i] (z, N, I, L, R) Q := by
  refine qWP_of m_X9_tail rfl rfl [(0, .ref h), (1, .int i)] rfl ?_
  refine qJ_run (qWP_mono _) [6, 18, 21, 26, 34] 400 ?_
  refine ⟨fun (c1 : i < 0) => ?_, fun (c1 : ¬ i < 0) => ?_⟩
  · change Q (some (.long 0)) (z, N, I, L, R)
    refine h_ _ ?_
    unfold sTl
    by_cases hi : 0 ≤ i ∧ i < I h 1
    · have h9 := set_ix hsz hN hi
      rw [if_pos hi]
      all_goals first | rfl | (exfalso; have h8 := h9.1; clear h_; grind)
    · rw [if_neg hi]
      all_goals first | rfl | (exfalso; clear h_; grind)
  · change qJ m_X9_tail (qWP _) Q 6 [(0, .ref h), (1, .int i)] [.ref h, .int i] _ _ (z, N, I, L, R)
    refine qJ_run (qWP_mono _) [6, 18, 21, 26, 34] 400 ?_
    refine st_get1 rfl hk (Nat.lt_of_succ_lt hlt) ?_
    refine ⟨fun (c2 : (I h 1) ≤ i) => ?_, fun (c2 : ¬ (I h 1) ≤ i) => ?_⟩
    · change Q (some (.long 0)) (z, N, I, L, R)
      refine h_ _ ?_
      unfold sTl
      by_cases hi : 0 ≤ i ∧ i < I h 1
      · have h9 := set_ix hsz hN hi
        rw [if_pos hi]
        all_goals first | rfl | (exfalso; have h8 := h9.1; clear h_; grind)
      · rw [if_neg hi]
        all_goals first | rfl | (exfalso; clear h_; grind)
    · change qJ m_X9_tail (qWP _) Q 18 [(0, .ref h), (1, .int i)] [.ref h, .int ((2 * i) + 1)] _ _ (z, N, I, L, R)
      refine qJ_run (qWP_mono _) [6, 18, 21, 26, 34] 400 ?_
      refine st_get0 rfl rfl hk (Nat.lt_of_succ_lt hlt) ?_
      change qJ m_X9_tail (qWP _) Q 21 [(0, .ref h), (1, .int i)] [.ref (h + 1), .int ((2 * i) + 1)] _ _ (z, N, I, L, R)
      refine qJ_run (qWP_mono _) [6, 18, 21, 26, 34] 400 ?_
      refine st_len rfl hk1 hz hlt ?_
      refine ⟨fun (c3 : (Int32.ofNat (N (h + 1))) ≤ ((2 * i) + 1)) => ?_, fun (c3 : ¬ (Int32.ofNat (N (h + 1))) ≤ ((2 * i) + 1)) => ?_⟩
      · change Q (some (.long 0)) (z, N, I, L, R)
        refine h_ _ ?_
        unfold sTl
        by_cases hi : 0 ≤ i ∧ i < I h 1
        · have h9 := set_ix hsz hN hi
          rw [if_pos hi]
          all_goals first | rfl | (exfalso; have h8 := h9.1; clear h_; grind)
        · rw [if_neg hi]
          all_goals first | rfl | (exfalso; clear h_; grind)
      · change qJ m_X9_tail (qWP _) Q 26 [(0, .ref h), (1, .int i)] [.ref h] _ _ (z, N, I, L, R)
        refine qJ_run (qWP_mono _) [6, 18, 21, 26, 34] 400 ?_
        refine st_get0 rfl rfl hk (Nat.lt_of_succ_lt hlt) ?_
        change qJ m_X9_tail (qWP _) Q 34 [(0, .ref h), (1, .int i)] [.int ((2 * i) + 1), .ref (h + 1)] _ _ (z, N, I, L, R)
        refine qJ_run (qWP_mono _) [6, 18, 21, 26, 34] 400 ?_
        refine st_lald rfl hk1 hz hlt ?_ ?_
        · have h9 := (set_ix hsz hN (i := i) (by clear h_; grind)).2.1
          first | exact h9.1 | exact h9.2
        change Q (some (.long (L (h + 1) (((2 * i) + 1).toNatClampNeg)))) (z, N, I, L, R)
        refine h_ _ ?_
        unfold sTl
        by_cases hi : 0 ≤ i ∧ i < I h 1
        · have h9 := set_ix hsz hN hi
          rw [if_pos hi]
          all_goals first | rfl | (exfalso; have h8 := h9.1; clear h_; grind)
        · rw [if_neg hi]
          all_goals first | rfl | (exfalso; clear h_; grind)
theorem c_X9_letter {d z : Nat} {N : Nat → Nat} {I : Nat → Nat → Int32} {L : Nat → Nat → Int64} {R : Nat → Nat → Option Nat} {Q : qP} {i : Int32} {k : Int32} {h : Nat} (hk : qK h = 9) (hk1 : qK (h + 1) = 15) (hz : qSz (h + 1) = none) (hlt : h + 1 < z + 2) (hsz : 0 ≤ I h 1 ∧ I h 1 ≤ 200) (hN : 2 * (I h 1).toNatClampNeg ≤ N (h + 1) ∧ N (h + 1) ≤ 400) (h_ : ∀ v : Int32, v = sLt (I h 1) (L (h + 1)) i k → Q (some (.int v)) (z, N, I, L, R)) : qWP (d + 2) 106 [.ref h, .int i, .int k] (z, N, I, L, R) Q := by
  refine qWP_of m_X9_letter rfl rfl [(0, .ref h), (1, .int i), (2, .int k)] rfl ?_
  refine qJ_run (qWP_mono _) [30, 38] 400 ?_
  refine ⟨fun (c1 : k < 0) => ?_, fun (c1 : ¬ k < 0) => ?_⟩
  · change Q (some (.int (-1))) (z, N, I, L, R)
    refine h_ _ ?_
    unfold sLt cLt
    rw [if_pos (show k < 0 ∨ 24 ≤ k by clear h_; grind)]
  · refine ⟨fun (c2 : k < 24) => ?_, fun (c2 : ¬ k < 24) => ?_⟩
    · refine ⟨fun (c3 : 12 ≤ k) => ?_, fun (c3 : ¬ 12 ≤ k) => ?_⟩
      · refine ⟨fun _ => ?_, fun h => absurd h (by decide)⟩
        change qJ m_X9_letter (qWP _) Q 38 [(3, .int 0), (0, .ref h), (1, .int i), (2, .int k)] [.int i, .ref h] _ _ (z, N, I, L, R)
        refine qJ_run (qWP_mono _) [30, 38] 400 ?_
        refine st_call rfl (fun _ h => h) hk rfl (Nat.lt_of_succ_lt hlt) ?_
        refine ⟨⟨Nat.le_refl _, Nat.le_refl _⟩, ?_⟩
        refine c_X9_tail hk hk1 hz hlt hsz hN fun v1 hv1 => ?_
        refine ⟨fun _ => ?_, fun h => absurd h (by decide)⟩
        refine ⟨fun (c4 : ¬ (Int64.toInt32 ((v1 >>> (Int32.toInt64 ((11 - (k - 12)) * 5) &&& 63)) &&& 31)) = 0) => ?_, fun (c4 : (Int64.toInt32 ((v1 >>> (Int32.toInt64 ((11 - (k - 12)) * 5) &&& 63)) &&& 31)) = 0) => ?_⟩
        · refine ⟨fun (c5 : ¬ (Int64.toInt32 ((v1 >>> (Int32.toInt64 ((11 - (k - 12)) * 5) &&& 63)) &&& 31)) = 1) => ?_, fun (c5 : (Int64.toInt32 ((v1 >>> (Int32.toInt64 ((11 - (k - 12)) * 5) &&& 63)) &&& 31)) = 1) => ?_⟩
          · change Q (some (.int ((Int64.toInt32 ((v1 >>> (Int32.toInt64 ((11 - (k - 12)) * 5) &&& 63)) &&& 31)) - 2))) (z, N, I, L, R)
            refine h_ _ ?_
            unfold sLt cLt
            have hk9 : ¬ (k < 0 ∨ 24 ≤ k) := by clear h_; grind
            rw [if_neg hk9]
            rw [if_neg (show ¬ k < 12 by clear h_; grind)]
            unfold dc5
            subst hv1
            first | exact (if_pos (by assumption)).symm | (rw [if_neg (by assumption)]; first | exact (if_pos (by assumption)).symm | exact (if_neg (by assumption)).symm)
          · change Q (some (.int 26)) (z, N, I, L, R)
            refine h_ _ ?_
            unfold sLt cLt
            have hk9 : ¬ (k < 0 ∨ 24 ≤ k) := by clear h_; grind
            rw [if_neg hk9]
            rw [if_neg (show ¬ k < 12 by clear h_; grind)]
            unfold dc5
            subst hv1
            first | exact (if_pos (by assumption)).symm | (rw [if_neg (by assumption)]; first | exact (if_pos (by assumption)).symm | exact (if_neg (by assumption)).symm)
        · change Q (some (.int (-1))) (z, N, I, L, R)
          refine h_ _ ?_
          unfold sLt cLt
          have hk9 : ¬ (k < 0 ∨ 24 ≤ k) := by clear h_; grind
          rw [if_neg hk9]
          rw [if_neg (show ¬ k < 12 by clear h_; grind)]
          unfold dc5
          subst hv1
          first | exact (if_pos (by assumption)).symm | (rw [if_neg (by assumption)]; first | exact (if_pos (by assumption)).symm | exact (if_neg (by assumption)).symm)
      · refine ⟨fun h => absurd h (by decide), fun _ => ?_⟩
        change qJ m_X9_letter (qWP _) Q 30 [(3, .int 1), (0, .ref h), (1, .int i), (2, .int k)] [.int i, .ref h] _ _ (z, N, I, L, R)
        refine qJ_run (qWP_mono _) [30, 38] 400 ?_
        refine st_call rfl (fun _ h => h) hk rfl (Nat.lt_of_succ_lt hlt) ?_
        refine ⟨⟨Nat.le_refl _, Nat.le_refl _⟩, ?_⟩
        refine c_X9_head hk hk1 hz hlt hsz hN fun v2 hv2 => ?_
        refine ⟨fun h => absurd h (by decide), fun _ => ?_⟩
        refine ⟨fun (c6 : ¬ (Int64.toInt32 ((v2 >>> (Int32.toInt64 ((11 - k) * 5) &&& 63)) &&& 31)) = 0) => ?_, fun (c6 : (Int64.toInt32 ((v2 >>> (Int32.toInt64 ((11 - k) * 5) &&& 63)) &&& 31)) = 0) => ?_⟩
        · refine ⟨fun (c7 : ¬ (Int64.toInt32 ((v2 >>> (Int32.toInt64 ((11 - k) * 5) &&& 63)) &&& 31)) = 1) => ?_, fun (c7 : (Int64.toInt32 ((v2 >>> (Int32.toInt64 ((11 - k) * 5) &&& 63)) &&& 31)) = 1) => ?_⟩
          · change Q (some (.int ((Int64.toInt32 ((v2 >>> (Int32.toInt64 ((11 - k) * 5) &&& 63)) &&& 31)) - 2))) (z, N, I, L, R)
            refine h_ _ ?_
            unfold sLt cLt
            have hk9 : ¬ (k < 0 ∨ 24 ≤ k) := by clear h_; grind
            rw [if_neg hk9]
            rw [if_pos (show k < 12 by clear h_; grind)]
            unfold dc5
            subst hv2
            first | exact (if_pos (by assumption)).symm | (rw [if_neg (by assumption)]; first | exact (if_pos (by assumption)).symm | exact (if_neg (by assumption)).symm)
          · change Q (some (.int 26)) (z, N, I, L, R)
            refine h_ _ ?_
            unfold sLt cLt
            have hk9 : ¬ (k < 0 ∨ 24 ≤ k) := by clear h_; grind
            rw [if_neg hk9]
            rw [if_pos (show k < 12 by clear h_; grind)]
            unfold dc5
            subst hv2
            first | exact (if_pos (by assumption)).symm | (rw [if_neg (by assumption)]; first | exact (if_pos (by assumption)).symm | exact (if_neg (by assumption)).symm)
        · change Q (some (.int (-1))) (z, N, I, L, R)
          refine h_ _ ?_
          unfold sLt cLt
          have hk9 : ¬ (k < 0 ∨ 24 ≤ k) := by clear h_; grind
          rw [if_neg hk9]
          rw [if_pos (show k < 12 by clear h_; grind)]
          unfold dc5
          subst hv2
          first | exact (if_pos (by assumption)).symm | (rw [if_neg (by assumption)]; first | exact (if_pos (by assumption)).symm | exact (if_neg (by assumption)).symm)
    · change Q (some (.int (-1))) (z, N, I, L, R)
      refine h_ _ ?_
      unfold sLt cLt
      rw [if_pos (show k < 0 ∨ 24 ≤ k by clear h_; grind)]
