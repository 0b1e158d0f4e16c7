/-! feed -/
def fdB (x : Int64) (k : Int32) : Int32 := Int64.toInt32 (x >>> (Int32.toInt64 (8 * k) &&& 63))
def gFd (s : Int32) (x : Int64) (k : Int32) (e : Nat → Int32) : Nat → Int32 := uI e (s + k).toNatClampNeg (vp_nar .byte (fdB x k).toInt8.toInt32)
def gFr (s : Int32) (x : Int64) (k : Int32) (e : Nat → Int32) : Nat → Int32 := uI e (s + k).toNatClampNeg (fdB x k &&& 255)
theorem q2_loop {α : Type} {f : Nat → Nat → α} {a b i j : Nat} {e : Nat → α} {s v s' : α} (h : a ≠ b) : q2 (q2 (q2 (qRow f a e) b j s) a i v) b j s' = q2 (qRow f a (uI e i v)) b j s' := by
  funext c k
  by_cases hb : c = b
  · subst hb
    by_cases hk : k = j <;> simp [q2, qRow, hk, Ne.symm h]
  · by_cases ha : c = a
    · subst ha; simp [q2, qRow, uI, h]
    · simp [q2, qRow, ha, hb]
theorem feed_rel {s n : Int32} {x : Int64} {e e' : Nat → Int32} (hs : 0 ≤ s) (hn : 0 ≤ n ∧ n ≤ 8) (hsn : s + n ≤ 200) (hs2 : s ≤ 200) (h : ∀ y : Int32, 0 ≤ y → y < s → e' y.toNatClampNeg = e y.toNatClampNeg &&& 255 ∧ 0 ≤ e' y.toNatClampNeg ∧ e' y.toNatClampNeg ≤ 255) : ∀ y : Int32, 0 ≤ y → y < s + n → (upF n (gFr s x) 0 e') y.toNatClampNeg = (upF n (gFd s x) 0 e) y.toNatClampNeg &&& 255 ∧ 0 ≤ (upF n (gFr s x) 0 e') y.toNatClampNeg ∧ (upF n (gFr s x) 0 e') y.toNatClampNeg ≤ 255 := by
  have hr := upF_rel (n := n) (g := gFr s x) (g' := gFd s x) (fun k (e' e : Nat → Int32) => ∀ y : Int32, 0 ≤ y → y < s + k → e' y.toNatClampNeg = e y.toNatClampNeg &&& 255 ∧ 0 ≤ e' y.toNatClampNeg ∧ e' y.toNatClampNeg ≤ 255) (fun k e' e k0 k1 hh y y0 y1 => ?_) 0 e' e (by decide) hn.1 (fun y y0 y1 => h y y0 (by grind))
  · exact hr
  · unfold gFr gFd
    have h0 : 0 ≤ s + k := by grind
    rw [uI_t y0 h0, uI_t y0 h0]
    by_cases hy : y = s + k
    · rw [if_pos hy, if_pos hy, pk_vb, bp_b]
      exact ⟨rfl, a255 _⟩
    · rw [if_neg hy, if_neg hy]
      exact hh y y0 (by grind)
theorem RTp_feed {n m m' : Int32} {x : Int64} {b b' : Nat → Int32} (h : RTp m m' b b') (hn : 1 ≤ n ∧ n ≤ 8) (hf : m + n ≤ 200) : RTp (m + n) (m + n) (upF n (gFd m x) 0 b) (upF n (gFr m x) 0 b') := by
  obtain ⟨h1, h2, h3, h4⟩ := h
  exact ⟨rfl, by grind, hf, feed_rel h2 ⟨by grind, hn.2⟩ hf h3 h4⟩
theorem q2_self {α : Type} {f : Nat → Nat → α} {a j : Nat} : q2 f a j (f a j) = f := by
  funext c k
  by_cases h : c = a
  · subst h; by_cases hk : k = j <;> simp [q2, hk]
  · simp [q2, h]
theorem l_X8_append {d z : Nat} {N : Nat → Nat} {I : Nat → Nat → Int32} {L : Nat → Nat → Int64} {R : Nat → Nat → Option Nat} {Q : qP} {n : Int32} {x : Int64} (hn : 0 ≤ I 9 1 ∧ I 9 1 ≤ 200) (hnn : 1 ≤ n ∧ n ≤ 8) (hf : I 9 1 + n ≤ 200) : ∀ (k : Int32), ∀ e : Nat → Int32, 0 ≤ k → k ≤ n → Q (some (.int (I 9 1 + n))) (z, N, q2 (qRow I 10 (upF n (gFd (I 9 1) x) k  e)) 9 1 (I 9 1 + n), L, R) → qJ m_X8_append (qWP (d + 0)) Q 29 [(4, .int k), (2, .long x), (1, .int n), (0, .ref 9)] [] 0 0 (z, N, qRow I 10 e, L, R) := by
  refine up_ind (n) fun k ih => ?_
  intro e h0 h1 hq
  refine qJ_run (qWP_mono _) [29, 56] 400 ?_
  refine ⟨fun (c1 : n ≤ k) => ?_, fun (c1 : ¬ n ≤ k) => ?_⟩
  · change Q (some (.int ((I 9 1) + n))) (z, N, q2 (qRow I 10 e) 9 1 ((I 9 1) + n), L, R)
    rw [upF_ge (by clear ih hq; grind)] at hq
    exact hq
  · refine ⟨?_, ?_⟩
    · exact vb (x := (I 9 1) + k) (N := 200) 200 (by decide) (by clear ih hq; grind) (by clear ih hq; grind)
    refine qJ_M (M2 := (z, N, qRow I 10 (uI e (((I 9 1) + k).toNatClampNeg) (vp_nar .byte ((Int64.toInt32 (x >>> (Int32.toInt64 (8 * k) &&& 63))).toInt8.toInt32))), L, R)) (by (try dsimp only); (simp (decide := true) only [q2_qRow, q2_qRow2, q2_qRow3]) <;> rfl) ?_
    change qJ m_X8_append (qWP _) Q 56 [(4, .int k), (2, .long x), (1, .int n), (0, .ref 9)] [] _ _ (z, N, qRow I 10 (uI e (((I 9 1) + k).toNatClampNeg) (vp_nar .byte ((Int64.toInt32 (x >>> (Int32.toInt64 (8 * k) &&& 63))).toInt8.toInt32))), L, R)
    refine qJ_run (qWP_mono _) [29, 56] 400 ?_
    have hk : k < n := by clear ih hq; grind
    rw [upF_on hk] at hq
    exact ih hk _ (by clear ih hq; grind) (by clear ih hq; grind) hq
theorem c_X8_append {d z : Nat} {N : Nat → Nat} {I : Nat → Nat → Int32} {L : Nat → Nat → Int64} {R : Nat → Nat → Option Nat} {Q : qP} {n : Int32} {x : Int64} (hn : 0 ≤ I 9 1 ∧ I 9 1 ≤ 200) (hnn : 1 ≤ n ∧ n ≤ 8) (h1 : 200 < I 9 1 + n → Q (some (.int (-4))) (z, N, I, L, R)) (h2 : I 9 1 + n ≤ 200 → Q (some (.int (I 9 1 + n))) (z, N, q2 (qRow I 10 (upF n (gFd (I 9 1) x) 0  (I 10))) 9 1 (I 9 1 + n), L, R)) : qWP (d + 1) 95 [.ref 9, .int n, .long x] (z, N, I, L, R) Q := by
  refine qWP_of m_X8_append rfl rfl [(0, .ref 9), (1, .int n), (2, .long x)] rfl ?_
  refine qJ_run (qWP_mono _) [29] 400 ?_
  refine ⟨fun (c1 : n < 0) => ?_, fun (c1 : ¬ n < 0) => ?_⟩
  · change Q (some (.int (-4))) (z, N, I, L, R)
    exact h1 (by clear h1 h2; grind)
  · refine ⟨fun (c2 : (I 9 1) < 0) => ?_, fun (c2 : ¬ (I 9 1) < 0) => ?_⟩
    · change Q (some (.int (-4))) (z, N, I, L, R)
      exact h1 (by clear h1 h2; grind)
    · refine ⟨fun (c3 : ((I 9 1) + n) ≤ 200) => ?_, fun (c3 : ¬ ((I 9 1) + n) ≤ 200) => ?_⟩
      · refine qJ_nm (qWP_mono _) [] [(4, .int 0), (2, .long x), (1, .int n), (0, .ref 9)] rfl rfl rfl ?_
        refine qJ_M (M2 := (z, N, qRow I 10 (I 10), L, R)) (by rw [qRow_self]) ?_
        exact l_X8_append (d := d) hn hnn (by clear h1 h2; grind) 0 _ (by decide) (by clear h1 h2; grind) (h2 (by clear h1 h2; grind))
      · change Q (some (.int (-4))) (z, N, I, L, R)
        exact h1 (by clear h1 h2; grind)
theorem c_X11_feed {d z : Nat} {N : Nat → Nat} {I : Nat → Nat → Int32} {L : Nat → Nat → Int64} {R : Nat → Nat → Option Nat} {Q : qP} {n : Int32} {x : Int64} (hn : 0 ≤ I 9 1 ∧ I 9 1 ≤ 200) (h0 : ¬ (1 ≤ n ∧ n ≤ 8) → Q (some (.int (-2))) (z, N, I, L, R)) (h1 : (1 ≤ n ∧ n ≤ 8) → 200 < I 9 1 + n → Q (some (.int (-4))) (z, N, I, L, R)) (h2 : (1 ≤ n ∧ n ≤ 8) → I 9 1 + n ≤ 200 → Q (some (.int (I 9 1 + n))) (z, N, q2 (qRow I 10 (upF n (gFd (I 9 1) x) 0  (I 10))) 9 1 (I 9 1 + n), L, R)) : qWP (d + 2) 127 [.ref 2, .int n, .long x] (z, N, I, L, R) Q := by
  refine qWP_of m_X11_feed rfl rfl [(0, .ref 2), (1, .int n), (2, .long x)] rfl ?_
  refine qJ_run (qWP_mono _) [] 400 ?_
  refine ⟨fun (c1 : n < 1) => ?_, fun (c1 : ¬ n < 1) => ?_⟩
  · change Q (some (.int (-2))) (z, N, I, L, R)
    exact h0 (by clear h0 h1 h2; grind)
  · refine ⟨fun (c2 : n ≤ 8) => ?_, fun (c2 : ¬ n ≤ 8) => ?_⟩
    · refine ⟨⟨Nat.le_refl _, Nat.le_refl _⟩, ?_⟩
      refine c_X8_append (d := d) hn (by clear h0 h1 h2; grind) (fun e => ?_) (fun e => ?_)
      · change Q (some (.int (-4))) (z, N, I, L, R)
        exact h1 (by clear h0 h1 h2; grind) e
      · change Q (some (.int (I 9 1 + n))) (z, N, q2 (qRow I 10 (upF n (gFd (I 9 1) x) 0 (I 10))) 9 1 (I 9 1 + n), L, R)
        exact h2 (by clear h0 h1 h2; grind) e
    · change Q (some (.int (-2))) (z, N, I, L, R)
      exact h0 (by clear h0 h1 h2; grind)
theorem l_X12_feed {d z : Nat} {N : Nat → Nat} {I : Nat → Nat → Int32} {L : Nat → Nat → Int64} {R : Nat → Nat → Option Nat} {Q : qP} {n : Int32} {x : Int64} (hn : 0 ≤ I 65 6 ∧ I 65 6 ≤ 200) (hnn : 1 ≤ n ∧ n ≤ 8) (hf : I 65 6 + n ≤ 200) : ∀ (k : Int32), ∀ (e : Nat → Int32) (s : Int32), 0 ≤ k → k ≤ n → s = I 65 6 + k → Q (some (.int (I 65 6 + n))) (z, N, q2 (qRow I 69 (upF n (gFr (I 65 6) x) k  e)) 65 6 (I 65 6 + n), L, R) → qJ m_X12_feed (qWP (d + 1)) Q 32 [(4, .int k), (2, .long x), (1, .int n), (0, .ref 65)] [] 0 0 (z, N, q2 (qRow I 69 e) 65 6 s, L, R) := by
  refine up_ind (n) fun k ih => ?_
  intro e s h0 h1 hs hq
  refine qJ_run (qWP_mono _) [32] 400 ?_
  refine ⟨fun (c1 : n ≤ k) => ?_, fun (c1 : ¬ n ≤ k) => ?_⟩
  · change Q (some (.int s)) (z, N, q2 (qRow I 69 e) 65 6 s, L, R)
    have hk : k = n := by clear ih hq; grind
    rw [upF_ge (by clear ih hq; grind), ← hk, ← hs] at hq
    exact hq
  · refine ⟨?_, ?_⟩
    · exact vb (x := s) (N := 200) 200 (by decide) (by clear ih hq; grind) (by clear ih hq; grind)
    have hk : k < n := by clear ih hq; grind
    rw [upF_on hk] at hq
    refine qJ_M (M2 := (z, N, q2 (qRow I 69 (gFr (I 65 6) x k e)) 65 6 (s + 1), L, R)) (by dsimp only; rw [q2_loop (by decide)]; unfold gFr; rw [← hs]; rfl) ?_
    exact ih hk _ _ (by clear ih hq; grind) (by clear ih hq; grind) (by clear ih hq; grind) hq
theorem c_X12_feed {d z : Nat} {N : Nat → Nat} {I : Nat → Nat → Int32} {L : Nat → Nat → Int64} {R : Nat → Nat → Option Nat} {Q : qP} {n : Int32} {x : Int64} (hn : 0 ≤ I 65 6 ∧ I 65 6 ≤ 200) (h0 : ¬ (1 ≤ n ∧ n ≤ 8) → Q (some (.int (-2))) (z, N, I, L, R)) (h1 : (1 ≤ n ∧ n ≤ 8) → 200 < I 65 6 + n → Q (some (.int (-4))) (z, N, I, L, R)) (h2 : (1 ≤ n ∧ n ≤ 8) → I 65 6 + n ≤ 200 → Q (some (.int (I 65 6 + n))) (z, N, q2 (qRow I 69 (upF n (gFr (I 65 6) x) 0  (I 69))) 65 6 (I 65 6 + n), L, R)) : qWP (d + 2) 181 [.ref 65, .int n, .long x] (z, N, I, L, R) Q := by
  refine qWP_of m_X12_feed rfl rfl [(0, .ref 65), (1, .int n), (2, .long x)] rfl ?_
  refine qJ_run (qWP_mono _) [32] 400 ?_
  refine ⟨⟨Nat.le_refl _, Nat.le_refl _⟩, ?_⟩
  refine c_X12_isIn fun v1 hv1 => ?_
  simp only [in1_8] at hv1
  refine ⟨fun (c1 : ¬ v1 = 0) => ?_, fun (c1 : v1 = 0) => ?_⟩
  · refine ⟨fun (c2 : ((I 65 6) + n) ≤ 200) => ?_, fun (c2 : ¬ ((I 65 6) + n) ≤ 200) => ?_⟩
    · refine qJ_nm (qWP_mono _) [] [(4, .int 0), (2, .long x), (1, .int n), (0, .ref 65)] rfl rfl rfl ?_
      have hg : (1 ≤ n ∧ n ≤ 8) := by clear h0 h1 h2; grind
      refine qJ_M (M2 := (z, N, q2 (qRow I 69 (I 69)) 65 6 (I 65 6), L, R)) (by rw [qRow_self, q2_self]) ?_
      exact l_X12_feed (d := d) hn hg (by clear h0 h1 h2; grind) 0 _ _ (by decide) (by clear h0 h1 h2; grind) (by clear h0 h1 h2; grind) (h2 hg (by clear h0 h1 h2; grind))
    · change Q (some (.int (-4))) (z, N, I, L, R)
      exact h1 (by clear h0 h1 h2; grind) (by clear h0 h1 h2; grind)
  · change Q (some (.int (-2))) (z, N, I, L, R)
    exact h0 (by clear h0 h1 h2; grind)
theorem op_feed {M : qM} (hI : qInv M) (n : Int32) (x : Int64) : qOp 127 181 [.int n, .long x] M := by
  obtain ⟨z, N, I, L, R⟩ := M
  obtain ⟨hst, hSt, hHa, hTo, hTp, hEd, hDa, hPe, hTr, hTx, hMk, hKA⟩ := hI
  dsimp only at hst hSt hHa hTo hTp hEd hDa hPe hTr hTx hMk hKA
  have hn : 0 ≤ I 9 1 ∧ I 9 1 ≤ 200 := ⟨hTp.2.1, hTp.2.2.1⟩
  have hn2 : 0 ≤ I 65 6 ∧ I 65 6 ≤ 200 := by rw [hTp.1]; exact hn
  refine c_X11_feed hn (fun a0 => ?_) (fun a0 a1 => ?_) (fun a0 a1 => ?_)
  · refine ⟨_, rfl, ⟨rfl, rfl, hst⟩, ?_⟩
    refine c_X12_feed (by first | exact hn2 | (simp (decide := true) only [q2_ne, q2_r1, uI_at, uI_nj, qRow_ne, qRow_at]; exact hn2)) (fun b0 => ?_) (fun b0 b1 => ?_) (fun b0 b1 => ?_)
    · exact ⟨rfl, ⟨by first | rfl | (simp (decide := true) only [q2_ne, q2_r1, uI_at, uI_nj, qRow_ne, qRow_at]), rfl⟩, ⟨hst, (by first | exact hSt | (simp (decide := true) only [q2_ne, q2_r1, uI_at, uI_nj, qRow_ne, qRow_at]; exact hSt)), (by first | exact hHa | (simp (decide := true) only [q2_ne, q2_r1, uI_at, uI_nj, qRow_ne, qRow_at]; exact hHa)), (by first | exact hTo | (simp (decide := true) only [q2_ne, q2_r1, uI_at, uI_nj, qRow_ne, qRow_at]; exact hTo)), (by first | exact hTp | (simp (decide := true) only [q2_ne, q2_r1, uI_at, uI_nj, qRow_ne, qRow_at]; exact hTp)), (by first | exact hEd | (simp (decide := true) only [q2_ne, q2_r1, uI_at, uI_nj, qRow_ne, qRow_at]; exact hEd)), (by first | exact hDa | (simp (decide := true) only [q2_ne, q2_r1, uI_at, uI_nj, qRow_ne, qRow_at]; exact hDa)), (by first | exact hPe | (simp (decide := true) only [q2_ne, q2_r1, uI_at, uI_nj, qRow_ne, qRow_at]; exact hPe)), (by first | exact hTr | (simp (decide := true) only [q2_ne, q2_r1, uI_at, uI_nj, qRow_ne, qRow_at]; exact hTr)), (RTx_of hTx (by simp (decide := true) only [q2_ne, q2_r1, uI_at, uI_nj, qRow_ne, qRow_at]) (by simp (decide := true) only [q2_ne, q2_r1, uI_at, uI_nj, qRow_ne, qRow_at]) (by simp (decide := true) only [q2_ne, q2_r1, uI_at, uI_nj, qRow_ne, qRow_at]) (by simp (decide := true) only [q2_ne, q2_r1, uI_at, uI_nj, qRow_ne, qRow_at]) (by simp (decide := true) only [q2_ne, q2_r1, uI_at, uI_nj, qRow_ne, qRow_at]) (fun k hk => by (try dsimp only); repeat first | rfl | rw [q2_ne (by omega)] | rw [qRow_ne (by omega)]) (fun k hk => by (try dsimp only); repeat first | rfl | rw [q2_ne (by omega)] | rw [qRow_ne (by omega)])), (by first | exact hMk | (simp (decide := true) only [q2_ne, q2_r1, uI_at, uI_nj, qRow_ne, qRow_at]; exact hMk)), (by first | exact hKA | (simp (decide := true) only [q2_ne, q2_r1, uI_at, uI_nj, qRow_ne, qRow_at]; exact hKA))⟩⟩
    · exact absurd b0 a0
    · exact absurd b0 a0
  · refine ⟨_, rfl, ⟨rfl, rfl, hst⟩, ?_⟩
    refine c_X12_feed (by first | exact hn2 | (simp (decide := true) only [q2_ne, q2_r1, uI_at, uI_nj, qRow_ne, qRow_at]; exact hn2)) (fun b0 => ?_) (fun b0 b1 => ?_) (fun b0 b1 => ?_)
    · exact absurd a0 b0
    · exact ⟨rfl, ⟨by first | rfl | (simp (decide := true) only [q2_ne, q2_r1, uI_at, uI_nj, qRow_ne, qRow_at]), rfl⟩, ⟨hst, (by first | exact hSt | (simp (decide := true) only [q2_ne, q2_r1, uI_at, uI_nj, qRow_ne, qRow_at]; exact hSt)), (by first | exact hHa | (simp (decide := true) only [q2_ne, q2_r1, uI_at, uI_nj, qRow_ne, qRow_at]; exact hHa)), (by first | exact hTo | (simp (decide := true) only [q2_ne, q2_r1, uI_at, uI_nj, qRow_ne, qRow_at]; exact hTo)), (by first | exact hTp | (simp (decide := true) only [q2_ne, q2_r1, uI_at, uI_nj, qRow_ne, qRow_at]; exact hTp)), (by first | exact hEd | (simp (decide := true) only [q2_ne, q2_r1, uI_at, uI_nj, qRow_ne, qRow_at]; exact hEd)), (by first | exact hDa | (simp (decide := true) only [q2_ne, q2_r1, uI_at, uI_nj, qRow_ne, qRow_at]; exact hDa)), (by first | exact hPe | (simp (decide := true) only [q2_ne, q2_r1, uI_at, uI_nj, qRow_ne, qRow_at]; exact hPe)), (by first | exact hTr | (simp (decide := true) only [q2_ne, q2_r1, uI_at, uI_nj, qRow_ne, qRow_at]; exact hTr)), (RTx_of hTx (by simp (decide := true) only [q2_ne, q2_r1, uI_at, uI_nj, qRow_ne, qRow_at]) (by simp (decide := true) only [q2_ne, q2_r1, uI_at, uI_nj, qRow_ne, qRow_at]) (by simp (decide := true) only [q2_ne, q2_r1, uI_at, uI_nj, qRow_ne, qRow_at]) (by simp (decide := true) only [q2_ne, q2_r1, uI_at, uI_nj, qRow_ne, qRow_at]) (by simp (decide := true) only [q2_ne, q2_r1, uI_at, uI_nj, qRow_ne, qRow_at]) (fun k hk => by (try dsimp only); repeat first | rfl | rw [q2_ne (by omega)] | rw [qRow_ne (by omega)]) (fun k hk => by (try dsimp only); repeat first | rfl | rw [q2_ne (by omega)] | rw [qRow_ne (by omega)])), (by first | exact hMk | (simp (decide := true) only [q2_ne, q2_r1, uI_at, uI_nj, qRow_ne, qRow_at]; exact hMk)), (by first | exact hKA | (simp (decide := true) only [q2_ne, q2_r1, uI_at, uI_nj, qRow_ne, qRow_at]; exact hKA))⟩⟩
    · rw [hTp.1] at b1
      exact absurd a1 (Int32.not_lt.mpr b1)
  · refine ⟨_, rfl, ⟨by simp (decide := true) only [q2_ne, q2_r1, uI_at, uI_nj, qRow_ne, qRow_at], rfl, hst⟩, ?_⟩
    refine c_X12_feed (by first | exact hn2 | (simp (decide := true) only [q2_ne, q2_r1, uI_at, uI_nj, qRow_ne, qRow_at]; exact hn2)) (fun b0 => ?_) (fun b0 b1 => ?_) (fun b0 b1 => ?_)
    · exact absurd a0 b0
    · (try simp (decide := true) only [q2_ne, q2_r1, uI_at, uI_nj, qRow_ne, qRow_at] at b1)
      rw [hTp.1] at b1
      exact absurd b1 (Int32.not_lt.mpr a1)
    · have E1 := RTp_feed (x := x) hTp a0 a1
      exact ⟨by simp (decide := true) only [q2_ne, q2_r1, uI_at, uI_nj, qRow_ne, qRow_at]; rw [hTp.1], ⟨by first | rfl | (simp (decide := true) only [q2_ne, q2_r1, uI_at, uI_nj, qRow_ne, qRow_at]), rfl⟩, ⟨hst, (by first | exact hSt | (simp (decide := true) only [q2_ne, q2_r1, uI_at, uI_nj, qRow_ne, qRow_at]; exact hSt)), (by first | exact hHa | (simp (decide := true) only [q2_ne, q2_r1, uI_at, uI_nj, qRow_ne, qRow_at]; exact hHa)), (by first | exact hTo | (simp (decide := true) only [q2_ne, q2_r1, uI_at, uI_nj, qRow_ne, qRow_at]; exact hTo)), (by simp (decide := true) only [q2_ne, q2_r1, uI_at, uI_nj, qRow_ne, qRow_at]; (try simp only [hTp.1]); exact E1), (by first | exact hEd | (simp (decide := true) only [q2_ne, q2_r1, uI_at, uI_nj, qRow_ne, qRow_at]; exact hEd)), (by first | exact hDa | (simp (decide := true) only [q2_ne, q2_r1, uI_at, uI_nj, qRow_ne, qRow_at]; exact hDa)), (by first | exact hPe | (simp (decide := true) only [q2_ne, q2_r1, uI_at, uI_nj, qRow_ne, qRow_at]; exact hPe)), (by first | exact hTr | (simp (decide := true) only [q2_ne, q2_r1, uI_at, uI_nj, qRow_ne, qRow_at]; exact hTr)), (RTx_of hTx (by simp (decide := true) only [q2_ne, q2_r1, uI_at, uI_nj, qRow_ne, qRow_at]) (by simp (decide := true) only [q2_ne, q2_r1, uI_at, uI_nj, qRow_ne, qRow_at]) (by simp (decide := true) only [q2_ne, q2_r1, uI_at, uI_nj, qRow_ne, qRow_at]) (by simp (decide := true) only [q2_ne, q2_r1, uI_at, uI_nj, qRow_ne, qRow_at]) (by simp (decide := true) only [q2_ne, q2_r1, uI_at, uI_nj, qRow_ne, qRow_at]) (fun k hk => by (try dsimp only); repeat first | rfl | rw [q2_ne (by omega)] | rw [qRow_ne (by omega)]) (fun k hk => by (try dsimp only); repeat first | rfl | rw [q2_ne (by omega)] | rw [qRow_ne (by omega)])), (by first | exact hMk | (simp (decide := true) only [q2_ne, q2_r1, uI_at, uI_nj, qRow_ne, qRow_at]; exact hMk)), (by first | exact hKA | (simp (decide := true) only [q2_ne, q2_r1, uI_at, uI_nj, qRow_ne, qRow_at]; exact hKA))⟩⟩

theorem c_X11_count {d z : Nat} {N : Nat → Nat} {I : Nat → Nat → Int32} {L : Nat → Nat → Int64} {R : Nat → Nat → Option Nat} {Q : qP} {w : Int32} (hs : 0 ≤ I 3 2 ∧ I 3 2 ≤ 12) (hp : 0 ≤ I 54 5 ∧ I 54 5 ≤ 12) (hst_ : ∀ x : Int32, 0 ≤ x → x < I 54 5 → 0 ≤ I 57 x.toNatClampNeg ∧ I 57 x.toNatClampNeg < 12) (hb : okB 12 (I 51) (I 52) (I 53) (I 46 7)) (hyl : yL (I 47) (I 48)) (h : ∀ v : Int32, ¬ w = 7 → v = (if w = 0 then I 3 2 else if w = 1 then I 6 2 else if w = 2 then I 2 5 else if w = 3 then I 54 5 else if w = 4 then I 46 7 else if w = 5 then upF (I 3 2) (gTie (I 45)) 0 0 else if w = 6 then I 9 1 else if w = 8 then I 43 3 else -2) → Q (some (.int v)) (z, N, I, L, R)) (h7 : w = 7 → ∀ (v : Int32) (E U : Nat → Int32), yO 12 (I 47) (I 48) (I 51) (I 52) (I 53) (I 46 7) (1 <<< (I 46 7 &&& 31) - 1) 12 1 0 v E U → Q (some (.int ((fSrt (decide (v = 1)) (pOne (L 55) (L 56) (I 57) E U) (I 54 5) (I 58)).2))) (z, N, qRow (qRow (qRow I 49 E) 50 U) 58 (fSrt (decide (v = 1)) (pOne (L 55) (L 56) (I 57) E U) (I 54 5) (I 58)).1, L, R)) : qWP (d + 6) 159 [.ref 2, .int w] (z, N, I, L, R) Q := by
  refine qWP_of m_X11_count rfl rfl [(0, .ref 2), (1, .int w)] rfl ?_
  refine qJ_run (qWP_mono _) [] 400 ?_
  refine ⟨fun c1 => ?_, fun c1 => ?_, fun c1 => ?_, fun c1 => ?_, fun c1 => ?_, fun c1 => ?_, fun c1 => ?_, fun c1 => ?_, fun c1 => ?_, fun c1 => ?_, trivial⟩
  · replace c1 : w < 0 ∨ 8 < w := by rw [fa_lt, fa_lt]; exact c1
    change Q (some (.int (-2))) (z, N, I, L, R)
    have hc := c1
    refine h _ (by clear h h7; grind) ?_
    clear h h7
    skip
    rw [if_neg (by grind), if_neg (by grind), if_neg (by grind), if_neg (by grind), if_neg (by grind), if_neg (by grind), if_neg (by grind), if_neg (by grind)]
  · replace c1 : w = 0 := Int32.toInt_inj.mp c1
    refine ⟨⟨Nat.le_refl _, Nat.le_refl _⟩, ?_⟩
    refine c_X6_size fun v1 hv1 => ?_
    change Q (some (.int v1)) (z, N, I, L, R)
    have hc := c1
    refine h _ (by clear h h7; grind) ?_
    clear h h7
    subst hv1
    subst hc
    rfl
  · replace c1 : w = 1 := Int32.toInt_inj.mp c1
    refine ⟨⟨Nat.le_refl _, Nat.le_refl _⟩, ?_⟩
    refine c_X5_hands fun v2 hv2 => ?_
    change Q (some (.int v2)) (z, N, I, L, R)
    have hc := c1
    refine h _ (by clear h h7; grind) ?_
    clear h h7
    subst hv2
    subst hc
    rfl
  · replace c1 : w = 2 := Int32.toInt_inj.mp c1
    change Q (some (.int (I 2 5))) (z, N, I, L, R)
    have hc := c1
    refine h _ (by clear h h7; grind) ?_
    clear h h7
    skip
    subst hc
    rfl
  · replace c1 : w = 3 := Int32.toInt_inj.mp c1
    refine ⟨⟨Nat.le_refl _, Nat.le_refl _⟩, ?_⟩
    refine c_X4_size fun v3 hv3 => ?_
    change Q (some (.int v3)) (z, N, I, L, R)
    have hc := c1
    refine h _ (by clear h h7; grind) ?_
    clear h h7
    subst hv3
    subst hc
    rfl
  · replace c1 : w = 4 := Int32.toInt_inj.mp c1
    refine ⟨⟨Nat.le_refl _, Nat.le_refl _⟩, ?_⟩
    refine c_X0_size fun v4 hv4 => ?_
    change Q (some (.int v4)) (z, N, I, L, R)
    have hc := c1
    refine h _ (by clear h h7; grind) ?_
    clear h h7
    subst hv4
    subst hc
    rfl
  · replace c1 : w = 5 := Int32.toInt_inj.mp c1
    refine ⟨⟨Nat.le_refl _, Nat.le_refl _⟩, ?_⟩
    refine c_X1_ties (d := d + 3) hs fun v5 hv5 => ?_
    change Q (some (.int v5)) (z, N, I, L, R)
    have hc := c1
    refine h _ (by clear h h7; grind) ?_
    clear h h7
    subst hv5
    subst hc
    rfl
  · replace c1 : w = 6 := Int32.toInt_inj.mp c1
    refine ⟨⟨Nat.le_refl _, Nat.le_refl _⟩, ?_⟩
    refine c_X8_size fun v6 hv6 => ?_
    change Q (some (.int v6)) (z, N, I, L, R)
    have hc := c1
    refine h _ (by clear h h7; grind) ?_
    clear h h7
    subst hv6
    subst hc
    rfl
  · replace c1 : w = 7 := Int32.toInt_inj.mp c1
    refine ⟨⟨Nat.le_refl _, Nat.le_refl _⟩, ?_⟩
    refine c_X4_sort (d := d) hp hst_ hb hyl fun v E U hy1 => ?_
    change Q (some (.int ((fSrt (decide (v = 1)) (pOne (L 55) (L 56) (I 57) E U) (I 54 5) (I 58)).2))) (z, N, qRow (qRow (qRow I 49 E) 50 U) 58 ((fSrt (decide (v = 1)) (pOne (L 55) (L 56) (I 57) E U) (I 54 5) (I 58)).1), L, R)
    exact h7 (by assumption) v E U hy1
  · replace c1 : w = 8 := Int32.toInt_inj.mp c1
    refine ⟨⟨Nat.le_refl _, Nat.le_refl _⟩, ?_⟩
    refine c_X1_allowance fun v8 hv8 => ?_
    change Q (some (.int v8)) (z, N, I, L, R)
    have hc := c1
    refine h _ (by clear h h7; grind) ?_
    clear h h7
    subst hv8
    subst hc
    rfl
theorem l_X12_count {d z : Nat} {N : Nat → Nat} {I : Nat → Nat → Int32} {L : Nat → Nat → Int64} {R : Nat → Nat → Option Nat} {Q : qP} {w : Int32} (hs : 0 ≤ I 65 0 ∧ I 65 0 ≤ 12) : ∀ (k : Int32), ∀ c : Int32, 0 ≤ k → Q (some (.int (upF (I 65 0) (gTieR (I 78)) k c))) (z, N, I, L, R) → qJ m_X12_count (qWP (d + 3)) Q 79 [(3, .int k), (2, .int c), (1, .int w), (0, .ref 65)] [] 0 0 (z, N, I, L, R) := by
  refine up_ind (I 65 0) fun k ih => ?_
  intro c h0 hq
  refine qJ_run (qWP_mono _) [79] 400 ?_
  refine ⟨fun (c1 : (I 65 0) ≤ k) => ?_, fun (c1 : ¬ (I 65 0) ≤ k) => ?_⟩
  · change Q (some (.int c)) (z, N, I, L, R)
    rw [upF_ge (by clear ih hq; grind)] at hq
    exact hq
  · refine ⟨?_, ?_⟩
    · exact vb (x := k) (N := 12) 12 (by decide) (by clear ih hq; grind) (by clear ih hq; grind)
    refine ⟨fun (c2 : (I 78 ((k).toNatClampNeg)) < 0) => ?_, fun (c2 : ¬ (I 78 ((k).toNatClampNeg)) < 0) => ?_⟩
    · have hk : k < I 65 0 := by clear ih hq; grind
      have e : gTieR (I 78) k c = (c + 0) := by
        unfold gTieR
        clear ih hq
        first | exact if_pos (by grind) | exact (if_neg (by grind)).trans (by grind)
      rw [upF_on hk, e] at hq
      exact ih hk _ (by clear ih hq; grind) hq
    · have hk : k < I 65 0 := by clear ih hq; grind
      have e : gTieR (I 78) k c = (c + 1) := by
        unfold gTieR
        clear ih hq
        first | exact if_pos (by grind) | exact (if_neg (by grind)).trans (by grind)
      rw [upF_on hk, e] at hq
      exact ih hk _ (by clear ih hq; grind) hq
theorem c_X12_count {d z : Nat} {N : Nat → Nat} {I : Nat → Nat → Int32} {L : Nat → Nat → Int64} {R : Nat → Nat → Option Nat} {Q : qP} {w : Int32} (hp : 0 ≤ I 65 3 ∧ I 65 3 ≤ 12) (hst_ : ∀ x : Int32, 0 ≤ x → x < I 65 3 → 0 ≤ I 89 x.toNatClampNeg ∧ I 89 x.toNatClampNeg < 12) (hs : 0 ≤ I 65 0 ∧ I 65 0 ≤ 12) (hb : okB (I 65 0) (I 84) (I 85) (I 86) (I 65 4)) (hyl : yLn (I 65 0).toNatClampNeg (I 80) (I 81)) (h : ∀ v : Int32, ¬ w = 7 → v = (if w = 0 then I 65 0 else if w = 1 then I 65 1 else if w = 2 then I 65 2 else if w = 3 then I 65 3 else if w = 4 then I 65 4 else if w = 5 then upF (I 65 0) (gTieR (I 78)) 0 0 else if w = 6 then I 65 6 else if w = 8 then I 65 5 else -2) → Q (some (.int v)) (z, N, I, L, R)) (h7 : w = 7 → ∀ (v : Int32) (E U : Nat → Int32), yO (I 65 0).toNatClampNeg (I 80) (I 81) (I 84) (I 85) (I 86) (I 65 4) (1 <<< (I 65 4 &&& 31) - 1) (I 65 0) 0 1 v E U → Q (some (.int ((fSrt (decide (v = 0)) (pOne (L 87) (L 88) (I 89) E U) (I 65 3) (I 90)).2))) (z, N, qRow (qRow (qRow I 82 E) 83 U) 90 (fSrt (decide (v = 0)) (pOne (L 87) (L 88) (I 89) E U) (I 65 3) (I 90)).1, L, R)) : qWP (d + 4) 241 [.ref 65, .int w] (z, N, I, L, R) Q := by
  refine qWP_of m_X12_count rfl rfl [(0, .ref 65), (1, .int w)] rfl ?_
  refine qJ_run (qWP_mono _) [79] 400 ?_
  refine ⟨fun c1 => ?_, fun c1 => ?_, fun c1 => ?_, fun c1 => ?_, fun c1 => ?_, fun c1 => ?_, fun c1 => ?_, fun c1 => ?_, fun c1 => ?_, fun c1 => ?_, trivial⟩
  · replace c1 : w < 0 ∨ 8 < w := by rw [fa_lt, fa_lt]; exact c1
    change Q (some (.int (-2))) (z, N, I, L, R)
    have hc := c1
    refine h _ (by clear h h7; grind) ?_
    clear h h7
    skip
    rw [if_neg (by grind), if_neg (by grind), if_neg (by grind), if_neg (by grind), if_neg (by grind), if_neg (by grind), if_neg (by grind), if_neg (by grind)]
  · replace c1 : w = 0 := Int32.toInt_inj.mp c1
    change Q (some (.int (I 65 0))) (z, N, I, L, R)
    have hc := c1
    refine h _ (by clear h h7; grind) ?_
    clear h h7
    skip
    subst hc
    rfl
  · replace c1 : w = 1 := Int32.toInt_inj.mp c1
    change Q (some (.int (I 65 1))) (z, N, I, L, R)
    have hc := c1
    refine h _ (by clear h h7; grind) ?_
    clear h h7
    skip
    subst hc
    rfl
  · replace c1 : w = 2 := Int32.toInt_inj.mp c1
    change Q (some (.int (I 65 2))) (z, N, I, L, R)
    have hc := c1
    refine h _ (by clear h h7; grind) ?_
    clear h h7
    skip
    subst hc
    rfl
  · replace c1 : w = 3 := Int32.toInt_inj.mp c1
    change Q (some (.int (I 65 3))) (z, N, I, L, R)
    have hc := c1
    refine h _ (by clear h h7; grind) ?_
    clear h h7
    skip
    subst hc
    rfl
  · replace c1 : w = 4 := Int32.toInt_inj.mp c1
    change Q (some (.int (I 65 4))) (z, N, I, L, R)
    have hc := c1
    refine h _ (by clear h h7; grind) ?_
    clear h h7
    skip
    subst hc
    rfl
  · replace c1 : w = 5 := Int32.toInt_inj.mp c1
    refine qJ_nm (qWP_mono _) [] [(3, .int 0), (2, .int 0), (1, .int w), (0, .ref 65)] rfl rfl rfl ?_
    have hc := c1
    subst hc
    exact l_X12_count (d := d) hs 0 0 (by decide) (h _ (by decide) rfl)
  · replace c1 : w = 6 := Int32.toInt_inj.mp c1
    change Q (some (.int (I 65 6))) (z, N, I, L, R)
    have hc := c1
    refine h _ (by clear h h7; grind) ?_
    clear h h7
    skip
    subst hc
    rfl
  · replace c1 : w = 7 := Int32.toInt_inj.mp c1
    refine ⟨⟨Nat.le_refl _, Nat.le_refl _⟩, ?_⟩
    refine c_X12_findGroups (d := d) hp hst_ hs hb hyl fun v E U hy1 => ?_
    change Q (some (.int ((fSrt (decide (v = 0)) (pOne (L 87) (L 88) (I 89) E U) (I 65 3) (I 90)).2))) (z, N, qRow (qRow (qRow I 82 E) 83 U) 90 ((fSrt (decide (v = 0)) (pOne (L 87) (L 88) (I 89) E U) (I 65 3) (I 90)).1), L, R)
    exact h7 (by assumption) v E U hy1
  · replace c1 : w = 8 := Int32.toInt_inj.mp c1
    change Q (some (.int (I 65 5))) (z, N, I, L, R)
    have hc := c1
    refine h _ (by clear h h7; grind) ?_
    clear h h7
    skip
    subst hc
    rfl
theorem op_count {M : qM} (hI : qInv M) (w : Int32) : qOp 159 241 [.int w] M := by
  obtain ⟨z, N, I, L, R⟩ := M
  obtain ⟨hst, hSt, hHa, hTo, hTp, hEd, hDa, hPe, hTr, hTx, hMk, hKA⟩ := hI
  dsimp only at hst hSt hHa hTo hTp hEd hDa hPe hTr hTx hMk hKA
  have hs : 0 ≤ I 3 2 ∧ I 3 2 ≤ 12 := ⟨hSt.2.1, hSt.2.2.1⟩
  have hs2 : 0 ≤ I 65 0 ∧ I 65 0 ≤ 12 := by rw [hSt.1]; exact hs
  obtain ⟨hb, hyl, hb3, hyl3⟩ := yr_ok hs hDa
  have hb2 : okB (I 65 0) (I 84) (I 85) (I 86) (I 65 4) := by rw [hSt.1]; exact hb3
  have hyl2 : yLn (I 65 0).toNatClampNeg (I 80) (I 81) := by rw [hSt.1]; exact hyl3
  have hp : 0 ≤ I 54 5 ∧ I 54 5 ≤ 12 := ⟨hPe.2.1, hPe.2.2.1⟩
  have hp2 : 0 ≤ I 65 3 ∧ I 65 3 ≤ 12 := by rw [hPe.1]; exact hp
  have hq1 : ∀ x : Int32, 0 ≤ x → x < I 54 5 → 0 ≤ I 57 x.toNatClampNeg ∧ I 57 x.toNatClampNeg < 12 := fun x a b => ⟨(hPe.2.2.2 x a b).2.2.2.2.1, Int32.lt_of_lt_of_le (hPe.2.2.2 x a b).2.2.2.2.2 hs.2⟩
  have hq2 : ∀ x : Int32, 0 ≤ x → x < I 65 3 → 0 ≤ I 89 x.toNatClampNeg ∧ I 89 x.toNatClampNeg < 12 := fun x a b => by
    rw [hPe.1] at b
    rw [(hPe.2.2.2 x a b).2.2.2.1]
    exact hq1 x a b
  refine c_X11_count hs hp hq1 hb hyl (fun v a0 a1 => ?_) (fun a0 v E U hy1 => ?_)
  · refine ⟨_, rfl, ⟨rfl, rfl, hst⟩, ?_⟩
    refine c_X12_count (by first | exact hp2 | (simp (decide := true) only [q2_ne, q2_r1, uI_at, uI_nj, qRow_ne, qRow_at]; exact hp2)) (by first | exact hq2 | (simp (decide := true) only [q2_ne, q2_r1, uI_at, uI_nj, qRow_ne, qRow_at]; exact hq2)) (by first | exact hs2 | (simp (decide := true) only [q2_ne, q2_r1, uI_at, uI_nj, qRow_ne, qRow_at]; exact hs2)) (by first | exact hb2 | (simp (decide := true) only [q2_ne, q2_r1, uI_at, uI_nj, qRow_ne, qRow_at]; exact hb2)) (by first | exact hyl2 | (simp (decide := true) only [q2_ne, q2_r1, uI_at, uI_nj, qRow_ne, qRow_at]; exact hyl2)) (fun w2 b0 b1 => ?_) (fun b0 v2 E2 U2 hy2 => ?_)
    · have e9 : w2 = v := by
        rw [b1, a1, hSt.1, hHa.1, hPe.1, hDa.1, hTp.1, hEd.1, tie_rel hEd hs, hTx.1]
      subst e9
      exact ⟨rfl, ⟨by first | rfl | (simp (decide := true) only [q2_ne, q2_r1, uI_at, uI_nj, qRow_ne, qRow_at]), rfl⟩, ⟨hst, (by first | exact hSt | (simp (decide := true) only [q2_ne, q2_r1, uI_at, uI_nj, qRow_ne, qRow_at]; exact hSt)), (by first | exact hHa | (simp (decide := true) only [q2_ne, q2_r1, uI_at, uI_nj, qRow_ne, qRow_at]; exact hHa)), (by first | exact hTo | (simp (decide := true) only [q2_ne, q2_r1, uI_at, uI_nj, qRow_ne, qRow_at]; exact hTo)), (by first | exact hTp | (simp (decide := true) only [q2_ne, q2_r1, uI_at, uI_nj, qRow_ne, qRow_at]; exact hTp)), (by first | exact hEd | (simp (decide := true) only [q2_ne, q2_r1, uI_at, uI_nj, qRow_ne, qRow_at]; exact hEd)), (by first | exact hDa | (simp (decide := true) only [q2_ne, q2_r1, uI_at, uI_nj, qRow_ne, qRow_at]; exact hDa)), (by first | exact hPe | (simp (decide := true) only [q2_ne, q2_r1, uI_at, uI_nj, qRow_ne, qRow_at]; exact hPe)), (by first | exact hTr | (simp (decide := true) only [q2_ne, q2_r1, uI_at, uI_nj, qRow_ne, qRow_at]; exact hTr)), (RTx_of hTx (by simp (decide := true) only [q2_ne, q2_r1, uI_at, uI_nj, qRow_ne, qRow_at]) (by simp (decide := true) only [q2_ne, q2_r1, uI_at, uI_nj, qRow_ne, qRow_at]) (by simp (decide := true) only [q2_ne, q2_r1, uI_at, uI_nj, qRow_ne, qRow_at]) (by simp (decide := true) only [q2_ne, q2_r1, uI_at, uI_nj, qRow_ne, qRow_at]) (by simp (decide := true) only [q2_ne, q2_r1, uI_at, uI_nj, qRow_ne, qRow_at]) (fun k hk => by (try dsimp only); repeat first | rfl | rw [q2_ne (by omega)] | rw [qRow_ne (by omega)]) (fun k hk => by (try dsimp only); repeat first | rfl | rw [q2_ne (by omega)] | rw [qRow_ne (by omega)])), (by first | exact hMk | (simp (decide := true) only [q2_ne, q2_r1, uI_at, uI_nj, qRow_ne, qRow_at]; exact hMk)), (by first | exact hKA | (simp (decide := true) only [q2_ne, q2_r1, uI_at, uI_nj, qRow_ne, qRow_at]; exact hKA))⟩⟩
    · exact absurd b0 a0
  · refine ⟨_, rfl, ⟨by simp (decide := true) only [q2_ne, q2_r1, uI_at, uI_nj, qRow_ne, qRow_at], rfl, hst⟩, ?_⟩
    refine c_X12_count (by first | exact hp2 | (simp (decide := true) only [q2_ne, q2_r1, uI_at, uI_nj, qRow_ne, qRow_at]; exact hp2)) (by first | exact hq2 | (simp (decide := true) only [q2_ne, q2_r1, uI_at, uI_nj, qRow_ne, qRow_at]; exact hq2)) (by first | exact hs2 | (simp (decide := true) only [q2_ne, q2_r1, uI_at, uI_nj, qRow_ne, qRow_at]; exact hs2)) (by first | exact hb2 | (simp (decide := true) only [q2_ne, q2_r1, uI_at, uI_nj, qRow_ne, qRow_at]; exact hb2)) (by first | exact hyl2 | (simp (decide := true) only [q2_ne, q2_r1, uI_at, uI_nj, qRow_ne, qRow_at]; exact hyl2)) (fun w2 b0 b1 => ?_) (fun b0 v2 E2 U2 hy2 => ?_)
    · exact absurd a0 b0
    · (try simp (decide := true) only [q2_ne, q2_r1, uI_at, uI_nj, qRow_ne, qRow_at] at hy2)
      rw [hSt.1, hDa.1] at hy2
      have hr := yO_rel hs hDa hy1 (by rw [hDa.1]; exact hy2)
      have e9 := (fSrt_eq (sp := decide (v = 1)) (one := pOne (L 55) (L 56) (I 57) E U) (one' := pOne (L 87) (L 88) (I 89) E2 U2) (gr := I 58) (gr' := I 90) hp (fun hv x y x0 x1 y0 y1 => by
        rcases hr with ⟨rfl, rfl, h9⟩ | ⟨rfl, rfl⟩
        · exact pOne_eq hPe h9 ⟨x0, x1⟩ ⟨y0, y1⟩
        · exact absurd hv (by decide))).1
      have e8 : decide (v2 = 0) = decide (v = 1) := by
        rcases hr with ⟨rfl, rfl, h9⟩ | ⟨rfl, rfl⟩ <;> rfl
      exact ⟨by simp (decide := true) only [q2_ne, q2_r1, uI_at, uI_nj, qRow_ne, qRow_at]; rw [hPe.1, e8, e9], ⟨by first | rfl | (simp (decide := true) only [q2_ne, q2_r1, uI_at, uI_nj, qRow_ne, qRow_at]), rfl⟩, ⟨hst, (by first | exact hSt | (simp (decide := true) only [q2_ne, q2_r1, uI_at, uI_nj, qRow_ne, qRow_at]; exact hSt)), (by first | exact hHa | (simp (decide := true) only [q2_ne, q2_r1, uI_at, uI_nj, qRow_ne, qRow_at]; exact hHa)), (by first | exact hTo | (simp (decide := true) only [q2_ne, q2_r1, uI_at, uI_nj, qRow_ne, qRow_at]; exact hTo)), (by first | exact hTp | (simp (decide := true) only [q2_ne, q2_r1, uI_at, uI_nj, qRow_ne, qRow_at]; exact hTp)), (by first | exact hEd | (simp (decide := true) only [q2_ne, q2_r1, uI_at, uI_nj, qRow_ne, qRow_at]; exact hEd)), (by first | exact hDa | (simp (decide := true) only [q2_ne, q2_r1, uI_at, uI_nj, qRow_ne, qRow_at]; exact hDa)), (by first | exact hPe | (simp (decide := true) only [q2_ne, q2_r1, uI_at, uI_nj, qRow_ne, qRow_at]; exact hPe)), (by first | exact hTr | (simp (decide := true) only [q2_ne, q2_r1, uI_at, uI_nj, qRow_ne, qRow_at]; exact hTr)), (RTx_of hTx (by simp (decide := true) only [q2_ne, q2_r1, uI_at, uI_nj, qRow_ne, qRow_at]) (by simp (decide := true) only [q2_ne, q2_r1, uI_at, uI_nj, qRow_ne, qRow_at]) (by simp (decide := true) only [q2_ne, q2_r1, uI_at, uI_nj, qRow_ne, qRow_at]) (by simp (decide := true) only [q2_ne, q2_r1, uI_at, uI_nj, qRow_ne, qRow_at]) (by simp (decide := true) only [q2_ne, q2_r1, uI_at, uI_nj, qRow_ne, qRow_at]) (fun k hk => by (try dsimp only); repeat first | rfl | rw [q2_ne (by omega)] | rw [qRow_ne (by omega)]) (fun k hk => by (try dsimp only); repeat first | rfl | rw [q2_ne (by omega)] | rw [qRow_ne (by omega)])), (by first | exact hMk | (simp (decide := true) only [q2_ne, q2_r1, uI_at, uI_nj, qRow_ne, qRow_at]; exact hMk)), (by first | exact hKA | (simp (decide := true) only [q2_ne, q2_r1, uI_at, uI_nj, qRow_ne, qRow_at]; exact hKA))⟩⟩

