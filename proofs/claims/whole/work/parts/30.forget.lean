theorem c_X11_forget {d z : Nat} {N : Nat → Nat} {I : Nat → Nat → Int32} {L : Nat → Nat → Int64} {R : Nat → Nat → Option Nat} {Q : qP} {a : Int32} {s : Int32} {l : Int32} {p : Int32} (hs : 0 ≤ I 3 2 ∧ I 3 2 ≤ 12) (hn : 0 ≤ I 6 2 ∧ I 6 2 ≤ 6) (hl : ∀ x : Int32, 0 ≤ x → x < I 3 2 → I 4 x.toNatClampNeg ≤ 4 ∧ I 5 x.toNatClampNeg ≤ 24) (h0 : ¬ ((0 ≤ a ∧ a < I 6 2) ∧ ((0 ≤ s ∧ s < I 3 2) ∧ 0 ≤ l ∧ l < I 4 s.toNatClampNeg) ∧ 0 ≤ p ∧ p < I 5 s.toNatClampNeg) → Q (some (.int (-2))) (z, N, I, L, R)) (h1 : ((0 ≤ a ∧ a < I 6 2) ∧ ((0 ≤ s ∧ s < I 3 2) ∧ 0 ≤ l ∧ l < I 4 s.toNatClampNeg) ∧ 0 ≤ p ∧ p < I 5 s.toNatClampNeg) → I 8 (tIx a s l p).toNatClampNeg = 0 → Q (some (.int (0))) (z, N, I, L, R)) (h2 : ((0 ≤ a ∧ a < I 6 2) ∧ ((0 ≤ s ∧ s < I 3 2) ∧ 0 ≤ l ∧ l < I 4 s.toNatClampNeg) ∧ 0 ≤ p ∧ p < I 5 s.toNatClampNeg) → ¬ I 8 (tIx a s l p).toNatClampNeg = 0 → Q (some (.int 1)) (z, N, q2 I 8 (tIx a s l p).toNatClampNeg 0, L, R)) : qWP (d + 5) 125 [.ref 2, .int a, .int s, .int l, .int p] (z, N, I, L, R) Q := by
  refine qWP_of m_X11_forget rfl rfl [(0, .ref 2), (1, .int a), (2, .int s), (3, .int l), (4, .int p)] rfl ?_
  refine qJ_run (qWP_mono _) [] 400 ?_
  refine ⟨⟨Nat.le_refl _, Nat.le_refl _⟩, ?_⟩
  refine c_X5_hasHand hn fun v1 hv1 => ?_
  refine ⟨fun (c1 : v1 = 0) => ?_, fun (c1 : ¬ v1 = 0) => ?_⟩
  · change Q (some (.int (-2))) (z, N, I, L, R)
    exact h0 (by clear h0 h1 h2; grind)
  · refine ⟨⟨Nat.le_refl _, Nat.le_refl _⟩, ?_⟩
    refine c_X6_hasPlace hs fun v2 hv2 => ?_
    refine ⟨fun (c2 : ¬ v2 = 0) => ?_, fun (c2 : v2 = 0) => ?_⟩
    · refine ⟨⟨Nat.le_refl _, Nat.le_refl _⟩, ?_⟩
      have hpl : (0 ≤ a ∧ a < I 6 2) ∧ ((0 ≤ s ∧ s < I 3 2) ∧ 0 ≤ l ∧ l < I 4 s.toNatClampNeg) ∧ 0 ≤ p ∧ p < I 5 s.toNatClampNeg := by clear h0 h1 h2; grind
      have hp : inP s l p := by have := hl s hpl.2.1.1.1 hpl.2.1.1.2; unfold inP; clear h0 h1 h2; grind
      have ha : 0 ≤ a ∧ a < 6 := by clear h0 h1 h2; grind
      refine c_X5_at (d := d + 2) fun v3 hv3 => ?_
      replace hv3 : v3 = tAt (I 8) a s l p := hv3
      rw [ix_at ha hp] at hv3
      subst hv3
      refine ⟨fun (c3 : ¬ (I 8 (tIx a s l p).toNatClampNeg) = 0) => ?_, fun (c3 : (I 8 (tIx a s l p).toNatClampNeg) = 0) => ?_⟩
      · refine ⟨⟨Nat.le_refl _, Nat.le_refl _⟩, ?_⟩
        refine c_X5_put (d := d + 2) (fun _ _ => ?_) (fun e => absurd (ix_rng ha hp) e)
        change Q (some (.int 1)) (z, N, q2 I 8 ((tIx a s l p).toNatClampNeg) 0, L, R)
        exact h2 hpl (by assumption)
      · change Q (some (.int 0)) (z, N, I, L, R)
        exact h1 hpl (by assumption)
    · change Q (some (.int (-2))) (z, N, I, L, R)
      exact h0 (by clear h0 h1 h2; grind)
theorem c_X12_forget {d z : Nat} {N : Nat → Nat} {I : Nat → Nat → Int32} {L : Nat → Nat → Int64} {R : Nat → Nat → Option Nat} {Q : qP} {a : Int32} {s : Int32} {l : Int32} {p : Int32} (hs : 0 ≤ I 65 0 ∧ I 65 0 ≤ 12) (hn : 0 ≤ I 65 1 ∧ I 65 1 ≤ 6) (hl : ∀ x : Int32, 0 ≤ x → x < I 65 0 → I 66 x.toNatClampNeg ≤ 4 ∧ I 67 x.toNatClampNeg ≤ 24) (h0 : ¬ ((0 ≤ a ∧ a < I 65 1) ∧ ((0 ≤ s ∧ s < I 65 0) ∧ 0 ≤ l ∧ l < I 66 s.toNatClampNeg) ∧ 0 ≤ p ∧ p < I 67 s.toNatClampNeg) → Q (some (.int (-2))) (z, N, I, L, R)) (h1 : ((0 ≤ a ∧ a < I 65 1) ∧ ((0 ≤ s ∧ s < I 65 0) ∧ 0 ≤ l ∧ l < I 66 s.toNatClampNeg) ∧ 0 ≤ p ∧ p < I 67 s.toNatClampNeg) → I 70 (tIx a s l p).toNatClampNeg ≤ 0 → Q (some (.int 0)) (z, N, q2 I 70 (tIx a s l p).toNatClampNeg 0, L, R)) (h2 : ((0 ≤ a ∧ a < I 65 1) ∧ ((0 ≤ s ∧ s < I 65 0) ∧ 0 ≤ l ∧ l < I 66 s.toNatClampNeg) ∧ 0 ≤ p ∧ p < I 67 s.toNatClampNeg) → 0 < I 70 (tIx a s l p).toNatClampNeg → Q (some (.int 1)) (z, N, q2 I 70 (tIx a s l p).toNatClampNeg 0, L, R)) : qWP (d + 5) 176 [.ref 65, .int a, .int s, .int l, .int p] (z, N, I, L, R) Q := by
  refine qWP_of m_X12_forget rfl rfl [(0, .ref 65), (1, .int a), (2, .int s), (3, .int l), (4, .int p)] rfl ?_
  refine qJ_run (qWP_mono _) [] 400 ?_
  refine ⟨⟨Nat.le_refl _, Nat.le_refl _⟩, ?_⟩
  refine c_X12_isIn fun v1 hv1 => ?_
  refine ⟨fun (c1 : v1 = 0) => ?_, fun (c1 : ¬ v1 = 0) => ?_⟩
  · change Q (some (.int (-2))) (z, N, I, L, R)
    exact h0 (by clear h0 h1 h2; grind)
  · refine ⟨⟨Nat.le_refl _, Nat.le_refl _⟩, ?_⟩
    refine c_X12_isPlace hs fun v2 hv2 => ?_
    refine ⟨fun (c2 : ¬ v2 = 0) => ?_, fun (c2 : v2 = 0) => ?_⟩
    · refine ⟨⟨Nat.le_refl _, Nat.le_refl _⟩, ?_⟩
      have hpl : (0 ≤ a ∧ a < I 65 1) ∧ ((0 ≤ s ∧ s < I 65 0) ∧ 0 ≤ l ∧ l < I 66 s.toNatClampNeg) ∧ 0 ≤ p ∧ p < I 67 s.toNatClampNeg := by clear h0 h1 h2; grind
      have hp : inP s l p := by have := hl s hpl.2.1.1.1 hpl.2.1.1.2; unfold inP; clear h0 h1 h2; grind
      have ha : 0 ≤ a ∧ a < 6 := by clear h0 h1 h2; grind
      refine c_X12_at fun v3 hv3 => ?_
      replace hv3 : v3 = tIx a s l p := hv3
      subst hv3
      refine ⟨?_, ?_⟩
      · exact vb (N := 6912) 6912 (by decide) (ix_rng ha hp).1 (ix_rng ha hp).2
      refine ⟨fun (c3 : (I 70 ((tIx a s l p).toNatClampNeg)) ≤ 0) => ?_, fun (c3 : ¬ (I 70 ((tIx a s l p).toNatClampNeg)) ≤ 0) => ?_⟩
      · refine ⟨?_, ?_⟩
        · exact vb (N := 6912) 6912 (by decide) (ix_rng ha hp).1 (ix_rng ha hp).2
        change Q (some (.int 0)) (z, N, q2 I 70 ((tIx a s l p).toNatClampNeg) 0, L, R)
        exact h1 hpl (by assumption)
      · refine ⟨?_, ?_⟩
        · exact vb (N := 6912) 6912 (by decide) (ix_rng ha hp).1 (ix_rng ha hp).2
        change Q (some (.int 1)) (z, N, q2 I 70 ((tIx a s l p).toNatClampNeg) 0, L, R)
        exact h2 hpl (by grind)
    · change Q (some (.int (-2))) (z, N, I, L, R)
      exact h0 (by clear h0 h1 h2; grind)
theorem op_forget {M : qM} (hI : qInv M) (a : Int32) (s : Int32) (l : Int32) (p : Int32) : qOp 125 176 [.int a, .int s, .int l, .int p] M := by
  obtain ⟨z, N, I, L, R⟩ := M
  obtain ⟨hst, hSt, hHa, hTo, hTp, hEd, hDa, hPe, hTr, hTx, hMk, hKA⟩ := hI
  dsimp only at hst hSt hHa hTo hTp hEd hDa hPe hTr hTx hMk hKA
  have hs : 0 ≤ I 3 2 ∧ I 3 2 ≤ 12 := ⟨hSt.2.1, hSt.2.2.1⟩
  have hn : 0 ≤ I 6 2 ∧ I 6 2 ≤ 6 := ⟨hHa.2.1, hHa.2.2.1⟩
  have hl : ∀ x : Int32, 0 ≤ x → x < I 3 2 → I 4 x.toNatClampNeg ≤ 4 ∧ I 5 x.toNatClampNeg ≤ 24 := fun x a b => ⟨(hSt.2.2.2 x a b).2.2.1, (hSt.2.2.2 x a b).2.2.2.2.2⟩
  have hs2 : 0 ≤ I 65 0 ∧ I 65 0 ≤ 12 := by rw [hSt.1]; exact hs
  have hl2 : ∀ x : Int32, 0 ≤ x → x < I 65 0 → I 66 x.toNatClampNeg ≤ 4 ∧ I 67 x.toNatClampNeg ≤ 24 := fun x a b => by
    rw [hSt.1] at b
    rw [(hSt.2.2.2 x a b).1, (hSt.2.2.2 x a b).2.2.2.1]
    exact hl x a b
  have hn2 : 0 ≤ I 65 1 ∧ I 65 1 ≤ 6 := by rw [hHa.1]; exact hn
  refine c_X11_forget hs hn hl (fun a0 => ?_) (fun a0 a1 => ?_) (fun a0 a1 => ?_)
  · refine ⟨_, rfl, ⟨rfl, rfl, hst⟩, ?_⟩
    refine c_X12_forget (by first | exact hs2 | (simp (decide := true) only [q2_ne, q2_r1, uI_at, uI_nj, qRow_ne, qRow_at]; exact hs2)) (by first | exact hn2 | (simp (decide := true) only [q2_ne, q2_r1, uI_at, uI_nj, qRow_ne, qRow_at]; exact hn2)) (by first | exact hl2 | (simp (decide := true) only [q2_ne, q2_r1, uI_at, uI_nj, qRow_ne, qRow_at]; exact hl2)) (fun b0 => ?_) (fun b0 b1 => ?_) (fun b0 b1 => ?_)
    · exact ⟨rfl, ⟨by first | rfl | (simp (decide := true) only [q2_ne, q2_r1, uI_at, uI_nj, qRow_ne, qRow_at]), rfl⟩, ⟨hst, (by first | exact hSt | (simp (decide := true) only [q2_ne, q2_r1, uI_at, uI_nj, qRow_ne, qRow_at]; exact hSt)), (by first | exact hHa | (simp (decide := true) only [q2_ne, q2_r1, uI_at, uI_nj, qRow_ne, qRow_at]; exact hHa)), (by first | exact hTo | (simp (decide := true) only [q2_ne, q2_r1, uI_at, uI_nj, qRow_ne, qRow_at]; exact hTo)), (by first | exact hTp | (simp (decide := true) only [q2_ne, q2_r1, uI_at, uI_nj, qRow_ne, qRow_at]; exact hTp)), (by first | exact hEd | (simp (decide := true) only [q2_ne, q2_r1, uI_at, uI_nj, qRow_ne, qRow_at]; exact hEd)), (by first | exact hDa | (simp (decide := true) only [q2_ne, q2_r1, uI_at, uI_nj, qRow_ne, qRow_at]; exact hDa)), (by first | exact hPe | (simp (decide := true) only [q2_ne, q2_r1, uI_at, uI_nj, qRow_ne, qRow_at]; exact hPe)), (by first | exact hTr | (simp (decide := true) only [q2_ne, q2_r1, uI_at, uI_nj, qRow_ne, qRow_at]; exact hTr)), (RTx_of hTx (by simp (decide := true) only [q2_ne, q2_r1, uI_at, uI_nj, qRow_ne, qRow_at]) (by simp (decide := true) only [q2_ne, q2_r1, uI_at, uI_nj, qRow_ne, qRow_at]) (by simp (decide := true) only [q2_ne, q2_r1, uI_at, uI_nj, qRow_ne, qRow_at]) (by simp (decide := true) only [q2_ne, q2_r1, uI_at, uI_nj, qRow_ne, qRow_at]) (by simp (decide := true) only [q2_ne, q2_r1, uI_at, uI_nj, qRow_ne, qRow_at]) (fun k hk => by (try dsimp only); repeat first | rfl | rw [q2_ne (by omega)] | rw [qRow_ne (by omega)]) (fun k hk => by (try dsimp only); repeat first | rfl | rw [q2_ne (by omega)] | rw [qRow_ne (by omega)])), (by first | exact hMk | (simp (decide := true) only [q2_ne, q2_r1, uI_at, uI_nj, qRow_ne, qRow_at]; exact hMk)), (by first | exact hKA | (simp (decide := true) only [q2_ne, q2_r1, uI_at, uI_nj, qRow_ne, qRow_at]; exact hKA))⟩⟩
    · exfalso; (try simp (decide := true) only [q2_ne, q2_r1, uI_at, uI_nj, qRow_ne, qRow_at] at *); (try simp only [place_eq hSt] at *); (try simp only [line_eq hSt] at *); (try rw [hSt.1] at *); (try rw [hHa.1] at *); clear hst hSt hHa hTo hTp hEd hDa hPe hTr hTx hMk hKA hl hl2; grind
    · exfalso; (try simp (decide := true) only [q2_ne, q2_r1, uI_at, uI_nj, qRow_ne, qRow_at] at *); (try simp only [place_eq hSt] at *); (try simp only [line_eq hSt] at *); (try rw [hSt.1] at *); (try rw [hHa.1] at *); clear hst hSt hHa hTo hTp hEd hDa hPe hTr hTx hMk hKA hl hl2; grind
  · have hpl := a0
    have hp : inP s l p := by have := hl s hpl.2.1.1.1 hpl.2.1.1.2; unfold inP; clear hst hSt hHa hTo hTp hEd hDa hPe hTr hTx hMk hKA; grind
    have ha : 0 ≤ a ∧ a < 6 := by clear hst hSt hHa hTo hTp hEd hDa hPe hTr hTx hMk hKA; grind
    obtain ⟨hz, hz0, _⟩ := rd1_un (hTo _ (ix_lt ha hp))
    refine ⟨_, rfl, ⟨rfl, rfl, hst⟩, ?_⟩
    refine c_X12_forget (by first | exact hs2 | (simp (decide := true) only [q2_ne, q2_r1, uI_at, uI_nj, qRow_ne, qRow_at]; exact hs2)) (by first | exact hn2 | (simp (decide := true) only [q2_ne, q2_r1, uI_at, uI_nj, qRow_ne, qRow_at]; exact hn2)) (by first | exact hl2 | (simp (decide := true) only [q2_ne, q2_r1, uI_at, uI_nj, qRow_ne, qRow_at]; exact hl2)) (fun b0 => ?_) (fun b0 b1 => ?_) (fun b0 b1 => ?_)
    · exfalso; (try simp (decide := true) only [q2_ne, q2_r1, uI_at, uI_nj, qRow_ne, qRow_at] at *); (try simp only [place_eq hSt] at *); (try simp only [line_eq hSt] at *); (try rw [hSt.1] at *); (try rw [hHa.1] at *); clear hst hSt hHa hTo hTp hEd hDa hPe hTr hTx hMk hKA hl hl2; grind
    · exact ⟨rfl, ⟨by first | rfl | (simp (decide := true) only [q2_ne, q2_r1, uI_at, uI_nj, qRow_ne, qRow_at]), rfl⟩, ⟨hst, (by first | exact hSt | (simp (decide := true) only [q2_ne, q2_r1, uI_at, uI_nj, qRow_ne, qRow_at]; exact hSt)), (by first | exact hHa | (simp (decide := true) only [q2_ne, q2_r1, uI_at, uI_nj, qRow_ne, qRow_at]; exact hHa)), (by simp (decide := true) only [q2_ne, q2_r1, uI_at, uI_nj, qRow_ne, qRow_at]; exact RTo_f0 hTo a1), (by first | exact hTp | (simp (decide := true) only [q2_ne, q2_r1, uI_at, uI_nj, qRow_ne, qRow_at]; exact hTp)), (by first | exact hEd | (simp (decide := true) only [q2_ne, q2_r1, uI_at, uI_nj, qRow_ne, qRow_at]; exact hEd)), (by first | exact hDa | (simp (decide := true) only [q2_ne, q2_r1, uI_at, uI_nj, qRow_ne, qRow_at]; exact hDa)), (by first | exact hPe | (simp (decide := true) only [q2_ne, q2_r1, uI_at, uI_nj, qRow_ne, qRow_at]; exact hPe)), (by first | exact hTr | (simp (decide := true) only [q2_ne, q2_r1, uI_at, uI_nj, qRow_ne, qRow_at]; exact hTr)), (RTx_of hTx (by simp (decide := true) only [q2_ne, q2_r1, uI_at, uI_nj, qRow_ne, qRow_at]) (by simp (decide := true) only [q2_ne, q2_r1, uI_at, uI_nj, qRow_ne, qRow_at]) (by simp (decide := true) only [q2_ne, q2_r1, uI_at, uI_nj, qRow_ne, qRow_at]) (by simp (decide := true) only [q2_ne, q2_r1, uI_at, uI_nj, qRow_ne, qRow_at]) (by simp (decide := true) only [q2_ne, q2_r1, uI_at, uI_nj, qRow_ne, qRow_at]) (fun k hk => by (try dsimp only); repeat first | rfl | rw [q2_ne (by omega)] | rw [qRow_ne (by omega)]) (fun k hk => by (try dsimp only); repeat first | rfl | rw [q2_ne (by omega)] | rw [qRow_ne (by omega)])), (by first | exact hMk | (simp (decide := true) only [q2_ne, q2_r1, uI_at, uI_nj, qRow_ne, qRow_at]; exact hMk)), (by first | exact hKA | (simp (decide := true) only [q2_ne, q2_r1, uI_at, uI_nj, qRow_ne, qRow_at]; exact hKA))⟩⟩
    · exfalso; (try simp (decide := true) only [q2_ne, q2_r1, uI_at, uI_nj, qRow_ne, qRow_at] at *); (try simp only [place_eq hSt] at *); (try simp only [line_eq hSt] at *); (try rw [hSt.1] at *); (try rw [hHa.1] at *); clear hst hSt hHa hTo hTp hEd hDa hPe hTr hTx hMk hKA hl hl2; grind
  · have hpl := a0
    have hp : inP s l p := by have := hl s hpl.2.1.1.1 hpl.2.1.1.2; unfold inP; clear hst hSt hHa hTo hTp hEd hDa hPe hTr hTx hMk hKA; grind
    have ha : 0 ≤ a ∧ a < 6 := by clear hst hSt hHa hTo hTp hEd hDa hPe hTr hTx hMk hKA; grind
    obtain ⟨hz, hz0, _⟩ := rd1_un (hTo _ (ix_lt ha hp))
    refine ⟨_, rfl, ⟨by simp (decide := true) only [q2_ne, q2_r1, uI_at, uI_nj, qRow_ne, qRow_at], rfl, hst⟩, ?_⟩
    refine c_X12_forget (by first | exact hs2 | (simp (decide := true) only [q2_ne, q2_r1, uI_at, uI_nj, qRow_ne, qRow_at]; exact hs2)) (by first | exact hn2 | (simp (decide := true) only [q2_ne, q2_r1, uI_at, uI_nj, qRow_ne, qRow_at]; exact hn2)) (by first | exact hl2 | (simp (decide := true) only [q2_ne, q2_r1, uI_at, uI_nj, qRow_ne, qRow_at]; exact hl2)) (fun b0 => ?_) (fun b0 b1 => ?_) (fun b0 b1 => ?_)
    · exfalso; (try simp (decide := true) only [q2_ne, q2_r1, uI_at, uI_nj, qRow_ne, qRow_at] at *); (try simp only [place_eq hSt] at *); (try simp only [line_eq hSt] at *); (try rw [hSt.1] at *); (try rw [hHa.1] at *); clear hst hSt hHa hTo hTp hEd hDa hPe hTr hTx hMk hKA hl hl2; grind
    · exfalso; (try simp (decide := true) only [q2_ne, q2_r1, uI_at, uI_nj, qRow_ne, qRow_at] at *); (try simp only [place_eq hSt] at *); (try simp only [line_eq hSt] at *); (try rw [hSt.1] at *); (try rw [hHa.1] at *); clear hst hSt hHa hTo hTp hEd hDa hPe hTr hTx hMk hKA hl hl2; grind
    · exact ⟨rfl, ⟨by first | rfl | (simp (decide := true) only [q2_ne, q2_r1, uI_at, uI_nj, qRow_ne, qRow_at]), rfl⟩, ⟨hst, (by first | exact hSt | (simp (decide := true) only [q2_ne, q2_r1, uI_at, uI_nj, qRow_ne, qRow_at]; exact hSt)), (by first | exact hHa | (simp (decide := true) only [q2_ne, q2_r1, uI_at, uI_nj, qRow_ne, qRow_at]; exact hHa)), (by simp (decide := true) only [q2_ne, q2_r1, uI_at, uI_nj, qRow_ne, qRow_at]; exact RTo_f1 hTo), (by first | exact hTp | (simp (decide := true) only [q2_ne, q2_r1, uI_at, uI_nj, qRow_ne, qRow_at]; exact hTp)), (by first | exact hEd | (simp (decide := true) only [q2_ne, q2_r1, uI_at, uI_nj, qRow_ne, qRow_at]; exact hEd)), (by first | exact hDa | (simp (decide := true) only [q2_ne, q2_r1, uI_at, uI_nj, qRow_ne, qRow_at]; exact hDa)), (by first | exact hPe | (simp (decide := true) only [q2_ne, q2_r1, uI_at, uI_nj, qRow_ne, qRow_at]; exact hPe)), (by first | exact hTr | (simp (decide := true) only [q2_ne, q2_r1, uI_at, uI_nj, qRow_ne, qRow_at]; exact hTr)), (RTx_of hTx (by simp (decide := true) only [q2_ne, q2_r1, uI_at, uI_nj, qRow_ne, qRow_at]) (by simp (decide := true) only [q2_ne, q2_r1, uI_at, uI_nj, qRow_ne, qRow_at]) (by simp (decide := true) only [q2_ne, q2_r1, uI_at, uI_nj, qRow_ne, qRow_at]) (by simp (decide := true) only [q2_ne, q2_r1, uI_at, uI_nj, qRow_ne, qRow_at]) (by simp (decide := true) only [q2_ne, q2_r1, uI_at, uI_nj, qRow_ne, qRow_at]) (fun k hk => by (try dsimp only); repeat first | rfl | rw [q2_ne (by omega)] | rw [qRow_ne (by omega)]) (fun k hk => by (try dsimp only); repeat first | rfl | rw [q2_ne (by omega)] | rw [qRow_ne (by omega)])), (by first | exact hMk | (simp (decide := true) only [q2_ne, q2_r1, uI_at, uI_nj, qRow_ne, qRow_at]; exact hMk)), (by first | exact hKA | (simp (decide := true) only [q2_ne, q2_r1, uI_at, uI_nj, qRow_ne, qRow_at]; exact hKA))⟩⟩

theorem c_X11_taken {d z : Nat} {N : Nat → Nat} {I : Nat → Nat → Int32} {L : Nat → Nat → Int64} {R : Nat → Nat → Option Nat} {Q : qP} {a : Int32} {s : Int32} {l : Int32} {p : Int32} {k : Int32} (hs : 0 ≤ I 3 2 ∧ I 3 2 ≤ 12) (hn : 0 ≤ I 6 2 ∧ I 6 2 ≤ 6) (hl : ∀ x : Int32, 0 ≤ x → x < I 3 2 → I 4 x.toNatClampNeg ≤ 4 ∧ I 5 x.toNatClampNeg ≤ 24) (hTo : RTo (I 8) (I 70) (I 71)) (hKA : I 1 = qKA) (h0 : ¬ ((0 ≤ a ∧ a < I 6 2) ∧ (((0 ≤ s ∧ s < I 3 2) ∧ 0 ≤ l ∧ l < I 4 s.toNatClampNeg) ∧ 0 ≤ p ∧ p < I 5 s.toNatClampNeg) ∧ 0 ≤ k ∧ k < 6) → Q (some (.int (-2))) (z, N, I, L, R)) (h1 : ((0 ≤ a ∧ a < I 6 2) ∧ (((0 ≤ s ∧ s < I 3 2) ∧ 0 ≤ l ∧ l < I 4 s.toNatClampNeg) ∧ 0 ≤ p ∧ p < I 5 s.toNatClampNeg) ∧ 0 ≤ k ∧ k < 6) → I 8 (tIx a s l p).toNatClampNeg = 0 → Q (some (.int (-11))) (z, N, I, L, R)) (h2 : ((0 ≤ a ∧ a < I 6 2) ∧ (((0 ≤ s ∧ s < I 3 2) ∧ 0 ≤ l ∧ l < I 4 s.toNatClampNeg) ∧ 0 ≤ p ∧ p < I 5 s.toNatClampNeg) ∧ 0 ≤ k ∧ k < 6) → ¬ I 8 (tIx a s l p).toNatClampNeg = 0 → (k = fKd (I 8 (tIx a s l p).toNatClampNeg) ∨ k = 0 ∨ (fKd (I 8 (tIx a s l p).toNatClampNeg) = 4 ∧ k = 3)) → Q (some (.int (fMy (I 8 (tIx a s l p).toNatClampNeg)))) (z, N, I, L, R)) (h3 : ((0 ≤ a ∧ a < I 6 2) ∧ (((0 ≤ s ∧ s < I 3 2) ∧ 0 ≤ l ∧ l < I 4 s.toNatClampNeg) ∧ 0 ≤ p ∧ p < I 5 s.toNatClampNeg) ∧ 0 ≤ k ∧ k < 6) → ¬ I 8 (tIx a s l p).toNatClampNeg = 0 → ¬ (k = fKd (I 8 (tIx a s l p).toNatClampNeg) ∨ k = 0 ∨ (fKd (I 8 (tIx a s l p).toNatClampNeg) = 4 ∧ k = 3)) → Q (some (.int (-13))) (z, N, I, L, R)) : qWP (d + 5) 165 [.ref 2, .int a, .int s, .int l, .int p, .int k] (z, N, I, L, R) Q := by
  refine qWP_of m_X11_taken rfl rfl [(0, .ref 2), (1, .int a), (2, .int s), (3, .int l), (4, .int p), (5, .int k)] rfl ?_
  refine qJ_run (qWP_mono _) [] 400 ?_
  refine ⟨⟨Nat.le_refl _, Nat.le_refl _⟩, ?_⟩
  refine c_X5_hasHand hn fun v1 hv1 => ?_
  refine ⟨fun (c1 : v1 = 0) => ?_, fun (c1 : ¬ v1 = 0) => ?_⟩
  · refine ⟨fun (c2 : 0 = 0) => ?_, fun (c2 : ¬ 0 = 0) => ?_⟩
    · change Q (some (.int (-2))) (z, N, I, L, R)
      exact h0 (by clear h0 h1 h2 h3; grind)
    · refine ⟨fun (c3 : k < 0) => ?_, fun (c3 : ¬ k < 0) => ?_⟩
      · change Q (some (.int (-2))) (z, N, I, L, R)
        exact h0 (by clear h0 h1 h2 h3; grind)
      · refine ⟨fun (c4 : k < 6) => ?_, fun (c4 : ¬ k < 6) => ?_⟩
        · refine ⟨⟨Nat.le_refl _, Nat.le_refl _⟩, ?_⟩
          have hpl : (0 ≤ a ∧ a < I 6 2) ∧ ((0 ≤ s ∧ s < I 3 2) ∧ 0 ≤ l ∧ l < I 4 s.toNatClampNeg) ∧ 0 ≤ p ∧ p < I 5 s.toNatClampNeg := by clear h0 h1 h2 h3; grind
          have hp : inP s l p := by have := hl s hpl.2.1.1.1 hpl.2.1.1.2; unfold inP; clear h0 h1 h2 h3; grind
          have ha : 0 ≤ a ∧ a < 6 := by clear h0 h1 h2 h3; grind
          refine c_X5_at (d := d + 2) fun v2 hv2 => ?_
          replace hv2 : v2 = tAt (I 8) a s l p := hv2
          rw [ix_at ha hp] at hv2
          subst hv2
          refine ⟨fun (c5 : ¬ (I 8 (tIx a s l p).toNatClampNeg) = 0) => ?_, fun (c5 : (I 8 (tIx a s l p).toNatClampNeg) = 0) => ?_⟩
          · refine ⟨⟨Nat.le_refl _, Nat.le_refl _⟩, ?_⟩
            refine c_X5_kindOf (d := d + 3) fun v3 hv3 => ?_
            subst hv3
            have hkr : 0 ≤ fKd (I 8 (tIx a s l p).toNatClampNeg) ∧ fKd (I 8 (tIx a s l p).toNatClampNeg) ≤ 5 := by
              have h9 := hTo _ (ix_lt ha hp)
              have h8 := rd1_un h9
              rw [(h8.2.2 (by assumption)).1]
              rcases h9 with h9 | h9
              · exact absurd h9.1 (by assumption)
              · clear h0 h1 h2 h3; grind
            refine ⟨⟨Nat.le_refl _, Nat.le_refl _⟩, ?_⟩
            refine c_X5_isUnder (d := d + 2) hKA hkr fun v4 hv4 => ?_
            refine ⟨fun (c6 : v4 = 0) => ?_, fun (c6 : ¬ v4 = 0) => ?_⟩
            · change Q (some (.int (-13))) (z, N, I, L, R)
              exact h3 (by clear h0 h1 h2 h3; grind) (by assumption) (by clear h0 h1 h2 h3; grind)
            · refine ⟨⟨Nat.le_refl _, Nat.le_refl _⟩, ?_⟩
              refine c_X5_mayOf (d := d + 3) fun v5 hv5 => ?_
              change Q (some (.int v5)) (z, N, I, L, R)
              subst hv5
              exact h2 (by clear h0 h1 h2 h3; grind) (by assumption) (by clear h0 h1 h2 h3; grind)
          · change Q (some (.int (-11))) (z, N, I, L, R)
            exact h1 (by clear h0 h1 h2 h3; grind) (by assumption)
        · change Q (some (.int (-2))) (z, N, I, L, R)
          exact h0 (by clear h0 h1 h2 h3; grind)
  · refine ⟨⟨Nat.le_refl _, Nat.le_refl _⟩, ?_⟩
    refine c_X6_hasPlace hs fun v6 hv6 => ?_
    refine ⟨fun (c7 : v6 = 0) => ?_, fun (c7 : ¬ v6 = 0) => ?_⟩
    · refine ⟨fun (c8 : 0 = 0) => ?_, fun (c8 : ¬ 0 = 0) => ?_⟩
      · change Q (some (.int (-2))) (z, N, I, L, R)
        exact h0 (by clear h0 h1 h2 h3; grind)
      · refine ⟨fun (c9 : k < 0) => ?_, fun (c9 : ¬ k < 0) => ?_⟩
        · change Q (some (.int (-2))) (z, N, I, L, R)
          exact h0 (by clear h0 h1 h2 h3; grind)
        · refine ⟨fun (c10 : k < 6) => ?_, fun (c10 : ¬ k < 6) => ?_⟩
          · refine ⟨⟨Nat.le_refl _, Nat.le_refl _⟩, ?_⟩
            have hpl : (0 ≤ a ∧ a < I 6 2) ∧ ((0 ≤ s ∧ s < I 3 2) ∧ 0 ≤ l ∧ l < I 4 s.toNatClampNeg) ∧ 0 ≤ p ∧ p < I 5 s.toNatClampNeg := by clear h0 h1 h2 h3; grind
            have hp : inP s l p := by have := hl s hpl.2.1.1.1 hpl.2.1.1.2; unfold inP; clear h0 h1 h2 h3; grind
            have ha : 0 ≤ a ∧ a < 6 := by clear h0 h1 h2 h3; grind
            refine c_X5_at (d := d + 2) fun v7 hv7 => ?_
            replace hv7 : v7 = tAt (I 8) a s l p := hv7
            rw [ix_at ha hp] at hv7
            subst hv7
            refine ⟨fun (c11 : ¬ (I 8 (tIx a s l p).toNatClampNeg) = 0) => ?_, fun (c11 : (I 8 (tIx a s l p).toNatClampNeg) = 0) => ?_⟩
            · refine ⟨⟨Nat.le_refl _, Nat.le_refl _⟩, ?_⟩
              refine c_X5_kindOf (d := d + 3) fun v8 hv8 => ?_
              subst hv8
              have hkr : 0 ≤ fKd (I 8 (tIx a s l p).toNatClampNeg) ∧ fKd (I 8 (tIx a s l p).toNatClampNeg) ≤ 5 := by
                have h9 := hTo _ (ix_lt ha hp)
                have h8 := rd1_un h9
                rw [(h8.2.2 (by assumption)).1]
                rcases h9 with h9 | h9
                · exact absurd h9.1 (by assumption)
                · clear h0 h1 h2 h3; grind
              refine ⟨⟨Nat.le_refl _, Nat.le_refl _⟩, ?_⟩
              refine c_X5_isUnder (d := d + 2) hKA hkr fun v9 hv9 => ?_
              refine ⟨fun (c12 : v9 = 0) => ?_, fun (c12 : ¬ v9 = 0) => ?_⟩
              · change Q (some (.int (-13))) (z, N, I, L, R)
                exact h3 (by clear h0 h1 h2 h3; grind) (by assumption) (by clear h0 h1 h2 h3; grind)
              · refine ⟨⟨Nat.le_refl _, Nat.le_refl _⟩, ?_⟩
                refine c_X5_mayOf (d := d + 3) fun v10 hv10 => ?_
                change Q (some (.int v10)) (z, N, I, L, R)
                subst hv10
                exact h2 (by clear h0 h1 h2 h3; grind) (by assumption) (by clear h0 h1 h2 h3; grind)
            · change Q (some (.int (-11))) (z, N, I, L, R)
              exact h1 (by clear h0 h1 h2 h3; grind) (by assumption)
          · change Q (some (.int (-2))) (z, N, I, L, R)
            exact h0 (by clear h0 h1 h2 h3; grind)
    · refine ⟨fun (c13 : 1 = 0) => ?_, fun (c13 : ¬ 1 = 0) => ?_⟩
      · change Q (some (.int (-2))) (z, N, I, L, R)
        exact h0 (by clear h0 h1 h2 h3; grind)
      · refine ⟨fun (c14 : k < 0) => ?_, fun (c14 : ¬ k < 0) => ?_⟩
        · change Q (some (.int (-2))) (z, N, I, L, R)
          exact h0 (by clear h0 h1 h2 h3; grind)
        · refine ⟨fun (c15 : k < 6) => ?_, fun (c15 : ¬ k < 6) => ?_⟩
          · refine ⟨⟨Nat.le_refl _, Nat.le_refl _⟩, ?_⟩
            have hpl : (0 ≤ a ∧ a < I 6 2) ∧ ((0 ≤ s ∧ s < I 3 2) ∧ 0 ≤ l ∧ l < I 4 s.toNatClampNeg) ∧ 0 ≤ p ∧ p < I 5 s.toNatClampNeg := by clear h0 h1 h2 h3; grind
            have hp : inP s l p := by have := hl s hpl.2.1.1.1 hpl.2.1.1.2; unfold inP; clear h0 h1 h2 h3; grind
            have ha : 0 ≤ a ∧ a < 6 := by clear h0 h1 h2 h3; grind
            refine c_X5_at (d := d + 2) fun v11 hv11 => ?_
            replace hv11 : v11 = tAt (I 8) a s l p := hv11
            rw [ix_at ha hp] at hv11
            subst hv11
            refine ⟨fun (c16 : ¬ (I 8 (tIx a s l p).toNatClampNeg) = 0) => ?_, fun (c16 : (I 8 (tIx a s l p).toNatClampNeg) = 0) => ?_⟩
            · refine ⟨⟨Nat.le_refl _, Nat.le_refl _⟩, ?_⟩
              refine c_X5_kindOf (d := d + 3) fun v12 hv12 => ?_
              subst hv12
              have hkr : 0 ≤ fKd (I 8 (tIx a s l p).toNatClampNeg) ∧ fKd (I 8 (tIx a s l p).toNatClampNeg) ≤ 5 := by
                have h9 := hTo _ (ix_lt ha hp)
                have h8 := rd1_un h9
                rw [(h8.2.2 (by assumption)).1]
                rcases h9 with h9 | h9
                · exact absurd h9.1 (by assumption)
                · clear h0 h1 h2 h3; grind
              refine ⟨⟨Nat.le_refl _, Nat.le_refl _⟩, ?_⟩
              refine c_X5_isUnder (d := d + 2) hKA hkr fun v13 hv13 => ?_
              refine ⟨fun (c17 : v13 = 0) => ?_, fun (c17 : ¬ v13 = 0) => ?_⟩
              · change Q (some (.int (-13))) (z, N, I, L, R)
                exact h3 (by clear h0 h1 h2 h3; grind) (by assumption) (by clear h0 h1 h2 h3; grind)
              · refine ⟨⟨Nat.le_refl _, Nat.le_refl _⟩, ?_⟩
                refine c_X5_mayOf (d := d + 3) fun v14 hv14 => ?_
                change Q (some (.int v14)) (z, N, I, L, R)
                subst hv14
                exact h2 (by clear h0 h1 h2 h3; grind) (by assumption) (by clear h0 h1 h2 h3; grind)
            · change Q (some (.int (-11))) (z, N, I, L, R)
              exact h1 (by clear h0 h1 h2 h3; grind) (by assumption)
          · change Q (some (.int (-2))) (z, N, I, L, R)
            exact h0 (by clear h0 h1 h2 h3; grind)
theorem c_X12_taken {d z : Nat} {N : Nat → Nat} {I : Nat → Nat → Int32} {L : Nat → Nat → Int64} {R : Nat → Nat → Option Nat} {Q : qP} {a : Int32} {s : Int32} {l : Int32} {p : Int32} {k : Int32} (hs : 0 ≤ I 65 0 ∧ I 65 0 ≤ 12) (hn : 0 ≤ I 65 1 ∧ I 65 1 ≤ 6) (hl : ∀ x : Int32, 0 ≤ x → x < I 65 0 → I 66 x.toNatClampNeg ≤ 4 ∧ I 67 x.toNatClampNeg ≤ 24) (hk0 : ∀ x : Nat, x < 6912 → 0 ≤ I 70 x ∧ I 70 x ≤ 6) (h0 : ¬ ((0 ≤ a ∧ a < I 65 1) ∧ (((0 ≤ s ∧ s < I 65 0) ∧ 0 ≤ l ∧ l < I 66 s.toNatClampNeg) ∧ 0 ≤ p ∧ p < I 67 s.toNatClampNeg) ∧ 0 ≤ k ∧ k < 6) → Q (some (.int (-2))) (z, N, I, L, R)) (h1 : ((0 ≤ a ∧ a < I 65 1) ∧ (((0 ≤ s ∧ s < I 65 0) ∧ 0 ≤ l ∧ l < I 66 s.toNatClampNeg) ∧ 0 ≤ p ∧ p < I 67 s.toNatClampNeg) ∧ 0 ≤ k ∧ k < 6) → I 70 (tIx a s l p).toNatClampNeg = 0 → Q (some (.int (-11))) (z, N, I, L, R)) (h2 : ((0 ≤ a ∧ a < I 65 1) ∧ (((0 ≤ s ∧ s < I 65 0) ∧ 0 ≤ l ∧ l < I 66 s.toNatClampNeg) ∧ 0 ≤ p ∧ p < I 67 s.toNatClampNeg) ∧ 0 ≤ k ∧ k < 6) → ¬ I 70 (tIx a s l p).toNatClampNeg = 0 → (k = I 70 (tIx a s l p).toNatClampNeg - 1 ∨ k = 0 ∨ (I 70 (tIx a s l p).toNatClampNeg - 1 = 4 ∧ k = 3)) → Q (some (.int (I 71 (tIx a s l p).toNatClampNeg))) (z, N, I, L, R)) (h3 : ((0 ≤ a ∧ a < I 65 1) ∧ (((0 ≤ s ∧ s < I 65 0) ∧ 0 ≤ l ∧ l < I 66 s.toNatClampNeg) ∧ 0 ≤ p ∧ p < I 67 s.toNatClampNeg) ∧ 0 ≤ k ∧ k < 6) → ¬ I 70 (tIx a s l p).toNatClampNeg = 0 → ¬ (k = I 70 (tIx a s l p).toNatClampNeg - 1 ∨ k = 0 ∨ (I 70 (tIx a s l p).toNatClampNeg - 1 = 4 ∧ k = 3)) → Q (some (.int (-13))) (z, N, I, L, R)) : qWP (d + 5) 245 [.ref 65, .int a, .int s, .int l, .int p, .int k] (z, N, I, L, R) Q := by
  refine qWP_of m_X12_taken rfl rfl [(0, .ref 65), (1, .int a), (2, .int s), (3, .int l), (4, .int p), (5, .int k)] rfl ?_
  refine qJ_run (qWP_mono _) [] 400 ?_
  refine ⟨⟨Nat.le_refl _, Nat.le_refl _⟩, ?_⟩
  refine c_X12_isIn fun v1 hv1 => ?_
  refine ⟨fun (c1 : v1 = 0) => ?_, fun (c1 : ¬ v1 = 0) => ?_⟩
  · change Q (some (.int (-2))) (z, N, I, L, R)
    exact h0 (by clear h0 h1 h2 h3; grind)
  · refine ⟨⟨Nat.le_refl _, Nat.le_refl _⟩, ?_⟩
    refine c_X12_isPlace hs fun v2 hv2 => ?_
    refine ⟨fun (c2 : v2 = 0) => ?_, fun (c2 : ¬ v2 = 0) => ?_⟩
    · change Q (some (.int (-2))) (z, N, I, L, R)
      exact h0 (by clear h0 h1 h2 h3; grind)
    · refine ⟨⟨Nat.le_refl _, Nat.le_refl _⟩, ?_⟩
      refine c_X12_isIn fun v3 hv3 => ?_
      refine ⟨fun (c3 : ¬ v3 = 0) => ?_, fun (c3 : v3 = 0) => ?_⟩
      · refine ⟨⟨Nat.le_refl _, Nat.le_refl _⟩, ?_⟩
        have hpl : (0 ≤ a ∧ a < I 65 1) ∧ ((0 ≤ s ∧ s < I 65 0) ∧ 0 ≤ l ∧ l < I 66 s.toNatClampNeg) ∧ 0 ≤ p ∧ p < I 67 s.toNatClampNeg := by clear h0 h1 h2 h3; grind
        have hp : inP s l p := by have := hl s hpl.2.1.1.1 hpl.2.1.1.2; unfold inP; clear h0 h1 h2 h3; grind
        have ha : 0 ≤ a ∧ a < 6 := by clear h0 h1 h2 h3; grind
        refine c_X12_at fun v4 hv4 => ?_
        replace hv4 : v4 = tIx a s l p := hv4
        subst hv4
        refine ⟨?_, ?_⟩
        · exact vb (N := 6912) 6912 (by decide) (ix_rng ha hp).1 (ix_rng ha hp).2
        refine ⟨fun (c4 : 0 ≤ ((I 70 ((tIx a s l p).toNatClampNeg)) - 1)) => ?_, fun (c4 : ¬ 0 ≤ ((I 70 ((tIx a s l p).toNatClampNeg)) - 1)) => ?_⟩
        · refine ⟨fun (c5 : k = 0) => ?_, fun (c5 : ¬ k = 0) => ?_⟩
          · refine ⟨⟨Nat.le_refl _, Nat.le_refl _⟩, ?_⟩
            refine c_X12_at fun v5 hv5 => ?_
            replace hv5 : v5 = tIx a s l p := hv5
            subst hv5
            refine ⟨?_, ?_⟩
            · exact vb (N := 6912) 6912 (by decide) (ix_rng ha hp).1 (ix_rng ha hp).2
            change Q (some (.int (I 71 ((tIx a s l p).toNatClampNeg)))) (z, N, I, L, R)
            exact h2 (by clear h0 h1 h2 h3; grind) (by clear h0 h1 h2 h3; grind) (by clear h0 h1 h2 h3; grind)
          · refine ⟨fun (c6 : k = ((I 70 ((tIx a s l p).toNatClampNeg)) - 1)) => ?_, fun (c6 : ¬ k = ((I 70 ((tIx a s l p).toNatClampNeg)) - 1)) => ?_⟩
            · refine ⟨⟨Nat.le_refl _, Nat.le_refl _⟩, ?_⟩
              refine c_X12_at fun v6 hv6 => ?_
              replace hv6 : v6 = tIx a s l p := hv6
              subst hv6
              refine ⟨?_, ?_⟩
              · exact vb (N := 6912) 6912 (by decide) (ix_rng ha hp).1 (ix_rng ha hp).2
              change Q (some (.int (I 71 ((tIx a s l p).toNatClampNeg)))) (z, N, I, L, R)
              exact h2 (by clear h0 h1 h2 h3; grind) (by clear h0 h1 h2 h3; grind) (by clear h0 h1 h2 h3; grind)
            · refine ⟨fun (c7 : ¬ k = 3) => ?_, fun (c7 : k = 3) => ?_⟩
              · change Q (some (.int (-13))) (z, N, I, L, R)
                exact h3 (by clear h0 h1 h2 h3; grind) (by clear h0 h1 h2 h3; grind) (by clear h0 h1 h2 h3; grind)
              · refine ⟨fun (c8 : ¬ ((I 70 ((tIx a s l p).toNatClampNeg)) - 1) = 4) => ?_, fun (c8 : ((I 70 ((tIx a s l p).toNatClampNeg)) - 1) = 4) => ?_⟩
                · change Q (some (.int (-13))) (z, N, I, L, R)
                  exact h3 (by clear h0 h1 h2 h3; grind) (by clear h0 h1 h2 h3; grind) (by clear h0 h1 h2 h3; grind)
                · refine ⟨⟨Nat.le_refl _, Nat.le_refl _⟩, ?_⟩
                  refine c_X12_at fun v7 hv7 => ?_
                  replace hv7 : v7 = tIx a s l p := hv7
                  subst hv7
                  refine ⟨?_, ?_⟩
                  · exact vb (N := 6912) 6912 (by decide) (ix_rng ha hp).1 (ix_rng ha hp).2
                  change Q (some (.int (I 71 ((tIx a s l p).toNatClampNeg)))) (z, N, I, L, R)
                  exact h2 (by clear h0 h1 h2 h3; grind) (by clear h0 h1 h2 h3; grind) (by clear h0 h1 h2 h3; grind)
        · change Q (some (.int (-11))) (z, N, I, L, R)
          exact h1 (by clear h0 h1 h2 h3; grind) (by have := hk0 _ (ix_lt ha hp); clear h0 h1 h2 h3; grind)
      · change Q (some (.int (-2))) (z, N, I, L, R)
        exact h0 (by clear h0 h1 h2 h3; grind)
theorem op_taken {M : qM} (hI : qInv M) (a : Int32) (s : Int32) (l : Int32) (p : Int32) (k : Int32) : qOp 165 245 [.int a, .int s, .int l, .int p, .int k] M := by
  obtain ⟨z, N, I, L, R⟩ := M
  obtain ⟨hst, hSt, hHa, hTo, hTp, hEd, hDa, hPe, hTr, hTx, hMk, hKA⟩ := hI
  dsimp only at hst hSt hHa hTo hTp hEd hDa hPe hTr hTx hMk hKA
  have hs : 0 ≤ I 3 2 ∧ I 3 2 ≤ 12 := ⟨hSt.2.1, hSt.2.2.1⟩
  have hn : 0 ≤ I 6 2 ∧ I 6 2 ≤ 6 := ⟨hHa.2.1, hHa.2.2.1⟩
  have hl : ∀ x : Int32, 0 ≤ x → x < I 3 2 → I 4 x.toNatClampNeg ≤ 4 ∧ I 5 x.toNatClampNeg ≤ 24 := fun x a b => ⟨(hSt.2.2.2 x a b).2.2.1, (hSt.2.2.2 x a b).2.2.2.2.2⟩
  have hs2 : 0 ≤ I 65 0 ∧ I 65 0 ≤ 12 := by rw [hSt.1]; exact hs
  have hl2 : ∀ x : Int32, 0 ≤ x → x < I 65 0 → I 66 x.toNatClampNeg ≤ 4 ∧ I 67 x.toNatClampNeg ≤ 24 := fun x a b => by
    rw [hSt.1] at b
    rw [(hSt.2.2.2 x a b).1, (hSt.2.2.2 x a b).2.2.2.1]
    exact hl x a b
  have hn2 : 0 ≤ I 65 1 ∧ I 65 1 ≤ 6 := by rw [hHa.1]; exact hn
  have hk0 : ∀ x : Nat, x < 6912 → 0 ≤ I 70 x ∧ I 70 x ≤ 6 := fun x hx => by
    rcases hTo x hx with h | h
    · rw [h.2]; decide
    · exact ⟨by clear hst hSt hHa hTp hEd hDa hPe hTr hTx hMk hKA; grind, h.2.1⟩
  refine c_X11_taken hs hn hl hTo hKA (fun a0 => ?_) (fun a0 a1 => ?_) (fun a0 a1 a2 => ?_) (fun a0 a1 a2 => ?_)
  · refine ⟨_, rfl, ⟨rfl, rfl, hst⟩, ?_⟩
    refine c_X12_taken (by first | exact hs2 | (simp (decide := true) only [q2_ne, q2_r1, uI_at, uI_nj, qRow_ne, qRow_at]; exact hs2)) (by first | exact hn2 | (simp (decide := true) only [q2_ne, q2_r1, uI_at, uI_nj, qRow_ne, qRow_at]; exact hn2)) (by first | exact hl2 | (simp (decide := true) only [q2_ne, q2_r1, uI_at, uI_nj, qRow_ne, qRow_at]; exact hl2)) (by first | exact hk0 | (simp (decide := true) only [q2_ne, q2_r1, uI_at, uI_nj, qRow_ne, qRow_at]; exact hk0)) (fun b0 => ?_) (fun b0 b1 => ?_) (fun b0 b1 b2 => ?_) (fun b0 b1 b2 => ?_)
    · exact ⟨rfl, ⟨by first | rfl | (simp (decide := true) only [q2_ne, q2_r1, uI_at, uI_nj, qRow_ne, qRow_at]), rfl⟩, ⟨hst, (by first | exact hSt | (simp (decide := true) only [q2_ne, q2_r1, uI_at, uI_nj, qRow_ne, qRow_at]; exact hSt)), (by first | exact hHa | (simp (decide := true) only [q2_ne, q2_r1, uI_at, uI_nj, qRow_ne, qRow_at]; exact hHa)), (by first | exact hTo | (simp (decide := true) only [q2_ne, q2_r1, uI_at, uI_nj, qRow_ne, qRow_at]; exact hTo)), (by first | exact hTp | (simp (decide := true) only [q2_ne, q2_r1, uI_at, uI_nj, qRow_ne, qRow_at]; exact hTp)), (by first | exact hEd | (simp (decide := true) only [q2_ne, q2_r1, uI_at, uI_nj, qRow_ne, qRow_at]; exact hEd)), (by first | exact hDa | (simp (decide := true) only [q2_ne, q2_r1, uI_at, uI_nj, qRow_ne, qRow_at]; exact hDa)), (by first | exact hPe | (simp (decide := true) only [q2_ne, q2_r1, uI_at, uI_nj, qRow_ne, qRow_at]; exact hPe)), (by first | exact hTr | (simp (decide := true) only [q2_ne, q2_r1, uI_at, uI_nj, qRow_ne, qRow_at]; exact hTr)), (RTx_of hTx (by simp (decide := true) only [q2_ne, q2_r1, uI_at, uI_nj, qRow_ne, qRow_at]) (by simp (decide := true) only [q2_ne, q2_r1, uI_at, uI_nj, qRow_ne, qRow_at]) (by simp (decide := true) only [q2_ne, q2_r1, uI_at, uI_nj, qRow_ne, qRow_at]) (by simp (decide := true) only [q2_ne, q2_r1, uI_at, uI_nj, qRow_ne, qRow_at]) (by simp (decide := true) only [q2_ne, q2_r1, uI_at, uI_nj, qRow_ne, qRow_at]) (fun k hk => by (try dsimp only); repeat first | rfl | rw [q2_ne (by omega)] | rw [qRow_ne (by omega)]) (fun k hk => by (try dsimp only); repeat first | rfl | rw [q2_ne (by omega)] | rw [qRow_ne (by omega)])), (by first | exact hMk | (simp (decide := true) only [q2_ne, q2_r1, uI_at, uI_nj, qRow_ne, qRow_at]; exact hMk)), (by first | exact hKA | (simp (decide := true) only [q2_ne, q2_r1, uI_at, uI_nj, qRow_ne, qRow_at]; exact hKA))⟩⟩
    · exfalso; (try simp (decide := true) only [q2_ne, q2_r1, uI_at, uI_nj, qRow_ne, qRow_at] at *); (try simp only [place_eq hSt] at *); (try simp only [line_eq hSt] at *); (try rw [hSt.1] at *); (try rw [hHa.1] at *); clear hst hSt hHa hTo hTp hEd hDa hPe hTr hTx hMk hKA hl hl2; grind
    · exfalso; (try simp (decide := true) only [q2_ne, q2_r1, uI_at, uI_nj, qRow_ne, qRow_at] at *); (try simp only [place_eq hSt] at *); (try simp only [line_eq hSt] at *); (try rw [hSt.1] at *); (try rw [hHa.1] at *); clear hst hSt hHa hTo hTp hEd hDa hPe hTr hTx hMk hKA hl hl2; grind
    · exfalso; (try simp (decide := true) only [q2_ne, q2_r1, uI_at, uI_nj, qRow_ne, qRow_at] at *); (try simp only [place_eq hSt] at *); (try simp only [line_eq hSt] at *); (try rw [hSt.1] at *); (try rw [hHa.1] at *); clear hst hSt hHa hTo hTp hEd hDa hPe hTr hTx hMk hKA hl hl2; grind
  · have hpl := And.intro a0.1 a0.2.1
    have hp : inP s l p := by have := hl s hpl.2.1.1.1 hpl.2.1.1.2; unfold inP; clear hst hSt hHa hTo hTp hEd hDa hPe hTr hTx hMk hKA; grind
    have ha : 0 ≤ a ∧ a < 6 := by clear hst hSt hHa hTo hTp hEd hDa hPe hTr hTx hMk hKA; grind
    obtain ⟨hz, hz0, hzu⟩ := rd1_un (hTo _ (ix_lt ha hp))
    refine ⟨_, rfl, ⟨rfl, rfl, hst⟩, ?_⟩
    refine c_X12_taken (by first | exact hs2 | (simp (decide := true) only [q2_ne, q2_r1, uI_at, uI_nj, qRow_ne, qRow_at]; exact hs2)) (by first | exact hn2 | (simp (decide := true) only [q2_ne, q2_r1, uI_at, uI_nj, qRow_ne, qRow_at]; exact hn2)) (by first | exact hl2 | (simp (decide := true) only [q2_ne, q2_r1, uI_at, uI_nj, qRow_ne, qRow_at]; exact hl2)) (by first | exact hk0 | (simp (decide := true) only [q2_ne, q2_r1, uI_at, uI_nj, qRow_ne, qRow_at]; exact hk0)) (fun b0 => ?_) (fun b0 b1 => ?_) (fun b0 b1 b2 => ?_) (fun b0 b1 b2 => ?_)
    · exfalso; (try simp (decide := true) only [q2_ne, q2_r1, uI_at, uI_nj, qRow_ne, qRow_at] at *); (try simp only [place_eq hSt] at *); (try simp only [line_eq hSt] at *); (try rw [hSt.1] at *); (try rw [hHa.1] at *); clear hst hSt hHa hTo hTp hEd hDa hPe hTr hTx hMk hKA hl hl2; grind
    · exact ⟨rfl, ⟨by first | rfl | (simp (decide := true) only [q2_ne, q2_r1, uI_at, uI_nj, qRow_ne, qRow_at]), rfl⟩, ⟨hst, (by first | exact hSt | (simp (decide := true) only [q2_ne, q2_r1, uI_at, uI_nj, qRow_ne, qRow_at]; exact hSt)), (by first | exact hHa | (simp (decide := true) only [q2_ne, q2_r1, uI_at, uI_nj, qRow_ne, qRow_at]; exact hHa)), (by first | exact hTo | (simp (decide := true) only [q2_ne, q2_r1, uI_at, uI_nj, qRow_ne, qRow_at]; exact hTo)), (by first | exact hTp | (simp (decide := true) only [q2_ne, q2_r1, uI_at, uI_nj, qRow_ne, qRow_at]; exact hTp)), (by first | exact hEd | (simp (decide := true) only [q2_ne, q2_r1, uI_at, uI_nj, qRow_ne, qRow_at]; exact hEd)), (by first | exact hDa | (simp (decide := true) only [q2_ne, q2_r1, uI_at, uI_nj, qRow_ne, qRow_at]; exact hDa)), (by first | exact hPe | (simp (decide := true) only [q2_ne, q2_r1, uI_at, uI_nj, qRow_ne, qRow_at]; exact hPe)), (by first | exact hTr | (simp (decide := true) only [q2_ne, q2_r1, uI_at, uI_nj, qRow_ne, qRow_at]; exact hTr)), (RTx_of hTx (by simp (decide := true) only [q2_ne, q2_r1, uI_at, uI_nj, qRow_ne, qRow_at]) (by simp (decide := true) only [q2_ne, q2_r1, uI_at, uI_nj, qRow_ne, qRow_at]) (by simp (decide := true) only [q2_ne, q2_r1, uI_at, uI_nj, qRow_ne, qRow_at]) (by simp (decide := true) only [q2_ne, q2_r1, uI_at, uI_nj, qRow_ne, qRow_at]) (by simp (decide := true) only [q2_ne, q2_r1, uI_at, uI_nj, qRow_ne, qRow_at]) (fun k hk => by (try dsimp only); repeat first | rfl | rw [q2_ne (by omega)] | rw [qRow_ne (by omega)]) (fun k hk => by (try dsimp only); repeat first | rfl | rw [q2_ne (by omega)] | rw [qRow_ne (by omega)])), (by first | exact hMk | (simp (decide := true) only [q2_ne, q2_r1, uI_at, uI_nj, qRow_ne, qRow_at]; exact hMk)), (by first | exact hKA | (simp (decide := true) only [q2_ne, q2_r1, uI_at, uI_nj, qRow_ne, qRow_at]; exact hKA))⟩⟩
    · exfalso; (try simp (decide := true) only [q2_ne, q2_r1, uI_at, uI_nj, qRow_ne, qRow_at] at *); (try simp only [place_eq hSt] at *); (try simp only [line_eq hSt] at *); (try rw [hSt.1] at *); (try rw [hHa.1] at *); clear hst hSt hHa hTo hTp hEd hDa hPe hTr hTx hMk hKA hl hl2; grind
    · exfalso; (try simp (decide := true) only [q2_ne, q2_r1, uI_at, uI_nj, qRow_ne, qRow_at] at *); (try simp only [place_eq hSt] at *); (try simp only [line_eq hSt] at *); (try rw [hSt.1] at *); (try rw [hHa.1] at *); clear hst hSt hHa hTo hTp hEd hDa hPe hTr hTx hMk hKA hl hl2; grind
  · have hpl := And.intro a0.1 a0.2.1
    have hp : inP s l p := by have := hl s hpl.2.1.1.1 hpl.2.1.1.2; unfold inP; clear hst hSt hHa hTo hTp hEd hDa hPe hTr hTx hMk hKA; grind
    have ha : 0 ≤ a ∧ a < 6 := by clear hst hSt hHa hTo hTp hEd hDa hPe hTr hTx hMk hKA; grind
    obtain ⟨hz, hz0, hzu⟩ := rd1_un (hTo _ (ix_lt ha hp))
    have hzk := (hzu a1).1
    refine ⟨_, rfl, ⟨rfl, rfl, hst⟩, ?_⟩
    refine c_X12_taken (by first | exact hs2 | (simp (decide := true) only [q2_ne, q2_r1, uI_at, uI_nj, qRow_ne, qRow_at]; exact hs2)) (by first | exact hn2 | (simp (decide := true) only [q2_ne, q2_r1, uI_at, uI_nj, qRow_ne, qRow_at]; exact hn2)) (by first | exact hl2 | (simp (decide := true) only [q2_ne, q2_r1, uI_at, uI_nj, qRow_ne, qRow_at]; exact hl2)) (by first | exact hk0 | (simp (decide := true) only [q2_ne, q2_r1, uI_at, uI_nj, qRow_ne, qRow_at]; exact hk0)) (fun b0 => ?_) (fun b0 b1 => ?_) (fun b0 b1 b2 => ?_) (fun b0 b1 b2 => ?_)
    · exfalso; (try simp (decide := true) only [q2_ne, q2_r1, uI_at, uI_nj, qRow_ne, qRow_at] at *); (try simp only [place_eq hSt] at *); (try simp only [line_eq hSt] at *); (try rw [hSt.1] at *); (try rw [hHa.1] at *); clear hst hSt hHa hTo hTp hEd hDa hPe hTr hTx hMk hKA hl hl2; grind
    · exfalso; (try simp (decide := true) only [q2_ne, q2_r1, uI_at, uI_nj, qRow_ne, qRow_at] at *); (try simp only [place_eq hSt] at *); (try simp only [line_eq hSt] at *); (try rw [hSt.1] at *); (try rw [hHa.1] at *); clear hst hSt hHa hTo hTp hEd hDa hPe hTr hTx hMk hKA hl hl2; grind
    · exact ⟨by rw [(hzu a1).2], ⟨by first | rfl | (simp (decide := true) only [q2_ne, q2_r1, uI_at, uI_nj, qRow_ne, qRow_at]), rfl⟩, ⟨hst, (by first | exact hSt | (simp (decide := true) only [q2_ne, q2_r1, uI_at, uI_nj, qRow_ne, qRow_at]; exact hSt)), (by first | exact hHa | (simp (decide := true) only [q2_ne, q2_r1, uI_at, uI_nj, qRow_ne, qRow_at]; exact hHa)), (by first | exact hTo | (simp (decide := true) only [q2_ne, q2_r1, uI_at, uI_nj, qRow_ne, qRow_at]; exact hTo)), (by first | exact hTp | (simp (decide := true) only [q2_ne, q2_r1, uI_at, uI_nj, qRow_ne, qRow_at]; exact hTp)), (by first | exact hEd | (simp (decide := true) only [q2_ne, q2_r1, uI_at, uI_nj, qRow_ne, qRow_at]; exact hEd)), (by first | exact hDa | (simp (decide := true) only [q2_ne, q2_r1, uI_at, uI_nj, qRow_ne, qRow_at]; exact hDa)), (by first | exact hPe | (simp (decide := true) only [q2_ne, q2_r1, uI_at, uI_nj, qRow_ne, qRow_at]; exact hPe)), (by first | exact hTr | (simp (decide := true) only [q2_ne, q2_r1, uI_at, uI_nj, qRow_ne, qRow_at]; exact hTr)), (RTx_of hTx (by simp (decide := true) only [q2_ne, q2_r1, uI_at, uI_nj, qRow_ne, qRow_at]) (by simp (decide := true) only [q2_ne, q2_r1, uI_at, uI_nj, qRow_ne, qRow_at]) (by simp (decide := true) only [q2_ne, q2_r1, uI_at, uI_nj, qRow_ne, qRow_at]) (by simp (decide := true) only [q2_ne, q2_r1, uI_at, uI_nj, qRow_ne, qRow_at]) (by simp (decide := true) only [q2_ne, q2_r1, uI_at, uI_nj, qRow_ne, qRow_at]) (fun k hk => by (try dsimp only); repeat first | rfl | rw [q2_ne (by omega)] | rw [qRow_ne (by omega)]) (fun k hk => by (try dsimp only); repeat first | rfl | rw [q2_ne (by omega)] | rw [qRow_ne (by omega)])), (by first | exact hMk | (simp (decide := true) only [q2_ne, q2_r1, uI_at, uI_nj, qRow_ne, qRow_at]; exact hMk)), (by first | exact hKA | (simp (decide := true) only [q2_ne, q2_r1, uI_at, uI_nj, qRow_ne, qRow_at]; exact hKA))⟩⟩
    · exfalso; (try simp (decide := true) only [q2_ne, q2_r1, uI_at, uI_nj, qRow_ne, qRow_at] at *); (try simp only [place_eq hSt] at *); (try simp only [line_eq hSt] at *); (try rw [hSt.1] at *); (try rw [hHa.1] at *); clear hst hSt hHa hTo hTp hEd hDa hPe hTr hTx hMk hKA hl hl2; grind
  · have hpl := And.intro a0.1 a0.2.1
    have hp : inP s l p := by have := hl s hpl.2.1.1.1 hpl.2.1.1.2; unfold inP; clear hst hSt hHa hTo hTp hEd hDa hPe hTr hTx hMk hKA; grind
    have ha : 0 ≤ a ∧ a < 6 := by clear hst hSt hHa hTo hTp hEd hDa hPe hTr hTx hMk hKA; grind
    obtain ⟨hz, hz0, hzu⟩ := rd1_un (hTo _ (ix_lt ha hp))
    have hzk := (hzu a1).1
    refine ⟨_, rfl, ⟨rfl, rfl, hst⟩, ?_⟩
    refine c_X12_taken (by first | exact hs2 | (simp (decide := true) only [q2_ne, q2_r1, uI_at, uI_nj, qRow_ne, qRow_at]; exact hs2)) (by first | exact hn2 | (simp (decide := true) only [q2_ne, q2_r1, uI_at, uI_nj, qRow_ne, qRow_at]; exact hn2)) (by first | exact hl2 | (simp (decide := true) only [q2_ne, q2_r1, uI_at, uI_nj, qRow_ne, qRow_at]; exact hl2)) (by first | exact hk0 | (simp (decide := true) only [q2_ne, q2_r1, uI_at, uI_nj, qRow_ne, qRow_at]; exact hk0)) (fun b0 => ?_) (fun b0 b1 => ?_) (fun b0 b1 b2 => ?_) (fun b0 b1 b2 => ?_)
    · exfalso; (try simp (decide := true) only [q2_ne, q2_r1, uI_at, uI_nj, qRow_ne, qRow_at] at *); (try simp only [place_eq hSt] at *); (try simp only [line_eq hSt] at *); (try rw [hSt.1] at *); (try rw [hHa.1] at *); clear hst hSt hHa hTo hTp hEd hDa hPe hTr hTx hMk hKA hl hl2; grind
    · exfalso; (try simp (decide := true) only [q2_ne, q2_r1, uI_at, uI_nj, qRow_ne, qRow_at] at *); (try simp only [place_eq hSt] at *); (try simp only [line_eq hSt] at *); (try rw [hSt.1] at *); (try rw [hHa.1] at *); clear hst hSt hHa hTo hTp hEd hDa hPe hTr hTx hMk hKA hl hl2; grind
    · exfalso; (try simp (decide := true) only [q2_ne, q2_r1, uI_at, uI_nj, qRow_ne, qRow_at] at *); (try simp only [place_eq hSt] at *); (try simp only [line_eq hSt] at *); (try rw [hSt.1] at *); (try rw [hHa.1] at *); clear hst hSt hHa hTo hTp hEd hDa hPe hTr hTx hMk hKA hl hl2; grind
    · exact ⟨rfl, ⟨by first | rfl | (simp (decide := true) only [q2_ne, q2_r1, uI_at, uI_nj, qRow_ne, qRow_at]), rfl⟩, ⟨hst, (by first | exact hSt | (simp (decide := true) only [q2_ne, q2_r1, uI_at, uI_nj, qRow_ne, qRow_at]; exact hSt)), (by first | exact hHa | (simp (decide := true) only [q2_ne, q2_r1, uI_at, uI_nj, qRow_ne, qRow_at]; exact hHa)), (by first | exact hTo | (simp (decide := true) only [q2_ne, q2_r1, uI_at, uI_nj, qRow_ne, qRow_at]; exact hTo)), (by first | exact hTp | (simp (decide := true) only [q2_ne, q2_r1, uI_at, uI_nj, qRow_ne, qRow_at]; exact hTp)), (by first | exact hEd | (simp (decide := true) only [q2_ne, q2_r1, uI_at, uI_nj, qRow_ne, qRow_at]; exact hEd)), (by first | exact hDa | (simp (decide := true) only [q2_ne, q2_r1, uI_at, uI_nj, qRow_ne, qRow_at]; exact hDa)), (by first | exact hPe | (simp (decide := true) only [q2_ne, q2_r1, uI_at, uI_nj, qRow_ne, qRow_at]; exact hPe)), (by first | exact hTr | (simp (decide := true) only [q2_ne, q2_r1, uI_at, uI_nj, qRow_ne, qRow_at]; exact hTr)), (RTx_of hTx (by simp (decide := true) only [q2_ne, q2_r1, uI_at, uI_nj, qRow_ne, qRow_at]) (by simp (decide := true) only [q2_ne, q2_r1, uI_at, uI_nj, qRow_ne, qRow_at]) (by simp (decide := true) only [q2_ne, q2_r1, uI_at, uI_nj, qRow_ne, qRow_at]) (by simp (decide := true) only [q2_ne, q2_r1, uI_at, uI_nj, qRow_ne, qRow_at]) (by simp (decide := true) only [q2_ne, q2_r1, uI_at, uI_nj, qRow_ne, qRow_at]) (fun k hk => by (try dsimp only); repeat first | rfl | rw [q2_ne (by omega)] | rw [qRow_ne (by omega)]) (fun k hk => by (try dsimp only); repeat first | rfl | rw [q2_ne (by omega)] | rw [qRow_ne (by omega)])), (by first | exact hMk | (simp (decide := true) only [q2_ne, q2_r1, uI_at, uI_nj, qRow_ne, qRow_at]; exact hMk)), (by first | exact hKA | (simp (decide := true) only [q2_ne, q2_r1, uI_at, uI_nj, qRow_ne, qRow_at]; exact hKA))⟩⟩

