theorem op_texts {M : qM} (hI : qInv M) (f : Int32) : qOp 129 195 [.int f] M := by
  obtain ⟨z, N, I, L, R⟩ := M
  obtain ⟨hst, hSt, hHa, hTo, hTp, hEd, hDa, hPe, hTr, hTx, hMk, hKA⟩ := hI
  dsimp only at hst hSt hHa hTo hTp hEd hDa hPe hTr hTx hMk hKA
  have hs : 0 ≤ I 3 2 ∧ I 3 2 ≤ 12 := ⟨hSt.2.1, hSt.2.2.1⟩
  have hs2 : 0 ≤ I 65 0 ∧ I 65 0 ≤ 12 := by rw [hSt.1]; exact hs
  have hn : 0 ≤ I 9 1 ∧ I 9 1 ≤ 200 := ⟨hTp.2.1, hTp.2.2.1⟩
  have hn2 : 0 ≤ I 65 6 ∧ I 65 6 ≤ 200 := by rw [hTp.1]; exact hn
  have hh : 0 ≤ I 6 2 ∧ I 6 2 ≤ 6 := ⟨hHa.2.1, hHa.2.2.1⟩
  have hh2 : 0 ≤ I 65 1 ∧ I 65 1 ≤ 6 := by rw [hHa.1]; exact hh
  have hl3 : ∀ x : Int32, 0 ≤ x → x < I 3 2 → (1 ≤ I 4 x.toNatClampNeg ∧ I 4 x.toNatClampNeg ≤ 4) ∧ 1 ≤ I 5 x.toNatClampNeg ∧ I 5 x.toNatClampNeg ≤ 24 := fun x a b => ⟨⟨(hSt.2.2.2 x a b).2.1, (hSt.2.2.2 x a b).2.2.1⟩, (hSt.2.2.2 x a b).2.2.2.2.1, (hSt.2.2.2 x a b).2.2.2.2.2⟩
  have hl4 : ∀ x : Int32, 0 ≤ x → x < I 65 0 → (1 ≤ I 66 x.toNatClampNeg ∧ I 66 x.toNatClampNeg ≤ 4) ∧ 1 ≤ I 67 x.toNatClampNeg ∧ I 67 x.toNatClampNeg ≤ 24 := fun x a b => by
    rw [hSt.1] at b
    rw [(hSt.2.2.2 x a b).1, (hSt.2.2.2 x a b).2.2.2.1]
    exact hl3 x a b
  have e2 : I 65 2 = I 2 5 := hTx.1
  obtain ⟨hc, hR, hF, hm1, ht1⟩ := rtx_F hTx
  have hc2 : 0 ≤ I 65 2 ∧ I 65 2 ≤ 8 := by rw [e2]; exact hc
  have hm : ∀ f : Int32, 0 ≤ f → f < I 65 2 → 0 ≤ I 76 f.toNatClampNeg ∧ I 76 f.toNatClampNeg ≤ 200 := fun f a b => (hm1 f a (by rw [← e2]; exact b)).2
  have hz : ∀ f i : Int32, 0 ≤ f → f < I 65 2 → 0 ≤ i → i < I 76 f.toNatClampNeg → 0 ≤ I 75 (200 * f + i).toNatClampNeg ∧ I 75 (200 * f + i).toNatClampNeg ≤ 24 := fun f i a b c d => txt_sz (ht1 f i a (by rw [← e2]; exact b) c d)
  have hl5 : ∀ x : Int32, 0 ≤ x → x < I 3 2 → 1 ≤ I 5 x.toNatClampNeg ∧ I 5 x.toNatClampNeg ≤ 24 := fun x a b => (hl3 x a b).2
  refine c_X11_texts hc hR hF fun v hv => ?_
  refine ⟨_, rfl, ⟨rfl, rfl, hst⟩, ?_⟩
  refine c_X12_texts hc2 hm hz fun w hw => ?_
  have e9 : w = v := by
    rw [hv, hw]
    rw [e2]
    by_cases h9 : 0 ≤ f ∧ f < I 2 5
    · rw [if_pos h9, if_pos h9, (hm1 f h9.1 h9.2).1]
    · rw [if_neg h9, if_neg h9]
  subst e9
  exact ⟨rfl, ⟨by first | rfl | (simp (decide := true) only [q2_ne, q2_r1, uI_at, uI_nj, qRow_ne, qRow_at]), rfl⟩, ⟨hst, (by first | exact hSt | (simp (decide := true) only [q2_ne, q2_r1, uI_at, uI_nj, qRow_ne, qRow_at]; exact hSt)), (by first | exact hHa | (simp (decide := true) only [q2_ne, q2_r1, uI_at, uI_nj, qRow_ne, qRow_at]; exact hHa)), (by first | exact hTo | (simp (decide := true) only [q2_ne, q2_r1, uI_at, uI_nj, qRow_ne, qRow_at]; exact hTo)), (by first | exact hTp | (simp (decide := true) only [q2_ne, q2_r1, uI_at, uI_nj, qRow_ne, qRow_at]; exact hTp)), (by first | exact hEd | (simp (decide := true) only [q2_ne, q2_r1, uI_at, uI_nj, qRow_ne, qRow_at]; exact hEd)), (by first | exact hDa | (simp (decide := true) only [q2_ne, q2_r1, uI_at, uI_nj, qRow_ne, qRow_at]; exact hDa)), (by first | exact hPe | (simp (decide := true) only [q2_ne, q2_r1, uI_at, uI_nj, qRow_ne, qRow_at]; exact hPe)), (by first | exact hTr | (simp (decide := true) only [q2_ne, q2_r1, uI_at, uI_nj, qRow_ne, qRow_at]; exact hTr)), (RTx_of hTx (by simp (decide := true) only [q2_ne, q2_r1, uI_at, uI_nj, qRow_ne, qRow_at]) (by simp (decide := true) only [q2_ne, q2_r1, uI_at, uI_nj, qRow_ne, qRow_at]) (by simp (decide := true) only [q2_ne, q2_r1, uI_at, uI_nj, qRow_ne, qRow_at]) (by simp (decide := true) only [q2_ne, q2_r1, uI_at, uI_nj, qRow_ne, qRow_at]) (by simp (decide := true) only [q2_ne, q2_r1, uI_at, uI_nj, qRow_ne, qRow_at]) (fun k hk => by (try dsimp only); repeat first | rfl | rw [q2_ne (by omega)] | rw [qRow_ne (by omega)]) (fun k hk => by (try dsimp only); repeat first | rfl | rw [q2_ne (by omega)] | rw [qRow_ne (by omega)])), (by first | exact hMk | (simp (decide := true) only [q2_ne, q2_r1, uI_at, uI_nj, qRow_ne, qRow_at]; exact hMk)), (by first | exact hKA | (simp (decide := true) only [q2_ne, q2_r1, uI_at, uI_nj, qRow_ne, qRow_at]; exact hKA))⟩⟩
theorem op_text {M : qM} (hI : qInv M) (f : Int32) (i : Int32) (k : Int32) : qOp 130 197 [.int f, .int i, .int k] M := by
  obtain ⟨z, N, I, L, R⟩ := M
  obtain ⟨hst, hSt, hHa, hTo, hTp, hEd, hDa, hPe, hTr, hTx, hMk, hKA⟩ := hI
  dsimp only at hst hSt hHa hTo hTp hEd hDa hPe hTr hTx hMk hKA
  have hs : 0 ≤ I 3 2 ∧ I 3 2 ≤ 12 := ⟨hSt.2.1, hSt.2.2.1⟩
  have hs2 : 0 ≤ I 65 0 ∧ I 65 0 ≤ 12 := by rw [hSt.1]; exact hs
  have hn : 0 ≤ I 9 1 ∧ I 9 1 ≤ 200 := ⟨hTp.2.1, hTp.2.2.1⟩
  have hn2 : 0 ≤ I 65 6 ∧ I 65 6 ≤ 200 := by rw [hTp.1]; exact hn
  have hh : 0 ≤ I 6 2 ∧ I 6 2 ≤ 6 := ⟨hHa.2.1, hHa.2.2.1⟩
  have hh2 : 0 ≤ I 65 1 ∧ I 65 1 ≤ 6 := by rw [hHa.1]; exact hh
  have hl3 : ∀ x : Int32, 0 ≤ x → x < I 3 2 → (1 ≤ I 4 x.toNatClampNeg ∧ I 4 x.toNatClampNeg ≤ 4) ∧ 1 ≤ I 5 x.toNatClampNeg ∧ I 5 x.toNatClampNeg ≤ 24 := fun x a b => ⟨⟨(hSt.2.2.2 x a b).2.1, (hSt.2.2.2 x a b).2.2.1⟩, (hSt.2.2.2 x a b).2.2.2.2.1, (hSt.2.2.2 x a b).2.2.2.2.2⟩
  have hl4 : ∀ x : Int32, 0 ≤ x → x < I 65 0 → (1 ≤ I 66 x.toNatClampNeg ∧ I 66 x.toNatClampNeg ≤ 4) ∧ 1 ≤ I 67 x.toNatClampNeg ∧ I 67 x.toNatClampNeg ≤ 24 := fun x a b => by
    rw [hSt.1] at b
    rw [(hSt.2.2.2 x a b).1, (hSt.2.2.2 x a b).2.2.2.1]
    exact hl3 x a b
  have e2 : I 65 2 = I 2 5 := hTx.1
  obtain ⟨hc, hR, hF, hm1, ht1⟩ := rtx_F hTx
  have hc2 : 0 ≤ I 65 2 ∧ I 65 2 ≤ 8 := by rw [e2]; exact hc
  have hm : ∀ f : Int32, 0 ≤ f → f < I 65 2 → 0 ≤ I 76 f.toNatClampNeg ∧ I 76 f.toNatClampNeg ≤ 200 := fun f a b => (hm1 f a (by rw [← e2]; exact b)).2
  have hz : ∀ f i : Int32, 0 ≤ f → f < I 65 2 → 0 ≤ i → i < I 76 f.toNatClampNeg → 0 ≤ I 75 (200 * f + i).toNatClampNeg ∧ I 75 (200 * f + i).toNatClampNeg ≤ 24 := fun f i a b c d => txt_sz (ht1 f i a (by rw [← e2]; exact b) c d)
  have hl5 : ∀ x : Int32, 0 ≤ x → x < I 3 2 → 1 ≤ I 5 x.toNatClampNeg ∧ I 5 x.toNatClampNeg ≤ 24 := fun x a b => (hl3 x a b).2
  refine c_X11_text hc hR hF fun v hv => ?_
  refine ⟨_, rfl, ⟨rfl, rfl, hst⟩, ?_⟩
  refine c_X12_text hc2 hm hz fun w hw => ?_
  have e9 : w = v := by
    rw [hv, hw]
    rw [e2]
    by_cases h9 : 0 ≤ f ∧ f < I 2 5
    · rw [if_pos h9, if_pos h9]
      by_cases h8 : 0 ≤ i ∧ i < I 76 f.toNatClampNeg
      · rw [sLt_ltR hTx h9 h8]
        unfold ltR
        have hm9 := (hm1 f h9.1 h9.2).2
        have hx := tix (f := f) (i := i) ⟨h9.1, Int32.lt_of_lt_of_le h9.2 hc.2⟩ ⟨h8.1, Int32.lt_of_lt_of_le h8.2 hm9.2⟩
        by_cases h7 : 0 ≤ k ∧ k < (I 75 (200 * f + i).toNatClampNeg)
        · rw [if_pos ⟨h8, h7⟩, if_pos h7, (tix2 hx.1 ⟨h7.1, Int32.lt_of_lt_of_le h7.2 (txt_sz (ht1 f i h9.1 h9.2 h8.1 h8.2)).2⟩).2]
        · rw [if_neg (fun h => h7 h.2), if_neg h7]
      · rw [sLt_out (by rw [← (hm1 f h9.1 h9.2).1]; exact h8), if_neg (fun h => h8 h.1)]
    · rw [if_neg h9, if_neg h9]
  subst e9
  exact ⟨rfl, ⟨by first | rfl | (simp (decide := true) only [q2_ne, q2_r1, uI_at, uI_nj, qRow_ne, qRow_at]), rfl⟩, ⟨hst, (by first | exact hSt | (simp (decide := true) only [q2_ne, q2_r1, uI_at, uI_nj, qRow_ne, qRow_at]; exact hSt)), (by first | exact hHa | (simp (decide := true) only [q2_ne, q2_r1, uI_at, uI_nj, qRow_ne, qRow_at]; exact hHa)), (by first | exact hTo | (simp (decide := true) only [q2_ne, q2_r1, uI_at, uI_nj, qRow_ne, qRow_at]; exact hTo)), (by first | exact hTp | (simp (decide := true) only [q2_ne, q2_r1, uI_at, uI_nj, qRow_ne, qRow_at]; exact hTp)), (by first | exact hEd | (simp (decide := true) only [q2_ne, q2_r1, uI_at, uI_nj, qRow_ne, qRow_at]; exact hEd)), (by first | exact hDa | (simp (decide := true) only [q2_ne, q2_r1, uI_at, uI_nj, qRow_ne, qRow_at]; exact hDa)), (by first | exact hPe | (simp (decide := true) only [q2_ne, q2_r1, uI_at, uI_nj, qRow_ne, qRow_at]; exact hPe)), (by first | exact hTr | (simp (decide := true) only [q2_ne, q2_r1, uI_at, uI_nj, qRow_ne, qRow_at]; exact hTr)), (RTx_of hTx (by simp (decide := true) only [q2_ne, q2_r1, uI_at, uI_nj, qRow_ne, qRow_at]) (by simp (decide := true) only [q2_ne, q2_r1, uI_at, uI_nj, qRow_ne, qRow_at]) (by simp (decide := true) only [q2_ne, q2_r1, uI_at, uI_nj, qRow_ne, qRow_at]) (by simp (decide := true) only [q2_ne, q2_r1, uI_at, uI_nj, qRow_ne, qRow_at]) (by simp (decide := true) only [q2_ne, q2_r1, uI_at, uI_nj, qRow_ne, qRow_at]) (fun k hk => by (try dsimp only); repeat first | rfl | rw [q2_ne (by omega)] | rw [qRow_ne (by omega)]) (fun k hk => by (try dsimp only); repeat first | rfl | rw [q2_ne (by omega)] | rw [qRow_ne (by omega)])), (by first | exact hMk | (simp (decide := true) only [q2_ne, q2_r1, uI_at, uI_nj, qRow_ne, qRow_at]; exact hMk)), (by first | exact hKA | (simp (decide := true) only [q2_ne, q2_r1, uI_at, uI_nj, qRow_ne, qRow_at]; exact hKA))⟩⟩
theorem op_ways {M : qM} (hI : qInv M) (s : Int32) (l : Int32) (f : Int32) : qOp 131 201 [.int s, .int l, .int f] M := by
  obtain ⟨z, N, I, L, R⟩ := M
  obtain ⟨hst, hSt, hHa, hTo, hTp, hEd, hDa, hPe, hTr, hTx, hMk, hKA⟩ := hI
  dsimp only at hst hSt hHa hTo hTp hEd hDa hPe hTr hTx hMk hKA
  have hs : 0 ≤ I 3 2 ∧ I 3 2 ≤ 12 := ⟨hSt.2.1, hSt.2.2.1⟩
  have hs2 : 0 ≤ I 65 0 ∧ I 65 0 ≤ 12 := by rw [hSt.1]; exact hs
  have hn : 0 ≤ I 9 1 ∧ I 9 1 ≤ 200 := ⟨hTp.2.1, hTp.2.2.1⟩
  have hn2 : 0 ≤ I 65 6 ∧ I 65 6 ≤ 200 := by rw [hTp.1]; exact hn
  have hh : 0 ≤ I 6 2 ∧ I 6 2 ≤ 6 := ⟨hHa.2.1, hHa.2.2.1⟩
  have hh2 : 0 ≤ I 65 1 ∧ I 65 1 ≤ 6 := by rw [hHa.1]; exact hh
  have hl3 : ∀ x : Int32, 0 ≤ x → x < I 3 2 → (1 ≤ I 4 x.toNatClampNeg ∧ I 4 x.toNatClampNeg ≤ 4) ∧ 1 ≤ I 5 x.toNatClampNeg ∧ I 5 x.toNatClampNeg ≤ 24 := fun x a b => ⟨⟨(hSt.2.2.2 x a b).2.1, (hSt.2.2.2 x a b).2.2.1⟩, (hSt.2.2.2 x a b).2.2.2.2.1, (hSt.2.2.2 x a b).2.2.2.2.2⟩
  have hl4 : ∀ x : Int32, 0 ≤ x → x < I 65 0 → (1 ≤ I 66 x.toNatClampNeg ∧ I 66 x.toNatClampNeg ≤ 4) ∧ 1 ≤ I 67 x.toNatClampNeg ∧ I 67 x.toNatClampNeg ≤ 24 := fun x a b => by
    rw [hSt.1] at b
    rw [(hSt.2.2.2 x a b).1, (hSt.2.2.2 x a b).2.2.2.1]
    exact hl3 x a b
  have e2 : I 65 2 = I 2 5 := hTx.1
  obtain ⟨hc, hR, hF, hm1, ht1⟩ := rtx_F hTx
  have hc2 : 0 ≤ I 65 2 ∧ I 65 2 ≤ 8 := by rw [e2]; exact hc
  have hm : ∀ f : Int32, 0 ≤ f → f < I 65 2 → 0 ≤ I 76 f.toNatClampNeg ∧ I 76 f.toNatClampNeg ≤ 200 := fun f a b => (hm1 f a (by rw [← e2]; exact b)).2
  have hz : ∀ f i : Int32, 0 ≤ f → f < I 65 2 → 0 ≤ i → i < I 76 f.toNatClampNeg → 0 ≤ I 75 (200 * f + i).toNatClampNeg ∧ I 75 (200 * f + i).toNatClampNeg ≤ 24 := fun f i a b c d => txt_sz (ht1 f i a (by rw [← e2]; exact b) c d)
  have hl5 : ∀ x : Int32, 0 ≤ x → x < I 3 2 → 1 ≤ I 5 x.toNatClampNeg ∧ I 5 x.toNatClampNeg ≤ 24 := fun x a b => (hl3 x a b).2
  have hGL := line_eq hSt (s := s) (k := l)
  have hGR : ((0 ≤ f ∧ f < I 65 2) ∧ (0 ≤ s ∧ s < I 65 0) ∧ 0 ≤ l ∧ l < I 66 s.toNatClampNeg) ↔ ((0 ≤ f ∧ f < I 2 5) ∧ (0 ≤ s ∧ s < I 3 2) ∧ 0 ≤ l ∧ l < I 4 s.toNatClampNeg) := by
    rw [e2]
    constructor
    · rintro ⟨p1, p2, p3⟩; exact ⟨p1, (hGL.mp ⟨p2, p3⟩).1, (hGL.mp ⟨p2, p3⟩).2⟩
    · rintro ⟨p1, p2, p3⟩; exact ⟨p1, (hGL.mpr ⟨p2, p3⟩).1, (hGL.mpr ⟨p2, p3⟩).2⟩
  refine c_X11_ways hs hh hl5 hc hR hF (fun a0 => ?_) (fun a0 e he => ?_)
  · refine ⟨_, rfl, ⟨rfl, rfl, hst⟩, ?_⟩
    refine c_X12_ways (by first | exact hs2 | (simp (decide := true) only [q2_ne, q2_r1, uI_at, uI_nj, qRow_ne, qRow_at]; exact hs2)) (by first | exact hHa | (simp (decide := true) only [q2_ne, q2_r1, uI_at, uI_nj, qRow_ne, qRow_at]; exact hHa)) (by first | exact hTo | (simp (decide := true) only [q2_ne, q2_r1, uI_at, uI_nj, qRow_ne, qRow_at]; exact hTo)) (by first | exact hl4 | (simp (decide := true) only [q2_ne, q2_r1, uI_at, uI_nj, qRow_ne, qRow_at]; exact hl4)) (by first | exact hc2 | (simp (decide := true) only [q2_ne, q2_r1, uI_at, uI_nj, qRow_ne, qRow_at]; exact hc2)) (by first | exact hm | (simp (decide := true) only [q2_ne, q2_r1, uI_at, uI_nj, qRow_ne, qRow_at]; exact hm)) (by first | exact hz | (simp (decide := true) only [q2_ne, q2_r1, uI_at, uI_nj, qRow_ne, qRow_at]; exact hz)) fun w hw => ?_
    have e9 : w = -2 := hw.trans (if_neg (fun h => a0 (hGR.mp h)))
    subst e9
    exact ⟨rfl, ⟨by first | rfl | (simp (decide := true) only [q2_ne, q2_r1, uI_at, uI_nj, qRow_ne, qRow_at]), rfl⟩, ⟨hst, (by first | exact hSt | (simp (decide := true) only [q2_ne, q2_r1, uI_at, uI_nj, qRow_ne, qRow_at]; exact hSt)), (by first | exact hHa | (simp (decide := true) only [q2_ne, q2_r1, uI_at, uI_nj, qRow_ne, qRow_at]; exact hHa)), (by first | exact hTo | (simp (decide := true) only [q2_ne, q2_r1, uI_at, uI_nj, qRow_ne, qRow_at]; exact hTo)), (by first | exact hTp | (simp (decide := true) only [q2_ne, q2_r1, uI_at, uI_nj, qRow_ne, qRow_at]; exact hTp)), (by first | exact hEd | (simp (decide := true) only [q2_ne, q2_r1, uI_at, uI_nj, qRow_ne, qRow_at]; exact hEd)), (by first | exact hDa | (simp (decide := true) only [q2_ne, q2_r1, uI_at, uI_nj, qRow_ne, qRow_at]; exact hDa)), (by first | exact hPe | (simp (decide := true) only [q2_ne, q2_r1, uI_at, uI_nj, qRow_ne, qRow_at]; exact hPe)), (by first | exact hTr | (simp (decide := true) only [q2_ne, q2_r1, uI_at, uI_nj, qRow_ne, qRow_at]; exact hTr)), (RTx_of hTx (by simp (decide := true) only [q2_ne, q2_r1, uI_at, uI_nj, qRow_ne, qRow_at]) (by simp (decide := true) only [q2_ne, q2_r1, uI_at, uI_nj, qRow_ne, qRow_at]) (by simp (decide := true) only [q2_ne, q2_r1, uI_at, uI_nj, qRow_ne, qRow_at]) (by simp (decide := true) only [q2_ne, q2_r1, uI_at, uI_nj, qRow_ne, qRow_at]) (by simp (decide := true) only [q2_ne, q2_r1, uI_at, uI_nj, qRow_ne, qRow_at]) (fun k hk => by (try dsimp only); repeat first | rfl | rw [q2_ne (by omega)] | rw [qRow_ne (by omega)]) (fun k hk => by (try dsimp only); repeat first | rfl | rw [q2_ne (by omega)] | rw [qRow_ne (by omega)])), (by first | exact hMk | (simp (decide := true) only [q2_ne, q2_r1, uI_at, uI_nj, qRow_ne, qRow_at]; exact hMk)), (by first | exact hKA | (simp (decide := true) only [q2_ne, q2_r1, uI_at, uI_nj, qRow_ne, qRow_at]; exact hKA))⟩⟩
  · refine ⟨_, rfl, ⟨by simp (decide := true) only [q2_ne, q2_r1, uI_at, uI_nj, qRow_ne, qRow_at], rfl, hst⟩, ?_⟩
    refine c_X12_ways (by first | exact hs2 | (simp (decide := true) only [q2_ne, q2_r1, uI_at, uI_nj, qRow_ne, qRow_at]; exact hs2)) (by first | exact hHa | (simp (decide := true) only [q2_ne, q2_r1, uI_at, uI_nj, qRow_ne, qRow_at]; exact hHa)) (by first | exact hTo | (simp (decide := true) only [q2_ne, q2_r1, uI_at, uI_nj, qRow_ne, qRow_at]; exact hTo)) (by first | exact hl4 | (simp (decide := true) only [q2_ne, q2_r1, uI_at, uI_nj, qRow_ne, qRow_at]; exact hl4)) (by first | exact hc2 | (simp (decide := true) only [q2_ne, q2_r1, uI_at, uI_nj, qRow_ne, qRow_at]; exact hc2)) (by first | exact hm | (simp (decide := true) only [q2_ne, q2_r1, uI_at, uI_nj, qRow_ne, qRow_at]; exact hm)) (by first | exact hz | (simp (decide := true) only [q2_ne, q2_r1, uI_at, uI_nj, qRow_ne, qRow_at]; exact hz)) fun w hw => ?_
    (try simp (decide := true) only [q2_ne, q2_r1, uI_at, uI_nj, qRow_ne, qRow_at] at hw)
    rw [if_pos (hGR.mpr a0)] at hw
    have e67 := (hSt.2.2.2 s a0.2.1.1 a0.2.1.2).2.2.2.1
    have hw9 := hl5 s a0.2.1.1 a0.2.1.2
    have hmm := hm1 f a0.1.1 a0.1.2
    have hgo : ∀ i : Int32, 0 ≤ i → i < I 76 f.toNatClampNeg → fWy (sLt (I (96 + 2 * f.toNatClampNeg) 1) (L (96 + 2 * f.toNatClampNeg + 1))) e (I 5 s.toNatClampNeg) i = fGo (fun p => fMy (tLd (I 8) (I 7) (I 6 2) s l p)) (laR (I 75) (I 74) (200 * f + i)) (I 75 (200 * f + i).toNatClampNeg) (I 67 s.toNatClampNeg) := fun i i0 i1 => by
      rw [e67]
      exact go_rel hTx a0.1 ⟨i0, i1⟩ hw9 he
    have e9 : w = upF (I (96 + 2 * f.toNatClampNeg) 1) (gCw (sLt (I (96 + 2 * f.toNatClampNeg) 1) (L (96 + 2 * f.toNatClampNeg + 1))) e (I 5 s.toNatClampNeg)) 0 0 := by
      have h8 := cw_eq hmm.2.1 hgo
      rw [hmm.1] at h8
      rw [hw, hmm.1]
      exact h8
    subst e9
    exact ⟨by simp (decide := true) only [q2_ne, q2_r1, uI_at, uI_nj, qRow_ne, qRow_at], ⟨by first | rfl | (simp (decide := true) only [q2_ne, q2_r1, uI_at, uI_nj, qRow_ne, qRow_at]), rfl⟩, ⟨hst, (by first | exact hSt | (simp (decide := true) only [q2_ne, q2_r1, uI_at, uI_nj, qRow_ne, qRow_at]; exact hSt)), (by first | exact hHa | (simp (decide := true) only [q2_ne, q2_r1, uI_at, uI_nj, qRow_ne, qRow_at]; exact hHa)), (by first | exact hTo | (simp (decide := true) only [q2_ne, q2_r1, uI_at, uI_nj, qRow_ne, qRow_at]; exact hTo)), (by first | exact hTp | (simp (decide := true) only [q2_ne, q2_r1, uI_at, uI_nj, qRow_ne, qRow_at]; exact hTp)), (by first | exact hEd | (simp (decide := true) only [q2_ne, q2_r1, uI_at, uI_nj, qRow_ne, qRow_at]; exact hEd)), (by first | exact hDa | (simp (decide := true) only [q2_ne, q2_r1, uI_at, uI_nj, qRow_ne, qRow_at]; exact hDa)), (by first | exact hPe | (simp (decide := true) only [q2_ne, q2_r1, uI_at, uI_nj, qRow_ne, qRow_at]; exact hPe)), (by first | exact hTr | (simp (decide := true) only [q2_ne, q2_r1, uI_at, uI_nj, qRow_ne, qRow_at]; exact hTr)), (RTx_of hTx (by simp (decide := true) only [q2_ne, q2_r1, uI_at, uI_nj, qRow_ne, qRow_at]) (by simp (decide := true) only [q2_ne, q2_r1, uI_at, uI_nj, qRow_ne, qRow_at]) (by simp (decide := true) only [q2_ne, q2_r1, uI_at, uI_nj, qRow_ne, qRow_at]) (by simp (decide := true) only [q2_ne, q2_r1, uI_at, uI_nj, qRow_ne, qRow_at]) (by simp (decide := true) only [q2_ne, q2_r1, uI_at, uI_nj, qRow_ne, qRow_at]) (fun k hk => by (try dsimp only); repeat first | rfl | rw [q2_ne (by omega)] | rw [qRow_ne (by omega)]) (fun k hk => by (try dsimp only); repeat first | rfl | rw [q2_ne (by omega)] | rw [qRow_ne (by omega)])), (by first | exact hMk | (simp (decide := true) only [q2_ne, q2_r1, uI_at, uI_nj, qRow_ne, qRow_at]; exact hMk)), (by first | exact hKA | (simp (decide := true) only [q2_ne, q2_r1, uI_at, uI_nj, qRow_ne, qRow_at]; exact hKA))⟩⟩
theorem op_way {M : qM} (hI : qInv M) (s : Int32) (l : Int32) (f : Int32) (i : Int32) : qOp 132 202 [.int s, .int l, .int f, .int i] M := by
  obtain ⟨z, N, I, L, R⟩ := M
  obtain ⟨hst, hSt, hHa, hTo, hTp, hEd, hDa, hPe, hTr, hTx, hMk, hKA⟩ := hI
  dsimp only at hst hSt hHa hTo hTp hEd hDa hPe hTr hTx hMk hKA
  have hs : 0 ≤ I 3 2 ∧ I 3 2 ≤ 12 := ⟨hSt.2.1, hSt.2.2.1⟩
  have hs2 : 0 ≤ I 65 0 ∧ I 65 0 ≤ 12 := by rw [hSt.1]; exact hs
  have hn : 0 ≤ I 9 1 ∧ I 9 1 ≤ 200 := ⟨hTp.2.1, hTp.2.2.1⟩
  have hn2 : 0 ≤ I 65 6 ∧ I 65 6 ≤ 200 := by rw [hTp.1]; exact hn
  have hh : 0 ≤ I 6 2 ∧ I 6 2 ≤ 6 := ⟨hHa.2.1, hHa.2.2.1⟩
  have hh2 : 0 ≤ I 65 1 ∧ I 65 1 ≤ 6 := by rw [hHa.1]; exact hh
  have hl3 : ∀ x : Int32, 0 ≤ x → x < I 3 2 → (1 ≤ I 4 x.toNatClampNeg ∧ I 4 x.toNatClampNeg ≤ 4) ∧ 1 ≤ I 5 x.toNatClampNeg ∧ I 5 x.toNatClampNeg ≤ 24 := fun x a b => ⟨⟨(hSt.2.2.2 x a b).2.1, (hSt.2.2.2 x a b).2.2.1⟩, (hSt.2.2.2 x a b).2.2.2.2.1, (hSt.2.2.2 x a b).2.2.2.2.2⟩
  have hl4 : ∀ x : Int32, 0 ≤ x → x < I 65 0 → (1 ≤ I 66 x.toNatClampNeg ∧ I 66 x.toNatClampNeg ≤ 4) ∧ 1 ≤ I 67 x.toNatClampNeg ∧ I 67 x.toNatClampNeg ≤ 24 := fun x a b => by
    rw [hSt.1] at b
    rw [(hSt.2.2.2 x a b).1, (hSt.2.2.2 x a b).2.2.2.1]
    exact hl3 x a b
  have e2 : I 65 2 = I 2 5 := hTx.1
  obtain ⟨hc, hR, hF, hm1, ht1⟩ := rtx_F hTx
  have hc2 : 0 ≤ I 65 2 ∧ I 65 2 ≤ 8 := by rw [e2]; exact hc
  have hm : ∀ f : Int32, 0 ≤ f → f < I 65 2 → 0 ≤ I 76 f.toNatClampNeg ∧ I 76 f.toNatClampNeg ≤ 200 := fun f a b => (hm1 f a (by rw [← e2]; exact b)).2
  have hz : ∀ f i : Int32, 0 ≤ f → f < I 65 2 → 0 ≤ i → i < I 76 f.toNatClampNeg → 0 ≤ I 75 (200 * f + i).toNatClampNeg ∧ I 75 (200 * f + i).toNatClampNeg ≤ 24 := fun f i a b c d => txt_sz (ht1 f i a (by rw [← e2]; exact b) c d)
  have hl5 : ∀ x : Int32, 0 ≤ x → x < I 3 2 → 1 ≤ I 5 x.toNatClampNeg ∧ I 5 x.toNatClampNeg ≤ 24 := fun x a b => (hl3 x a b).2
  have hGL := line_eq hSt (s := s) (k := l)
  have hGR : ((0 ≤ f ∧ f < I 65 2) ∧ (0 ≤ s ∧ s < I 65 0) ∧ 0 ≤ l ∧ l < I 66 s.toNatClampNeg) ↔ ((0 ≤ f ∧ f < I 2 5) ∧ (0 ≤ s ∧ s < I 3 2) ∧ 0 ≤ l ∧ l < I 4 s.toNatClampNeg) := by
    rw [e2]
    constructor
    · rintro ⟨p1, p2, p3⟩; exact ⟨p1, (hGL.mp ⟨p2, p3⟩).1, (hGL.mp ⟨p2, p3⟩).2⟩
    · rintro ⟨p1, p2, p3⟩; exact ⟨p1, (hGL.mpr ⟨p2, p3⟩).1, (hGL.mpr ⟨p2, p3⟩).2⟩
  refine c_X11_way hs hh hl5 hc hR hF (fun a0 => ?_) (fun a0 e he => ?_)
  · refine ⟨_, rfl, ⟨rfl, rfl, hst⟩, ?_⟩
    refine c_X12_way (by first | exact hs2 | (simp (decide := true) only [q2_ne, q2_r1, uI_at, uI_nj, qRow_ne, qRow_at]; exact hs2)) (by first | exact hHa | (simp (decide := true) only [q2_ne, q2_r1, uI_at, uI_nj, qRow_ne, qRow_at]; exact hHa)) (by first | exact hTo | (simp (decide := true) only [q2_ne, q2_r1, uI_at, uI_nj, qRow_ne, qRow_at]; exact hTo)) (by first | exact hl4 | (simp (decide := true) only [q2_ne, q2_r1, uI_at, uI_nj, qRow_ne, qRow_at]; exact hl4)) (by first | exact hc2 | (simp (decide := true) only [q2_ne, q2_r1, uI_at, uI_nj, qRow_ne, qRow_at]; exact hc2)) (by first | exact hm | (simp (decide := true) only [q2_ne, q2_r1, uI_at, uI_nj, qRow_ne, qRow_at]; exact hm)) (by first | exact hz | (simp (decide := true) only [q2_ne, q2_r1, uI_at, uI_nj, qRow_ne, qRow_at]; exact hz)) (fun b0 => ?_) (fun b0 => ?_)
    · exact ⟨rfl, ⟨by first | rfl | (simp (decide := true) only [q2_ne, q2_r1, uI_at, uI_nj, qRow_ne, qRow_at]), rfl⟩, ⟨hst, (by first | exact hSt | (simp (decide := true) only [q2_ne, q2_r1, uI_at, uI_nj, qRow_ne, qRow_at]; exact hSt)), (by first | exact hHa | (simp (decide := true) only [q2_ne, q2_r1, uI_at, uI_nj, qRow_ne, qRow_at]; exact hHa)), (by first | exact hTo | (simp (decide := true) only [q2_ne, q2_r1, uI_at, uI_nj, qRow_ne, qRow_at]; exact hTo)), (by first | exact hTp | (simp (decide := true) only [q2_ne, q2_r1, uI_at, uI_nj, qRow_ne, qRow_at]; exact hTp)), (by first | exact hEd | (simp (decide := true) only [q2_ne, q2_r1, uI_at, uI_nj, qRow_ne, qRow_at]; exact hEd)), (by first | exact hDa | (simp (decide := true) only [q2_ne, q2_r1, uI_at, uI_nj, qRow_ne, qRow_at]; exact hDa)), (by first | exact hPe | (simp (decide := true) only [q2_ne, q2_r1, uI_at, uI_nj, qRow_ne, qRow_at]; exact hPe)), (by first | exact hTr | (simp (decide := true) only [q2_ne, q2_r1, uI_at, uI_nj, qRow_ne, qRow_at]; exact hTr)), (RTx_of hTx (by simp (decide := true) only [q2_ne, q2_r1, uI_at, uI_nj, qRow_ne, qRow_at]) (by simp (decide := true) only [q2_ne, q2_r1, uI_at, uI_nj, qRow_ne, qRow_at]) (by simp (decide := true) only [q2_ne, q2_r1, uI_at, uI_nj, qRow_ne, qRow_at]) (by simp (decide := true) only [q2_ne, q2_r1, uI_at, uI_nj, qRow_ne, qRow_at]) (by simp (decide := true) only [q2_ne, q2_r1, uI_at, uI_nj, qRow_ne, qRow_at]) (fun k hk => by (try dsimp only); repeat first | rfl | rw [q2_ne (by omega)] | rw [qRow_ne (by omega)]) (fun k hk => by (try dsimp only); repeat first | rfl | rw [q2_ne (by omega)] | rw [qRow_ne (by omega)])), (by first | exact hMk | (simp (decide := true) only [q2_ne, q2_r1, uI_at, uI_nj, qRow_ne, qRow_at]; exact hMk)), (by first | exact hKA | (simp (decide := true) only [q2_ne, q2_r1, uI_at, uI_nj, qRow_ne, qRow_at]; exact hKA))⟩⟩
    · exact absurd (hGR.mp b0) a0
  · refine ⟨_, rfl, ⟨by simp (decide := true) only [q2_ne, q2_r1, uI_at, uI_nj, qRow_ne, qRow_at], rfl, hst⟩, ?_⟩
    refine c_X12_way (by first | exact hs2 | (simp (decide := true) only [q2_ne, q2_r1, uI_at, uI_nj, qRow_ne, qRow_at]; exact hs2)) (by first | exact hHa | (simp (decide := true) only [q2_ne, q2_r1, uI_at, uI_nj, qRow_ne, qRow_at]; exact hHa)) (by first | exact hTo | (simp (decide := true) only [q2_ne, q2_r1, uI_at, uI_nj, qRow_ne, qRow_at]; exact hTo)) (by first | exact hl4 | (simp (decide := true) only [q2_ne, q2_r1, uI_at, uI_nj, qRow_ne, qRow_at]; exact hl4)) (by first | exact hc2 | (simp (decide := true) only [q2_ne, q2_r1, uI_at, uI_nj, qRow_ne, qRow_at]; exact hc2)) (by first | exact hm | (simp (decide := true) only [q2_ne, q2_r1, uI_at, uI_nj, qRow_ne, qRow_at]; exact hm)) (by first | exact hz | (simp (decide := true) only [q2_ne, q2_r1, uI_at, uI_nj, qRow_ne, qRow_at]; exact hz)) (fun b0 => ?_) (fun b0 => ?_)
    · (try simp (decide := true) only [q2_ne, q2_r1, uI_at, uI_nj, qRow_ne, qRow_at] at b0)
      exact absurd (hGR.mpr a0) b0
    · skip
      have e67 := (hSt.2.2.2 s a0.2.1.1 a0.2.1.2).2.2.2.1
      have hw9 := hl5 s a0.2.1.1 a0.2.1.2
      have hmm := hm1 f a0.1.1 a0.1.2
      have hgo : ∀ i : Int32, 0 ≤ i → i < I 76 f.toNatClampNeg → fWy (sLt (I (96 + 2 * f.toNatClampNeg) 1) (L (96 + 2 * f.toNatClampNeg + 1))) e (I 5 s.toNatClampNeg) i = fGo (fun p => fMy (tLd (I 8) (I 7) (I 6 2) s l p)) (laR (I 75) (I 74) (200 * f + i)) (I 75 (200 * f + i).toNatClampNeg) (I 67 s.toNatClampNeg) := fun i i0 i1 => by
        rw [e67]
        exact go_rel hTx a0.1 ⟨i0, i1⟩ hw9 he
      have e9 := fw_eq (t := i) hmm.2 hgo
      rw [hmm.1] at e9
      exact ⟨by simp (decide := true) only [q2_ne, q2_r1, uI_at, uI_nj, qRow_ne, qRow_at]; rw [hmm.1, e9], ⟨by first | rfl | (simp (decide := true) only [q2_ne, q2_r1, uI_at, uI_nj, qRow_ne, qRow_at]), rfl⟩, ⟨hst, (by first | exact hSt | (simp (decide := true) only [q2_ne, q2_r1, uI_at, uI_nj, qRow_ne, qRow_at]; exact hSt)), (by first | exact hHa | (simp (decide := true) only [q2_ne, q2_r1, uI_at, uI_nj, qRow_ne, qRow_at]; exact hHa)), (by first | exact hTo | (simp (decide := true) only [q2_ne, q2_r1, uI_at, uI_nj, qRow_ne, qRow_at]; exact hTo)), (by first | exact hTp | (simp (decide := true) only [q2_ne, q2_r1, uI_at, uI_nj, qRow_ne, qRow_at]; exact hTp)), (by first | exact hEd | (simp (decide := true) only [q2_ne, q2_r1, uI_at, uI_nj, qRow_ne, qRow_at]; exact hEd)), (by first | exact hDa | (simp (decide := true) only [q2_ne, q2_r1, uI_at, uI_nj, qRow_ne, qRow_at]; exact hDa)), (by first | exact hPe | (simp (decide := true) only [q2_ne, q2_r1, uI_at, uI_nj, qRow_ne, qRow_at]; exact hPe)), (by first | exact hTr | (simp (decide := true) only [q2_ne, q2_r1, uI_at, uI_nj, qRow_ne, qRow_at]; exact hTr)), (RTx_of hTx (by simp (decide := true) only [q2_ne, q2_r1, uI_at, uI_nj, qRow_ne, qRow_at]) (by simp (decide := true) only [q2_ne, q2_r1, uI_at, uI_nj, qRow_ne, qRow_at]) (by simp (decide := true) only [q2_ne, q2_r1, uI_at, uI_nj, qRow_ne, qRow_at]) (by simp (decide := true) only [q2_ne, q2_r1, uI_at, uI_nj, qRow_ne, qRow_at]) (by simp (decide := true) only [q2_ne, q2_r1, uI_at, uI_nj, qRow_ne, qRow_at]) (fun k hk => by (try dsimp only); repeat first | rfl | rw [q2_ne (by omega)] | rw [qRow_ne (by omega)]) (fun k hk => by (try dsimp only); repeat first | rfl | rw [q2_ne (by omega)] | rw [qRow_ne (by omega)])), (by first | exact hMk | (simp (decide := true) only [q2_ne, q2_r1, uI_at, uI_nj, qRow_ne, qRow_at]; exact hMk)), (by first | exact hKA | (simp (decide := true) only [q2_ne, q2_r1, uI_at, uI_nj, qRow_ne, qRow_at]; exact hKA))⟩⟩
theorem op_carried {M : qM} (hI : qInv M) (s : Int32) (l : Int32) (p : Int32) (f : Int32) : qOp 133 204 [.int s, .int l, .int p, .int f] M := by
  obtain ⟨z, N, I, L, R⟩ := M
  obtain ⟨hst, hSt, hHa, hTo, hTp, hEd, hDa, hPe, hTr, hTx, hMk, hKA⟩ := hI
  dsimp only at hst hSt hHa hTo hTp hEd hDa hPe hTr hTx hMk hKA
  have hs : 0 ≤ I 3 2 ∧ I 3 2 ≤ 12 := ⟨hSt.2.1, hSt.2.2.1⟩
  have hs2 : 0 ≤ I 65 0 ∧ I 65 0 ≤ 12 := by rw [hSt.1]; exact hs
  have hn : 0 ≤ I 9 1 ∧ I 9 1 ≤ 200 := ⟨hTp.2.1, hTp.2.2.1⟩
  have hn2 : 0 ≤ I 65 6 ∧ I 65 6 ≤ 200 := by rw [hTp.1]; exact hn
  have hh : 0 ≤ I 6 2 ∧ I 6 2 ≤ 6 := ⟨hHa.2.1, hHa.2.2.1⟩
  have hh2 : 0 ≤ I 65 1 ∧ I 65 1 ≤ 6 := by rw [hHa.1]; exact hh
  have hl3 : ∀ x : Int32, 0 ≤ x → x < I 3 2 → (1 ≤ I 4 x.toNatClampNeg ∧ I 4 x.toNatClampNeg ≤ 4) ∧ 1 ≤ I 5 x.toNatClampNeg ∧ I 5 x.toNatClampNeg ≤ 24 := fun x a b => ⟨⟨(hSt.2.2.2 x a b).2.1, (hSt.2.2.2 x a b).2.2.1⟩, (hSt.2.2.2 x a b).2.2.2.2.1, (hSt.2.2.2 x a b).2.2.2.2.2⟩
  have hl4 : ∀ x : Int32, 0 ≤ x → x < I 65 0 → (1 ≤ I 66 x.toNatClampNeg ∧ I 66 x.toNatClampNeg ≤ 4) ∧ 1 ≤ I 67 x.toNatClampNeg ∧ I 67 x.toNatClampNeg ≤ 24 := fun x a b => by
    rw [hSt.1] at b
    rw [(hSt.2.2.2 x a b).1, (hSt.2.2.2 x a b).2.2.2.1]
    exact hl3 x a b
  have e2 : I 65 2 = I 2 5 := hTx.1
  obtain ⟨hc, hR, hF, hm1, ht1⟩ := rtx_F hTx
  have hc2 : 0 ≤ I 65 2 ∧ I 65 2 ≤ 8 := by rw [e2]; exact hc
  have hm : ∀ f : Int32, 0 ≤ f → f < I 65 2 → 0 ≤ I 76 f.toNatClampNeg ∧ I 76 f.toNatClampNeg ≤ 200 := fun f a b => (hm1 f a (by rw [← e2]; exact b)).2
  have hz : ∀ f i : Int32, 0 ≤ f → f < I 65 2 → 0 ≤ i → i < I 76 f.toNatClampNeg → 0 ≤ I 75 (200 * f + i).toNatClampNeg ∧ I 75 (200 * f + i).toNatClampNeg ≤ 24 := fun f i a b c d => txt_sz (ht1 f i a (by rw [← e2]; exact b) c d)
  have hl5 : ∀ x : Int32, 0 ≤ x → x < I 3 2 → 1 ≤ I 5 x.toNatClampNeg ∧ I 5 x.toNatClampNeg ≤ 24 := fun x a b => (hl3 x a b).2
  have hGL := line_eq hSt (s := s) (k := l)
  have hGR : ((0 ≤ f ∧ f < I 65 2) ∧ (0 ≤ s ∧ s < I 65 0) ∧ 0 ≤ l ∧ l < I 66 s.toNatClampNeg) ↔ ((0 ≤ f ∧ f < I 2 5) ∧ (0 ≤ s ∧ s < I 3 2) ∧ 0 ≤ l ∧ l < I 4 s.toNatClampNeg) := by
    rw [e2]
    constructor
    · rintro ⟨p1, p2, p3⟩; exact ⟨p1, (hGL.mp ⟨p2, p3⟩).1, (hGL.mp ⟨p2, p3⟩).2⟩
    · rintro ⟨p1, p2, p3⟩; exact ⟨p1, (hGL.mpr ⟨p2, p3⟩).1, (hGL.mpr ⟨p2, p3⟩).2⟩
  have hGP : ((0 ≤ f ∧ f < I 65 2) ∧ ((0 ≤ s ∧ s < I 65 0) ∧ 0 ≤ l ∧ l < I 66 s.toNatClampNeg) ∧ 0 ≤ p ∧ p < I 67 s.toNatClampNeg) ↔ ((0 ≤ f ∧ f < I 2 5) ∧ ((0 ≤ s ∧ s < I 3 2) ∧ 0 ≤ l ∧ l < I 4 s.toNatClampNeg) ∧ 0 ≤ p ∧ p < I 5 s.toNatClampNeg) := by
    rw [e2]
    constructor
    · rintro ⟨p1, p2, p3, p4⟩
      have g := hGL.mp p2
      refine ⟨p1, g, p3, ?_⟩
      rw [← (hSt.2.2.2 s g.1.1 g.1.2).2.2.2.1]; exact p4
    · rintro ⟨p1, g, p3, p4⟩
      refine ⟨p1, hGL.mpr g, p3, ?_⟩
      rw [(hSt.2.2.2 s g.1.1 g.1.2).2.2.2.1]; exact p4
  refine c_X11_carried hs hh hl5 hc hR hF hst (fun a0 => ?_) (fun a0 e he => ?_)
  · refine ⟨_, rfl, ⟨rfl, rfl, hst⟩, ?_⟩
    refine c_X12_carried (by first | exact hs2 | (simp (decide := true) only [q2_ne, q2_r1, uI_at, uI_nj, qRow_ne, qRow_at]; exact hs2)) (by first | exact hHa | (simp (decide := true) only [q2_ne, q2_r1, uI_at, uI_nj, qRow_ne, qRow_at]; exact hHa)) (by first | exact hTo | (simp (decide := true) only [q2_ne, q2_r1, uI_at, uI_nj, qRow_ne, qRow_at]; exact hTo)) (by first | exact hl4 | (simp (decide := true) only [q2_ne, q2_r1, uI_at, uI_nj, qRow_ne, qRow_at]; exact hl4)) (by first | exact hc2 | (simp (decide := true) only [q2_ne, q2_r1, uI_at, uI_nj, qRow_ne, qRow_at]; exact hc2)) (by first | exact hm | (simp (decide := true) only [q2_ne, q2_r1, uI_at, uI_nj, qRow_ne, qRow_at]; exact hm)) (by first | exact hz | (simp (decide := true) only [q2_ne, q2_r1, uI_at, uI_nj, qRow_ne, qRow_at]; exact hz)) fun w hw => ?_
    have e9 : w = -2 := hw.trans (if_neg (fun h => a0 (hGP.mp h)))
    subst e9
    exact ⟨rfl, ⟨by first | rfl | (simp (decide := true) only [q2_ne, q2_r1, uI_at, uI_nj, qRow_ne, qRow_at]), rfl⟩, ⟨hst, (by first | exact hSt | (simp (decide := true) only [q2_ne, q2_r1, uI_at, uI_nj, qRow_ne, qRow_at]; exact hSt)), (by first | exact hHa | (simp (decide := true) only [q2_ne, q2_r1, uI_at, uI_nj, qRow_ne, qRow_at]; exact hHa)), (by first | exact hTo | (simp (decide := true) only [q2_ne, q2_r1, uI_at, uI_nj, qRow_ne, qRow_at]; exact hTo)), (by first | exact hTp | (simp (decide := true) only [q2_ne, q2_r1, uI_at, uI_nj, qRow_ne, qRow_at]; exact hTp)), (by first | exact hEd | (simp (decide := true) only [q2_ne, q2_r1, uI_at, uI_nj, qRow_ne, qRow_at]; exact hEd)), (by first | exact hDa | (simp (decide := true) only [q2_ne, q2_r1, uI_at, uI_nj, qRow_ne, qRow_at]; exact hDa)), (by first | exact hPe | (simp (decide := true) only [q2_ne, q2_r1, uI_at, uI_nj, qRow_ne, qRow_at]; exact hPe)), (by first | exact hTr | (simp (decide := true) only [q2_ne, q2_r1, uI_at, uI_nj, qRow_ne, qRow_at]; exact hTr)), (RTx_of hTx (by simp (decide := true) only [q2_ne, q2_r1, uI_at, uI_nj, qRow_ne, qRow_at]) (by simp (decide := true) only [q2_ne, q2_r1, uI_at, uI_nj, qRow_ne, qRow_at]) (by simp (decide := true) only [q2_ne, q2_r1, uI_at, uI_nj, qRow_ne, qRow_at]) (by simp (decide := true) only [q2_ne, q2_r1, uI_at, uI_nj, qRow_ne, qRow_at]) (by simp (decide := true) only [q2_ne, q2_r1, uI_at, uI_nj, qRow_ne, qRow_at]) (fun k hk => by (try dsimp only); repeat first | rfl | rw [q2_ne (by omega)] | rw [qRow_ne (by omega)]) (fun k hk => by (try dsimp only); repeat first | rfl | rw [q2_ne (by omega)] | rw [qRow_ne (by omega)])), (by first | exact hMk | (simp (decide := true) only [q2_ne, q2_r1, uI_at, uI_nj, qRow_ne, qRow_at]; exact hMk)), (by first | exact hKA | (simp (decide := true) only [q2_ne, q2_r1, uI_at, uI_nj, qRow_ne, qRow_at]; exact hKA))⟩⟩
  · refine ⟨_, rfl, ⟨by simp (decide := true) only [q2_ne, q2_r1, uI_at, uI_nj, qRow_ne, qRow_at], rfl, hst⟩, ?_⟩
    refine c_X12_carried (by first | exact hs2 | (simp (decide := true) only [q2_ne, q2_r1, uI_at, uI_nj, qRow_ne, qRow_at]; exact hs2)) (by first | exact hHa | (simp (decide := true) only [q2_ne, q2_r1, uI_at, uI_nj, qRow_ne, qRow_at]; exact hHa)) (by first | exact hTo | (simp (decide := true) only [q2_ne, q2_r1, uI_at, uI_nj, qRow_ne, qRow_at]; exact hTo)) (by first | exact hl4 | (simp (decide := true) only [q2_ne, q2_r1, uI_at, uI_nj, qRow_ne, qRow_at]; exact hl4)) (by first | exact hc2 | (simp (decide := true) only [q2_ne, q2_r1, uI_at, uI_nj, qRow_ne, qRow_at]; exact hc2)) (by first | exact hm | (simp (decide := true) only [q2_ne, q2_r1, uI_at, uI_nj, qRow_ne, qRow_at]; exact hm)) (by first | exact hz | (simp (decide := true) only [q2_ne, q2_r1, uI_at, uI_nj, qRow_ne, qRow_at]; exact hz)) fun w hw => ?_
    (try simp (decide := true) only [q2_ne, q2_r1, uI_at, uI_nj, qRow_ne, qRow_at] at hw)
    rw [if_pos (hGP.mpr a0)] at hw
    have e67 := (hSt.2.2.2 s a0.2.1.1.1 a0.2.1.1.2).2.2.2.1
    have hw9 := hl5 s a0.2.1.1.1 a0.2.1.1.2
    have hmm := hm1 f a0.1.1 a0.1.2
    have hgo : ∀ i : Int32, 0 ≤ i → i < I 76 f.toNatClampNeg → fWy (sLt (I (96 + 2 * f.toNatClampNeg) 1) (L (96 + 2 * f.toNatClampNeg + 1))) e (I 5 s.toNatClampNeg) i = fGo (fun p => fMy (tLd (I 8) (I 7) (I 6 2) s l p)) (laR (I 75) (I 74) (200 * f + i)) (I 75 (200 * f + i).toNatClampNeg) (I 67 s.toNatClampNeg) := fun i i0 i1 => by
      rw [e67]
      exact go_rel hTx a0.1 ⟨i0, i1⟩ hw9 he
    have hp9 : 0 ≤ p ∧ p < I 5 s.toNatClampNeg := a0.2.2
    have hf2 : 0 ≤ 200 * f ∧ 200 * f ≤ 2000 := by
      have hx := tix (f := f) (i := 0) ⟨a0.1.1, Int32.lt_of_lt_of_le a0.1.2 hc.2⟩ ⟨by decide, by decide⟩
      rw [Int32.add_zero] at hx
      exact ⟨hx.1.1, Int32.le_of_lt (Int32.lt_trans hx.1.2 (by decide))⟩
    have e9 : w = (fCa (sLt (I (96 + 2 * f.toNatClampNeg) 1) (L (96 + 2 * f.toNatClampNeg + 1))) e (I 5 s.toNatClampNeg) (I (96 + 2 * f.toNatClampNeg) 1) (fun i => if i < 24 then -1 else I 42 i)) p.toNatClampNeg := by
      have h8 := ca_rel (p := p) (my := e) (e := fun i => if i < 24 then -1 else I 42 i) (lt := (sLt (I (96 + 2 * f.toNatClampNeg) 1) (L (96 + 2 * f.toNatClampNeg + 1)))) (la := (fun t => laR (I 75) (I 74) t p)) (go := (fun t => fGo (fun p => fMy (tLd (I 8) (I 7) (I 6 2) s l p)) (laR (I 75) (I 74) t) (I 75 (t).toNatClampNeg) (I 67 s.toNatClampNeg))) hf2 hmm.2 ⟨Int32.le_trans (by decide) hw9.1, hw9.2⟩ hp9 hgo (fun i i0 i1 => la_pos hTx a0.1 ⟨i0, i1⟩ ⟨hp9.1, Int32.lt_of_lt_of_le hp9.2 hw9.2⟩) (if_pos (clampN (n := 24) ⟨hp9.1, Int32.lt_of_lt_of_le hp9.2 hw9.2⟩))
      rw [hmm.1] at h8
      rw [hw, hmm.1]
      exact h8.symm
    subst e9
    exact ⟨by simp (decide := true) only [q2_ne, q2_r1, uI_at, uI_nj, qRow_ne, qRow_at], ⟨by first | rfl | (simp (decide := true) only [q2_ne, q2_r1, uI_at, uI_nj, qRow_ne, qRow_at]), rfl⟩, ⟨hst, (by first | exact hSt | (simp (decide := true) only [q2_ne, q2_r1, uI_at, uI_nj, qRow_ne, qRow_at]; exact hSt)), (by first | exact hHa | (simp (decide := true) only [q2_ne, q2_r1, uI_at, uI_nj, qRow_ne, qRow_at]; exact hHa)), (by first | exact hTo | (simp (decide := true) only [q2_ne, q2_r1, uI_at, uI_nj, qRow_ne, qRow_at]; exact hTo)), (by first | exact hTp | (simp (decide := true) only [q2_ne, q2_r1, uI_at, uI_nj, qRow_ne, qRow_at]; exact hTp)), (by first | exact hEd | (simp (decide := true) only [q2_ne, q2_r1, uI_at, uI_nj, qRow_ne, qRow_at]; exact hEd)), (by first | exact hDa | (simp (decide := true) only [q2_ne, q2_r1, uI_at, uI_nj, qRow_ne, qRow_at]; exact hDa)), (by first | exact hPe | (simp (decide := true) only [q2_ne, q2_r1, uI_at, uI_nj, qRow_ne, qRow_at]; exact hPe)), (by first | exact hTr | (simp (decide := true) only [q2_ne, q2_r1, uI_at, uI_nj, qRow_ne, qRow_at]; exact hTr)), (RTx_of hTx (by simp (decide := true) only [q2_ne, q2_r1, uI_at, uI_nj, qRow_ne, qRow_at]) (by simp (decide := true) only [q2_ne, q2_r1, uI_at, uI_nj, qRow_ne, qRow_at]) (by simp (decide := true) only [q2_ne, q2_r1, uI_at, uI_nj, qRow_ne, qRow_at]) (by simp (decide := true) only [q2_ne, q2_r1, uI_at, uI_nj, qRow_ne, qRow_at]) (by simp (decide := true) only [q2_ne, q2_r1, uI_at, uI_nj, qRow_ne, qRow_at]) (fun k hk => by (try dsimp only); repeat first | rfl | rw [q2_ne (by omega)] | rw [qRow_ne (by omega)]) (fun k hk => by (try dsimp only); repeat first | rfl | rw [q2_ne (by omega)] | rw [qRow_ne (by omega)])), (by first | exact hMk | (simp (decide := true) only [q2_ne, q2_r1, uI_at, uI_nj, qRow_ne, qRow_at]; exact hMk)), (by first | exact hKA | (simp (decide := true) only [q2_ne, q2_r1, uI_at, uI_nj, qRow_ne, qRow_at]; exact hKA))⟩⟩
theorem op_fits {M : qM} (hI : qInv M) (s : Int32) (l : Int32) : qOp 134 205 [.int s, .int l] M := by
  obtain ⟨z, N, I, L, R⟩ := M
  obtain ⟨hst, hSt, hHa, hTo, hTp, hEd, hDa, hPe, hTr, hTx, hMk, hKA⟩ := hI
  dsimp only at hst hSt hHa hTo hTp hEd hDa hPe hTr hTx hMk hKA
  have hs : 0 ≤ I 3 2 ∧ I 3 2 ≤ 12 := ⟨hSt.2.1, hSt.2.2.1⟩
  have hs2 : 0 ≤ I 65 0 ∧ I 65 0 ≤ 12 := by rw [hSt.1]; exact hs
  have hn : 0 ≤ I 9 1 ∧ I 9 1 ≤ 200 := ⟨hTp.2.1, hTp.2.2.1⟩
  have hn2 : 0 ≤ I 65 6 ∧ I 65 6 ≤ 200 := by rw [hTp.1]; exact hn
  have hh : 0 ≤ I 6 2 ∧ I 6 2 ≤ 6 := ⟨hHa.2.1, hHa.2.2.1⟩
  have hh2 : 0 ≤ I 65 1 ∧ I 65 1 ≤ 6 := by rw [hHa.1]; exact hh
  have hl3 : ∀ x : Int32, 0 ≤ x → x < I 3 2 → (1 ≤ I 4 x.toNatClampNeg ∧ I 4 x.toNatClampNeg ≤ 4) ∧ 1 ≤ I 5 x.toNatClampNeg ∧ I 5 x.toNatClampNeg ≤ 24 := fun x a b => ⟨⟨(hSt.2.2.2 x a b).2.1, (hSt.2.2.2 x a b).2.2.1⟩, (hSt.2.2.2 x a b).2.2.2.2.1, (hSt.2.2.2 x a b).2.2.2.2.2⟩
  have hl4 : ∀ x : Int32, 0 ≤ x → x < I 65 0 → (1 ≤ I 66 x.toNatClampNeg ∧ I 66 x.toNatClampNeg ≤ 4) ∧ 1 ≤ I 67 x.toNatClampNeg ∧ I 67 x.toNatClampNeg ≤ 24 := fun x a b => by
    rw [hSt.1] at b
    rw [(hSt.2.2.2 x a b).1, (hSt.2.2.2 x a b).2.2.2.1]
    exact hl3 x a b
  have e2 : I 65 2 = I 2 5 := hTx.1
  obtain ⟨hc, hR, hF, hm1, ht1⟩ := rtx_F hTx
  have hc2 : 0 ≤ I 65 2 ∧ I 65 2 ≤ 8 := by rw [e2]; exact hc
  have hm : ∀ f : Int32, 0 ≤ f → f < I 65 2 → 0 ≤ I 76 f.toNatClampNeg ∧ I 76 f.toNatClampNeg ≤ 200 := fun f a b => (hm1 f a (by rw [← e2]; exact b)).2
  have hz : ∀ f i : Int32, 0 ≤ f → f < I 65 2 → 0 ≤ i → i < I 76 f.toNatClampNeg → 0 ≤ I 75 (200 * f + i).toNatClampNeg ∧ I 75 (200 * f + i).toNatClampNeg ≤ 24 := fun f i a b c d => txt_sz (ht1 f i a (by rw [← e2]; exact b) c d)
  have hl5 : ∀ x : Int32, 0 ≤ x → x < I 3 2 → 1 ≤ I 5 x.toNatClampNeg ∧ I 5 x.toNatClampNeg ≤ 24 := fun x a b => (hl3 x a b).2
  have hGL := line_eq hSt (s := s) (k := l)
  refine c_X11_fits hs hh hl5 hc hR hF (fun a0 => ?_) (fun a0 e he => ?_)
  · refine ⟨_, rfl, ⟨rfl, rfl, hst⟩, ?_⟩
    refine c_X12_fits (by first | exact hs2 | (simp (decide := true) only [q2_ne, q2_r1, uI_at, uI_nj, qRow_ne, qRow_at]; exact hs2)) (by first | exact hHa | (simp (decide := true) only [q2_ne, q2_r1, uI_at, uI_nj, qRow_ne, qRow_at]; exact hHa)) (by first | exact hTo | (simp (decide := true) only [q2_ne, q2_r1, uI_at, uI_nj, qRow_ne, qRow_at]; exact hTo)) (by first | exact hl4 | (simp (decide := true) only [q2_ne, q2_r1, uI_at, uI_nj, qRow_ne, qRow_at]; exact hl4)) (by first | exact hc2 | (simp (decide := true) only [q2_ne, q2_r1, uI_at, uI_nj, qRow_ne, qRow_at]; exact hc2)) (by first | exact hm | (simp (decide := true) only [q2_ne, q2_r1, uI_at, uI_nj, qRow_ne, qRow_at]; exact hm)) (by first | exact hz | (simp (decide := true) only [q2_ne, q2_r1, uI_at, uI_nj, qRow_ne, qRow_at]; exact hz)) fun w hw => ?_
    have e9 : w = -2 := hw.trans (if_neg (fun h => a0 (hGL.mp h)))
    subst e9
    exact ⟨rfl, ⟨by first | rfl | (simp (decide := true) only [q2_ne, q2_r1, uI_at, uI_nj, qRow_ne, qRow_at]), rfl⟩, ⟨hst, (by first | exact hSt | (simp (decide := true) only [q2_ne, q2_r1, uI_at, uI_nj, qRow_ne, qRow_at]; exact hSt)), (by first | exact hHa | (simp (decide := true) only [q2_ne, q2_r1, uI_at, uI_nj, qRow_ne, qRow_at]; exact hHa)), (by first | exact hTo | (simp (decide := true) only [q2_ne, q2_r1, uI_at, uI_nj, qRow_ne, qRow_at]; exact hTo)), (by first | exact hTp | (simp (decide := true) only [q2_ne, q2_r1, uI_at, uI_nj, qRow_ne, qRow_at]; exact hTp)), (by first | exact hEd | (simp (decide := true) only [q2_ne, q2_r1, uI_at, uI_nj, qRow_ne, qRow_at]; exact hEd)), (by first | exact hDa | (simp (decide := true) only [q2_ne, q2_r1, uI_at, uI_nj, qRow_ne, qRow_at]; exact hDa)), (by first | exact hPe | (simp (decide := true) only [q2_ne, q2_r1, uI_at, uI_nj, qRow_ne, qRow_at]; exact hPe)), (by first | exact hTr | (simp (decide := true) only [q2_ne, q2_r1, uI_at, uI_nj, qRow_ne, qRow_at]; exact hTr)), (RTx_of hTx (by simp (decide := true) only [q2_ne, q2_r1, uI_at, uI_nj, qRow_ne, qRow_at]) (by simp (decide := true) only [q2_ne, q2_r1, uI_at, uI_nj, qRow_ne, qRow_at]) (by simp (decide := true) only [q2_ne, q2_r1, uI_at, uI_nj, qRow_ne, qRow_at]) (by simp (decide := true) only [q2_ne, q2_r1, uI_at, uI_nj, qRow_ne, qRow_at]) (by simp (decide := true) only [q2_ne, q2_r1, uI_at, uI_nj, qRow_ne, qRow_at]) (fun k hk => by (try dsimp only); repeat first | rfl | rw [q2_ne (by omega)] | rw [qRow_ne (by omega)]) (fun k hk => by (try dsimp only); repeat first | rfl | rw [q2_ne (by omega)] | rw [qRow_ne (by omega)])), (by first | exact hMk | (simp (decide := true) only [q2_ne, q2_r1, uI_at, uI_nj, qRow_ne, qRow_at]; exact hMk)), (by first | exact hKA | (simp (decide := true) only [q2_ne, q2_r1, uI_at, uI_nj, qRow_ne, qRow_at]; exact hKA))⟩⟩
  · refine ⟨_, rfl, ⟨by simp (decide := true) only [q2_ne, q2_r1, uI_at, uI_nj, qRow_ne, qRow_at], rfl, hst⟩, ?_⟩
    refine c_X12_fits (by first | exact hs2 | (simp (decide := true) only [q2_ne, q2_r1, uI_at, uI_nj, qRow_ne, qRow_at]; exact hs2)) (by first | exact hHa | (simp (decide := true) only [q2_ne, q2_r1, uI_at, uI_nj, qRow_ne, qRow_at]; exact hHa)) (by first | exact hTo | (simp (decide := true) only [q2_ne, q2_r1, uI_at, uI_nj, qRow_ne, qRow_at]; exact hTo)) (by first | exact hl4 | (simp (decide := true) only [q2_ne, q2_r1, uI_at, uI_nj, qRow_ne, qRow_at]; exact hl4)) (by first | exact hc2 | (simp (decide := true) only [q2_ne, q2_r1, uI_at, uI_nj, qRow_ne, qRow_at]; exact hc2)) (by first | exact hm | (simp (decide := true) only [q2_ne, q2_r1, uI_at, uI_nj, qRow_ne, qRow_at]; exact hm)) (by first | exact hz | (simp (decide := true) only [q2_ne, q2_r1, uI_at, uI_nj, qRow_ne, qRow_at]; exact hz)) fun w hw => ?_
    (try simp (decide := true) only [q2_ne, q2_r1, uI_at, uI_nj, qRow_ne, qRow_at] at hw)
    rw [if_pos (hGL.mpr a0)] at hw
    have e67 := (hSt.2.2.2 s a0.1.1 a0.1.2).2.2.2.1
    have hw9 := hl5 s a0.1.1 a0.1.2
    have hgo : ∀ f : Int32, 0 ≤ f → f < I 2 5 → ∀ i : Int32, 0 ≤ i → i < I 76 f.toNatClampNeg → fWy (sLt (I (96 + 2 * f.toNatClampNeg) 1) (L (96 + 2 * f.toNatClampNeg + 1))) e (I 5 s.toNatClampNeg) i = fGo (fun p => fMy (tLd (I 8) (I 7) (I 6 2) s l p)) (laR (I 75) (I 74) (200 * f + i)) (I 75 (200 * f + i).toNatClampNeg) (I 67 s.toNatClampNeg) := fun f f0 f1 i i0 i1 => by
      rw [e67]
      exact go_rel hTx ⟨f0, f1⟩ ⟨i0, i1⟩ hw9 he
    have e9 : w = upS (I 2 5) (gFt I L e (I 5 s.toNatClampNeg)) id 0 (-1) := by
      rw [hw, e2]
      symm
      refine upS_rel2 (fun _ (x y : Int32) => x = y) (fun (x y : Int32) => x = y) (fun x y hx => hx) (fun f x y f0 f1 hx => ?_) 0 (-1) (-1) (by decide) hc.1 rfl
      have hmm := hm1 f f0 f1
      have h8 : upS (I (96 + 2 * f.toNatClampNeg) 1) (gFw (sLt (I (96 + 2 * f.toNatClampNeg) 1) (L (96 + 2 * f.toNatClampNeg + 1))) e (I 5 s.toNatClampNeg) 0) (fun _ => -1) 0 0 = -1 ↔ ¬ 0 < upF (I 76 f.toNatClampNeg) (gCr (fun i => fGo (fun p => fMy (tLd (I 8) (I 7) (I 6 2) s l p)) (laR (I 75) (I 74) (200 * f + i)) (I 75 ((200 * f + i)).toNatClampNeg) (I 67 s.toNatClampNeg))) 0 0 := by
        have h := ft_eq hmm.2 (hgo f f0 f1)
        rw [hmm.1] at h ⊢
        exact h
      unfold gFt gFi
      dsimp only
      by_cases h7 : 0 < upF (I 76 f.toNatClampNeg) (gCr (fun i => fGo (fun p => fMy (tLd (I 8) (I 7) (I 6 2) s l p)) (laR (I 75) (I 74) (200 * f + i)) (I 75 ((200 * f + i)).toNatClampNeg) (I 67 s.toNatClampNeg))) 0 0
      · rw [if_neg (fun h6 => (h8.mp h6) h7), if_pos h7]; exact Or.inr ⟨_, _, rfl, rfl, rfl⟩
      · rw [if_pos (h8.mpr h7), if_neg h7]; exact Or.inl ⟨_, _, rfl, rfl, rfl⟩
    subst e9
    exact ⟨by simp (decide := true) only [q2_ne, q2_r1, uI_at, uI_nj, qRow_ne, qRow_at], ⟨by first | rfl | (simp (decide := true) only [q2_ne, q2_r1, uI_at, uI_nj, qRow_ne, qRow_at]), rfl⟩, ⟨hst, (by first | exact hSt | (simp (decide := true) only [q2_ne, q2_r1, uI_at, uI_nj, qRow_ne, qRow_at]; exact hSt)), (by first | exact hHa | (simp (decide := true) only [q2_ne, q2_r1, uI_at, uI_nj, qRow_ne, qRow_at]; exact hHa)), (by first | exact hTo | (simp (decide := true) only [q2_ne, q2_r1, uI_at, uI_nj, qRow_ne, qRow_at]; exact hTo)), (by first | exact hTp | (simp (decide := true) only [q2_ne, q2_r1, uI_at, uI_nj, qRow_ne, qRow_at]; exact hTp)), (by first | exact hEd | (simp (decide := true) only [q2_ne, q2_r1, uI_at, uI_nj, qRow_ne, qRow_at]; exact hEd)), (by first | exact hDa | (simp (decide := true) only [q2_ne, q2_r1, uI_at, uI_nj, qRow_ne, qRow_at]; exact hDa)), (by first | exact hPe | (simp (decide := true) only [q2_ne, q2_r1, uI_at, uI_nj, qRow_ne, qRow_at]; exact hPe)), (by first | exact hTr | (simp (decide := true) only [q2_ne, q2_r1, uI_at, uI_nj, qRow_ne, qRow_at]; exact hTr)), (RTx_of hTx (by simp (decide := true) only [q2_ne, q2_r1, uI_at, uI_nj, qRow_ne, qRow_at]) (by simp (decide := true) only [q2_ne, q2_r1, uI_at, uI_nj, qRow_ne, qRow_at]) (by simp (decide := true) only [q2_ne, q2_r1, uI_at, uI_nj, qRow_ne, qRow_at]) (by simp (decide := true) only [q2_ne, q2_r1, uI_at, uI_nj, qRow_ne, qRow_at]) (by simp (decide := true) only [q2_ne, q2_r1, uI_at, uI_nj, qRow_ne, qRow_at]) (fun k hk => by (try dsimp only); repeat first | rfl | rw [q2_ne (by omega)] | rw [qRow_ne (by omega)]) (fun k hk => by (try dsimp only); repeat first | rfl | rw [q2_ne (by omega)] | rw [qRow_ne (by omega)])), (by first | exact hMk | (simp (decide := true) only [q2_ne, q2_r1, uI_at, uI_nj, qRow_ne, qRow_at]; exact hMk)), (by first | exact hKA | (simp (decide := true) only [q2_ne, q2_r1, uI_at, uI_nj, qRow_ne, qRow_at]; exact hKA))⟩⟩
